/-! the pure side of the calls that throw -/
theorem rA_thrown {α β : pSt} {x : Int32} (h : rA α β) : rA α (up2 β 0 0 x) := h
theorem pl_e {τ : Type} {x : pSt} {f : pSt → τ} : pl x f = f x := rfl
theorem sm_octet {α β : pSt} (hR : rA α β) (a0 a1 : Int32) : (∃ r, f_X9_octet a0 a1 α = some (r, α) ∧ f_X10_octet a0 a1 β = some (r, up2 β 0 0 0)) ∨ (tA_X9_octet a0 a1 α = some ((), α) ∧ ∃ r, f_X10_octet a0 a1 β = some (r, up2 β 0 0 1)) := by
  rcases ix a0 (n := 6) (by decide) with h | ⟨j, hj, rfl⟩
  · obtain ⟨h1, h2⟩ := file_bad (α := α) (β := β) h
    refine Or.inr ⟨?_, 0, ?_⟩
    · unfold tA_X9_octet; rw [h1]; rfl
    · unfold f_X10_octet; rw [h2]; rfl
  · obtain ⟨h1, h2⟩ := file_ok (α := α) (β := β) hj
    obtain ⟨rt, rf, rpp, ruu, ro, rss, rm, rn⟩ := id hR
    obtain ⟨⟨n, g1, g2, g3, g4, g5⟩, f2, f3, f4, f5⟩ := rf j hj
    have hd : decide (j < 6) = true := decide_eq_true hj
    have hpi : pin (nI j) 6 = true := pin_nI hj (by decide)
    have hc : (nI j).toNatClampNeg = j := cl_nI (by omega)
    have hcap : n ≤ pcap (1 + j) := by unfold pcap; rw [if_pos (by omega)]; exact g1
    rcases ix a1 (n := n) (by omega) with h | ⟨i, hi, rfl⟩
    · refine Or.inr ⟨?_, 0, ?_⟩
      · unfold tA_X9_octet; rw [h1, pb_s, pO_1, pg_t hd, has6_bad (by omega) g2 h]; rfl
      · unfold f_X10_octet; rw [h2, pb_s, if_neg (by decide), h2, pb_s, if_neg (by decide), pg_t hpi, hc, g3, in_cnt_bad (by omega) h]; rfl
    · have h3 := has6_ok (α := α) (k := 1 + j) (by omega) g2 hi
      have h4 : f_X10_in (nI i).toInt64 0 (nI n - 1).toInt64 β = some (1, β) := in_cnt_ok (by omega) hi
      have e0 : 64 * nI j + nI i = nI (64 * j + i) := by rw [show (64 : Int32) = nI 64 from rfl, pk_mul, nI_add]
      have hp2 : pin (nI (64 * j + i)) 384 = true := pin_nI (by omega) (by decide)
      have hc2 : (nI (64 * j + i)).toNatClampNeg = 64 * j + i := cl_nI (by omega)
      refine Or.inl ⟨(α (40 + (1 + j)) i).toInt8.toInt32, ?_, ?_⟩
      · unfold f_X9_octet; rw [h1, pb_s, pO_1, pg_t hd, h3, pb_s, if_neg (by decide), at6_ok hcap g2 hi, pb_s]
      · unfold f_X10_octet; rw [h2, pb_s, if_neg (by decide), h2, pb_s, if_neg (by decide), pg_t hpi, hc, g3, h4, pb_s, if_neg (by decide), pl_e, e0, pg_t hp2, hc2, up2_ne (by decide), g4 i hi]
theorem res_bad {x : Int32} {α β : pSt} (h : x < 0 ∨ nI 4 ≤ x) : f_X5_at x α = some (none, α) ∧ f_X10_in x.toInt64 0 3 β = some (0, β) := by
  refine ⟨?_, in_bad (n := 4) (by decide) (by decide) h⟩
  unfold f_X5_at
  by_cases h0 : x < 0
  · rw [if_pos h0]
  · rw [if_neg h0, if_pos (show (4 : Int32) ≤ x from h.resolve_left h0)]
theorem res_ok {j : Nat} {α β : pSt} (h : j < 4) : f_X5_at (nI j) α = some (some (7 + j), α) ∧ f_X10_in (nI j).toInt64 0 3 β = some (1, β) := by
  refine ⟨?_, in_good (n := 4) (by decide) h⟩
  unfold f_X5_at
  have h2 : ¬ (4 : Int32) ≤ nI j := by
    rw [show (4 : Int32) = nI 4 from rfl, le_nI (by omega) (by omega)]; omega
  rw [if_neg (nI_n0 (by omega)), if_neg h2, pg_t (pin_nI h (by decide)), cl_nI (by omega)]
theorem sm_resource {α β : pSt} (hR : rA α β) (a0 a1 : Int32) : (∃ r, f_X9_resource a0 a1 α = some (r, α) ∧ f_X10_resource a0 a1 β = some (r, up2 β 0 0 0)) ∨ (tA_X9_resource a0 a1 α = some ((), α) ∧ ∃ r, f_X10_resource a0 a1 β = some (r, up2 β 0 0 1)) := by
  rcases ix a0 (n := 4) (by decide) with h | ⟨j, hj, rfl⟩
  · obtain ⟨h1, h2⟩ := res_bad (α := α) (β := β) h
    refine Or.inr ⟨?_, 0, ?_⟩
    · unfold tA_X9_resource; rw [h1]; rfl
    · unfold f_X10_resource; rw [h2]; rfl
  · obtain ⟨h1, h2⟩ := res_ok (α := α) (β := β) hj
    obtain ⟨rt, rf, rpp, ruu, ro, rss, rm, rn⟩ := id hR
    obtain ⟨n, g1, g2, g3, g4⟩ := rss j hj
    have hd : decide (7 + j < 11) = true := decide_eq_true (by omega)
    have hpi : pin (nI j) 4 = true := pin_nI hj (by decide)
    have hc : (nI j).toNatClampNeg = j := cl_nI (by omega)
    have hcap : n ≤ pcap (7 + j) := by unfold pcap; rw [if_neg (by omega)]; exact g1
    rcases ix a1 (n := n) (by omega) with h | ⟨i, hi, rfl⟩
    · refine Or.inr ⟨?_, 0, ?_⟩
      · unfold tA_X9_resource; rw [h1, pb_s, pO_1, pg_t hd, has6_bad (by omega) g2 h]; rfl
      · unfold f_X10_resource; rw [h2, pb_s, if_neg (by decide), h2, pb_s, if_neg (by decide), pg_t hpi, hc, g3, in_cnt_bad (by omega) h]; rfl
    · have h3 := has6_ok (α := α) (k := 7 + j) (by omega) g2 hi
      have h4 : f_X10_in (nI i).toInt64 0 (nI n - 1).toInt64 β = some (1, β) := in_cnt_ok (by omega) hi
      have e0 : 100 * nI j + nI i = nI (100 * j + i) := by rw [show (100 : Int32) = nI 100 from rfl, pk_mul, nI_add]
      have hp2 : pin (nI (100 * j + i)) 400 = true := pin_nI (by omega) (by decide)
      have hc2 : (nI (100 * j + i)).toNatClampNeg = 100 * j + i := cl_nI (by omega)
      refine Or.inl ⟨α (40 + (7 + j)) i, ?_, ?_⟩
      · unfold f_X9_resource; rw [h1, pb_s, pO_1, pg_t hd, h3, pb_s, if_neg (by decide), at6_ok hcap g2 hi, pb_s]
      · unfold f_X10_resource; rw [h2, pb_s, if_neg (by decide), h2, pb_s, if_neg (by decide), pg_t hpi, hc, g3, h4, pb_s, if_neg (by decide), pl_e, e0, pg_t hp2, hc2, up2_ne (by decide), g4 i hi]
theorem sm_cell {α β : pSt} (hR : rA α β) (a0 : Int32) : (∃ r, f_X9_cell a0 α = some (r, α) ∧ f_X10_cell a0 β = some (r, up2 β 0 0 0)) ∨ (tA_X9_cell a0 α = some ((), α) ∧ ∃ r, f_X10_cell a0 β = some (r, up2 β 0 0 1)) ∨ (tN_X9_cell a0 α = some ((), α) ∧ ∃ r, f_X10_cell a0 β = some (r, up2 β 0 0 2)) := by
  rcases ix a0 (n := 6) (by decide) with h | ⟨j, hj, rfl⟩
  · have h2 : f_X10_in a0.toInt64 0 5 β = some (0, β) := in_bad (n := 6) (by decide) (by decide) h
    refine Or.inr (Or.inl ⟨?_, 0, ?_⟩)
    · unfold tA_X9_cell
      by_cases h0 : a0 < 0
      · rw [if_pos h0]
      · rw [if_neg h0, if_neg (show ¬ a0 < 6 from nlt_of h0 h)]
    · unfold f_X10_cell; rw [h2, pb_s, if_pos rfl, pl_e, up2_vv, if_neg (by decide)]
  · have h2 : f_X10_in (nI j).toInt64 0 5 β = some (1, β) := in_good (n := 6) (by decide) hj
    obtain ⟨rt, rf, ⟨n, g1, g2, g3, g4⟩, ruu, ro, rss, rm, rn⟩ := id hR
    have hpi : pin (nI j) 6 = true := pin_nI hj (by decide)
    have hc : (nI j).toNatClampNeg = j := cl_nI (by omega)
    have hd : decide (j < 6) = true := decide_eq_true hj
    have l6 : nI j < 6 := by rw [show (6 : Int32) = nI 6 from rfl, lt_nI (by omega) (by omega)]; exact hj
    by_cases hjn : j < n
    · have h1 : f_X4_at (nI j) α = some (some j, α) := by
        unfold f_X4_at
        rw [if_neg (nI_n0 (by omega)), g2, if_neg (by rw [le_nI (by omega) (by omega)]; omega), if_neg (by rw [show (6 : Int32) = nI 6 from rfl, le_nI (by omega) (by omega)]; omega), pg_t hpi, hc]
      obtain ⟨q1, q2, q3, q4⟩ := g4 j hjn
      refine Or.inl ⟨α 6 j, ?_, ?_⟩
      · unfold f_X9_cell; rw [if_neg (nI_n0 (by omega)), if_pos l6, h1, pb_s, pO_1, pg_t hd]
      · unfold f_X10_cell
        rw [h2, pb_s, if_neg (by decide), g3, if_pos (by rw [lt_nI (by omega) (by omega)]; exact hjn), pl_e, up2_vv, if_pos rfl, pg_t hpi, hc, up2_ne (by decide), q3]
    · have h1 : f_X4_at (nI j) α = some (none, α) := by
        unfold f_X4_at
        rw [if_neg (nI_n0 (by omega)), g2, if_pos (by rw [le_nI (by omega) (by omega)]; omega)]
      refine Or.inr (Or.inr ⟨?_, 0, ?_⟩)
      · unfold tN_X9_cell; rw [if_neg (nI_n0 (by omega)), if_pos l6, h1, pb_s]; rfl
      · unfold f_X10_cell
        rw [h2, pb_s, if_neg (by decide), g3, if_neg (by rw [lt_nI (by omega) (by omega)]; exact hjn), pl_e, up2_vv, if_neg (by decide)]
