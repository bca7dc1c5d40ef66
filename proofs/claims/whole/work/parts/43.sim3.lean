/-! readers; clear -/
theorem in_cnt_bad {x : Int32} {n : Nat} {β : pSt} (hn : n ≤ 1000) (h : x < 0 ∨ nI n ≤ x) : f_X10_in x.toInt64 0 (nI n - 1).toInt64 β = some (0, β) := by
  rcases Nat.eq_zero_or_pos n with h0 | h0
  · subst h0
    have e1 : (nI 0 - 1) = (-1 : Int32) := by decide
    rw [e1, qlit0, in_i]
    by_cases hx : x < 0
    · rw [if_pos hx]
    · rw [if_neg hx, if_pos]
      rw [Int32.lt_iff_toInt_lt] at hx ⊢
      have e3 : (-1 : Int32).toInt = -1 := by decide
      have e4 : (0 : Int32).toInt = 0 := by decide
      omega
  · have e1 : nI n - 1 = nI (n - 1) := by
      obtain ⟨k, hk⟩ : ∃ k, n = k + 1 := ⟨n - 1, by omega⟩
      subst hk
      exact nI_pred k
    rw [e1, in_bad (by omega) h0 h]
theorem in_cnt_ok {j n : Nat} {β : pSt} (hn : n ≤ 1000) (h : j < n) : f_X10_in (nI j).toInt64 0 (nI n - 1).toInt64 β = some (1, β) := by
  have e1 : nI n - 1 = nI (n - 1) := by
    obtain ⟨k, hk⟩ : ∃ k, n = k + 1 := ⟨n - 1, by omega⟩
    subst hk
    exact nI_pred k
  rw [e1, in_good (by omega) h]
theorem five {P : Nat → Prop} (h0 : P 0) (h1 : P 1) (h2 : P 2) (h3 : P 3) (h4 : P 4) : ∀ k, k < 5 → P k := by
  intro k hk
  rcases (show k = 0 ∨ k = 1 ∨ k = 2 ∨ k = 3 ∨ k = 4 by omega) with rfl | rfl | rfl | rfl | rfl <;> assumption
theorem four {P : Nat → Prop} (h0 : P 0) (h1 : P 1) (h2 : P 2) (h3 : P 3) : ∀ k, k < 4 → P k := by
  intro k hk
  rcases (show k = 0 ∨ k = 1 ∨ k = 2 ∨ k = 3 by omega) with rfl | rfl | rfl | rfl <;> assumption
theorem out_ne {x : Int32} {n k : Nat} (hn : n ≤ 1000) (hk : k < n) (h : x < 0 ∨ nI n ≤ x) : ¬ x = nI k := by
  rintro rfl
  rcases h with h | h
  · exact nI_n0 (by omega) h
  · rw [le_nI (by omega) (by omega)] at h; omega
theorem nlt_of {x : Int32} {n : Nat} (h0 : ¬ x < 0) (h : x < 0 ∨ nI n ≤ x) : ¬ x < nI n := by
  have h2 := h.resolve_left h0
  rw [Int32.le_iff_toInt_le] at h2
  rw [Int32.lt_iff_toInt_lt]
  omega
theorem sm_mirror {α β : pSt} (hR : rA α β) (a0 a1 : Int32) : pS (f_X9_mirror a0 a1 α) (f_X10_mirror a0 a1 β) := by
  obtain ⟨rt, rf, rpp, ⟨n, hn, ha, hb, hu⟩, ro, rss, rm, rn⟩ := id hR
  rcases ix a0 (n := n) (by omega) with h | ⟨j, hj, rfl⟩
  · obtain ⟨h1, h2⟩ := has_bad (α := α) (β := β) hn ha hb h
    refine pS_same (r := -101) hR ?_ ?_
    · unfold f_X9_mirror; rw [h1]; rfl
    · unfold f_X10_mirror; rw [h2]; rfl
  · obtain ⟨h1, h2⟩ := has_ok (α := α) (β := β) hn ha hb hj
    have hpi : pin (nI j) 40 = true := pin_nI (by omega) (by decide)
    have hc : (nI j).toNatClampNeg = j := cl_nI (by omega)
    obtain ⟨u1, u2, u3, u4, u5⟩ := hu j hj
    rcases ix a1 (n := 5) (by decide) with h | ⟨k, hk, rfl⟩
    · refine pS_same (r := -102) hR ?_ ?_
      · unfold f_X9_mirror
        rw [h1, pb_s, if_neg (by decide)]
        by_cases h0 : a1 < 0
        · rw [if_pos h0]
        · rw [if_neg h0, if_neg (show ¬ a1 < 5 from nlt_of h0 h)]
      · unfold f_X10_mirror
        have o0 : ¬ a1 = 0 := out_ne (k := 0) (n := 5) (by decide) (by decide) h
        have o1 : ¬ a1 = 1 := out_ne (k := 1) (n := 5) (by decide) (by decide) h
        have o2 : ¬ a1 = 2 := out_ne (k := 2) (n := 5) (by decide) (by decide) h
        have o3 : ¬ a1 = 3 := out_ne (k := 3) (n := 5) (by decide) (by decide) h
        have o4 : ¬ a1 = 4 := out_ne (k := 4) (n := 5) (by decide) (by decide) h
        rw [h2, pb_s, if_neg (by decide), if_neg o0, if_neg o1, if_neg o2, if_neg o3, if_neg o4]
    · have hlt : nI j < α 11 0 := by rw [ha, lt_nI (by omega) (by omega)]; exact hj
      refine five (P := fun k => pS (f_X9_mirror (nI j) (nI k) α) (f_X10_mirror (nI j) (nI k) β)) ?_ ?_ ?_ ?_ ?_ k hk
      · refine pS_same (r := α 25 j) hR ?_ ?_
        · unfold f_X9_mirror f_X8_aspect; rw [h1, pb_s, if_neg (by decide), if_neg (by decide), if_pos (by decide), if_neg (nI_n0 (by omega)), if_pos hlt, if_pos (by decide), pg_t hpi, hc]; rfl
        · unfold f_X10_mirror; rw [h2, pb_s, if_neg (by decide), if_pos (by decide), pg_t hpi, hc, u1]
      · refine pS_same (r := α 26 j) hR ?_ ?_
        · unfold f_X9_mirror f_X8_aspect; rw [h1, pb_s, if_neg (by decide), if_neg (by decide), if_pos (by decide), if_neg (nI_n0 (by omega)), if_pos hlt, if_neg (by decide), if_pos (by decide), pg_t hpi, hc]; rfl
        · unfold f_X10_mirror; rw [h2, pb_s, if_neg (by decide), if_neg (by decide), if_pos (by decide), pg_t hpi, hc, u2]
      · refine pS_same (r := if α 27 j = 0 then 0 else 1) hR ?_ ?_
        · unfold f_X9_mirror f_X8_aspect; rw [h1, pb_s, if_neg (by decide), if_neg (by decide), if_pos (by decide), if_neg (nI_n0 (by omega)), if_pos hlt, if_neg (by decide), if_neg (by decide), if_pos (by decide), pg_t hpi, hc, oneIf_eq]; rfl
        · unfold f_X10_mirror; rw [h2, pb_s, if_neg (by decide), if_neg (by decide), if_neg (by decide), if_pos (by decide), pg_t hpi, hc, u3]
          by_cases h0 : β 18 j = 0
          · rw [if_pos h0, if_pos h0]
          · rw [if_neg h0, if_neg h0]
      · refine pS_same (r := α 28 j) hR ?_ ?_
        · unfold f_X9_mirror f_X8_aspect; rw [h1, pb_s, if_neg (by decide), if_neg (by decide), if_pos (by decide), if_neg (nI_n0 (by omega)), if_pos hlt, if_neg (by decide), if_neg (by decide), if_neg (by decide), if_pos (by decide), pg_t hpi, hc]; rfl
        · unfold f_X10_mirror; rw [h2, pb_s, if_neg (by decide), if_neg (by decide), if_neg (by decide), if_neg (by decide), if_pos (by decide), pg_t hpi, hc, u4]
      · refine pS_same (r := α 29 j) hR ?_ ?_
        · unfold f_X9_mirror f_X8_aspect; rw [h1, pb_s, if_neg (by decide), if_neg (by decide), if_pos (by decide), if_neg (nI_n0 (by omega)), if_pos hlt, if_neg (by decide), if_neg (by decide), if_neg (by decide), if_neg (by decide), pg_t hpi, hc]; rfl
        · unfold f_X10_mirror; rw [h2, pb_s, if_neg (by decide), if_neg (by decide), if_neg (by decide), if_neg (by decide), if_neg (by decide), if_pos (by decide), pg_t hpi, hc, u5]
theorem sm_message {α β : pSt} (hR : rA α β) (a0 a1 : Int32) : pS (f_X9_message a0 a1 α) (f_X10_message a0 a1 β) := by
  obtain ⟨rt, rf, rpp, ruu, ro, rss, ⟨n, hn, ha, hb, hm⟩, rn⟩ := id hR
  rcases ix a0 (n := n) (by omega) with h | ⟨j, hj, rfl⟩
  · refine pS_same (r := -101) hR ?_ ?_
    · have h1 : f_X1_has a0 α = some (0, α) := by
        unfold f_X1_has
        by_cases h0 : a0 < 0
        · rw [if_pos h0]
        · rw [if_neg h0, ha, if_pos (h.resolve_left h0)]
      unfold f_X9_message; rw [h1]; rfl
    · unfold f_X10_message; rw [hb, in_cnt_bad (by omega) h]; rfl
  · have h1 : f_X1_has (nI j) α = some (1, α) := by
      unfold f_X1_has
      rw [if_neg (nI_n0 (by omega)), ha, if_neg]
      rw [le_nI (by omega) (by omega)]; omega
    have h2 : f_X10_in (nI j).toInt64 0 (nI n - 1).toInt64 β = some (1, β) := in_cnt_ok (by omega) hj
    rcases ix a1 (n := 5) (by decide) with h | ⟨k, hk, rfl⟩
    · have h3 : f_X10_in a1.toInt64 0 4 β = some (0, β) := in_bad (n := 5) (by decide) (by decide) h
      refine pS_same (r := -102) hR ?_ ?_
      · unfold f_X9_message
        rw [h1, pb_s, if_neg (by decide)]
        by_cases h0 : a1 < 0
        · rw [if_pos h0]
        · rw [if_neg h0, if_neg (show ¬ a1 < 5 from nlt_of h0 h)]
      · unfold f_X10_message; rw [hb, h2, pb_s, if_neg (by decide), h3]; rfl
    · have h3 : f_X10_in (nI k).toInt64 0 4 β = some (1, β) := in_good (n := 5) (by decide) hk
      have h5 : nI k < 5 := by rw [show (5 : Int32) = nI 5 from rfl, lt_nI (by omega) (by omega)]; exact hk
      have e1 : nI j * 5 + nI k = nI (5 * j + k) := by rw [show (5 : Int32) = nI 5 from rfl, pk_mul, nI_add]; congr 1; omega
      have e2 : 5 * nI j + nI k = nI (5 * j + k) := by rw [show (5 : Int32) = nI 5 from rfl, pk_mul, nI_add]
      have hp : pin (nI (5 * j + k)) 600 = true := pin_nI (by omega) (by decide)
      have hc : (nI (5 * j + k)).toNatClampNeg = 5 * j + k := cl_nI (by omega)
      have hle : ¬ α 12 0 ≤ nI j := by rw [ha, le_nI (by omega) (by omega)]; omega
      refine pS_same (r := α 30 (5 * j + k)) hR ?_ ?_
      · unfold f_X9_message f_X1_aspect
        rw [h1, pb_s, if_neg (by decide), if_neg (nI_n0 (by omega)), if_pos h5, if_neg (nI_n0 (by omega)), if_neg hle, if_neg (nI_n0 (by omega)), if_pos h5, e1, pg_t hp, hc]
        rfl
      · unfold f_X10_message
        rw [hb, h2, pb_s, if_neg (by decide), h3, pb_s, if_neg (by decide), e2, pg_t hp, hc, hm _ (by omega)]
theorem at4_bad {x : Int32} {n : Nat} {α : pSt} (hn : n ≤ 6) (ha : α 10 0 = nI n) (h : x < 0 ∨ nI n ≤ x) : f_X4_at x α = some (none, α) := by
  unfold f_X4_at
  by_cases h0 : x < 0
  · rw [if_pos h0]
  · rw [if_neg h0, ha, if_pos (h.resolve_left h0)]
theorem at4_ok {j n : Nat} {α : pSt} (hn : n ≤ 6) (ha : α 10 0 = nI n) (h : j < n) : f_X4_at (nI j) α = some (some j, α) := by
  unfold f_X4_at
  have h6 : ¬ (6 : Int32) ≤ nI j := by rw [show (6 : Int32) = nI 6 from rfl, le_nI (by omega) (by omega)]; omega
  rw [if_neg (nI_n0 (by omega)), if_neg (by rw [ha, le_nI (by omega) (by omega)]; omega), if_neg h6, pg_t (pin_nI (by omega) (by decide)), cl_nI (by omega)]
theorem sm_told {α β : pSt} (hR : rA α β) (a0 a1 : Int32) : pS (f_X9_told a0 a1 α) (f_X10_told a0 a1 β) := by
  obtain ⟨rt, rf, ⟨n, hn, ha, hb, hp⟩, ruu, ro, rss, rm, rn⟩ := id hR
  rcases ix a0 (n := n) (by omega) with h | ⟨j, hj, rfl⟩
  · refine pS_same (r := -101) hR ?_ ?_
    · unfold f_X9_told; rw [at4_bad hn ha h]; rfl
    · unfold f_X10_told; rw [hb, in_cnt_bad (by omega) h]; rfl
  · have h1 := at4_ok (α := α) hn ha hj
    have h2 : f_X10_in (nI j).toInt64 0 (nI n - 1).toInt64 β = some (1, β) := in_cnt_ok (by omega) hj
    have hd : decide (j < 6) = true := decide_eq_true (by omega)
    have hpi : pin (nI j) 6 = true := pin_nI (by omega) (by decide)
    have hc : (nI j).toNatClampNeg = j := cl_nI (by omega)
    obtain ⟨p1, ⟨m, m1, m2, m3, m4, -⟩, p3, p4, p5, p6⟩ := hp j hj
    rcases ix a1 (n := 4) (by decide) with h | ⟨k, hk, rfl⟩
    · refine pS_same (r := -102) hR ?_ ?_
      · unfold f_X9_told
        rw [h1, pb_s, pO_1, pg_t hd]
        by_cases h0 : a1 < 0
        · rw [if_pos h0]
        · rw [if_neg h0, if_neg (show ¬ a1 < 4 from nlt_of h0 h)]
      · unfold f_X10_told
        have o0 : ¬ a1 = 0 := out_ne (k := 0) (n := 4) (by decide) (by decide) h
        have o1 : ¬ a1 = 1 := out_ne (k := 1) (n := 4) (by decide) (by decide) h
        have o2 : ¬ a1 = 2 := out_ne (k := 2) (n := 4) (by decide) (by decide) h
        have o3 : ¬ a1 = 3 := out_ne (k := 3) (n := 4) (by decide) (by decide) h
        rw [hb, h2, pb_s, if_neg (by decide), if_neg o0, if_neg o1, if_neg o2, if_neg o3]
    · refine four (P := fun k => pS (f_X9_told (nI j) (nI k) α) (f_X10_told (nI j) (nI k) β)) ?_ ?_ ?_ ?_ k hk
      · refine pS_same (r := α 4 j) hR ?_ ?_
        · unfold f_X9_told f_X3_aspect; rw [h1, pb_s, pO_1, pg_t hd, if_neg (by decide), if_pos (by decide), if_pos (by decide)]; rfl
        · unfold f_X10_told; rw [hb, h2, pb_s, if_neg (by decide), if_pos (by decide), pg_t hpi, hc, p1]
      · refine pS_same (r := α 5 j) hR ?_ ?_
        · unfold f_X9_told f_X3_aspect; rw [h1, pb_s, pO_1, pg_t hd, if_neg (by decide), if_pos (by decide), if_neg (by decide), if_pos (by decide)]; rfl
        · unfold f_X10_told; rw [hb, h2, pb_s, if_neg (by decide), if_neg (by decide), if_pos (by decide), pg_t hpi, hc, m3, m4]
      · refine pS_same (r := if α 8 j = 0 then 0 else 1) hR ?_ ?_
        · unfold f_X9_told f_X3_aspect; rw [h1, pb_s, pO_1, pg_t hd, if_neg (by decide), if_pos (by decide), if_neg (by decide), if_neg (by decide), if_pos (by decide), oneIf_eq]; rfl
        · unfold f_X10_told; rw [hb, h2, pb_s, if_neg (by decide), if_neg (by decide), if_neg (by decide), if_pos (by decide), pg_t hpi, hc, p4]
          by_cases h0 : β 13 j = 0
          · rw [if_pos h0, if_pos h0]
          · rw [if_neg h0, if_neg h0]
      · refine pS_same (r := α 9 j) hR ?_ ?_
        · unfold f_X9_told f_X3_aspect; rw [h1, pb_s, pO_1, pg_t hd, if_neg (by decide), if_pos (by decide), if_neg (by decide), if_neg (by decide), if_neg (by decide)]; rfl
        · unfold f_X10_told; rw [hb, h2, pb_s, if_neg (by decide), if_neg (by decide), if_neg (by decide), if_neg (by decide), if_pos (by decide), pg_t hpi, hc, p6]
theorem aboutM_L {β : pSt} {n : Nat} {a0 : Int32} (hn : n ≤ 40) (hb : β 15 0 = nI n) : ∀ (f i : Nat), i ≤ n → n < i + f → f_X10_about_L4 a0 f (nI i) (nI (cnt (β 18) i)) β = (if a0 = 0 then (some ((β 15 0), β)) else (if a0 = 1 then (some ((β 7 0), β)) else (if a0 = 2 then (some ((β 26 0), β)) else (if a0 = 3 then (some (nI (cnt (β 18) n), β)) else (if a0 = 4 then (some ((β 28 0), β)) else (if a0 = 5 then (some ((β 30 0), β)) else (if a0 = 6 then (some ((β 31 0), β)) else (pb (f_X10_in ((a0.toInt64)) (10) (13) β) fun r9 β10 => if r9 = 0 then (some (((-102) : Int32), β10)) else (pg (pin (a0 - 10) (4)) (some ((β10 23 ((a0 - 10).toNatClampNeg)), β10))))))))))) := by
  intro f
  induction f with
  | zero => intro i h1 h2; omega
  | succ f ih =>
    intro i h1 h2
    rw [f_X10_about_L4]
    by_cases hi : i = n
    · subst hi
      rw [if_pos (by rw [hb]; exact (le_nI (by omega) (by omega)).mpr (Nat.le_refl _))]
    · rw [if_neg (by rw [hb, le_nI (by omega) (by omega)]; omega), pg_t (pin_nI (by omega) (by decide)), cl_nI (by omega)]
      have hs := cnt_s (β 18) i
      by_cases h0 : β 18 i = 0
      · rw [if_pos h0] at hs
        rw [if_pos h0, nI_1, hs]
        exact ih (i + 1) (by omega) (by omega)
      · rw [if_neg h0] at hs
        rw [if_neg h0, nI_1, hs]
        exact ih (i + 1) (by omega) (by omega)
theorem sub10 {x : Int32} (h : ¬ (x - 10 < 0 ∨ nI 4 ≤ x - 10)) : ∃ r : Nat, r < 4 ∧ x = nI (10 + r) ∧ x - 10 = nI r := by
  rcases ix (x - 10) (n := 4) (by decide) with h1 | ⟨r, hr, e⟩
  · exact absurd h1 h
  · refine ⟨r, hr, ?_, e⟩
    have : x = (x - 10) + 10 := by rw [Int32.sub_add_cancel]
    rw [this, e, show (10 : Int32) = nI 10 from rfl, nI_add, Nat.add_comm]
theorem sm_about {α β : pSt} (hR : rA α β) (a0 : Int32) : pS (f_X9_about a0 α) (f_X10_about a0 β) := by
  obtain ⟨rt, rf, ⟨np, hnp, hpa, hpb, hp⟩, ⟨n, hn, ha, hb, hu⟩, ro, rss, ⟨nm, hnm, hma, hmb, hm⟩, ⟨n1, n2, n3⟩⟩ := id hR
  have hM : f_X10_about a0 β = _ := aboutM_L (a0 := a0) hn hb pF 0 (Nat.zero_le _) (by show n < 0 + 128; omega)
  rw [hM]
  unfold f_X9_about
  have hcc : cnt (α 27) n = cnt (β 18) n := cnt_congr n (fun i hi => (hu i hi).2.2.1)
  by_cases c0 : a0 = 0
  · rw [if_pos c0, if_pos c0, size8, pb_s, ha, hb]; exact ⟨_, _, _, rfl, rfl, hR⟩
  rw [if_neg c0, if_neg c0]
  by_cases c1 : a0 = 1
  · rw [if_pos c1, if_pos c1, size4, pb_s, hpa, hpb]; exact ⟨_, _, _, rfl, rfl, hR⟩
  rw [if_neg c1, if_neg c1]
  by_cases c2 : a0 = 2
  · rw [if_pos c2, if_pos c2, size1, pb_s, hma, hmb]; exact ⟨_, _, _, rfl, rfl, hR⟩
  rw [if_neg c2, if_neg c2]
  by_cases c3 : a0 = 3
  · rw [if_pos c3, if_pos c3, countNew_eq hn ha, pb_s, hcc]; exact ⟨_, _, _, rfl, rfl, hR⟩
  rw [if_neg c3, if_neg c3]
  by_cases c4 : a0 = 4
  · rw [if_pos c4, if_pos c4, n1]; exact ⟨_, _, _, rfl, rfl, hR⟩
  rw [if_neg c4, if_neg c4]
  by_cases c5 : a0 = 5
  · rw [if_pos c5, if_pos c5, n2]; exact ⟨_, _, _, rfl, rfl, hR⟩
  rw [if_neg c5, if_neg c5]
  by_cases c6 : a0 = 6
  · rw [if_pos c6, if_pos c6, n3]; exact ⟨_, _, _, rfl, rfl, hR⟩
  rw [if_neg c6, if_neg c6, qlit10, qlit13, in_i]
  by_cases hx : a0 - 10 < 0 ∨ nI 4 ≤ a0 - 10
  · have h1 : f_X5_at (a0 - 10) α = some (none, α) := by
      unfold f_X5_at
      by_cases h0 : a0 - 10 < 0
      · rw [if_pos h0]
      · rw [if_neg h0, if_pos (show (4 : Int32) ≤ a0 - 10 from hx.resolve_left h0)]
    have h2 : (if a0 < 10 then (0 : Int32) else if 13 < a0 then 0 else 1) = 0 := by
      by_cases q1 : a0 < 10
      · rw [if_pos q1]
      · rw [if_neg q1]
        by_cases q2 : 13 < a0
        · rw [if_pos q2]
        · exfalso
          rw [Int32.lt_iff_toInt_lt] at q1 q2
          have e10 : (10 : Int32).toInt = 10 := by decide
          have e13 : (13 : Int32).toInt = 13 := by decide
          have e0 : (0 : Int32).toInt = 0 := by decide
          have e4 : (nI 4).toInt = 4 := by decide
          have es : (a0 - 10).toInt = a0.toInt - 10 := by
            rw [Int32.toInt_sub, e10]
            exact Int.bmod_eq_of_le (by omega) (by omega)
          rcases hx with hx | hx
          · rw [Int32.lt_iff_toInt_lt] at hx; omega
          · rw [Int32.le_iff_toInt_le] at hx; omega
    rw [h2]
    unfold f_X9_bytesOfResource
    rw [h1]
    exact ⟨-102, α, β, rfl, rfl, hR⟩
  · obtain ⟨r, hr, e1, e2⟩ := sub10 hx
    obtain ⟨z, z1, z2, z3, z4⟩ := rss r hr
    have h1 : f_X5_at (a0 - 10) α = some (some (7 + r), α) := by
      unfold f_X5_at
      have h4 : ¬ (4 : Int32) ≤ nI r := by rw [show (4 : Int32) = nI 4 from rfl, le_nI (by omega) (by omega)]; omega
      rw [e2, if_neg (nI_n0 (by omega)), if_neg h4, pg_t (pin_nI hr (by decide)), cl_nI (by omega)]
    have h2 : (if a0 < 10 then (0 : Int32) else if 13 < a0 then 0 else 1) = 1 := by
      rw [e1, show (10 : Int32) = nI 10 from rfl, show (13 : Int32) = nI 13 from rfl, if_neg (by rw [lt_nI (by omega) (by omega)]; omega), if_neg (by rw [lt_nI (by omega) (by omega)]; omega)]
    rw [h2]
    refine ⟨nI z, α, β, ?_, ?_, hR⟩
    · unfold f_X9_bytesOfResource
      rw [h1, pb_s, pO_1, pg_t (decide_eq_true (by omega)), size6, pb_s, pb_s, z2]
    · rw [pb_s, if_neg (by decide), e2, pg_t (pin_nI hr (by decide)), cl_nI (by omega), z3]
