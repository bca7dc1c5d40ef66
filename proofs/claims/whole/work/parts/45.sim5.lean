/-! bytes of a FILE: plant -/
theorem has6_bad {x : Int32} {n k : Nat} {α : pSt} (hn : n ≤ 100) (ha : α 0 k = nI n) (h : x < 0 ∨ nI n ≤ x) : f_X6_has k x α = some (0, α) := by
  unfold f_X6_has
  by_cases h0 : x < 0
  · rw [if_pos h0]
  · rw [if_neg h0, ha, if_pos (h.resolve_left h0)]
theorem has6_ok {j n k : Nat} {α : pSt} (hn : n ≤ 100) (ha : α 0 k = nI n) (h : j < n) : f_X6_has k (nI j) α = some (1, α) := by
  unfold f_X6_has
  rw [if_neg (nI_n0 (by omega)), ha, if_neg]
  rw [le_nI (by omega) (by omega)]; omega
theorem pcap_le (k : Nat) : pcap k ≤ 100 := by unfold pcap; by_cases h : k < 7 <;> simp [h]
theorem at6_ok {j n k : Nat} {α : pSt} (hn : n ≤ pcap k) (ha : α 0 k = nI n) (h : j < n) : f_X6_at k (nI j) α = some (α (40 + k) j, α) := by
  have hc := pcap_le k
  unfold f_X6_at
  rw [if_neg (nI_n0 (by omega)), ha, if_neg (by rw [le_nI (by omega) (by omega)]; omega), pg_t (pin_nI (by omega) (by omega)), cl_nI (by omega)]
theorem put6_ok {j n k : Nat} {x : Int32} {α : pSt} (hn : n ≤ pcap k) (ha : α 0 k = nI n) (h : j < n) : f_X6_put k (nI j) x α = some ((), up2 α (40 + k) j (x &&& 255)) := by
  have hc := pcap_le k
  unfold f_X6_put
  rw [if_neg (nI_n0 (by omega)), ha, if_neg (by rw [le_nI (by omega) (by omega)]; omega), pg_t (pin_nI (by omega) (by omega)), cl_nI (by omega)]
  rfl
theorem append6_ok {n k : Nat} {x : Int32} {α : pSt} (hn : n < pcap k) (ha : α 0 k = nI n) : f_X6_append k x α = some (1, up2 (up2 α (40 + k) n (x &&& 255)) 0 k (nI (n + 1))) := by
  have hc := pcap_le k
  unfold f_X6_append
  rw [ha, if_pos (by rw [lt_nI (by omega) (by omega)]; exact hn), pg_t (pin_nI hn (by omega)), cl_nI (by omega), pl_s, up2_ne (by omega), ha, nI_1]
  rfl
theorem append6_full {k : Nat} {x : Int32} {α : pSt} (ha : α 0 k = nI (pcap k)) : f_X6_append k x α = some (0, α) := by
  have hc := pcap_le k
  unfold f_X6_append
  rw [ha, if_neg (by rw [lt_nI (by omega) (by omega)]; omega)]
theorem sm_plant {α β : pSt} (hR : rA α β) (a0 a1 a2 : Int32) : pS (f_X9_plant a0 a1 a2 α) (f_X10_plant a0 a1 a2 β) := by
  rcases ix a0 (n := 6) (by decide) with h | ⟨j, hj, rfl⟩
  · obtain ⟨h1, h2⟩ := file_bad (α := α) (β := β) h
    refine pS_same (r := -101) hR ?_ ?_
    · unfold f_X9_plant; rw [h1]; rfl
    · unfold f_X10_plant; rw [h2]; rfl
  · obtain ⟨h1, h2⟩ := file_ok (α := α) (β := β) hj
    obtain ⟨rt, rf, rpp, ruu, ro, rss, rm, rn⟩ := id hR
    obtain ⟨⟨n, g1, g2, g3, g4, g5⟩, f2, f3, f4, f5⟩ := rf j hj
    have hd : decide (j < 6) = true := decide_eq_true hj
    have hpi : pin (nI j) 6 = true := pin_nI hj (by decide)
    have hc : (nI j).toNatClampNeg = j := cl_nI (by omega)
    have hcap : n ≤ pcap (1 + j) := by unfold pcap; rw [if_pos (by omega)]; exact g1
    rcases ix a1 (n := n) (by omega) with h | ⟨i, hi, rfl⟩
    · refine pS_same (r := -101) hR ?_ ?_
      · unfold f_X9_plant; rw [h1, pb_s, pO_1, pg_t hd, has6_bad (by omega) g2 h]; rfl
      · unfold f_X10_plant; rw [h2, pb_s, if_neg (by decide), pg_t hpi, hc, g3, in_cnt_bad (by omega) h]; rfl
    · have h3 := has6_ok (α := α) (k := 1 + j) (by omega) g2 hi
      have h4 : f_X10_in (nI i).toInt64 0 (nI n - 1).toInt64 β = some (1, β) := in_cnt_ok (by omega) hi
      rcases ix a2 (n := 256) (by decide) with h | ⟨k, hk, rfl⟩
      · have h5 : f_X10_in a2.toInt64 0 255 β = some (0, β) := in_bad (n := 256) (by decide) (by decide) h
        refine pS_same (r := -102) hR ?_ ?_
        · unfold f_X9_plant
          rw [h1, pb_s, pO_1, pg_t hd, h3, pb_s, if_neg (by decide)]
          by_cases h0 : a2 < 0
          · rw [if_pos h0]
          · rw [if_neg h0, if_neg]
            have h6 : (256 : Int32) ≤ a2 := h.resolve_left h0
            have e5 : (255 : Int32).toInt = 255 := by decide
            have e6 : (256 : Int32).toInt = 256 := by decide
            rw [Int32.le_iff_toInt_le] at h6 ⊢
            omega
        · unfold f_X10_plant; rw [h2, pb_s, if_neg (by decide), pg_t hpi, hc, g3, h4, pb_s, if_neg (by decide), h5]; rfl
      · have h5 : f_X10_in (nI k).toInt64 0 255 β = some (1, β) := in_good (n := 256) (by decide) hk
        obtain ⟨b, hb, eb⟩ := g5 i hi
        have e0 : 64 * nI j + nI i = nI (64 * j + i) := by rw [show (64 : Int32) = nI 64 from rfl, pk_mul, nI_add]
        have hp2 : pin (nI (64 * j + i)) 384 = true := pin_nI (by omega) (by decide)
        have hc2 : (nI (64 * j + i)).toNatClampNeg = 64 * j + i := cl_nI (by omega)
        have ex : nI b ^^^ nI k = nI (b ^^^ k) := nxx_xor b k
        have exl := xor_lt hb hk
        have e255 : nI k ≤ 255 := by rw [show (255 : Int32) = nI 255 from rfl, le_nI (by omega) (by omega)]; omega
        have eβ : β 4 (64 * j + i) = nI b := by rw [← g4 i hi]; exact eb
        refine ⟨nI (b ^^^ k), up2 α (40 + (1 + j)) i (nI (b ^^^ k)), up2 β 4 (64 * j + i) (nI (b ^^^ k)), ?_, ?_, ?_⟩
        · unfold f_X9_plant
          have ha2 : up2 α (40 + (1 + j)) i (nI (b ^^^ k)) 0 (1 + j) = nI n := by rw [up2_ne (by omega)]; exact g2
          rw [h1, pb_s, pO_1, pg_t hd, h3, pb_s, if_neg (by decide), if_neg (nI_n0 (by omega)), if_pos e255, at6_ok hcap g2 hi, pb_s, eb, ex, put6_ok hcap g2 hi, pb_s, and255 exl, at6_ok hcap ha2 hi, pb_s, up2_vv]
        · unfold f_X10_plant
          rw [h2, pb_s, if_neg (by decide), pg_t hpi, hc, g3, h4, pb_s, if_neg (by decide), h5, pb_s, if_neg (by decide), e0, pg_t hp2, pg_t hp2, hc2, eβ, ex, pl_s, pg_t hp2, up2_vv]
        · have fa : ∀ d, ¬ d = 40 + (1 + j) → up2 α (40 + (1 + j)) i (nI (b ^^^ k)) d = α d := fun d h => up2_ne h
          have fb : ∀ d, ¬ d = 4 → up2 β 4 (64 * j + i) (nI (b ^^^ k)) d = β d := fun d h => up2_ne h
          refine ⟨rt.c (by rw [fa 0 (by omega)]) (fa 40 (by omega)) (fb 1 (by decide)) (fb 2 (by decide)), fun f hf => ?_, ?_, ?_, ?_, fun r hr => (rss r hr).c (by rw [fa 0 (by omega)]) (fa _ (by omega)) (by rw [fb 23 (by decide)]) (fun i _ => by rw [fb 25 (by decide)]), ?_, ?_⟩
          · by_cases hfj : f = j
            · subst hfj
              refine ⟨⟨n, g1, by rw [fa 0 (by omega)]; exact g2, by rw [fb 3 (by decide)]; exact g3, fun q hq => ?_, fun q hq => ?_⟩, by rw [fa 2 (by omega), fb 5 (by decide)]; exact f2, by rw [fa 3 (by omega), fb 6 (by decide)]; exact f3, by rw [fa 2 (by omega)]; exact f4, by rw [fa 3 (by omega)]; exact f5⟩
              · by_cases hqi : q = i
                · subst hqi; rw [up2_vv, up2_vv]
                · rw [up2_vn hqi, up2_vn (by omega)]; exact g4 q hq
              · by_cases hqi : q = i
                · subst hqi; rw [up2_vv]; exact ⟨_, exl, rfl⟩
                · rw [up2_vn hqi]; exact g5 q hq
            · exact (rf f hf).c (by rw [fa 0 (by omega)]) (fa _ (by omega)) (by rw [fa 2 (by omega)]) (by rw [fa 3 (by omega)]) (by rw [fb 3 (by decide)]) (fun q hq => by rw [up2_vn (by omega)]) (by rw [fb 5 (by decide)]) (by rw [fb 6 (by decide)])
          · obtain ⟨m, q1, q2, q3, q4⟩ := rpp
            exact ⟨m, q1, by rw [fa 10 (by omega)]; exact q2, by rw [fb 7 (by decide)]; exact q3, fun p hp => (q4 p hp).c (by rw [fa 4 (by omega)]) (by rw [fa 5 (by omega)]) (by rw [fa 6 (by omega)]) (by rw [fa 8 (by omega)]) (by rw [fa 9 (by omega)]) (fa _ (by omega)) (by rw [fb 8 (by decide)]) (by rw [fb 9 (by decide)]) (fun i _ => by rw [fb 10 (by decide)]) (by rw [fb 11 (by decide)]) (by rw [fb 13 (by decide)]) (by rw [fb 14 (by decide)])⟩
          · unfold rU ru; rw [fa 11 (by omega), fb 15 (by decide), fa 25 (by omega), fb 16 (by decide), fa 26 (by omega), fb 17 (by decide), fa 27 (by omega), fb 18 (by decide), fa 28 (by omega), fb 19 (by decide), fa 29 (by omega), fb 20 (by decide)]; exact ruu
          · unfold rO; rw [fa 23 (by omega), fb 21 (by decide), fa 22 (by omega), fb 22 (by decide)]; exact ro
          · unfold rM; rw [fa 12 (by omega), fb 26 (by decide), fa 30 (by omega), fb 27 (by decide)]; exact rm
          · unfold rN; rw [fa 16 (by omega), fb 28 (by decide), fa 17 (by omega), fb 30 (by decide), fa 18 (by omega), fb 31 (by decide)]; exact rn
