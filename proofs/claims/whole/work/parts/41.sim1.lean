/-! calls that look at an argument and read or write one place -/
theorem sm_option {α β : pSt} (hR : rA α β) (a0 a1 : Int32) : pS (f_X9_option a0 a1 α) (f_X10_option a0 a1 β) := by
  rcases ix a0 (n := 4) (by decide) with h | ⟨j, hj, rfl⟩
  · have h1 : f_X10_in a0.toInt64 0 3 β = some (0, β) := in_bad (n := 4) (by decide) (by decide) h
    refine pS_same (r := -102) hR ?_ ?_
    · unfold f_X9_option
      by_cases h0 : a0 < 0
      · rw [if_pos h0]
      · rw [if_neg h0, if_neg]
        have h2 : (4 : Int32) ≤ a0 := h.resolve_left h0
        rw [Int32.le_iff_toInt_le] at h2
        rw [Int32.lt_iff_toInt_lt]
        omega
    · unfold f_X10_option
      rw [h1]
      rfl
  · have h1 : f_X10_in (nI j).toInt64 0 3 β = some (1, β) := in_good (n := 4) (by decide) hj
    obtain ⟨rt, rf, rpp, ruu, ⟨o1, o2, o3⟩, rss, rm, rn⟩ := hR
    have hp : pin (nI j) 4 = true := pin_nI hj (by decide)
    have hc : (nI j).toNatClampNeg = j := cl_nI (by omega)
    refine ⟨α 23 j, up2 α 23 j a1, up2 β 21 j a1, ?_, ?_, ?_⟩
    · unfold f_X9_option
      have h4 : nI j < 4 := by rw [show (4 : Int32) = nI 4 from rfl, lt_nI (by omega) (by omega)]; exact hj
      rw [if_neg (nI_n0 (by omega)), if_pos h4, pg_t hp, pg_t hp, hc]
      rfl
    · unfold f_X10_option
      rw [h1, pb_s, if_neg (by decide), pg_t hp, pg_t hp, hc, o1 j hj]
      rfl
    · refine ⟨rt, (rF_k rf (by intro c hc; simp (disch := omega) only [up2_ne]) ⟨rfl, rfl, rfl⟩ ⟨rfl, rfl, rfl, rfl⟩), (rP_k rpp (by intro c hc; simp (disch := omega) only [up2_ne]) ⟨rfl, rfl, rfl, rfl, rfl, rfl⟩ ⟨rfl, rfl, rfl, rfl, rfl, rfl, rfl⟩), ruu, ⟨fun i hi => ?_, o2, o3⟩, (rs_k rss (by intro c hc; simp (disch := omega) only [up2_ne]) rfl ⟨rfl, rfl⟩), rm, rn⟩
      by_cases hij : i = j
      · subst hij; rw [up2_vv, up2_vv]
      · rw [up2_vn hij, up2_vn hij]; exact o1 i hi
theorem sm_pass {α β : pSt} (hR : rA α β) {a0 : Int32} (hb : a0 = 0 ∨ a0 = 1) : pS (f_X9_pass a0 α) (f_X10_pass a0 β) := by
  obtain ⟨rt, rf, rpp, ruu, ⟨o1, o2, o3⟩, rss, rm, rn⟩ := hR
  have hp : pbl a0 = true := by rcases hb with rfl | rfl <;> decide
  refine ⟨α 22 0, up2 α 22 0 a0, up2 β 22 0 a0, ?_, ?_, ?_⟩
  · unfold f_X9_pass
    rw [oneIf_b o3, pb_s, pg_t hp]
    rfl
  · unfold f_X10_pass
    rw [← o2]
    rcases pbl_ok o3 with h | h
    · rw [if_pos h, pg_t hp, h]; rfl
    · rw [if_neg (by rw [h]; decide), pg_t hp, h]; rfl
  · refine ⟨rt, (rF_k rf (by intro c hc; simp (disch := omega) only [up2_ne]) ⟨rfl, rfl, rfl⟩ ⟨rfl, rfl, rfl, rfl⟩), (rP_k rpp (by intro c hc; simp (disch := omega) only [up2_ne]) ⟨rfl, rfl, rfl, rfl, rfl, rfl⟩ ⟨rfl, rfl, rfl, rfl, rfl, rfl, rfl⟩), ruu, ⟨o1, ?_, ?_⟩, (rs_k rss (by intro c hc; simp (disch := omega) only [up2_ne]) rfl ⟨rfl, rfl⟩), rm, rn⟩
    · rw [up2_vv, up2_vv]
    · rw [up2_vv]; exact hp
theorem sm_fails {α β : pSt} (hR : rA α β) (a0 : Int32) {a1 : Int32} (hb : a1 = 0 ∨ a1 = 1) : pS (f_X9_fails a0 a1 α) (f_X10_fails a0 a1 β) := by
  have hp : pbl a1 = true := by rcases hb with rfl | rfl <;> decide
  rcases ix a0 (n := 6) (by decide) with h | ⟨j, hj, rfl⟩
  · obtain ⟨h1, h2⟩ := file_bad (α := α) (β := β) h
    refine pS_same (r := -101) hR ?_ ?_
    · unfold f_X9_fails; rw [h1]; rfl
    · unfold f_X10_fails; rw [h2]; rfl
  · obtain ⟨h1, h2⟩ := file_ok (α := α) (β := β) hj
    obtain ⟨rt, rf, rpp, ruu, ro, rss, rm, rn⟩ := hR
    obtain ⟨-, f2, f3, f4, f5⟩ := rf j hj
    have hpi : pin (nI j) 6 = true := pin_nI hj (by decide)
    have hc : (nI j).toNatClampNeg = j := cl_nI (by omega)
    refine ⟨α 2 j, up2 (up2 α 2 j a1) 3 j 0, up2 (up2 β 5 j a1) 6 j 0, ?_, ?_, ?_⟩
    · unfold f_X9_fails f_X2_startBecomes
      rw [h1, pb_s, pO_1, pg_t (decide_eq_true hj), oneIf_b f4, pb_s, pg_t hp]
      rfl
    · unfold f_X10_fails
      rw [h2, pb_s, if_neg (by decide), pg_t hpi, hc, ← f2]
      rcases pbl_ok f4 with h | h
      · rw [if_pos h, pg_t hp, pg_t hpi, pl_s, pg_t hpi, h]; rfl
      · rw [if_neg (by rw [h]; decide), pg_t hp, pg_t hpi, pl_s, pg_t hpi, h]; rfl
    · refine ⟨rt, fun f hf => ?_, (rP_k rpp (by intro c hc; simp (disch := omega) only [up2_ne]) ⟨rfl, rfl, rfl, rfl, rfl, rfl⟩ ⟨rfl, rfl, rfl, rfl, rfl, rfl, rfl⟩), ruu, ro, (rs_k rss (by intro c hc; simp (disch := omega) only [up2_ne]) rfl ⟨rfl, rfl⟩), rm, rn⟩
      obtain ⟨⟨z, z1, z2, z3, z4, z5⟩, g2, g3, g4, g5⟩ := rf f hf
      have e0 : up2 (up2 α 2 j a1) 3 j 0 (40 + (1 + f)) = α (40 + (1 + f)) := by simp (disch := omega) only [up2_ne]
      refine ⟨⟨z, z1, z2, z3, by rw [e0]; exact z4, by rw [e0]; exact z5⟩, ?_, ?_, ?_, ?_⟩
      · show up2 α 2 j a1 2 f = up2 β 5 j a1 5 f
        by_cases hfj : f = j
        · subst hfj; rw [up2_vv, up2_vv]
        · rw [up2_vn hfj, up2_vn hfj]; exact g2
      · by_cases hfj : f = j
        · subst hfj; rw [up2_vv, up2_vv]
        · rw [up2_vn hfj, up2_vn hfj]; exact g3
      · show pbl (up2 α 2 j a1 2 f) = true
        by_cases hfj : f = j
        · subst hfj; rw [up2_vv]; exact hp
        · rw [up2_vn hfj]; exact g4
      · by_cases hfj : f = j
        · subst hfj; rw [up2_vv]; rfl
        · rw [up2_vn hfj]; exact g5
/-! units -/
theorem has_bad {x : Int32} {n : Nat} {α β : pSt} (hn : n ≤ 40) (ha : α 11 0 = nI n) (hb : β 15 0 = nI n) (h : x < 0 ∨ nI n ≤ x) : f_X8_has x α = some (0, α) ∧ f_X10_isUnit x β = some (0, β) := by
  refine ⟨?_, ?_⟩
  · unfold f_X8_has
    by_cases h0 : x < 0
    · rw [if_pos h0]
    · rw [if_neg h0, ha, if_pos (h.resolve_left h0)]
  · unfold f_X10_isUnit
    rw [hb]
    rcases Nat.eq_zero_or_pos n with h0 | h0
    · subst h0
      have e1 : (nI 0 - 1) = (-1 : Int32) := by decide
      have e2 : f_X10_in x.toInt64 0 (nI 0 - 1).toInt64 β = some (0, β) := by
        rw [e1, qlit0, in_i]
        by_cases hx : x < 0
        · rw [if_pos hx]
        · rw [if_neg hx, if_pos]
          rw [Int32.lt_iff_toInt_lt] at hx ⊢
          have e3 : (-1 : Int32).toInt = -1 := by decide
          have e4 : (0 : Int32).toInt = 0 := by decide
          omega
      rw [e2]; rfl
    · have e1 : nI n - 1 = nI (n - 1) := by
        obtain ⟨k, hk⟩ : ∃ k, n = k + 1 := ⟨n - 1, by omega⟩
        subst hk
        exact nI_pred k
      rw [e1, in_bad (by omega) h0 h]
      rfl
theorem has_ok {j n : Nat} {α β : pSt} (hn : n ≤ 40) (ha : α 11 0 = nI n) (hb : β 15 0 = nI n) (h : j < n) : f_X8_has (nI j) α = some (1, α) ∧ f_X10_isUnit (nI j) β = some (1, β) := by
  refine ⟨?_, ?_⟩
  · unfold f_X8_has
    rw [if_neg (nI_n0 (by omega)), ha, if_neg]
    rw [le_nI (by omega) (by omega)]; omega
  · unfold f_X10_isUnit
    rw [hb]
    have e1 : nI n - 1 = nI (n - 1) := by
      obtain ⟨k, hk⟩ : ∃ k, n = k + 1 := ⟨n - 1, by omega⟩
      subst hk
      exact nI_pred k
    rw [e1, in_good (by omega) h]
    rfl
theorem marks_bad {x : Int32} {α β : pSt} (h : x < 0 ∨ nI 256 ≤ x) : f_X9_areMarks x α = some (0, α) ∧ f_X10_in x.toInt64 0 255 β = some (0, β) := by
  refine ⟨?_, in_bad (n := 256) (by decide) (by decide) h⟩
  unfold f_X9_areMarks
  by_cases h0 : x < 0
  · rw [if_pos h0]
  · rw [if_neg h0, if_pos (show (256 : Int32) ≤ x from h.resolve_left h0)]
theorem marks_ok {j : Nat} {α β : pSt} (h : j < 256) : f_X9_areMarks (nI j) α = some (1, α) ∧ f_X10_in (nI j).toInt64 0 255 β = some (1, β) := by
  refine ⟨?_, in_good (n := 256) (by decide) h⟩
  unfold f_X9_areMarks
  rw [if_neg (nI_n0 (by omega)), if_neg]
  rw [show (256 : Int32) = nI 256 from rfl, le_nI (by omega) (by omega)]; omega
theorem sm_marks {α β : pSt} (hR : rA α β) (a0 a1 : Int32) : pS (f_X9_marks a0 a1 α) (f_X10_marks a0 a1 β) := by
  obtain ⟨rt, rf, rpp, ⟨n, hn, ha, hb, hu⟩, ro, rss, rm, rn⟩ := id hR
  rcases ix a0 (n := n) (by omega) with h | ⟨j, hj, rfl⟩
  · obtain ⟨h1, h2⟩ := has_bad (α := α) (β := β) hn ha hb h
    refine pS_same (r := -101) hR ?_ ?_
    · unfold f_X9_marks; rw [h1]; rfl
    · unfold f_X10_marks; rw [h2]; rfl
  · obtain ⟨h1, h2⟩ := has_ok (α := α) (β := β) hn ha hb hj
    rcases ix a1 (n := 256) (by decide) with h | ⟨k, hk, rfl⟩
    · obtain ⟨h3, h4⟩ := marks_bad (α := α) (β := β) h
      refine pS_same (r := -102) hR ?_ ?_
      · unfold f_X9_marks; rw [h1, pb_s, if_neg (by decide), h3]; rfl
      · unfold f_X10_marks; rw [h2, pb_s, if_neg (by decide), h4]; rfl
    · obtain ⟨h3, h4⟩ := marks_ok (α := α) (β := β) hk
      have hpi : pin (nI j) 40 = true := pin_nI (by omega) (by decide)
      have hc : (nI j).toNatClampNeg = j := cl_nI (by omega)
      have hle : ¬ α 11 0 ≤ nI j := by rw [ha, le_nI (by omega) (by omega)]; omega
      refine ⟨α 26 j, up2 (up2 α 26 j (nI k)) 27 j 1, up2 (up2 β 17 j (nI k)) 18 j 1, ?_, ?_, ?_⟩
      · unfold f_X9_marks f_X8_marksOf f_X8_retell
        rw [h1, pb_s, if_neg (by decide), h3, pb_s, if_neg (by decide), if_neg (nI_n0 (by omega)), if_neg hle, pg_t hpi, hc, pb_s, if_neg (nI_n0 (by omega)), if_neg hle, pg_t hpi, pl_s, pg_t hpi]
        rfl
      · unfold f_X10_marks
        rw [h2, pb_s, if_neg (by decide), h4, pb_s, if_neg (by decide), pg_t hpi, pg_t hpi, hc, pl_s, pg_t hpi, (hu j hj).2.1]
        rfl
      · refine ⟨rt, (rF_k rf (by intro c hc; simp (disch := omega) only [up2_ne]) ⟨rfl, rfl, rfl⟩ ⟨rfl, rfl, rfl, rfl⟩), (rP_k rpp (by intro c hc; simp (disch := omega) only [up2_ne]) ⟨rfl, rfl, rfl, rfl, rfl, rfl⟩ ⟨rfl, rfl, rfl, rfl, rfl, rfl, rfl⟩), ⟨n, hn, ha, hb, fun u hu' => ?_⟩, ro, (rs_k rss (by intro c hc; simp (disch := omega) only [up2_ne]) rfl ⟨rfl, rfl⟩), rm, rn⟩
        obtain ⟨u1, u2, u3, u4, u5⟩ := hu u hu'
        refine ⟨u1, ?_, ?_, u4, u5⟩
        · show up2 α 26 j (nI k) 26 u = up2 β 17 j (nI k) 17 u
          by_cases hij : u = j
          · subst hij; rw [up2_vv, up2_vv]
          · rw [up2_vn hij, up2_vn hij]; exact u2
        · by_cases hij : u = j
          · subst hij; rw [up2_vv, up2_vv]
          · rw [up2_vn hij, up2_vn hij]; exact u3
