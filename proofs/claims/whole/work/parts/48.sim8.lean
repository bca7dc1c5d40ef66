/-! judge and define -/
theorem sm_congr {b c : Nat → Nat} : ∀ n, (∀ i, i < n → b i = c i) → sm b n = sm c n
  | 0, _ => rfl
  | n + 1, h => by
    show sm b n + b n = sm c n + c n
    rw [sm_congr n (fun i hi => h i (by omega)), h n (by omega)]
/-- the CLAUSE, on both sides -/
theorem clause_eq {j : Nat} {α β : pSt} (hj : j < 6) (hF : rF α β j) : ∃ c : Nat, c ≤ 6 ∧ f_X0_firstBroken (1 + j) α = some (nI c, α) ∧ f_X10_clause (nI j) β = some (nI c, β) ∧
    (c = 0 → ∃ (m : Nat) (b : Nat → Nat), 1 ≤ m ∧ m ≤ 12 ∧ α 0 (1 + j) = nI (4 * m + 4) ∧ (∀ i, i < 4 * m + 4 → α (40 + (1 + j)) i = nI (b i) ∧ β 4 (64 * j + i) = nI (b i) ∧ b i < 256) ∧ b 2 = m ∧ ∀ r, r < m → sru b r) := by
  obtain ⟨⟨n, n64', g2, g3, g4, g5⟩, -, -, -, -⟩ := hF
  have hcap : n ≤ pcap (1 + j) := by unfold pcap; rw [if_pos (by omega)]; exact n64'
  have hex : ∀ i, ∃ q, q < 256 ∧ (i < n → α (40 + (1 + j)) i = nI q) := fun i => by
    by_cases hi : i < n
    · obtain ⟨q, h1, h2⟩ := g5 i hi
      exact ⟨q, h1, fun _ => h2⟩
    · exact ⟨0, by decide, fun h => absurd h hi⟩
  obtain ⟨b, hb⟩ : ∃ b : Nat → Nat, ∀ i, b i < 256 ∧ (i < n → α (40 + (1 + j)) i = nI (b i)) := ⟨fun i => Classical.choose (hex i), fun i => Classical.choose_spec (hex i)⟩
  have A : ∀ i, i < n → α (40 + (1 + j)) i = nI (b i) ∧ b i < 256 := fun i hi => ⟨(hb i).2 hi, (hb i).1⟩
  have B : ∀ i, i < n → β 4 (64 * j + i) = nI (b i) ∧ b i < 256 := fun i hi => ⟨by rw [← g4 i hi]; exact (hb i).2 hi, (hb i).1⟩
  have hp : pin (nI j) 6 = true := pin_nI hj (by decide)
  have hc : (nI j).toNatClampNeg = j := cl_nI (by omega)
  have e64 : 64 * nI j = nI (64 * j) := by rw [n64, pk_mul]
  have e641 : nI (64 * j) + 1 = nI (64 * j + 1) := nI_1 _
  have e642 : nI (64 * j) + 2 = nI (64 * j + 2) := by rw [n2, nI_add]
  unfold f_X0_firstBroken f_X10_clause
  rw [size6, pb_s, g2, pg_t hp, hc, g3, e64, e641, e642]
  by_cases h4 : n < 4
  · refine ⟨1, by decide, ?_, ?_, fun h => by omega⟩
    · rw [if_neg (by rw [n4, le_nI (by omega) (by omega)]; omega)]; rfl
    · rw [if_neg (by rw [n4, le_nI (by omega) (by omega)]; omega)]; rfl
  · rw [if_pos (by rw [n4, le_nI (by omega) (by omega)]; omega), if_pos (by rw [n4, le_nI (by omega) (by omega)]; omega), pg_t (pin_nI (by omega) (by decide)), cl_nI (by omega),
      show f_X6_at (1 + j) 0 α = some (α (40 + (1 + j)) 0, α) from at6_ok (j := 0) hcap g2 (by omega), pb_s, (A 0 (by omega)).1, show β 4 (64 * j) = nI (b 0) from (B 0 (by omega)).1]
    have B0 := (hb 0).1
    have B1 := (hb 1).1
    have B2 := (hb 2).1
    by_cases h80 : b 0 = 80
    · rw [if_pos (by rw [h80]; rfl), if_pos (by rw [h80]; rfl), show f_X6_at (1 + j) 1 α = some (α (40 + (1 + j)) 1, α) from at6_ok (j := 1) hcap g2 (by omega), pb_s, (A 1 (by omega)).1, pg_t (pin_nI (by omega) (by decide)), cl_nI (by omega), (B 1 (by omega)).1]
      by_cases h82 : b 1 = 82
      · rw [if_pos (by rw [h82]; rfl), if_pos (by rw [h82]; rfl), show f_X6_at (1 + j) 2 α = some (α (40 + (1 + j)) 2, α) from at6_ok (j := 2) hcap g2 (by omega), pb_s, (A 2 (by omega)).1, pg_t (pin_nI (by omega) (by decide)), cl_nI (by omega), (B 2 (by omega)).1, qlit1, qlit12, in_i, pb_s]
        by_cases hm : 1 ≤ b 2 ∧ b 2 ≤ 12
        · rw [if_neg (show ¬ nI (b 2) < 1 by rw [n1, lt_nI (by omega) (by omega)]; omega), if_pos (show nI (b 2) ≤ 12 by rw [n12, le_nI (by omega) (by omega)]; omega), if_neg (show ¬ nI (b 2) < 1 by rw [n1, lt_nI (by omega) (by omega)]; omega), if_neg (show ¬ 12 < nI (b 2) by rw [n12, lt_nI (by omega) (by omega)]; omega), if_neg (show ¬ (1 : Int32) = 0 by decide), size6, pb_s, g2]
          obtain ⟨m, hmm⟩ : ∃ m, b 2 = m := ⟨_, rfl⟩
          rw [hmm] at hm ⊢
          have e44 : 3 + 4 * nI m + 1 = nI (4 * m + 4) := by rw [n3, n4, n1, pk_mul, nI_add, nI_add]; congr 1; omega
          have e45 : 4 * nI m + 4 = nI (4 * m + 4) := by rw [n4, pk_mul, nI_add]
          rw [e44, e45, pg_t hp, g3, show β 4 (64 * j) = nI (b 0) from (B 0 (by omega)).1, (B 1 (by omega)).1]
          by_cases hn : n = 4 * m + 4
          · subst hn
            rw [if_pos rfl, if_pos rfl]
            have s1 := sound_L (k := 1 + j) (m := m) (b := b) hcap rfl hm.2 g2 A pF 0 (Nat.zero_le _) (by show m < 0 + 128; omega)
            have s2 := rulesM_L (j := j) (m := m) (b := b) (β := β) (y := nI (b 0) + nI (b 1) + nI m) hj hm.2 B pF 0 (Nat.zero_le _) (by show m < 0 + 128; omega)
            rw [nI_0] at s1 s2
            have e3 : nI (b 0) + nI (b 1) + nI m = nI (sm b 3) := by
              rw [nI_add, nI_add, ← hmm]
              show nI (b 0 + b 1 + b 2) = nI (0 + b 0 + b 1 + b 2)
              rw [Nat.zero_add]
            by_cases hs : ∀ r, 0 ≤ r → r < m → sru b r
            · have x1 : f_X0_areSoundRules (1 + j) (nI m) α = some (1, α) := s1.1 hs
              have x2 := s2.1 hs
              have x3 : f_X0_sumAheadOfLast (1 + j) α = some (nI (sm b (4 * m + 3)) &&& 255, α) := by
                have := sum_L (k := 1 + j) (b := b) hcap (by omega) g2 A pF 0 (Nat.zero_le _) (by show 4 * m + 4 < 0 + 128; omega)
                rw [nI_0] at this
                exact this
              have x4 := sumM_L (j := j) (m := m) (b := b) (β := β) hj hm.2 B pF 3 (by omega) (by show 4 * m + 3 < 3 + 128; omega)
              rw [show nI 3 = 3 from rfl] at x4
              have e5 : nI (4 * m + 4) - 1 = nI (4 * m + 3) := nI_pred (4 * m + 3)
              have x5 : f_X6_at (1 + j) (nI (4 * m + 3)) α = some (nI (b (4 * m + 3)), α) := by rw [at6_ok hcap g2 (by omega), (A (4 * m + 3) (by omega)).1]
              rw [x1, pb_s, if_neg (show ¬ (1 : Int32) = 0 by decide), size6, pb_s, g2, e5, x5, pb_s, x3, pb_s, pg_t (pin_nI (by omega) (by decide)), pg_t (pin_nI (by omega) (by decide)), x2, e3, x4]
              by_cases hq : (nI (sm b (4 * m + 3)) &&& 255) = nI (b (4 * m + 3))
              · rw [if_pos hq.symm, if_pos hq]
                exact ⟨0, by decide, rfl, rfl, fun _ => ⟨m, b, hm.1, hm.2, rfl, fun i hi => ⟨(A i hi).1, (B i hi).1, (A i hi).2⟩, hmm, fun r hr => hs r (Nat.zero_le _) hr⟩⟩
              · rw [if_neg (fun h => hq h.symm), if_neg hq]
                exact ⟨6, by decide, rfl, rfl, fun h => by omega⟩
            · have x1 : f_X0_areSoundRules (1 + j) (nI m) α = some (0, α) := s1.2 hs
              have x2 := s2.2 hs
              rw [x1, pb_s, if_pos rfl, pg_t (pin_nI (by omega) (by decide)), pg_t (pin_nI (by omega) (by decide)), x2]
              exact ⟨5, by decide, rfl, rfl, fun h => by omega⟩
          · rw [if_neg (by rw [eq_nI (by omega) (by omega)]; exact hn), if_neg (by rw [eq_nI (by omega) (by omega)]; exact hn)]
            exact ⟨4, by decide, rfl, rfl, fun h => by omega⟩
        · refine ⟨3, by decide, ?_, ?_, fun h => by omega⟩
          · by_cases h1 : b 2 < 1
            · rw [if_pos (by rw [n1, lt_nI (by omega) (by omega)]; exact h1)]; rfl
            · rw [if_neg (by rw [n1, lt_nI (by omega) (by omega)]; exact h1), if_neg (by rw [n12, le_nI (by omega) (by omega)]; omega)]; rfl
          · by_cases h1 : b 2 < 1
            · rw [if_pos (show nI (b 2) < 1 by rw [n1, lt_nI (by omega) (by omega)]; exact h1)]; rfl
            · rw [if_neg (show ¬ nI (b 2) < 1 by rw [n1, lt_nI (by omega) (by omega)]; exact h1), if_pos (show 12 < nI (b 2) by rw [n12, lt_nI (by omega) (by omega)]; omega)]; rfl
      · rw [if_neg (by rw [n82, eq_nI (by omega) (by omega)]; exact h82), if_neg (by rw [n82, eq_nI (by omega) (by omega)]; exact h82)]
        exact ⟨2, by decide, rfl, rfl, fun h => by omega⟩
    · rw [if_neg (by rw [n80, eq_nI (by omega) (by omega)]; exact h80), if_neg (by rw [n80, eq_nI (by omega) (by omega)]; exact h80)]
      exact ⟨2, by decide, rfl, rfl, fun h => by omega⟩
theorem sm_judge {α β : pSt} (hR : rA α β) (a0 : Int32) : pS (f_X9_judge a0 α) (f_X10_judge a0 β) := by
  rcases ix a0 (n := 6) (by decide) with h | ⟨j, hj, rfl⟩
  · obtain ⟨h1, h2⟩ := file_bad (α := α) (β := β) h
    refine pS_same (r := -101) hR ?_ ?_
    · unfold f_X9_judge; rw [h1]; rfl
    · unfold f_X10_judge; rw [h2]; rfl
  · obtain ⟨h1, h2⟩ := file_ok (α := α) (β := β) hj
    obtain ⟨c, -, c1, c2, -⟩ := clause_eq hj (hR.2.1 j hj)
    refine pS_same (r := nI c) hR ?_ ?_
    · unfold f_X9_judge; rw [h1, pb_s, pO_1, pg_t (decide_eq_true hj), c1]; rfl
    · unfold f_X10_judge; rw [h2, pb_s, if_neg (by decide), c2]; rfl
