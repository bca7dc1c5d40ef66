/-! run: the END, the rounds, the beginning -/
section END
variable {n0 N np : Nat} {α β α0 β0 : pSt}
theorem end_L {y6 y2 : Int32} : ∀ (f p : Nat) (α β : pSt), qR n0 N np α β → β 34 0 = 1 → p ≤ np → np < p + f → ∃ α' β', f_X7_makeEnd_L12 f (nI p) α = some ((), α') ∧ f_X10_run_L275 y6 y2 f (nI p) β = (if β' 32 0 = 0 then fE y2 y6 β' else fB y2 β') ∧ qR n0 N np α' β' ∧ gr α β α' β' := by
  intro f
  induction f with
  | zero => intro p α β _ _ h1 h2; omega
  | succ f ih =>
    intro p α β h h34 h1 h2
    obtain ⟨c1, c2, c3, c4⟩ := qR_n h
    rw [f_X7_makeEnd_L12, f_X10_run_L275, size4, pb_s, c1, c2]
    by_cases hpn : p = np
    · subst hpn
      rw [if_pos ((le_nI (by omega) (by omega)).mpr (Nat.le_refl _)), if_pos ((le_nI (by omega) (by omega)).mpr (Nat.le_refl _))]
      exact ⟨α, β, rfl, rfl, h, .rf⟩
    · rw [if_neg (by rw [le_nI (by omega) (by omega)]; omega), if_neg (by rw [le_nI (by omega) (by omega)]; omega), nI_1]
      obtain ⟨α1, β1, t1, t2, t3, t4⟩ := doRules_sim (u := -1) h (show p < np by omega) (Or.inl ⟨rfl, h34⟩)
      rw [t1, pb_s, t2, pb_s]
      obtain ⟨α2, β2, s1, s2, s3, s4⟩ := ih (p + 1) α1 β1 t3 (t4.2.2.1.trans h34) (by omega) (by omega)
      exact ⟨α2, β2, s1, s2, s3, t4.tr s4⟩
theorem q_end (h : qH n0 N np α β) (h10 : q10 α β) : qR n0 N np (up2 α 21 0 (α 17 0 + 1)) (up2 (up2 β 34 0 1) 33 0 (β 30 0 + 1)) := by
  obtain ⟨a1, a2, a3, a4, a5, a6, a7, ⟨a8, a8'⟩, a9, a11, a12⟩ := h
  exact ⟨rP_k a1 (by intro c hc; simp (disch := omega) only [up2_ne]) ⟨rfl, rfl, rfl, rfl, rfl, rfl⟩ ⟨rfl, rfl, rfl, rfl, rfl, rfl, rfl⟩, a2, a3, rs_k a4 (by intro c hc; simp (disch := omega) only [up2_ne]) rfl ⟨rfl, rfl⟩, a5, a6, a7, ⟨a8, by rw [up2_vv, up2_vv, a8], a8'⟩, a9, h10, a11, a12⟩
theorem tail_sim (h : qH n0 N np α β) (h10 : α 17 0 ≤ 0 ∨ q10 α β) (hT : rT α0 β0) (hF : ∀ f, f < 6 → rF α0 β0 f) (hO : rO α0 β0) (g1 : fr α0 α) (g2 : frM β0 β) : pS (tl (nI n0) α) (mtl (nI n0) β) := by
  obtain ⟨a1, ⟨n, b1, b2, b3, b4, b5, b6⟩, a3, a4, a5, a6, a7, ⟨a8, a8'⟩, a9, a11, a12⟩ := id h
  have hS : α 15 0 = 0 ↔ β 32 0 = 0 := by
    rcases a6 with ⟨z1, z2⟩ | ⟨z1, z2⟩ | ⟨z1, z2⟩ <;> rw [z1, z2] <;> decide
  unfold tl mtl
  rw [size8, pb_s, b3, b4]
  by_cases h15 : α 15 0 = 0
  · have h32 := hS.mp h15
    rw [if_pos h15]
    by_cases h17 : α 17 0 ≤ 0
    · rw [if_pos h17, if_pos h15, if_pos (by rw [← a8]; exact h17), if_pos h32]
      exact fin_ok h hT hF hO g1 g2 b3 b2 (Nat.le_refl _)
    · have hq := q_end h (h10.resolve_left h17)
      have c3 := (qR_n hq).2.2.1
      obtain ⟨α', β', t1, t2, t3, t4⟩ := end_L (y6 := nI n) (y2 := nI n0) pF 0 _ _ hq (by rw [up2_ne (by decide), up2_vv]) (by omega) (by show np < 0 + 128; omega)
      rw [if_neg h17, if_neg (by rw [← a8]; exact h17), if_pos h32]
      rw [nI_0] at t1 t2
      have em : f_X7_makeEnd α = some ((), α') := by
        unfold f_X7_makeEnd
        rw [pl_s]; exact t1
      have e30 : up2 β 34 0 1 30 0 = β 30 0 := rfl
      rw [em, pb_s, pl_s, pl_s, e30, t2]
      obtain ⟨n', d1, d2, d3⟩ := t4.2.2.2 n b2 b3
      have g1' : fr α0 α' := g1.tr ((fr.up (by omega)).tr t4.1)
      have g2' : frM β0 β' := g2.tr (((frM.up (by omega)).tr (frM.up (by omega))).tr t4.2.1)
      have hS' := q_S t3
      by_cases z : α' 15 0 = 0
      · rw [if_pos z, if_pos (hS'.mp z)]
        exact fin_ok t3.H hT hF hO g1' g2' d3 d2 d1
      · rw [if_neg z, if_neg (fun y => z (hS'.mpr y))]
        exact fin_back t3.H hT hF hO g1' g2' z
  · have h32 : ¬ β 32 0 = 0 := fun z => h15 (hS.mpr z)
    rw [if_neg h15, if_neg h15, if_neg h32, if_neg h32]
    have e : (if β 30 0 ≤ 0 then fB (nI n0) β else fB (nI n0) β) = fB (nI n0) β := by
      by_cases z : β 30 0 ≤ 0
      · rw [if_pos z]
      · rw [if_neg z]
    rw [e]
    exact fin_back h hT hF hO g1 g2 h15
theorem loop_sim (hT : rT α0 β0) (hF : ∀ f, f < 6 → rF α0 β0 f) (hO : rO α0 β0) : ∀ (f k fo to' m n : Nat) (a2 : Int32) (α β : pSt), qH n0 N np α β → (α 17 0 ≤ 0 ∨ q10 α β) → β 34 0 = 0 → fr α0 α → frM β0 β → α 11 0 = nI n → n ≤ 40 → k ≤ fo → fo ≤ n → (a2 = 0 → n0 ≤ fo) → (fo < to' ↔ 0 < m) → (fo < to' → to' = n) → m ≤ 40 → to' ≤ 40 → 40 < fo + f → pS (f_X7_go_L37 (nI n0) f (nI k) (nI to') (nI fo) α) (f_X10_run_L174 (nI n0) f a2 (nI fo) (nI m) β) := by
  intro f
  induction f with
  | zero => intros; omega
  | succ f ih =>
    intro k fo to' m n a2 α β h h10 h34 g1 g2 ha hn hk hfo h0 hm hto hm40 ht40 hf
    have hS : α 15 0 = 0 ↔ β 32 0 = 0 := by
      rcases h.2.2.2.2.2.1 with ⟨z1, z2⟩ | ⟨z1, z2⟩ | ⟨z1, z2⟩ <;> rw [z1, z2] <;> decide
    obtain ⟨n', b1, b2, b3, b4, b5, b6⟩ := id h.2.1
    have hnn : n' = n := (eq_nI (by omega) (by omega)).mp (b3.symm.trans ha)
    subst hnn
    rw [go_step, run_step]
    by_cases c1 : fo < to'
    · have htn := hto c1
      subst htn
      have hm0 : 0 < m := hm.mp c1
      have kn : ¬ (40 : Int32) ≤ nI k := by rw [show (40 : Int32) = nI 40 from rfl, le_nI (by omega) (by omega)]; omega
      have mn : ¬ nI m ≤ 0 := by rw [show (0 : Int32) = nI 0 from rfl, le_nI (by omega) (by omega)]; omega
      have fn : ¬ nI to' ≤ nI fo := by rw [le_nI (by omega) (by omega)]; omega
      rw [if_neg kn, if_neg mn]
      by_cases c2 : α 15 0 = 0
      · rw [if_pos c2, if_neg fn, if_pos (hS.mp c2), pl_s, pl_s, b4]
        obtain ⟨α1, β1, t1, t2, t3, t4⟩ := round_sim (a2 := a2) h h34 ha hn hfo h0
        have e30 : up2 β 30 0 (β 30 0 + 1) 30 0 = β 30 0 + 1 := by rw [up2_vv]
        rw [e30, t1, t2, pb_s, pb_s, size8, pb_s]
        obtain ⟨n1, d1, d2, d3⟩ := t4.2.2.2 to' hn ha
        obtain ⟨n2, z1, z2, z3, z4, -⟩ := t3.2.1
        have h12 : n2 = n1 := (eq_nI (by omega) (by omega)).mp (z3.symm.trans d3)
        subst h12
        rw [d3, z4, pk_sub d1, nI_1]
        exact ih (k + 1) to' n2 (n2 - to') n2 0 α1 β1 t3.H (Or.inr t3.2.2.2.2.2.2.2.2.2.1) (t4.2.2.1.trans h34) (g1.tr t4.1) (g2.tr t4.2.1) d3 d2 (by omega) d1 (fun _ => b1) (by omega) (fun _ => rfl) (by omega) d2 (by omega)
      · rw [if_neg c2, if_neg (fun z => c2 (hS.mpr z))]
        exact tail_sim h h10 hT hF hO g1 g2
    · have hm0 : m = 0 := by omega
      subst hm0
      rw [if_pos (show nI 0 ≤ 0 by decide), if_pos (show nI to' ≤ nI fo by rw [le_nI (by omega) (by omega)]; omega)]
      have hT' := tail_sim h h10 hT hF hO g1 g2
      by_cases c3 : (40 : Int32) ≤ nI k
      · rw [if_pos c3]; exact hT'
      · rw [if_neg c3]
        by_cases c2 : α 15 0 = 0
        · rw [if_pos c2]; exact hT'
        · rw [if_neg c2]; exact hT'
end END
