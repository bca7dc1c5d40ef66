/-! run: which rules are due; the rules of one processor at one unit -/
def due (u : Int32) (k p : Nat) (α : pSt) : Prop := (u = -1 ∧ k = 15) ∨ (∃ v : Nat, v < 40 ∧ u = nI v ∧ k < 8 ∧ (α 24 k = -1 ∨ α 24 k = nI p) ∧ ((α 26 v >>> (nI k &&& 31)) &&& 1) = 1)
section DUE
variable {n0 N np p r k m : Nat} {u : Int32} {α β : pSt}
theorem due_k (h : due u k p α) : (u = -1 → k = 15) ∧ (¬ u = -1 → k < 8) := by
  rcases h with ⟨h1, h2⟩ | ⟨v, v1, h1, h2, -⟩
  · exact ⟨fun _ => h2, fun h => absurd h1 h⟩
  · exact ⟨fun h => absurd (h1.symm.trans h) (nI_m1 (by omega)), fun _ => h2⟩
theorem marksOf_eq {v n : Nat} (ha : α 11 0 = nI n) (hn : n ≤ 40) (hv : v < n) : f_X8_marksOf (nI v) α = some (α 26 v, α) := by
  unfold f_X8_marksOf
  rw [if_neg (nI_n0 (by omega)), ha, if_neg (by rw [le_nI (by omega) (by omega)]; omega), pg_t (pin_nI (by omega) (by decide)), cl_nI (by omega)]
theorem isDue_eq (h : qD n0 N np p u α β) (hk : k < 8 ∨ k = 15) : (due u k p α → f_X7_isDue (nI k) α = some (1, α)) ∧ (¬ due u k p α → f_X7_isDue (nI k) α = some (0, α)) := by
  obtain ⟨h1, h2, h3, h4⟩ := h
  unfold f_X7_isDue
  rw [h3]
  rcases h4 with ⟨q1, q2⟩ | ⟨v, n, q1, q2, q3, q4, q5⟩
  · rw [if_pos q1]
    by_cases c : k = 15
    · subst c
      rw [if_pos (by decide)]
      exact ⟨fun _ => rfl, fun h => absurd (Or.inl ⟨q1, rfl⟩) h⟩
    · rw [if_neg (by rw [n15, eq_nI (by omega) (by omega)]; exact c)]
      exact ⟨fun h => absurd ((due_k h).1 q1) c, fun _ => rfl⟩
  · have hu : ¬ u = -1 := by rw [q1]; exact nI_m1 (by omega)
    rw [if_neg hu, if_neg (nI_n0 (by omega))]
    by_cases c : k < 8
    · rw [if_pos (by rw [n8, lt_nI (by omega) (by omega)]; exact c), pg_t (pin_nI c (by decide)), pg_t (pin_nI c (by decide)), cl_nI (by omega), h2, q1, marksOf_eq q2 q3 q4, pb_s]
      by_cases c1 : α 24 k = -1
      · rw [if_pos c1]
        by_cases c2 : ((α 26 v >>> (nI k &&& 31)) &&& 1) = 1
        · rw [if_pos c2]
          exact ⟨fun _ => rfl, fun h => absurd (Or.inr ⟨v, by omega, rfl, c, Or.inl c1, c2⟩) h⟩
        · rw [if_neg c2]
          refine ⟨fun h => ?_, fun _ => rfl⟩
          rcases h with ⟨z, -⟩ | ⟨v', z1, z2, z3, z4, z5⟩
          · exact absurd z (nI_m1 (by omega))
          · have : v = v' := (eq_nI (by omega) (by omega)).mp z2
            subst this; exact absurd z5 c2
      · rw [if_neg c1]
        by_cases c3 : α 24 k = nI p
        · rw [if_pos c3]
          by_cases c2 : ((α 26 v >>> (nI k &&& 31)) &&& 1) = 1
          · rw [if_pos c2]
            exact ⟨fun _ => rfl, fun h => absurd (Or.inr ⟨v, by omega, rfl, c, Or.inr c3, c2⟩) h⟩
          · rw [if_neg c2]
            refine ⟨fun h => ?_, fun _ => rfl⟩
            rcases h with ⟨z, -⟩ | ⟨v', z1, z2, z3, z4, z5⟩
            · exact absurd z (nI_m1 (by omega))
            · have : v = v' := (eq_nI (by omega) (by omega)).mp z2
              subst this; exact absurd z5 c2
        · rw [if_neg c3]
          refine ⟨fun h => ?_, fun _ => rfl⟩
          rcases h with ⟨z, -⟩ | ⟨v', z1, z2, z3, z4, z5⟩
          · exact absurd z (nI_m1 (by omega))
          · exact z4.elim (fun z => absurd z c1) (fun z => absurd z c3)
    · rw [if_neg (by rw [n8, lt_nI (by omega) (by omega)]; exact c)]
      exact ⟨fun h => absurd ((due_k h).2 hu) c, fun _ => rfl⟩
theorem e48 (p r : Nat) : 48 * nI p + 4 * nI r = nI (48 * p + 4 * r) := by rw [n48, n4, pk_mul, pk_mul, nI_add]
theorem meet_out {R fm : Nat} (hp : p < 6) (hm : β 9 p = nI m) (hm2 : m ≤ 12) (hR : R ≤ 1000) (h : m ≤ R ∨ ¬ β 32 0 = 0 ∨ ¬ β 13 p = 0) : f_X10_meet_L2 (nI p) u (fm + 1) (nI R) β = some ((), β) := by
  rw [f_X10_meet_L2, pg_t (pin_nI hp (by decide)), cl_nI (by omega), hm]
  by_cases c : m ≤ R
  · rw [if_pos (by rw [le_nI (by omega) (by omega)]; exact c)]
  · rw [if_neg (by rw [le_nI (by omega) (by omega)]; exact c)]
    by_cases c2 : β 32 0 = 0
    · rw [if_pos c2, pg_t (pin_nI hp (by decide)), if_neg (by
        rcases h with h | h | h
        · exact absurd h c
        · exact absurd c2 h
        · exact h)]
    · rw [if_neg c2]
theorem meet_y {fm : Nat} {s : Int32} {β' : pSt} (h : qD n0 N np p u α β) (hp : p < 6) (hm : β 9 p = nI m) (hm2 : m ≤ 12) (hr : r < m) (h32 : β 32 0 = 0) (h13 : β 13 p = 0) (hw : β 10 (48 * p + 4 * r) = nI k) (hd : due u k p α) (hs : mrule (nI p) (nI (48 * p + 4 * r)) u β = some (s, β')) : f_X10_meet_L2 (nI p) u (fm + 1) (nI r) β = f_X10_meet_L2 (nI p) u fm (nI (r + 1) + s) β' := by
  have hK := mrule_k (x := nI (r + 1)) (fun x b => f_X10_meet_L2 (nI p) u fm x b) hs
  have h10 : q10 α β := h.1.2.2.2.2.2.2.2.2.2.1
  obtain ⟨n, b1, b2, b3, b4, b5, b6⟩ := h.1.2.1
  rw [f_X10_meet_L2, pg_t (pin_nI hp (by decide)), cl_nI (show p ≤ 1000000 by omega), hm, if_neg (by rw [le_nI (by omega) (by omega)]; omega), if_pos h32, pg_t (pin_nI hp (by decide)), if_pos h13, e48, pg_t (pin_nI (by omega) (by decide)), cl_nI (show 48 * p + 4 * r ≤ 1000000 by omega), hw, nI_1]
  rcases hd with ⟨q1, q2⟩ | ⟨v, v1, q1, q2, q3, q4⟩
  · subst q2
    rw [if_pos q1, if_pos (by decide)]
    exact hK
  · have hu : ¬ u = -1 := by rw [q1]; exact nI_m1 (by omega)
    have h15 : ¬ nI k = 15 := by rw [n15, eq_nI (by omega) (by omega)]; omega
    have hvn : v < n := by
      rcases h.2.2.2 with ⟨z, -⟩ | ⟨v', n', z1, z2, z3, z4, -⟩
      · exact absurd z hu
      · have e1 : v = v' := (eq_nI (by omega) (by omega)).mp (q1.symm.trans z1)
        have e2 : n = n' := (eq_nI (by omega) (by omega)).mp (b3.symm.trans z2)
        omega
    have e17 : β 17 v = α 26 v := ((b5 v hvn).2.1).symm
    have e35 : β 35 k = α 24 k := (h10 k q2).symm
    have ev : u.toNatClampNeg = v := by rw [q1]; exact cl_nI (by omega)
    have epu : pin u 40 = true := by rw [q1]; exact pin_nI v1 (by decide)
    rw [if_neg hu, if_neg h15, pg_t epu, ev, e17, if_pos q4, if_neg h15, pg_t (pin_nI q2 (by decide)), cl_nI (show k ≤ 1000000 by omega), e35]
    by_cases c1 : α 24 k = -1
    · rw [if_pos c1]; exact hK
    · rw [if_neg c1, if_neg h15, pg_t (pin_nI q2 (by decide)), if_pos (q3.resolve_left c1)]
      exact hK
theorem meet_n {fm : Nat} (h : qD n0 N np p u α β) (hp : p < 6) (hm : β 9 p = nI m) (hm2 : m ≤ 12) (hr : r < m) (h32 : β 32 0 = 0) (h13 : β 13 p = 0) (hw : β 10 (48 * p + 4 * r) = nI k) (hk : k < 8 ∨ k = 15) (hd : ¬ due u k p α) : f_X10_meet_L2 (nI p) u (fm + 1) (nI r) β = f_X10_meet_L2 (nI p) u fm (nI (r + 1)) β := by
  have h10 : q10 α β := h.1.2.2.2.2.2.2.2.2.2.1
  obtain ⟨n, b1, b2, b3, b4, b5, b6⟩ := h.1.2.1
  rw [f_X10_meet_L2, pg_t (pin_nI hp (by decide)), cl_nI (show p ≤ 1000000 by omega), hm, if_neg (by rw [le_nI (by omega) (by omega)]; omega), if_pos h32, pg_t (pin_nI hp (by decide)), if_pos h13, e48, pg_t (pin_nI (by omega) (by decide)), cl_nI (show 48 * p + 4 * r ≤ 1000000 by omega), hw, nI_1]
  rcases h.2.2.2 with ⟨z1, z2⟩ | ⟨v, n', z1, z2, z3, z4, -⟩
  · have h15 : ¬ nI k = 15 := by
      rw [n15, eq_nI (by omega) (by omega)]
      exact fun h => hd (Or.inl ⟨z1, h⟩)
    rw [if_pos z1, if_neg h15]
  · have hu : ¬ u = -1 := by rw [z1]; exact nI_m1 (by omega)
    have e2 : n = n' := (eq_nI (by omega) (by omega)).mp (b3.symm.trans z2)
    subst e2
    rw [if_neg hu]
    by_cases c15 : k = 15
    · subst c15; rw [if_pos (by decide)]
    · have h15 : ¬ nI k = 15 := by rw [n15, eq_nI (by omega) (by omega)]; exact c15
      have q2 : k < 8 := by omega
      have e17 : β 17 v = α 26 v := ((b5 v z4).2.1).symm
      have e35 : β 35 k = α 24 k := (h10 k q2).symm
      have ev : u.toNatClampNeg = v := by rw [z1]; exact cl_nI (by omega)
      have epu : pin u 40 = true := by rw [z1]; exact pin_nI (by omega) (by decide)
      rw [if_neg h15, pg_t epu, ev, e17]
      by_cases c2 : ((α 26 v >>> (nI k &&& 31)) &&& 1) = 1
      · have n1' : ¬ α 24 k = -1 := fun h => hd (Or.inr ⟨v, by omega, z1, q2, Or.inl h, c2⟩)
        have n2' : ¬ α 24 k = nI p := fun h => hd (Or.inr ⟨v, by omega, z1, q2, Or.inr h, c2⟩)
        rw [if_pos c2, if_neg h15, pg_t (pin_nI q2 (by decide)), cl_nI (show k ≤ 1000000 by omega), e35, if_neg n1', if_neg h15, pg_t (pin_nI q2 (by decide)), if_neg n2']
      · rw [if_neg c2]
end DUE
/-- in lockstep: the class stands at rule r, the reference at max r nx -/
theorem rules_sim {n0 N np p m : Nat} {u : Int32} (hp : p < np) (hm2 : m ≤ 12) : ∀ (fc r nx fm : Nat) (α β : pSt), qD n0 N np p u α β → α 5 p = nI m → r ≤ m → m < r + fc → 1 ≤ fm → m < max r nx + fm → nx ≤ 300 → ∃ α' β', f_X7_doRules_L30 p fc (nI r) (nI nx) α = some ((), α') ∧ f_X10_meet_L2 (nI p) u fm (nI (max r nx)) β = some ((), β') ∧ qD n0 N np p u α' β' ∧ gr α β α' β' := by
  intro fc
  induction fc with
  | zero => intro r nx fm α β _ _ h1 h2; omega
  | succ fc ih =>
    intro r nx fm α β h hm hr1 hr2 hf1 hf2 hnx
    obtain ⟨fm, rfl⟩ : ∃ f, fm = f + 1 := ⟨fm - 1, by omega⟩
    obtain ⟨c1, c2, c3, c4⟩ := qR_n h.1
    have hp6 : p < 6 := by omega
    obtain ⟨g1, ⟨m', m1, m2, m3, m4, m5, m6⟩, g3, g4, g5, g6⟩ := c4 p hp
    have hmm : m' = m := (eq_nI (by omega) (by omega)).mp (m3.symm.trans hm)
    subst hmm
    have hS : (α 15 0 = 0 ↔ β 32 0 = 0) := by
      rcases h.1.2.2.2.2.2.1 with ⟨z1, z2⟩ | ⟨z1, z2⟩ | ⟨z1, z2⟩ <;> rw [z1, z2] <;> decide
    rw [f_X7_doRules_L30, hm]
    by_cases hrm : r = m'
    · subst hrm
      rw [if_pos ((le_nI (by omega) (by omega)).mpr (Nat.le_refl _))]
      exact ⟨α, β, rfl, meet_out hp6 m4 hm2 (by omega) (Or.inl (by omega)), h, .rf⟩
    · rw [if_neg (by rw [le_nI (by omega) (by omega)]; omega)]
      by_cases h15 : α 15 0 = 0
      · rw [if_pos h15]
        have h32 := hS.mp h15
        by_cases h8 : α 8 p = 0
        · rw [if_pos h8]
          have h13 : β 13 p = 0 := g4.symm.trans h8
          by_cases hlt : r < nx
          · rw [if_pos (by rw [lt_nI (by omega) (by omega)]; exact hlt), nI_1]
            have e : max r nx = max (r + 1) nx := by omega
            rw [e]
            exact ih (r + 1) nx (fm + 1) α β h hm (by omega) (by omega) (by omega) (by omega) hnx
          · have e : max r nx = r := by omega
            rw [e] at hf2 ⊢
            rw [if_neg (by rw [lt_nI (by omega) (by omega)]; exact hlt)]
            obtain ⟨k, c, a, b, w, w1, w2, w3, w4⟩ := wd_of h.1 hp hm hm2 (show r < m' by omega)
            obtain ⟨⟨-, v2⟩, ⟨v3, -⟩, ⟨v4, -⟩, -⟩ := id w
            rw [markOf_eq v2, pb_s, v3]
            by_cases hd : due u k p α
            · obtain ⟨s, α1, β1, s1, s2, s3, s4, s5⟩ := doRule_sim h hp h15 w w2 (due_k hd) w3 w4
              rw [(isDue_eq h w1).1 hd, pb_s, if_neg (by decide), s1, pb_s, nI_1, nI_add, meet_y h hp6 m4 hm2 (by omega) h32 h13 v4 hd s2, nI_add]
              have hm' : α1 5 p = nI m' := by rw [s5.1.1 5 (by omega)]; exact hm
              have e2 : r + 1 + s = max (r + 1) (r + 1 + s) := by omega
              obtain ⟨α2, β2, t1, t2, t3, t4⟩ := ih (r + 1) (r + 1 + s) fm α1 β1 s4 hm' (by omega) (by omega) (by omega) (by omega) (by omega)
              rw [← e2] at t2
              exact ⟨α2, β2, t1, t2, t3, s5.tr t4⟩
            · rw [(isDue_eq h w1).2 hd, pb_s, if_pos rfl, nI_1, meet_n h hp6 m4 hm2 (by omega) h32 h13 v4 w1 hd]
              have e2 : r + 1 = max (r + 1) nx := by omega
              obtain ⟨α2, β2, t1, t2, t3, t4⟩ := ih (r + 1) nx fm α β h hm (by omega) (by omega) (by omega) (by omega) (by omega)
              rw [← e2] at t2
              exact ⟨α2, β2, t1, t2, t3, t4⟩
        · rw [if_neg h8]
          exact ⟨α, β, rfl, meet_out hp6 m4 hm2 (by omega) (Or.inr (Or.inr (by rw [← g4]; exact h8))), h, .rf⟩
      · rw [if_neg h15]
        exact ⟨α, β, rfl, meet_out hp6 m4 hm2 (by omega) (Or.inr (Or.inl (fun z => h15 (hS.mpr z)))), h, .rf⟩
/-! one processor at one unit -/
section DOR
variable {n0 N np p : Nat} {u : Int32} {α β : pSt}
theorem at4_np (hp : p < np) (hn : np ≤ 6) (ha : α 10 0 = nI np) : f_X4_at (nI p) α = some (some p, α) := by
  unfold f_X4_at
  rw [if_neg (nI_n0 (by omega)), ha, if_neg (by rw [le_nI (by omega) (by omega)]; omega), if_neg (by rw [n6, le_nI (by omega) (by omega)]; omega), pg_t (pin_nI (by omega) (by decide)), cl_nI (by omega)]
theorem q_du (h : qR n0 N np α β) (x y : Int32) : qR n0 N np (up2 (up2 α 19 0 x) 20 0 y) β ∧ gr α β (up2 (up2 α 19 0 x) 20 0 y) β := by
  obtain ⟨a1, a2, a3, a4, a5, a6, a7, a8, a9, a10, a11, a12⟩ := h
  exact ⟨⟨rP_k a1 (by intro c hc; simp (disch := omega) only [up2_ne]) ⟨rfl, rfl, rfl, rfl, rfl, rfl⟩ ⟨rfl, rfl, rfl, rfl, rfl, rfl, rfl⟩, a2, a3, rs_k a4 (by intro c hc; simp (disch := omega) only [up2_ne]) rfl ⟨rfl, rfl⟩, a5, a6, a7, a8, a9, a10, a11, a12⟩, .sm ((fr.up (by omega)).tr (fr.up (by omega))) frM.rf rfl rfl⟩
theorem doRules_sim (h : qR n0 N np α β) (hp : p < np) (hu : met α β u) : ∃ α' β', f_X7_doRules (nI p) u α = some ((), α') ∧ f_X10_meet (nI p) u β = some ((), β') ∧ qR n0 N np α' β' ∧ gr α β α' β' := by
  obtain ⟨c1, c2, c3, c4⟩ := qR_n h
  obtain ⟨q1, q2⟩ := q_du h (nI p) u
  obtain ⟨-, ⟨m, m1, m2, m3, -⟩, -⟩ := c4 p hp
  have hF : m < 0 + pF := by show m < 0 + 128; omega
  have hF2 : 1 ≤ pF := by decide
  have hF3 : m < max 0 0 + pF := by show m < max 0 0 + 128; omega
  obtain ⟨α', β', t1, t2, t3, t4⟩ := rules_sim (u := u) hp m2 pF 0 0 pF (up2 (up2 α 19 0 (nI p)) 20 0 u) β ⟨q1, by rw [up2_ne (by decide), up2_vv], by rw [up2_vv], hu.mono q2⟩ m3 (by omega) hF hF2 hF3 (by omega)
  refine ⟨α', β', ?_, t2, t3.1, q2.tr t4⟩
  unfold f_X7_doRules
  rw [at4_np hp c3 c1, pb_s, pO_1, pg_t (by rw [decide_eq_true_eq]; omega), pl_s, pl_s]
  exact t1
/-- a processor that may do no more -/
theorem doRules_idle (h : qR n0 N np α β) (hp : p < np) (hi : ¬ α 15 0 = 0 ∨ ¬ α 8 p = 0) : f_X7_doRules (nI p) u α = some ((), up2 (up2 α 19 0 (nI p)) 20 0 u) := by
  obtain ⟨c1, c2, c3, c4⟩ := qR_n h
  obtain ⟨-, ⟨m, m1, m2, m3, -⟩, -⟩ := c4 p hp
  unfold f_X7_doRules
  rw [at4_np hp c3 c1, pb_s, pO_1, pg_t (by rw [decide_eq_true_eq]; omega), pl_s, pl_s, show pF = 127 + 1 from rfl, f_X7_doRules_L30]
  have e5 : up2 (up2 α 19 0 (nI p)) 20 0 u 5 p = nI m := m3
  have e15 : up2 (up2 α 19 0 (nI p)) 20 0 u 15 0 = α 15 0 := rfl
  have e8 : up2 (up2 α 19 0 (nI p)) 20 0 u 8 p = α 8 p := rfl
  rw [e5, e15, e8, if_neg (by rw [show (0 : Int32) = nI 0 from rfl, le_nI (by omega) (by omega)]; omega)]
  by_cases c : α 15 0 = 0
  · rw [if_pos c, if_neg (hi.resolve_left (fun z => z c))]
  · rw [if_neg c]
end DOR
