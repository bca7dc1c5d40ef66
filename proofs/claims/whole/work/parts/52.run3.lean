/-! run: a throw; a rule; the rules of one processor -/
theorem up2_comm {α : pSt} {c d i j : Nat} {x y : Int32} (h : ¬ c = d) : up2 (up2 α c i x) d j y = up2 (up2 α d j y) c i x := by
  funext e
  by_cases h1 : e = c
  · subst h1; rw [up2_ne h, up2_v, up2_v, up2_ne h]
  · by_cases h2 : e = d
    · subst h2; rw [up2_v, up2_ne h1, up2_ne h1, up2_v]
    · rw [up2_ne h2, up2_ne h1, up2_ne h1, up2_ne h2]
theorem msg_comm {α : pSt} {c k d j : Nat} {x p nm a rd y : Int32} (h : ¬ c = d) : msg (up2 α d j y) c k x p nm a rd = up2 (msg α c k x p nm a rd) d j y := by
  unfold msg
  rw [up2_comm (c := c) (d := d) h, up2_comm (c := c) (d := d) h, up2_comm (c := c) (d := d) h, up2_comm (c := c) (d := d) h, up2_comm (c := c) (d := d) h]
theorem tell_up {β : pSt} {k d i : Nat} {y x p u a nm : Int32} (hd : ¬ 26 = d ∧ ¬ 27 = d ∧ ¬ 16 = d ∧ ¬ 33 = d) (hb : β 26 0 = nI k) (hk : k ≤ 120) (hu : (u = -1 ∧ nm = -1) ∨ ∃ v, u = nI v ∧ v < 40 ∧ nm = β 16 v) : ∃ β', f_X10_tell x p u a β = some ((), β') ∧ f_X10_tell x p u a (up2 β d i y) = some ((), up2 β' d i y) ∧ β' 26 0 = (if k = 120 then nI 120 else nI (k + 1)) ∧ β' 16 = β 16 := by
  obtain ⟨d1, d2, d3, d4⟩ := hd
  have hb2 : up2 β d i y 26 0 = nI k := by rw [up2_ne d1]; exact hb
  by_cases h120 : k = 120
  · subst h120
    exact ⟨β, tell_full hb, tell_full hb2, by rw [if_pos rfl]; exact hb, rfl⟩
  · have hu2 : (u = -1 ∧ nm = -1) ∨ ∃ v, u = nI v ∧ v < 40 ∧ nm = up2 β d i y 16 v := by
      rw [up2_ne d3]; exact hu
    refine ⟨_, tell_eq (by omega) hb hu, ?_, by rw [up2_vv, if_neg h120], by rw [up2_ne (by decide), msg_ne (by decide)]⟩
    rw [tell_eq (by omega) hb2 hu2, up2_ne d4, msg_comm d2, up2_comm (c := 26) (d := d) d1]
def mrule (p at' u : Int32) (β : pSt) : Option (Int32 × pSt) := pb (f_X10_step p 1 β) fun _ β1 => if β1 32 0 = 0 then f_X10_act p at' u β1 else some ((0 : Int32), β1)
theorem mrule_k {τ : Type} {p at' u x s : Int32} {β β' : pSt} (K : Int32 → pSt → Option τ) (h : mrule p at' u β = some (s, β')) : (pb (f_X10_step p 1 β) fun _ β1 => if β1 32 0 = 0 then pb (f_X10_act p at' u β1) fun r β2 => K (x + r) β2 else K (x + 0) β1) = K (x + s) β' := by
  unfold mrule at h
  cases hs : f_X10_step p 1 β with
  | none => rw [hs] at h; cases h
  | some z =>
    obtain ⟨z1, z2⟩ := z
    rw [hs, pb_s] at h
    rw [pb_s]
    by_cases c : z2 32 0 = 0
    · rw [if_pos c] at h ⊢
      rw [h, pb_s]
    · rw [if_neg c] at h ⊢
      injection h with h
      injection h with h1 h2
      rw [h1, h2]
section RUL2
variable {n0 N np p r k a b : Nat} {u : Int32} {α β : pSt}
theorem q_st0 (h : qD n0 N np p u α β) (h13 : α 13 0 = 0) : qD n0 N np p u (up2 (up2 α 8 p 1) 15 0 (-12)) (up2 (up2 β 13 p 1) 32 0 2) ∧ gr α β (up2 (up2 α 8 p 1) 15 0 (-12)) (up2 (up2 β 13 p 1) 32 0 2) := by
  obtain ⟨⟨a1, a2, a3, a4, a5, a6, a7, a8, a9, a10, a11, a12⟩, h2, h3, h4⟩ := h
  have g : gr α β (up2 (up2 α 8 p 1) 15 0 (-12)) (up2 (up2 β 13 p 1) 32 0 2) := .sm ((fr.up (by omega)).tr (fr.up (by omega))) ((frM.up (by omega)).tr (frM.up (by omega))) rfl rfl
  exact ⟨⟨⟨rP_k (rP_st (p := p) a1) (by intro c hc; simp (disch := omega) only [up2_ne]) ⟨rfl, rfl, rfl, rfl, rfl, rfl⟩ ⟨rfl, rfl, rfl, rfl, rfl, rfl, rfl⟩, a2, a3, rs_k a4 (by intro c hc; simp (disch := omega) only [up2_ne]) rfl ⟨rfl, rfl⟩, a5, Or.inr (Or.inr ⟨by rw [up2_vv], by rw [up2_vv]⟩), a7, a8, a9, a10, a11, a12⟩, h2, h3, h4.mono g⟩, g⟩
theorem q_st1 (h : qD n0 N np p u α β) : qD n0 N np p u (up2 α 8 p 1) (up2 (up2 β 13 p 1) 32 0 (β 32 0)) ∧ gr α β (up2 α 8 p 1) (up2 (up2 β 13 p 1) 32 0 (β 32 0)) := by
  obtain ⟨⟨a1, a2, a3, a4, a5, a6, a7, a8, a9, a10, a11, a12⟩, h2, h3, h4⟩ := h
  have g : gr α β (up2 α 8 p 1) (up2 (up2 β 13 p 1) 32 0 (β 32 0)) := .sm (fr.up (by omega)) ((frM.up (by omega)).tr (frM.up (by omega))) rfl rfl
  refine ⟨⟨⟨rP_k (rP_st (p := p) a1) (by intro c hc; rfl) ⟨rfl, rfl, rfl, rfl, rfl, rfl⟩ ⟨rfl, rfl, rfl, rfl, rfl, rfl, rfl⟩, a2, a3, rs_k a4 (by intro c hc; simp (disch := omega) only [up2_ne]) rfl ⟨rfl, rfl⟩, a5, ?_, a7, a8, a9, a10, a11, a12⟩, h2, h3, h4.mono g⟩, g⟩
  unfold q6
  rw [show up2 (up2 β 13 p 1) 32 0 (β 32 0) 32 0 = β 32 0 by rw [up2_vv]]
  exact a6
theorem a_throw (h : qD n0 N np p u α β) (w : wd p r k 4 a b α β) : aS n0 N np p u α β (dr2 p (nI r) α) (f_X10_act (nI p) (nI (48 * p + 4 * r)) u β) := by
  rw [dr2_w w, act_w w, dr3_4, ac3_4]
  obtain ⟨⟨w1, w2⟩, -⟩ := w
  obtain ⟨⟨a1, ⟨n, b1, b2, b3, b4, b5, b6⟩, a3, a4, ⟨k, k1, k2, k3, k4⟩, a6, a7, a8, a9, a10, a11, a12⟩, h2, h3, h4⟩ := id h
  obtain ⟨nm, w1', w2'⟩ := nameOf_eq h4
  have hu2 : (u = -1 ∧ nm = -1) ∨ ∃ v, u = nI v ∧ v < 40 ∧ nm = β 16 v := by
    rcases w2' with q | ⟨v, q1, q2, q3, q4⟩
    · exact Or.inl q
    · exact Or.inr ⟨v, q1, q2, by rw [q3]; exact (b5 v (q4 n b3 b2)).1⟩
  have hu3 : (u = -1 ∧ nm = -1) ∨ ∃ v, u = nI v ∧ v < 40 ∧ nm = up2 β 13 p 1 16 v := hu2
  obtain ⟨β1, t1, t2, t3, t4⟩ := tell_up (d := 13) (i := p) (y := 1) (x := 5) (p := nI p) (a := nI a) ⟨by decide, by decide, by decide, by decide⟩ k3 k1 hu2
  rw [t1, pb_s, pg_t (pin_nI w1 (by decide)), cl_nI (by omega), pl_s]
  have hf := tell_up (d := 32) (i := 0) (y := if α 13 0 = 0 then 2 else β 32 0) (x := 5) (p := nI p) (a := nI a) (β := up2 β 13 p 1) ⟨by decide, by decide, by decide, by decide⟩ k3 k1 hu3
  obtain ⟨β2, s1, s2, -, -⟩ := hf
  have e12 : β2 = up2 β1 13 p 1 := by
    rw [t2] at s1
    injection s1 with s1; injection s1 with _ s1; exact s1.symm
  have eb22 : up2 β1 13 p 1 22 0 = α 13 0 := by
    have hfr : frM β β1 := by
      by_cases hk : k = 120
      · subst hk
        rw [tell_full k3] at t1
        injection t1 with t1; injection t1 with _ t1; rw [← t1]; exact frM.rf
      · rw [tell_eq (by omega) k3 hu2] at t1
        injection t1 with t1; injection t1 with _ t1; rw [← t1]
        exact fun d hd => by rw [up2_ne (by omega), msg_ne (by omega)]
    rw [a9]
    show β1 22 0 = _
    rw [hfr 22 (by omega)]
  have eb32 : up2 β1 13 p 1 32 0 = β 32 0 := by
    show β1 32 0 = _
    by_cases hk : k = 120
    · subst hk
      rw [tell_full k3] at t1
      injection t1 with t1; injection t1 with _ t1; rw [← t1]
    · rw [tell_eq (by omega) k3 hu2] at t1
      injection t1 with t1; injection t1 with _ t1; rw [← t1, up2_ne (by decide), msg_ne (by decide)]
  rw [eb22, eb32]
  by_cases c : α 13 0 = 0
  · rw [if_pos c] at s2 ⊢
    obtain ⟨q1, q2⟩ := q_st0 h c
    have es : f_X7_stop p α = some ((), up2 (up2 α 8 p 1) 15 0 (-12)) := by
      unfold f_X7_stop
      have e : up2 α 8 p 1 13 0 = 0 := c
      rw [pl_s, e, if_pos rfl]; rfl
    have hS := say (x := 5) (a := nI a) q1
    rw [s2, pb_s, e12] at hS
    rw [es, pb_s]
    exact hS.tr q2
  · rw [if_neg c] at s2 ⊢
    obtain ⟨q1, q2⟩ := q_st1 h
    have es : f_X7_stop p α = some ((), up2 α 8 p 1) := by
      unfold f_X7_stop
      have e : ¬ up2 α 8 p 1 13 0 = 0 := c
      rw [pl_s, if_neg e]
    have hS := say (x := 5) (a := nI a) q1
    rw [s2, pb_s, e12] at hS
    rw [es, pb_s]
    exact hS.tr q2
theorem act_sim {c : Nat} (h : qD n0 N np p u α β) (hp : p < np) (h15 : α 15 0 = 0) (w : wd p r k c a b α β) (hc : c < 10) (hk : (u = -1 → k = 15) ∧ (¬ u = -1 → k < 8)) (h1 : c = 1 → a < 64) (h2 : c = 7 ∨ c = 9 → a < 4) : aS n0 N np p u α β (dr2 p (nI r) α) (f_X10_act (nI p) (nI (48 * p + 4 * r)) u β) := by
  rcases (by omega : c = 0 ∨ c = 1 ∨ c = 2 ∨ c = 3 ∨ c = 4 ∨ c = 5 ∨ c = 6 ∨ c = 7 ∨ c = 8 ∨ c = 9) with rfl | rfl | rfl | rfl | rfl | rfl | rfl | rfl | rfl | rfl
  · exact a_claim h w hk
  · exact a_make h w (h1 rfl)
  · exact a_tell h w
  · exact a_add h hp w
  · exact a_throw h w
  · exact a_work h hp h15 w
  · exact a_change h w
  · exact a_write h w (h2 (Or.inl rfl))
  · exact a_skip h hp w
  · exact a_ask h w (h2 (Or.inr rfl))
/-- the words of a rule, the same on both sides -/
theorem wd_of {m : Nat} (h : qR n0 N np α β) (hp : p < np) (hm : α 5 p = nI m) (hm2 : m ≤ 12) (hr : r < m) : ∃ k c a b, wd p r k c a b α β ∧ (k < 8 ∨ k = 15) ∧ c < 10 ∧ (c = 1 → a < 64) ∧ (c = 7 ∨ c = 9 → a < 4) := by
  obtain ⟨-, -, c3, c4⟩ := qR_n h
  obtain ⟨-, ⟨m', m1, m2, m3, m4, m5, m6⟩, -⟩ := c4 p hp
  have : m' = m := (eq_nI (by omega) (by omega)).mp (m3.symm.trans hm)
  subst this
  obtain ⟨k, c, a, b, g1, g2, g3, g4, g5, g6, g7, g8, g9, g10, g11⟩ := m6 r hr
  refine ⟨k, c, a, b, ⟨⟨by omega, by omega⟩, ⟨g1, g2, g3, g4⟩, ⟨?_, ?_, ?_, ?_⟩, g7, g8⟩, g5, g6, g9, g10⟩
  · rw [← m5 _ (by omega)]; exact g1
  · rw [show 48 * p + 4 * r + 1 = 48 * p + (4 * r + 1) by omega, ← m5 _ (by omega)]; exact g2
  · rw [show 48 * p + 4 * r + 2 = 48 * p + (4 * r + 2) by omega, ← m5 _ (by omega)]; exact g3
  · rw [show 48 * p + 4 * r + 3 = 48 * p + (4 * r + 3) by omega, ← m5 _ (by omega)]; exact g4
theorem wd_fr {c : Nat} {α' β' : pSt} (w : wd p r k c a b α β) (g1 : fr α α') (g2 : frM β β') : wd p r k c a b α' β' := by
  unfold wd
  rw [g1.1 (60 + p) (by omega), g2 10 (by omega)]
  exact w
theorem doRule_sim {c : Nat} (h : qD n0 N np p u α β) (hp : p < np) (h15 : α 15 0 = 0) (w : wd p r k c a b α β) (hc : c < 10) (hk : (u = -1 → k = 15) ∧ (¬ u = -1 → k < 8)) (w1 : c = 1 → a < 64) (w2 : c = 7 ∨ c = 9 → a < 4) : aS n0 N np p u α β (f_X7_doRule p (nI r) α) (mrule (nI p) (nI (48 * p + 4 * r)) u β) := by
  obtain ⟨h1, h2, h3, h4⟩ := id h
  rw [doRule_eq]
  unfold mrule
  rw [n1]
  rcases take_sim (k := 1) h1 hp (by omega) h15 with ⟨α', β', t1, t2, t3, t4, t5, t6, t7, t8, t9⟩ | ⟨t1, t2, t3, t4, t5⟩
  · have g : gr α β α' β' := .sm t4 t5 (by rw [t9 34 (by decide) (by decide) (by decide)]) (by rw [t8 11 (by decide) (by decide)])
    have hq : qD n0 N np p u α' β' := ⟨t3, by rw [t8 19 (by decide) (by decide)]; exact h2, by rw [t8 20 (by decide) (by decide)]; exact h3, h4.mono g⟩
    rw [t1, t2, pb_s, pb_s, if_neg (by decide), if_pos t7]
    exact (act_sim hq hp t6 (wd_fr w t4 t5) hc hk w1 w2).tr g
  · have g : gr α β (up2 α 15 0 (-11)) (up2 β 32 0 1) := .sm t4 t5 rfl rfl
    have e : ¬ up2 β 32 0 1 32 0 = 0 := by rw [up2_vv]; decide
    rw [t1, t2, pb_s, pb_s, if_pos rfl, if_neg e]
    exact ⟨0, _, _, rfl, rfl, by decide, ⟨t3, h2, h3, h4.mono g⟩, g⟩
end RUL2
