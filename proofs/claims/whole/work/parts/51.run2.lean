/-! run: one rule -/
def gr (α β α' β' : pSt) : Prop := fr α α' ∧ frM β β' ∧ β' 34 0 = β 34 0 ∧ ∀ n, n ≤ 40 → α 11 0 = nI n → ∃ n', n ≤ n' ∧ n' ≤ 40 ∧ α' 11 0 = nI n'
theorem gr.rf {α β : pSt} : gr α β α β := ⟨fr.rf, frM.rf, rfl, fun n h1 h2 => ⟨n, Nat.le_refl _, h1, h2⟩⟩
theorem gr.tr {α β α1 β1 α2 β2 : pSt} (h1 : gr α β α1 β1) (h2 : gr α1 β1 α2 β2) : gr α β α2 β2 := ⟨h1.1.tr h2.1, h1.2.1.tr h2.2.1, h2.2.2.1.trans h1.2.2.1, fun n a b => by
  obtain ⟨n1, b1, b2, b3⟩ := h1.2.2.2 n a b
  obtain ⟨n2, c1, c2, c3⟩ := h2.2.2.2 n1 b2 b3
  exact ⟨n2, by omega, c2, c3⟩⟩
theorem gr.sm {α β α' β' : pSt} (h1 : fr α α') (h2 : frM β β') (h3 : β' 34 0 = β 34 0) (h4 : α' 11 0 = α 11 0) : gr α β α' β' :=
  ⟨h1, h2, h3, fun n a b => ⟨n, Nat.le_refl _, a, h4.trans b⟩⟩
theorem met.mono {α β α' β' : pSt} {u : Int32} (h : met α β u) (g : gr α β α' β') : met α' β' u := by
  rcases h with ⟨h1, h2⟩ | ⟨v, n, h1, h2, h3, h4, h5⟩
  · exact Or.inl ⟨h1, g.2.2.1.trans h2⟩
  · obtain ⟨n', c1, c2, c3⟩ := g.2.2.2 n h3 h2
    exact Or.inr ⟨v, n', h1, c3, c2, by omega, g.2.2.1.trans h5⟩
def qD (n0 N np p : Nat) (u : Int32) (α β : pSt) : Prop := qR n0 N np α β ∧ α 19 0 = nI p ∧ α 20 0 = u ∧ met α β u
def aS (n0 N np p : Nat) (u : Int32) (α β : pSt) (X Y : Option (Int32 × pSt)) : Prop := ∃ (s : Nat) (α' β' : pSt), X = some (nI s, α') ∧ Y = some (nI s, β') ∧ s < 256 ∧ qD n0 N np p u α' β' ∧ gr α β α' β'
theorem aS.tr {n0 N np p : Nat} {u : Int32} {α β α1 β1 : pSt} {X Y : Option (Int32 × pSt)} (g : gr α β α1 β1) (h : aS n0 N np p u α1 β1 X Y) : aS n0 N np p u α β X Y := by
  obtain ⟨s, α', β', h1, h2, h3, h4, h5⟩ := h
  exact ⟨s, α', β', h1, h2, h3, h4, g.tr h5⟩
theorem qR_n {n0 N np : Nat} {α β : pSt} (h : qR n0 N np α β) : α 10 0 = nI np ∧ β 7 0 = nI np ∧ np ≤ 6 ∧ ∀ p, p < np → rp α β p := by
  obtain ⟨⟨n, a1, a2, a3, a4⟩, -, -, -, -, -, -, -, -, -, ⟨c1, c2, c3⟩, -⟩ := h
  have : n = np := (eq_nI (by omega) (by omega)).mp (a2.symm.trans c1)
  subst this
  exact ⟨a2, a3, a1, a4⟩
theorem say {n0 N np p : Nat} {u x a : Int32} {α β : pSt} (h : qD n0 N np p u α β) : aS n0 N np p u α β (pb (f_X8_nameOf (α 20 0) α) fun r α1 => pb (f_X1_append x (α 19 0) r a (α1 21 0) α1) fun _ α2 => some ((0 : Int32), α2)) (pb (f_X10_tell x (nI p) u a β) fun _ β1 => some ((0 : Int32), β1)) := by
  obtain ⟨h1, h2, h3, h4⟩ := h
  obtain ⟨nm, α', β', t1, t2, t3, t4, t5, t6, t7, t8⟩ := tell_sim (x := x) (p := nI p) (a := a) h1 h4
  have g : gr α β α' β' := .sm t5 t6 (by rw [t8 34 (by decide) (by decide)]) (by rw [t7 11 (by decide) (by decide)])
  refine ⟨0, α', β', ?_, ?_, by decide, ⟨t4, by rw [t7 19 (by decide) (by decide)]; exact h2, by rw [t7 20 (by decide) (by decide)]; exact h3, h4.mono g⟩, g⟩
  · rw [h2, h3, t1, pb_s, t2, pb_s]; rfl
  · rw [t3, pb_s]; rfl
def dr2 (q0 : Nat) (a1 : Int32) (α2 : pSt) : Option (Int32 × pSt) := pb (f_X3_aOf (q0) (a1) α2) fun r5 α6 => pb (f_X3_bOf (q0) (a1) α6) fun r8 α9 => pb (f_X3_actOf (q0) (a1) α9) fun r11 α12 => if r11 = 0 then (pb (f_X3_markOf (q0) (a1) α12) fun r15 α16 => pb (f_X7_claim (r15) α16) fun _ α19 => some ((0 : Int32), α19)) else (if r11 = 1 then (pb (f_X7_make (r5) (r8) α12) fun r23 α24 => if r23 = (-1) then (some ((0 : Int32), α24)) else (pb (f_X8_nameOf ((α24 20 0)) α24) fun r27 α28 => pb (f_X1_append (r23) ((α24 19 0)) (r27) (r5) ((α28 21 0)) α28) fun _ α31 => some ((0 : Int32), α31))) else (if r11 = 2 then (if r8 = (-1) then (some ((0 : Int32), α12)) else (pb (f_X8_nameOf ((α12 20 0)) α12) fun r35 α36 => pb (f_X1_append (r8) ((α12 19 0)) (r35) (r5) ((α36 21 0)) α36) fun _ α39 => some ((0 : Int32), α39))) else (if r11 = 3 then (if r5 ≤ 127 then (pl (up2 α12 6 q0 ((α12 6 q0) + r5)) fun α43 => some ((0 : Int32), α43)) else (pl (up2 α12 6 q0 ((α12 6 q0) + ((r5 - 255) - 1))) fun α45 => some ((0 : Int32), α45))) else (if r11 = 4 then (pb (f_X7_stop (q0) α12) fun _ α49 => pb (f_X8_nameOf ((α49 20 0)) α49) fun r52 α53 => pb (f_X1_append (5) ((α49 19 0)) (r52) (r5) ((α53 21 0)) α53) fun _ α56 => some ((0 : Int32), α56)) else (if r11 = 5 then (pb (f_X7_takeSteps (q0) ((r5 * r8)) α12) fun r59 α60 => some ((0 : Int32), α60)) else (if r11 = 6 then (pb (f_X8_nameOf ((α12 20 0)) α12) fun r65 α66 => pb (f_X1_append (6) ((α12 19 0)) (r65) (r5) ((α66 21 0)) α66) fun _ α69 => some ((0 : Int32), α69)) else (if r11 = 7 then (pb (f_X7_write (r5) (r8) α12) fun r72 α73 => if r72 = (-1) then (some ((0 : Int32), α73)) else (pb (f_X8_nameOf ((α73 20 0)) α73) fun r76 α77 => pb (f_X1_append (r72) ((α73 19 0)) (r76) (r5) ((α77 21 0)) α77) fun _ α80 => some ((0 : Int32), α80))) else (if r11 = 8 then (if (α12 6 q0) < r5 then (some ((0 : Int32), α12)) else (some (r8, α12))) else (if r11 = 9 then (pb (f_X7_optionAt (r5) α12) fun r85 α86 => pl (up2 α86 6 q0 r85) fun α88 => some ((0 : Int32), α88)) else (some ((0 : Int32), α12)))))))))))
def dr3 (q0 : Nat) (a1 c a b : Int32) (α : pSt) : Option (Int32 × pSt) := if c = 0 then (pb (f_X3_markOf (q0) (a1) α) fun r15 α16 => pb (f_X7_claim (r15) α16) fun _ α19 => some ((0 : Int32), α19)) else (if c = 1 then (pb (f_X7_make (a) (b) α) fun r23 α24 => if r23 = (-1) then (some ((0 : Int32), α24)) else (pb (f_X8_nameOf ((α24 20 0)) α24) fun r27 α28 => pb (f_X1_append (r23) ((α24 19 0)) (r27) (a) ((α28 21 0)) α28) fun _ α31 => some ((0 : Int32), α31))) else (if c = 2 then (if b = (-1) then (some ((0 : Int32), α)) else (pb (f_X8_nameOf ((α 20 0)) α) fun r35 α36 => pb (f_X1_append (b) ((α 19 0)) (r35) (a) ((α36 21 0)) α36) fun _ α39 => some ((0 : Int32), α39))) else (if c = 3 then (if a ≤ 127 then (pl (up2 α 6 q0 ((α 6 q0) + a)) fun α43 => some ((0 : Int32), α43)) else (pl (up2 α 6 q0 ((α 6 q0) + ((a - 255) - 1))) fun α45 => some ((0 : Int32), α45))) else (if c = 4 then (pb (f_X7_stop (q0) α) fun _ α49 => pb (f_X8_nameOf ((α49 20 0)) α49) fun r52 α53 => pb (f_X1_append (5) ((α49 19 0)) (r52) (a) ((α53 21 0)) α53) fun _ α56 => some ((0 : Int32), α56)) else (if c = 5 then (pb (f_X7_takeSteps (q0) ((a * b)) α) fun r59 α60 => some ((0 : Int32), α60)) else (if c = 6 then (pb (f_X8_nameOf ((α 20 0)) α) fun r65 α66 => pb (f_X1_append (6) ((α 19 0)) (r65) (a) ((α66 21 0)) α66) fun _ α69 => some ((0 : Int32), α69)) else (if c = 7 then (pb (f_X7_write (a) (b) α) fun r72 α73 => if r72 = (-1) then (some ((0 : Int32), α73)) else (pb (f_X8_nameOf ((α73 20 0)) α73) fun r76 α77 => pb (f_X1_append (r72) ((α73 19 0)) (r76) (a) ((α77 21 0)) α77) fun _ α80 => some ((0 : Int32), α80))) else (if c = 8 then (if (α 6 q0) < a then (some ((0 : Int32), α)) else (some (b, α))) else (if c = 9 then (pb (f_X7_optionAt (a) α) fun r85 α86 => pl (up2 α86 6 q0 r85) fun α88 => some ((0 : Int32), α88)) else (some ((0 : Int32), α)))))))))))
def ac3 (a0 a1 a2 c a b : Int32) (β : pSt) : Option (Int32 × pSt) := if c = 0 then (if (β 34 0) = 0 then (pg (pin a1 (288)) (pg (pin (β 10 (a1.toNatClampNeg)) (8)) (pl (up2 β 35 ((β 10 (a1.toNatClampNeg)).toNatClampNeg) a0) fun β8 => some ((0 : Int32), β8)))) else (some ((0 : Int32), β))) else (if c = 1 then (pb (f_X10_find (a) β) fun r10 β11 => if r10 < 0 then (if (β11 15 0) = 40 then (pb (f_X10_tell (4) (a0) (a2) (a) β11) fun _ β23 => some ((0 : Int32), β23)) else (pb (f_X10_come (a) (b) (a0) ((β11 33 0)) β11) fun _ β16 => if (β16 34 0) = 0 then (some ((0 : Int32), β16)) else (pb (f_X10_tell (7) (a0) (a2) (a) β16) fun _ β20 => some ((0 : Int32), β20)))) else (pb (f_X10_tell (3) (a0) (a2) (a) β11) fun _ β26 => some ((0 : Int32), β26))) else (if c = 2 then (pb (f_X10_tell (b) (a0) (a2) (a) β) fun _ β30 => some ((0 : Int32), β30)) else (if c = 3 then (pg (pin a0 (6)) (if a ≤ 127 then (pg (pin a0 (6)) (pl (up2 β 11 (a0.toNatClampNeg) ((β 11 (a0.toNatClampNeg)) + a)) fun β36 => some ((0 : Int32), β36))) else (pg (pin a0 (6)) (pl (up2 β 11 (a0.toNatClampNeg) ((β 11 (a0.toNatClampNeg)) + (a - 256))) fun β38 => some ((0 : Int32), β38))))) else (if c = 4 then (pb (f_X10_tell (5) (a0) (a2) (a) β) fun _ β41 => pg (pin a0 (6)) (pl (up2 β41 13 (a0.toNatClampNeg) 1) fun β44 => if (β44 22 0) = 0 then (pl (up2 β44 32 0 2) fun β46 => some ((0 : Int32), β46)) else (pl (up2 β44 32 0 (β44 32 0)) fun β47 => some ((0 : Int32), β47)))) else (if c = 5 then (pb (f_X10_step (a0) ((a * b)) β) fun _ β50 => some ((0 : Int32), β50)) else (if c = 6 then (pb (f_X10_tell (6) (a0) (a2) (a) β) fun _ β54 => some ((0 : Int32), β54)) else (if c = 7 then (pg (pin a (4)) (if (β 23 (a.toNatClampNeg)) = 100 then (pb (f_X10_tell (4) (a0) (a2) (a) β) fun _ β66 => some ((0 : Int32), β66)) else (pg (pin a (4)) (pg (pin ((100 * a) + (β 23 (a.toNatClampNeg))) (400)) (pl (up2 β 25 (((100 * a) + (β 23 (a.toNatClampNeg))).toNatClampNeg) b) fun β61 => pg (pin a (4)) (pg (pin a (4)) (pl (up2 β61 23 (a.toNatClampNeg) ((β61 23 (a.toNatClampNeg)) + 1)) fun β64 => some ((0 : Int32), β64)))))))) else (if c = 8 then (pg (pin a0 (6)) (if (β 11 (a0.toNatClampNeg)) < a then (some ((0 : Int32), β)) else (some (b, β)))) else (pg (pin a (4)) (pg (pin a0 (6)) (pl (up2 β 11 (a0.toNatClampNeg) (β 21 (a.toNatClampNeg))) fun β73 => some ((0 : Int32), β73))))))))))))
theorem dr3_0 {q0 : Nat} {a1 a b : Int32} {α : pSt} : dr3 q0 a1 (nI 0) a b α = (pb (f_X3_markOf (q0) (a1) α) fun r15 α16 => pb (f_X7_claim (r15) α16) fun _ α19 => some ((0 : Int32), α19)) := by
  unfold dr3; rw [if_pos (by decide)]
theorem ac3_0 {a0 a1 a2 a b : Int32} {β : pSt} : ac3 a0 a1 a2 (nI 0) a b β = (if (β 34 0) = 0 then (pg (pin a1 (288)) (pg (pin (β 10 (a1.toNatClampNeg)) (8)) (pl (up2 β 35 ((β 10 (a1.toNatClampNeg)).toNatClampNeg) a0) fun β8 => some ((0 : Int32), β8)))) else (some ((0 : Int32), β))) := by
  unfold ac3; rw [if_pos (by decide)]
theorem dr3_1 {q0 : Nat} {a1 a b : Int32} {α : pSt} : dr3 q0 a1 (nI 1) a b α = (pb (f_X7_make (a) (b) α) fun r23 α24 => if r23 = (-1) then (some ((0 : Int32), α24)) else (pb (f_X8_nameOf ((α24 20 0)) α24) fun r27 α28 => pb (f_X1_append (r23) ((α24 19 0)) (r27) (a) ((α28 21 0)) α28) fun _ α31 => some ((0 : Int32), α31))) := by
  unfold dr3; rw [if_neg (by decide), if_pos (by decide)]
theorem ac3_1 {a0 a1 a2 a b : Int32} {β : pSt} : ac3 a0 a1 a2 (nI 1) a b β = (pb (f_X10_find (a) β) fun r10 β11 => if r10 < 0 then (if (β11 15 0) = 40 then (pb (f_X10_tell (4) (a0) (a2) (a) β11) fun _ β23 => some ((0 : Int32), β23)) else (pb (f_X10_come (a) (b) (a0) ((β11 33 0)) β11) fun _ β16 => if (β16 34 0) = 0 then (some ((0 : Int32), β16)) else (pb (f_X10_tell (7) (a0) (a2) (a) β16) fun _ β20 => some ((0 : Int32), β20)))) else (pb (f_X10_tell (3) (a0) (a2) (a) β11) fun _ β26 => some ((0 : Int32), β26))) := by
  unfold ac3; rw [if_neg (by decide), if_pos (by decide)]
theorem dr3_2 {q0 : Nat} {a1 a b : Int32} {α : pSt} : dr3 q0 a1 (nI 2) a b α = (if b = (-1) then (some ((0 : Int32), α)) else (pb (f_X8_nameOf ((α 20 0)) α) fun r35 α36 => pb (f_X1_append (b) ((α 19 0)) (r35) (a) ((α36 21 0)) α36) fun _ α39 => some ((0 : Int32), α39))) := by
  unfold dr3; rw [if_neg (by decide), if_neg (by decide), if_pos (by decide)]
theorem ac3_2 {a0 a1 a2 a b : Int32} {β : pSt} : ac3 a0 a1 a2 (nI 2) a b β = (pb (f_X10_tell (b) (a0) (a2) (a) β) fun _ β30 => some ((0 : Int32), β30)) := by
  unfold ac3; rw [if_neg (by decide), if_neg (by decide), if_pos (by decide)]
theorem dr3_3 {q0 : Nat} {a1 a b : Int32} {α : pSt} : dr3 q0 a1 (nI 3) a b α = (if a ≤ 127 then (pl (up2 α 6 q0 ((α 6 q0) + a)) fun α43 => some ((0 : Int32), α43)) else (pl (up2 α 6 q0 ((α 6 q0) + ((a - 255) - 1))) fun α45 => some ((0 : Int32), α45))) := by
  unfold dr3; rw [if_neg (by decide), if_neg (by decide), if_neg (by decide), if_pos (by decide)]
theorem ac3_3 {a0 a1 a2 a b : Int32} {β : pSt} : ac3 a0 a1 a2 (nI 3) a b β = (pg (pin a0 (6)) (if a ≤ 127 then (pg (pin a0 (6)) (pl (up2 β 11 (a0.toNatClampNeg) ((β 11 (a0.toNatClampNeg)) + a)) fun β36 => some ((0 : Int32), β36))) else (pg (pin a0 (6)) (pl (up2 β 11 (a0.toNatClampNeg) ((β 11 (a0.toNatClampNeg)) + (a - 256))) fun β38 => some ((0 : Int32), β38))))) := by
  unfold ac3; rw [if_neg (by decide), if_neg (by decide), if_neg (by decide), if_pos (by decide)]
theorem dr3_4 {q0 : Nat} {a1 a b : Int32} {α : pSt} : dr3 q0 a1 (nI 4) a b α = (pb (f_X7_stop (q0) α) fun _ α49 => pb (f_X8_nameOf ((α49 20 0)) α49) fun r52 α53 => pb (f_X1_append (5) ((α49 19 0)) (r52) (a) ((α53 21 0)) α53) fun _ α56 => some ((0 : Int32), α56)) := by
  unfold dr3; rw [if_neg (by decide), if_neg (by decide), if_neg (by decide), if_neg (by decide), if_pos (by decide)]
theorem ac3_4 {a0 a1 a2 a b : Int32} {β : pSt} : ac3 a0 a1 a2 (nI 4) a b β = (pb (f_X10_tell (5) (a0) (a2) (a) β) fun _ β41 => pg (pin a0 (6)) (pl (up2 β41 13 (a0.toNatClampNeg) 1) fun β44 => if (β44 22 0) = 0 then (pl (up2 β44 32 0 2) fun β46 => some ((0 : Int32), β46)) else (pl (up2 β44 32 0 (β44 32 0)) fun β47 => some ((0 : Int32), β47)))) := by
  unfold ac3; rw [if_neg (by decide), if_neg (by decide), if_neg (by decide), if_neg (by decide), if_pos (by decide)]
theorem dr3_5 {q0 : Nat} {a1 a b : Int32} {α : pSt} : dr3 q0 a1 (nI 5) a b α = (pb (f_X7_takeSteps (q0) ((a * b)) α) fun r59 α60 => some ((0 : Int32), α60)) := by
  unfold dr3; rw [if_neg (by decide), if_neg (by decide), if_neg (by decide), if_neg (by decide), if_neg (by decide), if_pos (by decide)]
theorem ac3_5 {a0 a1 a2 a b : Int32} {β : pSt} : ac3 a0 a1 a2 (nI 5) a b β = (pb (f_X10_step (a0) ((a * b)) β) fun _ β50 => some ((0 : Int32), β50)) := by
  unfold ac3; rw [if_neg (by decide), if_neg (by decide), if_neg (by decide), if_neg (by decide), if_neg (by decide), if_pos (by decide)]
theorem dr3_6 {q0 : Nat} {a1 a b : Int32} {α : pSt} : dr3 q0 a1 (nI 6) a b α = (pb (f_X8_nameOf ((α 20 0)) α) fun r65 α66 => pb (f_X1_append (6) ((α 19 0)) (r65) (a) ((α66 21 0)) α66) fun _ α69 => some ((0 : Int32), α69)) := by
  unfold dr3; rw [if_neg (by decide), if_neg (by decide), if_neg (by decide), if_neg (by decide), if_neg (by decide), if_neg (by decide), if_pos (by decide)]
theorem ac3_6 {a0 a1 a2 a b : Int32} {β : pSt} : ac3 a0 a1 a2 (nI 6) a b β = (pb (f_X10_tell (6) (a0) (a2) (a) β) fun _ β54 => some ((0 : Int32), β54)) := by
  unfold ac3; rw [if_neg (by decide), if_neg (by decide), if_neg (by decide), if_neg (by decide), if_neg (by decide), if_neg (by decide), if_pos (by decide)]
theorem dr3_7 {q0 : Nat} {a1 a b : Int32} {α : pSt} : dr3 q0 a1 (nI 7) a b α = (pb (f_X7_write (a) (b) α) fun r72 α73 => if r72 = (-1) then (some ((0 : Int32), α73)) else (pb (f_X8_nameOf ((α73 20 0)) α73) fun r76 α77 => pb (f_X1_append (r72) ((α73 19 0)) (r76) (a) ((α77 21 0)) α77) fun _ α80 => some ((0 : Int32), α80))) := by
  unfold dr3; rw [if_neg (by decide), if_neg (by decide), if_neg (by decide), if_neg (by decide), if_neg (by decide), if_neg (by decide), if_neg (by decide), if_pos (by decide)]
theorem ac3_7 {a0 a1 a2 a b : Int32} {β : pSt} : ac3 a0 a1 a2 (nI 7) a b β = (pg (pin a (4)) (if (β 23 (a.toNatClampNeg)) = 100 then (pb (f_X10_tell (4) (a0) (a2) (a) β) fun _ β66 => some ((0 : Int32), β66)) else (pg (pin a (4)) (pg (pin ((100 * a) + (β 23 (a.toNatClampNeg))) (400)) (pl (up2 β 25 (((100 * a) + (β 23 (a.toNatClampNeg))).toNatClampNeg) b) fun β61 => pg (pin a (4)) (pg (pin a (4)) (pl (up2 β61 23 (a.toNatClampNeg) ((β61 23 (a.toNatClampNeg)) + 1)) fun β64 => some ((0 : Int32), β64)))))))) := by
  unfold ac3; rw [if_neg (by decide), if_neg (by decide), if_neg (by decide), if_neg (by decide), if_neg (by decide), if_neg (by decide), if_neg (by decide), if_pos (by decide)]
theorem dr3_8 {q0 : Nat} {a1 a b : Int32} {α : pSt} : dr3 q0 a1 (nI 8) a b α = (if (α 6 q0) < a then (some ((0 : Int32), α)) else (some (b, α))) := by
  unfold dr3; rw [if_neg (by decide), if_neg (by decide), if_neg (by decide), if_neg (by decide), if_neg (by decide), if_neg (by decide), if_neg (by decide), if_neg (by decide), if_pos (by decide)]
theorem ac3_8 {a0 a1 a2 a b : Int32} {β : pSt} : ac3 a0 a1 a2 (nI 8) a b β = (pg (pin a0 (6)) (if (β 11 (a0.toNatClampNeg)) < a then (some ((0 : Int32), β)) else (some (b, β)))) := by
  unfold ac3; rw [if_neg (by decide), if_neg (by decide), if_neg (by decide), if_neg (by decide), if_neg (by decide), if_neg (by decide), if_neg (by decide), if_neg (by decide), if_pos (by decide)]
theorem dr3_9 {q0 : Nat} {a1 a b : Int32} {α : pSt} : dr3 q0 a1 (nI 9) a b α = (pb (f_X7_optionAt (a) α) fun r85 α86 => pl (up2 α86 6 q0 r85) fun α88 => some ((0 : Int32), α88)) := by
  unfold dr3; rw [if_neg (by decide), if_neg (by decide), if_neg (by decide), if_neg (by decide), if_neg (by decide), if_neg (by decide), if_neg (by decide), if_neg (by decide), if_neg (by decide), if_pos (by decide)]
theorem ac3_9 {a0 a1 a2 a b : Int32} {β : pSt} : ac3 a0 a1 a2 (nI 9) a b β = (pg (pin a (4)) (pg (pin a0 (6)) (pl (up2 β 11 (a0.toNatClampNeg) (β 21 (a.toNatClampNeg))) fun β73 => some ((0 : Int32), β73)))) := by
  unfold ac3; rw [if_neg (by decide), if_neg (by decide), if_neg (by decide), if_neg (by decide), if_neg (by decide), if_neg (by decide), if_neg (by decide), if_neg (by decide), if_neg (by decide)]
theorem doRule_eq {q0 : Nat} {a1 : Int32} {α : pSt} : f_X7_doRule q0 a1 α = pb (f_X7_takeSteps q0 1 α) fun r1 α2 => if r1 = 0 then some ((0 : Int32), α2) else dr2 q0 a1 α2 := rfl
theorem part_eq {p i : Nat} {α : pSt} (h : i < 48) : f_X3_part p (nI i) α = some (α (60 + p) i, α) := by
  unfold f_X3_part
  rw [if_neg (nI_n0 (by omega)), if_neg (by rw [n48, le_nI (by omega) (by omega)]; omega), pg_t (pin_nI h (by decide)), cl_nI (by omega)]
theorem fr4 (r : Nat) : 4 * nI r = nI (4 * r) := by rw [n4, pk_mul]
theorem markOf_eq {p r : Nat} {α : pSt} (h : r < 12) : f_X3_markOf p (nI r) α = some (α (60 + p) (4 * r), α) := by
  unfold f_X3_markOf; rw [fr4, part_eq (by omega), pb_s]
theorem actOf_eq {p r : Nat} {α : pSt} (h : r < 12) : f_X3_actOf p (nI r) α = some (α (60 + p) (4 * r + 1), α) := by
  unfold f_X3_actOf; rw [fr4, nI_1, part_eq (by omega), pb_s]
theorem aOf_eq {p r : Nat} {α : pSt} (h : r < 12) : f_X3_aOf p (nI r) α = some (α (60 + p) (4 * r + 2), α) := by
  unfold f_X3_aOf; rw [fr4, n2, nI_add, part_eq (by omega), pb_s]
theorem bOf_eq {p r : Nat} {α : pSt} (h : r < 12) : f_X3_bOf p (nI r) α = some (α (60 + p) (4 * r + 3), α) := by
  unfold f_X3_bOf; rw [fr4, n3, nI_add, part_eq (by omega), pb_s]
def wd (p r k c a b : Nat) (α β : pSt) : Prop := (p < 6 ∧ r < 12) ∧ (α (60 + p) (4 * r) = nI k ∧ α (60 + p) (4 * r + 1) = nI c ∧ α (60 + p) (4 * r + 2) = nI a ∧ α (60 + p) (4 * r + 3) = nI b) ∧ (β 10 (48 * p + 4 * r) = nI k ∧ β 10 (48 * p + 4 * r + 1) = nI c ∧ β 10 (48 * p + 4 * r + 2) = nI a ∧ β 10 (48 * p + 4 * r + 3) = nI b) ∧ a < 256 ∧ b < 256
theorem dr2_w {p r k c a b : Nat} {α β : pSt} (w : wd p r k c a b α β) : dr2 p (nI r) α = dr3 p (nI r) (nI c) (nI a) (nI b) α := by
  obtain ⟨⟨w1, w2⟩, ⟨w3, w4, w5, w6⟩, -⟩ := w
  unfold dr2
  rw [aOf_eq w2, pb_s, bOf_eq w2, pb_s, actOf_eq w2, pb_s, w4, w5, w6]
  rfl
theorem act_w {p r k c a b : Nat} {u : Int32} {α β : pSt} (w : wd p r k c a b α β) : f_X10_act (nI p) (nI (48 * p + 4 * r)) u β = ac3 (nI p) (nI (48 * p + 4 * r)) u (nI c) (nI a) (nI b) β := by
  obtain ⟨⟨w1, w2⟩, -, ⟨w3, w4, w5, w6⟩, -⟩ := w
  have e1 : nI (48 * p + 4 * r) + 1 = nI (48 * p + 4 * r + 1) := nI_1 _
  have e2 : nI (48 * p + 4 * r) + 2 = nI (48 * p + 4 * r + 2) := by rw [n2, nI_add]
  have e3 : nI (48 * p + 4 * r) + 3 = nI (48 * p + 4 * r + 3) := by rw [n3, nI_add]
  unfold f_X10_act
  rw [e1, e2, e3, pg_t (pin_nI (by omega) (by decide)), pg_t (pin_nI (by omega) (by decide)), pg_t (pin_nI (by omega) (by decide)), cl_nI (show 48 * p + 4 * r + 1 ≤ 1000000 by omega), cl_nI (show 48 * p + 4 * r + 2 ≤ 1000000 by omega), cl_nI (show 48 * p + 4 * r + 3 ≤ 1000000 by omega), w4, w5, w6]
  rfl
section RUL
variable {n0 N np p r k a b : Nat} {u : Int32} {α β : pSt}
theorem a_claim (h : qD n0 N np p u α β) (w : wd p r k 0 a b α β) (hk : (u = -1 → k = 15) ∧ (¬ u = -1 → k < 8)) : aS n0 N np p u α β (dr2 p (nI r) α) (f_X10_act (nI p) (nI (48 * p + 4 * r)) u β) := by
  rw [dr2_w w, act_w w]
  obtain ⟨⟨w1, w2⟩, ⟨w3, w4, w5, w6⟩, ⟨v3, v4, v5, v6⟩, -, -⟩ := w
  obtain ⟨h1, h2, h3, h4⟩ := id h
  rw [dr3_0, ac3_0, markOf_eq w2, pb_s, w3]
  rcases id h4 with ⟨q1, q2⟩ | ⟨v, n, q1, q2, q3, q4, q5⟩
  · have : k = 15 := hk.1 q1
    subst this
    refine ⟨0, α, β, ?_, ?_, by decide, h, .rf⟩
    · unfold f_X7_claim
      rw [if_neg (by decide), if_pos (by decide)]; rfl
    · rw [q2]; rfl
  · have hk8 : k < 8 := hk.2 (by rw [q1]; exact nI_m1 (by omega))
    obtain ⟨a1, a2, a3, a4, a5, a6, a7, a8, a9, a10, a11, a12⟩ := h1
    have g : gr α β (up2 α 24 k (nI p)) (up2 β 35 k (nI p)) := .sm (fr.up (by omega)) (frM.up (by omega)) rfl rfl
    refine ⟨0, up2 α 24 k (nI p), up2 β 35 k (nI p), ?_, ?_, by decide, ⟨⟨rP_k a1 (by intro c hc; simp (disch := omega) only [up2_ne]) ⟨rfl, rfl, rfl, rfl, rfl, rfl⟩ ⟨rfl, rfl, rfl, rfl, rfl, rfl, rfl⟩, a2, a3, rs_k a4 (by intro c hc; simp (disch := omega) only [up2_ne]) rfl ⟨rfl, rfl⟩, a5, a6, a7, a8, a9, fun i hi => ?_, a11, a12⟩, h2, h3, h4.mono g⟩, g⟩
    · unfold f_X7_claim
      rw [if_neg (nI_n0 (by omega)), if_neg (by rw [n8, le_nI (by omega) (by omega)]; omega), pg_t (pin_nI hk8 (by decide)), cl_nI (by omega), h2]; rfl
    · rw [if_pos q5, pg_t (pin_nI (by omega) (by decide)), cl_nI (show 48 * p + 4 * r ≤ 1000000 by omega), v3, pg_t (pin_nI hk8 (by decide)), cl_nI (by omega)]; rfl
    · by_cases hi2 : i = k
      · subst hi2; rw [up2_vv, up2_vv]
      · rw [up2_vn hi2, up2_vn hi2]; exact a10 i hi
theorem q_v (h : qD n0 N np p u α β) (x : Int32) : qD n0 N np p u (up2 α 6 p x) (up2 β 11 p x) ∧ gr α β (up2 α 6 p x) (up2 β 11 p x) := by
  obtain ⟨⟨a1, a2, a3, a4, a5, a6, a7, a8, a9, a10, a11, a12⟩, h2, h3, h4⟩ := h
  have g : gr α β (up2 α 6 p x) (up2 β 11 p x) := .sm (fr.up (by omega)) (frM.up (by omega)) rfl rfl
  exact ⟨⟨⟨rP_v a1, a2, a3, rs_k a4 (by intro c hc; simp (disch := omega) only [up2_ne]) rfl ⟨rfl, rfl⟩, a5, a6, a7, a8, a9, a10, a11, a12⟩, h2, h3, h4.mono g⟩, g⟩
theorem a_add (h : qD n0 N np p u α β) (hp : p < np) (w : wd p r k 3 a b α β) : aS n0 N np p u α β (dr2 p (nI r) α) (f_X10_act (nI p) (nI (48 * p + 4 * r)) u β) := by
  rw [dr2_w w, act_w w]
  obtain ⟨⟨w1, w2⟩, -⟩ := w
  have e6 : α 6 p = β 11 p := ((qR_n h.1).2.2.2 p hp).2.2.1
  rw [dr3_3, ac3_3, pg_t (pin_nI w1 (by decide)), pg_t (pin_nI w1 (by decide)), cl_nI (by omega)]
  by_cases c : nI a ≤ 127
  · obtain ⟨q1, q2⟩ := q_v h (α 6 p + nI a)
    exact ⟨0, _, _, by rw [if_pos c]; rfl, by rw [if_pos c, ← e6]; rfl, by decide, q1, q2⟩
  · obtain ⟨q1, q2⟩ := q_v h (α 6 p + ((nI a - 255) - 1))
    refine ⟨0, _, _, by rw [if_neg c]; rfl, ?_, by decide, q1, q2⟩
    have e : nI a - 256 = (nI a - 255) - 1 := by
      rw [Int32.sub_eq_add_neg, Int32.sub_eq_add_neg, Int32.sub_eq_add_neg, Int32.add_assoc]; rfl
    rw [if_neg c, pg_t (pin_nI w1 (by decide)), ← e6, e]; rfl
theorem a_tell (h : qD n0 N np p u α β) (w : wd p r k 2 a b α β) : aS n0 N np p u α β (dr2 p (nI r) α) (f_X10_act (nI p) (nI (48 * p + 4 * r)) u β) := by
  rw [dr2_w w, act_w w]
  have hb : b < 256 := w.2.2.2.2
  rw [dr3_2, ac3_2, if_neg (nI_m1 (by omega))]
  exact say h
theorem a_change (h : qD n0 N np p u α β) (w : wd p r k 6 a b α β) : aS n0 N np p u α β (dr2 p (nI r) α) (f_X10_act (nI p) (nI (48 * p + 4 * r)) u β) := by
  rw [dr2_w w, act_w w]
  rw [dr3_6, ac3_6]
  exact say h
theorem a_skip (h : qD n0 N np p u α β) (hp : p < np) (w : wd p r k 8 a b α β) : aS n0 N np p u α β (dr2 p (nI r) α) (f_X10_act (nI p) (nI (48 * p + 4 * r)) u β) := by
  rw [dr2_w w, act_w w]
  have hb : b < 256 := w.2.2.2.2
  obtain ⟨⟨w1, w2⟩, -⟩ := w
  have e6 : α 6 p = β 11 p := ((qR_n h.1).2.2.2 p hp).2.2.1
  rw [dr3_8, ac3_8, pg_t (pin_nI w1 (by decide)), cl_nI (by omega), ← e6]
  by_cases c : α 6 p < nI a
  · exact ⟨0, α, β, by rw [if_pos c]; rfl, by rw [if_pos c]; rfl, by decide, h, .rf⟩
  · exact ⟨b, α, β, by rw [if_neg c], by rw [if_neg c], hb, h, .rf⟩
theorem a_ask (h : qD n0 N np p u α β) (w : wd p r k 9 a b α β) (ha : a < 4) : aS n0 N np p u α β (dr2 p (nI r) α) (f_X10_act (nI p) (nI (48 * p + 4 * r)) u β) := by
  rw [dr2_w w, act_w w]
  obtain ⟨⟨w1, w2⟩, -⟩ := w
  have eo : α 23 a = β 21 a := h.1.2.2.1 a ha
  rw [dr3_9, ac3_9, pg_t (pin_nI ha (by decide)), pg_t (pin_nI w1 (by decide)), cl_nI (show p ≤ 1000000 by omega), cl_nI (show a ≤ 1000000 by omega), ← eo]
  obtain ⟨q1, q2⟩ := q_v h (α 23 a)
  refine ⟨0, _, _, ?_, rfl, by decide, q1, q2⟩
  unfold f_X7_optionAt
  rw [if_neg (nI_n0 (by omega)), if_neg (by rw [n4, le_nI (by omega) (by omega)]; omega), pg_t (pin_nI ha (by decide)), cl_nI (by omega)]
  rfl
theorem a_work (h : qD n0 N np p u α β) (hp : p < np) (h15 : α 15 0 = 0) (w : wd p r k 5 a b α β) : aS n0 N np p u α β (dr2 p (nI r) α) (f_X10_act (nI p) (nI (48 * p + 4 * r)) u β) := by
  rw [dr2_w w, act_w w]
  obtain ⟨-, -, -, ha, hb⟩ := w
  have hab : a * b ≤ 255 * 255 := Nat.mul_le_mul (by omega) (by omega)
  obtain ⟨h1, h2, h3, h4⟩ := h
  rw [dr3_5, ac3_5, pk_mul]
  rcases take_sim (k := a * b) h1 hp (by omega) h15 with ⟨α', β', t1, t2, t3, t4, t5, t6, t7, t8, t9⟩ | ⟨t1, t2, t3, t4, t5⟩
  · have g : gr α β α' β' := .sm t4 t5 (by rw [t9 34 (by decide) (by decide) (by decide)]) (by rw [t8 11 (by decide) (by decide)])
    exact ⟨0, α', β', by rw [t1]; rfl, by rw [t2]; rfl, by decide, ⟨t3, by rw [t8 19 (by decide) (by decide)]; exact h2, by rw [t8 20 (by decide) (by decide)]; exact h3, h4.mono g⟩, g⟩
  · have g : gr α β (up2 α 15 0 (-11)) (up2 β 32 0 1) := .sm t4 t5 rfl rfl
    exact ⟨0, _, _, by rw [t1]; rfl, by rw [t2]; rfl, by decide, ⟨t3, h2, h3, h4.mono g⟩, g⟩
theorem a_write (h : qD n0 N np p u α β) (w : wd p r k 7 a b α β) (ha : a < 4) : aS n0 N np p u α β (dr2 p (nI r) α) (f_X10_act (nI p) (nI (48 * p + 4 * r)) u β) := by
  rw [dr2_w w, act_w w]
  have hb : b < 256 := w.2.2.2.2
  obtain ⟨⟨a1, a2, a3, a4, a5, a6, a7, a8, a9, a10, a11, a12⟩, h2, h3, h4⟩ := id h
  obtain ⟨n, b1, b2, b3, b4⟩ := a4 a ha
  have hcp : pcap (7 + a) = 100 := by unfold pcap; rw [if_neg (by omega)]
  have e5 : f_X5_at (nI a) α = some (some (7 + a), α) := by
    unfold f_X5_at
    rw [if_neg (nI_n0 (by omega)), if_neg (by rw [n4, le_nI (by omega) (by omega)]; omega), pg_t (pin_nI ha (by decide)), cl_nI (by omega)]
  rw [dr3_7, ac3_7, pg_t (pin_nI ha (by decide)), cl_nI (show a ≤ 1000000 by omega), b3]
  by_cases hf : n = 100
  · subst hf
    have ew : f_X7_write (nI a) (nI b) α = some (4, α) := by
      unfold f_X7_write
      rw [e5, pb_s, pO_1, pg_t (by rw [decide_eq_true_eq]; omega), append6_full (by rw [hcp]; exact b2), pb_s, if_pos rfl]
    rw [ew, pb_s, if_neg (by decide), if_pos (by decide)]
    exact say h
  · have ew : f_X7_write (nI a) (nI b) α = some (-1, up2 (up2 α (40 + (7 + a)) n (nI b)) 0 (7 + a) (nI (n + 1))) := by
      unfold f_X7_write
      rw [e5, pb_s, pO_1, pg_t (by rw [decide_eq_true_eq]; omega), append6_ok (by rw [hcp]; omega) b2, pb_s, if_neg (by decide), and255 hb]
    have em : 100 * nI a + nI n = nI (100 * a + n) := by rw [show (100 : Int32) = nI 100 from rfl, pk_mul, nI_add]
    rw [ew, pb_s, if_pos rfl, if_neg (by rw [show (100 : Int32) = nI 100 from rfl, eq_nI (by omega) (by omega)]; exact hf), pg_t (pin_nI ha (by decide)), em, pg_t (pin_nI (by omega) (by decide)), cl_nI (show 100 * a + n ≤ 1000000 by omega), pl_s, pg_t (pin_nI ha (by decide)), pg_t (pin_nI ha (by decide)), pl_s]
    have e23 : up2 β 25 (100 * a + n) (nI b) 23 a = nI n := b3
    rw [e23, nI_1]
    have fa : ∀ d, ¬ d = 0 → ¬ d = 40 + (7 + a) → up2 (up2 α (40 + (7 + a)) n (nI b)) 0 (7 + a) (nI (n + 1)) d = α d := fun d d1 d2 => by rw [up2_ne d1, up2_ne d2]
    have fb : ∀ d, ¬ d = 23 → ¬ d = 25 → up2 (up2 β 25 (100 * a + n) (nI b)) 23 a (nI (n + 1)) d = β d := fun d d1 d2 => by rw [up2_ne d1, up2_ne d2]
    have f0 : ∀ i, ¬ i = 7 + a → up2 (up2 α (40 + (7 + a)) n (nI b)) 0 (7 + a) (nI (n + 1)) 0 i = α 0 i := fun i hi => by rw [up2_vn hi, up2_ne (by omega)]
    have f01 : up2 (up2 α (40 + (7 + a)) n (nI b)) 0 (7 + a) (nI (n + 1)) 0 (7 + a) = nI (n + 1) := by rw [up2_vv]
    have f40 : up2 (up2 α (40 + (7 + a)) n (nI b)) 0 (7 + a) (nI (n + 1)) (40 + (7 + a)) = up2 α (40 + (7 + a)) n (nI b) (40 + (7 + a)) := by rw [up2_ne (by omega)]
    have g : gr α β (up2 (up2 α (40 + (7 + a)) n (nI b)) 0 (7 + a) (nI (n + 1))) (up2 (up2 β 25 (100 * a + n) (nI b)) 23 a (nI (n + 1))) := .sm ((fr.up (by omega)).tr (fr.up0 (by omega))) ((frM.up (by omega)).tr (frM.up (by omega))) (by rw [fb 34 (by decide) (by decide)]) (by rw [fa 11 (by decide) (by omega)])
    generalize hX : up2 (up2 α (40 + (7 + a)) n (nI b)) 0 (7 + a) (nI (n + 1)) = X at fa f0 f01 f40 g ⊢
    generalize hY : up2 (up2 β 25 (100 * a + n) (nI b)) 23 a (nI (n + 1)) = Y at fb g ⊢
    have y23 : ∀ i, ¬ i = a → Y 23 i = β 23 i := fun i hi => by rw [← hY, up2_vn hi, up2_ne (by decide)]
    have y231 : Y 23 a = nI (n + 1) := by rw [← hY, up2_vv]
    have y25 : ∀ i, ¬ i = 100 * a + n → Y 25 i = β 25 i := fun i hi => by rw [← hY, up2_ne (by decide), up2_vn hi]
    have y251 : Y 25 (100 * a + n) = nI b := by rw [← hY, up2_ne (by decide), up2_vv]
    have x40 : ∀ i, ¬ i = n → X (40 + (7 + a)) i = α (40 + (7 + a)) i := fun i hi => by rw [f40, up2_vn hi]
    have x401 : X (40 + (7 + a)) n = nI b := by rw [f40, up2_vv]
    refine ⟨0, X, Y, rfl, rfl, by decide, ⟨⟨?_, ?_, ?_, ?_, ?_, ?_, ?_, ?_, ?_, ?_, ?_, ?_⟩, ?_, ?_, h4.mono g⟩, g⟩
    · obtain ⟨m, m1, m2, m3, m4⟩ := a1
      refine ⟨m, m1, by rw [fa 10 (by decide) (by omega)]; exact m2, by rw [fb 7 (by decide) (by decide)]; exact m3, fun q hq => (m4 q hq).c (by rw [fa 4 (by decide) (by omega)]) (by rw [fa 5 (by decide) (by omega)]) (by rw [fa 6 (by decide) (by omega)]) (by rw [fa 8 (by decide) (by omega)]) (by rw [fa 9 (by decide) (by omega)]) (fa _ (by omega) (by omega)) (by rw [fb 8 (by decide) (by decide)]) (by rw [fb 9 (by decide) (by decide)]) (fun i _ => by rw [fb 10 (by decide) (by decide)]) (by rw [fb 11 (by decide) (by decide)]) (by rw [fb 13 (by decide) (by decide)]) (by rw [fb 14 (by decide) (by decide)])⟩
    · unfold q2 ru
      rw [fa 11 (by decide) (by omega), fa 25 (by decide) (by omega), fa 26 (by decide) (by omega), fa 27 (by decide) (by omega), fa 28 (by decide) (by omega), fa 29 (by decide) (by omega), fb 15 (by decide) (by decide), fb 16 (by decide) (by decide), fb 17 (by decide) (by decide), fb 18 (by decide) (by decide), fb 19 (by decide) (by decide), fb 20 (by decide) (by decide)]
      exact a2
    · unfold q3
      rw [fa 23 (by decide) (by omega), fb 21 (by decide) (by decide)]
      exact a3
    · intro q hq
      by_cases hqa : q = a
      · subst hqa
        refine ⟨n + 1, by omega, f01, y231, fun i hi => ?_⟩
        by_cases hin : i = n
        · subst hin; rw [x401, y251]
        · rw [x40 i hin, y25 _ (by omega)]; exact b4 i (by omega)
      · exact (a4 q hq).c (f0 _ (by omega)) (fa _ (by omega) (by omega)) (y23 q hqa) (fun i hi => y25 _ (by omega))
    · unfold rM
      rw [fa 12 (by decide) (by omega), fa 30 (by decide) (by omega), fb 26 (by decide) (by decide), fb 27 (by decide) (by decide)]
      exact a5
    · unfold q6
      rw [fa 15 (by decide) (by omega), fb 32 (by decide) (by decide)]
      exact a6
    · unfold q7
      rw [fa 14 (by decide) (by omega), fa 16 (by decide) (by omega), fb 28 (by decide) (by decide), fb 29 (by decide) (by decide)]
      exact a7
    · unfold q8
      rw [fa 17 (by decide) (by omega), fa 21 (by decide) (by omega), fa 18 (by decide) (by omega), fb 30 (by decide) (by decide), fb 33 (by decide) (by decide), fb 31 (by decide) (by decide)]
      exact a8
    · rw [fa 13 (by decide) (by omega), fb 22 (by decide) (by decide)]; exact a9
    · unfold q10
      rw [fa 24 (by decide) (by omega), fb 35 (by decide) (by decide)]
      exact a10
    · unfold q11
      rw [fa 10 (by decide) (by omega), fa 7 (by decide) (by omega), fb 12 (by decide) (by decide)]
      exact a11
    · intro q hq
      obtain ⟨k', n', k1, k2, k3, k4, k5⟩ := a12 q hq
      by_cases hqa : q = a
      · subst hqa
        have : n' = n := (eq_nI (by omega) (by omega)).mp (k3.symm.trans b2)
        subst this
        exact ⟨k', n' + 1, by omega, by omega, f01, by rw [fa 1 (by decide) (by omega)]; exact k4, by rw [fb 24 (by decide) (by decide)]; exact k5⟩
      · exact ⟨k', n', k1, k2, by rw [f0 _ (by omega)]; exact k3, by rw [fa 1 (by decide) (by omega)]; exact k4, by rw [fb 24 (by decide) (by decide)]; exact k5⟩
    · rw [fa 19 (by decide) (by omega)]; exact h2
    · rw [fa 20 (by decide) (by omega)]; exact h3
theorem q_ent {n : Nat} (h : qD n0 N np p u α β) (hn : n < 40) (ha : α 11 0 = nI n) (x y z t : Int32) : qD n0 N np p u (ent α n x y z t) (entM β n x y z t) ∧ gr α β (ent α n x y z t) (entM β n x y z t) := by
  obtain ⟨⟨a1, ⟨n', b1, b2, b3, b4, b5, b6⟩, a3, a4, a5, a6, a7, a8, a9, a10, a11, a12⟩, h2, h3, h4⟩ := h
  have : n' = n := (eq_nI (by omega) (by omega)).mp (b3.symm.trans ha)
  subst this
  have e11 : ent α n' x y z t 11 0 = nI (n' + 1) := by unfold ent; rw [up2_vv]
  have e15 : entM β n' x y z t 15 0 = nI (n' + 1) := by unfold entM; rw [up2_vv]
  have e27 : ∀ i, ¬ i = n' → ent α n' x y z t 27 i = α 27 i := fun i hi => by
    show up2 (up2 (up2 α 25 n' x) 26 n' y) 27 n' 1 27 i = _
    rw [up2_vn hi]; rfl
  have e271 : ent α n' x y z t 27 n' = 1 := by
    show up2 (up2 (up2 α 25 n' x) 26 n' y) 27 n' 1 27 n' = _
    rw [up2_vv]
  have g : gr α β (ent α n' x y z t) (entM β n' x y z t) := by
    refine ⟨⟨fun d hd => ?_, fun i hi => rfl⟩, fun d hd => ?_, rfl, fun m m1 m2 => ⟨n' + 1, ?_, by omega, e11⟩⟩
    · unfold ent; simp (disch := omega) only [up2_ne]
    · unfold entM; simp (disch := omega) only [up2_ne]
    · have : m = n' := (eq_nI (by omega) (by omega)).mp (m2.symm.trans b3)
      omega
  refine ⟨⟨⟨rP_k a1 ent_hi ⟨rfl, rfl, rfl, rfl, rfl, rfl⟩ ⟨rfl, rfl, rfl, rfl, rfl, rfl, rfl⟩, ⟨n' + 1, by omega, by omega, e11, e15, ent_u b5, fun i i1 i2 => ?_⟩, a3, rs_k a4 ent_hi rfl ⟨rfl, rfl⟩, a5, a6, a7, a8, a9, a10, a11, a12⟩, h2, h3, h4.mono g⟩, g⟩
  by_cases hi : i = n'
  · subst hi; rw [e271]; decide
  · rw [e27 i hi]; exact b6 i i1 (by omega)
theorem a_make (h : qD n0 N np p u α β) (w : wd p r k 1 a b α β) (ha : a < 64) : aS n0 N np p u α β (dr2 p (nI r) α) (f_X10_act (nI p) (nI (48 * p + 4 * r)) u β) := by
  rw [dr2_w w, act_w w]
  obtain ⟨⟨-, ⟨n, b1, b2, b3, b4, b5, b6⟩, -, -, -, -, -, ⟨-, e21, -⟩, -⟩, h2, h3, h4⟩ := id h
  obtain ⟨z, z1, z2, z3⟩ := find_eq (nI a) b2 b4
  have hcv : (∃ i, i < n ∧ α 25 i = nI a) ↔ ∃ i, i < n ∧ β 16 i = nI a := ⟨fun ⟨i, i1, i2⟩ => ⟨i, i1, by rw [← (b5 i i1).1]; exact i2⟩, fun ⟨i, i1, i2⟩ => ⟨i, i1, by rw [(b5 i i1).1]; exact i2⟩⟩
  rw [dr3_1, ac3_1, z1, pb_s]
  by_cases hbr : ∃ i, i < n ∧ β 16 i = nI a
  · have em : f_X7_make (nI a) (nI b) α = some (3, α) := by
      unfold f_X7_make
      rw [bears_1 b2 b3 (hcv.mpr hbr), pb_s, if_neg (by decide)]
    rw [em, pb_s, if_neg (by decide), if_neg (z2 hbr)]
    exact say h
  · have hz := z3 hbr
    subst hz
    have hbr' : ¬ ∃ i, i < n ∧ α 25 i = nI a := fun h => hbr (hcv.mp h)
    rw [if_pos (by decide), b4]
    by_cases h40 : n = 40
    · subst h40
      have em : f_X7_make (nI a) (nI b) α = some (4, α) := by
        unfold f_X7_make
        rw [bears_0 b2 b3 hbr', pb_s, if_pos rfl, isFull_1 b3, pb_s, if_neg (by decide)]
      rw [em, pb_s, if_neg (by decide), if_pos (by decide)]
      exact say h
    · obtain ⟨q1, q2⟩ := q_ent h (by omega) b3 (nI a) (nI b) (nI p) (α 21 0)
      rw [if_neg (by rw [show (40 : Int32) = nI 40 from rfl, eq_nI (by omega) (by omega)]; exact h40), come_eq (by omega) b4, pb_s, ← e21]
      have e20 : ent α n (nI a) (nI b) (nI p) (α 21 0) 20 0 = u := h3
      have e34 : entM β n (nI a) (nI b) (nI p) (α 21 0) 34 0 = β 34 0 := rfl
      rcases id h4 with ⟨u1, u2⟩ | ⟨v, m, u1, u2, u3, u4, u5⟩
      · have em : f_X7_make (nI a) (nI b) α = some (7, ent α n (nI a) (nI b) (nI p) (α 21 0)) := by
          unfold f_X7_make
          rw [bears_0 b2 b3 hbr', pb_s, if_pos rfl, isFull_0 (by omega) b3, pb_s, if_pos rfl, h2, enter_eq (by omega) b3, pb_s, e20, if_pos u1]
        rw [em, pb_s, if_neg (by decide), e34, u2, if_neg (by decide)]
        exact (say q1).tr q2
      · have em : f_X7_make (nI a) (nI b) α = some (-1, ent α n (nI a) (nI b) (nI p) (α 21 0)) := by
          unfold f_X7_make
          rw [bears_0 b2 b3 hbr', pb_s, if_pos rfl, isFull_0 (by omega) b3, pb_s, if_pos rfl, h2, enter_eq (by omega) b3, pb_s, e20, if_neg (by rw [u1]; exact nI_m1 (by omega))]
        rw [em, pb_s, if_pos rfl, e34, u5, if_pos rfl]
        exact ⟨0, _, _, rfl, rfl, by decide, q1, q2⟩
end RUL
