/-! run: how one ends -/
def cpy (α : pSt) (c d o : Nat) : Nat → pSt
  | 0 => α
  | n + 1 => up2 (cpy α c d o n) c (o + n) (cpy α c d o n d (o + n))
theorem cpy_ne {α : pSt} {c d o x : Nat} (h : ¬ x = c) : ∀ n, cpy α c d o n x = α x
  | 0 => rfl
  | n + 1 => by
    show up2 (cpy α c d o n) c (o + n) _ x = _
    rw [up2_ne h, cpy_ne h n]
theorem cpy_at {α : pSt} {c d o : Nat} (h : ¬ d = c) : ∀ n i, cpy α c d o n c i = if o ≤ i ∧ i < o + n then α d i else α c i
  | 0, i => by rw [if_neg (by omega)]; rfl
  | n + 1, i => by
    show up2 (cpy α c d o n) c (o + n) (cpy α c d o n d (o + n)) c i = _
    by_cases hi : i = o + n
    · subst hi; rw [up2_vv, if_pos (by omega), cpy_ne h]
    · rw [up2_vn hi, cpy_at h n i]
      by_cases h2 : o ≤ i ∧ i < o + n
      · rw [if_pos h2, if_pos (by omega)]
      · rw [if_neg h2, if_neg (by omega)]
def cE (y e : Int32) (α : pSt) : Option (Int32 × pSt) := pb (f_X8_makeOldAheadOf e α) fun _ α30 => pb (f_X8_size α30) fun r32 α33 => pl (up2 α33 18 0 (r32 - y)) fun α35 => some ((α35 17 0), α35)
def cB (y : Int32) (α : pSt) : Option (Int32 × pSt) := pb (f_X7_goBack y α) fun _ α37 => some ((α37 15 0), α37)
def fE (y e : Int32) (β : pSt) : Option (Int32 × pSt) := pl (up2 β 31 0 ((β 15 0) - y)) fun β28 => f_X10_run_L317 e pF 0 β28
def fB (y : Int32) (β : pSt) : Option (Int32 × pSt) := pl (up2 β 15 0 y) fun β18 => f_X10_run_L351 pF 0 β18
def tl (y : Int32) (α : pSt) : Option (Int32 × pSt) := pb (f_X8_size α) fun r12 α13 => if (α13 15 0) = 0 then (if (α13 17 0) ≤ 0 then (if (α13 15 0) = 0 then cE y r12 α13 else cB y α13) else (pb (f_X7_makeEnd α13) fun _ α40 => if (α40 15 0) = 0 then cE y r12 α40 else cB y α40)) else (if (α13 15 0) = 0 then cE y r12 α13 else cB y α13)
def mtl (y : Int32) (β : pSt) : Option (Int32 × pSt) := if (β 30 0) ≤ 0 then (if (β 32 0) = 0 then fE y (β 15 0) β else fB y β) else (if (β 32 0) = 0 then (pl (up2 β 34 0 1) fun β36 => pl (up2 β36 33 0 ((β36 30 0) + 1)) fun β37 => f_X10_run_L275 ((β 15 0)) y pF 0 β37) else (if (β 32 0) = 0 then fE y (β 15 0) β else fB y β))
theorem go_step {y x6 x5 x4 : Int32} {f : Nat} {α : pSt} : f_X7_go_L37 y (f + 1) x6 x5 x4 α = if 40 ≤ x6 then tl y α else if (α 15 0) = 0 then (if x5 ≤ x4 then tl y α else pb (f_X7_makeRound x4 x5 α) fun _ α138 => pb (f_X8_size α138) fun r140 α141 => f_X7_go_L37 y f (x6 + 1) r140 x5 α141) else tl y α := by
  rw [f_X7_go_L37]; rfl
theorem run_step {y x5 x4 x3 : Int32} {f : Nat} {β : pSt} : f_X10_run_L174 y (f + 1) x5 x4 x3 β = if x3 ≤ 0 then mtl y β else if (β 32 0) = 0 then (pl (up2 β 30 0 ((β 30 0) + 1)) fun β56 => pl (up2 β56 33 0 (β56 30 0)) fun β57 => pb (f_X10_turn x4 (β 15 0) x5 β57) fun _ β59 => f_X10_run_L174 y f 0 (β 15 0) ((β59 15 0) - (β 15 0)) β59) else mtl y β := by
  rw [f_X10_run_L174]; rfl
section FIN
variable {n0 N np : Nat} {α β α0 β0 : pSt}
theorem makeOld_L {n e : Nat} (hn : n ≤ 40) (ha : α 11 0 = nI n) (he : e ≤ n) : ∀ (f i : Nat), i ≤ e → e < i + f → f_X8_makeOldAheadOf_L2 (nI e) f (nI i) (fill α 27 0 i) = some ((), fill α 27 0 e) := by
  intro f
  induction f with
  | zero => intro i h1 h2; omega
  | succ f ih =>
    intro i h1 h2
    have hc : fill α 27 0 i 11 0 = nI n := by rw [fill_ne (by decide)]; exact ha
    rw [f_X8_makeOldAheadOf_L2, hc]
    by_cases hi : i = e
    · subst hi
      by_cases hin : n ≤ i
      · rw [if_pos ((le_nI (by omega) (by omega)).mpr hin)]
      · rw [if_neg (by rw [le_nI (by omega) (by omega)]; exact hin), if_pos ((le_nI (by omega) (by omega)).mpr (Nat.le_refl _))]
    · rw [if_neg (by rw [le_nI (by omega) (by omega)]; omega), if_neg (by rw [le_nI (by omega) (by omega)]; omega), pg_t (pin_nI (by omega) (by decide)), cl_nI (by omega), pl_s, nI_1]
      exact ih (i + 1) (by omega) (by omega)
theorem makeOld_eq {n e : Nat} (hn : n ≤ 40) (ha : α 11 0 = nI n) (he : e ≤ n) : f_X8_makeOldAheadOf (nI e) α = some ((), fill α 27 0 e) := by
  have h := makeOld_L hn ha he pF 0 (Nat.zero_le _) (by show e < 0 + 128; omega)
  rw [show fill α 27 0 0 = α from rfl, nI_0] at h
  exact h
theorem L317_eq {e : Nat} (he : e ≤ 40) : ∀ (f i : Nat), i ≤ e → e < i + f → f_X10_run_L317 (nI e) f (nI i) (fill β 18 0 i) = some (β 30 0, fill β 18 0 e) := by
  intro f
  induction f with
  | zero => intro i h1 h2; omega
  | succ f ih =>
    intro i h1 h2
    rw [f_X10_run_L317]
    by_cases hi : i = e
    · subst hi
      rw [if_pos ((le_nI (by omega) (by omega)).mpr (Nat.le_refl _)), fill_ne (by decide)]
    · rw [if_neg (by rw [le_nI (by omega) (by omega)]; omega), pg_t (pin_nI (by omega) (by decide)), cl_nI (by omega), pl_s, nI_1]
      exact ih (i + 1) (by omega) (by omega)
/-- what a run leaves alone -/
theorem rTF (hT : rT α0 β0) (hF : ∀ f, f < 6 → rF α0 β0 f) (g1 : fr α0 α) (g2 : frM β0 β) : rT α β ∧ ∀ f, f < 6 → rF α β f :=
  ⟨hT.c (g1.2 0 (by decide)) (g1.1 40 (by omega)) (g2 1 (by omega)) (g2 2 (by omega)), fun f hf => (hF f hf).c (g1.2 _ (by omega)) (g1.1 _ (by omega)) (by rw [g1.1 2 (by omega)]) (by rw [g1.1 3 (by omega)]) (by rw [g2 3 (by omega)]) (fun i _ => by rw [g2 4 (by omega)]) (by rw [g2 5 (by omega)]) (by rw [g2 6 (by omega)])⟩
theorem fin_ok {e n : Nat} (h : qH n0 N np α β) (hT : rT α0 β0) (hF : ∀ f, f < 6 → rF α0 β0 f) (hO : rO α0 β0) (g1 : fr α0 α) (g2 : frM β0 β) (ha : α 11 0 = nI n) (hn : n ≤ 40) (he : e ≤ n) : pS (cE (nI n0) (nI e) α) (fE (nI n0) (nI e) β) := by
  obtain ⟨a1, ⟨n', b1, b2, b3, b4, b5, b6⟩, a3, a4, a5, a6, ⟨s, s1, s2, s3, s4, s5, s6⟩, ⟨a8, a8'⟩, a9, a11, a12⟩ := h
  have hnn : n' = n := (eq_nI (by omega) (by omega)).mp (b3.symm.trans ha)
  subst hnn
  refine ⟨α 17 0, up2 (fill α 27 0 e) 18 0 (nI n' - nI n0), fill (up2 β 31 0 (nI n' - nI n0)) 18 0 e, ?_, ?_, ?_⟩
  · unfold cE
    have e11 : fill α 27 0 e 11 0 = nI n' := by rw [fill_ne (by decide)]; exact ha
    rw [makeOld_eq hn ha he, pb_s, size8, pb_s, e11, pl_s]
    have e17 : up2 (fill α 27 0 e) 18 0 (nI n' - nI n0) 17 0 = α 17 0 := by rw [up2_ne (by decide), fill_ne (by decide)]
    rw [e17]
  · unfold fE
    rw [b4, pl_s]
    have hL := L317_eq (β := up2 β 31 0 (nI n' - nI n0)) (show e ≤ 40 by omega) pF 0 (Nat.zero_le _) (by show e < 0 + 128; omega)
    rw [show fill (up2 β 31 0 (nI n' - nI n0)) 18 0 0 = up2 β 31 0 (nI n' - nI n0) from rfl, nI_0] at hL
    rw [hL, a8]
    rfl
  · have fa : ∀ d, ¬ d = 18 → ¬ d = 27 → up2 (fill α 27 0 e) 18 0 (nI n' - nI n0) d = α d := fun d d1 d2 => by rw [up2_ne d1, fill_ne d2]
    have fb : ∀ d, ¬ d = 31 → ¬ d = 18 → fill (up2 β 31 0 (nI n' - nI n0)) 18 0 e d = β d := fun d d1 d2 => by rw [fill_ne d2, up2_ne d1]
    have f27 : ∀ i, up2 (fill α 27 0 e) 18 0 (nI n' - nI n0) 27 i = if i < e then 0 else α 27 i := fun i => by rw [up2_ne (by decide), fill_at]
    have g18 : ∀ i, fill (up2 β 31 0 (nI n' - nI n0)) 18 0 e 18 i = if i < e then 0 else β 18 i := fun i => by rw [fill_at, up2_ne (by decide)]
    have f18 : up2 (fill α 27 0 e) 18 0 (nI n' - nI n0) 18 0 = nI n' - nI n0 := by rw [up2_vv]
    have g31 : fill (up2 β 31 0 (nI n' - nI n0)) 18 0 e 31 0 = nI n' - nI n0 := by rw [fill_ne (by decide), up2_vv]
    generalize up2 (fill α 27 0 e) 18 0 (nI n' - nI n0) = X at *
    generalize fill (up2 β 31 0 (nI n' - nI n0)) 18 0 e = Y at *
    obtain ⟨t1, t2⟩ := rTF hT hF (α := X) (β := Y) ⟨fun d hd => (fa d (by omega) (by omega)).trans (g1.1 d hd), fun i hi => by rw [fa 0 (by decide) (by decide)]; exact g1.2 i hi⟩ (fun d hd => (fb d (by omega) (by omega)).trans (g2 d hd))
    refine ⟨t1, t2, rP_k a1 (fun c hc => fa c (by omega) (by omega)) ⟨fa 4 (by decide) (by decide), fa 5 (by decide) (by decide), fa 6 (by decide) (by decide), fa 8 (by decide) (by decide), fa 9 (by decide) (by decide), fa 10 (by decide) (by decide)⟩ ⟨fb 7 (by decide) (by decide), fb 8 (by decide) (by decide), fb 9 (by decide) (by decide), fb 10 (by decide) (by decide), fb 11 (by decide) (by decide), fb 13 (by decide) (by decide), fb 14 (by decide) (by decide)⟩, ⟨n', hn, by rw [fa 11 (by decide) (by decide)]; exact b3, by rw [fb 15 (by decide) (by decide)]; exact b4, fun u hu => ?_⟩, ?_, rs_k a4 (fun c hc => fa c (by omega) (by omega)) (fa 0 (by decide) (by decide)) ⟨fb 23 (by decide) (by decide), fb 25 (by decide) (by decide)⟩, ?_, ?_⟩
    · obtain ⟨u1, u2, u3, u4, u5⟩ := b5 u hu
      refine ⟨?_, ?_, ?_, ?_, ?_⟩
      · rw [fa 25 (by decide) (by decide), fb 16 (by decide) (by decide)]; exact u1
      · rw [fa 26 (by decide) (by decide), fb 17 (by decide) (by decide)]; exact u2
      · rw [f27, g18, u3]
      · rw [fa 28 (by decide) (by decide), fb 19 (by decide) (by decide)]; exact u4
      · rw [fa 29 (by decide) (by decide), fb 20 (by decide) (by decide)]; exact u5
    · unfold rO
      rw [fa 23 (by decide) (by decide), fb 21 (by decide) (by decide), fa 22 (by decide) (by decide), fb 22 (by decide) (by decide), g1.1 22 (by omega), g2 22 (by omega)]
      exact ⟨a3, hO.2.1, hO.2.2⟩
    · unfold rM
      rw [fa 12 (by decide) (by decide), fa 30 (by decide) (by decide), fb 26 (by decide) (by decide), fb 27 (by decide) (by decide)]
      exact a5
    · refine ⟨?_, ?_, ?_⟩
      · rw [fa 16 (by decide) (by decide), fb 28 (by decide) (by decide), s4, s5]
      · rw [fa 17 (by decide) (by decide), fb 30 (by decide) (by decide)]; exact a8
      · rw [f18, g31]
theorem goBack4_L (hn : np ≤ 6) (ha : α 10 0 = nI np) : ∀ (f i : Nat), i ≤ np → np < i + f → f_X4_goBack_L2 f (nI i) (cpy α 6 7 0 i) = some ((), cpy α 6 7 0 np) := by
  intro f
  induction f with
  | zero => intro i h1 h2; omega
  | succ f ih =>
    intro i h1 h2
    have hc : cpy α 6 7 0 i 10 0 = nI np := by rw [cpy_ne (by decide)]; exact ha
    rw [f_X4_goBack_L2, hc]
    by_cases hi : i = np
    · subst hi
      rw [if_pos ((le_nI (by omega) (by omega)).mpr (Nat.le_refl _))]
    · rw [if_neg (by rw [le_nI (by omega) (by omega)]; omega), at4_np (show i < np by omega) hn hc, pb_s, pO_1, pg_t (by rw [decide_eq_true_eq]; omega), nI_1]
      unfold f_X3_goBack
      rw [pl_s, pb_s]
      have hs : up2 (cpy α 6 7 0 i) 6 i (cpy α 6 7 0 i 7 i) = cpy α 6 7 0 (i + 1) := by
        show _ = up2 (cpy α 6 7 0 i) 6 (0 + i) (cpy α 6 7 0 i 7 (0 + i))
        rw [Nat.zero_add]
      rw [hs]
      exact ih (i + 1) (by omega) (by omega)
theorem goBack5_L (h12 : ∀ r, r < 4 → ∃ k n, k ≤ n ∧ n ≤ 100 ∧ α 0 (7 + r) = nI n ∧ α 1 (7 + r) = nI k) : ∀ (f i : Nat), i ≤ 4 → 4 < i + f → f_X5_goBack_L10 f (nI i) (cpy α 0 1 7 i) = some ((), cpy α 0 1 7 4) := by
  intro f
  induction f with
  | zero => intro i h1 h2; omega
  | succ f ih =>
    intro i h1 h2
    rw [f_X5_goBack_L10]
    by_cases hi : i = 4
    · subst hi
      rw [if_pos (by decide)]
    · rw [if_neg (by rw [n4, le_nI (by omega) (by omega)]; omega), pg_t (pin_nI (by omega) (by decide)), cl_nI (by omega), nI_1]
      obtain ⟨k, n, k1, k2, k3, k4⟩ := h12 i (by omega)
      have e0 : cpy α 0 1 7 i 0 (7 + i) = nI n := by rw [cpy_at (by decide), if_neg (by omega)]; exact k3
      have e1 : cpy α 0 1 7 i 1 (7 + i) = nI k := by rw [cpy_ne (by decide)]; exact k4
      unfold f_X6_goBack
      rw [pl_s, pb_s, e0, e1, if_neg (by rw [lt_nI (by omega) (by omega)]; omega), ← e1]
      exact ih (i + 1) (by omega) (by omega)
theorem L381_eq : ∀ (f i : Nat), i ≤ 4 → 4 < i + f → f_X10_run_L381 f (nI i) (cpy β 23 24 0 i) = some (if β 32 0 = 1 then -11 else -12, cpy β 23 24 0 4) := by
  intro f
  induction f with
  | zero => intro i h1 h2; omega
  | succ f ih =>
    intro i h1 h2
    rw [f_X10_run_L381]
    by_cases hi : i = 4
    · subst hi
      have e32 : cpy β 23 24 0 4 32 0 = β 32 0 := by rw [cpy_ne (by decide)]
      rw [if_pos (by decide), e32]
      by_cases c : β 32 0 = 1
      · rw [if_pos c, if_pos c]
      · rw [if_neg c, if_neg c]
    · rw [if_neg (by rw [n4, le_nI (by omega) (by omega)]; omega), pg_t (pin_nI (by omega) (by decide)), pg_t (pin_nI (by omega) (by decide)), cl_nI (by omega), pl_s, nI_1]
      have hs : up2 (cpy β 23 24 0 i) 23 i (cpy β 23 24 0 i 24 i) = cpy β 23 24 0 (i + 1) := by
        show _ = up2 (cpy β 23 24 0 i) 23 (0 + i) (cpy β 23 24 0 i 24 (0 + i))
        rw [Nat.zero_add]
      rw [hs]
      exact ih (i + 1) (by omega) (by omega)
theorem L351_eq : ∀ (f i : Nat), i ≤ 6 → 6 < i + f → f_X10_run_L351 f (nI i) (cpy β 11 12 0 i) = some (if β 32 0 = 1 then -11 else -12, cpy (cpy β 11 12 0 6) 23 24 0 4) := by
  intro f
  induction f with
  | zero => intro i h1 h2; omega
  | succ f ih =>
    intro i h1 h2
    rw [f_X10_run_L351]
    by_cases hi : i = 6
    · subst hi
      have e32 : cpy β 11 12 0 6 32 0 = β 32 0 := by rw [cpy_ne (by decide)]
      have hL := L381_eq (β := cpy β 11 12 0 6) pF 0 (Nat.zero_le _) (by decide)
      rw [show cpy (cpy β 11 12 0 6) 23 24 0 0 = cpy β 11 12 0 6 from rfl, nI_0] at hL
      rw [if_pos (by decide), hL, e32]
    · rw [if_neg (by rw [n6, le_nI (by omega) (by omega)]; omega), pg_t (pin_nI (by omega) (by decide)), pg_t (pin_nI (by omega) (by decide)), cl_nI (by omega), pl_s, nI_1]
      have hs : up2 (cpy β 11 12 0 i) 11 i (cpy β 11 12 0 i 12 i) = cpy β 11 12 0 (i + 1) := by
        show _ = up2 (cpy β 11 12 0 i) 11 (0 + i) (cpy β 11 12 0 i 12 (0 + i))
        rw [Nat.zero_add]
      rw [hs]
      exact ih (i + 1) (by omega) (by omega)
theorem fin_back (h : qH n0 N np α β) (hT : rT α0 β0) (hF : ∀ f, f < 6 → rF α0 β0 f) (hO : rO α0 β0) (g1 : fr α0 α) (g2 : frM β0 β) (h15 : ¬ α 15 0 = 0) : pS (cB (nI n0) α) (fB (nI n0) β) := by
  obtain ⟨⟨np', p1, p2, p3, p4⟩, ⟨n, b1, b2, b3, b4, b5, b6⟩, a3, a4, a5, a6, ⟨s, s1, s2, s3, s4, s5, s6⟩, ⟨a8, a8'⟩, a9, ⟨c1, c2, c3⟩, a12⟩ := h
  have hnp : np' = np := (eq_nI (by omega) (by omega)).mp (p2.symm.trans c1)
  subst hnp
  have hcut : f_X8_cutTo (nI n0) α = some ((), up2 α 11 0 (nI n0)) := by
    unfold f_X8_cutTo
    have e1 : (if nI n < nI n0 then nI n else nI n0) = nI n0 := if_neg (by rw [lt_nI (by omega) (by omega)]; omega)
    rw [b3, e1, pl_s]
    by_cases hz : n0 = 0
    · subst hz; rfl
    · rw [if_pos (by rw [show (0 : Int32) = nI 0 from rfl, lt_nI (by omega) (by omega)]; omega)]
  have hg4 : f_X4_goBack (up2 α 11 0 (nI n0)) = some ((), cpy (up2 α 11 0 (nI n0)) 6 7 0 np') := by
    have h := goBack4_L (α := up2 α 11 0 (nI n0)) p1 c1 pF 0 (Nat.zero_le _) (by show np' < 0 + 128; omega)
    rw [show cpy (up2 α 11 0 (nI n0)) 6 7 0 0 = up2 α 11 0 (nI n0) from rfl, nI_0] at h
    exact h
  have hg5 : f_X5_goBack (cpy (up2 α 11 0 (nI n0)) 6 7 0 np') = some ((), cpy (cpy (up2 α 11 0 (nI n0)) 6 7 0 np') 0 1 7 4) := by
    have h := goBack5_L (α := cpy (up2 α 11 0 (nI n0)) 6 7 0 np') (fun r hr => by
      obtain ⟨k, n, k1, k2, k3, k4, k5⟩ := a12 r hr
      exact ⟨k, n, k1, k2, by rw [cpy_ne (by decide)]; exact k3, by rw [cpy_ne (by decide)]; exact k4⟩) pF 0 (Nat.zero_le _) (by decide)
    rw [show cpy (cpy (up2 α 11 0 (nI n0)) 6 7 0 np') 0 1 7 0 = cpy (up2 α 11 0 (nI n0)) 6 7 0 np' from rfl, nI_0] at h
    exact h
  have hgM : f_X10_run_L351 pF 0 (up2 β 15 0 (nI n0)) = some (if β 32 0 = 1 then -11 else -12, cpy (cpy (up2 β 15 0 (nI n0)) 11 12 0 6) 23 24 0 4) := by
    have h := L351_eq (β := up2 β 15 0 (nI n0)) pF 0 (Nat.zero_le _) (by decide)
    rw [show cpy (up2 β 15 0 (nI n0)) 11 12 0 0 = up2 β 15 0 (nI n0) from rfl, nI_0] at h
    exact h
  have hr : (if β 32 0 = 1 then (-11 : Int32) else -12) = α 15 0 := by
    rcases a6 with ⟨z1, z2⟩ | ⟨z1, z2⟩ | ⟨z1, z2⟩
    · exact absurd z1 h15
    · rw [z1, z2]; rfl
    · rw [z1, z2]; rfl
  have fa : ∀ d, ¬ d = 0 → ¬ d = 6 → ¬ d = 11 → cpy (cpy (up2 α 11 0 (nI n0)) 6 7 0 np') 0 1 7 4 d = α d := fun d d1 d2 d3 => by rw [cpy_ne d1, cpy_ne d2, up2_ne d3]
  have fb : ∀ d, ¬ d = 23 → ¬ d = 11 → ¬ d = 15 → cpy (cpy (up2 β 15 0 (nI n0)) 11 12 0 6) 23 24 0 4 d = β d := fun d d1 d2 d3 => by rw [cpy_ne d1, cpy_ne d2, up2_ne d3]
  refine ⟨α 15 0, cpy (cpy (up2 α 11 0 (nI n0)) 6 7 0 np') 0 1 7 4, cpy (cpy (up2 β 15 0 (nI n0)) 11 12 0 6) 23 24 0 4, ?_, ?_, ?_⟩
  · unfold cB f_X7_goBack
    rw [hcut, pb_s, hg4, pb_s, hg5, pb_s, pb_s, fa 15 (by decide) (by decide) (by decide)]
  · unfold fB
    rw [pl_s, hgM, hr]
  · have f11 : cpy (cpy (up2 α 11 0 (nI n0)) 6 7 0 np') 0 1 7 4 11 0 = nI n0 := by rw [cpy_ne (by decide), cpy_ne (by decide), up2_vv]
    have f6 : ∀ p, p < np' → cpy (cpy (up2 α 11 0 (nI n0)) 6 7 0 np') 0 1 7 4 6 p = α 7 p := fun p hp => by rw [cpy_ne (by decide), cpy_at (by decide), if_pos (by omega), up2_ne (by decide)]
    have f0 : ∀ i, i < 7 → cpy (cpy (up2 α 11 0 (nI n0)) 6 7 0 np') 0 1 7 4 0 i = α 0 i := fun i hi => by rw [cpy_at (by decide), if_neg (by omega), cpy_ne (by decide), up2_ne (by decide)]
    have f07 : ∀ r, r < 4 → cpy (cpy (up2 α 11 0 (nI n0)) 6 7 0 np') 0 1 7 4 0 (7 + r) = α 1 (7 + r) := fun r hr => by rw [cpy_at (by decide), if_pos (by omega), cpy_ne (by decide), up2_ne (by decide)]
    have g15 : cpy (cpy (up2 β 15 0 (nI n0)) 11 12 0 6) 23 24 0 4 15 0 = nI n0 := by rw [cpy_ne (by decide), cpy_ne (by decide), up2_vv]
    have g11 : ∀ p, p < np' → cpy (cpy (up2 β 15 0 (nI n0)) 11 12 0 6) 23 24 0 4 11 p = β 12 p := fun p hp => by rw [cpy_ne (by decide), cpy_at (by decide), if_pos (by omega), up2_ne (by decide)]
    have g23 : ∀ r, r < 4 → cpy (cpy (up2 β 15 0 (nI n0)) 11 12 0 6) 23 24 0 4 23 r = β 24 r := fun r hr => by rw [cpy_at (by decide), if_pos (by omega), cpy_ne (by decide), up2_ne (by decide)]
    generalize cpy (cpy (up2 α 11 0 (nI n0)) 6 7 0 np') 0 1 7 4 = X at *
    generalize cpy (cpy (up2 β 15 0 (nI n0)) 11 12 0 6) 23 24 0 4 = Y at *
    obtain ⟨t1, t2⟩ := rTF hT hF (α := X) (β := Y) ⟨fun d hd => (fa d (by omega) (by omega) (by omega)).trans (g1.1 d hd), fun i hi => (f0 i hi).trans (g1.2 i hi)⟩ (fun d hd => (fb d (by omega) (by omega) (by omega)).trans (g2 d hd))
    refine ⟨t1, t2, ⟨np', p1, by rw [fa 10 (by decide) (by decide) (by decide)]; exact p2, by rw [fb 7 (by decide) (by decide) (by decide)]; exact p3, fun p hp => ?_⟩, ⟨n0, by omega, f11, g15, fun u hu => ?_⟩, ?_, fun r hr' => ?_, ?_, ?_⟩
    · obtain ⟨h1, ⟨m, m1, m2, m3, m4, m5, m6⟩, h3, h4, h5, h6⟩ := p4 p hp
      have e60 : X (60 + p) = α (60 + p) := fa _ (by omega) (by omega) (by omega)
      unfold rp
      rw [e60, fa 4 (by decide) (by decide) (by decide), fa 5 (by decide) (by decide) (by decide), fa 8 (by decide) (by decide) (by decide), fa 9 (by decide) (by decide) (by decide), fb 8 (by decide) (by decide) (by decide), fb 9 (by decide) (by decide) (by decide), fb 10 (by decide) (by decide) (by decide), fb 13 (by decide) (by decide) (by decide), fb 14 (by decide) (by decide) (by decide), f6 p hp, g11 p hp]
      exact ⟨h1, ⟨m, m1, m2, m3, m4, m5, m6⟩, c3 p hp, h4, h5, h6⟩
    · obtain ⟨u1, u2, u3, u4, u5⟩ := b5 u (by omega)
      unfold ru
      rw [fa 25 (by decide) (by decide) (by decide), fa 26 (by decide) (by decide) (by decide), fa 27 (by decide) (by decide) (by decide), fa 28 (by decide) (by decide) (by decide), fa 29 (by decide) (by decide) (by decide), fb 16 (by decide) (by decide) (by decide), fb 17 (by decide) (by decide) (by decide), fb 18 (by decide) (by decide) (by decide), fb 19 (by decide) (by decide) (by decide), fb 20 (by decide) (by decide) (by decide)]
      exact ⟨u1, u2, u3, u4, u5⟩
    · unfold rO
      rw [fa 23 (by decide) (by decide) (by decide), fb 21 (by decide) (by decide) (by decide), fa 22 (by decide) (by decide) (by decide), fb 22 (by decide) (by decide) (by decide), g1.1 22 (by omega), g2 22 (by omega)]
      exact ⟨a3, hO.2.1, hO.2.2⟩
    · obtain ⟨k, n', k1, k2, k3, k4, k5⟩ := a12 r hr'
      obtain ⟨m, m1, m2, m3, m4⟩ := a4 r hr'
      have hmn : m = n' := (eq_nI (by omega) (by omega)).mp (m2.symm.trans k3)
      subst hmn
      refine ⟨k, by omega, (f07 r hr').trans k4, (g23 r hr').trans k5, fun i hi => ?_⟩
      rw [fa _ (by omega) (by omega) (by omega), fb 25 (by decide) (by decide) (by decide)]
      exact m4 i (by omega)
    · unfold rM
      rw [fa 12 (by decide) (by decide) (by decide), fa 30 (by decide) (by decide) (by decide), fb 26 (by decide) (by decide) (by decide), fb 27 (by decide) (by decide) (by decide)]
      exact a5
    · refine ⟨?_, ?_, ?_⟩
      · rw [fa 16 (by decide) (by decide) (by decide), fb 28 (by decide) (by decide) (by decide), s4, s5]
      · rw [fa 17 (by decide) (by decide) (by decide), fb 30 (by decide) (by decide) (by decide)]; exact a8
      · rw [fa 18 (by decide) (by decide) (by decide), fb 31 (by decide) (by decide) (by decide)]; exact a8'
end FIN
