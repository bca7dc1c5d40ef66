/-! run: the beginning; a whole run -/
def bg (α : pSt) (c d e f : Nat) : Nat → pSt
  | 0 => α
  | n + 1 => up2 (up2 (up2 (bg α c d e f n) c n (bg α c d e f n d n)) e n 0) f n 0
theorem bg_ne {α : pSt} {c d e f x : Nat} (h1 : ¬ x = c) (h2 : ¬ x = e) (h3 : ¬ x = f) : ∀ n, bg α c d e f n x = α x
  | 0 => rfl
  | n + 1 => by
    show up2 (up2 (up2 (bg α c d e f n) c n _) e n 0) f n 0 x = _
    rw [up2_ne h3, up2_ne h2, up2_ne h1, bg_ne h1 h2 h3 n]
theorem bg_c {α : pSt} {c d e f : Nat} (h : ¬ d = c ∧ ¬ d = e ∧ ¬ d = f ∧ ¬ c = e ∧ ¬ c = f) : ∀ n i, bg α c d e f n c i = if i < n then α d i else α c i
  | 0, i => by rw [if_neg (by omega)]; rfl
  | n + 1, i => by
    show up2 (up2 (up2 (bg α c d e f n) c n (bg α c d e f n d n)) e n 0) f n 0 c i = _
    rw [up2_ne h.2.2.2.2, up2_ne h.2.2.2.1]
    by_cases hi : i = n
    · subst hi; rw [up2_vv, if_pos (by omega), bg_ne h.1 h.2.1 h.2.2.1]
    · rw [up2_vn hi, bg_c h n i]
      by_cases h2 : i < n
      · rw [if_pos h2, if_pos (by omega)]
      · rw [if_neg h2, if_neg (by omega)]
theorem bg_e {α : pSt} {c d e f : Nat} (h : ¬ e = c ∧ ¬ e = f) : ∀ n i, bg α c d e f n e i = if i < n then 0 else α e i
  | 0, i => by rw [if_neg (by omega)]; rfl
  | n + 1, i => by
    show up2 (up2 (up2 (bg α c d e f n) c n (bg α c d e f n d n)) e n 0) f n 0 e i = _
    rw [up2_ne h.2]
    by_cases hi : i = n
    · subst hi; rw [up2_vv, if_pos (by omega)]
    · rw [up2_vn hi, up2_ne h.1, bg_e h n i]
      by_cases h2 : i < n
      · rw [if_pos h2, if_pos (by omega)]
      · rw [if_neg h2, if_neg (by omega)]
theorem bg_f {α : pSt} {c d e f : Nat} (h : ¬ f = c ∧ ¬ f = e) : ∀ n i, bg α c d e f n f i = if i < n then 0 else α f i
  | 0, i => by rw [if_neg (by omega)]; rfl
  | n + 1, i => by
    show up2 (up2 (up2 (bg α c d e f n) c n (bg α c d e f n d n)) e n 0) f n 0 f i = _
    by_cases hi : i = n
    · subst hi; rw [up2_vv, if_pos (by omega)]
    · rw [up2_vn hi, up2_ne h.2, up2_ne h.1, bg_f h n i]
      by_cases h2 : i < n
      · rw [if_pos h2, if_pos (by omega)]
      · rw [if_neg h2, if_neg (by omega)]
theorem beginRun_L {np : Nat} {α : pSt} (hn : np ≤ 6) (ha : α 10 0 = nI np) : ∀ (f i : Nat), i ≤ np → np < i + f → f_X4_beginRun_L2 f (nI i) (bg α 7 6 8 9 i) = some ((), bg α 7 6 8 9 np) := by
  intro f
  induction f with
  | zero => intro i h1 h2; omega
  | succ f ih =>
    intro i h1 h2
    have hc : bg α 7 6 8 9 i 10 0 = nI np := by rw [bg_ne (by decide) (by decide) (by decide)]; exact ha
    rw [f_X4_beginRun_L2, hc]
    by_cases hi : i = np
    · subst hi
      rw [if_pos ((le_nI (by omega) (by omega)).mpr (Nat.le_refl _))]
    · rw [if_neg (by rw [le_nI (by omega) (by omega)]; omega), at4_np (show i < np by omega) hn hc, pb_s, pO_1, pg_t (by rw [decide_eq_true_eq]; omega), nI_1]
      unfold f_X3_beginRun
      rw [pl_s, pl_s, pl_s, pb_s]
      exact ih (i + 1) (by omega) (by omega)
theorem keep_L {α : pSt} : ∀ (f i : Nat), i ≤ 4 → 4 < i + f → f_X5_keep_L10 f (nI i) (cpy α 1 0 7 i) = some ((), cpy α 1 0 7 4) := by
  intro f
  induction f with
  | zero => intro i h1 h2; omega
  | succ f ih =>
    intro i h1 h2
    rw [f_X5_keep_L10]
    by_cases hi : i = 4
    · subst hi
      rw [if_pos (by decide)]
    · rw [if_neg (by rw [n4, le_nI (by omega) (by omega)]; omega), pg_t (pin_nI (by omega) (by decide)), cl_nI (by omega), nI_1]
      unfold f_X6_keep
      rw [pl_s, pb_s]
      exact ih (i + 1) (by omega) (by omega)
def stB (β : pSt) (N : Int32) : pSt := up2 (up2 (up2 (up2 (up2 (up2 (up2 β 28 0 0) 29 0 N) 30 0 0) 33 0 0) 31 0 0) 32 0 0) 34 0 0
theorem L107_eq {y3 y2 a0 : Int32} {β : pSt} : ∀ (f i : Nat), i ≤ 4 → 4 < i + f → f_X10_run_L107 y3 y2 a0 f (nI i) (cpy β 24 23 0 i) = f_X10_run_L174 y2 pF 1 0 y3 (stB (cpy β 24 23 0 4) a0) := by
  intro f
  induction f with
  | zero => intro i h1 h2; omega
  | succ f ih =>
    intro i h1 h2
    rw [f_X10_run_L107]
    by_cases hi : i = 4
    · subst hi
      rw [if_pos (by decide)]
      rw [pl_s, pl_s, pl_s, pl_s, pl_s, pl_s, pl_s]
      rfl
    · rw [if_neg (by rw [n4, le_nI (by omega) (by omega)]; omega), pg_t (pin_nI (by omega) (by decide)), pg_t (pin_nI (by omega) (by decide)), cl_nI (by omega), pl_s, nI_1]
      have hs : up2 (cpy β 24 23 0 i) 24 i (cpy β 24 23 0 i 23 i) = cpy β 24 23 0 (i + 1) := by
        show _ = up2 (cpy β 24 23 0 i) 24 (0 + i) (cpy β 24 23 0 i 23 (0 + i))
        rw [Nat.zero_add]
      rw [hs]
      exact ih (i + 1) (by omega) (by omega)
theorem L61_eq {y3 y2 a0 : Int32} {β : pSt} : ∀ (f i : Nat), i ≤ 6 → 6 < i + f → f_X10_run_L61 y3 y2 a0 f (nI i) (bg β 12 11 13 14 i) = f_X10_run_L174 y2 pF 1 0 y3 (stB (cpy (bg β 12 11 13 14 6) 24 23 0 4) a0) := by
  intro f
  induction f with
  | zero => intro i h1 h2; omega
  | succ f ih =>
    intro i h1 h2
    rw [f_X10_run_L61]
    by_cases hi : i = 6
    · subst hi
      have hL := L107_eq (y3 := y3) (y2 := y2) (a0 := a0) (β := bg β 12 11 13 14 6) pF 0 (Nat.zero_le _) (by decide)
      rw [show cpy (bg β 12 11 13 14 6) 24 23 0 0 = bg β 12 11 13 14 6 from rfl, nI_0] at hL
      rw [if_pos (by decide), hL]
    · have hp : pin (nI i) 6 = true := pin_nI (by omega) (by decide)
      rw [if_neg (by rw [n6, le_nI (by omega) (by omega)]; omega), pg_t hp, pg_t hp, cl_nI (by omega), pl_s, pg_t hp, pl_s, pg_t hp, pl_s, nI_1]
      exact ih (i + 1) (by omega) (by omega)
theorem L25_eq {y2 a0 : Int32} {β : pSt} {n : Nat} (hn : n ≤ 40) (hb : β 15 0 = nI n) : ∀ (f i : Nat), i ≤ n → n < i + f → f_X10_run_L25 y2 a0 f (nI i) (nI (cnt (β 18) i)) β = f_X10_run_L61 (nI (cnt (β 18) n)) y2 a0 pF 0 β := by
  intro f
  induction f with
  | zero => intro i h1 h2; omega
  | succ f ih =>
    intro i h1 h2
    rw [f_X10_run_L25, hb]
    by_cases hi : i = n
    · subst hi
      rw [if_pos ((le_nI (by omega) (by omega)).mpr (Nat.le_refl _))]
    · rw [if_neg (by rw [le_nI (by omega) (by omega)]; omega), pg_t (pin_nI (by omega) (by decide)), cl_nI (by omega), nI_1]
      have hs := cnt_s (β 18) i
      have hh := ih (i + 1) (by omega) (by omega)
      rw [← hs] at hh
      by_cases c : β 18 i = 0
      · rw [if_pos c] at hh ⊢; exact hh
      · rw [if_neg c] at hh ⊢; exact hh
def stA (α : pSt) (N t : Int32) : pSt := up2 (up2 (up2 (up2 (up2 (up2 α 14 0 N) 13 0 t) 15 0 0) 16 0 0) 17 0 0) 18 0 0
theorem stA_ne {α : pSt} {N t : Int32} {d : Nat} (h : ¬ (13 ≤ d ∧ d ≤ 18)) : stA α N t d = α d := by
  unfold stA; simp (disch := omega) only [up2_ne]
theorem stB_ne {β : pSt} {N : Int32} {d : Nat} (h : ¬ (28 ≤ d ∧ d ≤ 34)) : stB β N d = β d := by
  unfold stB; simp (disch := omega) only [up2_ne]
theorem begin_eq {α : pSt} {np : Nat} {N : Int32} (hn : np ≤ 6) (ha : α 10 0 = nI np) (ht : pbl (α 22 0) = true) : f_X7_begin N (α 22 0) α = some ((), cpy (bg (stA α N (α 22 0)) 7 6 8 9 np) 1 0 7 4) := by
  unfold f_X7_begin
  rw [pl_s, pg_t ht, pl_s, pl_s, pl_s, pl_s, pl_s]
  have e1 : f_X4_beginRun (stA α N (α 22 0)) = some ((), bg (stA α N (α 22 0)) 7 6 8 9 np) := by
    have h := beginRun_L (α := stA α N (α 22 0)) hn ha pF 0 (Nat.zero_le _) (by show np < 0 + 128; omega)
    rw [show bg (stA α N (α 22 0)) 7 6 8 9 0 = stA α N (α 22 0) from rfl, nI_0] at h
    exact h
  have e2 : f_X5_keep (bg (stA α N (α 22 0)) 7 6 8 9 np) = some ((), cpy (bg (stA α N (α 22 0)) 7 6 8 9 np) 1 0 7 4) := by
    have h := keep_L (α := bg (stA α N (α 22 0)) 7 6 8 9 np) pF 0 (Nat.zero_le _) (by decide)
    rw [show cpy (bg (stA α N (α 22 0)) 7 6 8 9 np) 1 0 7 0 = bg (stA α N (α 22 0)) 7 6 8 9 np from rfl, nI_0] at h
    exact h
  have e3 : up2 (up2 (up2 (up2 (up2 (up2 α 14 0 N) 13 0 (α 22 0)) 15 0 0) 16 0 0) 17 0 0) 18 0 0 = stA α N (α 22 0) := rfl
  rw [e3, e1, pb_s, e2, pb_s]
theorem stA_13 {α : pSt} {N t : Int32} : stA α N t 13 0 = t := by show up2 (up2 α 14 0 N) 13 0 t 13 0 = _; rw [up2_vv]
theorem stA_14 {α : pSt} {N t : Int32} : stA α N t 14 0 = N := by show up2 α 14 0 N 14 0 = _; rw [up2_vv]
theorem stA_15 {α : pSt} {N t : Int32} : stA α N t 15 0 = 0 := by show up2 (up2 (up2 α 14 0 N) 13 0 t) 15 0 0 15 0 = _; rw [up2_vv]
theorem stA_16 {α : pSt} {N t : Int32} : stA α N t 16 0 = 0 := by show up2 (up2 (up2 (up2 α 14 0 N) 13 0 t) 15 0 0) 16 0 0 16 0 = _; rw [up2_vv]
theorem stA_17 {α : pSt} {N t : Int32} : stA α N t 17 0 = 0 := by show up2 (up2 (up2 (up2 (up2 α 14 0 N) 13 0 t) 15 0 0) 16 0 0) 17 0 0 17 0 = _; rw [up2_vv]
theorem stA_18 {α : pSt} {N t : Int32} : stA α N t 18 0 = 0 := by unfold stA; rw [up2_vv]
theorem stB_28 {β : pSt} {N : Int32} : stB β N 28 0 = 0 := by show up2 β 28 0 0 28 0 = _; rw [up2_vv]
theorem stB_29 {β : pSt} {N : Int32} : stB β N 29 0 = N := by show up2 (up2 β 28 0 0) 29 0 N 29 0 = _; rw [up2_vv]
theorem stB_30 {β : pSt} {N : Int32} : stB β N 30 0 = 0 := by show up2 (up2 (up2 β 28 0 0) 29 0 N) 30 0 0 30 0 = _; rw [up2_vv]
theorem stB_31 {β : pSt} {N : Int32} : stB β N 31 0 = 0 := by show up2 (up2 (up2 (up2 (up2 β 28 0 0) 29 0 N) 30 0 0) 33 0 0) 31 0 0 31 0 = _; rw [up2_vv]
theorem stB_32 {β : pSt} {N : Int32} : stB β N 32 0 = 0 := by show up2 (up2 (up2 (up2 (up2 (up2 β 28 0 0) 29 0 N) 30 0 0) 33 0 0) 31 0 0) 32 0 0 32 0 = _; rw [up2_vv]
theorem stB_34 {β : pSt} {N : Int32} : stB β N 34 0 = 0 := by unfold stB; rw [up2_vv]
theorem q_start0 {α β X Y : pSt} {n np N : Nat} (hR : rA α β) (hn : n ≤ 40) (ha : α 11 0 = nI n) (hN : N ≤ 100000) (hnp : np ≤ 6) (hp : α 10 0 = nI np)
    (fa : ∀ d, ¬ d = 1 → ¬ d = 7 → ¬ d = 8 → ¬ d = 9 → ¬ (13 ≤ d ∧ d ≤ 18) → X d = α d) (fb : ∀ d, ¬ d = 24 → ¬ (12 ≤ d ∧ d ≤ 14) → ¬ (28 ≤ d ∧ d ≤ 34) → Y d = β d)
    (f1 : ∀ r, r < 4 → X 1 (7 + r) = α 0 (7 + r)) (f7 : ∀ p, p < np → X 7 p = α 6 p) (f8 : ∀ p, p < np → X 8 p = 0) (f9 : ∀ p, p < np → X 9 p = 0)
    (f13 : X 13 0 = α 22 0) (f14 : X 14 0 = nI N) (f15 : X 15 0 = 0) (f16 : X 16 0 = 0) (f17 : X 17 0 = 0) (f18 : X 18 0 = 0)
    (g12 : ∀ p, p < 6 → Y 12 p = β 11 p) (g13 : ∀ p, p < 6 → Y 13 p = 0) (g14 : ∀ p, p < 6 → Y 14 p = 0) (g24 : ∀ r, r < 4 → Y 24 r = β 23 r)
    (g28 : Y 28 0 = 0) (g29 : Y 29 0 = nI N) (g30 : Y 30 0 = 0) (g31 : Y 31 0 = 0) (g32 : Y 32 0 = 0) (g34 : Y 34 0 = 0) : qH n N np X Y ∧ fr α X ∧ frM β Y ∧ X 11 = α 11 ∧ X 27 = α 27 ∧ X 17 0 = 0 ∧ Y 34 0 = 0 := by
  obtain ⟨rt, rf, ⟨np', p1, p2, p3, p4⟩, ⟨n', b2, b3, b4, b5⟩, ro, rss, rm, rn⟩ := hR
  have hnn : n' = n := (eq_nI (by omega) (by omega)).mp (b3.symm.trans ha)
  subst hnn
  have hnp' : np' = np := (eq_nI (by omega) (by omega)).mp (p2.symm.trans hp)
  subst hnp'
  refine ⟨⟨⟨np', p1, ?_, ?_, fun p hp => ?_⟩, ⟨n', Nat.le_refl _, hn, ?_, ?_, fun u hu => ?_, fun u u1 u2 => by omega⟩, ?_, fun r hr => ?_, ?_, Or.inl ⟨f15, g32⟩, ⟨0, by omega, hN, f14, f16, g28, by rw [g29]; rfl⟩, ⟨by rw [f17, g30], by rw [f18, g31]⟩, ?_, ⟨?_, p1, fun p hp => ?_⟩, fun r hr => ?_⟩, ⟨fun d hd => fa d (by omega) (by omega) (by omega) (by omega) (by omega), fun i hi => by rw [fa 0 (by decide) (by decide) (by decide) (by decide) (by decide)]⟩, fun d hd => fb d (by omega) (by omega) (by omega), fa 11 (by decide) (by decide) (by decide) (by decide) (by decide), fa 27 (by decide) (by decide) (by decide) (by decide) (by decide), f17, g34⟩
  · rw [fa 10 (by decide) (by decide) (by decide) (by decide) (by decide)]; exact p2
  · rw [fb 7 (by decide) (by decide) (by decide)]; exact p3
  · obtain ⟨h1, ⟨m, m1, m2, m3, m4, m5, m6⟩, h3, h4, h5, h6⟩ := p4 p hp
    have e60 : X (60 + p) = α (60 + p) := fa _ (by omega) (by omega) (by omega) (by omega) (by omega)
    unfold rp
    rw [e60, fa 4 (by decide) (by decide) (by decide) (by decide) (by decide), fa 5 (by decide) (by decide) (by decide) (by decide) (by decide), fa 6 (by decide) (by decide) (by decide) (by decide) (by decide), f8 p hp, f9 p hp, fb 8 (by decide) (by decide) (by decide), fb 9 (by decide) (by decide) (by decide), fb 10 (by decide) (by decide) (by decide), fb 11 (by decide) (by decide) (by decide), g13 p (by omega), g14 p (by omega)]
    exact ⟨h1, ⟨m, m1, m2, m3, m4, m5, m6⟩, h3, rfl, rfl, rfl⟩
  · rw [fa 11 (by decide) (by decide) (by decide) (by decide) (by decide)]; exact b3
  · rw [fb 15 (by decide) (by decide) (by decide)]; exact b4
  · unfold ru
    rw [fa 25 (by decide) (by decide) (by decide) (by decide) (by decide), fa 26 (by decide) (by decide) (by decide) (by decide) (by decide), fa 27 (by decide) (by decide) (by decide) (by decide) (by decide), fa 28 (by decide) (by decide) (by decide) (by decide) (by decide), fa 29 (by decide) (by decide) (by decide) (by decide) (by decide), fb 16 (by decide) (by decide) (by decide), fb 17 (by decide) (by decide) (by decide), fb 18 (by decide) (by decide) (by decide), fb 19 (by decide) (by decide) (by decide), fb 20 (by decide) (by decide) (by decide)]
    exact b5 u hu
  · unfold q3
    rw [fa 23 (by decide) (by decide) (by decide) (by decide) (by decide), fb 21 (by decide) (by decide) (by decide)]
    exact ro.1
  · exact (rss r hr).c (by rw [fa 0 (by decide) (by decide) (by decide) (by decide) (by decide)]) (fa _ (by omega) (by omega) (by omega) (by omega) (by omega)) (by rw [fb 23 (by decide) (by decide) (by decide)]) (fun i _ => by rw [fb 25 (by decide) (by decide) (by decide)])
  · unfold rM
    rw [fa 12 (by decide) (by decide) (by decide) (by decide) (by decide), fa 30 (by decide) (by decide) (by decide) (by decide) (by decide), fb 26 (by decide) (by decide) (by decide), fb 27 (by decide) (by decide) (by decide)]
    exact rm
  · rw [f13, fb 22 (by decide) (by decide) (by decide)]; exact ro.2.1
  · rw [fa 10 (by decide) (by decide) (by decide) (by decide) (by decide)]; exact p2
  · rw [f7 p hp, g12 p (by omega)]; exact (p4 p hp).2.2.1
  · obtain ⟨m, m1, m2, m3, m4⟩ := rss r hr
    exact ⟨m, m, Nat.le_refl _, m1, by rw [fa 0 (by decide) (by decide) (by decide) (by decide) (by decide)]; exact m2, (f1 r hr).trans m2, (g24 r hr).trans m3⟩
theorem q_start {α β : pSt} {n np N : Nat} (hR : rA α β) (hn : n ≤ 40) (ha : α 11 0 = nI n) (hN : N ≤ 100000) (hnp : np ≤ 6) (hp : α 10 0 = nI np) : qH n N np (cpy (bg (stA α (nI N) (α 22 0)) 7 6 8 9 np) 1 0 7 4) (stB (cpy (bg β 12 11 13 14 6) 24 23 0 4) (nI N)) ∧ fr α (cpy (bg (stA α (nI N) (α 22 0)) 7 6 8 9 np) 1 0 7 4) ∧ frM β (stB (cpy (bg β 12 11 13 14 6) 24 23 0 4) (nI N)) ∧ (cpy (bg (stA α (nI N) (α 22 0)) 7 6 8 9 np) 1 0 7 4) 11 = α 11 ∧ (cpy (bg (stA α (nI N) (α 22 0)) 7 6 8 9 np) 1 0 7 4) 27 = α 27 ∧ (cpy (bg (stA α (nI N) (α 22 0)) 7 6 8 9 np) 1 0 7 4) 17 0 = 0 ∧ (stB (cpy (bg β 12 11 13 14 6) 24 23 0 4) (nI N)) 34 0 = 0 :=
  q_start0 hR hn ha hN hnp hp (fun d d1 d2 d3 d4 d5 => by rw [cpy_ne d1, bg_ne d2 d3 d4, stA_ne d5]) (fun d d1 d2 d3 => by rw [stB_ne d3, cpy_ne d1, bg_ne (by omega) (by omega) (by omega)])
    (fun r hr => by rw [cpy_at (by decide), if_pos (by omega), bg_ne (by decide) (by decide) (by decide), stA_ne (by omega)]) (fun p hp => by rw [cpy_ne (by decide), bg_c (by decide), if_pos hp, stA_ne (by omega)]) (fun p hp => by rw [cpy_ne (by decide), bg_e (by decide), if_pos hp]) (fun p hp => by rw [cpy_ne (by decide), bg_f (by decide), if_pos hp])
    (by rw [cpy_ne (by decide), bg_ne (by decide) (by decide) (by decide), stA_13]) (by rw [cpy_ne (by decide), bg_ne (by decide) (by decide) (by decide), stA_14]) (by rw [cpy_ne (by decide), bg_ne (by decide) (by decide) (by decide), stA_15]) (by rw [cpy_ne (by decide), bg_ne (by decide) (by decide) (by decide), stA_16]) (by rw [cpy_ne (by decide), bg_ne (by decide) (by decide) (by decide), stA_17]) (by rw [cpy_ne (by decide), bg_ne (by decide) (by decide) (by decide), stA_18])
    (fun p hp => by rw [stB_ne (by omega), cpy_ne (by decide), bg_c (by decide), if_pos (by omega)]) (fun p hp => by rw [stB_ne (by omega), cpy_ne (by decide), bg_e (by decide), if_pos (by omega)]) (fun p hp => by rw [stB_ne (by omega), cpy_ne (by decide), bg_f (by decide), if_pos (by omega)]) (fun r hr => by rw [stB_ne (by omega), cpy_at (by decide), if_pos (by omega), bg_ne (by decide) (by decide) (by decide)])
    stB_28 stB_29 stB_30 stB_31 stB_32 stB_34
theorem sm_run0 {α β X Y : pSt} {n np N : Nat} (hN : N ≤ 100000) (rt : rT α β) (rf : ∀ f, f < 6 → rF α β f) (ro : rO α β) (b2 : n ≤ 40) (b3 : α 11 0 = nI n) (hcc : cnt (α 27) n = cnt (β 18) n) (hcl : cnt (β 18) n ≤ n) (s1 : qH n N np X Y) (s2 : fr α X) (s3 : frM β Y) (s4 : X 11 = α 11) (s5 : X 27 = α 27) (s6 : X 17 0 = 0) (s7 : Y 34 0 = 0) (hbe : f_X7_begin (nI N) (α 22 0) α = some ((), X)) (hM : f_X10_run (nI N) β = f_X10_run_L174 (nI n) pF 1 0 (nI (cnt (β 18) n)) Y) : pS (f_X9_run (nI N) α) (f_X10_run (nI N) β) := by
  have hX11 : X 11 0 = nI n := by rw [s4]; exact b3
  have hC : f_X9_run (nI N) α = f_X7_go_L37 (nI n) pF 0 (nI (if cnt (β 18) n = 0 then 0 else n)) 0 X := by
    have hpb : ∀ z : Option (Int32 × pSt), (pb z fun r3 α4 => some (r3, α4)) = z := fun z => by
      cases z with
      | none => rfl
      | some w => rfl
    unfold f_X9_run
    rw [if_neg (nI_n0 (by omega)), if_pos (by rw [show (100000 : Int32) = nI 100000 from rfl, le_nI (by omega) (by omega)]; omega), hpb]
    unfold f_X7_go
    rw [hbe, pb_s, size8, pb_s, countNew_eq b2 hX11, pb_s, hX11, s5, hcc]
    by_cases c : cnt (β 18) n = 0
    · rw [if_pos c, c, if_pos (show nI 0 ≤ 0 by decide)]; rfl
    · rw [if_neg c, if_neg (by rw [show (0 : Int32) = nI 0 from rfl, le_nI (by omega) (by omega)]; omega)]
  rw [hM, hC]
  have hL := loop_sim (N := N) (np := np) (n0 := n) rt rf ro pF 0 0 (if cnt (β 18) n = 0 then 0 else n) (cnt (β 18) n) n 1 X Y s1 (Or.inl (by rw [s6]; decide)) s7 s2 s3 hX11 b2 (by omega) (by omega) (fun z => absurd z (by decide)) (by
    by_cases c : cnt (β 18) n = 0
    · rw [if_pos c]; omega
    · rw [if_neg c]; omega) (by
    by_cases c : cnt (β 18) n = 0
    · rw [if_pos c]; omega
    · rw [if_neg c]; intro _; rfl) (by omega) (by
    by_cases c : cnt (β 18) n = 0
    · rw [if_pos c]; omega
    · rw [if_neg c]; omega) (by show 40 < 0 + 128; omega)
  rw [nI_0] at hL
  exact hL
theorem sm_run {α β : pSt} (hR : rA α β) (a0 : Int32) : pS (f_X9_run a0 α) (f_X10_run a0 β) := by
  rcases ix a0 (n := 100001) (by decide) with h | ⟨N, hN, rfl⟩
  · have h1 : f_X10_in a0.toInt64 0 100000 β = some (0, β) := in_bad (n := 100001) (by decide) (by decide) h
    refine pS_same (r := -102) hR ?_ ?_
    · unfold f_X9_run
      by_cases h0 : a0 < 0
      · rw [if_pos h0]
      · have h2 := h.resolve_left h0
        rw [if_neg h0, if_neg]
        intro h3
        have h4 : nI 100001 ≤ (100000 : Int32) := Int32.le_trans h2 h3
        exact absurd h4 (by decide)
    · unfold f_X10_run; rw [h1]; rfl
  · have h1 : f_X10_in (nI N).toInt64 0 100000 β = some (1, β) := in_good (n := 100001) (by decide) hN
    obtain ⟨rt, rf, ⟨np, p1, p2, p3, p4⟩, ⟨n, b2, b3, b4, b5⟩, ro, rss, rm, rn⟩ := id hR
    have hcc : cnt (α 27) n = cnt (β 18) n := cnt_congr n (fun i hi => (b5 i hi).2.2.1)
    have hcl := cnt_le (β 18) n
    obtain ⟨s1, s2, s3, s4, s5, s6, s7⟩ := q_start hR b2 b3 (show N ≤ 100000 by omega) p1 p2
    have hbe := begin_eq (N := nI N) p1 p2 ro.2.2
    have hM : f_X10_run (nI N) β = f_X10_run_L174 (nI n) pF 1 0 (nI (cnt (β 18) n)) (stB (cpy (bg β 12 11 13 14 6) 24 23 0 4) (nI N)) := by
      unfold f_X10_run
      rw [h1, pb_s, if_neg (by decide), b4]
      have e1 := L25_eq (y2 := nI n) (a0 := nI N) b2 b4 pF 0 (Nat.zero_le _) (by show n < 0 + 128; omega)
      have e2 := L61_eq (y3 := nI (cnt (β 18) n)) (y2 := nI n) (a0 := nI N) (β := β) pF 0 (Nat.zero_le _) (by decide)
      rw [show bg β 12 11 13 14 0 = β from rfl, nI_0] at e2
      rw [show cnt (β 18) 0 = 0 from rfl, nI_0] at e1
      exact e1.trans e2
    exact sm_run0 (by omega) rt rf ro b2 b3 hcc hcl s1 s2 s3 s4 s5 s6 s7 hbe hM
