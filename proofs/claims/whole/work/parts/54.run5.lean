/-! run: a round -/
section RND
variable {n0 N np p : Nat} {α β : pSt}
theorem isNew_eq {i n : Nat} (ha : α 11 0 = nI n) (hn : n ≤ 40) (hi : i < n) : f_X8_isNew (nI i) α = some (if α 27 i = 0 then 0 else 1, α) := by
  unfold f_X8_isNew
  rw [if_neg (nI_n0 (by omega)), ha, if_neg (by rw [le_nI (by omega) (by omega)]; omega), pg_t (pin_nI (by omega) (by decide)), cl_nI (by omega)]
  by_cases c : α 27 i = 0
  · rw [if_pos c, if_pos c]
  · rw [if_neg c, if_neg c]
theorem q_S (h : qR n0 N np α β) : α 15 0 = 0 ↔ β 32 0 = 0 := by
  rcases h.2.2.2.2.2.1 with ⟨z1, z2⟩ | ⟨z1, z2⟩ | ⟨z1, z2⟩ <;> rw [z1, z2] <;> decide
/-- the class goes on over units of a processor that may do no more -/
theorem L58_idle {to' : Nat} {a0 : Int32} {kk : pSt → Option (Unit × pSt)} (hp : p < np) (hto : to' ≤ 40) : ∀ (f i n : Nat) (α β : pSt), qR n0 N np α β → (¬ α 15 0 = 0 ∨ ¬ α 8 p = 0) → α 11 0 = nI n → to' ≤ n → n ≤ 40 → i ≤ to' → to' < i + f → ∃ α', f_X7_makeRound_L58 (nI p) a0 (nI to') kk f (nI i) α = kk α' ∧ qR n0 N np α' β ∧ gr α β α' β := by
  intro f
  induction f with
  | zero => intro i n α β _ _ _ _ _ h1 h2; omega
  | succ f ih =>
    intro i n α β h hi ha htn hn h1 h2
    rw [f_X7_makeRound_L58]
    by_cases hit : i = to'
    · subst hit
      rw [if_pos ((le_nI (by omega) (by omega)).mpr (Nat.le_refl _))]
      exact ⟨α, rfl, h, .rf⟩
    · rw [if_neg (by rw [le_nI (by omega) (by omega)]; omega), isNew_eq ha hn (by omega), pb_s, nI_1]
      by_cases c : α 27 i = 0
      · rw [if_pos c, if_pos rfl]
        exact ih (i + 1) n α β h hi ha htn hn (by omega) (by omega)
      · rw [if_neg c, if_neg (by decide), doRules_idle h hp hi, pb_s]
        obtain ⟨q1, q2⟩ := q_du h (nI p) (nI i)
        obtain ⟨α', t1, t2, t3⟩ := ih (i + 1) n (up2 (up2 α 19 0 (nI p)) 20 0 (nI i)) β q1 hi ha htn hn (by omega) (by omega)
        exact ⟨α', t1, t2, q2.tr t3⟩
theorem L58_sim {to' : Nat} {a0 b0 a2 : Int32} {kk kk' : pSt → Option (Unit × pSt)} (hp : p < np) (hto : to' ≤ 40) : ∀ (f i n : Nat) (α β : pSt), qR n0 N np α β → β 34 0 = 0 → (a2 = 0 → n0 ≤ i) → α 11 0 = nI n → to' ≤ n → n ≤ 40 → i ≤ to' → to' < i + f → ∃ α' β', f_X7_makeRound_L58 (nI p) a0 (nI to') kk f (nI i) α = kk α' ∧ f_X10_turn_L39 (nI p) b0 (nI to') a2 kk' f (nI i) β = kk' β' ∧ qR n0 N np α' β' ∧ gr α β α' β' := by
  intro f
  induction f with
  | zero => intro i n α β _ _ _ _ _ _ h1 h2; omega
  | succ f ih =>
    intro i n α β h h34 h0 ha htn hn h1 h2
    obtain ⟨c1, c2, c3, c4⟩ := qR_n h
    have e8 : α 8 p = β 13 p := (c4 p hp).2.2.2.1
    have hS := q_S h
    rw [f_X10_turn_L39]
    by_cases hit : i = to'
    · subst hit
      rw [f_X7_makeRound_L58, if_pos ((le_nI (by omega) (by omega)).mpr (Nat.le_refl _)), if_pos ((le_nI (by omega) (by omega)).mpr (Nat.le_refl _))]
      exact ⟨α, β, rfl, rfl, h, .rf⟩
    · have hpo : pin (nI p) 6 = true := pin_nI (by omega) (by decide)
      rw [if_neg (by rw [le_nI (by omega) (by omega)]; omega), pg_t hpo, cl_nI (show p ≤ 1000000 by omega)]
      by_cases hI : α 15 0 = 0 ∧ α 8 p = 0
      · obtain ⟨i1, i2⟩ := hI
        rw [if_pos (hS.mp i1), if_pos (e8.symm.trans i2)]
        rw [f_X7_makeRound_L58, if_neg (by rw [le_nI (by omega) (by omega)]; omega), isNew_eq ha hn (by omega), pb_s, nI_1]
        obtain ⟨n', b1, b2, b3, b4, b5, b6⟩ := h.2.1
        have hnn : n' = n := (eq_nI (by omega) (by omega)).mp (b3.symm.trans ha)
        subst hnn
        have e18 : α 27 i = β 18 i := (b5 i (by omega)).2.2.1
        have hmet : met α β (nI i) := Or.inr ⟨i, n', rfl, ha, hn, by omega, h34⟩
        by_cases c : α 27 i = 0
        · have ha2 : ¬ a2 = 0 := fun z => b6 i (h0 z) (by omega) c
          rw [if_pos c, if_pos rfl, if_neg ha2, pg_t (pin_nI (by omega) (by decide)), cl_nI (by omega), if_pos (e18.symm.trans c)]
          exact ih (i + 1) n' α β h h34 (fun z => absurd z ha2) ha htn hn (by omega) (by omega)
        · obtain ⟨α1, β1, t1, t2, t3, t4⟩ := doRules_sim h hp hmet
          rw [if_neg c, if_neg (by decide), t1, pb_s, t2, pb_s, pg_t (pin_nI (show i < 40 by omega) (by decide)), cl_nI (show i ≤ 1000000 by omega), if_neg (fun z => c (e18.trans z))]
          obtain ⟨n2, d1, d2, d3⟩ := t4.2.2.2 n' hn ha
          obtain ⟨α2, β2, s1, s2, s3, s4⟩ := ih (i + 1) n2 α1 β1 t3 (t4.2.2.1.trans h34) (fun z => Nat.le_succ_of_le (h0 z)) d3 (by omega) d2 (by omega) (by omega)
          refine ⟨α2, β2, s1, ?_, s3, t4.tr s4⟩
          by_cases z : a2 = 0
          · rw [if_pos z]; exact s2
          · rw [if_neg z]; exact s2
      · have hi : ¬ α 15 0 = 0 ∨ ¬ α 8 p = 0 := by
          by_cases z : α 15 0 = 0
          · exact Or.inr (fun y => hI ⟨z, y⟩)
          · exact Or.inl z
        obtain ⟨α', t1, t2, t3⟩ := L58_idle (a0 := a0) (kk := kk) hp hto (f + 1) i n α β h hi ha htn hn h1 h2
        refine ⟨α', β, t1, ?_, t2, t3⟩
        by_cases z : β 32 0 = 0
        · rw [if_pos z, if_neg (by rw [← e8]; exact hi.resolve_left (fun y => y (hS.mpr z)))]
        · rw [if_neg z]
theorem L44_sim {fo to' : Nat} {a2 : Int32} (hto : to' ≤ 40) (hft : fo ≤ to') (h0 : a2 = 0 → n0 ≤ fo) : ∀ (f p n : Nat) (α β : pSt), qR n0 N np α β → β 34 0 = 0 → α 11 0 = nI n → to' ≤ n → n ≤ 40 → p ≤ np → np < p + f → ∃ α' β', f_X7_makeRound_L44 (nI fo) (nI to') f (nI p) α = some ((), α') ∧ f_X10_turn_L27 (nI fo) (nI to') a2 f (nI p) β = some ((), β') ∧ qR n0 N np α' β' ∧ gr α β α' β' := by
  intro f
  induction f with
  | zero => intro p n α β _ _ _ _ _ h1 h2; omega
  | succ f ih =>
    intro p n α β h h34 ha htn hn h1 h2
    obtain ⟨c1, c2, c3, c4⟩ := qR_n h
    rw [f_X7_makeRound_L44, f_X10_turn_L27, size4, pb_s, c1, c2]
    by_cases hpn : p = np
    · subst hpn
      rw [if_pos ((le_nI (by omega) (by omega)).mpr (Nat.le_refl _)), if_pos ((le_nI (by omega) (by omega)).mpr (Nat.le_refl _))]
      exact ⟨α, β, rfl, rfl, h, .rf⟩
    · rw [if_neg (by rw [le_nI (by omega) (by omega)]; omega), if_neg (by rw [le_nI (by omega) (by omega)]; omega), nI_1]
      obtain ⟨α1, β1, t1, t2, t3, t4⟩ := L58_sim (a0 := nI fo) (b0 := nI fo) (a2 := a2) (kk := fun α => f_X7_makeRound_L44 (nI fo) (nI to') f (nI (p + 1)) α) (kk' := fun β => f_X10_turn_L27 (nI fo) (nI to') a2 f (nI (p + 1)) β) (show p < np by omega) hto pF fo n α β h h34 h0 ha htn hn hft (by show to' < fo + 128; omega)
      obtain ⟨n2, d1, d2, d3⟩ := t4.2.2.2 n hn ha
      obtain ⟨α2, β2, s1, s2, s3, s4⟩ := ih (p + 1) n2 α1 β1 t3 (t4.2.2.1.trans h34) d3 (by omega) d2 (by omega) (by omega)
      exact ⟨α2, β2, t1.trans s1, t2.trans s2, s3, t4.tr s4⟩
theorem L20_eq {a0 a1 : Int32} : ∀ (f i : Nat), i ≤ 8 → 8 < i + f → f_X7_makeRound_L20 a0 a1 f (nI i) (fill α 24 (-1) i) = f_X7_makeRound_L44 a0 a1 pF 0 (fill α 24 (-1) 8) := by
  intro f
  induction f with
  | zero => intro i h1 h2; omega
  | succ f ih =>
    intro i h1 h2
    rw [f_X7_makeRound_L20]
    by_cases hi : i = 8
    · subst hi
      rw [if_pos (by decide)]
    · rw [if_neg (by rw [n8, le_nI (by omega) (by omega)]; omega), pg_t (pin_nI (by omega) (by decide)), cl_nI (by omega), pl_s, nI_1]
      exact ih (i + 1) (by omega) (by omega)
theorem L3_eq {a0 a1 a2 : Int32} : ∀ (f i : Nat), i ≤ 8 → 8 < i + f → f_X10_turn_L3 a0 a1 a2 f (nI i) (fill β 35 (-1) i) = f_X10_turn_L27 a0 a1 a2 pF 0 (fill β 35 (-1) 8) := by
  intro f
  induction f with
  | zero => intro i h1 h2; omega
  | succ f ih =>
    intro i h1 h2
    rw [f_X10_turn_L3]
    by_cases hi : i = 8
    · subst hi
      rw [if_pos (by decide)]
    · rw [if_neg (by rw [n8, le_nI (by omega) (by omega)]; omega), pg_t (pin_nI (by omega) (by decide)), cl_nI (by omega), pl_s, nI_1]
      exact ih (i + 1) (by omega) (by omega)
end RND
/-- what holds between rounds -/
def qH (n0 N np : Nat) (α β : pSt) : Prop := rP α β ∧ q2 n0 α β ∧ q3 α β ∧ (∀ r, r < 4 → rs α β r) ∧ rM α β ∧ q6 α β ∧ q7 N α β ∧ (α 17 0 = β 30 0 ∧ α 18 0 = β 31 0) ∧ α 13 0 = β 22 0 ∧ q11 np α β ∧ q12 α β
theorem qR.H {n0 N np : Nat} {α β : pSt} (h : qR n0 N np α β) : qH n0 N np α β := by
  obtain ⟨a1, a2, a3, a4, a5, a6, a7, a8, a9, a10, a11, a12⟩ := h
  exact ⟨a1, a2, a3, a4, a5, a6, a7, ⟨a8.1, a8.2.2⟩, a9, a11, a12⟩
/-- the two begin a round -/
theorem q_begin {n0 N np : Nat} {α β : pSt} (h : qH n0 N np α β) : qR n0 N np (fill (up2 (up2 α 17 0 (α 17 0 + 1)) 21 0 (α 17 0 + 1)) 24 (-1) 8) (fill (up2 (up2 β 30 0 (β 30 0 + 1)) 33 0 (β 30 0 + 1)) 35 (-1) 8) ∧ gr α β (fill (up2 (up2 α 17 0 (α 17 0 + 1)) 21 0 (α 17 0 + 1)) 24 (-1) 8) (fill (up2 (up2 β 30 0 (β 30 0 + 1)) 33 0 (β 30 0 + 1)) 35 (-1) 8) := by
  obtain ⟨a1, a2, a3, a4, a5, a6, a7, ⟨a8, a8'⟩, a9, a11, a12⟩ := h
  have fa : ∀ d, ¬ d = 17 → ¬ d = 21 → ¬ d = 24 → fill (up2 (up2 α 17 0 (α 17 0 + 1)) 21 0 (α 17 0 + 1)) 24 (-1) 8 d = α d := fun d d1 d2 d3 => by rw [fill_ne d3, up2_ne d2, up2_ne d1]
  have fb : ∀ d, ¬ d = 30 → ¬ d = 33 → ¬ d = 35 → fill (up2 (up2 β 30 0 (β 30 0 + 1)) 33 0 (β 30 0 + 1)) 35 (-1) 8 d = β d := fun d d1 d2 d3 => by rw [fill_ne d3, up2_ne d2, up2_ne d1]
  have f17 : fill (up2 (up2 α 17 0 (α 17 0 + 1)) 21 0 (α 17 0 + 1)) 24 (-1) 8 17 0 = α 17 0 + 1 := by rw [fill_ne (by decide), up2_ne (by decide), up2_vv]
  have f21 : fill (up2 (up2 α 17 0 (α 17 0 + 1)) 21 0 (α 17 0 + 1)) 24 (-1) 8 21 0 = α 17 0 + 1 := by rw [fill_ne (by decide), up2_vv]
  have f24 : ∀ i, i < 8 → fill (up2 (up2 α 17 0 (α 17 0 + 1)) 21 0 (α 17 0 + 1)) 24 (-1) 8 24 i = -1 := fun i hi => by rw [fill_at, if_pos hi]
  have g30 : fill (up2 (up2 β 30 0 (β 30 0 + 1)) 33 0 (β 30 0 + 1)) 35 (-1) 8 30 0 = β 30 0 + 1 := by rw [fill_ne (by decide), up2_ne (by decide), up2_vv]
  have g33 : fill (up2 (up2 β 30 0 (β 30 0 + 1)) 33 0 (β 30 0 + 1)) 35 (-1) 8 33 0 = β 30 0 + 1 := by rw [fill_ne (by decide), up2_vv]
  have g35 : ∀ i, i < 8 → fill (up2 (up2 β 30 0 (β 30 0 + 1)) 33 0 (β 30 0 + 1)) 35 (-1) 8 35 i = -1 := fun i hi => by rw [fill_at, if_pos hi]
  generalize fill (up2 (up2 α 17 0 (α 17 0 + 1)) 21 0 (α 17 0 + 1)) 24 (-1) 8 = X at *
  generalize fill (up2 (up2 β 30 0 (β 30 0 + 1)) 33 0 (β 30 0 + 1)) 35 (-1) 8 = Y at *
  refine ⟨⟨rP_k a1 (fun c hc => fa c (by omega) (by omega) (by omega)) ⟨fa 4 (by decide) (by decide) (by decide), fa 5 (by decide) (by decide) (by decide), fa 6 (by decide) (by decide) (by decide), fa 8 (by decide) (by decide) (by decide), fa 9 (by decide) (by decide) (by decide), fa 10 (by decide) (by decide) (by decide)⟩ ⟨fb 7 (by decide) (by decide) (by decide), fb 8 (by decide) (by decide) (by decide), fb 9 (by decide) (by decide) (by decide), fb 10 (by decide) (by decide) (by decide), fb 11 (by decide) (by decide) (by decide), fb 13 (by decide) (by decide) (by decide), fb 14 (by decide) (by decide) (by decide)⟩, ?_, ?_, rs_k a4 (fun c hc => fa c (by omega) (by omega) (by omega)) (fa 0 (by decide) (by decide) (by decide)) ⟨fb 23 (by decide) (by decide) (by decide), fb 25 (by decide) (by decide) (by decide)⟩, ?_, ?_, ?_, ?_, ?_, ?_, ?_, ?_⟩, .sm ⟨fun d hd => fa d (by omega) (by omega) (by omega), fun i hi => by rw [fa 0 (by decide) (by decide) (by decide)]⟩ (fun d hd => fb d (by omega) (by omega) (by omega)) (by rw [fb 34 (by decide) (by decide) (by decide)]) (by rw [fa 11 (by decide) (by decide) (by decide)])⟩
  · unfold q2 ru
    rw [fa 11 (by decide) (by decide) (by decide), fa 25 (by decide) (by decide) (by decide), fa 26 (by decide) (by decide) (by decide), fa 27 (by decide) (by decide) (by decide), fa 28 (by decide) (by decide) (by decide), fa 29 (by decide) (by decide) (by decide), fb 15 (by decide) (by decide) (by decide), fb 16 (by decide) (by decide) (by decide), fb 17 (by decide) (by decide) (by decide), fb 18 (by decide) (by decide) (by decide), fb 19 (by decide) (by decide) (by decide), fb 20 (by decide) (by decide) (by decide)]
    exact a2
  · unfold q3
    rw [fa 23 (by decide) (by decide) (by decide), fb 21 (by decide) (by decide) (by decide)]
    exact a3
  · unfold rM
    rw [fa 12 (by decide) (by decide) (by decide), fa 30 (by decide) (by decide) (by decide), fb 26 (by decide) (by decide) (by decide), fb 27 (by decide) (by decide) (by decide)]
    exact a5
  · unfold q6
    rw [fa 15 (by decide) (by decide) (by decide), fb 32 (by decide) (by decide) (by decide)]
    exact a6
  · unfold q7
    rw [fa 14 (by decide) (by decide) (by decide), fa 16 (by decide) (by decide) (by decide), fb 28 (by decide) (by decide) (by decide), fb 29 (by decide) (by decide) (by decide)]
    exact a7
  · exact ⟨by rw [f17, g30, a8], by rw [f21, g33, a8], by rw [fa 18 (by decide) (by decide) (by decide), fb 31 (by decide) (by decide) (by decide)]; exact a8'⟩
  · rw [fa 13 (by decide) (by decide) (by decide), fb 22 (by decide) (by decide) (by decide)]; exact a9
  · exact fun i hi => by rw [f24 i hi, g35 i hi]
  · unfold q11
    rw [fa 10 (by decide) (by decide) (by decide), fa 7 (by decide) (by decide) (by decide), fb 12 (by decide) (by decide) (by decide)]
    exact a11
  · unfold q12
    rw [fa 0 (by decide) (by decide) (by decide), fa 1 (by decide) (by decide) (by decide), fb 24 (by decide) (by decide) (by decide)]
    exact a12
theorem round_sim {n0 N np fo to' : Nat} {a2 : Int32} {α β : pSt} (h : qH n0 N np α β) (h34 : β 34 0 = 0) (ha : α 11 0 = nI to') (hto : to' ≤ 40) (hft : fo ≤ to') (h0 : a2 = 0 → n0 ≤ fo) : ∃ α' β', f_X7_makeRound (nI fo) (nI to') α = some ((), α') ∧ f_X10_turn (nI fo) (nI to') a2 (up2 (up2 β 30 0 (β 30 0 + 1)) 33 0 (β 30 0 + 1)) = some ((), β') ∧ qR n0 N np α' β' ∧ gr α β α' β' := by
  obtain ⟨q1, q2⟩ := q_begin h
  obtain ⟨n2, d1, d2, d3⟩ := q2.2.2.2 to' hto ha
  have c3 := (qR_n q1).2.2.1
  obtain ⟨α', β', t1, t2, t3, t4⟩ := L44_sim (a2 := a2) hto hft h0 pF 0 n2 _ _ q1 (q2.2.2.1.trans h34) d3 d1 d2 (by omega) (by show np < 0 + 128; omega)
  refine ⟨α', β', ?_, ?_, t3, q2.tr t4⟩
  · unfold f_X7_makeRound
    rw [pl_s, pl_s]
    have e17 : up2 α 17 0 (α 17 0 + 1) 17 0 = α 17 0 + 1 := by rw [up2_vv]
    rw [e17]
    have hL := L20_eq (a0 := nI fo) (a1 := nI to') (α := up2 (up2 α 17 0 (α 17 0 + 1)) 21 0 (α 17 0 + 1)) pF 0 (by omega) (by decide)
    rw [show fill (up2 (up2 α 17 0 (α 17 0 + 1)) 21 0 (α 17 0 + 1)) 24 (-1) 0 = up2 (up2 α 17 0 (α 17 0 + 1)) 21 0 (α 17 0 + 1) from rfl, nI_0] at hL
    rw [nI_0] at t1
    exact hL.trans t1
  · unfold f_X10_turn
    have hL := L3_eq (a0 := nI fo) (a1 := nI to') (a2 := a2) (β := up2 (up2 β 30 0 (β 30 0 + 1)) 33 0 (β 30 0 + 1)) pF 0 (by omega) (by decide)
    rw [show fill (up2 (up2 β 30 0 (β 30 0 + 1)) 33 0 (β 30 0 + 1)) 35 (-1) 0 = up2 (up2 β 30 0 (β 30 0 + 1)) 33 0 (β 30 0 + 1) from rfl, nI_0] at hL
    rw [nI_0] at t2
    exact hL.trans t2
