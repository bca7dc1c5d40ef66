/-! run: what holds in the midst of one -/
def q2 (n0 : Nat) (α β : pSt) : Prop := ∃ n, n0 ≤ n ∧ n ≤ 40 ∧ α 11 0 = nI n ∧ β 15 0 = nI n ∧ (∀ u, u < n → ru α β u) ∧ ∀ u, n0 ≤ u → u < n → ¬ α 27 u = 0
def q3 (α β : pSt) : Prop := ∀ i, i < 4 → α 23 i = β 21 i
def q6 (α β : pSt) : Prop := (α 15 0 = 0 ∧ β 32 0 = 0) ∨ (α 15 0 = -11 ∧ β 32 0 = 1) ∨ (α 15 0 = -12 ∧ β 32 0 = 2)
def q7 (N : Nat) (α β : pSt) : Prop := ∃ s, s ≤ N ∧ N ≤ 100000 ∧ α 14 0 = nI N ∧ α 16 0 = nI s ∧ β 28 0 = nI s ∧ β 29 0 = nI (N - s)
def q8 (α β : pSt) : Prop := α 17 0 = β 30 0 ∧ α 21 0 = β 33 0 ∧ α 18 0 = β 31 0
def q10 (α β : pSt) : Prop := ∀ k, k < 8 → α 24 k = β 35 k
def q11 (np : Nat) (α β : pSt) : Prop := α 10 0 = nI np ∧ np ≤ 6 ∧ ∀ p, p < np → α 7 p = β 12 p
def q12 (α β : pSt) : Prop := ∀ r, r < 4 → ∃ k n, k ≤ n ∧ n ≤ 100 ∧ α 0 (7 + r) = nI n ∧ α 1 (7 + r) = nI k ∧ β 24 r = nI k
def qR (n0 N np : Nat) (α β : pSt) : Prop := rP α β ∧ q2 n0 α β ∧ q3 α β ∧ (∀ r, r < 4 → rs α β r) ∧ rM α β ∧ q6 α β ∧ q7 N α β ∧ q8 α β ∧ α 13 0 = β 22 0 ∧ q10 α β ∧ q11 np α β ∧ q12 α β
def fr (α α' : pSt) : Prop := (∀ d, (d = 2 ∨ d = 3 ∨ d = 4 ∨ d = 5 ∨ d = 10 ∨ d = 22 ∨ d = 23 ∨ (40 ≤ d ∧ d < 47) ∨ 60 ≤ d) → α' d = α d) ∧ ∀ i, i < 7 → α' 0 i = α 0 i
def frM (β β' : pSt) : Prop := ∀ d, (d ≤ 10 ∨ d = 21 ∨ d = 22) → β' d = β d
theorem fr.rf {α : pSt} : fr α α := ⟨fun _ _ => rfl, fun _ _ => rfl⟩
theorem fr.tr {α α1 α2 : pSt} (h1 : fr α α1) (h2 : fr α1 α2) : fr α α2 := ⟨fun d hd => (h2.1 d hd).trans (h1.1 d hd), fun i hi => (h2.2 i hi).trans (h1.2 i hi)⟩
theorem frM.rf {β : pSt} : frM β β := fun _ _ => rfl
theorem frM.tr {β β1 β2 : pSt} (h1 : frM β β1) (h2 : frM β1 β2) : frM β β2 := fun d hd => (h2 d hd).trans (h1 d hd)
theorem fr.up {α : pSt} {c i : Nat} {x : Int32} (h : c = 1 ∨ (6 ≤ c ∧ c ≤ 9) ∨ (11 ≤ c ∧ c ≤ 21) ∨ (24 ≤ c ∧ c < 40) ∨ (47 ≤ c ∧ c < 60)) : fr α (up2 α c i x) :=
  ⟨fun d hd => up2_ne (by omega), fun z hz => by rw [up2_ne (by omega)]⟩
theorem fr.up0 {α : pSt} {i : Nat} {x : Int32} (h : 7 ≤ i) : fr α (up2 α 0 i x) := ⟨fun d hd => up2_ne (by omega), fun z hz => up2_vn (by omega)⟩
theorem frM.up {β : pSt} {c i : Nat} {x : Int32} (h : (11 ≤ c ∧ c ≤ 20) ∨ 23 ≤ c) : frM β (up2 β c i x) := fun d hd => up2_ne (by omega)
/-- a member of the world of processors: the same but value, stopped, steps of one -/
theorem rP_v {α β : pSt} {p : Nat} {x : Int32} (h : rP α β) : rP (up2 α 6 p x) (up2 β 11 p x) := by
  obtain ⟨n, h1, h2, h3, h4⟩ := h
  refine ⟨n, h1, h2, h3, fun q hq => ?_⟩
  obtain ⟨g1, ⟨m, m1, m2, m3, m4, m5, m6⟩, g3, g4, g5, g6⟩ := h4 q hq
  have e : up2 α 6 p x (60 + q) = α (60 + q) := up2_ne (by omega)
  refine ⟨g1, ⟨m, m1, m2, m3, m4, by rw [e]; exact m5, by rw [e]; exact m6⟩, ?_, g4, g5, g6⟩
  by_cases hqp : q = p
  · subst hqp; rw [up2_vv, up2_vv]
  · rw [up2_vn hqp, up2_vn hqp]; exact g3
theorem rP_st {α β : pSt} {p : Nat} (h : rP α β) : rP (up2 α 8 p 1) (up2 β 13 p 1) := by
  obtain ⟨n, h1, h2, h3, h4⟩ := h
  refine ⟨n, h1, h2, h3, fun q hq => ?_⟩
  obtain ⟨g1, ⟨m, m1, m2, m3, m4, m5, m6⟩, g3, g4, g5, g6⟩ := h4 q hq
  have e : up2 α 8 p 1 (60 + q) = α (60 + q) := up2_ne (by omega)
  refine ⟨g1, ⟨m, m1, m2, m3, m4, by rw [e]; exact m5, by rw [e]; exact m6⟩, g3, ?_, ?_, g6⟩
  · by_cases hqp : q = p
    · subst hqp; rw [up2_vv, up2_vv]
    · rw [up2_vn hqp, up2_vn hqp]; exact g4
  · by_cases hqp : q = p
    · subst hqp; rw [up2_vv]; rfl
    · rw [up2_vn hqp]; exact g5
theorem rP_tk {α β : pSt} {p : Nat} {x y z w : Int32} (h : rP α β) (k : Int32) (hx : x = α 9 p + k) (hy : y = β 14 p + k) (hpn : ∀ n, α 10 0 = nI n → n ≤ 6 → p < n) : rP (up2 (up2 α 16 0 z) 9 p x) (up2 (up2 (up2 β 29 0 w) 28 0 z) 14 p y) := by
  obtain ⟨n, h1, h2, h3, h4⟩ := h
  refine ⟨n, h1, h2, h3, fun q hq => ?_⟩
  obtain ⟨g1, ⟨m, m1, m2, m3, m4, m5, m6⟩, g3, g4, g5, g6⟩ := h4 q hq
  have e : up2 (up2 α 16 0 z) 9 p x (60 + q) = α (60 + q) := by rw [up2_ne (by omega), up2_ne (by omega)]
  refine ⟨g1, ⟨m, m1, m2, m3, m4, by rw [e]; exact m5, by rw [e]; exact m6⟩, g3, g4, g5, ?_⟩
  by_cases hqp : q = p
  · subst hqp; rw [up2_vv, up2_vv, hx, hy, g6]
  · rw [up2_vn hqp, up2_vn hqp]; exact g6
/-! the steps -/
theorem take_ok {n0 N np p k s : Nat} {α β : pSt} (h : qR n0 N np α β) (hp : p < np) (hk : k ≤ 70000) (h15 : α 15 0 = 0) (hs : α 16 0 = nI s) (hs2 : s ≤ N) (hfit : k ≤ N - s) : ∃ α' β', f_X7_takeSteps p (nI k) α = some (1, α') ∧ f_X10_step (nI p) (nI k) β = some ((), β') ∧ qR n0 N np α' β' ∧ fr α α' ∧ frM β β' ∧ α' 15 0 = 0 ∧ β' 32 0 = 0 ∧ (∀ d, ¬ d = 16 → ¬ d = 9 → α' d = α d) ∧ (∀ d, ¬ d = 28 → ¬ d = 29 → ¬ d = 14 → β' d = β d) := by
  obtain ⟨a1, a2, a3, a4, a5, a6, ⟨s', b1, b2, b3, b4, b5, b6⟩, a8, a9, a10, ⟨c1, c2, c3⟩, a12⟩ := h
  have hss : s' = s := (eq_nI (by omega) (by omega)).mp (b4.symm.trans hs)
  subst hss
  have hp6 : p < 6 := by omega
  have h32 : β 32 0 = 0 := by
    rcases a6 with q | q | q
    · exact q.2
    · rw [h15] at q; exact absurd q.1 (by decide)
    · rw [h15] at q; exact absurd q.1 (by decide)
  refine ⟨up2 (up2 α 16 0 (nI (s' + k))) 9 p (α 9 p + nI k), up2 (up2 (up2 β 29 0 (nI (N - (s' + k)))) 28 0 (nI (s' + k))) 14 p (β 14 p + nI k), ?_, ?_, ?_, (fr.up (by omega)).tr (fr.up (by omega)), ((frM.up (by omega)).tr (frM.up (by omega))).tr (frM.up (by omega)), h15, h32, fun d d1 d2 => by rw [up2_ne d2, up2_ne d1], fun d d1 d2 d3 => by rw [up2_ne d3, up2_ne d1, up2_ne d2]⟩
  · unfold f_X7_takeSteps
    rw [b3, b4, pk_sub b1, if_pos (by rw [le_nI (by omega) (by omega)]; exact hfit), nI_add]
    rfl
  · unfold f_X10_step
    rw [b6, if_pos (by rw [le_nI (by omega) (by omega)]; exact hfit), pk_sub hfit, pl_s]
    have e : up2 β 29 0 (nI (N - s' - k)) 28 0 = nI s' := b5
    rw [e, nI_add, pl_s, pg_t (pin_nI hp6 (by decide)), pg_t (pin_nI hp6 (by decide)), cl_nI (by omega), show N - s' - k = N - (s' + k) by omega]
    rfl
  · refine ⟨rP_tk a1 (nI k) rfl rfl (fun n q1 q2 => ?_), a2, a3, rs_k a4 (by intro c hc; simp (disch := omega) only [up2_ne]) rfl ⟨rfl, rfl⟩, a5, a6, ⟨s' + k, by omega, b2, b3, ?_, ?_, ?_⟩, a8, a9, a10, ⟨c1, c2, c3⟩, a12⟩
    · rw [c1] at q1
      have := (eq_nI (by omega) (by omega)).mp q1
      omega
    · show up2 α 16 0 (nI (s' + k)) 16 0 = _; rw [up2_vv]
    · show up2 (up2 β 29 0 (nI (N - (s' + k)))) 28 0 (nI (s' + k)) 28 0 = _; rw [up2_vv]
    · show up2 β 29 0 (nI (N - (s' + k))) 29 0 = _; rw [up2_vv]
theorem take_no {n0 N np p k s : Nat} {α β : pSt} (h : qR n0 N np α β) (hk : k ≤ 70000) (h15 : α 15 0 = 0) (hs : α 16 0 = nI s) (hs2 : s ≤ N) (hfit : ¬ k ≤ N - s) : f_X7_takeSteps p (nI k) α = some (0, up2 α 15 0 (-11)) ∧ f_X10_step (nI p) (nI k) β = some ((), up2 β 32 0 1) ∧ qR n0 N np (up2 α 15 0 (-11)) (up2 β 32 0 1) ∧ fr α (up2 α 15 0 (-11)) ∧ frM β (up2 β 32 0 1) := by
  obtain ⟨a1, a2, a3, a4, a5, a6, ⟨s', b1, b2, b3, b4, b5, b6⟩, a8, a9, a10, a11, a12⟩ := h
  have hss : s' = s := (eq_nI (by omega) (by omega)).mp (b4.symm.trans hs)
  subst hss
  refine ⟨?_, ?_, ⟨rP_k a1 (by intro c hc; simp (disch := omega) only [up2_ne]) ⟨rfl, rfl, rfl, rfl, rfl, rfl⟩ ⟨rfl, rfl, rfl, rfl, rfl, rfl, rfl⟩, a2, a3, rs_k a4 (by intro c hc; simp (disch := omega) only [up2_ne]) rfl ⟨rfl, rfl⟩, a5, Or.inr (Or.inl ⟨by rw [up2_vv], by rw [up2_vv]⟩), ⟨s', b1, b2, b3, b4, b5, b6⟩, a8, a9, a10, a11, a12⟩, fr.up (by omega), frM.up (by omega)⟩
  · unfold f_X7_takeSteps
    rw [b3, b4, pk_sub b1, if_neg (by rw [le_nI (by omega) (by omega)]; exact hfit)]
    rfl
  · unfold f_X10_step
    rw [b6, if_neg (by rw [le_nI (by omega) (by omega)]; exact hfit)]
    rfl
theorem take_sim {n0 N np p k : Nat} {α β : pSt} (h : qR n0 N np α β) (hp : p < np) (hk : k ≤ 70000) (h15 : α 15 0 = 0) :
    (∃ α' β', f_X7_takeSteps p (nI k) α = some (1, α') ∧ f_X10_step (nI p) (nI k) β = some ((), β') ∧ qR n0 N np α' β' ∧ fr α α' ∧ frM β β' ∧ α' 15 0 = 0 ∧ β' 32 0 = 0 ∧ (∀ d, ¬ d = 16 → ¬ d = 9 → α' d = α d) ∧ (∀ d, ¬ d = 28 → ¬ d = 29 → ¬ d = 14 → β' d = β d)) ∨
    (f_X7_takeSteps p (nI k) α = some (0, up2 α 15 0 (-11)) ∧ f_X10_step (nI p) (nI k) β = some ((), up2 β 32 0 1) ∧ qR n0 N np (up2 α 15 0 (-11)) (up2 β 32 0 1) ∧ fr α (up2 α 15 0 (-11)) ∧ frM β (up2 β 32 0 1)) := by
  obtain ⟨s, b1, b2, b3, b4, b5, b6⟩ := h.2.2.2.2.2.2.1
  by_cases hf : k ≤ N - s
  · exact Or.inl (take_ok h hp hk h15 b4 b1 hf)
  · exact Or.inr (take_no h hk h15 b4 b1 hf)
/-! a message -/
/-- who is met: none at the END, else a unit -/
def met (α β : pSt) (u : Int32) : Prop := (u = -1 ∧ β 34 0 = 1) ∨ (∃ v n : Nat, u = nI v ∧ α 11 0 = nI n ∧ n ≤ 40 ∧ v < n ∧ β 34 0 = 0)
theorem nameOf_eq {α β : pSt} {u : Int32} (h : met α β u) : ∃ nm, f_X8_nameOf u α = some (nm, α) ∧ ((u = -1 ∧ nm = -1) ∨ (∃ v, u = nI v ∧ v < 40 ∧ nm = α 25 v ∧ ∀ n, α 11 0 = nI n → n ≤ 40 → v < n)) := by
  rcases h with ⟨rfl, -⟩ | ⟨v, n, rfl, h1, h2, h3, -⟩
  · refine ⟨-1, ?_, Or.inl ⟨rfl, rfl⟩⟩
    unfold f_X8_nameOf
    rw [if_pos (by decide)]
  · refine ⟨α 25 v, ?_, Or.inr ⟨v, rfl, by omega, rfl, fun n' q1 q2 => ?_⟩⟩
    · unfold f_X8_nameOf
      rw [if_neg (nI_n0 (by omega)), h1, if_neg (by rw [le_nI (by omega) (by omega)]; omega), pg_t (pin_nI (by omega) (by decide)), cl_nI (by omega)]
    · rw [h1] at q1
      have := (eq_nI (by omega) (by omega)).mp q1
      omega
def msg (α : pSt) (c k : Nat) (x p nm a rd : Int32) : pSt := up2 (up2 (up2 (up2 (up2 α c (5 * k) x) c (5 * k + 1) p) c (5 * k + 2) nm) c (5 * k + 3) a) c (5 * k + 4) rd
theorem msg_ne {α : pSt} {c k d : Nat} {x p nm a rd : Int32} (h : ¬ d = c) : msg α c k x p nm a rd d = α d := by
  unfold msg; rw [up2_ne h, up2_ne h, up2_ne h, up2_ne h, up2_ne h]
theorem msg_at {α β : pSt} {c e k i : Nat} {x p nm a rd : Int32} (hi : i < 5 * k + 5) (h : ∀ i, i < 5 * k → α c i = β e i) : msg α c k x p nm a rd c i = msg β e k x p nm a rd e i := by
  unfold msg
  by_cases h4 : i = 5 * k + 4
  · subst h4; rw [up2_vv, up2_vv]
  rw [up2_vn h4, up2_vn h4]
  by_cases h3 : i = 5 * k + 3
  · subst h3; rw [up2_vv, up2_vv]
  rw [up2_vn h3, up2_vn h3]
  by_cases h2 : i = 5 * k + 2
  · subst h2; rw [up2_vv, up2_vv]
  rw [up2_vn h2, up2_vn h2]
  by_cases h1 : i = 5 * k + 1
  · subst h1; rw [up2_vv, up2_vv]
  rw [up2_vn h1, up2_vn h1]
  by_cases h0 : i = 5 * k
  · subst h0; rw [up2_vv, up2_vv]
  rw [up2_vn h0, up2_vn h0]
  exact h i (by omega)
theorem append_eq {α : pSt} {k : Nat} {x p nm a rd : Int32} (hk : k < 120) (ha : α 12 0 = nI k) : f_X1_append x p nm a rd α = some ((), up2 (msg α 30 k x p nm a rd) 12 0 (nI (k + 1))) := by
  unfold f_X1_append
  have e0 : nI k * 5 = nI (5 * k) := by rw [n5, pk_mul, Nat.mul_comm]
  have e1 : nI (5 * k) + 1 = nI (5 * k + 1) := nI_1 _
  have e2 : nI (5 * k) + 2 = nI (5 * k + 2) := by rw [n2, nI_add]
  have e3 : nI (5 * k) + 3 = nI (5 * k + 3) := by rw [n3, nI_add]
  have e4 : nI (5 * k) + 4 = nI (5 * k + 4) := by rw [n4, nI_add]
  rw [ha, if_pos (by rw [show (120 : Int32) = nI 120 from rfl, lt_nI (by omega) (by omega)]; exact hk), e0, e1, e2, e3, e4, pg_t (pin_nI (by omega) (by decide)), cl_nI (by omega), pl_s, pg_t (pin_nI (by omega) (by decide)), cl_nI (by omega), pl_s, pg_t (pin_nI (by omega) (by decide)), cl_nI (by omega), pl_s, pg_t (pin_nI (by omega) (by decide)), cl_nI (by omega), pl_s, pg_t (pin_nI (by omega) (by decide)), cl_nI (by omega), pl_s]
  have e5 : up2 (up2 (up2 (up2 (up2 α 30 (5 * k) x) 30 (5 * k + 1) p) 30 (5 * k + 2) nm) 30 (5 * k + 3) a) 30 (5 * k + 4) rd 12 0 = nI k := ha
  rw [e5, nI_1]
  rfl
theorem append_full {α : pSt} {x p nm a rd : Int32} (ha : α 12 0 = nI 120) : f_X1_append x p nm a rd α = some ((), α) := by
  unfold f_X1_append
  rw [ha, if_neg (by decide)]
theorem tell_eq {β : pSt} {k : Nat} {x p u a nm : Int32} (hk : k < 120) (hb : β 26 0 = nI k) (hu : (u = -1 ∧ nm = -1) ∨ ∃ v, u = nI v ∧ v < 40 ∧ nm = β 16 v) : f_X10_tell x p u a β = some ((), up2 (msg β 27 k x p nm a (β 33 0)) 26 0 (nI (k + 1))) := by
  unfold f_X10_tell
  have e0 : 5 * nI k = nI (5 * k) := by rw [n5, pk_mul]
  have e1 : nI (5 * k) + 1 = nI (5 * k + 1) := nI_1 _
  have e2 : nI (5 * k) + 2 = nI (5 * k + 2) := by rw [n2, nI_add]
  have e3 : nI (5 * k) + 3 = nI (5 * k + 3) := by rw [n3, nI_add]
  have e4 : nI (5 * k) + 4 = nI (5 * k + 4) := by rw [n4, nI_add]
  rw [hb, if_neg (by rw [show (120 : Int32) = nI 120 from rfl, eq_nI (by omega) (by omega)]; omega), e0, e1, e2, e3, e4, pg_t (pin_nI (by omega) (by decide)), cl_nI (by omega), pl_s, pg_t (pin_nI (by omega) (by decide)), cl_nI (by omega), pl_s]
  rcases hu with ⟨rfl, rfl⟩ | ⟨v, rfl, hv, rfl⟩
  · rw [if_pos rfl, pg_t (pin_nI (by omega) (by decide)), cl_nI (by omega), pl_s, pg_t (pin_nI (by omega) (by decide)), cl_nI (by omega), pl_s, pg_t (pin_nI (by omega) (by decide)), cl_nI (by omega), pl_s]
    have e5 : up2 (up2 (up2 (up2 β 27 (5 * k) x) 27 (5 * k + 1) p) 27 (5 * k + 2) (-1)) 27 (5 * k + 3) a 33 0 = β 33 0 := rfl
    have e6 : up2 (up2 (up2 (up2 (up2 β 27 (5 * k) x) 27 (5 * k + 1) p) 27 (5 * k + 2) (-1)) 27 (5 * k + 3) a) 27 (5 * k + 4) (β 33 0) 26 0 = nI k := hb
    rw [e5, e6, nI_1]
    rfl
  · have e7 : up2 (up2 β 27 (5 * k) x) 27 (5 * k + 1) p 16 v = β 16 v := rfl
    rw [if_neg (nI_m1 (by omega)), pg_t (pin_nI (by omega) (by decide)), cl_nI (show v ≤ 1000000 by omega), e7, pg_t (pin_nI (by omega) (by decide)), cl_nI (by omega), pl_s, pg_t (pin_nI (by omega) (by decide)), cl_nI (by omega), pl_s, pg_t (pin_nI (by omega) (by decide)), cl_nI (by omega), pl_s]
    have e5 : up2 (up2 (up2 (up2 β 27 (5 * k) x) 27 (5 * k + 1) p) 27 (5 * k + 2) (β 16 v)) 27 (5 * k + 3) a 33 0 = β 33 0 := rfl
    have e6 : up2 (up2 (up2 (up2 (up2 β 27 (5 * k) x) 27 (5 * k + 1) p) 27 (5 * k + 2) (β 16 v)) 27 (5 * k + 3) a) 27 (5 * k + 4) (β 33 0) 26 0 = nI k := hb
    rw [e5, e6, nI_1]
    rfl
theorem tell_full {β : pSt} {x p u a : Int32} (hb : β 26 0 = nI 120) : f_X10_tell x p u a β = some ((), β) := by
  unfold f_X10_tell
  rw [hb, if_pos (by decide)]
/-- the class's two calls of a message and the reference's one -/
theorem tell_sim {n0 N np : Nat} {α β : pSt} {x p u a : Int32} (h : qR n0 N np α β) (hu : met α β u) : ∃ nm α' β', f_X8_nameOf u α = some (nm, α) ∧ f_X1_append x p nm a (α 21 0) α = some ((), α') ∧ f_X10_tell x p u a β = some ((), β') ∧ qR n0 N np α' β' ∧ fr α α' ∧ frM β β' ∧ (∀ d, ¬ d = 12 → ¬ d = 30 → α' d = α d) ∧ (∀ d, ¬ d = 26 → ¬ d = 27 → β' d = β d) := by
  obtain ⟨nm, w1, w2⟩ := nameOf_eq hu
  obtain ⟨a1, ⟨n, b1, b2, b3, b4, b5, b6⟩, a3, a4, ⟨k, k1, k2, k3, k4⟩, a6, a7, ⟨e1, e2, e3⟩, a9, a10, a11, a12⟩ := id h
  by_cases hk : k = 120
  · subst hk
    exact ⟨nm, α, β, w1, append_full k2, tell_full k3, h, fr.rf, frM.rf, fun _ _ _ => rfl, fun _ _ _ => rfl⟩
  · have hk' : k < 120 := by omega
    have hu2 : (u = -1 ∧ nm = -1) ∨ ∃ v, u = nI v ∧ v < 40 ∧ nm = β 16 v := by
      rcases w2 with q | ⟨v, q1, q2, q3, q4⟩
      · exact Or.inl q
      · exact Or.inr ⟨v, q1, q2, by rw [q3]; exact (b5 v (q4 n b3 b2)).1⟩
    refine ⟨nm, _, _, w1, append_eq hk' k2, tell_eq hk' k3 hu2, ?_, ?_, ?_, fun d d1 d2 => by rw [up2_ne d1, msg_ne d2], fun d d1 d2 => by rw [up2_ne d1, msg_ne d2]⟩
    · rw [← e2]
      have fa : ∀ d, ¬ d = 12 → ¬ d = 30 → up2 (msg α 30 k x p nm a (α 21 0)) 12 0 (nI (k + 1)) d = α d := fun d d1 d2 => by rw [up2_ne d1, msg_ne d2]
      have fb : ∀ d, ¬ d = 26 → ¬ d = 27 → up2 (msg β 27 k x p nm a (α 21 0)) 26 0 (nI (k + 1)) d = β d := fun d d1 d2 => by rw [up2_ne d1, msg_ne d2]
      refine ⟨rP_k a1 (fun c hc => fa c (by omega) (by omega)) ⟨rfl, rfl, rfl, rfl, rfl, rfl⟩ ⟨rfl, rfl, rfl, rfl, rfl, rfl, rfl⟩, ⟨n, b1, b2, b3, b4, b5, b6⟩, a3, rs_k a4 (fun c hc => fa c (by omega) (by omega)) rfl ⟨rfl, rfl⟩, ⟨k + 1, by omega, by rw [up2_vv], by rw [up2_vv], fun i hi => ?_⟩, a6, a7, ⟨e1, e2, e3⟩, a9, a10, a11, a12⟩
      show msg α 30 k x p nm a (α 21 0) 30 i = msg β 27 k x p nm a (α 21 0) 27 i
      exact msg_at (by omega) k4
    · exact ⟨fun d hd => by rw [up2_ne (by omega), msg_ne (by omega)], fun i hi => by rw [up2_ne (by decide), msg_ne (by decide)]⟩
    · exact fun d hd => by rw [up2_ne (by omega), msg_ne (by omega)]
