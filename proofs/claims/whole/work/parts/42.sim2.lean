/-! counting what is new; looking for a name -/
def cnt (g : Nat → Int32) : Nat → Nat
  | 0 => 0
  | n + 1 => cnt g n + (if g n = 0 then 0 else 1)
theorem cnt_le (g : Nat → Int32) : ∀ n, cnt g n ≤ n
  | 0 => Nat.le_refl 0
  | n + 1 => by
    have h := cnt_le g n
    show cnt g n + (if g n = 0 then 0 else 1) ≤ n + 1
    by_cases c : g n = 0
    · rw [if_pos c]; omega
    · rw [if_neg c]; omega
theorem cnt_congr {g h : Nat → Int32} : ∀ n, (∀ i, i < n → g i = h i) → cnt g n = cnt h n
  | 0, _ => rfl
  | n + 1, H => by
    show cnt g n + _ = cnt h n + _
    rw [cnt_congr n (fun i hi => H i (by omega)), H n (by omega)]
theorem cnt_s (g : Nat → Int32) (n : Nat) : nI (cnt g n) + (if g n = 0 then 0 else 1) = nI (cnt g (n + 1)) := by
  show _ = nI (cnt g n + (if g n = 0 then 0 else 1))
  by_cases c : g n = 0
  · rw [if_pos c, if_pos c]
    show nI (cnt g n) + nI 0 = _
    rw [nI_add]
  · rw [if_neg c, if_neg c]
    exact nI_1 _
theorem countNew_L {α : pSt} {n : Nat} (hn : n ≤ 40) (ha : α 11 0 = nI n) : ∀ (f i : Nat), i ≤ n → n < i + f → f_X8_countNew_L4 f (nI i) (nI (cnt (α 27) i)) α = some (nI (cnt (α 27) n), α) := by
  intro f
  induction f with
  | zero => intro i h1 h2; omega
  | succ f ih =>
    intro i h1 h2
    rw [f_X8_countNew_L4]
    by_cases hi : i = n
    · subst hi
      rw [ha, if_pos ((le_nI (by omega) (by omega)).mpr (Nat.le_refl _))]
    · rw [if_neg (by rw [ha, le_nI (by omega) (by omega)]; omega), pg_t (pin_nI (by omega) (by decide)), cl_nI (by omega), oneIf_eq, pb_s, nI_1, cnt_s]
      exact ih (i + 1) (by omega) (by omega)
theorem countNew_eq {α : pSt} {n : Nat} (hn : n ≤ 40) (ha : α 11 0 = nI n) : f_X8_countNew α = some (nI (cnt (α 27) n), α) :=
  countNew_L hn ha pF 0 (Nat.zero_le _) (by show n < 0 + 128; omega)
theorem size8 {α : pSt} : f_X8_size α = some (α 11 0, α) := rfl
theorem size4 {α : pSt} : f_X4_size α = some (α 10 0, α) := rfl
theorem size1 {α : pSt} : f_X1_size α = some (α 12 0, α) := rfl
theorem size6 {k : Nat} {α : pSt} : f_X6_size k α = some (α 0 k, α) := rfl
/-- every unit is new -/
def fill (α : pSt) (c : Nat) (x : Int32) : Nat → pSt
  | 0 => α
  | n + 1 => up2 (fill α c x n) c n x
theorem fill_ne {α : pSt} {c d : Nat} {x : Int32} (h : ¬ d = c) : ∀ n, fill α c x n d = α d
  | 0 => rfl
  | n + 1 => by
    show up2 (fill α c x n) c n x d = _
    rw [up2_ne h, fill_ne h n]
theorem fill_at {α : pSt} {c : Nat} {x : Int32} : ∀ n i, fill α c x n c i = if i < n then x else α c i
  | 0, i => by rw [if_neg (by omega)]; rfl
  | n + 1, i => by
    show up2 (fill α c x n) c n x c i = _
    by_cases h : i = n
    · subst h; rw [up2_vv, if_pos (by omega)]
    · rw [up2_vn h, fill_at n i]
      by_cases h2 : i < n
      · rw [if_pos h2, if_pos (by omega)]
      · rw [if_neg h2, if_neg (by omega)]
theorem makeAllNew_L {α : pSt} {n : Nat} (hn : n ≤ 40) (ha : α 11 0 = nI n) : ∀ (f i : Nat), i ≤ n → n < i + f → f_X8_makeAllNew_L2 f (nI i) (fill α 27 1 i) = some ((), fill α 27 1 n) := by
  intro f
  induction f with
  | zero => intro i h1 h2; omega
  | succ f ih =>
    intro i h1 h2
    rw [f_X8_makeAllNew_L2]
    have hc : fill α 27 1 i 11 0 = nI n := by rw [fill_ne (by decide)]; exact ha
    by_cases hi : i = n
    · subst hi
      rw [hc, if_pos ((le_nI (by omega) (by omega)).mpr (Nat.le_refl _))]
    · rw [if_neg (by rw [hc, le_nI (by omega) (by omega)]; omega), pg_t (pin_nI (by omega) (by decide)), cl_nI (by omega), pl_s, nI_1]
      exact ih (i + 1) (by omega) (by omega)
theorem makeAllNew_eq {α : pSt} {n : Nat} (hn : n ≤ 40) (ha : α 11 0 = nI n) : f_X8_makeAllNew α = some ((), fill α 27 1 n) :=
  makeAllNew_L hn ha pF 0 (Nat.zero_le _) (by show n < 0 + 128; omega)
theorem anewM_L {β : pSt} {n : Nat} (hn : n ≤ 40) (hb : β 15 0 = nI n) : ∀ (f i : Nat), i ≤ n → n < i + f → f_X10_anew_L4 f (nI i) (nI (i - cnt (β 18) i)) (fill β 18 1 i) = some (nI (n - cnt (β 18) n), fill β 18 1 n) := by
  intro f
  induction f with
  | zero => intro i h1 h2; omega
  | succ f ih =>
    intro i h1 h2
    rw [f_X10_anew_L4]
    have hc : fill β 18 1 i 15 0 = nI n := by rw [fill_ne (by decide)]; exact hb
    have hg : fill β 18 1 i 18 i = β 18 i := by rw [fill_at, if_neg (by omega)]
    have hle := cnt_le (β 18) i
    by_cases hi : i = n
    · subst hi
      rw [hc, if_pos ((le_nI (by omega) (by omega)).mpr (Nat.le_refl _))]
    · have hp : pin (nI i) 40 = true := pin_nI (by omega) (by decide)
      rw [if_neg (by rw [hc, le_nI (by omega) (by omega)]; omega), pg_t hp, cl_nI (by omega), hg]
      have hs : cnt (β 18) (i + 1) = cnt (β 18) i + (if β 18 i = 0 then 0 else 1) := rfl
      by_cases h0 : β 18 i = 0
      · rw [if_pos h0] at hs
        rw [if_pos h0, pg_t hp, pl_s, nI_1, nI_1, show i - cnt (β 18) i + 1 = (i + 1) - cnt (β 18) (i + 1) by omega]
        exact ih (i + 1) (by omega) (by omega)
      · rw [if_neg h0] at hs
        rw [if_neg h0, pg_t hp, pl_s, nI_1, show nI (i - cnt (β 18) i) + 0 = nI ((i + 1) - cnt (β 18) (i + 1)) by
          show nI _ + nI 0 = _
          rw [nI_add]; congr 1; omega]
        exact ih (i + 1) (by omega) (by omega)
theorem sm_anew {α β : pSt} (hR : rA α β) : pS (f_X9_anew α) (f_X10_anew β) := by
  obtain ⟨rt, rf, rpp, ⟨n, hn, ha, hb, hu⟩, ro, rss, rm, rn⟩ := hR
  have hcc : cnt (α 27) n = cnt (β 18) n := cnt_congr n (fun i hi => (hu i hi).2.2.1)
  refine ⟨nI (n - cnt (β 18) n), fill α 27 1 n, fill β 18 1 n, ?_, ?_, ?_⟩
  · unfold f_X9_anew
    rw [size8, pb_s, countNew_eq hn ha, pb_s, makeAllNew_eq hn ha, pb_s, ha, hcc, pk_sub (cnt_le _ _)]
  · exact anewM_L hn hb pF 0 (Nat.zero_le _) (by show n < 0 + 128; omega)
  · have fa : ∀ d, ¬ d = 27 → fill α 27 1 n d = α d := fun d h => fill_ne h n
    have fb : ∀ d, ¬ d = 18 → fill β 18 1 n d = β d := fun d h => fill_ne h n
    refine ⟨rt.c (by rw [fa 0 (by decide)]) (fa 40 (by decide)) (fb 1 (by decide)) (fb 2 (by decide)), rF_k rf (fun c hc => fa c (by omega)) ⟨fa 0 (by decide), fa 2 (by decide), fa 3 (by decide)⟩ ⟨fb 3 (by decide), fb 4 (by decide), fb 5 (by decide), fb 6 (by decide)⟩,
      rP_k rpp (fun c hc => fa c (by omega)) ⟨fa 4 (by decide), fa 5 (by decide), fa 6 (by decide), fa 8 (by decide), fa 9 (by decide), fa 10 (by decide)⟩ ⟨fb 7 (by decide), fb 8 (by decide), fb 9 (by decide), fb 10 (by decide), fb 11 (by decide), fb 13 (by decide), fb 14 (by decide)⟩,
      ⟨n, hn, by rw [fa 11 (by decide)]; exact ha, by rw [fb 15 (by decide)]; exact hb, fun u hu' => ?_⟩, ?_, rs_k rss (fun c hc => fa c (by omega)) (fa 0 (by decide)) ⟨fb 23 (by decide), fb 25 (by decide)⟩, ?_, ?_⟩
    · obtain ⟨u1, u2, u3, u4, u5⟩ := hu u hu'
      refine ⟨?_, ?_, ?_, ?_, ?_⟩
      · rw [fa 25 (by decide), fb 16 (by decide)]; exact u1
      · rw [fa 26 (by decide), fb 17 (by decide)]; exact u2
      · rw [fill_at, fill_at, if_pos hu', if_pos hu']
      · rw [fa 28 (by decide), fb 19 (by decide)]; exact u4
      · rw [fa 29 (by decide), fb 20 (by decide)]; exact u5
    · unfold rO; rw [fa 23 (by decide), fb 21 (by decide), fa 22 (by decide), fb 22 (by decide)]; exact ro
    · unfold rM; rw [fa 12 (by decide), fb 26 (by decide), fa 30 (by decide), fb 27 (by decide)]; exact rm
    · unfold rN; rw [fa 16 (by decide), fb 28 (by decide), fa 17 (by decide), fb 30 (by decide), fa 18 (by decide), fb 31 (by decide)]; exact rn
/-- is there one of this name -/
def bear (g : Nat → Int32) (x : Int32) : Nat → Prop
  | 0 => False
  | n + 1 => bear g x n ∨ g n = x
theorem bear_iff (g : Nat → Int32) (x : Int32) : ∀ n, bear g x n ↔ ∃ i, i < n ∧ g i = x
  | 0 => ⟨fun h => h.elim, fun ⟨i, h, _⟩ => by omega⟩
  | n + 1 => by
    show bear g x n ∨ g n = x ↔ _
    rw [bear_iff g x n]
    constructor
    · rintro (⟨i, h1, h2⟩ | h)
      · exact ⟨i, by omega, h2⟩
      · exact ⟨n, by omega, h⟩
    · rintro ⟨i, h1, h2⟩
      by_cases hi : i = n
      · subst hi; exact Or.inr h2
      · exact Or.inl ⟨i, by omega, h2⟩
theorem bears_L {α : pSt} {n : Nat} {x : Int32} (hn : n ≤ 40) (ha : α 11 0 = nI n) : ∀ (f i : Nat), i ≤ n → n < i + f → (∀ j, j < i → ¬ α 25 j = x) → ((∃ j, j < n ∧ α 25 j = x) → f_X8_bears_L2 x f (nI i) α = some (1, α)) ∧ ((¬ ∃ j, j < n ∧ α 25 j = x) → f_X8_bears_L2 x f (nI i) α = some (0, α)) := by
  intro f
  induction f with
  | zero => intro i h1 h2; omega
  | succ f ih =>
    intro i h1 h2 h3
    rw [f_X8_bears_L2]
    by_cases hi : i = n
    · subst hi
      rw [ha, if_pos ((le_nI (by omega) (by omega)).mpr (Nat.le_refl _))]
      exact ⟨fun ⟨j, j1, j2⟩ => absurd j2 (h3 j j1), fun _ => rfl⟩
    · rw [if_neg (by rw [ha, le_nI (by omega) (by omega)]; omega), pg_t (pin_nI (by omega) (by decide)), cl_nI (by omega)]
      by_cases hx : α 25 i = x
      · rw [if_pos hx]
        exact ⟨fun _ => rfl, fun h => absurd ⟨i, by omega, hx⟩ h⟩
      · rw [if_neg hx, nI_1]
        refine ih (i + 1) (by omega) (by omega) (fun j hj => ?_)
        by_cases hji : j = i
        · subst hji; exact hx
        · exact h3 j (by omega)
theorem bears_1 {α : pSt} {n : Nat} {x : Int32} (hn : n ≤ 40) (ha : α 11 0 = nI n) (h : ∃ j, j < n ∧ α 25 j = x) : f_X8_bears x α = some (1, α) :=
  (bears_L hn ha pF 0 (Nat.zero_le _) (by show n < 0 + 128; omega) (fun j hj => by omega)).1 h
theorem bears_0 {α : pSt} {n : Nat} {x : Int32} (hn : n ≤ 40) (ha : α 11 0 = nI n) (h : ¬ ∃ j, j < n ∧ α 25 j = x) : f_X8_bears x α = some (0, α) :=
  (bears_L hn ha pF 0 (Nat.zero_le _) (by show n < 0 + 128; omega) (fun j hj => by omega)).2 h
theorem find_L {β : pSt} {n : Nat} {x : Int32} (hn : n ≤ 40) (hb : β 15 0 = nI n) : ∀ (f i : Nat) (y : Int32), i ≤ n → n < i + f → ((∃ j, j < i ∧ β 16 j = x) → ¬ y < 0) → ((¬ ∃ j, j < i ∧ β 16 j = x) → y = -1) → ∃ z : Int32, f_X10_find_L4 x f (nI i) y β = some (z, β) ∧ ((∃ j, j < n ∧ β 16 j = x) → ¬ z < 0) ∧ ((¬ ∃ j, j < n ∧ β 16 j = x) → z = -1) := by
  intro f
  induction f with
  | zero => intro i y h1 h2; omega
  | succ f ih =>
    intro i y h1 h2 h3 h4
    rw [f_X10_find_L4]
    by_cases hi : i = n
    · subst hi
      rw [hb, if_pos ((le_nI (by omega) (by omega)).mpr (Nat.le_refl _))]
      exact ⟨y, rfl, h3, h4⟩
    · rw [if_neg (by rw [hb, le_nI (by omega) (by omega)]; omega), pg_t (pin_nI (by omega) (by decide)), cl_nI (by omega)]
      by_cases hx : β 16 i = x
      · rw [if_pos hx, nI_1]
        exact ih (i + 1) _ (by omega) (by omega) (fun _ => nI_n0 (by omega)) (fun h => absurd ⟨i, by omega, hx⟩ h)
      · rw [if_neg hx, nI_1]
        refine ih (i + 1) _ (by omega) (by omega) (fun ⟨j, j1, j2⟩ => h3 ⟨j, ?_, j2⟩) (fun h => h4 (fun ⟨j, j1, j2⟩ => h ⟨j, by omega, j2⟩))
        by_cases hji : j = i
        · subst hji; exact absurd j2 hx
        · omega
theorem find_eq {β : pSt} {n : Nat} (x : Int32) (hn : n ≤ 40) (hb : β 15 0 = nI n) : ∃ z : Int32, f_X10_find x β = some (z, β) ∧ ((∃ j, j < n ∧ β 16 j = x) → ¬ z < 0) ∧ ((¬ ∃ j, j < n ∧ β 16 j = x) → z = -1) :=
  find_L hn hb pF 0 (-1) (Nat.zero_le _) (by show n < 0 + 128; omega) (fun ⟨j, h, _⟩ => by omega) (fun _ => rfl)
theorem isFull_1 {α : pSt} (ha : α 11 0 = nI 40) : f_X8_isFull α = some (1, α) := by
  unfold f_X8_isFull
  rw [ha, if_neg (by decide)]
theorem isFull_0 {α : pSt} {n : Nat} (hn : n < 40) (ha : α 11 0 = nI n) : f_X8_isFull α = some (0, α) := by
  unfold f_X8_isFull
  rw [ha, if_pos (by rw [show (40 : Int32) = nI 40 from rfl, lt_nI (by omega) (by omega)]; exact hn)]
/-- a unit comes -/
def ent (α : pSt) (n : Nat) (a0 a1 a2 a3 : Int32) : pSt := up2 (up2 (up2 (up2 (up2 (up2 α 25 n a0) 26 n a1) 27 n 1) 28 n a2) 29 n a3) 11 0 (nI (n + 1))
def entM (β : pSt) (n : Nat) (a0 a1 a2 a3 : Int32) : pSt := up2 (up2 (up2 (up2 (up2 (up2 β 16 n a0) 17 n a1) 19 n a2) 20 n a3) 18 n 1) 15 0 (nI (n + 1))
theorem enter_eq {α : pSt} {n : Nat} {a0 a1 a2 a3 : Int32} (hn : n < 40) (ha : α 11 0 = nI n) : f_X8_enter a0 a1 a2 a3 α = some (nI n, ent α n a0 a1 a2 a3) := by
  unfold f_X8_enter
  have hp : pin (nI n) 40 = true := pin_nI hn (by decide)
  have hc : (nI n).toNatClampNeg = n := cl_nI (by omega)
  rw [ha, if_pos (by rw [show (40 : Int32) = nI 40 from rfl, lt_nI (by omega) (by omega)]; exact hn), pg_t hp, hc, pl_s]
  have e1 : up2 α 25 n a0 11 0 = nI n := ha
  rw [e1, pg_t hp, hc, pl_s]
  have e2 : up2 (up2 α 25 n a0) 26 n a1 11 0 = nI n := ha
  rw [e2, pg_t hp, hc, pl_s]
  have e3 : up2 (up2 (up2 α 25 n a0) 26 n a1) 27 n 1 11 0 = nI n := ha
  rw [e3, pg_t hp, hc, pl_s]
  have e4 : up2 (up2 (up2 (up2 α 25 n a0) 26 n a1) 27 n 1) 28 n a2 11 0 = nI n := ha
  rw [e4, pg_t hp, hc, pl_s]
  have e5 : up2 (up2 (up2 (up2 (up2 α 25 n a0) 26 n a1) 27 n 1) 28 n a2) 29 n a3 11 0 = nI n := ha
  rw [e5, nI_1, pl_s, up2_vv, nI_pred]
  rfl
theorem come_eq {β : pSt} {n : Nat} {a0 a1 a2 a3 : Int32} (hn : n < 40) (hb : β 15 0 = nI n) : f_X10_come a0 a1 a2 a3 β = some ((), entM β n a0 a1 a2 a3) := by
  unfold f_X10_come
  have hp : pin (nI n) 40 = true := pin_nI hn (by decide)
  have hc : (nI n).toNatClampNeg = n := cl_nI (by omega)
  rw [hb, pg_t hp, hc, pl_s]
  have e1 : up2 β 16 n a0 15 0 = nI n := hb
  rw [e1, pg_t hp, hc, pl_s]
  have e2 : up2 (up2 β 16 n a0) 17 n a1 15 0 = nI n := hb
  rw [e2, pg_t hp, hc, pl_s]
  have e3 : up2 (up2 (up2 β 16 n a0) 17 n a1) 19 n a2 15 0 = nI n := hb
  rw [e3, pg_t hp, hc, pl_s]
  have e4 : up2 (up2 (up2 (up2 β 16 n a0) 17 n a1) 19 n a2) 20 n a3 15 0 = nI n := hb
  rw [e4, pg_t hp, hc, pl_s]
  have e5 : up2 (up2 (up2 (up2 (up2 β 16 n a0) 17 n a1) 19 n a2) 20 n a3) 18 n 1 15 0 = nI n := hb
  rw [e5, nI_1]
  rfl
theorem ent_u {α β : pSt} {n : Nat} {a0 a1 a2 a3 : Int32} (hu : ∀ u, u < n → ru α β u) : ∀ u, u < n + 1 → ru (ent α n a0 a1 a2 a3) (entM β n a0 a1 a2 a3) u := by
  intro u hu'
  by_cases h : u = n
  · subst h
    refine ⟨?_, ?_, ?_, ?_, ?_⟩
    · show up2 α 25 u a0 25 u = up2 β 16 u a0 16 u; rw [up2_vv, up2_vv]
    · show up2 (up2 α 25 u a0) 26 u a1 26 u = up2 (up2 β 16 u a0) 17 u a1 17 u; rw [up2_vv, up2_vv]
    · show up2 (up2 (up2 α 25 u a0) 26 u a1) 27 u 1 27 u = up2 (up2 (up2 (up2 (up2 β 16 u a0) 17 u a1) 19 u a2) 20 u a3) 18 u 1 18 u; rw [up2_vv, up2_vv]
    · show up2 (up2 (up2 (up2 α 25 u a0) 26 u a1) 27 u 1) 28 u a2 28 u = up2 (up2 (up2 β 16 u a0) 17 u a1) 19 u a2 19 u; rw [up2_vv, up2_vv]
    · show up2 (up2 (up2 (up2 (up2 α 25 u a0) 26 u a1) 27 u 1) 28 u a2) 29 u a3 29 u = up2 (up2 (up2 (up2 β 16 u a0) 17 u a1) 19 u a2) 20 u a3 20 u; rw [up2_vv, up2_vv]
  · obtain ⟨u1, u2, u3, u4, u5⟩ := hu u (by omega)
    refine ⟨?_, ?_, ?_, ?_, ?_⟩
    · show up2 α 25 n a0 25 u = up2 β 16 n a0 16 u; rw [up2_vn h, up2_vn h]; exact u1
    · show up2 (up2 α 25 n a0) 26 n a1 26 u = up2 (up2 β 16 n a0) 17 n a1 17 u; rw [up2_vn h, up2_vn h]; exact u2
    · show up2 (up2 (up2 α 25 n a0) 26 n a1) 27 n 1 27 u = up2 (up2 (up2 (up2 (up2 β 16 n a0) 17 n a1) 19 n a2) 20 n a3) 18 n 1 18 u; rw [up2_vn h, up2_vn h]; exact u3
    · show up2 (up2 (up2 (up2 α 25 n a0) 26 n a1) 27 n 1) 28 n a2 28 u = up2 (up2 (up2 β 16 n a0) 17 n a1) 19 n a2 19 u; rw [up2_vn h, up2_vn h]; exact u4
    · show up2 (up2 (up2 (up2 (up2 α 25 n a0) 26 n a1) 27 n 1) 28 n a2) 29 n a3 29 u = up2 (up2 (up2 (up2 β 16 n a0) 17 n a1) 19 n a2) 20 n a3 20 u; rw [up2_vn h, up2_vn h]; exact u5
theorem ent_hi {α : pSt} {n : Nat} {a0 a1 a2 a3 : Int32} : ∀ c, 40 ≤ c → ent α n a0 a1 a2 a3 c = α c := by
  intro c hc
  unfold ent
  simp (disch := omega) only [up2_ne]
theorem sm_unit {α β : pSt} (hR : rA α β) (a0 a1 : Int32) : pS (f_X9_unit a0 a1 α) (f_X10_unit a0 a1 β) := by
  obtain ⟨rt, rf, rpp, ⟨n, hn, ha, hb, hu⟩, ro, rss, rm, rn⟩ := id hR
  rcases ix a0 (n := 64) (by decide) with h | ⟨j, hj, rfl⟩
  · have h1 : f_X10_in a0.toInt64 0 63 β = some (0, β) := in_bad (n := 64) (by decide) (by decide) h
    refine pS_same (r := -102) hR ?_ ?_
    · unfold f_X9_unit
      by_cases h0 : a0 < 0
      · rw [if_pos h0]
      · rw [if_neg h0, if_pos (show (64 : Int32) ≤ a0 from h.resolve_left h0)]
    · unfold f_X10_unit; rw [h1]; rfl
  · have h1 : f_X10_in (nI j).toInt64 0 63 β = some (1, β) := in_good (n := 64) (by decide) hj
    have h2 : ¬ (64 : Int32) ≤ nI j := by rw [show (64 : Int32) = nI 64 from rfl, le_nI (by omega) (by omega)]; omega
    rcases ix a1 (n := 256) (by decide) with h | ⟨k, hk, rfl⟩
    · obtain ⟨h3, h4⟩ := marks_bad (α := α) (β := β) h
      refine pS_same (r := -102) hR ?_ ?_
      · unfold f_X9_unit; rw [if_neg (nI_n0 (by omega)), if_neg h2, h3]; rfl
      · unfold f_X10_unit; rw [h1, pb_s, if_neg (by decide), h4]; rfl
    · obtain ⟨h3, h4⟩ := marks_ok (α := α) (β := β) hk
      obtain ⟨z, z1, z2, z3⟩ := find_eq (nI j) hn hb
      have hcv : (∃ i, i < n ∧ α 25 i = nI j) ↔ ∃ i, i < n ∧ β 16 i = nI j := ⟨fun ⟨i, i1, i2⟩ => ⟨i, i1, by rw [← (hu i i1).1]; exact i2⟩, fun ⟨i, i1, i2⟩ => ⟨i, i1, by rw [(hu i i1).1]; exact i2⟩⟩
      by_cases hbr : ∃ i, i < n ∧ β 16 i = nI j
      · refine pS_same (r := -103) hR ?_ ?_
        · unfold f_X9_unit; rw [if_neg (nI_n0 (by omega)), if_neg h2, h3, pb_s, if_neg (by decide), bears_1 hn ha (hcv.mpr hbr)]; rfl
        · unfold f_X10_unit; rw [h1, pb_s, if_neg (by decide), h4, pb_s, if_neg (by decide), z1, pb_s, if_neg (z2 hbr)]
      · have hz := z3 hbr
        subst hz
        have hbr' : ¬ ∃ i, i < n ∧ α 25 i = nI j := fun h => hbr (hcv.mp h)
        by_cases h40 : n = 40
        · subst h40
          refine pS_same (r := -104) hR ?_ ?_
          · unfold f_X9_unit; rw [if_neg (nI_n0 (by omega)), if_neg h2, h3, pb_s, if_neg (by decide), bears_0 hn ha hbr', pb_s, if_pos rfl, isFull_1 ha]; rfl
          · unfold f_X10_unit; rw [h1, pb_s, if_neg (by decide), h4, pb_s, if_neg (by decide), z1, pb_s, if_pos (by decide), hb]; rfl
        · refine ⟨nI n, ent α n (nI j) (nI k) (-1) 0, entM β n (nI j) (nI k) (-1) 0, ?_, ?_, ?_⟩
          · unfold f_X9_unit; rw [if_neg (nI_n0 (by omega)), if_neg h2, h3, pb_s, if_neg (by decide), bears_0 hn ha hbr', pb_s, if_pos rfl, isFull_0 (by omega) ha, pb_s, if_pos rfl, enter_eq (by omega) ha]; rfl
          · unfold f_X10_unit
            rw [h1, pb_s, if_neg (by decide), h4, pb_s, if_neg (by decide), z1, pb_s, if_pos (by decide), if_neg, come_eq (by omega) hb, pb_s]
            · have e : entM β n (nI j) (nI k) (-1) 0 15 0 = nI (n + 1) := by unfold entM; rw [up2_vv]
              rw [e, nI_pred]
            · rw [hb, show (40 : Int32) = nI 40 from rfl, eq_nI (by omega) (by omega)]; exact h40
          · refine ⟨rt, rF_k rf ent_hi ⟨rfl, rfl, rfl⟩ ⟨rfl, rfl, rfl, rfl⟩, rP_k rpp ent_hi ⟨rfl, rfl, rfl, rfl, rfl, rfl⟩ ⟨rfl, rfl, rfl, rfl, rfl, rfl, rfl⟩, ⟨n + 1, by omega, ?_, ?_, ent_u hu⟩, ro, rs_k rss ent_hi rfl ⟨rfl, rfl⟩, rm, rn⟩
            · unfold ent; rw [up2_vv]
            · unfold entM; rw [up2_vv]
