/-! judge -/
theorem n0 : (0 : Int32) = nI 0 := rfl
theorem n1 : (1 : Int32) = nI 1 := rfl
theorem n2 : (2 : Int32) = nI 2 := rfl
theorem n3 : (3 : Int32) = nI 3 := rfl
theorem n4 : (4 : Int32) = nI 4 := rfl
theorem n5 : (5 : Int32) = nI 5 := rfl
theorem n6 : (6 : Int32) = nI 6 := rfl
theorem n7 : (7 : Int32) = nI 7 := rfl
theorem n8 : (8 : Int32) = nI 8 := rfl
theorem n9 : (9 : Int32) = nI 9 := rfl
theorem n10 : (10 : Int32) = nI 10 := rfl
theorem n12 : (12 : Int32) = nI 12 := rfl
theorem n15 : (15 : Int32) = nI 15 := rfl
theorem n64 : (64 : Int32) = nI 64 := rfl
theorem n48 : (48 : Int32) = nI 48 := rfl
theorem n80 : (80 : Int32) = nI 80 := rfl
theorem n82 : (82 : Int32) = nI 82 := rfl
abbrev snd (k c a b : Nat) : Prop := (k < 8 ∨ k = 15) ∧ c < 10 ∧ (c = 1 → a < 64) ∧ (c = 7 ∨ c = 9 → a < 4) ∧ (c = 2 → b < 3)
theorem isSound_eq {k c a b : Nat} {α : pSt} (hk : k < 256) (hc : c < 256) (ha : a < 256) (hb : b < 256) : f_X0_isSoundRule (nI k) (nI c) (nI a) (nI b) α = some (if snd k c a b then 1 else 0, α) := by
  have l8 : nI k < 8 ↔ k < 8 := by rw [n8, lt_nI (by omega) (by omega)]
  have l15 : nI k = 15 ↔ k = 15 := by rw [n15, eq_nI (by omega) (by omega)]
  have a64 : 64 ≤ nI a ↔ 64 ≤ a := by rw [n64, le_nI (by omega) (by omega)]
  have a4 : 4 ≤ nI a ↔ 4 ≤ a := by rw [n4, le_nI (by omega) (by omega)]
  have b3 : 3 ≤ nI b ↔ 3 ≤ b := by rw [n3, le_nI (by omega) (by omega)]
  unfold f_X0_isSoundRule
  by_cases hkk : k < 8 ∨ k = 15
  · have hch : ∀ {x y z : Option (Int32 × pSt)}, x = z → y = z → (if nI k < 8 then x else if nI k = 15 then y else some (0, α)) = z := by
      intro x y z hx hy
      by_cases h8 : k < 8
      · rw [if_pos (l8.mpr h8)]; exact hx
      · rw [if_neg (fun h => h8 (l8.mp h)), if_pos (l15.mpr (hkk.resolve_left h8))]; exact hy
    refine (fun h => hch h h) ?_
    rcases (show c = 1 ∨ c = 2 ∨ c = 3 ∨ c = 4 ∨ c = 5 ∨ c = 6 ∨ c = 7 ∨ c = 8 ∨ c = 9 ∨ (c = 0 ∨ 10 ≤ c) by omega) with rfl | rfl | rfl | rfl | rfl | rfl | rfl | rfl | rfl | h
    · rw [if_pos (by decide)]
      by_cases hq : 64 ≤ a
      · rw [if_pos (a64.mpr hq), if_neg (fun h : snd k 1 a b => by have := h.2.2; omega)]
      · rw [if_neg (fun h => hq (a64.mp h)), if_pos (⟨hkk, by omega, by omega, by omega, by omega⟩ : snd k 1 a b)]
    · rw [if_neg (by decide), if_pos (by decide)]
      by_cases hq : 3 ≤ b
      · rw [if_pos (b3.mpr hq), if_neg (fun h : snd k 2 a b => by have := h.2.2; omega)]
      · rw [if_neg (fun h => hq (b3.mp h)), if_pos (⟨hkk, by omega, by omega, by omega, by omega⟩ : snd k 2 a b)]
    · rw [if_neg (by decide), if_neg (by decide), if_pos (by decide), if_neg (by decide), if_pos (⟨hkk, by omega, by omega, by omega, by omega⟩ : snd k 3 a b)]
    · rw [if_neg (by decide), if_neg (by decide), if_neg (by decide), if_pos (by decide), if_neg (by decide), if_pos (⟨hkk, by omega, by omega, by omega, by omega⟩ : snd k 4 a b)]
    · rw [if_neg (by decide), if_neg (by decide), if_neg (by decide), if_neg (by decide), if_pos (by decide), if_neg (by decide), if_pos (⟨hkk, by omega, by omega, by omega, by omega⟩ : snd k 5 a b)]
    · rw [if_neg (by decide), if_neg (by decide), if_neg (by decide), if_neg (by decide), if_neg (by decide), if_pos (by decide), if_neg (by decide), if_pos (⟨hkk, by omega, by omega, by omega, by omega⟩ : snd k 6 a b)]
    · rw [if_neg (by decide), if_neg (by decide), if_neg (by decide), if_neg (by decide), if_neg (by decide), if_neg (by decide), if_pos (by decide)]
      by_cases hq : 4 ≤ a
      · rw [if_pos (a4.mpr hq), if_neg (fun h : snd k 7 a b => by have := h.2.2; omega)]
      · rw [if_neg (fun h => hq (a4.mp h)), if_pos (⟨hkk, by omega, by omega, by omega, by omega⟩ : snd k 7 a b)]
    · rw [if_neg (by decide), if_neg (by decide), if_neg (by decide), if_neg (by decide), if_neg (by decide), if_neg (by decide), if_neg (by decide), if_pos (by decide), if_neg (by decide), if_pos (⟨hkk, by omega, by omega, by omega, by omega⟩ : snd k 8 a b)]
    · rw [if_neg (by decide), if_neg (by decide), if_neg (by decide), if_neg (by decide), if_neg (by decide), if_neg (by decide), if_neg (by decide), if_neg (by decide), if_pos (by decide)]
      by_cases hq : 4 ≤ a
      · rw [if_pos (a4.mpr hq), if_neg (fun h : snd k 9 a b => by have := h.2.2; omega)]
      · rw [if_neg (fun h => hq (a4.mp h)), if_pos (⟨hkk, by omega, by omega, by omega, by omega⟩ : snd k 9 a b)]
    · have ne : ∀ q, 1 ≤ q → q < 10 → ¬ nI c = nI q := fun q q1 q2 => by rw [eq_nI (by omega) (by omega)]; omega
      rw [if_neg (show ¬ nI c = 1 from ne 1 (by decide) (by decide)), if_neg (show ¬ nI c = 2 from ne 2 (by decide) (by decide)), if_neg (show ¬ nI c = 3 from ne 3 (by decide) (by decide)), if_neg (show ¬ nI c = 4 from ne 4 (by decide) (by decide)), if_neg (show ¬ nI c = 5 from ne 5 (by decide) (by decide)), if_neg (show ¬ nI c = 6 from ne 6 (by decide) (by decide)), if_neg (show ¬ nI c = 7 from ne 7 (by decide) (by decide)), if_neg (show ¬ nI c = 8 from ne 8 (by decide) (by decide)), if_neg (show ¬ nI c = 9 from ne 9 (by decide) (by decide))]
      rcases h with h | h
      · subst h; rw [if_neg (by decide), if_pos (⟨hkk, by omega, by omega, by omega, by omega⟩ : snd k 0 a b)]
      · rw [if_pos (by rw [n9, lt_nI (by omega) (by omega)]; omega), if_neg (fun h2 : snd k c a b => by have := h2.2.1; omega)]
  · rw [if_neg (fun h => hkk (Or.inl (l8.mp h))), if_neg (fun h => hkk (Or.inr (l15.mp h))), if_neg (fun h : snd k c a b => hkk h.1)]
theorem isSound_1 {k c a b : Nat} {α : pSt} (hk : k < 256) (hc : c < 256) (ha : a < 256) (hb : b < 256) (h : snd k c a b) : f_X0_isSoundRule (nI k) (nI c) (nI a) (nI b) α = some (1, α) := by rw [isSound_eq hk hc ha hb, if_pos h]
theorem isSound_0 {k c a b : Nat} {α : pSt} (hk : k < 256) (hc : c < 256) (ha : a < 256) (hb : b < 256) (h : ¬ snd k c a b) : f_X0_isSoundRule (nI k) (nI c) (nI a) (nI b) α = some (0, α) := by rw [isSound_eq hk hc ha hb, if_neg h]
set_option maxHeartbeats 4000000 in
theorem isRule_1 {q k c a b : Nat} {β : pSt} (hq : q + 3 < 384) (hk : k < 256) (hc : c < 256) (ha : a < 256) (hb : b < 256) (e0 : β 4 q = nI k) (e1 : β 4 (q + 1) = nI c) (e2 : β 4 (q + 2) = nI a) (e3 : β 4 (q + 3) = nI b) (h : snd k c a b) : f_X10_isRule (nI q) β = some (1, β) := by
  unfold f_X10_isRule
  rw [show nI q + 1 = nI (q + 1) from nI_1 q, show nI q + 2 = nI (q + 2) by rw [n2, nI_add], show nI q + 3 = nI (q + 3) by rw [n3, nI_add], pg_t (pin_nI (by omega) (by decide)), pg_t (pin_nI (by omega) (by decide)), pg_t (pin_nI (by omega) (by decide)), pg_t (pin_nI (by omega) (by decide)), cl_nI (by omega), cl_nI (by omega), cl_nI (by omega), cl_nI (by omega), e0, e1, e2, e3]
  simp (disch := omega) only [n1, n2, n3, n4, n5, n6, n7, n8, n9, n10, n15, n64, n0, lt_nI, le_nI, eq_nI]
  obtain ⟨h1, h2, h3, h4, h5⟩ := h
  repeat' split
  all_goals first | rfl | (exfalso; omega)
set_option maxHeartbeats 4000000 in
theorem isRule_0 {q k c a b : Nat} {β : pSt} (hq : q + 3 < 384) (hk : k < 256) (hc : c < 256) (ha : a < 256) (hb : b < 256) (e0 : β 4 q = nI k) (e1 : β 4 (q + 1) = nI c) (e2 : β 4 (q + 2) = nI a) (e3 : β 4 (q + 3) = nI b) (h : ¬ snd k c a b) : f_X10_isRule (nI q) β = some (0, β) := by
  unfold f_X10_isRule
  rw [show nI q + 1 = nI (q + 1) from nI_1 q, show nI q + 2 = nI (q + 2) by rw [n2, nI_add], show nI q + 3 = nI (q + 3) by rw [n3, nI_add], pg_t (pin_nI (by omega) (by decide)), pg_t (pin_nI (by omega) (by decide)), pg_t (pin_nI (by omega) (by decide)), pg_t (pin_nI (by omega) (by decide)), cl_nI (by omega), cl_nI (by omega), cl_nI (by omega), cl_nI (by omega), e0, e1, e2, e3]
  simp (disch := omega) only [n1, n2, n3, n4, n5, n6, n7, n8, n9, n10, n15, n64, n0, lt_nI, le_nI, eq_nI]
  repeat' split
  all_goals first | rfl | (exfalso; exact h ⟨by omega, by omega, by omega, by omega, by omega⟩)
abbrev sru (b : Nat → Nat) (r : Nat) : Prop := snd (b (3 + 4 * r)) (b (3 + 4 * r + 1)) (b (3 + 4 * r + 2)) (b (3 + 4 * r + 3))
theorem sound_L {k m n : Nat} {b : Nat → Nat} {α : pSt} (hcap : n ≤ pcap k) (hn : n = 4 * m + 4) (hm : m ≤ 12) (ha : α 0 k = nI n) (hb : ∀ i, i < n → α (40 + k) i = nI (b i) ∧ b i < 256) : ∀ (f i : Nat), i ≤ m → m < i + f →
    ((∀ r, i ≤ r → r < m → sru b r) → f_X0_areSoundRules_L2 k (nI m) f (nI i) α = some (1, α)) ∧ ((¬ ∀ r, i ≤ r → r < m → sru b r) → f_X0_areSoundRules_L2 k (nI m) f (nI i) α = some (0, α)) := by
  intro f
  induction f with
  | zero => intro i h1 h2; omega
  | succ f ih =>
    intro i h1 h2
    rw [f_X0_areSoundRules_L2]
    by_cases hi : i = m
    · subst hi
      rw [if_pos ((le_nI (by omega) (by omega)).mpr (Nat.le_refl _))]
      exact ⟨fun _ => rfl, fun h => absurd (fun r r1 r2 => by omega) h⟩
    · have q0 : 3 + 4 * nI i = nI (3 + 4 * i) := by rw [n3, n4, pk_mul, nI_add]
      have q1 : nI (3 + 4 * i) + 1 = nI (3 + 4 * i + 1) := nI_1 _
      have q2 : nI (3 + 4 * i) + 2 = nI (3 + 4 * i + 2) := by rw [n2, nI_add]
      have q3 : nI (3 + 4 * i) + 3 = nI (3 + 4 * i + 3) := by rw [n3, nI_add]
      obtain ⟨b0, c0⟩ := hb (3 + 4 * i) (by omega)
      obtain ⟨b1, c1⟩ := hb (3 + 4 * i + 1) (by omega)
      obtain ⟨b2, c2⟩ := hb (3 + 4 * i + 2) (by omega)
      obtain ⟨b3, c3⟩ := hb (3 + 4 * i + 3) (by omega)
      rw [if_neg (by rw [le_nI (by omega) (by omega)]; omega), q0, at6_ok hcap ha (by omega), pb_s, q1, at6_ok hcap ha (by omega), pb_s, q2, at6_ok hcap ha (by omega), pb_s, q3, at6_ok hcap ha (by omega), pb_s, b0, b1, b2, b3]
      by_cases hs : sru b i
      · rw [isSound_1 c0 c1 c2 c3 hs, pb_s, if_neg (by decide), nI_1]
        obtain ⟨w1, w2⟩ := ih (i + 1) (by omega) (by omega)
        refine ⟨fun h => w1 (fun r r1 r2 => h r (by omega) r2), fun h => w2 (fun h2 => h (fun r r1 r2 => ?_))⟩
        by_cases hr : r = i
        · subst hr; exact hs
        · exact h2 r (by omega) r2
      · rw [isSound_0 c0 c1 c2 c3 hs, pb_s, if_pos rfl]
        exact ⟨fun h => absurd (h i (Nat.le_refl _) (by omega)) hs, fun _ => rfl⟩
def sm (b : Nat → Nat) : Nat → Nat
  | 0 => 0
  | n + 1 => sm b n + b n
theorem sm_le {b : Nat → Nat} : ∀ n, (∀ i, i < n → b i < 256) → sm b n ≤ 256 * n
  | 0, _ => Nat.le_refl 0
  | n + 1, h => by
    have h1 := sm_le n (fun i hi => h i (by omega))
    have h2 := h n (by omega)
    show sm b n + b n ≤ _
    omega
theorem sum_L {k n : Nat} {b : Nat → Nat} {α : pSt} (hcap : n ≤ pcap k) (hn0 : 1 ≤ n) (ha : α 0 k = nI n) (hb : ∀ i, i < n → α (40 + k) i = nI (b i) ∧ b i < 256) : ∀ (f i : Nat), i ≤ n - 1 → n < i + f → f_X0_sumAheadOfLast_L4 k f (nI i) (nI (sm b i)) α = some (nI (sm b (n - 1)) &&& 255, α) := by
  intro f
  have hc := pcap_le k
  induction f with
  | zero => intro i h1 h2; omega
  | succ f ih =>
    intro i h1 h2
    have e : nI n - 1 = nI (n - 1) := by
      obtain ⟨q, hq⟩ : ∃ q, n = q + 1 := ⟨n - 1, by omega⟩
      subst hq
      exact nI_pred q
    rw [f_X0_sumAheadOfLast_L4, size6, pb_s, ha, e]
    by_cases hi : i = n - 1
    · subst hi
      rw [if_pos ((le_nI (by omega) (by omega)).mpr (Nat.le_refl _))]
    · rw [if_neg (by rw [le_nI (by omega) (by omega)]; omega), at6_ok hcap ha (by omega), pb_s, (hb i (by omega)).1, nI_1, nI_add]
      exact ih (i + 1) (by omega) (by omega)
theorem sumM_L {j m : Nat} {b : Nat → Nat} {β : pSt} (hj : j < 6) (hm : m ≤ 12) (hb : ∀ i, i < 4 * m + 4 → β 4 (64 * j + i) = nI (b i) ∧ b i < 256) : ∀ (f i : Nat), i ≤ 4 * m + 3 → 4 * m + 3 < i + f →
    f_X10_clause_L136 (nI m) (nI (64 * j)) f (nI i) (nI (sm b i)) β = (if (nI (sm b (4 * m + 3)) &&& 255) = nI (b (4 * m + 3)) then some (0, β) else some (6, β)) := by
  intro f
  induction f with
  | zero => intro i h1 h2; omega
  | succ f ih =>
    intro i h1 h2
    have e4 : 4 * nI m + 3 = nI (4 * m + 3) := by rw [n4, n3, pk_mul, nI_add]
    have e5 : nI (64 * j) + 4 * nI m + 3 = nI (64 * j + (4 * m + 3)) := by rw [n4, n3, pk_mul, nI_add, nI_add]; rfl
    rw [f_X10_clause_L136, e4]
    by_cases hi : i = 4 * m + 3
    · subst hi
      rw [if_pos ((le_nI (by omega) (by omega)).mpr (Nat.le_refl _)), e5, pg_t (pin_nI (by omega) (by decide)), cl_nI (by omega), (hb (4 * m + 3) (by omega)).1]
    · rw [if_neg (by rw [le_nI (by omega) (by omega)]; omega), nI_add, pg_t (pin_nI (by omega) (by decide)), cl_nI (by omega), (hb i (by omega)).1, nI_1, nI_add]
      exact ih (i + 1) (by omega) (by omega)
theorem rulesM_L {j m : Nat} {b : Nat → Nat} {β : pSt} {y : Int32} (hj : j < 6) (hm : m ≤ 12) (hb : ∀ i, i < 4 * m + 4 → β 4 (64 * j + i) = nI (b i) ∧ b i < 256) : ∀ (f i : Nat), i ≤ m → m < i + f →
    ((∀ r, i ≤ r → r < m → sru b r) → f_X10_clause_L104 y (nI m) (nI (64 * j)) f (nI i) β = f_X10_clause_L136 (nI m) (nI (64 * j)) pF 3 y β) ∧ ((¬ ∀ r, i ≤ r → r < m → sru b r) → f_X10_clause_L104 y (nI m) (nI (64 * j)) f (nI i) β = some (5, β)) := by
  intro f
  induction f with
  | zero => intro i h1 h2; omega
  | succ f ih =>
    intro i h1 h2
    rw [f_X10_clause_L104]
    by_cases hi : i = m
    · subst hi
      rw [if_pos ((le_nI (by omega) (by omega)).mpr (Nat.le_refl _))]
      exact ⟨fun _ => rfl, fun h => absurd (fun r r1 r2 => by omega) h⟩
    · have q0 : nI (64 * j) + 3 + 4 * nI i = nI (64 * j + (3 + 4 * i)) := by rw [n3, n4, pk_mul, nI_add, nI_add]; congr 1; omega
      obtain ⟨b0, c0⟩ := hb (3 + 4 * i) (by omega)
      obtain ⟨b1, c1⟩ := hb (3 + 4 * i + 1) (by omega)
      obtain ⟨b2, c2⟩ := hb (3 + 4 * i + 2) (by omega)
      obtain ⟨b3, c3⟩ := hb (3 + 4 * i + 3) (by omega)
      rw [if_neg (by rw [le_nI (by omega) (by omega)]; omega), q0]
      by_cases hs : sru b i
      · rw [isRule_1 (by omega) c0 c1 c2 c3 b0 b1 b2 b3 hs, pb_s, if_neg (by decide), nI_1]
        obtain ⟨w1, w2⟩ := ih (i + 1) (by omega) (by omega)
        refine ⟨fun h => w1 (fun r r1 r2 => h r (by omega) r2), fun h => w2 (fun h2 => h (fun r r1 r2 => ?_))⟩
        by_cases hr : r = i
        · subst hr; exact hs
        · exact h2 r (by omega) r2
      · rw [isRule_0 (by omega) c0 c1 c2 c3 b0 b1 b2 b3 hs, pb_s, if_pos rfl]
        exact ⟨fun h => absurd (h i (Nat.le_refl _) (by omega)) hs, fun _ => rfl⟩
