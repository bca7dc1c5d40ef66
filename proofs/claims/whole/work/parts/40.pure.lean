/-! the pure side: what the two states have in common -/
theorem pb_s {ρ τ : Type} {r : ρ} {a : pSt} {f : ρ → pSt → Option τ} : pb (some (r, a)) f = f r a := rfl
theorem pl_s {τ : Type} {x : pSt} {f : pSt → τ} : pl x f = f x := rfl
theorem pO_0 {τ : Type} {a : τ} {b : Nat → τ} : pO none a b = a := rfl
theorem pO_1 {τ : Type} {a : τ} {b : Nat → τ} {i : Nat} : pO (some i) a b = b i := rfl
theorem pg_t {τ : Type} {b : Bool} {x : Option τ} (h : b = true) : pg b x = x := by rw [h]; rfl
theorem pin_nI {j n : Nat} (h : j < n) (hn : n ≤ 1000000) : pin (nI j) n = true := by
  have h1 : (nI j).toNatClampNeg = j := nI_clamp (by omega)
  have h2 : (0 : Int32) ≤ nI j := nI_pos' (by omega)
  simp [pin, h1, h2, h]
theorem cl_nI {j : Nat} (h : j ≤ 1000000) : (nI j).toNatClampNeg = j := nI_clamp (by omega)
theorem le_nI {a b : Nat} (ha : a ≤ 1000000) (hb : b ≤ 1000000) : nI a ≤ nI b ↔ a ≤ b := nI_leI (by omega) (by omega)
theorem lt_nI {a b : Nat} (ha : a ≤ 1000000) (hb : b ≤ 1000000) : nI a < nI b ↔ a < b := nI_ltI (by omega) (by omega)
theorem eq_nI {a b : Nat} (ha : a ≤ 1000000) (hb : b ≤ 1000000) : nI a = nI b ↔ a = b := nI_eq (by omega) (by omega)
theorem nI_n0 {a : Nat} (ha : a ≤ 1000000) : ¬ nI a < 0 := nI_pos (by omega)
theorem nI_m1 {a : Nat} (ha : a ≤ 1000000) : ¬ nI a = -1 := by
  intro h
  have h1 : (nI a).toInt = (a : Int) := nI_toInt (by omega)
  rw [h] at h1
  have h2 : (-1 : Int32).toInt = -1 := by decide
  omega
theorem pbl_n {x : Int32} (h : pbl x = true) : x = 0 ∨ x = 1 := pbl_ok h
theorem in_eq (a b c : Int64) (β : pSt) : f_X10_in a b c β = some (if a < b then 0 else if c < a then 0 else 1, β) := by
  unfold f_X10_in
  by_cases c1 : a < b
  · rw [if_pos ((lg_cmp_lt a b).mpr c1), if_pos c1]
  · rw [if_neg (fun h => c1 ((lg_cmp_lt a b).mp h)), if_neg c1]
    by_cases c2 : c < a
    · rw [if_pos ((lg_cmp_gt a c).mpr c2), if_pos c2]
    · rw [if_neg (fun h => c2 ((lg_cmp_gt a c).mp h)), if_neg c2]
theorem l_lt (x y : Int32) : x.toInt64 < y.toInt64 ↔ x < y := by
  rw [Int64.lt_iff_toInt_lt, Int32.lt_iff_toInt_lt, Int32.toInt_toInt64, Int32.toInt_toInt64]
theorem in_i (x lo hi : Int32) (β : pSt) : f_X10_in x.toInt64 lo.toInt64 hi.toInt64 β = some (if x < lo then 0 else if hi < x then 0 else 1, β) := by
  rw [in_eq]
  simp only [l_lt]
theorem qlit0 : (0 : Int64) = (0 : Int32).toInt64 := by decide
theorem qlit1 : (1 : Int64) = (1 : Int32).toInt64 := by decide
theorem qlit3 : (3 : Int64) = (3 : Int32).toInt64 := by decide
theorem qlit4 : (4 : Int64) = (4 : Int32).toInt64 := by decide
theorem qlit5 : (5 : Int64) = (5 : Int32).toInt64 := by decide
theorem qlit8 : (8 : Int64) = (8 : Int32).toInt64 := by decide
theorem qlit10 : (10 : Int64) = (10 : Int32).toInt64 := by decide
theorem qlit12 : (12 : Int64) = (12 : Int32).toInt64 := by decide
theorem qlit13 : (13 : Int64) = (13 : Int32).toInt64 := by decide
theorem qlit63 : (63 : Int64) = (63 : Int32).toInt64 := by decide
theorem qlit255 : (255 : Int64) = (255 : Int32).toInt64 := by decide
theorem qlit100k : (100000 : Int64) = (100000 : Int32).toInt64 := by decide
/-- an argument against 0 .. N - 1 -/
theorem ix (x : Int32) {n : Nat} (hn : n ≤ 1000000) : (x < 0 ∨ nI n ≤ x) ∨ ∃ j : Nat, j < n ∧ x = nI j := by
  rcases pk_ix x (n := n) (by omega) with h | h | h
  · exact Or.inl (Or.inl h)
  · exact Or.inl (Or.inr h)
  · exact Or.inr h
theorem out_or {x : Int32} {n : Nat} (hn : n ≤ 1000000) (hn0 : 0 < n) (h : x < 0 ∨ nI n ≤ x) : (if x < 0 then (0 : Int32) else if nI (n - 1) < x then 0 else 1) = 0 := by
  rcases h with h | h
  · rw [if_pos h]
  · by_cases h0 : x < 0
    · rw [if_pos h0]
    · rw [if_neg h0, if_pos]
      obtain ⟨m, hm⟩ : ∃ m, n = m + 1 := ⟨n - 1, by omega⟩
      subst hm
      have h1 : nI m < nI (m + 1) := nI_lt (by omega) (by omega)
      rw [Int32.lt_iff_toInt_lt] at h1 ⊢
      rw [Int32.le_iff_toInt_le] at h
      show (nI (m + 1 - 1)).toInt < x.toInt
      rw [show m + 1 - 1 = m from rfl]
      omega
theorem in_or {j n : Nat} (hn : n ≤ 1000000) (h : j < n) : (if nI j < 0 then (0 : Int32) else if nI (n - 1) < nI j then 0 else 1) = 1 := by
  rw [if_neg (nI_n0 (by omega)), if_neg]
  rw [lt_nI (by omega) (by omega)]
  omega
theorem in_bad {x : Int32} {n : Nat} {β : pSt} (hn : n ≤ 1000000) (hn0 : 0 < n) (h : x < 0 ∨ nI n ≤ x) : f_X10_in x.toInt64 0 (nI (n - 1)).toInt64 β = some (0, β) := by
  rw [qlit0, in_i, out_or hn hn0 h]
theorem in_good {j n : Nat} {β : pSt} (hn : n ≤ 1000000) (h : j < n) : f_X10_in (nI j).toInt64 0 (nI (n - 1)).toInt64 β = some (1, β) := by
  rw [qlit0, in_i, in_or hn h]
def pby (x : Int32) : Prop := ∃ b : Nat, b < 256 ∧ x = nI b
def rT (α β : pSt) : Prop := ∃ n, n ≤ 64 ∧ α 0 0 = nI n ∧ β 1 0 = nI n ∧ (∀ i, i < n → α 40 i = β 2 i) ∧ (∀ i, i < n → pby (α 40 i))
def rF (α β : pSt) (f : Nat) : Prop := (∃ n, n ≤ 64 ∧ α 0 (1 + f) = nI n ∧ β 3 f = nI n ∧ (∀ i, i < n → α (40 + (1 + f)) i = β 4 (64 * f + i)) ∧ (∀ i, i < n → pby (α (40 + (1 + f)) i))) ∧ α 2 f = β 5 f ∧ α 3 f = β 6 f ∧ pbl (α 2 f) = true ∧ pbl (α 3 f) = true
def pru (g : Nat → Int32) (r : Nat) : Prop := ∃ k c a b : Nat, g (4 * r) = nI k ∧ g (4 * r + 1) = nI c ∧ g (4 * r + 2) = nI a ∧ g (4 * r + 3) = nI b ∧ (k < 8 ∨ k = 15) ∧ c < 10 ∧ a < 256 ∧ b < 256 ∧ (c = 1 → a < 64) ∧ (c = 7 ∨ c = 9 → a < 4) ∧ (c = 2 → b < 3)
def rp (α β : pSt) (p : Nat) : Prop := α 4 p = β 8 p ∧ (∃ m, 1 ≤ m ∧ m ≤ 12 ∧ α 5 p = nI m ∧ β 9 p = nI m ∧ (∀ i, i < 4 * m → α (60 + p) i = β 10 (48 * p + i)) ∧ ∀ r, r < m → pru (α (60 + p)) r) ∧ α 6 p = β 11 p ∧ α 8 p = β 13 p ∧ pbl (α 8 p) = true ∧ α 9 p = β 14 p
def rP (α β : pSt) : Prop := ∃ n, n ≤ 6 ∧ α 10 0 = nI n ∧ β 7 0 = nI n ∧ ∀ p, p < n → rp α β p
def ru (α β : pSt) (u : Nat) : Prop := α 25 u = β 16 u ∧ α 26 u = β 17 u ∧ α 27 u = β 18 u ∧ α 28 u = β 19 u ∧ α 29 u = β 20 u
def rU (α β : pSt) : Prop := ∃ n, n ≤ 40 ∧ α 11 0 = nI n ∧ β 15 0 = nI n ∧ ∀ u, u < n → ru α β u
def rO (α β : pSt) : Prop := (∀ i, i < 4 → α 23 i = β 21 i) ∧ α 22 0 = β 22 0 ∧ pbl (α 22 0) = true
def rs (α β : pSt) (r : Nat) : Prop := ∃ n, n ≤ 100 ∧ α 0 (7 + r) = nI n ∧ β 23 r = nI n ∧ ∀ i, i < n → α (40 + (7 + r)) i = β 25 (100 * r + i)
def rM (α β : pSt) : Prop := ∃ n, n ≤ 120 ∧ α 12 0 = nI n ∧ β 26 0 = nI n ∧ ∀ i, i < 5 * n → α 30 i = β 27 i
def rN (α β : pSt) : Prop := α 16 0 = β 28 0 ∧ α 17 0 = β 30 0 ∧ α 18 0 = β 31 0
def rA (α β : pSt) : Prop := rT α β ∧ (∀ f, f < 6 → rF α β f) ∧ rP α β ∧ rU α β ∧ rO α β ∧ (∀ r, r < 4 → rs α β r) ∧ rM α β ∧ rN α β
/-- class and reference answer alike, and go on alike -/
def pS (x y : Option (Int32 × pSt)) : Prop := ∃ (r : Int32) (α' β' : pSt), x = some (r, α') ∧ y = some (r, β') ∧ rA α' β'
theorem pS_same {x y : Option (Int32 × pSt)} {r : Int32} {α β : pSt} (hR : rA α β) (h1 : x = some (r, α)) (h2 : y = some (r, β)) : pS x y := ⟨r, α, β, h1, h2, hR⟩
theorem file_bad {x : Int32} {α β : pSt} (h : x < 0 ∨ nI 6 ≤ x) : f_X9_fileAt x α = some (none, α) ∧ f_X10_isFile x β = some (0, β) := by
  refine ⟨?_, ?_⟩
  · unfold f_X9_fileAt
    by_cases h0 : x < 0
    · rw [if_pos h0]
    · rw [if_neg h0, if_pos (show (6 : Int32) ≤ x from h.resolve_left h0)]
  · have h1 : f_X10_in x.toInt64 0 5 β = some (0, β) := in_bad (n := 6) (by decide) (by decide) h
    unfold f_X10_isFile
    rw [h1]
    rfl
theorem file_ok {j : Nat} {α β : pSt} (h : j < 6) : f_X9_fileAt (nI j) α = some (some j, α) ∧ f_X10_isFile (nI j) β = some (1, β) := by
  refine ⟨?_, ?_⟩
  · unfold f_X9_fileAt
    have h2 : ¬ (6 : Int32) ≤ nI j := by
      rw [show (6 : Int32) = nI 6 from rfl, le_nI (by omega) (by omega)]; omega
    rw [if_neg (nI_n0 (by omega)), if_neg h2, pg_t (pin_nI h (by decide)), cl_nI (by omega)]
  · have h1 : f_X10_in (nI j).toInt64 0 5 β = some (1, β) := in_good (n := 6) (by decide) h
    unfold f_X10_isFile
    rw [h1]
    rfl
theorem oneIf_eq (x : Int32) (α : pSt) : f_X9_oneIf x α = some (if x = 0 then 0 else 1, α) := by
  unfold f_X9_oneIf
  by_cases h : x = 0
  · rw [if_pos h, if_pos h]
  · rw [if_neg h, if_neg h]
theorem oneIf_b {x : Int32} {α : pSt} (h : pbl x = true) : f_X9_oneIf x α = some (x, α) := by
  rw [oneIf_eq]
  rcases pbl_ok h with rfl | rfl <;> rfl
/-! frames of the relation's members -/
theorem rT.c {α α' β β' : pSt} (h : rT α β) (a0 : α' 0 0 = α 0 0) (a1 : α' 40 = α 40) (b0 : β' 1 = β 1) (b1 : β' 2 = β 2) : rT α' β' := by
  unfold rT; rw [a0, a1, b0, b1]; exact h
theorem rF.c {α α' β β' : pSt} {f : Nat} (h : rF α β f) (a0 : α' 0 (1 + f) = α 0 (1 + f)) (a1 : α' (40 + (1 + f)) = α (40 + (1 + f))) (a2 : α' 2 f = α 2 f) (a3 : α' 3 f = α 3 f) (b0 : β' 3 f = β 3 f) (b1 : ∀ i, i < 64 → β' 4 (64 * f + i) = β 4 (64 * f + i)) (b2 : β' 5 f = β 5 f) (b3 : β' 6 f = β 6 f) : rF α' β' f := by
  obtain ⟨⟨n, h1, h2, h3, h4, h5⟩, h6, h7, h8, h9⟩ := h
  refine ⟨⟨n, h1, by rw [a0]; exact h2, by rw [b0]; exact h3, fun i hi => ?_, fun i hi => ?_⟩, by rw [a2, b2]; exact h6, by rw [a3, b3]; exact h7, by rw [a2]; exact h8, by rw [a3]; exact h9⟩
  · rw [a1, b1 i (by omega)]; exact h4 i hi
  · rw [a1]; exact h5 i hi
theorem rp.c {α α' β β' : pSt} {p : Nat} (h : rp α β p) (a4 : α' 4 p = α 4 p) (a5 : α' 5 p = α 5 p) (a6 : α' 6 p = α 6 p) (a8 : α' 8 p = α 8 p) (a9 : α' 9 p = α 9 p) (ap : α' (60 + p) = α (60 + p)) (b8 : β' 8 p = β 8 p) (b9 : β' 9 p = β 9 p) (b10 : ∀ i, i < 48 → β' 10 (48 * p + i) = β 10 (48 * p + i)) (b11 : β' 11 p = β 11 p) (b13 : β' 13 p = β 13 p) (b14 : β' 14 p = β 14 p) : rp α' β' p := by
  obtain ⟨h1, ⟨m, m1, m2, m3, m4, m5, m6⟩, h3, h4, h5, h6⟩ := h
  refine ⟨by rw [a4, b8]; exact h1, ⟨m, m1, m2, by rw [a5]; exact m3, by rw [b9]; exact m4, fun i hi => ?_, by rw [ap]; exact m6⟩, by rw [a6, b11]; exact h3, by rw [a8, b13]; exact h4, by rw [a8]; exact h5, by rw [a9, b14]; exact h6⟩
  rw [ap, b10 i (by omega)]; exact m5 i hi
theorem rs.c {α α' β β' : pSt} {r : Nat} (h : rs α β r) (a0 : α' 0 (7 + r) = α 0 (7 + r)) (a1 : α' (40 + (7 + r)) = α (40 + (7 + r))) (b0 : β' 23 r = β 23 r) (b1 : ∀ i, i < 100 → β' 25 (100 * r + i) = β 25 (100 * r + i)) : rs α' β' r := by
  obtain ⟨n, h1, h2, h3, h4⟩ := h
  refine ⟨n, h1, by rw [a0]; exact h2, by rw [b0]; exact h3, fun i hi => ?_⟩
  rw [a1, b1 i (by omega)]; exact h4 i hi
theorem rF_k {α α' β β' : pSt} (h : ∀ f, f < 6 → rF α β f) (hi : ∀ c, 40 ≤ c → α' c = α c) (a : α' 0 = α 0 ∧ α' 2 = α 2 ∧ α' 3 = α 3) (b : β' 3 = β 3 ∧ β' 4 = β 4 ∧ β' 5 = β 5 ∧ β' 6 = β 6) : ∀ f, f < 6 → rF α' β' f :=
  fun f hf => (h f hf).c (by rw [a.1]) (hi _ (by omega)) (by rw [a.2.1]) (by rw [a.2.2]) (by rw [b.1]) (fun i _ => by rw [b.2.1]) (by rw [b.2.2.1]) (by rw [b.2.2.2])
theorem rP_k {α α' β β' : pSt} (h : rP α β) (hi : ∀ c, 40 ≤ c → α' c = α c) (a : α' 4 = α 4 ∧ α' 5 = α 5 ∧ α' 6 = α 6 ∧ α' 8 = α 8 ∧ α' 9 = α 9 ∧ α' 10 = α 10) (b : β' 7 = β 7 ∧ β' 8 = β 8 ∧ β' 9 = β 9 ∧ β' 10 = β 10 ∧ β' 11 = β 11 ∧ β' 13 = β 13 ∧ β' 14 = β 14) : rP α' β' := by
  obtain ⟨n, h1, h2, h3, h4⟩ := h
  obtain ⟨a4, a5, a6, a8, a9, a10⟩ := a
  obtain ⟨b7, b8, b9, b10, b11, b13, b14⟩ := b
  exact ⟨n, h1, by rw [a10]; exact h2, by rw [b7]; exact h3, fun p hp => (h4 p hp).c (by rw [a4]) (by rw [a5]) (by rw [a6]) (by rw [a8]) (by rw [a9]) (hi _ (by omega)) (by rw [b8]) (by rw [b9]) (fun i _ => by rw [b10]) (by rw [b11]) (by rw [b13]) (by rw [b14])⟩
theorem rs_k {α α' β β' : pSt} (h : ∀ r, r < 4 → rs α β r) (hi : ∀ c, 40 ≤ c → α' c = α c) (a : α' 0 = α 0) (b : β' 23 = β 23 ∧ β' 25 = β 25) : ∀ r, r < 4 → rs α' β' r :=
  fun r hr => (h r hr).c (by rw [a]) (hi _ (by omega)) (by rw [b.1]) (fun i _ => by rw [b.2])
