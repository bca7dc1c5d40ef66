/-! clear, plant, feed, lay -/
theorem nxx_and (a b : Nat) : nI a &&& nI b = nI (a &&& b) := by
  apply Int32.toBitVec_inj.1
  show BitVec.ofNat 32 a &&& BitVec.ofNat 32 b = BitVec.ofNat 32 (a &&& b)
  apply BitVec.eq_of_getLsbD_eq
  intro i hi
  simp [hi]
theorem nxx_xor (a b : Nat) : nI a ^^^ nI b = nI (a ^^^ b) := by
  apply Int32.toBitVec_inj.1
  show BitVec.ofNat 32 a ^^^ BitVec.ofNat 32 b = BitVec.ofNat 32 (a ^^^ b)
  apply BitVec.eq_of_getLsbD_eq
  intro i hi
  simp [hi]
theorem and255 {k : Nat} (h : k < 256) : nI k &&& 255 = nI k := by
  show nI k &&& nI 255 = _
  rw [nxx_and, show (255 : Nat) = 2 ^ 8 - 1 from rfl, Nat.and_two_pow_sub_one_eq_mod, Nat.mod_eq_of_lt h]
theorem pby_and {x : Int32} (h : pby x) : x &&& 255 = x := by
  obtain ⟨b, hb, rfl⟩ := h
  exact and255 hb
theorem xor_lt {a b : Nat} (ha : a < 256) (hb : b < 256) : a ^^^ b < 256 := Nat.xor_lt_two_pow (n := 8) ha hb
/-- from a place on -/
def fillo (α : pSt) (c o : Nat) (x : Int32) : Nat → pSt
  | 0 => α
  | n + 1 => up2 (fillo α c o x n) c (o + n) x
theorem fillo_ne {α : pSt} {c o d : Nat} {x : Int32} (h : ¬ d = c) : ∀ n, fillo α c o x n d = α d
  | 0 => rfl
  | n + 1 => by
    show up2 (fillo α c o x n) c (o + n) x d = _
    rw [up2_ne h, fillo_ne h n]
theorem fillo_at {α : pSt} {c o : Nat} {x : Int32} : ∀ n i, fillo α c o x n c i = if o ≤ i ∧ i < o + n then x else α c i
  | 0, i => by rw [if_neg (by omega)]; rfl
  | n + 1, i => by
    show up2 (fillo α c o x n) c (o + n) x c i = _
    by_cases h : i = o + n
    · subst h; rw [up2_vv, if_pos (by omega)]
    · rw [up2_vn h, fillo_at n i]
      by_cases h2 : o ≤ i ∧ i < o + n
      · rw [if_pos h2, if_pos (by omega)]
      · rw [if_neg h2, if_neg (by omega)]
theorem emptyAll_L {α : pSt} : ∀ (f i : Nat), i ≤ 4 → 4 < i + f → f_X5_emptyAll_L10 f (nI i) (fillo α 0 7 0 i) = some ((), fillo α 0 7 0 4) := by
  intro f
  induction f with
  | zero => intro i h1 h2; omega
  | succ f ih =>
    intro i h1 h2
    rw [f_X5_emptyAll_L10]
    by_cases hi : i = 4
    · subst hi
      rw [if_pos (by decide)]
    · rw [if_neg (by rw [show (4 : Int32) = nI 4 from rfl, le_nI (by omega) (by omega)]; omega), pg_t (pin_nI (by omega) (by decide)), cl_nI (by omega), nI_1]
      exact ih (i + 1) (by omega) (by omega)
theorem clearM_L {β : pSt} {y : Int32} : ∀ (f i : Nat), i ≤ 4 → 4 < i + f → f_X10_clear_L22 y f (nI i) (fillo β 23 0 0 i) = some (y, fillo β 23 0 0 4) := by
  intro f
  induction f with
  | zero => intro i h1 h2; omega
  | succ f ih =>
    intro i h1 h2
    rw [f_X10_clear_L22]
    by_cases hi : i = 4
    · subst hi
      rw [if_pos (by decide)]
    · rw [if_neg (by rw [show (4 : Int32) = nI 4 from rfl, le_nI (by omega) (by omega)]; omega), pg_t (pin_nI (by omega) (by decide)), cl_nI (by omega), nI_1, pl_s, show up2 (fillo β 23 0 0 i) 23 i 0 = fillo β 23 0 0 (i + 1) by show _ = up2 (fillo β 23 0 0 i) 23 (0 + i) 0; rw [Nat.zero_add]]
      exact ih (i + 1) (by omega) (by omega)
theorem cut0 {α : pSt} {n : Nat} (hn : n ≤ 40) (ha : α 11 0 = nI n) : f_X8_cutTo 0 α = some ((), up2 α 11 0 0) := by
  unfold f_X8_cutTo
  rw [ha, if_neg (show ¬ nI n < 0 from nI_n0 (by omega)), if_neg (by decide)]
  rfl
theorem emptyAll_eq {α : pSt} : f_X5_emptyAll α = some ((), fillo α 0 7 0 4) := by
  unfold f_X5_emptyAll
  have h := emptyAll_L (α := α) pF 0 (by decide) (by decide)
  rw [show fillo α 0 7 0 0 = α from rfl, nI_0] at h
  exact h
theorem clearM_eq {β : pSt} {y : Int32} : f_X10_clear_L22 y pF 0 β = some (y, fillo β 23 0 0 4) := by
  have h := clearM_L (β := β) (y := y) pF 0 (by decide) (by decide)
  rw [show fillo β 23 0 0 0 = β from rfl, nI_0] at h
  exact h
theorem dismiss_eq {α : pSt} : f_X4_dismissAll α = some ((), up2 α 10 0 0) := rfl
theorem forget_eq {α : pSt} : f_X1_forgetAll α = some ((), up2 α 12 0 0) := rfl
theorem sm_clear {α β : pSt} (hR : rA α β) : pS (f_X9_clear α) (f_X10_clear β) := by
  obtain ⟨rt, rf, rpp, ⟨n, hn, ha, hb, hu⟩, ro, rss, rm, rn⟩ := hR
  obtain ⟨α1, hα⟩ : ∃ z, up2 (up2 (up2 α 11 0 0) 10 0 0) 12 0 0 = z := ⟨_, rfl⟩
  obtain ⟨β1, hβ⟩ : ∃ z, up2 (up2 (up2 β 15 0 0) 7 0 0) 26 0 0 = z := ⟨_, rfl⟩
  refine ⟨nI n, fillo α1 0 7 0 4, fillo β1 23 0 0 4, ?_, ?_, ?_⟩
  · unfold f_X9_clear
    rw [size8, pb_s, cut0 hn ha, pb_s, dismiss_eq, pb_s, forget_eq, pb_s, hα, emptyAll_eq, pb_s, ha]
  · unfold f_X10_clear
    rw [pl_s, pl_s, pl_s, hβ, clearM_eq, hb]
  · have fa : ∀ d, ¬ d = 0 → ¬ d = 10 → ¬ d = 11 → ¬ d = 12 → fillo α1 0 7 0 4 d = α d := fun d h0 h10 h11 h12 => by
      rw [fillo_ne h0, ← hα, up2_ne h12, up2_ne h10, up2_ne h11]
    have fb : ∀ d, ¬ d = 23 → ¬ d = 7 → ¬ d = 15 → ¬ d = 26 → fillo β1 23 0 0 4 d = β d := fun d h0 h10 h11 h12 => by
      rw [fillo_ne h0, ← hβ, up2_ne h12, up2_ne h10, up2_ne h11]
    have f0 : ∀ i, i < 7 → fillo α1 0 7 0 4 0 i = α 0 i := fun i hi => by
      rw [fillo_at, if_neg (by omega), ← hα]
      rfl
    refine ⟨rt.c (f0 0 (by decide)) (fa 40 (by decide) (by decide) (by decide) (by decide)) (fb 1 (by decide) (by decide) (by decide) (by decide)) (fb 2 (by decide) (by decide) (by decide) (by decide)), fun f hf => (rf f hf).c (f0 _ (by omega)) (fa _ (by omega) (by omega) (by omega) (by omega)) (by rw [fa 2 (by decide) (by decide) (by decide) (by decide)]) (by rw [fa 3 (by decide) (by decide) (by decide) (by decide)]) (by rw [fb 3 (by decide) (by decide) (by decide) (by decide)]) (fun i _ => by rw [fb 4 (by decide) (by decide) (by decide) (by decide)]) (by rw [fb 5 (by decide) (by decide) (by decide) (by decide)]) (by rw [fb 6 (by decide) (by decide) (by decide) (by decide)]),
      ⟨0, by decide, ?_, ?_, fun p hp => by omega⟩, ⟨0, by decide, ?_, ?_, fun p hp => by omega⟩, ?_, fun r hr => ⟨0, by decide, ?_, ?_, fun p hp => by omega⟩, ⟨0, by decide, ?_, ?_, fun p hp => by omega⟩, ?_⟩
    · rw [fillo_ne (by decide), ← hα]; rfl
    · rw [fillo_ne (by decide), ← hβ]; rfl
    · rw [fillo_ne (by decide), ← hα]; rfl
    · rw [fillo_ne (by decide), ← hβ]; rfl
    · unfold rO; rw [fa 23 (by decide) (by decide) (by decide) (by decide), fb 21 (by decide) (by decide) (by decide) (by decide), fa 22 (by decide) (by decide) (by decide) (by decide), fb 22 (by decide) (by decide) (by decide) (by decide)]; exact ro
    · rw [fillo_at, if_pos (by omega)]; rfl
    · rw [fillo_at, if_pos (by omega)]; rfl
    · rw [fillo_ne (by decide), ← hα]; rfl
    · rw [fillo_ne (by decide), ← hβ]; rfl
    · unfold rN; rw [fa 16 (by decide) (by decide) (by decide) (by decide), fb 28 (by decide) (by decide) (by decide) (by decide), fa 17 (by decide) (by decide) (by decide) (by decide), fb 30 (by decide) (by decide) (by decide) (by decide), fa 18 (by decide) (by decide) (by decide) (by decide), fb 31 (by decide) (by decide) (by decide) (by decide)]; exact rn
