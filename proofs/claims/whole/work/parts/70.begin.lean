/-! the start: the world out of the constructors' cells -/
def pOffs : List Nat := [0, 3, 22, 23, 24, 37, 43, 45, 55, 56, 4, 7, 10, 13, 16, 19, 25, 27, 29, 31, 33, 35, 1, 5, 8, 11, 14, 17, 20, 47, 49, 51, 53, 2, 6, 9, 12, 15, 18, 21, 48, 50, 52, 54, 26, 28, 30, 32, 34, 36, 38, 39, 40, 41, 42, 44, 46, 57, 58, 59, 60, 61, 62, 63, 64, 65, 66, 67, 68, 69, 70, 71, 72, 73, 74, 75, 76, 77, 78, 79, 80]
def pOff (k : Nat) : Nat := pOffs[k]?.getD 0
abbrev pE0 (D : va_G) (Cc : Nat → ClassId) (N0 : Nat) : pE := (D, Cc, fun k => N0 + pOff k)
abbrev pZ0 : pSt := fun _ _ => 0
theorem pOff_inj : ∀ i, i < 81 → ∀ j, j < 81 → pOff i = pOff j → i = j := by decide +kernel
theorem pOff_lt : ∀ i, i < 81 → pOff i < 81 := by decide +kernel
theorem pE0_inj {D : va_G} {Cc : Nat → ClassId} {N0 : Nat} : pInj (pE0 D Cc N0) := fun i j hi hj h => pOff_inj i hi j hj (Nat.add_left_cancel (show N0 + pOff i = N0 + pOff j from h))
theorem pE0_out {D : va_G} {Cc : Nat → ClassId} {N0 : Nat} : pOut (pE0 D Cc N0) (N0 + 81) := fun k hk h => by
  have h1 := pOff_lt k hk
  have h2 : N0 + 81 = N0 + pOff k := h
  omega
theorem arrV_congr {cI : ClassId} {N : Nat} {f g : Nat → Value} (h : ∀ j, j < N → f j = g j) : arrV cI N f = arrV cI N g := by
  unfold arrV
  rw [show (fun j : Fin N => f j.val) = (fun j : Fin N => g j.val) from funext fun j => h j.val j.isLt]
theorem all81 {P : Nat → Prop} (h0 : P 0) (h1 : P 1) (h2 : P 2) (h3 : P 3) (h4 : P 4) (h5 : P 5) (h6 : P 6) (h7 : P 7) (h8 : P 8) (h9 : P 9) (h10 : P 10) (h11 : P 11) (h12 : P 12) (h13 : P 13) (h14 : P 14) (h15 : P 15) (h16 : P 16) (h17 : P 17) (h18 : P 18) (h19 : P 19) (h20 : P 20) (h21 : P 21) (h22 : P 22) (h23 : P 23) (h24 : P 24) (h25 : P 25) (h26 : P 26) (h27 : P 27) (h28 : P 28) (h29 : P 29) (h30 : P 30) (h31 : P 31) (h32 : P 32) (h33 : P 33) (h34 : P 34) (h35 : P 35) (h36 : P 36) (h37 : P 37) (h38 : P 38) (h39 : P 39) (h40 : P 40) (h41 : P 41) (h42 : P 42) (h43 : P 43) (h44 : P 44) (h45 : P 45) (h46 : P 46) (h47 : P 47) (h48 : P 48) (h49 : P 49) (h50 : P 50) (h51 : P 51) (h52 : P 52) (h53 : P 53) (h54 : P 54) (h55 : P 55) (h56 : P 56) (h57 : P 57) (h58 : P 58) (h59 : P 59) (h60 : P 60) (h61 : P 61) (h62 : P 62) (h63 : P 63) (h64 : P 64) (h65 : P 65) (h66 : P 66) (h67 : P 67) (h68 : P 68) (h69 : P 69) (h70 : P 70) (h71 : P 71) (h72 : P 72) (h73 : P 73) (h74 : P 74) (h75 : P 75) (h76 : P 76) (h77 : P 77) (h78 : P 78) (h79 : P 79) (h80 : P 80) : ∀ k, k < 81 → P k
  | 0, _ => h0
  | 1, _ => h1
  | 2, _ => h2
  | 3, _ => h3
  | 4, _ => h4
  | 5, _ => h5
  | 6, _ => h6
  | 7, _ => h7
  | 8, _ => h8
  | 9, _ => h9
  | 10, _ => h10
  | 11, _ => h11
  | 12, _ => h12
  | 13, _ => h13
  | 14, _ => h14
  | 15, _ => h15
  | 16, _ => h16
  | 17, _ => h17
  | 18, _ => h18
  | 19, _ => h19
  | 20, _ => h20
  | 21, _ => h21
  | 22, _ => h22
  | 23, _ => h23
  | 24, _ => h24
  | 25, _ => h25
  | 26, _ => h26
  | 27, _ => h27
  | 28, _ => h28
  | 29, _ => h29
  | 30, _ => h30
  | 31, _ => h31
  | 32, _ => h32
  | 33, _ => h33
  | 34, _ => h34
  | 35, _ => h35
  | 36, _ => h36
  | 37, _ => h37
  | 38, _ => h38
  | 39, _ => h39
  | 40, _ => h40
  | 41, _ => h41
  | 42, _ => h42
  | 43, _ => h43
  | 44, _ => h44
  | 45, _ => h45
  | 46, _ => h46
  | 47, _ => h47
  | 48, _ => h48
  | 49, _ => h49
  | 50, _ => h50
  | 51, _ => h51
  | 52, _ => h52
  | 53, _ => h53
  | 54, _ => h54
  | 55, _ => h55
  | 56, _ => h56
  | 57, _ => h57
  | 58, _ => h58
  | 59, _ => h59
  | 60, _ => h60
  | 61, _ => h61
  | 62, _ => h62
  | 63, _ => h63
  | 64, _ => h64
  | 65, _ => h65
  | 66, _ => h66
  | 67, _ => h67
  | 68, _ => h68
  | 69, _ => h69
  | 70, _ => h70
  | 71, _ => h71
  | 72, _ => h72
  | 73, _ => h73
  | 74, _ => h74
  | 75, _ => h75
  | 76, _ => h76
  | 77, _ => h77
  | 78, _ => h78
  | 79, _ => h79
  | 80, _ => h80
  | n + 81, h => absurd h (by omega)
def pG1 (E : pE) (N0 : Nat) (G : Nat → va_E) : Nat → va_E := gX9 E N0 (va_up G 0 (.inr (11, [.null, .null, .null, .null, .null, .null, .null, .null, .int 0])))
def pG2 (E : pE) (N0 : Nat) (G : Nat → va_E) : Nat → va_E := gX10 E N0 (va_up (pG1 E N0 G) 57 (.inr (12, [.int 0, .int 0, .null, .null, .null, .null, .null, .int 0, .null, .null, .null, .null, .null, .null, .null, .int 0, .null, .null, .null, .null, .null, .null, .int 0, .null, .null, .null, .int 0, .null, .int 0, .int 0, .int 0, .int 0, .int 0, .int 0, .int 0, .null])))
def pG3 (E : pE) (N0 : Nat) (G : Nat → va_E) : Nat → va_E := va_up (pG2 E N0 G) 81 (.inl (pC E 2, 1, .inr (.inl (fun _ => 0))))
set_option maxHeartbeats 4000000 in
set_option maxRecDepth 100000 in
theorem pG_is {D : va_G} {Cc : Nat → ClassId} {N0 : Nat} {G : Nat → va_E} : ∀ k, k < 81 → ¬ k = 1 → ¬ k = 4 → ¬ k = 56 → pG3 (pE0 D Cc N0) N0 G (pOff k) = pe (pE0 D Cc N0) pZ0 pZ0 k :=
  all81 (fun _ _ _ => rfl) (fun h _ _ => absurd rfl h) (fun _ _ _ => rfl) (fun _ _ _ => rfl) (fun _ h _ => absurd rfl h) (fun _ _ _ => rfl) (fun _ _ _ => rfl) (fun _ _ _ => rfl) (fun _ _ _ => rfl) (fun _ _ _ => rfl) (fun _ _ _ => rfl) (fun _ _ _ => rfl) (fun _ _ _ => rfl) (fun _ _ _ => rfl) (fun _ _ _ => rfl) (fun _ _ _ => rfl) (fun _ _ _ => rfl) (fun _ _ _ => rfl) (fun _ _ _ => rfl) (fun _ _ _ => rfl) (fun _ _ _ => rfl) (fun _ _ _ => rfl) (fun _ _ _ => rfl) (fun _ _ _ => rfl) (fun _ _ _ => rfl) (fun _ _ _ => rfl) (fun _ _ _ => rfl) (fun _ _ _ => rfl) (fun _ _ _ => rfl) (fun _ _ _ => rfl) (fun _ _ _ => rfl) (fun _ _ _ => rfl) (fun _ _ _ => rfl) (fun _ _ _ => rfl) (fun _ _ _ => rfl) (fun _ _ _ => rfl) (fun _ _ _ => rfl) (fun _ _ _ => rfl) (fun _ _ _ => rfl) (fun _ _ _ => rfl) (fun _ _ _ => rfl) (fun _ _ _ => rfl) (fun _ _ _ => rfl) (fun _ _ _ => rfl) (fun _ _ _ => rfl) (fun _ _ _ => rfl) (fun _ _ _ => rfl) (fun _ _ _ => rfl) (fun _ _ _ => rfl) (fun _ _ _ => rfl) (fun _ _ _ => rfl) (fun _ _ _ => rfl) (fun _ _ _ => rfl) (fun _ _ _ => rfl) (fun _ _ _ => rfl) (fun _ _ _ => rfl) (fun _ _ h => absurd rfl h) (fun _ _ _ => rfl) (fun _ _ _ => rfl) (fun _ _ _ => rfl) (fun _ _ _ => rfl) (fun _ _ _ => rfl) (fun _ _ _ => rfl) (fun _ _ _ => rfl) (fun _ _ _ => rfl) (fun _ _ _ => rfl) (fun _ _ _ => rfl) (fun _ _ _ => rfl) (fun _ _ _ => rfl) (fun _ _ _ => rfl) (fun _ _ _ => rfl) (fun _ _ _ => rfl) (fun _ _ _ => rfl) (fun _ _ _ => rfl) (fun _ _ _ => rfl) (fun _ _ _ => rfl) (fun _ _ _ => rfl) (fun _ _ _ => rfl) (fun _ _ _ => rfl) (fun _ _ _ => rfl) (fun _ _ _ => rfl)
set_option maxHeartbeats 4000000 in
set_option maxRecDepth 100000 in
theorem pG_1 {D : va_G} {Cc : Nat → ClassId} {N0 : Nat} {G : Nat → va_E} : ∃ f : Nat → Option Nat, pG3 (pE0 D Cc N0) N0 G 3 = .inl (Cc 3, 6, .inr (.inr (.inr (.inr f)))) ∧ ∀ j, j < 6 → f j = some (pL (pE0 D Cc N0) (10 + j)) := by
  refine ⟨_, rfl, fun j hj => ?_⟩
  rcases (show j = 0 ∨ j = 1 ∨ j = 2 ∨ j = 3 ∨ j = 4 ∨ j = 5 by omega) with rfl | rfl | rfl | rfl | rfl | rfl <;> rfl
set_option maxHeartbeats 4000000 in
set_option maxRecDepth 100000 in
theorem pG_4 {D : va_G} {Cc : Nat → ClassId} {N0 : Nat} {G : Nat → va_E} : ∃ f : Nat → Option Nat, pG3 (pE0 D Cc N0) N0 G 24 = .inl (Cc 4, 6, .inr (.inr (.inr (.inr f)))) ∧ ∀ j, j < 6 → f j = some (pL (pE0 D Cc N0) (16 + j)) := by
  refine ⟨_, rfl, fun j hj => ?_⟩
  rcases (show j = 0 ∨ j = 1 ∨ j = 2 ∨ j = 3 ∨ j = 4 ∨ j = 5 by omega) with rfl | rfl | rfl | rfl | rfl | rfl <;> rfl
set_option maxHeartbeats 4000000 in
set_option maxRecDepth 100000 in
theorem pG_56 {D : va_G} {Cc : Nat → ClassId} {N0 : Nat} {G : Nat → va_E} : ∃ f : Nat → Option Nat, pG3 (pE0 D Cc N0) N0 G 46 = .inl (Cc 5, 4, .inr (.inr (.inr (.inr f)))) ∧ ∀ j, j < 4 → f j = some (pL (pE0 D Cc N0) (22 + (7 + j))) := by
  refine ⟨_, rfl, fun j hj => ?_⟩
  rcases (show j = 0 ∨ j = 1 ∨ j = 2 ∨ j = 3 by omega) with rfl | rfl | rfl | rfl <;> rfl
theorem pw_start {D : va_G} {Cc : Nat → ClassId} {N0 : Nat} {G : Nat → va_E} {H : Heap} (hP : va_P D vwCl (pz N0 82 (pG3 (pE0 D Cc N0) N0 G)) H) : va_P (pD (pE0 D Cc N0)) vwCl (pw (pE0 D Cc N0) pZ0 pZ0) H ∧ va_P (pD (pE0 D Cc N0)) vwCl (pOe (pE0 D Cc N0) (N0 + 81) (fun _ => 0)) H := by
  refine ⟨fun k q hk => ?_, fun k q hk => ?_⟩
  · obtain ⟨h1, rfl⟩ := pw_lt hk
    have h2 := hP (pOff k) _ (pz_at (Nat.lt_of_lt_of_le (pOff_lt k h1) (by decide)))
    by_cases e1 : k = 1
    · subst e1
      obtain ⟨f, h3, h4⟩ := pG_1 (D := D) (Cc := Cc) (N0 := N0) (G := G)
      rw [show pOff 1 = 3 from rfl, h3] at h2
      have h5 : H[N0 + 3]? = some (arrV (Cc 3) 6 (fun j => va_rf (f j))) := h2
      show H[N0 + 3]? = some (arrV (Cc 3) 6 (fun j => va_rf (some (pL (pE0 D Cc N0) (10 + j)))))
      rw [h5, arrV_congr (fun j hj => by rw [h4 j hj])]
    by_cases e4 : k = 4
    · subst e4
      obtain ⟨f, h3, h4⟩ := pG_4 (D := D) (Cc := Cc) (N0 := N0) (G := G)
      rw [show pOff 4 = 24 from rfl, h3] at h2
      have h5 : H[N0 + 24]? = some (arrV (Cc 4) 6 (fun j => va_rf (f j))) := h2
      show H[N0 + 24]? = some (arrV (Cc 4) 6 (fun j => va_rf (some (pL (pE0 D Cc N0) (16 + j)))))
      rw [h5, arrV_congr (fun j hj => by rw [h4 j hj])]
    by_cases e56 : k = 56
    · subst e56
      obtain ⟨f, h3, h4⟩ := pG_56 (D := D) (Cc := Cc) (N0 := N0) (G := G)
      rw [show pOff 56 = 46 from rfl, h3] at h2
      have h5 : H[N0 + 46]? = some (arrV (Cc 5) 4 (fun j => va_rf (f j))) := h2
      show H[N0 + 46]? = some (arrV (Cc 5) 4 (fun j => va_rf (some (pL (pE0 D Cc N0) (22 + (7 + j))))))
      rw [h5, arrV_congr (fun j hj => by rw [h4 j hj])]
    rw [pG_is k h1 e1 e4 e56] at h2
    exact h2
  · have h2 := hP 81 _ (pz_at (by decide))
    rw [List.mem_singleton.mp (List.mem_of_getElem? hk)]
    have h3 : pG3 (pE0 D Cc N0) N0 G 81 = .inl (Cc 2, 1, .inr (.inl (fun _ => 0))) := va_up_self _ _ _
    rw [h3] at h2
    exact h2
theorem rA_zero : rA pZ0 pZ0 := by
  refine ⟨⟨0, by decide, rfl, rfl, fun i h => absurd h (by omega), fun i h => absurd h (by omega)⟩, fun f _ => ⟨⟨0, by decide, rfl, rfl, fun i h => absurd h (by omega), fun i h => absurd h (by omega)⟩, rfl, rfl, rfl, rfl⟩, ⟨0, by decide, rfl, rfl, fun i h => absurd h (by omega)⟩, ⟨0, by decide, rfl, rfl, fun i h => absurd h (by omega)⟩, ⟨fun _ _ => rfl, rfl, rfl⟩, fun r _ => ⟨0, by decide, rfl, rfl, fun i h => absurd h (by omega)⟩, ⟨0, by decide, rfl, rfl, fun i h => absurd h (by omega)⟩, rfl, rfl, rfl⟩
