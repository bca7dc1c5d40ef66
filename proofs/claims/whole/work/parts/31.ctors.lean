theorem hdi_6 : yX6_init.cls ≠ "java/lang/invoke/MethodHandle" ∧ yX6_init.cls ≠ "java/lang/invoke/VarHandle" ∧ (parseMethodDescriptor yX6_init.desc).map (fun d => d.parameters.length) = some 1 := by decide +kernel
def gX6 (E : pE) (N0 : Nat) (n j : Nat) (lim : Nat) (G : Nat → va_E) : Nat → va_E := (va_up (va_up G n (.inl (pC E 0, lim, .inl (fun _ => 0)))) j (.inr (8, [.ref (N0 + n), .int 0, .int 0])))
set_option maxHeartbeats 4000000 in
set_option maxRecDepth 100000 in
theorem c_X6_init (l : Launch) {E : pE} {N0 : Nat} {G : Nat → va_E} {n j : Nat} (hj : j < n) (hG : G j = .inr (8, [.null, .int 0, .int 0])) {lim : Nat} (hlim : lim < 1000) : pI l E N0 yX6_init cX6_init 2 1 1 lim [.ref (N0 + j), .int (nI lim)] n G (n + 1) (gX6 E N0 n j lim G) := by
  refine pI.ofW (by decide) rfl ?_ (Nat.le_of_ble_eq_true rfl)
  intro p e s m below meth c ls C hin hr hlk hP hz hl
  have C : zCx p s m meth c cX6_init 2 E RX6 N0 := C
  have hS : va_S (fun q => N0 ≤ q) s.heap s.heap [] := va_S.rf
  have hx := C.1
  have hb := C.2.1
  have hl : lv_has ls 2 [(0, .ref (N0 + j)), (1, .int (nI lim))] := hl
  refine lv_aload_n hx hb dX6_init_0 rfl (lv_at hl 0 rfl) ?_
  refine W.objInit hx hb C.2.2.2.1 (C.2.2.2.2.1.1 _ (List.mem_of_getElem? (i := 61) rfl) rfl _) (C.2.2.2.2.1.1 _ (List.mem_of_getElem? (i := 54) rfl) rfl _) (C.2.2.2.2.1.1 _ (List.mem_of_getElem? (i := 55) rfl) rfl _) rfl (by rw [C.2.2.1]; exact hl.1) rfl dX6_init_1 (Nat.le_of_ble_eq_true rfl) (Nat.le_of_ble_eq_true rfl) ?_
  refine W.eq (g2 := F0 m 4 ls []) rfl ?_
  refine lv_aload_n hx hb dX6_init_4 rfl (lv_at hl 0 rfl) ?_
  refine lv_iload_n hx hb dX6_init_5 rfl (lv_at hl 1 rfl) ?_
  refine lv_iconst (v := 0) hx hb dX6_init_6 (by decide) ?_
  refine va_mmax (own := RX6) hx hb (C.2.2.1.trans hl.1.symm) C.2.2.2.1 (C.2.2.2.2.1.1 _ (List.mem_of_getElem? (i := 62) rfl) rfl _) (C.2.2.2.2.1.1 _ (List.mem_of_getElem? (i := 63) rfl) rfl _) (C.2.2.2.2.1.1 _ (List.mem_of_getElem? (i := 31) rfl) rfl _) (C.2.2.2.2.1.1 _ (List.mem_of_getElem? (i := 64) rfl) rfl _) (Nat.le_of_ble_eq_true rfl) (Nat.le_of_ble_eq_true rfl) (Nat.zero_le _) (Nat.zero_le _) dX6_init_7 ?_
  rw [if_neg (nI_pos (by omega))]
  refine z_newa (atype := .int) (N := lim) (t0 := 0) (cA0 := pC E 0) (a0 := (lim, .inl (fun _ => 0))) C hP hz hS (C.2.2.2.2.1.1 _ (List.mem_of_getElem? (i := 75) rfl) rfl _) rfl (fun _ _ h => h) (fun _ => rfl) (nI_pos (by omega)) (nI_clamp (by omega)) (by show lim * 4 ≤ _; omega) (Nat.le_of_ble_eq_true rfl) (Nat.le_of_eq (by simp)) dX6_init_10 (fun H hP hz hS => ?_)
  refine W.widen (k := 1) (n := lim) (Nat.le_of_ble_eq_true rfl) (by simp) ?_
  refine z_putF (Cn := RX6) (T := TX6) (N := 3) (ci := 8) (k := 0) (j := j) (fs := [.null, .int 0, .int 0]) (ty := .array .int) (v := .ref (N0 + n)) C hin hP hz hS (u_X6 C.2.2.2.2.1 _) tyX6 tyX6_ok nmX6 (by omega) (by first | rfl | (simp (disch := omega) only [va_up_self, va_up_ne]; assumption) | (simp (disch := omega) only [va_up_self, va_up_ne])) rfl (by decide) (C.2.2.2.2.1.1 _ (List.mem_of_getElem? (i := 65) rfl) rfl _) rfl rfl (by decide +kernel) rfl rfl (Nat.le_of_ble_eq_true rfl) dX6_init_12 (fun H locs hP hz hS => ?_)
  exact z_vret C hr hlk hP hz hS (fun _ _ => rfl) dX6_init_15
