theorem hd_X9_octet : yX9_octet.cls ≠ "java/lang/invoke/MethodHandle" ∧ yX9_octet.cls ≠ "java/lang/invoke/VarHandle" ∧ (parseMethodDescriptor yX9_octet.desc).map (fun d => d.parameters.length) = some 2 := by decide +kernel
theorem hd_X9_cell : yX9_cell.cls ≠ "java/lang/invoke/MethodHandle" ∧ yX9_cell.cls ≠ "java/lang/invoke/VarHandle" ∧ (parseMethodDescriptor yX9_cell.desc).map (fun d => d.parameters.length) = some 1 := by decide +kernel
theorem hd_X9_resource : yX9_resource.cls ≠ "java/lang/invoke/MethodHandle" ∧ yX9_resource.cls ≠ "java/lang/invoke/VarHandle" ∧ (parseMethodDescriptor yX9_resource.desc).map (fun d => d.parameters.length) = some 2 := by decide +kernel
def f_X9_octet (a0 : Int32) (a1 : Int32) (α : pSt) : Option (Int32 × pSt) := pb (f_X9_fileAt (a0) α) fun r1 α2 => pO r1 (none) fun i4 => pg (decide (i4 < 6)) (pb (f_X6_has ((1 + i4)) (a1) α2) fun r6 α7 => if r6 = 0 then (none) else (pb (f_X6_at ((1 + i4)) (a1) α7) fun r10 α11 => some ((r10.toInt8.toInt32), α11)))
set_option maxHeartbeats 4000000 in
set_option maxRecDepth 100000 in
theorem c_X9_octet (l : Launch) {E : pE} (hE : pInj E) {β : pSt} {a0 : Int32} {a1 : Int32} {α α' : pSt} {r : Int32} (hf : f_X9_octet a0 a1 α = some (r, α')) : pM l E yX9_octet cX9_octet 4 (some .byte) 1 [.ref (pL E 0), .int a0, .int a1] α β (some (.int r)) α' β := by
  refine pM.ofW hE (by decide) ?_ (Nat.le_of_ble_eq_true rfl)
  intro p e s m below meth c ls C hr hlk hP hl
  have C : pCx p s m c cX9_octet 4 E RX9 := C
  have hS : va_S (pA E s.heap.size) s.heap s.heap [] := va_S.rf
  have hx := C.1
  have hb := C.2.1
  have hl : lv_has ls 4 [(0, .ref (pL E 0)), (1, .int a0), (2, .int a1)] := hl
  unfold f_X9_octet at hf
  refine lv_aload_n hx hb dX9_octet_0 rfl (lv_at hl 0 rfl) ?_
  refine lv_iload_n hx hb dX9_octet_1 rfl (lv_at hl 1 rfl) ?_
  obtain ⟨r1, α2, hc3, hf⟩ := pb2_ok hf
  refine p_callV (n := 1) (As := [.int a0]) (rest := []) C hP hS (wv_9_68 C.2.2.2.2.1 _) (c_X9_fileAt l C.2.2.2.2.2.2  hc3) (e_X9) rfl rfl hd_X9_fileAt rfl ⟨Nat.le_of_ble_eq_true rfl, Nat.le_of_ble_eq_true rfl⟩ hl.1 rfl (Nat.le_of_ble_eq_true rfl) dX9_octet_2 ⟨Nat.zero_le _, Nat.zero_le _⟩ (fun H locs hP hS _ _ => ?_)
  rcases r1 with _ | i4
  · have hf := pO_n hf
    refine W.eq (g2 := F0 m 5 ls [.null]) rfl ?_
    refine lv_astore_nN (lv' := [(3, .null), (0, .ref (pL E 0)), (1, .int a0), (2, .int a1)]) hx hb dX9_octet_5 rfl hl (by decide) rfl (fun ls hl => ?_)
    refine lv_aload_nN hx hb dX9_octet_6 rfl (lv_at hl 0 rfl) ?_
    refine lv_ifnonnullN hx hb dX9_octet_7 ?_
    cases hf
  · have hf := pO_s hf
    obtain ⟨h5, hf⟩ := pg_ok hf
    refine W.eq (g2 := F0 m 5 ls [.ref (pL E (10 + i4))]) rfl ?_
    refine lv_astore_n (lv' := [(3, .ref (pL E (10 + i4))), (0, .ref (pL E 0)), (1, .int a0), (2, .int a1)]) hx hb dX9_octet_5 rfl hl (by decide) rfl (fun ls hl => ?_)
    refine lv_aload_n hx hb dX9_octet_6 rfl (lv_at hl 0 rfl) ?_
    refine lv_ifnonnull (tgt := 20) hx hb dX9_octet_7 (by decide) ?_
    refine lv_aload_n hx hb dX9_octet_20 rfl (lv_at hl 0 rfl) ?_
    refine g_9_72 C hP (k := i4) (of_decide_eq_true h5) dX9_octet_21 ?_
    refine lv_iload_n hx hb dX9_octet_24 rfl (lv_at hl 3 rfl) ?_
    obtain ⟨r6, α7, hc8, hf⟩ := pb2_ok hf
    refine p_callV (n := 1) (As := [.int a1]) (rest := []) C hP hS (wv_9_93 C.2.2.2.2.1 _) (c_X6_has l C.2.2.2.2.2.2 (k := (1 + i4)) (pr1 (of_decide_eq_true h5)) hc8) (e_X6 (k := (1 + i4)) (pr1 (of_decide_eq_true h5))) rfl rfl hd_X6_has rfl ⟨Nat.le_of_ble_eq_true rfl, Nat.le_of_ble_eq_true rfl⟩ hl.1 rfl (Nat.le_of_ble_eq_true rfl) dX9_octet_25 ⟨Nat.zero_le _, Nat.zero_le _⟩ (fun H locs hP hS _ _ => ?_)
    refine W.eq (g2 := F0 m 28 ls [.int r6]) rfl ?_
    refine lv_if_ne (tgt := 41) hx hb dX9_octet_28 (by decide) (fun h9 => ?_) (fun h9 => ?_)
    · have hf := pif_f hf h9
      refine lv_aload_n hx hb dX9_octet_41 rfl (lv_at hl 0 rfl) ?_
      refine g_9_72 C hP (k := i4) (of_decide_eq_true h5) dX9_octet_42 ?_
      refine lv_iload_n hx hb dX9_octet_45 rfl (lv_at hl 3 rfl) ?_
      obtain ⟨r10, α11, hc12, hf⟩ := pb2_ok hf
      refine p_callV (n := 1) (As := [.int a1]) (rest := []) C hP hS (wv_9_98 C.2.2.2.2.1 _) (c_X6_at l C.2.2.2.2.2.2 (k := (1 + i4)) (pr1 (of_decide_eq_true h5)) hc12) (e_X6 (k := (1 + i4)) (pr1 (of_decide_eq_true h5))) rfl rfl hd_X6_at rfl ⟨Nat.le_of_ble_eq_true rfl, Nat.le_of_ble_eq_true rfl⟩ hl.1 rfl (Nat.le_of_ble_eq_true rfl) dX9_octet_46 ⟨Nat.zero_le _, Nat.zero_le _⟩ (fun H locs hP hS _ _ => ?_)
      refine W.eq (g2 := F0 m 49 ls [.int r10]) rfl ?_
      refine lv_i2b hx hb dX9_octet_49 rfl ?_
      exact p_bret C hr hlk (pk_nb _) (pe1 hf) (pe2C hf) hP hS dX9_octet_50
    · have hf := pif_t hf h9
      cases hf
def tA_X9_octet (a0 : Int32) (a1 : Int32) (α : pSt) : Option (Unit × pSt) := pb (f_X9_fileAt (a0) α) fun r1 α2 => pO r1 (some ((), α2)) fun i4 => pg (decide (i4 < 6)) (pb (f_X6_has ((1 + i4)) (a1) α2) fun r6 α7 => if r6 = 0 then (some ((), α7)) else (pb (f_X6_at ((1 + i4)) (a1) α7) fun r10 α11 => none))
set_option maxHeartbeats 4000000 in
set_option maxRecDepth 100000 in
theorem cA_X9_octet {l : Launch} (hlt : l.stackTraces = false) {E : pE} (hE : pInj E) {β : pSt} {a0 : Int32} {a1 : Int32} {α α' : pSt} {r : Unit} (hf : tA_X9_octet a0 a1 α = some (r, α')) : pX l E yX9_octet cX9_octet 4 (some .byte) 7 6 [.ref (pL E 0), .int a0, .int a1] α β pxA α' β := by
  refine pX.ofW hE (by decide) ?_ (Nat.le_of_ble_eq_true rfl)
  intro p e s m below meth c ls C htab hlk hP hl hZ
  have C : pCx p s m c cX9_octet 4 E RX9 := C
  have hS : va_S (pA E s.heap.size) s.heap s.heap [] := va_S.rf
  have hx := C.1
  have hb := C.2.1
  have hl : lv_has ls 4 [(0, .ref (pL E 0)), (1, .int a0), (2, .int a1)] := hl
  unfold tA_X9_octet at hf
  refine lv_aload_n hx hb dX9_octet_0 rfl (lv_at hl 0 rfl) ?_
  refine lv_iload_n hx hb dX9_octet_1 rfl (lv_at hl 1 rfl) ?_
  obtain ⟨r1, α2, hc3, hf⟩ := pb2_ok hf
  refine p_callV (n := 1) (As := [.int a0]) (rest := []) C hP hS (wv_9_68 C.2.2.2.2.1 _) (c_X9_fileAt l C.2.2.2.2.2.2  hc3) (e_X9) rfl rfl hd_X9_fileAt rfl ⟨Nat.le_of_ble_eq_true rfl, Nat.le_of_ble_eq_true rfl⟩ hl.1 rfl (Nat.le_of_ble_eq_true rfl) dX9_octet_2 ⟨Nat.zero_le _, Nat.zero_le _⟩ (fun H locs hP hS _ _ => ?_)
  rcases r1 with _ | i4
  · have hf := pO_n hf
    refine W.eq (g2 := F0 m 5 ls [.null]) rfl ?_
    refine lv_astore_nN (lv' := [(3, .null), (0, .ref (pL E 0)), (1, .int a0), (2, .int a1)]) hx hb dX9_octet_5 rfl hl (by decide) rfl (fun ls hl => ?_)
    refine lv_aload_nN hx hb dX9_octet_6 rfl (lv_at hl 0 rfl) ?_
    refine lv_ifnonnullN hx hb dX9_octet_7 ?_
    exact p_throwA C hlt hZ htab hlk hP hS hl hZ.2.2.1.1 (pe2C hf) dX9_octet_10 dX9_octet_13 dX9_octet_14 dX9_octet_16 dX9_octet_19
  · have hf := pO_s hf
    obtain ⟨h5, hf⟩ := pg_ok hf
    refine W.eq (g2 := F0 m 5 ls [.ref (pL E (10 + i4))]) rfl ?_
    refine lv_astore_n (lv' := [(3, .ref (pL E (10 + i4))), (0, .ref (pL E 0)), (1, .int a0), (2, .int a1)]) hx hb dX9_octet_5 rfl hl (by decide) rfl (fun ls hl => ?_)
    refine lv_aload_n hx hb dX9_octet_6 rfl (lv_at hl 0 rfl) ?_
    refine lv_ifnonnull (tgt := 20) hx hb dX9_octet_7 (by decide) ?_
    refine lv_aload_n hx hb dX9_octet_20 rfl (lv_at hl 0 rfl) ?_
    refine g_9_72 C hP (k := i4) (of_decide_eq_true h5) dX9_octet_21 ?_
    refine lv_iload_n hx hb dX9_octet_24 rfl (lv_at hl 3 rfl) ?_
    obtain ⟨r6, α7, hc8, hf⟩ := pb2_ok hf
    refine p_callV (n := 1) (As := [.int a1]) (rest := []) C hP hS (wv_9_93 C.2.2.2.2.1 _) (c_X6_has l C.2.2.2.2.2.2 (k := (1 + i4)) (pr1 (of_decide_eq_true h5)) hc8) (e_X6 (k := (1 + i4)) (pr1 (of_decide_eq_true h5))) rfl rfl hd_X6_has rfl ⟨Nat.le_of_ble_eq_true rfl, Nat.le_of_ble_eq_true rfl⟩ hl.1 rfl (Nat.le_of_ble_eq_true rfl) dX9_octet_25 ⟨Nat.zero_le _, Nat.zero_le _⟩ (fun H locs hP hS _ _ => ?_)
    refine W.eq (g2 := F0 m 28 ls [.int r6]) rfl ?_
    refine lv_if_ne (tgt := 41) hx hb dX9_octet_28 (by decide) (fun h9 => ?_) (fun h9 => ?_)
    · have hf := pif_f hf h9
      refine lv_aload_n hx hb dX9_octet_41 rfl (lv_at hl 0 rfl) ?_
      refine g_9_72 C hP (k := i4) (of_decide_eq_true h5) dX9_octet_42 ?_
      refine lv_iload_n hx hb dX9_octet_45 rfl (lv_at hl 3 rfl) ?_
      obtain ⟨r10, α11, hc12, hf⟩ := pb2_ok hf
      refine p_callV (n := 1) (As := [.int a1]) (rest := []) C hP hS (wv_9_98 C.2.2.2.2.1 _) (c_X6_at l C.2.2.2.2.2.2 (k := (1 + i4)) (pr1 (of_decide_eq_true h5)) hc12) (e_X6 (k := (1 + i4)) (pr1 (of_decide_eq_true h5))) rfl rfl hd_X6_at rfl ⟨Nat.le_of_ble_eq_true rfl, Nat.le_of_ble_eq_true rfl⟩ hl.1 rfl (Nat.le_of_ble_eq_true rfl) dX9_octet_46 ⟨Nat.zero_le _, Nat.zero_le _⟩ (fun H locs hP hS _ _ => ?_)
      refine W.eq (g2 := F0 m 49 ls [.int r10]) rfl ?_
      refine lv_i2b hx hb dX9_octet_49 rfl ?_
      cases hf
    · have hf := pif_t hf h9
      exact p_throwA C hlt hZ htab hlk hP hS hl hZ.2.2.1.2.1 (pe2C hf) dX9_octet_31 dX9_octet_34 dX9_octet_35 dX9_octet_37 dX9_octet_40
def f_X9_cell (a0 : Int32) (α : pSt) : Option (Int32 × pSt) := if a0 < 0 then (none) else (if a0 < 6 then (pb (f_X4_at (a0) α) fun r3 α4 => pO r3 (none) fun i6 => pg (decide (i6 < 6)) (some ((α4 6 i6), α4))) else (none))
set_option maxHeartbeats 4000000 in
set_option maxRecDepth 100000 in
theorem c_X9_cell (l : Launch) {E : pE} (hE : pInj E) {β : pSt} {a0 : Int32} {α α' : pSt} {r : Int32} (hf : f_X9_cell a0 α = some (r, α')) : pM l E yX9_cell cX9_cell 3 (some .int) 1 [.ref (pL E 0), .int a0] α β (some (.int r)) α' β := by
  refine pM.ofW hE (by decide) ?_ (Nat.le_of_ble_eq_true rfl)
  intro p e s m below meth c ls C hr hlk hP hl
  have C : pCx p s m c cX9_cell 3 E RX9 := C
  have hS : va_S (pA E s.heap.size) s.heap s.heap [] := va_S.rf
  have hx := C.1
  have hb := C.2.1
  have hl : lv_has ls 3 [(0, .ref (pL E 0)), (1, .int a0)] := hl
  unfold f_X9_cell at hf
  refine lv_iload_n hx hb dX9_cell_0 rfl (lv_at hl 1 rfl) ?_
  refine lv_if_lt (tgt := 10) hx hb dX9_cell_1 (by decide) (fun h1 => ?_) (fun h1 => ?_)
  · have hf := pif_t hf h1
    cases hf
  · have hf := pif_f hf h1
    refine lv_iload_n hx hb dX9_cell_4 rfl (lv_at hl 1 rfl) ?_
    refine lv_bipush (v := 6) hx hb dX9_cell_5 (by decide) ?_
    refine lv_icmp_lt (tgt := 20) hx hb dX9_cell_7 (by decide) (fun h2 => ?_) (fun h2 => ?_)
    · have hf := pif_t hf h2
      refine lv_aload_n hx hb dX9_cell_20 rfl (lv_at hl 0 rfl) ?_
      refine g_9_41 C hP dX9_cell_21 ?_
      refine lv_iload_n hx hb dX9_cell_24 rfl (lv_at hl 1 rfl) ?_
      obtain ⟨r3, α4, hc5, hf⟩ := pb2_ok hf
      refine p_callV (n := 1) (As := [.int a0]) (rest := []) C hP hS (wv_9_176 C.2.2.2.2.1 _) (c_X4_at l C.2.2.2.2.2.2  hc5) (e_X4) rfl rfl hd_X4_at rfl ⟨Nat.le_of_ble_eq_true rfl, Nat.le_of_ble_eq_true rfl⟩ hl.1 rfl (Nat.le_of_ble_eq_true rfl) dX9_cell_25 ⟨Nat.zero_le _, Nat.zero_le _⟩ (fun H locs hP hS _ _ => ?_)
      rcases r3 with _ | i6
      · have hf := pO_n hf
        refine W.eq (g2 := F0 m 28 ls [.null]) rfl ?_
        refine lv_astore_nN (lv' := [(2, .null), (0, .ref (pL E 0)), (1, .int a0)]) hx hb dX9_cell_28 rfl hl (by decide) rfl (fun ls hl => ?_)
        refine lv_aload_nN hx hb dX9_cell_29 rfl (lv_at hl 0 rfl) ?_
        refine lv_ifnonnullN hx hb dX9_cell_30 ?_
        cases hf
      · have hf := pO_s hf
        obtain ⟨h7, hf⟩ := pg_ok hf
        refine W.eq (g2 := F0 m 28 ls [.ref (pL E (16 + i6))]) rfl ?_
        refine lv_astore_n (lv' := [(2, .ref (pL E (16 + i6))), (0, .ref (pL E 0)), (1, .int a0)]) hx hb dX9_cell_28 rfl hl (by decide) rfl (fun ls hl => ?_)
        refine lv_aload_n hx hb dX9_cell_29 rfl (lv_at hl 0 rfl) ?_
        refine lv_ifnonnull (tgt := 43) hx hb dX9_cell_30 (by decide) ?_
        refine lv_aload_n hx hb dX9_cell_43 rfl (lv_at hl 0 rfl) ?_
        refine g_9_190 C hP (k := i6) (of_decide_eq_true h7) dX9_cell_44 ?_
        exact p_iret C hr hlk (pe1 hf) (pe2C hf) hP hS dX9_cell_47
    · have hf := pif_f hf h2
      cases hf
def tA_X9_cell (a0 : Int32) (α : pSt) : Option (Unit × pSt) := if a0 < 0 then (some ((), α)) else (if a0 < 6 then (pb (f_X4_at (a0) α) fun r3 α4 => pO r3 (none) fun i6 => pg (decide (i6 < 6)) (none)) else (some ((), α)))
set_option maxHeartbeats 4000000 in
set_option maxRecDepth 100000 in
theorem cA_X9_cell {l : Launch} (hlt : l.stackTraces = false) {E : pE} (hE : pInj E) {β : pSt} {a0 : Int32} {α α' : pSt} {r : Unit} (hf : tA_X9_cell a0 α = some (r, α')) : pX l E yX9_cell cX9_cell 3 (some .int) 7 6 [.ref (pL E 0), .int a0] α β pxA α' β := by
  refine pX.ofW hE (by decide) ?_ (Nat.le_of_ble_eq_true rfl)
  intro p e s m below meth c ls C htab hlk hP hl hZ
  have C : pCx p s m c cX9_cell 3 E RX9 := C
  have hS : va_S (pA E s.heap.size) s.heap s.heap [] := va_S.rf
  have hx := C.1
  have hb := C.2.1
  have hl : lv_has ls 3 [(0, .ref (pL E 0)), (1, .int a0)] := hl
  unfold tA_X9_cell at hf
  refine lv_iload_n hx hb dX9_cell_0 rfl (lv_at hl 1 rfl) ?_
  refine lv_if_lt (tgt := 10) hx hb dX9_cell_1 (by decide) (fun h1 => ?_) (fun h1 => ?_)
  · have hf := pif_t hf h1
    exact p_throwA C hlt hZ htab hlk hP hS hl hZ.2.2.1.2.2.1 (pe2C hf) dX9_cell_10 dX9_cell_13 dX9_cell_14 dX9_cell_16 dX9_cell_19
  · have hf := pif_f hf h1
    refine lv_iload_n hx hb dX9_cell_4 rfl (lv_at hl 1 rfl) ?_
    refine lv_bipush (v := 6) hx hb dX9_cell_5 (by decide) ?_
    refine lv_icmp_lt (tgt := 20) hx hb dX9_cell_7 (by decide) (fun h2 => ?_) (fun h2 => ?_)
    · have hf := pif_t hf h2
      refine lv_aload_n hx hb dX9_cell_20 rfl (lv_at hl 0 rfl) ?_
      refine g_9_41 C hP dX9_cell_21 ?_
      refine lv_iload_n hx hb dX9_cell_24 rfl (lv_at hl 1 rfl) ?_
      obtain ⟨r3, α4, hc5, hf⟩ := pb2_ok hf
      refine p_callV (n := 1) (As := [.int a0]) (rest := []) C hP hS (wv_9_176 C.2.2.2.2.1 _) (c_X4_at l C.2.2.2.2.2.2  hc5) (e_X4) rfl rfl hd_X4_at rfl ⟨Nat.le_of_ble_eq_true rfl, Nat.le_of_ble_eq_true rfl⟩ hl.1 rfl (Nat.le_of_ble_eq_true rfl) dX9_cell_25 ⟨Nat.zero_le _, Nat.zero_le _⟩ (fun H locs hP hS _ _ => ?_)
      rcases r3 with _ | i6
      · have hf := pO_n hf
        refine W.eq (g2 := F0 m 28 ls [.null]) rfl ?_
        refine lv_astore_nN (lv' := [(2, .null), (0, .ref (pL E 0)), (1, .int a0)]) hx hb dX9_cell_28 rfl hl (by decide) rfl (fun ls hl => ?_)
        refine lv_aload_nN hx hb dX9_cell_29 rfl (lv_at hl 0 rfl) ?_
        refine lv_ifnonnullN hx hb dX9_cell_30 ?_
        cases hf
      · have hf := pO_s hf
        obtain ⟨h7, hf⟩ := pg_ok hf
        refine W.eq (g2 := F0 m 28 ls [.ref (pL E (16 + i6))]) rfl ?_
        refine lv_astore_n (lv' := [(2, .ref (pL E (16 + i6))), (0, .ref (pL E 0)), (1, .int a0)]) hx hb dX9_cell_28 rfl hl (by decide) rfl (fun ls hl => ?_)
        refine lv_aload_n hx hb dX9_cell_29 rfl (lv_at hl 0 rfl) ?_
        refine lv_ifnonnull (tgt := 43) hx hb dX9_cell_30 (by decide) ?_
        refine lv_aload_n hx hb dX9_cell_43 rfl (lv_at hl 0 rfl) ?_
        refine g_9_190 C hP (k := i6) (of_decide_eq_true h7) dX9_cell_44 ?_
        cases hf
    · have hf := pif_f hf h2
      exact p_throwA C hlt hZ htab hlk hP hS hl hZ.2.2.1.2.2.1 (pe2C hf) dX9_cell_10 dX9_cell_13 dX9_cell_14 dX9_cell_16 dX9_cell_19
def tN_X9_cell (a0 : Int32) (α : pSt) : Option (Unit × pSt) := if a0 < 0 then (none) else (if a0 < 6 then (pb (f_X4_at (a0) α) fun r3 α4 => pO r3 (some ((), α4)) fun i6 => pg (decide (i6 < 6)) (none)) else (none))
set_option maxHeartbeats 4000000 in
set_option maxRecDepth 100000 in
theorem cN_X9_cell {l : Launch} (hlt : l.stackTraces = false) {E : pE} (hE : pInj E) {β : pSt} {a0 : Int32} {α α' : pSt} {r : Unit} (hf : tN_X9_cell a0 α = some (r, α')) : pX l E yX9_cell cX9_cell 3 (some .int) 7 8 [.ref (pL E 0), .int a0] α β Bundle.nN α' β := by
  refine pX.ofW hE (by decide) ?_ (Nat.le_of_ble_eq_true rfl)
  intro p e s m below meth c ls C htab hlk hP hl hZ
  have C : pCx p s m c cX9_cell 3 E RX9 := C
  have hS : va_S (pA E s.heap.size) s.heap s.heap [] := va_S.rf
  have hx := C.1
  have hb := C.2.1
  have hl : lv_has ls 3 [(0, .ref (pL E 0)), (1, .int a0)] := hl
  unfold tN_X9_cell at hf
  refine lv_iload_n hx hb dX9_cell_0 rfl (lv_at hl 1 rfl) ?_
  refine lv_if_lt (tgt := 10) hx hb dX9_cell_1 (by decide) (fun h1 => ?_) (fun h1 => ?_)
  · have hf := pif_t hf h1
    cases hf
  · have hf := pif_f hf h1
    refine lv_iload_n hx hb dX9_cell_4 rfl (lv_at hl 1 rfl) ?_
    refine lv_bipush (v := 6) hx hb dX9_cell_5 (by decide) ?_
    refine lv_icmp_lt (tgt := 20) hx hb dX9_cell_7 (by decide) (fun h2 => ?_) (fun h2 => ?_)
    · have hf := pif_t hf h2
      refine lv_aload_n hx hb dX9_cell_20 rfl (lv_at hl 0 rfl) ?_
      refine g_9_41 C hP dX9_cell_21 ?_
      refine lv_iload_n hx hb dX9_cell_24 rfl (lv_at hl 1 rfl) ?_
      obtain ⟨r3, α4, hc5, hf⟩ := pb2_ok hf
      refine p_callV (n := 1) (As := [.int a0]) (rest := []) C hP hS (wv_9_176 C.2.2.2.2.1 _) (c_X4_at l C.2.2.2.2.2.2  hc5) (e_X4) rfl rfl hd_X4_at rfl ⟨Nat.le_of_ble_eq_true rfl, Nat.le_of_ble_eq_true rfl⟩ hl.1 rfl (Nat.le_of_ble_eq_true rfl) dX9_cell_25 ⟨Nat.zero_le _, Nat.zero_le _⟩ (fun H locs hP hS _ _ => ?_)
      rcases r3 with _ | i6
      · have hf := pO_n hf
        refine W.eq (g2 := F0 m 28 ls [.null]) rfl ?_
        refine lv_astore_nN (lv' := [(2, .null), (0, .ref (pL E 0)), (1, .int a0)]) hx hb dX9_cell_28 rfl hl (by decide) rfl (fun ls hl => ?_)
        refine lv_aload_nN hx hb dX9_cell_29 rfl (lv_at hl 0 rfl) ?_
        refine lv_ifnonnullN hx hb dX9_cell_30 ?_
        exact p_throwN C hlt hZ htab hlk hP hS hl hZ.2.2.1.2.2.2.1 (pe2C hf) dX9_cell_33 dX9_cell_36 dX9_cell_37 dX9_cell_39 dX9_cell_42
      · have hf := pO_s hf
        obtain ⟨h7, hf⟩ := pg_ok hf
        refine W.eq (g2 := F0 m 28 ls [.ref (pL E (16 + i6))]) rfl ?_
        refine lv_astore_n (lv' := [(2, .ref (pL E (16 + i6))), (0, .ref (pL E 0)), (1, .int a0)]) hx hb dX9_cell_28 rfl hl (by decide) rfl (fun ls hl => ?_)
        refine lv_aload_n hx hb dX9_cell_29 rfl (lv_at hl 0 rfl) ?_
        refine lv_ifnonnull (tgt := 43) hx hb dX9_cell_30 (by decide) ?_
        refine lv_aload_n hx hb dX9_cell_43 rfl (lv_at hl 0 rfl) ?_
        refine g_9_190 C hP (k := i6) (of_decide_eq_true h7) dX9_cell_44 ?_
        cases hf
    · have hf := pif_f hf h2
      cases hf
def f_X9_resource (a0 : Int32) (a1 : Int32) (α : pSt) : Option (Int32 × pSt) := pb (f_X5_at (a0) α) fun r1 α2 => pO r1 (none) fun i4 => pg (decide (i4 < 11)) (pb (f_X6_has (i4) (a1) α2) fun r6 α7 => if r6 = 0 then (none) else (pb (f_X6_at (i4) (a1) α7) fun r10 α11 => some (r10, α11)))
set_option maxHeartbeats 4000000 in
set_option maxRecDepth 100000 in
theorem c_X9_resource (l : Launch) {E : pE} (hE : pInj E) {β : pSt} {a0 : Int32} {a1 : Int32} {α α' : pSt} {r : Int32} (hf : f_X9_resource a0 a1 α = some (r, α')) : pM l E yX9_resource cX9_resource 4 (some .int) 1 [.ref (pL E 0), .int a0, .int a1] α β (some (.int r)) α' β := by
  refine pM.ofW hE (by decide) ?_ (Nat.le_of_ble_eq_true rfl)
  intro p e s m below meth c ls C hr hlk hP hl
  have C : pCx p s m c cX9_resource 4 E RX9 := C
  have hS : va_S (pA E s.heap.size) s.heap s.heap [] := va_S.rf
  have hx := C.1
  have hb := C.2.1
  have hl : lv_has ls 4 [(0, .ref (pL E 0)), (1, .int a0), (2, .int a1)] := hl
  unfold f_X9_resource at hf
  refine lv_aload_n hx hb dX9_resource_0 rfl (lv_at hl 0 rfl) ?_
  refine g_9_56 C hP dX9_resource_1 ?_
  refine lv_iload_n hx hb dX9_resource_4 rfl (lv_at hl 1 rfl) ?_
  obtain ⟨r1, α2, hc3, hf⟩ := pb2_ok hf
  refine p_callV (n := 1) (As := [.int a0]) (rest := []) C hP hS (wv_9_194 C.2.2.2.2.1 _) (c_X5_at l C.2.2.2.2.2.2  hc3) (e_X5) rfl rfl hd_X5_at rfl ⟨Nat.le_of_ble_eq_true rfl, Nat.le_of_ble_eq_true rfl⟩ hl.1 rfl (Nat.le_of_ble_eq_true rfl) dX9_resource_5 ⟨Nat.zero_le _, Nat.zero_le _⟩ (fun H locs hP hS _ _ => ?_)
  rcases r1 with _ | i4
  · have hf := pO_n hf
    refine W.eq (g2 := F0 m 8 ls [.null]) rfl ?_
    refine lv_astore_nN (lv' := [(3, .null), (0, .ref (pL E 0)), (1, .int a0), (2, .int a1)]) hx hb dX9_resource_8 rfl hl (by decide) rfl (fun ls hl => ?_)
    refine lv_aload_nN hx hb dX9_resource_9 rfl (lv_at hl 0 rfl) ?_
    refine lv_ifnonnullN hx hb dX9_resource_10 ?_
    cases hf
  · have hf := pO_s hf
    obtain ⟨h5, hf⟩ := pg_ok hf
    refine W.eq (g2 := F0 m 8 ls [.ref (pL E (22 + i4))]) rfl ?_
    refine lv_astore_n (lv' := [(3, .ref (pL E (22 + i4))), (0, .ref (pL E 0)), (1, .int a0), (2, .int a1)]) hx hb dX9_resource_8 rfl hl (by decide) rfl (fun ls hl => ?_)
    refine lv_aload_n hx hb dX9_resource_9 rfl (lv_at hl 0 rfl) ?_
    refine lv_ifnonnull (tgt := 23) hx hb dX9_resource_10 (by decide) ?_
    refine lv_aload_n hx hb dX9_resource_23 rfl (lv_at hl 0 rfl) ?_
    refine lv_iload_n hx hb dX9_resource_24 rfl (lv_at hl 3 rfl) ?_
    obtain ⟨r6, α7, hc8, hf⟩ := pb2_ok hf
    refine p_callV (n := 1) (As := [.int a1]) (rest := []) C hP hS (wv_9_93 C.2.2.2.2.1 _) (c_X6_has l C.2.2.2.2.2.2 (k := i4) (of_decide_eq_true h5) hc8) (e_X6 (k := i4) (of_decide_eq_true h5)) rfl rfl hd_X6_has rfl ⟨Nat.le_of_ble_eq_true rfl, Nat.le_of_ble_eq_true rfl⟩ hl.1 rfl (Nat.le_of_ble_eq_true rfl) dX9_resource_25 ⟨Nat.zero_le _, Nat.zero_le _⟩ (fun H locs hP hS _ _ => ?_)
    refine W.eq (g2 := F0 m 28 ls [.int r6]) rfl ?_
    refine lv_if_ne (tgt := 41) hx hb dX9_resource_28 (by decide) (fun h9 => ?_) (fun h9 => ?_)
    · have hf := pif_f hf h9
      refine lv_aload_n hx hb dX9_resource_41 rfl (lv_at hl 0 rfl) ?_
      refine lv_iload_n hx hb dX9_resource_42 rfl (lv_at hl 3 rfl) ?_
      obtain ⟨r10, α11, hc12, hf⟩ := pb2_ok hf
      refine p_callV (n := 1) (As := [.int a1]) (rest := []) C hP hS (wv_9_98 C.2.2.2.2.1 _) (c_X6_at l C.2.2.2.2.2.2 (k := i4) (of_decide_eq_true h5) hc12) (e_X6 (k := i4) (of_decide_eq_true h5)) rfl rfl hd_X6_at rfl ⟨Nat.le_of_ble_eq_true rfl, Nat.le_of_ble_eq_true rfl⟩ hl.1 rfl (Nat.le_of_ble_eq_true rfl) dX9_resource_43 ⟨Nat.zero_le _, Nat.zero_le _⟩ (fun H locs hP hS _ _ => ?_)
      refine W.eq (g2 := F0 m 46 ls [.int r10]) rfl ?_
      exact p_iret C hr hlk (pe1 hf) (pe2C hf) hP hS dX9_resource_46
    · have hf := pif_t hf h9
      cases hf
def tA_X9_resource (a0 : Int32) (a1 : Int32) (α : pSt) : Option (Unit × pSt) := pb (f_X5_at (a0) α) fun r1 α2 => pO r1 (some ((), α2)) fun i4 => pg (decide (i4 < 11)) (pb (f_X6_has (i4) (a1) α2) fun r6 α7 => if r6 = 0 then (some ((), α7)) else (pb (f_X6_at (i4) (a1) α7) fun r10 α11 => none))
set_option maxHeartbeats 4000000 in
set_option maxRecDepth 100000 in
theorem cA_X9_resource {l : Launch} (hlt : l.stackTraces = false) {E : pE} (hE : pInj E) {β : pSt} {a0 : Int32} {a1 : Int32} {α α' : pSt} {r : Unit} (hf : tA_X9_resource a0 a1 α = some (r, α')) : pX l E yX9_resource cX9_resource 4 (some .int) 7 6 [.ref (pL E 0), .int a0, .int a1] α β pxA α' β := by
  refine pX.ofW hE (by decide) ?_ (Nat.le_of_ble_eq_true rfl)
  intro p e s m below meth c ls C htab hlk hP hl hZ
  have C : pCx p s m c cX9_resource 4 E RX9 := C
  have hS : va_S (pA E s.heap.size) s.heap s.heap [] := va_S.rf
  have hx := C.1
  have hb := C.2.1
  have hl : lv_has ls 4 [(0, .ref (pL E 0)), (1, .int a0), (2, .int a1)] := hl
  unfold tA_X9_resource at hf
  refine lv_aload_n hx hb dX9_resource_0 rfl (lv_at hl 0 rfl) ?_
  refine g_9_56 C hP dX9_resource_1 ?_
  refine lv_iload_n hx hb dX9_resource_4 rfl (lv_at hl 1 rfl) ?_
  obtain ⟨r1, α2, hc3, hf⟩ := pb2_ok hf
  refine p_callV (n := 1) (As := [.int a0]) (rest := []) C hP hS (wv_9_194 C.2.2.2.2.1 _) (c_X5_at l C.2.2.2.2.2.2  hc3) (e_X5) rfl rfl hd_X5_at rfl ⟨Nat.le_of_ble_eq_true rfl, Nat.le_of_ble_eq_true rfl⟩ hl.1 rfl (Nat.le_of_ble_eq_true rfl) dX9_resource_5 ⟨Nat.zero_le _, Nat.zero_le _⟩ (fun H locs hP hS _ _ => ?_)
  rcases r1 with _ | i4
  · have hf := pO_n hf
    refine W.eq (g2 := F0 m 8 ls [.null]) rfl ?_
    refine lv_astore_nN (lv' := [(3, .null), (0, .ref (pL E 0)), (1, .int a0), (2, .int a1)]) hx hb dX9_resource_8 rfl hl (by decide) rfl (fun ls hl => ?_)
    refine lv_aload_nN hx hb dX9_resource_9 rfl (lv_at hl 0 rfl) ?_
    refine lv_ifnonnullN hx hb dX9_resource_10 ?_
    exact p_throwA C hlt hZ htab hlk hP hS hl hZ.2.2.1.2.2.2.2 (pe2C hf) dX9_resource_13 dX9_resource_16 dX9_resource_17 dX9_resource_19 dX9_resource_22
  · have hf := pO_s hf
    obtain ⟨h5, hf⟩ := pg_ok hf
    refine W.eq (g2 := F0 m 8 ls [.ref (pL E (22 + i4))]) rfl ?_
    refine lv_astore_n (lv' := [(3, .ref (pL E (22 + i4))), (0, .ref (pL E 0)), (1, .int a0), (2, .int a1)]) hx hb dX9_resource_8 rfl hl (by decide) rfl (fun ls hl => ?_)
    refine lv_aload_n hx hb dX9_resource_9 rfl (lv_at hl 0 rfl) ?_
    refine lv_ifnonnull (tgt := 23) hx hb dX9_resource_10 (by decide) ?_
    refine lv_aload_n hx hb dX9_resource_23 rfl (lv_at hl 0 rfl) ?_
    refine lv_iload_n hx hb dX9_resource_24 rfl (lv_at hl 3 rfl) ?_
    obtain ⟨r6, α7, hc8, hf⟩ := pb2_ok hf
    refine p_callV (n := 1) (As := [.int a1]) (rest := []) C hP hS (wv_9_93 C.2.2.2.2.1 _) (c_X6_has l C.2.2.2.2.2.2 (k := i4) (of_decide_eq_true h5) hc8) (e_X6 (k := i4) (of_decide_eq_true h5)) rfl rfl hd_X6_has rfl ⟨Nat.le_of_ble_eq_true rfl, Nat.le_of_ble_eq_true rfl⟩ hl.1 rfl (Nat.le_of_ble_eq_true rfl) dX9_resource_25 ⟨Nat.zero_le _, Nat.zero_le _⟩ (fun H locs hP hS _ _ => ?_)
    refine W.eq (g2 := F0 m 28 ls [.int r6]) rfl ?_
    refine lv_if_ne (tgt := 41) hx hb dX9_resource_28 (by decide) (fun h9 => ?_) (fun h9 => ?_)
    · have hf := pif_f hf h9
      refine lv_aload_n hx hb dX9_resource_41 rfl (lv_at hl 0 rfl) ?_
      refine lv_iload_n hx hb dX9_resource_42 rfl (lv_at hl 3 rfl) ?_
      obtain ⟨r10, α11, hc12, hf⟩ := pb2_ok hf
      refine p_callV (n := 1) (As := [.int a1]) (rest := []) C hP hS (wv_9_98 C.2.2.2.2.1 _) (c_X6_at l C.2.2.2.2.2.2 (k := i4) (of_decide_eq_true h5) hc12) (e_X6 (k := i4) (of_decide_eq_true h5)) rfl rfl hd_X6_at rfl ⟨Nat.le_of_ble_eq_true rfl, Nat.le_of_ble_eq_true rfl⟩ hl.1 rfl (Nat.le_of_ble_eq_true rfl) dX9_resource_43 ⟨Nat.zero_le _, Nat.zero_le _⟩ (fun H locs hP hS _ _ => ?_)
      refine W.eq (g2 := F0 m 46 ls [.int r10]) rfl ?_
      cases hf
    · have hf := pif_t hf h9
      exact p_throwA C hlt hZ htab hlk hP hS hl hZ.2.2.1.2.1 (pe2C hf) dX9_resource_31 dX9_resource_34 dX9_resource_35 dX9_resource_37 dX9_resource_40
