set_option maxHeartbeats 4000000 in
set_option maxRecDepth 100000 in
theorem c_X9_lay (l : Launch) {E : pE} (hE : pInj E) {β : pSt} {a0 : Int32} {α α' : pSt} {r : Int32} (hf : f_X9_lay a0 α = some (r, α')) : pM l E yX9_lay cX9_lay 3 (some .int) 2 [.ref (pL E 0), .int a0] α β (some (.int r)) α' β := by
  refine pM.ofW hE (by decide) ?_ (Nat.le_of_ble_eq_true rfl)
  intro p e s m below meth c ls C hr hlk hP hl
  have C : pCx p s m c cX9_lay 3 E RX9 := C
  have hS : va_S (pA E s.heap.size) s.heap s.heap [] := va_S.rf
  have hx := C.1
  have hb := C.2.1
  have hl : lv_has ls 3 [(0, .ref (pL E 0)), (1, .int a0)] := hl
  unfold f_X9_lay at hf
  refine lv_aload_n hx hb dX9_lay_0 rfl (lv_at hl 0 rfl) ?_
  refine lv_iload_n hx hb dX9_lay_1 rfl (lv_at hl 1 rfl) ?_
  obtain ⟨r1, α2, hc3, hf⟩ := pb2_ok hf
  refine p_callV (n := 1) (As := [.int a0]) (rest := []) C hP hS (wv_9_68 C.2.2.2.2.1 _) (c_X9_fileAt l C.2.2.2.2.2.2  hc3) (e_X9) rfl rfl hd_X9_fileAt rfl ⟨Nat.le_of_ble_eq_true rfl, Nat.le_of_ble_eq_true rfl⟩ hl.1 rfl (Nat.le_of_ble_eq_true rfl) dX9_lay_2 ⟨Nat.zero_le _, Nat.zero_le _⟩ (fun H locs hP hS _ _ => ?_)
  rcases r1 with _ | i4
  · have hf := pO_n hf
    refine W.eq (g2 := F0 m 5 ls [.null]) rfl ?_
    refine lv_astore_nN (lv' := [(2, .null), (0, .ref (pL E 0)), (1, .int a0)]) hx hb dX9_lay_5 rfl hl (by decide) rfl (fun ls hl => ?_)
    refine lv_aload_nN hx hb dX9_lay_6 rfl (lv_at hl 0 rfl) ?_
    refine lv_ifnonnullN hx hb dX9_lay_7 ?_
    refine lv_bipush (v := (-101)) hx hb dX9_lay_10 (by decide) ?_
    exact p_iret C hr hlk (pe1 hf) (pe2C hf) hP hS dX9_lay_12
  · have hf := pO_s hf
    obtain ⟨h5, hf⟩ := pg_ok hf
    refine W.eq (g2 := F0 m 5 ls [.ref (pL E (10 + i4))]) rfl ?_
    refine lv_astore_n (lv' := [(2, .ref (pL E (10 + i4))), (0, .ref (pL E 0)), (1, .int a0)]) hx hb dX9_lay_5 rfl hl (by decide) rfl (fun ls hl => ?_)
    refine lv_aload_n hx hb dX9_lay_6 rfl (lv_at hl 0 rfl) ?_
    refine lv_ifnonnull (tgt := 13) hx hb dX9_lay_7 (by decide) ?_
    refine lv_aload_n hx hb dX9_lay_13 rfl (lv_at hl 0 rfl) ?_
    refine g_9_72 C hP (k := i4) (of_decide_eq_true h5) dX9_lay_14 ?_
    refine lv_aload_n hx hb dX9_lay_17 rfl (lv_at hl 1 rfl) ?_
    refine g_9_14 C hP dX9_lay_18 ?_
    obtain ⟨r6, α7, hc8, hf⟩ := pb2_ok hf
    refine p_callV (n := 1) (As := [.ref (pL E (22 + 0))]) (rest := []) C hP hS (wv_9_75 C.2.2.2.2.1 _) (c_X6_become l C.2.2.2.2.2.2 (k := (1 + i4)) (pr1 (of_decide_eq_true h5)) (q0 := 0) (by decide) hc8) (e_X6 (k := (1 + i4)) (pr1 (of_decide_eq_true h5))) rfl rfl hd_X6_become rfl ⟨Nat.le_of_ble_eq_true rfl, Nat.le_of_ble_eq_true rfl⟩ hl.1 rfl (Nat.le_of_ble_eq_true rfl) dX9_lay_21 ⟨Nat.zero_le _, Nat.zero_le _⟩ (fun H locs hP hS _ _ => ?_)
    refine W.eq (g2 := F0 m 24 ls []) rfl ?_
    refine lv_aload_n hx hb dX9_lay_24 rfl (lv_at hl 0 rfl) ?_
    refine lv_iconst (v := 0) hx hb dX9_lay_25 (by decide) ?_
    obtain ⟨r9, α10, hc11, hf⟩ := pb2_ok hf
    refine p_callV (n := 1) (As := [.int 0]) (rest := []) C hP hS (wv_9_79 C.2.2.2.2.1 _) (c_X2_startBecomes l C.2.2.2.2.2.2 (k := i4) (of_decide_eq_true h5) hc11) (e_X2 (k := i4) (of_decide_eq_true h5)) rfl rfl hd_X2_startBecomes rfl ⟨Nat.le_of_ble_eq_true rfl, Nat.le_of_ble_eq_true rfl⟩ hl.1 rfl (Nat.le_of_ble_eq_true rfl) dX9_lay_26 ⟨Nat.zero_le _, Nat.zero_le _⟩ (fun H locs hP hS _ _ => ?_)
    refine W.eq (g2 := F0 m 29 ls []) rfl ?_
    refine lv_aload_n hx hb dX9_lay_29 rfl (lv_at hl 1 rfl) ?_
    refine g_9_14 C hP dX9_lay_30 ?_
    obtain ⟨r12, α13, hc14, hf⟩ := pb2_ok hf
    refine p_callV (n := 0) (As := []) (rest := []) C hP hS (wv_9_83 C.2.2.2.2.1 _) (c_X6_empty l C.2.2.2.2.2.2 (k := 0) (by decide) hc14) (e_X6 (k := 0) (by decide)) rfl rfl hd_X6_empty rfl ⟨Nat.le_of_ble_eq_true rfl, Nat.le_of_ble_eq_true rfl⟩ hl.1 rfl (Nat.le_of_ble_eq_true rfl) dX9_lay_33 ⟨Nat.zero_le _, Nat.zero_le _⟩ (fun H locs hP hS _ _ => ?_)
    refine W.eq (g2 := F0 m 36 ls []) rfl ?_
    refine lv_aload_n hx hb dX9_lay_36 rfl (lv_at hl 0 rfl) ?_
    refine g_9_72 C hP (k := i4) (of_decide_eq_true h5) dX9_lay_37 ?_
    obtain ⟨r15, α16, hc17, hf⟩ := pb2_ok hf
    refine p_callV (n := 0) (As := []) (rest := []) C hP hS (wv_9_65 C.2.2.2.2.1 _) (c_X6_size l C.2.2.2.2.2.2 (k := (1 + i4)) (pr1 (of_decide_eq_true h5)) hc17) (e_X6 (k := (1 + i4)) (pr1 (of_decide_eq_true h5))) rfl rfl hd_X6_size rfl ⟨Nat.le_of_ble_eq_true rfl, Nat.le_of_ble_eq_true rfl⟩ hl.1 rfl (Nat.le_of_ble_eq_true rfl) dX9_lay_40 ⟨Nat.zero_le _, Nat.zero_le _⟩ (fun H locs hP hS _ _ => ?_)
    refine W.eq (g2 := F0 m 43 ls [.int r15]) rfl ?_
    exact p_iret C hr hlk (pe1 hf) (pe2C hf) hP hS dX9_lay_43
set_option maxHeartbeats 4000000 in
set_option maxRecDepth 100000 in
theorem c_X9_anew (l : Launch) {E : pE} (hE : pInj E) {β : pSt}  {α α' : pSt} {r : Int32} (hf : f_X9_anew  α = some (r, α')) : pM l E yX9_anew cX9_anew 2 (some .int) 2 [.ref (pL E 0)] α β (some (.int r)) α' β := by
  refine pM.ofW hE (by decide) ?_ (Nat.le_of_ble_eq_true rfl)
  intro p e s m below meth c ls C hr hlk hP hl
  have C : pCx p s m c cX9_anew 2 E RX9 := C
  have hS : va_S (pA E s.heap.size) s.heap s.heap [] := va_S.rf
  have hx := C.1
  have hb := C.2.1
  have hl : lv_has ls 2 [(0, .ref (pL E 0))] := hl
  unfold f_X9_anew at hf
  refine lv_aload_n hx hb dX9_anew_0 rfl (lv_at hl 0 rfl) ?_
  refine g_9_46 C hP dX9_anew_1 ?_
  obtain ⟨r1, α2, hc3, hf⟩ := pb2_ok hf
  refine p_callV (n := 0) (As := []) (rest := []) C hP hS (wv_9_153 C.2.2.2.2.1 _) (c_X8_size l C.2.2.2.2.2.2  hc3) (e_X8) rfl rfl hd_X8_size rfl ⟨Nat.le_of_ble_eq_true rfl, Nat.le_of_ble_eq_true rfl⟩ hl.1 rfl (Nat.le_of_ble_eq_true rfl) dX9_anew_4 ⟨Nat.zero_le _, Nat.zero_le _⟩ (fun H locs hP hS _ _ => ?_)
  refine W.eq (g2 := F0 m 7 ls [.int r1]) rfl ?_
  refine lv_aload_n hx hb dX9_anew_7 rfl (lv_at hl 0 rfl) ?_
  refine g_9_46 C hP dX9_anew_8 ?_
  obtain ⟨r4, α5, hc6, hf⟩ := pb2_ok hf
  refine p_callV (n := 0) (As := []) (rest := [.int r1]) C hP hS (wv_9_154 C.2.2.2.2.1 _) (c_X8_countNew l C.2.2.2.2.2.2  hc6) (e_X8) rfl rfl hd_X8_countNew rfl ⟨Nat.le_of_ble_eq_true rfl, Nat.le_of_ble_eq_true rfl⟩ hl.1 rfl (Nat.le_of_ble_eq_true rfl) dX9_anew_11 ⟨Nat.zero_le _, Nat.zero_le _⟩ (fun H locs hP hS _ _ => ?_)
  refine W.eq (g2 := F0 m 14 ls [.int r4, .int r1]) rfl ?_
  refine lv_isub hx hb dX9_anew_14 ?_
  refine lv_istore_n (lv' := [(1, .int (r1 - r4)), (0, .ref (pL E 0))]) hx hb dX9_anew_15 rfl hl (by decide) rfl (fun ls hl => ?_)
  refine lv_aload_n hx hb dX9_anew_16 rfl (lv_at hl 1 rfl) ?_
  refine g_9_46 C hP dX9_anew_17 ?_
  obtain ⟨r7, α8, hc9, hf⟩ := pb2_ok hf
  refine p_callV (n := 0) (As := []) (rest := []) C hP hS (wv_9_157 C.2.2.2.2.1 _) (c_X8_makeAllNew l C.2.2.2.2.2.2  hc9) (e_X8) rfl rfl hd_X8_makeAllNew rfl ⟨Nat.le_of_ble_eq_true rfl, Nat.le_of_ble_eq_true rfl⟩ hl.1 rfl (Nat.le_of_ble_eq_true rfl) dX9_anew_20 ⟨Nat.zero_le _, Nat.zero_le _⟩ (fun H locs hP hS _ _ => ?_)
  refine W.eq (g2 := F0 m 23 ls []) rfl ?_
  refine lv_iload_n hx hb dX9_anew_23 rfl (lv_at hl 0 rfl) ?_
  exact p_iret C hr hlk (pe1 hf) (pe2C hf) hP hS dX9_anew_24
set_option maxHeartbeats 4000000 in
set_option maxRecDepth 100000 in
theorem c_X9_mirror (l : Launch) {E : pE} (hE : pInj E) {β : pSt} {a0 : Int32} {a1 : Int32} {α α' : pSt} {r : Int32} (hf : f_X9_mirror a0 a1 α = some (r, α')) : pM l E yX9_mirror cX9_mirror 3 (some .int) 2 [.ref (pL E 0), .int a0, .int a1] α β (some (.int r)) α' β := by
  refine pM.ofW hE (by decide) ?_ (Nat.le_of_ble_eq_true rfl)
  intro p e s m below meth c ls C hr hlk hP hl
  have C : pCx p s m c cX9_mirror 3 E RX9 := C
  have hS : va_S (pA E s.heap.size) s.heap s.heap [] := va_S.rf
  have hx := C.1
  have hb := C.2.1
  have hl : lv_has ls 3 [(0, .ref (pL E 0)), (1, .int a0), (2, .int a1)] := hl
  unfold f_X9_mirror at hf
  refine lv_aload_n hx hb dX9_mirror_0 rfl (lv_at hl 0 rfl) ?_
  refine g_9_46 C hP dX9_mirror_1 ?_
  refine lv_iload_n hx hb dX9_mirror_4 rfl (lv_at hl 1 rfl) ?_
  obtain ⟨r1, α2, hc3, hf⟩ := pb2_ok hf
  refine p_callV (n := 1) (As := [.int a0]) (rest := []) C hP hS (wv_9_146 C.2.2.2.2.1 _) (c_X8_has l C.2.2.2.2.2.2  hc3) (e_X8) rfl rfl hd_X8_has rfl ⟨Nat.le_of_ble_eq_true rfl, Nat.le_of_ble_eq_true rfl⟩ hl.1 rfl (Nat.le_of_ble_eq_true rfl) dX9_mirror_5 ⟨Nat.zero_le _, Nat.zero_le _⟩ (fun H locs hP hS _ _ => ?_)
  refine W.eq (g2 := F0 m 8 ls [.int r1]) rfl ?_
  refine lv_if_ne (tgt := 14) hx hb dX9_mirror_8 (by decide) (fun h4 => ?_) (fun h4 => ?_)
  · have hf := pif_f hf h4
    refine lv_iload_n hx hb dX9_mirror_14 rfl (lv_at hl 2 rfl) ?_
    refine lv_if_lt (tgt := 23) hx hb dX9_mirror_15 (by decide) (fun h5 => ?_) (fun h5 => ?_)
    · have hf := pif_t hf h5
      refine lv_bipush (v := (-102)) hx hb dX9_mirror_23 (by decide) ?_
      exact p_iret C hr hlk (pe1 hf) (pe2C hf) hP hS dX9_mirror_25
    · have hf := pif_f hf h5
      refine lv_iload_n hx hb dX9_mirror_18 rfl (lv_at hl 2 rfl) ?_
      refine lv_iconst (v := 5) hx hb dX9_mirror_19 (by decide) ?_
      refine lv_icmp_lt (tgt := 26) hx hb dX9_mirror_20 (by decide) (fun h6 => ?_) (fun h6 => ?_)
      · have hf := pif_t hf h6
        refine lv_aload_n hx hb dX9_mirror_26 rfl (lv_at hl 0 rfl) ?_
        refine g_9_46 C hP dX9_mirror_27 ?_
        refine lv_iload_n hx hb dX9_mirror_30 rfl (lv_at hl 1 rfl) ?_
        refine lv_iload_n hx hb dX9_mirror_31 rfl (lv_at hl 2 rfl) ?_
        obtain ⟨r7, α8, hc9, hf⟩ := pb2_ok hf
        refine p_callV (n := 2) (As := [.int a0, .int a1]) (rest := []) C hP hS (wv_9_168 C.2.2.2.2.1 _) (c_X8_aspect l C.2.2.2.2.2.2  hc9) (e_X8) rfl rfl hd_X8_aspect rfl ⟨Nat.le_of_ble_eq_true rfl, Nat.le_of_ble_eq_true rfl⟩ hl.1 rfl (Nat.le_of_ble_eq_true rfl) dX9_mirror_32 ⟨Nat.zero_le _, Nat.zero_le _⟩ (fun H locs hP hS _ _ => ?_)
        refine W.eq (g2 := F0 m 35 ls [.int r7]) rfl ?_
        exact p_iret C hr hlk (pe1 hf) (pe2C hf) hP hS dX9_mirror_35
      · have hf := pif_f hf h6
        refine lv_bipush (v := (-102)) hx hb dX9_mirror_23 (by decide) ?_
        exact p_iret C hr hlk (pe1 hf) (pe2C hf) hP hS dX9_mirror_25
  · have hf := pif_t hf h4
    refine lv_bipush (v := (-101)) hx hb dX9_mirror_11 (by decide) ?_
    exact p_iret C hr hlk (pe1 hf) (pe2C hf) hP hS dX9_mirror_13
set_option maxHeartbeats 4000000 in
set_option maxRecDepth 100000 in
theorem c_X9_told (l : Launch) {E : pE} (hE : pInj E) {β : pSt} {a0 : Int32} {a1 : Int32} {α α' : pSt} {r : Int32} (hf : f_X9_told a0 a1 α = some (r, α')) : pM l E yX9_told cX9_told 4 (some .int) 2 [.ref (pL E 0), .int a0, .int a1] α β (some (.int r)) α' β := by
  refine pM.ofW hE (by decide) ?_ (Nat.le_of_ble_eq_true rfl)
  intro p e s m below meth c ls C hr hlk hP hl
  have C : pCx p s m c cX9_told 4 E RX9 := C
  have hS : va_S (pA E s.heap.size) s.heap s.heap [] := va_S.rf
  have hx := C.1
  have hb := C.2.1
  have hl : lv_has ls 4 [(0, .ref (pL E 0)), (1, .int a0), (2, .int a1)] := hl
  unfold f_X9_told at hf
  refine lv_aload_n hx hb dX9_told_0 rfl (lv_at hl 0 rfl) ?_
  refine g_9_41 C hP dX9_told_1 ?_
  refine lv_iload_n hx hb dX9_told_4 rfl (lv_at hl 1 rfl) ?_
  obtain ⟨r1, α2, hc3, hf⟩ := pb2_ok hf
  refine p_callV (n := 1) (As := [.int a0]) (rest := []) C hP hS (wv_9_176 C.2.2.2.2.1 _) (c_X4_at l C.2.2.2.2.2.2  hc3) (e_X4) rfl rfl hd_X4_at rfl ⟨Nat.le_of_ble_eq_true rfl, Nat.le_of_ble_eq_true rfl⟩ hl.1 rfl (Nat.le_of_ble_eq_true rfl) dX9_told_5 ⟨Nat.zero_le _, Nat.zero_le _⟩ (fun H locs hP hS _ _ => ?_)
  rcases r1 with _ | i4
  · have hf := pO_n hf
    refine W.eq (g2 := F0 m 8 ls [.null]) rfl ?_
    refine lv_astore_nN (lv' := [(3, .null), (0, .ref (pL E 0)), (1, .int a0), (2, .int a1)]) hx hb dX9_told_8 rfl hl (by decide) rfl (fun ls hl => ?_)
    refine lv_aload_nN hx hb dX9_told_9 rfl (lv_at hl 0 rfl) ?_
    refine lv_ifnonnullN hx hb dX9_told_10 ?_
    refine lv_bipush (v := (-101)) hx hb dX9_told_13 (by decide) ?_
    exact p_iret C hr hlk (pe1 hf) (pe2C hf) hP hS dX9_told_15
  · have hf := pO_s hf
    obtain ⟨h5, hf⟩ := pg_ok hf
    refine W.eq (g2 := F0 m 8 ls [.ref (pL E (16 + i4))]) rfl ?_
    refine lv_astore_n (lv' := [(3, .ref (pL E (16 + i4))), (0, .ref (pL E 0)), (1, .int a0), (2, .int a1)]) hx hb dX9_told_8 rfl hl (by decide) rfl (fun ls hl => ?_)
    refine lv_aload_n hx hb dX9_told_9 rfl (lv_at hl 0 rfl) ?_
    refine lv_ifnonnull (tgt := 16) hx hb dX9_told_10 (by decide) ?_
    refine lv_iload_n hx hb dX9_told_16 rfl (lv_at hl 3 rfl) ?_
    refine lv_if_lt (tgt := 25) hx hb dX9_told_17 (by decide) (fun h6 => ?_) (fun h6 => ?_)
    · have hf := pif_t hf h6
      refine lv_bipush (v := (-102)) hx hb dX9_told_25 (by decide) ?_
      exact p_iret C hr hlk (pe1 hf) (pe2C hf) hP hS dX9_told_27
    · have hf := pif_f hf h6
      refine lv_iload_n hx hb dX9_told_20 rfl (lv_at hl 3 rfl) ?_
      refine lv_iconst (v := 4) hx hb dX9_told_21 (by decide) ?_
      refine lv_icmp_lt (tgt := 28) hx hb dX9_told_22 (by decide) (fun h7 => ?_) (fun h7 => ?_)
      · have hf := pif_t hf h7
        refine lv_aload_n hx hb dX9_told_28 rfl (lv_at hl 0 rfl) ?_
        refine lv_iload_n hx hb dX9_told_29 rfl (lv_at hl 3 rfl) ?_
        obtain ⟨r8, α9, hc10, hf⟩ := pb2_ok hf
        refine p_callV (n := 1) (As := [.int a1]) (rest := []) C hP hS (wv_9_179 C.2.2.2.2.1 _) (c_X3_aspect l C.2.2.2.2.2.2 (k := i4) (of_decide_eq_true h5) hc10) (e_X3 (k := i4) (of_decide_eq_true h5)) rfl rfl hd_X3_aspect rfl ⟨Nat.le_of_ble_eq_true rfl, Nat.le_of_ble_eq_true rfl⟩ hl.1 rfl (Nat.le_of_ble_eq_true rfl) dX9_told_30 ⟨Nat.zero_le _, Nat.zero_le _⟩ (fun H locs hP hS _ _ => ?_)
        refine W.eq (g2 := F0 m 33 ls [.int r8]) rfl ?_
        exact p_iret C hr hlk (pe1 hf) (pe2C hf) hP hS dX9_told_33
      · have hf := pif_f hf h7
        refine lv_bipush (v := (-102)) hx hb dX9_told_25 (by decide) ?_
        exact p_iret C hr hlk (pe1 hf) (pe2C hf) hP hS dX9_told_27
set_option maxHeartbeats 4000000 in
set_option maxRecDepth 100000 in
theorem c_X9_about (l : Launch) {E : pE} (hE : pInj E) {β : pSt} {a0 : Int32} {α α' : pSt} {r : Int32} (hf : f_X9_about a0 α = some (r, α')) : pM l E yX9_about cX9_about 2 (some .int) 2 [.ref (pL E 0), .int a0] α β (some (.int r)) α' β := by
  refine pM.ofW hE (by decide) ?_ (Nat.le_of_ble_eq_true rfl)
  intro p e s m below meth c ls C hr hlk hP hl
  have C : pCx p s m c cX9_about 2 E RX9 := C
  have hS : va_S (pA E s.heap.size) s.heap s.heap [] := va_S.rf
  have hx := C.1
  have hb := C.2.1
  have hl : lv_has ls 2 [(0, .ref (pL E 0)), (1, .int a0)] := hl
  unfold f_X9_about at hf
  refine lv_iload_n hx hb dX9_about_0 rfl (lv_at hl 1 rfl) ?_
  by_cases h1 : a0 = 0
  · have hf := pif_t hf h1
    refine lv_tableIn (tgt := 44) (off := 43) hx hb dX9_about_1 (by rw [h1]; decide) (by rw [h1]; decide) (by rw [h1]; decide) (by decide) ?_
    refine lv_aload_n hx hb dX9_about_44 rfl (lv_at hl 0 rfl) ?_
    refine g_9_46 C hP dX9_about_45 ?_
    obtain ⟨r2, α3, hc4, hf⟩ := pb2_ok hf
    refine p_callV (n := 0) (As := []) (rest := []) C hP hS (wv_9_153 C.2.2.2.2.1 _) (c_X8_size l C.2.2.2.2.2.2  hc4) (e_X8) rfl rfl hd_X8_size rfl ⟨Nat.le_of_ble_eq_true rfl, Nat.le_of_ble_eq_true rfl⟩ hl.1 rfl (Nat.le_of_ble_eq_true rfl) dX9_about_48 ⟨Nat.zero_le _, Nat.zero_le _⟩ (fun H locs hP hS _ _ => ?_)
    refine W.eq (g2 := F0 m 51 ls [.int r2]) rfl ?_
    exact p_iret C hr hlk (pe1 hf) (pe2C hf) hP hS dX9_about_51
  · have hf := pif_f hf h1
    by_cases h5 : a0 = 1
    · have hf := pif_t hf h5
      refine lv_tableIn (tgt := 52) (off := 51) hx hb dX9_about_1 (by rw [h5]; decide) (by rw [h5]; decide) (by rw [h5]; decide) (by decide) ?_
      refine lv_aload_n hx hb dX9_about_52 rfl (lv_at hl 0 rfl) ?_
      refine g_9_41 C hP dX9_about_53 ?_
      obtain ⟨r6, α7, hc8, hf⟩ := pb2_ok hf
      refine p_callV (n := 0) (As := []) (rest := []) C hP hS (wv_9_201 C.2.2.2.2.1 _) (c_X4_size l C.2.2.2.2.2.2  hc8) (e_X4) rfl rfl hd_X4_size rfl ⟨Nat.le_of_ble_eq_true rfl, Nat.le_of_ble_eq_true rfl⟩ hl.1 rfl (Nat.le_of_ble_eq_true rfl) dX9_about_56 ⟨Nat.zero_le _, Nat.zero_le _⟩ (fun H locs hP hS _ _ => ?_)
      refine W.eq (g2 := F0 m 59 ls [.int r6]) rfl ?_
      exact p_iret C hr hlk (pe1 hf) (pe2C hf) hP hS dX9_about_59
    · have hf := pif_f hf h5
      by_cases h9 : a0 = 2
      · have hf := pif_t hf h9
        refine lv_tableIn (tgt := 60) (off := 59) hx hb dX9_about_1 (by rw [h9]; decide) (by rw [h9]; decide) (by rw [h9]; decide) (by decide) ?_
        refine lv_aload_n hx hb dX9_about_60 rfl (lv_at hl 0 rfl) ?_
        refine g_9_51 C hP dX9_about_61 ?_
        obtain ⟨r10, α11, hc12, hf⟩ := pb2_ok hf
        refine p_callV (n := 0) (As := []) (rest := []) C hP hS (wv_9_202 C.2.2.2.2.1 _) (c_X1_size l C.2.2.2.2.2.2  hc12) (e_X1) rfl rfl hd_X1_size rfl ⟨Nat.le_of_ble_eq_true rfl, Nat.le_of_ble_eq_true rfl⟩ hl.1 rfl (Nat.le_of_ble_eq_true rfl) dX9_about_64 ⟨Nat.zero_le _, Nat.zero_le _⟩ (fun H locs hP hS _ _ => ?_)
        refine W.eq (g2 := F0 m 67 ls [.int r10]) rfl ?_
        exact p_iret C hr hlk (pe1 hf) (pe2C hf) hP hS dX9_about_67
      · have hf := pif_f hf h9
        by_cases h13 : a0 = 3
        · have hf := pif_t hf h13
          refine lv_tableIn (tgt := 68) (off := 67) hx hb dX9_about_1 (by rw [h13]; decide) (by rw [h13]; decide) (by rw [h13]; decide) (by decide) ?_
          refine lv_aload_n hx hb dX9_about_68 rfl (lv_at hl 0 rfl) ?_
          refine g_9_46 C hP dX9_about_69 ?_
          obtain ⟨r14, α15, hc16, hf⟩ := pb2_ok hf
          refine p_callV (n := 0) (As := []) (rest := []) C hP hS (wv_9_154 C.2.2.2.2.1 _) (c_X8_countNew l C.2.2.2.2.2.2  hc16) (e_X8) rfl rfl hd_X8_countNew rfl ⟨Nat.le_of_ble_eq_true rfl, Nat.le_of_ble_eq_true rfl⟩ hl.1 rfl (Nat.le_of_ble_eq_true rfl) dX9_about_72 ⟨Nat.zero_le _, Nat.zero_le _⟩ (fun H locs hP hS _ _ => ?_)
          refine W.eq (g2 := F0 m 75 ls [.int r14]) rfl ?_
          exact p_iret C hr hlk (pe1 hf) (pe2C hf) hP hS dX9_about_75
        · have hf := pif_f hf h13
          by_cases h17 : a0 = 4
          · have hf := pif_t hf h17
            refine lv_tableIn (tgt := 76) (off := 75) hx hb dX9_about_1 (by rw [h17]; decide) (by rw [h17]; decide) (by rw [h17]; decide) (by decide) ?_
            refine lv_aload_n hx hb dX9_about_76 rfl (lv_at hl 0 rfl) ?_
            refine g_9_28 C hP dX9_about_77 ?_
            refine g_9_203 C hP dX9_about_80 ?_
            exact p_iret C hr hlk (pe1 hf) (pe2C hf) hP hS dX9_about_83
          · have hf := pif_f hf h17
            by_cases h18 : a0 = 5
            · have hf := pif_t hf h18
              refine lv_tableIn (tgt := 84) (off := 83) hx hb dX9_about_1 (by rw [h18]; decide) (by rw [h18]; decide) (by rw [h18]; decide) (by decide) ?_
              refine lv_aload_n hx hb dX9_about_84 rfl (lv_at hl 0 rfl) ?_
              refine g_9_28 C hP dX9_about_85 ?_
              refine g_9_206 C hP dX9_about_88 ?_
              exact p_iret C hr hlk (pe1 hf) (pe2C hf) hP hS dX9_about_91
            · have hf := pif_f hf h18
              by_cases h19 : a0 = 6
              · have hf := pif_t hf h19
                refine lv_tableIn (tgt := 92) (off := 91) hx hb dX9_about_1 (by rw [h19]; decide) (by rw [h19]; decide) (by rw [h19]; decide) (by decide) ?_
                refine lv_aload_n hx hb dX9_about_92 rfl (lv_at hl 0 rfl) ?_
                refine g_9_28 C hP dX9_about_93 ?_
                refine g_9_209 C hP dX9_about_96 ?_
                exact p_iret C hr hlk (pe1 hf) (pe2C hf) hP hS dX9_about_99
              · have hf := pif_f hf h19
                refine lv_tableOut (tgt := 100) hx hb dX9_about_1 (by have z0 := lv_neT (a := 0) h1 rfl; have z1 := lv_neT (a := 1) h5 rfl; have z2 := lv_neT (a := 2) h9 rfl; have z3 := lv_neT (a := 3) h13 rfl; have z4 := lv_neT (a := 4) h17 rfl; have z5 := lv_neT (a := 5) h18 rfl; have z6 := lv_neT (a := 6) h19 rfl; omega) (by decide) ?_
                refine lv_aload_n hx hb dX9_about_100 rfl (lv_at hl 0 rfl) ?_
                refine lv_iload_n hx hb dX9_about_101 rfl (lv_at hl 1 rfl) ?_
                refine lv_bipush (v := 10) hx hb dX9_about_102 (by decide) ?_
                refine lv_isub hx hb dX9_about_104 ?_
                obtain ⟨r20, α21, hc22, hf⟩ := pb2_ok hf
                refine p_callV (n := 1) (As := [.int (a0 - 10)]) (rest := []) C hP hS (wv_9_212 C.2.2.2.2.1 _) (c_X9_bytesOfResource l C.2.2.2.2.2.2  hc22) (e_X9) rfl rfl hd_X9_bytesOfResource rfl ⟨Nat.le_of_ble_eq_true rfl, Nat.le_of_ble_eq_true rfl⟩ hl.1 rfl (Nat.le_of_ble_eq_true rfl) dX9_about_105 ⟨Nat.zero_le _, Nat.zero_le _⟩ (fun H locs hP hS _ _ => ?_)
                refine W.eq (g2 := F0 m 108 ls [.int r20]) rfl ?_
                exact p_iret C hr hlk (pe1 hf) (pe2C hf) hP hS dX9_about_108
set_option maxHeartbeats 4000000 in
set_option maxRecDepth 100000 in
theorem c_X9_clear (l : Launch) {E : pE} (hE : pInj E) {β : pSt}  {α α' : pSt} {r : Int32} (hf : f_X9_clear  α = some (r, α')) : pM l E yX9_clear cX9_clear 2 (some .int) 2 [.ref (pL E 0)] α β (some (.int r)) α' β := by
  refine pM.ofW hE (by decide) ?_ (Nat.le_of_ble_eq_true rfl)
  intro p e s m below meth c ls C hr hlk hP hl
  have C : pCx p s m c cX9_clear 2 E RX9 := C
  have hS : va_S (pA E s.heap.size) s.heap s.heap [] := va_S.rf
  have hx := C.1
  have hb := C.2.1
  have hl : lv_has ls 2 [(0, .ref (pL E 0))] := hl
  unfold f_X9_clear at hf
  refine lv_aload_n hx hb dX9_clear_0 rfl (lv_at hl 0 rfl) ?_
  refine g_9_46 C hP dX9_clear_1 ?_
  obtain ⟨r1, α2, hc3, hf⟩ := pb2_ok hf
  refine p_callV (n := 0) (As := []) (rest := []) C hP hS (wv_9_153 C.2.2.2.2.1 _) (c_X8_size l C.2.2.2.2.2.2  hc3) (e_X8) rfl rfl hd_X8_size rfl ⟨Nat.le_of_ble_eq_true rfl, Nat.le_of_ble_eq_true rfl⟩ hl.1 rfl (Nat.le_of_ble_eq_true rfl) dX9_clear_4 ⟨Nat.zero_le _, Nat.zero_le _⟩ (fun H locs hP hS _ _ => ?_)
  refine W.eq (g2 := F0 m 7 ls [.int r1]) rfl ?_
  refine lv_istore_n (lv' := [(1, .int r1), (0, .ref (pL E 0))]) hx hb dX9_clear_7 rfl hl (by decide) rfl (fun ls hl => ?_)
  refine lv_aload_n hx hb dX9_clear_8 rfl (lv_at hl 1 rfl) ?_
  refine g_9_46 C hP dX9_clear_9 ?_
  refine lv_iconst (v := 0) hx hb dX9_clear_12 (by decide) ?_
  obtain ⟨r4, α5, hc6, hf⟩ := pb2_ok hf
  refine p_callV (n := 1) (As := [.int 0]) (rest := []) C hP hS (wv_9_215 C.2.2.2.2.1 _) (c_X8_cutTo l C.2.2.2.2.2.2  hc6) (e_X8) rfl rfl hd_X8_cutTo rfl ⟨Nat.le_of_ble_eq_true rfl, Nat.le_of_ble_eq_true rfl⟩ hl.1 rfl (Nat.le_of_ble_eq_true rfl) dX9_clear_13 ⟨Nat.zero_le _, Nat.zero_le _⟩ (fun H locs hP hS _ _ => ?_)
  refine W.eq (g2 := F0 m 16 ls []) rfl ?_
  refine lv_aload_n hx hb dX9_clear_16 rfl (lv_at hl 1 rfl) ?_
  refine g_9_41 C hP dX9_clear_17 ?_
  obtain ⟨r7, α8, hc9, hf⟩ := pb2_ok hf
  refine p_callV (n := 0) (As := []) (rest := []) C hP hS (wv_9_218 C.2.2.2.2.1 _) (c_X4_dismissAll l C.2.2.2.2.2.2  hc9) (e_X4) rfl rfl hd_X4_dismissAll rfl ⟨Nat.le_of_ble_eq_true rfl, Nat.le_of_ble_eq_true rfl⟩ hl.1 rfl (Nat.le_of_ble_eq_true rfl) dX9_clear_20 ⟨Nat.zero_le _, Nat.zero_le _⟩ (fun H locs hP hS _ _ => ?_)
  refine W.eq (g2 := F0 m 23 ls []) rfl ?_
  refine lv_aload_n hx hb dX9_clear_23 rfl (lv_at hl 1 rfl) ?_
  refine g_9_51 C hP dX9_clear_24 ?_
  obtain ⟨r10, α11, hc12, hf⟩ := pb2_ok hf
  refine p_callV (n := 0) (As := []) (rest := []) C hP hS (wv_9_221 C.2.2.2.2.1 _) (c_X1_forgetAll l C.2.2.2.2.2.2  hc12) (e_X1) rfl rfl hd_X1_forgetAll rfl ⟨Nat.le_of_ble_eq_true rfl, Nat.le_of_ble_eq_true rfl⟩ hl.1 rfl (Nat.le_of_ble_eq_true rfl) dX9_clear_27 ⟨Nat.zero_le _, Nat.zero_le _⟩ (fun H locs hP hS _ _ => ?_)
  refine W.eq (g2 := F0 m 30 ls []) rfl ?_
  refine lv_aload_n hx hb dX9_clear_30 rfl (lv_at hl 1 rfl) ?_
  refine g_9_56 C hP dX9_clear_31 ?_
  obtain ⟨r13, α14, hc15, hf⟩ := pb2_ok hf
  refine p_callV (n := 0) (As := []) (rest := []) C hP hS (wv_9_224 C.2.2.2.2.1 _) (c_X5_emptyAll l C.2.2.2.2.2.2  hc15) (e_X5) rfl rfl hd_X5_emptyAll rfl ⟨Nat.le_of_ble_eq_true rfl, Nat.le_of_ble_eq_true rfl⟩ hl.1 rfl (Nat.le_of_ble_eq_true rfl) dX9_clear_34 ⟨Nat.zero_le _, Nat.zero_le _⟩ (fun H locs hP hS _ _ => ?_)
  refine W.eq (g2 := F0 m 37 ls []) rfl ?_
  refine lv_iload_n hx hb dX9_clear_37 rfl (lv_at hl 0 rfl) ?_
  exact p_iret C hr hlk (pe1 hf) (pe2C hf) hP hS dX9_clear_38
set_option maxHeartbeats 4000000 in
set_option maxRecDepth 100000 in
theorem c_X0_firstBroken (l : Launch) {E : pE} (hE : pInj E) {β : pSt} {q0 : Nat} (hq0 : q0 < 11) {α α' : pSt} {r : Int32} (hf : f_X0_firstBroken q0 α = some (r, α')) : pM l E yX0_firstBroken cX0_firstBroken 2 (some .int) 2 [.ref (pL E (22 + q0))] α β (some (.int r)) α' β := by
  refine pM.ofW hE (by decide) ?_ (Nat.le_of_ble_eq_true rfl)
  intro p e s m below meth c ls C hr hlk hP hl
  have C : pCx p s m c cX0_firstBroken 2 E RX0 := C
  have hS : va_S (pA E s.heap.size) s.heap s.heap [] := va_S.rf
  have hx := C.1
  have hb := C.2.1
  have hl : lv_has ls 2 [(0, .ref (pL E (22 + q0)))] := hl
  unfold f_X0_firstBroken at hf
  refine lv_aload_n hx hb dX0_firstBroken_0 rfl (lv_at hl 0 rfl) ?_
  obtain ⟨r1, α2, hc3, hf⟩ := pb2_ok hf
  refine p_callV (n := 0) (As := []) (rest := []) C hP hS (wv_0_9 C.2.2.2.2.1 _) (c_X6_size l C.2.2.2.2.2.2 (k := q0) hq0 hc3) (e_X6 (k := q0) hq0) rfl rfl hd_X6_size rfl ⟨Nat.le_of_ble_eq_true rfl, Nat.le_of_ble_eq_true rfl⟩ hl.1 rfl (Nat.le_of_ble_eq_true rfl) dX0_firstBroken_1 ⟨Nat.zero_le _, Nat.zero_le _⟩ (fun H locs hP hS _ _ => ?_)
  refine W.eq (g2 := F0 m 4 ls [.int r1]) rfl ?_
  refine lv_iconst (v := 4) hx hb dX0_firstBroken_4 (by decide) ?_
  refine lv_icmp_ge (tgt := 10) hx hb dX0_firstBroken_5 (by decide) (fun h4 => ?_) (fun h4 => ?_)
  · have hf := pif_t hf h4
    refine lv_aload_n hx hb dX0_firstBroken_10 rfl (lv_at hl 0 rfl) ?_
    refine lv_iconst (v := 0) hx hb dX0_firstBroken_11 (by decide) ?_
    obtain ⟨r5, α6, hc7, hf⟩ := pb2_ok hf
    refine p_callV (n := 1) (As := [.int 0]) (rest := []) C hP hS (wv_0_15 C.2.2.2.2.1 _) (c_X6_at l C.2.2.2.2.2.2 (k := q0) hq0 hc7) (e_X6 (k := q0) hq0) rfl rfl hd_X6_at rfl ⟨Nat.le_of_ble_eq_true rfl, Nat.le_of_ble_eq_true rfl⟩ hl.1 rfl (Nat.le_of_ble_eq_true rfl) dX0_firstBroken_12 ⟨Nat.zero_le _, Nat.zero_le _⟩ (fun H locs hP hS _ _ => ?_)
    refine W.eq (g2 := F0 m 15 ls [.int r5]) rfl ?_
    refine lv_bipush (v := 80) hx hb dX0_firstBroken_15 (by decide) ?_
    refine lv_icmp_ne (tgt := 30) hx hb dX0_firstBroken_17 (by decide) (fun h8 => ?_) (fun h8 => ?_)
    · have hf := pif_f hf h8
      refine lv_iconst (v := 2) hx hb dX0_firstBroken_30 (by decide) ?_
      exact p_iret C hr hlk (pe1 hf) (pe2C hf) hP hS dX0_firstBroken_31
    · have hf := pif_t hf h8
      refine lv_aload_n hx hb dX0_firstBroken_20 rfl (lv_at hl 0 rfl) ?_
      refine lv_iconst (v := 1) hx hb dX0_firstBroken_21 (by decide) ?_
      obtain ⟨r9, α10, hc11, hf⟩ := pb2_ok hf
      refine p_callV (n := 1) (As := [.int 1]) (rest := []) C hP hS (wv_0_15 C.2.2.2.2.1 _) (c_X6_at l C.2.2.2.2.2.2 (k := q0) hq0 hc11) (e_X6 (k := q0) hq0) rfl rfl hd_X6_at rfl ⟨Nat.le_of_ble_eq_true rfl, Nat.le_of_ble_eq_true rfl⟩ hl.1 rfl (Nat.le_of_ble_eq_true rfl) dX0_firstBroken_22 ⟨Nat.zero_le _, Nat.zero_le _⟩ (fun H locs hP hS _ _ => ?_)
      refine W.eq (g2 := F0 m 25 ls [.int r9]) rfl ?_
      refine lv_bipush (v := 82) hx hb dX0_firstBroken_25 (by decide) ?_
      refine lv_icmp_eq (tgt := 32) hx hb dX0_firstBroken_27 (by decide) (fun h12 => ?_) (fun h12 => ?_)
      · have hf := pif_t hf h12
        refine lv_aload_n hx hb dX0_firstBroken_32 rfl (lv_at hl 0 rfl) ?_
        refine lv_iconst (v := 2) hx hb dX0_firstBroken_33 (by decide) ?_
        obtain ⟨r13, α14, hc15, hf⟩ := pb2_ok hf
        refine p_callV (n := 1) (As := [.int 2]) (rest := []) C hP hS (wv_0_15 C.2.2.2.2.1 _) (c_X6_at l C.2.2.2.2.2.2 (k := q0) hq0 hc15) (e_X6 (k := q0) hq0) rfl rfl hd_X6_at rfl ⟨Nat.le_of_ble_eq_true rfl, Nat.le_of_ble_eq_true rfl⟩ hl.1 rfl (Nat.le_of_ble_eq_true rfl) dX0_firstBroken_34 ⟨Nat.zero_le _, Nat.zero_le _⟩ (fun H locs hP hS _ _ => ?_)
        refine W.eq (g2 := F0 m 37 ls [.int r13]) rfl ?_
        refine lv_istore_n (lv' := [(1, .int r13), (0, .ref (pL E (22 + q0)))]) hx hb dX0_firstBroken_37 rfl hl (by decide) rfl (fun ls hl => ?_)
        refine lv_iload_n hx hb dX0_firstBroken_38 rfl (lv_at hl 0 rfl) ?_
        refine lv_iconst (v := 1) hx hb dX0_firstBroken_39 (by decide) ?_
        refine lv_icmp_lt (tgt := 49) hx hb dX0_firstBroken_40 (by decide) (fun h16 => ?_) (fun h16 => ?_)
        · have hf := pif_t hf h16
          refine lv_iconst (v := 3) hx hb dX0_firstBroken_49 (by decide) ?_
          exact p_iret C hr hlk (pe1 hf) (pe2C hf) hP hS dX0_firstBroken_50
        · have hf := pif_f hf h16
          refine lv_iload_n hx hb dX0_firstBroken_43 rfl (lv_at hl 0 rfl) ?_
          refine lv_bipush (v := 12) hx hb dX0_firstBroken_44 (by decide) ?_
          refine lv_icmp_le (tgt := 51) hx hb dX0_firstBroken_46 (by decide) (fun h17 => ?_) (fun h17 => ?_)
          · have hf := pif_t hf h17
            refine lv_aload_n hx hb dX0_firstBroken_51 rfl (lv_at hl 1 rfl) ?_
            obtain ⟨r18, α19, hc20, hf⟩ := pb2_ok hf
            refine p_callV (n := 0) (As := []) (rest := []) C hP hS (wv_0_9 C.2.2.2.2.1 _) (c_X6_size l C.2.2.2.2.2.2 (k := q0) hq0 hc20) (e_X6 (k := q0) hq0) rfl rfl hd_X6_size rfl ⟨Nat.le_of_ble_eq_true rfl, Nat.le_of_ble_eq_true rfl⟩ hl.1 rfl (Nat.le_of_ble_eq_true rfl) dX0_firstBroken_52 ⟨Nat.zero_le _, Nat.zero_le _⟩ (fun H locs hP hS _ _ => ?_)
            refine W.eq (g2 := F0 m 55 ls [.int r18]) rfl ?_
            refine lv_iconst (v := 3) hx hb dX0_firstBroken_55 (by decide) ?_
            refine lv_iconst (v := 4) hx hb dX0_firstBroken_56 (by decide) ?_
            refine lv_iload_n hx hb dX0_firstBroken_57 rfl (lv_at hl 0 rfl) ?_
            refine lv_imul hx hb dX0_firstBroken_58 ?_
            refine lv_iadd hx hb dX0_firstBroken_59 ?_
            refine lv_iconst (v := 1) hx hb dX0_firstBroken_60 (by decide) ?_
            refine lv_iadd hx hb dX0_firstBroken_61 ?_
            refine lv_icmp_eq (tgt := 67) hx hb dX0_firstBroken_62 (by decide) (fun h21 => ?_) (fun h21 => ?_)
            · have hf := pif_t hf h21
              refine lv_aload_n hx hb dX0_firstBroken_67 rfl (lv_at hl 1 rfl) ?_
              refine lv_iload_n hx hb dX0_firstBroken_68 rfl (lv_at hl 0 rfl) ?_
              obtain ⟨r22, α23, hc24, hf⟩ := pb2_ok hf
              refine p_callS (n := 2) (As := [.ref (pL E (22 + q0)), .int r13]) (rest := []) C hP hS (wv_0_19 C.2.2.2.2.1 _) (c_X0_areSoundRules l C.2.2.2.2.2.2 (q0 := q0) hq0 hc24) hd_X0_areSoundRules rfl ⟨Nat.le_of_ble_eq_true rfl, Nat.le_of_ble_eq_true rfl⟩ hl.1 rfl (Nat.le_of_ble_eq_true rfl) dX0_firstBroken_69 ⟨Nat.zero_le _, Nat.zero_le _⟩ (fun H locs hP hS _ _ => ?_)
              refine W.eq (g2 := F0 m 72 ls [.int r22]) rfl ?_
              refine lv_if_ne (tgt := 77) hx hb dX0_firstBroken_72 (by decide) (fun h25 => ?_) (fun h25 => ?_)
              · have hf := pif_f hf h25
                refine lv_aload_n hx hb dX0_firstBroken_77 rfl (lv_at hl 1 rfl) ?_
                refine lv_aload_n hx hb dX0_firstBroken_78 rfl (lv_at hl 1 rfl) ?_
                obtain ⟨r26, α27, hc28, hf⟩ := pb2_ok hf
                refine p_callV (n := 0) (As := []) (rest := [.ref (pL E (22 + q0))]) C hP hS (wv_0_9 C.2.2.2.2.1 _) (c_X6_size l C.2.2.2.2.2.2 (k := q0) hq0 hc28) (e_X6 (k := q0) hq0) rfl rfl hd_X6_size rfl ⟨Nat.le_of_ble_eq_true rfl, Nat.le_of_ble_eq_true rfl⟩ hl.1 rfl (Nat.le_of_ble_eq_true rfl) dX0_firstBroken_79 ⟨Nat.zero_le _, Nat.zero_le _⟩ (fun H locs hP hS _ _ => ?_)
                refine W.eq (g2 := F0 m 82 ls [.int r26, .ref (pL E (22 + q0))]) rfl ?_
                refine lv_iconst (v := 1) hx hb dX0_firstBroken_82 (by decide) ?_
                refine lv_isub hx hb dX0_firstBroken_83 ?_
                obtain ⟨r29, α30, hc31, hf⟩ := pb2_ok hf
                refine p_callV (n := 1) (As := [.int (r26 - 1)]) (rest := []) C hP hS (wv_0_15 C.2.2.2.2.1 _) (c_X6_at l C.2.2.2.2.2.2 (k := q0) hq0 hc31) (e_X6 (k := q0) hq0) rfl rfl hd_X6_at rfl ⟨Nat.le_of_ble_eq_true rfl, Nat.le_of_ble_eq_true rfl⟩ hl.1 rfl (Nat.le_of_ble_eq_true rfl) dX0_firstBroken_84 ⟨Nat.zero_le _, Nat.zero_le _⟩ (fun H locs hP hS _ _ => ?_)
                refine W.eq (g2 := F0 m 87 ls [.int r29]) rfl ?_
                refine lv_aload_n hx hb dX0_firstBroken_87 rfl (lv_at hl 1 rfl) ?_
                obtain ⟨r32, α33, hc34, hf⟩ := pb2_ok hf
                refine p_callS (n := 1) (As := [.ref (pL E (22 + q0))]) (rest := [.int r29]) C hP hS (wv_0_25 C.2.2.2.2.1 _) (c_X0_sumAheadOfLast l C.2.2.2.2.2.2 (q0 := q0) hq0 hc34) hd_X0_sumAheadOfLast rfl ⟨Nat.le_of_ble_eq_true rfl, Nat.le_of_ble_eq_true rfl⟩ hl.1 rfl (Nat.le_of_ble_eq_true rfl) dX0_firstBroken_88 ⟨Nat.zero_le _, Nat.zero_le _⟩ (fun H locs hP hS _ _ => ?_)
                refine W.eq (g2 := F0 m 91 ls [.int r32, .int r29]) rfl ?_
                refine lv_icmp_ne (tgt := 98) hx hb dX0_firstBroken_91 (by decide) (fun h35 => ?_) (fun h35 => ?_)
                · have hf := pif_f hf h35
                  refine lv_bipush (v := 6) hx hb dX0_firstBroken_98 (by decide) ?_
                  exact p_iret C hr hlk (pe1 hf) (pe2C hf) hP hS dX0_firstBroken_100
                · have hf := pif_t hf h35
                  refine lv_iconst (v := 0) hx hb dX0_firstBroken_94 (by decide) ?_
                  refine lv_goto (tgt := 100) hx hb dX0_firstBroken_95 (by decide) ?_
                  exact p_iret C hr hlk (pe1 hf) (pe2C hf) hP hS dX0_firstBroken_100
              · have hf := pif_t hf h25
                refine lv_iconst (v := 5) hx hb dX0_firstBroken_75 (by decide) ?_
                exact p_iret C hr hlk (pe1 hf) (pe2C hf) hP hS dX0_firstBroken_76
            · have hf := pif_f hf h21
              refine lv_iconst (v := 4) hx hb dX0_firstBroken_65 (by decide) ?_
              exact p_iret C hr hlk (pe1 hf) (pe2C hf) hP hS dX0_firstBroken_66
          · have hf := pif_f hf h17
            refine lv_iconst (v := 3) hx hb dX0_firstBroken_49 (by decide) ?_
            exact p_iret C hr hlk (pe1 hf) (pe2C hf) hP hS dX0_firstBroken_50
      · have hf := pif_f hf h12
        refine lv_iconst (v := 2) hx hb dX0_firstBroken_30 (by decide) ?_
        exact p_iret C hr hlk (pe1 hf) (pe2C hf) hP hS dX0_firstBroken_31
  · have hf := pif_f hf h4
    refine lv_iconst (v := 1) hx hb dX0_firstBroken_8 (by decide) ?_
    exact p_iret C hr hlk (pe1 hf) (pe2C hf) hP hS dX0_firstBroken_9
set_option maxHeartbeats 4000000 in
set_option maxRecDepth 100000 in
theorem c_X4_enlist (l : Launch) {E : pE} (hE : pInj E) {β : pSt} {a0 : Int32} {q1 : Nat} (hq1 : q1 < 11) {α α' : pSt} {r : Int32} (hf : f_X4_enlist a0 q1 α = some (r, α')) : pM l E yX4_enlist cX4_enlist 4 (some .int) 2 [.ref (pL E 3), .int a0, .ref (pL E (22 + q1))] α β (some (.int r)) α' β := by
  refine pM.ofW hE (by decide) ?_ (Nat.le_of_ble_eq_true rfl)
  intro p e s m below meth c ls C hr hlk hP hl
  have C : pCx p s m c cX4_enlist 4 E RX4 := C
  have hS : va_S (pA E s.heap.size) s.heap s.heap [] := va_S.rf
  have hx := C.1
  have hb := C.2.1
  have hl : lv_has ls 4 [(0, .ref (pL E 3)), (1, .int a0), (2, .ref (pL E (22 + q1)))] := hl
  unfold f_X4_enlist at hf
  refine lv_aload_n hx hb dX4_enlist_0 rfl (lv_at hl 0 rfl) ?_
  refine g_4_18 C hP dX4_enlist_1 ?_
  refine lv_aload_n hx hb dX4_enlist_4 rfl (lv_at hl 0 rfl) ?_
  refine g_4_11 C hP dX4_enlist_5 ?_
  refine ln_all C hP dX4_enlist_8 ?_
  refine lv_icmp_ge (tgt := 24) hx hb dX4_enlist_9 (by decide) (fun h1 => ?_) (fun h1 => ?_)
  · have hf := pif_t hf h1
    refine lv_null hx hb dX4_enlist_24 ?_
    refine lv_astore_nN (lv' := [(3, .null), (0, .ref (pL E 3)), (1, .int a0), (2, .ref (pL E (22 + q1)))]) hx hb dX4_enlist_25 rfl hl (by decide) rfl (fun ls hl => ?_)
    refine lv_aload_nN hx hb dX4_enlist_26 rfl (lv_at hl 0 rfl) ?_
    refine lv_ifnonnullN hx hb dX4_enlist_27 ?_
    refine lv_bipush (v := (-104)) hx hb dX4_enlist_30 (by decide) ?_
    exact p_iret C hr hlk (pe1 hf) (pe2C hf) hP hS dX4_enlist_32
  · have hf := pif_f hf h1
    refine lv_aload_n hx hb dX4_enlist_12 rfl (lv_at hl 0 rfl) ?_
    refine g_4_11 C hP dX4_enlist_13 ?_
    refine lv_aload_n hx hb dX4_enlist_16 rfl (lv_at hl 0 rfl) ?_
    refine g_4_18 C hP dX4_enlist_17 ?_
    obtain ⟨h2, hf⟩ := pg_ok hf
    refine la_all C hP h2 dX4_enlist_20 ?_
    refine lv_goto (tgt := 25) hx hb dX4_enlist_21 (by decide) ?_
    refine lv_astore_n (lv' := [(3, .ref (pL E (16 + (α 10 0).toNatClampNeg))), (0, .ref (pL E 3)), (1, .int a0), (2, .ref (pL E (22 + q1)))]) hx hb dX4_enlist_25 rfl hl (by decide) rfl (fun ls hl => ?_)
    refine lv_aload_n hx hb dX4_enlist_26 rfl (lv_at hl 0 rfl) ?_
    refine lv_ifnonnull (tgt := 33) hx hb dX4_enlist_27 (by decide) ?_
    refine lv_aload_n hx hb dX4_enlist_33 rfl (lv_at hl 0 rfl) ?_
    refine lv_iload_n hx hb dX4_enlist_34 rfl (lv_at hl 2 rfl) ?_
    refine lv_aload_n hx hb dX4_enlist_35 rfl (lv_at hl 3 rfl) ?_
    obtain ⟨r3, α4, hc5, hf⟩ := pb2_ok hf
    refine p_callV (n := 2) (As := [.int a0, .ref (pL E (22 + q1))]) (rest := []) C hP hS (wv_4_22 C.2.2.2.2.1 _) (c_X3_become l C.2.2.2.2.2.2 (k := (α 10 0).toNatClampNeg) (pin_lt h2) (q1 := q1) hq1 hc5) (e_X3 (k := (α 10 0).toNatClampNeg) (pin_lt h2)) rfl rfl hd_X3_become rfl ⟨Nat.le_of_ble_eq_true rfl, Nat.le_of_ble_eq_true rfl⟩ hl.1 rfl (Nat.le_of_ble_eq_true rfl) dX4_enlist_36 ⟨Nat.zero_le _, Nat.zero_le _⟩ (fun H locs hP hS _ _ => ?_)
    refine W.eq (g2 := F0 m 39 ls []) rfl ?_
    refine lv_aload_n hx hb dX4_enlist_39 rfl (lv_at hl 1 rfl) ?_
    refine lv_dup hx hb dX4_enlist_40 rfl ?_
    refine g_4_18 C hP dX4_enlist_41 ?_
    refine lv_iconst (v := 1) hx hb dX4_enlist_44 (by decide) ?_
    refine lv_iadd hx hb dX4_enlist_45 ?_
    refine s_4_18 C hP hS dX4_enlist_46 (fun H locs hP hS => ?_)
    obtain ⟨α6, eα6, hf⟩ := pl_ok hf
    rw [← eα6] at hP
    clear eα6
    refine lv_aload_n hx hb dX4_enlist_49 rfl (lv_at hl 1 rfl) ?_
    refine g_4_18 C hP dX4_enlist_50 ?_
    refine lv_iconst (v := 1) hx hb dX4_enlist_53 (by decide) ?_
    refine lv_isub hx hb dX4_enlist_54 ?_
    exact p_iret C hr hlk (pe1 hf) (pe2C hf) hP hS dX4_enlist_55
set_option maxHeartbeats 4000000 in
set_option maxRecDepth 100000 in
theorem c_X5_goBack (l : Launch) {E : pE} (hE : pInj E) {β : pSt}  {α α' : pSt} {r : Unit} (hf : f_X5_goBack  α = some (r, α')) : pM l E yX5_goBack cX5_goBack 5 none 2 [.ref (pL E 7)] α β none α' β := by
  refine pM.ofW hE (by decide) ?_ (Nat.le_of_ble_eq_true rfl)
  intro p e s m below meth c ls C hr hlk hP hl
  have C : pCx p s m c cX5_goBack 5 E RX5 := C
  have hS : va_S (pA E s.heap.size) s.heap s.heap [] := va_S.rf
  have hx := C.1
  have hb := C.2.1
  have hl : lv_has ls 5 [(0, .ref (pL E 7))] := hl
  unfold f_X5_goBack at hf
  refine lv_aload_n hx hb dX5_goBack_0 rfl (lv_at hl 0 rfl) ?_
  refine g_5_11 C hP dX5_goBack_1 ?_
  refine lv_astore_n (lv' := [(1, .ref (pL E 56)), (0, .ref (pL E 7))]) hx hb dX5_goBack_4 rfl hl (by decide) rfl (fun ls hl => ?_)
  refine lv_aload_n hx hb dX5_goBack_5 rfl (lv_at hl 0 rfl) ?_
  refine ln_rows C hP dX5_goBack_6 ?_
  refine lv_istore_n (lv' := [(2, .int 4), (1, .ref (pL E 56)), (0, .ref (pL E 7))]) hx hb dX5_goBack_7 rfl hl (by decide) rfl (fun ls hl => ?_)
  refine lv_iconst (v := 0) hx hb dX5_goBack_8 (by decide) ?_
  refine lv_istore_n (lv' := [(3, .int 0), (2, .int 4), (1, .ref (pL E 56)), (0, .ref (pL E 7))]) hx hb dX5_goBack_9 rfl hl (by decide) rfl (fun ls hl => ?_)
  have lp10 : ∀ (n : Nat) (x3 : Int32) (α : pSt) (H : Heap) (locs : List Loc) (ls : Array Slot), f_X5_goBack_L10 n x3 α = some (r, α') → va_P (pD E) vwCl (pw E α β) H → va_S (pA E s.heap.size) s.heap H locs → lv_has ls 5 [(3, .int x3), (2, .int 4), (1, .ref (pL E 56))] → W p l e (pR 2) s m [.ref (pL E 7)].toArray below meth c H locs 0 0 (pQ below E s [.ref (pL E 7)].toArray none α' β) (F0 m 10 ls []) := by
    intro n
    induction n with
    | zero =>
      intro x3 α H locs ls hf
      rw [f_X5_goBack_L10] at hf
      cases hf
    | succ n10 ih10 =>
      intro x3 α H locs ls hf hP hS hl
      rw [f_X5_goBack_L10] at hf
      refine lv_iload_n hx hb dX5_goBack_10 rfl (lv_at hl 0 rfl) ?_
      refine lv_iload_n hx hb dX5_goBack_11 rfl (lv_at hl 1 rfl) ?_
      refine lv_icmp_ge (tgt := 36) hx hb dX5_goBack_12 (by decide) (fun h1 => ?_) (fun h1 => ?_)
      · have hf := pif_t hf h1
        exact p_vret C hr hlk (pe2C hf) hP hS dX5_goBack_36
      · have hf := pif_f hf h1
        refine lv_aload_n hx hb dX5_goBack_15 rfl (lv_at hl 2 rfl) ?_
        refine lv_iload_n hx hb dX5_goBack_16 rfl (lv_at hl 0 rfl) ?_
        obtain ⟨h2, hf⟩ := pg_ok hf
        refine la_rows C hP h2 dX5_goBack_17 ?_
        refine lv_astore (lv' := [(4, .ref (pL E (22 + (7 + x3.toNatClampNeg)))), (3, .int x3), (2, .int 4), (1, .ref (pL E 56))]) hx hb dX5_goBack_18 hl (by decide) rfl (fun ls hl => ?_)
        refine lv_aload hx hb dX5_goBack_20 (lv_at hl 0 rfl) ?_
        refine lv_ifnull hx hb dX5_goBack_22 ?_
        refine lv_aload hx hb dX5_goBack_25 (lv_at hl 0 rfl) ?_
        obtain ⟨r3, α4, hc5, hf⟩ := pb2_ok hf
        refine p_callV (n := 0) (As := []) (rest := []) C hP hS (wv_5_26 C.2.2.2.2.1 _) (c_X6_goBack l C.2.2.2.2.2.2 (k := (7 + x3.toNatClampNeg)) (pr7 (pin_lt h2)) hc5) (e_X6 (k := (7 + x3.toNatClampNeg)) (pr7 (pin_lt h2))) rfl rfl hd_X6_goBack rfl ⟨Nat.le_of_ble_eq_true rfl, Nat.le_of_ble_eq_true rfl⟩ hl.1 rfl (Nat.le_of_ble_eq_true rfl) dX5_goBack_27 ⟨Nat.zero_le _, Nat.zero_le _⟩ (fun H locs hP hS _ _ => ?_)
        refine W.eq (g2 := F0 m 30 ls []) rfl ?_
        refine lv_iinc (v := (x3 + 1)) (lv' := [(3, .int (x3 + 1)), (4, .ref (pL E (22 + (7 + x3.toNatClampNeg)))), (2, .int 4), (1, .ref (pL E 56))]) hx hb dX5_goBack_30 hl (k := 1) rfl rfl (by decide) rfl (fun ls hl => ?_)
        refine lv_goto (tgt := 10) hx hb dX5_goBack_33 (by decide) ?_
        exact ih10 _ α4 _ _ _ hf hP hS (lv_sub hl [0, 2, 3] rfl)
  exact lp10 _ _ _ _ _ _ hf hP hS (lv_sub hl [0, 1, 2] rfl)
set_option maxHeartbeats 4000000 in
set_option maxRecDepth 100000 in
theorem c_X7_begin (l : Launch) {E : pE} (hE : pInj E) {β : pSt} {a0 : Int32} {a1 : Int32} {α α' : pSt} {r : Unit} (hf : f_X7_begin a0 a1 α = some (r, α')) : pM l E yX7_begin cX7_begin 3 none 2 [.ref (pL E 2), .int a0, .int a1] α β none α' β := by
  refine pM.ofW hE (by decide) ?_ (Nat.le_of_ble_eq_true rfl)
  intro p e s m below meth c ls C hr hlk hP hl
  have C : pCx p s m c cX7_begin 3 E RX7 := C
  have hS : va_S (pA E s.heap.size) s.heap s.heap [] := va_S.rf
  have hx := C.1
  have hb := C.2.1
  have hl : lv_has ls 3 [(0, .ref (pL E 2)), (1, .int a0), (2, .int a1)] := hl
  unfold f_X7_begin at hf
  refine lv_aload_n hx hb dX7_begin_0 rfl (lv_at hl 0 rfl) ?_
  refine lv_iload_n hx hb dX7_begin_1 rfl (lv_at hl 1 rfl) ?_
  refine s_7_81 C hP hS dX7_begin_2 (fun H locs hP hS => ?_)
  obtain ⟨α1, eα1, hf⟩ := pl_ok hf
  rw [← eα1] at hP
  clear eα1
  refine lv_aload_n hx hb dX7_begin_5 rfl (lv_at hl 0 rfl) ?_
  refine lv_iload_n hx hb dX7_begin_6 rfl (lv_at hl 2 rfl) ?_
  obtain ⟨h2, hf⟩ := pg_ok hf
  refine s_7_84 C hP hS (pbl_ok h2) dX7_begin_7 (fun H locs hP hS => ?_)
  obtain ⟨α3, eα3, hf⟩ := pl_ok hf
  rw [← eα3] at hP
  clear eα3
  refine lv_aload_n hx hb dX7_begin_10 rfl (lv_at hl 0 rfl) ?_
  refine lv_iconst (v := 0) hx hb dX7_begin_11 (by decide) ?_
  refine s_7_57 C hP hS dX7_begin_12 (fun H locs hP hS => ?_)
  obtain ⟨α4, eα4, hf⟩ := pl_ok hf
  rw [← eα4] at hP
  clear eα4
  refine lv_aload_n hx hb dX7_begin_15 rfl (lv_at hl 0 rfl) ?_
  refine lv_iconst (v := 0) hx hb dX7_begin_16 (by decide) ?_
  refine s_7_88 C hP hS dX7_begin_17 (fun H locs hP hS => ?_)
  obtain ⟨α5, eα5, hf⟩ := pl_ok hf
  rw [← eα5] at hP
  clear eα5
  refine lv_aload_n hx hb dX7_begin_20 rfl (lv_at hl 0 rfl) ?_
  refine lv_iconst (v := 0) hx hb dX7_begin_21 (by decide) ?_
  refine s_7_65 C hP hS dX7_begin_22 (fun H locs hP hS => ?_)
  obtain ⟨α6, eα6, hf⟩ := pl_ok hf
  rw [← eα6] at hP
  clear eα6
  refine lv_aload_n hx hb dX7_begin_25 rfl (lv_at hl 0 rfl) ?_
  refine lv_iconst (v := 0) hx hb dX7_begin_26 (by decide) ?_
  refine s_7_78 C hP hS dX7_begin_27 (fun H locs hP hS => ?_)
  obtain ⟨α7, eα7, hf⟩ := pl_ok hf
  rw [← eα7] at hP
  clear eα7
  refine lv_aload_n hx hb dX7_begin_30 rfl (lv_at hl 0 rfl) ?_
  refine g_7_12 C hP dX7_begin_31 ?_
  obtain ⟨r8, α9, hc10, hf⟩ := pb2_ok hf
  refine p_callV (n := 0) (As := []) (rest := []) C hP hS (wv_7_91 C.2.2.2.2.1 _) (c_X4_beginRun l C.2.2.2.2.2.2  hc10) (e_X4) rfl rfl hd_X4_beginRun rfl ⟨Nat.le_of_ble_eq_true rfl, Nat.le_of_ble_eq_true rfl⟩ hl.1 rfl (Nat.le_of_ble_eq_true rfl) dX7_begin_34 ⟨Nat.zero_le _, Nat.zero_le _⟩ (fun H locs hP hS _ _ => ?_)
  refine W.eq (g2 := F0 m 37 ls []) rfl ?_
  refine lv_aload_n hx hb dX7_begin_37 rfl (lv_at hl 0 rfl) ?_
  refine g_7_35 C hP dX7_begin_38 ?_
  obtain ⟨r11, α12, hc13, hf⟩ := pb2_ok hf
  refine p_callV (n := 0) (As := []) (rest := []) C hP hS (wv_7_94 C.2.2.2.2.1 _) (c_X5_keep l C.2.2.2.2.2.2  hc13) (e_X5) rfl rfl hd_X5_keep rfl ⟨Nat.le_of_ble_eq_true rfl, Nat.le_of_ble_eq_true rfl⟩ hl.1 rfl (Nat.le_of_ble_eq_true rfl) dX7_begin_41 ⟨Nat.zero_le _, Nat.zero_le _⟩ (fun H locs hP hS _ _ => ?_)
  refine W.eq (g2 := F0 m 44 ls []) rfl ?_
  exact p_vret C hr hlk (pe2C hf) hP hS dX7_begin_44
set_option maxHeartbeats 4000000 in
set_option maxRecDepth 100000 in
theorem c_X7_doRule (l : Launch) {E : pE} (hE : pInj E) {β : pSt} {q0 : Nat} (hq0 : q0 < 6) {a1 : Int32} {α α' : pSt} {r : Int32} (hf : f_X7_doRule q0 a1 α = some (r, α')) : pM l E yX7_doRule cX7_doRule 6 (some .int) 2 [.ref (pL E 2), .ref (pL E (16 + q0)), .int a1] α β (some (.int r)) α' β := by
  refine pM.ofW hE (by decide) ?_ (Nat.le_of_ble_eq_true rfl)
  intro p e s m below meth c ls C hr hlk hP hl
  have C : pCx p s m c cX7_doRule 6 E RX7 := C
  have hS : va_S (pA E s.heap.size) s.heap s.heap [] := va_S.rf
  have hx := C.1
  have hb := C.2.1
  have hl : lv_has ls 6 [(0, .ref (pL E 2)), (1, .ref (pL E (16 + q0))), (2, .int a1)] := hl
  unfold f_X7_doRule at hf
  refine lv_aload_n hx hb dX7_doRule_0 rfl (lv_at hl 0 rfl) ?_
  refine lv_aload_n hx hb dX7_doRule_1 rfl (lv_at hl 1 rfl) ?_
  refine lv_iconst (v := 1) hx hb dX7_doRule_2 (by decide) ?_
  obtain ⟨r1, α2, hc3, hf⟩ := pb2_ok hf
  refine p_callV (n := 2) (As := [.ref (pL E (16 + q0)), .int 1]) (rest := []) C hP hS (wv_7_146 C.2.2.2.2.1 _) (c_X7_takeSteps l C.2.2.2.2.2.2 (q0 := q0) hq0 hc3) (e_X7) rfl rfl hd_X7_takeSteps rfl ⟨Nat.le_of_ble_eq_true rfl, Nat.le_of_ble_eq_true rfl⟩ hl.1 rfl (Nat.le_of_ble_eq_true rfl) dX7_doRule_3 ⟨Nat.zero_le _, Nat.zero_le _⟩ (fun H locs hP hS _ _ => ?_)
  refine W.eq (g2 := F0 m 6 ls [.int r1]) rfl ?_
  refine lv_if_ne (tgt := 11) hx hb dX7_doRule_6 (by decide) (fun h4 => ?_) (fun h4 => ?_)
  · have hf := pif_f hf h4
    refine lv_aload_n hx hb dX7_doRule_11 rfl (lv_at hl 1 rfl) ?_
    refine lv_iload_n hx hb dX7_doRule_12 rfl (lv_at hl 2 rfl) ?_
    obtain ⟨r5, α6, hc7, hf⟩ := pb2_ok hf
    refine p_callV (n := 1) (As := [.int a1]) (rest := []) C hP hS (wv_7_150 C.2.2.2.2.1 _) (c_X3_aOf l C.2.2.2.2.2.2 (k := q0) hq0 hc7) (e_X3 (k := q0) hq0) rfl rfl hd_X3_aOf rfl ⟨Nat.le_of_ble_eq_true rfl, Nat.le_of_ble_eq_true rfl⟩ hl.1 rfl (Nat.le_of_ble_eq_true rfl) dX7_doRule_13 ⟨Nat.zero_le _, Nat.zero_le _⟩ (fun H locs hP hS _ _ => ?_)
    refine W.eq (g2 := F0 m 16 ls [.int r5]) rfl ?_
    refine lv_istore_n (lv' := [(3, .int r5), (0, .ref (pL E 2)), (1, .ref (pL E (16 + q0))), (2, .int a1)]) hx hb dX7_doRule_16 rfl hl (by decide) rfl (fun ls hl => ?_)
    refine lv_aload_n hx hb dX7_doRule_17 rfl (lv_at hl 2 rfl) ?_
    refine lv_iload_n hx hb dX7_doRule_18 rfl (lv_at hl 3 rfl) ?_
    obtain ⟨r8, α9, hc10, hf⟩ := pb2_ok hf
    refine p_callV (n := 1) (As := [.int a1]) (rest := []) C hP hS (wv_7_153 C.2.2.2.2.1 _) (c_X3_bOf l C.2.2.2.2.2.2 (k := q0) hq0 hc10) (e_X3 (k := q0) hq0) rfl rfl hd_X3_bOf rfl ⟨Nat.le_of_ble_eq_true rfl, Nat.le_of_ble_eq_true rfl⟩ hl.1 rfl (Nat.le_of_ble_eq_true rfl) dX7_doRule_19 ⟨Nat.zero_le _, Nat.zero_le _⟩ (fun H locs hP hS _ _ => ?_)
    refine W.eq (g2 := F0 m 22 ls [.int r8]) rfl ?_
    refine lv_istore (lv' := [(4, .int r8), (3, .int r5), (0, .ref (pL E 2)), (1, .ref (pL E (16 + q0))), (2, .int a1)]) hx hb dX7_doRule_22 hl (by decide) rfl (fun ls hl => ?_)
    refine lv_iconst (v := (-1)) hx hb dX7_doRule_24 (by decide) ?_
    refine lv_istore (lv' := [(5, .int (-1)), (4, .int r8), (3, .int r5), (0, .ref (pL E 2)), (1, .ref (pL E (16 + q0))), (2, .int a1)]) hx hb dX7_doRule_25 hl (by decide) rfl (fun ls hl => ?_)
    refine lv_aload_n hx hb dX7_doRule_27 rfl (lv_at hl 4 rfl) ?_
    refine lv_iload_n hx hb dX7_doRule_28 rfl (lv_at hl 5 rfl) ?_
    obtain ⟨r11, α12, hc13, hf⟩ := pb2_ok hf
    refine p_callV (n := 1) (As := [.int a1]) (rest := []) C hP hS (wv_7_156 C.2.2.2.2.1 _) (c_X3_actOf l C.2.2.2.2.2.2 (k := q0) hq0 hc13) (e_X3 (k := q0) hq0) rfl rfl hd_X3_actOf rfl ⟨Nat.le_of_ble_eq_true rfl, Nat.le_of_ble_eq_true rfl⟩ hl.1 rfl (Nat.le_of_ble_eq_true rfl) dX7_doRule_29 ⟨Nat.zero_le _, Nat.zero_le _⟩ (fun H locs hP hS _ _ => ?_)
    refine W.eq (g2 := F0 m 32 ls [.int r11]) rfl ?_
    by_cases h14 : r11 = 0
    · have hf := pif_t hf h14
      refine lv_tableIn (tgt := 88) (off := 56) hx hb dX7_doRule_32 (by rw [h14]; decide) (by rw [h14]; decide) (by rw [h14]; decide) (by decide) ?_
      refine lv_aload_n hx hb dX7_doRule_88 rfl (lv_at hl 3 rfl) ?_
      refine lv_aload_n hx hb dX7_doRule_89 rfl (lv_at hl 4 rfl) ?_
      refine lv_iload_n hx hb dX7_doRule_90 rfl (lv_at hl 5 rfl) ?_
      obtain ⟨r15, α16, hc17, hf⟩ := pb2_ok hf
      refine p_callV (n := 1) (As := [.int a1]) (rest := [.ref (pL E 2)]) C hP hS (wv_7_132 C.2.2.2.2.1 _) (c_X3_markOf l C.2.2.2.2.2.2 (k := q0) hq0 hc17) (e_X3 (k := q0) hq0) rfl rfl hd_X3_markOf rfl ⟨Nat.le_of_ble_eq_true rfl, Nat.le_of_ble_eq_true rfl⟩ hl.1 rfl (Nat.le_of_ble_eq_true rfl) dX7_doRule_91 ⟨Nat.zero_le _, Nat.zero_le _⟩ (fun H locs hP hS _ _ => ?_)
      refine W.eq (g2 := F0 m 94 ls [.int r15, .ref (pL E 2)]) rfl ?_
      obtain ⟨r18, α19, hc20, hf⟩ := pb2_ok hf
      refine p_callV (n := 1) (As := [.int r15]) (rest := []) C hP hS (wv_7_159 C.2.2.2.2.1 _) (c_X7_claim l C.2.2.2.2.2.2  hc20) (e_X7) rfl rfl hd_X7_claim rfl ⟨Nat.le_of_ble_eq_true rfl, Nat.le_of_ble_eq_true rfl⟩ hl.1 rfl (Nat.le_of_ble_eq_true rfl) dX7_doRule_94 ⟨Nat.zero_le _, Nat.zero_le _⟩ (fun H locs hP hS _ _ => ?_)
      refine W.eq (g2 := F0 m 97 ls []) rfl ?_
      refine lv_goto (tgt := 218) hx hb dX7_doRule_97 (by decide) ?_
      refine lv_iload hx hb dX7_doRule_218 (lv_at hl 0 rfl) ?_
      refine lv_iconst (v := (-1)) hx hb dX7_doRule_220 (by decide) ?_
      refine lv_icmp_eq (tgt := 253) hx hb dX7_doRule_221 (by decide) (fun h21 => ?_) (fun h21 => absurd h21 (by decide))
      refine lv_iconst (v := 0) hx hb dX7_doRule_253 (by decide) ?_
      exact p_iret C hr hlk (pe1 hf) (pe2C hf) hP hS dX7_doRule_254
    · have hf := pif_f hf h14
      by_cases h22 : r11 = 1
      · have hf := pif_t hf h22
        refine lv_tableIn (tgt := 100) (off := 68) hx hb dX7_doRule_32 (by rw [h22]; decide) (by rw [h22]; decide) (by rw [h22]; decide) (by decide) ?_
        refine lv_aload_n hx hb dX7_doRule_100 rfl (lv_at hl 3 rfl) ?_
        refine lv_iload_n hx hb dX7_doRule_101 rfl (lv_at hl 2 rfl) ?_
        refine lv_iload hx hb dX7_doRule_102 (lv_at hl 1 rfl) ?_
        obtain ⟨r23, α24, hc25, hf⟩ := pb2_ok hf
        refine p_callV (n := 2) (As := [.int r5, .int r8]) (rest := []) C hP hS (wv_7_162 C.2.2.2.2.1 _) (c_X7_make l C.2.2.2.2.2.2  hc25) (e_X7) rfl rfl hd_X7_make rfl ⟨Nat.le_of_ble_eq_true rfl, Nat.le_of_ble_eq_true rfl⟩ hl.1 rfl (Nat.le_of_ble_eq_true rfl) dX7_doRule_104 ⟨Nat.zero_le _, Nat.zero_le _⟩ (fun H locs hP hS _ _ => ?_)
        refine W.eq (g2 := F0 m 107 ls [.int r23]) rfl ?_
        refine lv_istore (lv' := [(5, .int r23), (4, .int r8), (3, .int r5), (0, .ref (pL E 2)), (1, .ref (pL E (16 + q0))), (2, .int a1)]) hx hb dX7_doRule_107 hl (by decide) rfl (fun ls hl => ?_)
        refine lv_goto (tgt := 218) hx hb dX7_doRule_109 (by decide) ?_
        refine lv_iload hx hb dX7_doRule_218 (lv_at hl 0 rfl) ?_
        refine lv_iconst (v := (-1)) hx hb dX7_doRule_220 (by decide) ?_
        refine lv_icmp_eq (tgt := 253) hx hb dX7_doRule_221 (by decide) (fun h26 => ?_) (fun h26 => ?_)
        · have hf := pif_t hf h26
          refine lv_iconst (v := 0) hx hb dX7_doRule_253 (by decide) ?_
          exact p_iret C hr hlk (pe1 hf) (pe2C hf) hP hS dX7_doRule_254
        · have hf := pif_f hf h26
          refine lv_aload_n hx hb dX7_doRule_224 rfl (lv_at hl 3 rfl) ?_
          refine g_7_28 C hP dX7_doRule_225 ?_
          refine lv_iload hx hb dX7_doRule_228 (lv_at hl 0 rfl) ?_
          refine lv_aload_n hx hb dX7_doRule_230 rfl (lv_at hl 3 rfl) ?_
          refine g_7_118 C hP dX7_doRule_231 ?_
          refine lv_aload_n hx hb dX7_doRule_234 rfl (lv_at hl 3 rfl) ?_
          refine g_7_21 C hP dX7_doRule_235 ?_
          refine lv_aload_n hx hb dX7_doRule_238 rfl (lv_at hl 3 rfl) ?_
          refine g_7_121 C hP dX7_doRule_239 ?_
          obtain ⟨r27, α28, hc29, hf⟩ := pb2_ok hf
          refine p_callV (n := 1) (As := [.int (α24 20 0)]) (rest := [.int (α24 19 0), .int r23, .ref (pL E 6)]) C hP hS (wv_7_179 C.2.2.2.2.1 _) (c_X8_nameOf l C.2.2.2.2.2.2  hc29) (e_X8) rfl rfl hd_X8_nameOf rfl ⟨Nat.le_of_ble_eq_true rfl, Nat.le_of_ble_eq_true rfl⟩ hl.1 rfl (Nat.le_of_ble_eq_true rfl) dX7_doRule_242 ⟨Nat.zero_le _, Nat.zero_le _⟩ (fun H locs hP hS _ _ => ?_)
          refine W.eq (g2 := F0 m 245 ls [.int r27, .int (α24 19 0), .int r23, .ref (pL E 6)]) rfl ?_
          refine lv_iload_n hx hb dX7_doRule_245 rfl (lv_at hl 2 rfl) ?_
          refine lv_aload_n hx hb dX7_doRule_246 rfl (lv_at hl 3 rfl) ?_
          refine g_7_103 C hP dX7_doRule_247 ?_
          obtain ⟨r30, α31, hc32, hf⟩ := pb2_ok hf
          refine p_callV (n := 5) (As := [.int r23, .int (α24 19 0), .int r27, .int r5, .int (α28 21 0)]) (rest := []) C hP hS (wv_7_182 C.2.2.2.2.1 _) (c_X1_append l C.2.2.2.2.2.2  hc32) (e_X1) rfl rfl hd_X1_append rfl ⟨Nat.le_of_ble_eq_true rfl, Nat.le_of_ble_eq_true rfl⟩ hl.1 rfl (Nat.le_of_ble_eq_true rfl) dX7_doRule_250 ⟨Nat.zero_le _, Nat.zero_le _⟩ (fun H locs hP hS _ _ => ?_)
          refine W.eq (g2 := F0 m 253 ls []) rfl ?_
          refine lv_iconst (v := 0) hx hb dX7_doRule_253 (by decide) ?_
          exact p_iret C hr hlk (pe1 hf) (pe2C hf) hP hS dX7_doRule_254
      · have hf := pif_f hf h22
        by_cases h33 : r11 = 2
        · have hf := pif_t hf h33
          refine lv_tableIn (tgt := 112) (off := 80) hx hb dX7_doRule_32 (by rw [h33]; decide) (by rw [h33]; decide) (by rw [h33]; decide) (by decide) ?_
          refine lv_iload hx hb dX7_doRule_112 (lv_at hl 1 rfl) ?_
          refine lv_istore (lv' := [(5, .int r8), (4, .int r8), (3, .int r5), (0, .ref (pL E 2)), (1, .ref (pL E (16 + q0))), (2, .int a1)]) hx hb dX7_doRule_114 hl (by decide) rfl (fun ls hl => ?_)
          refine lv_goto (tgt := 218) hx hb dX7_doRule_116 (by decide) ?_
          refine lv_iload hx hb dX7_doRule_218 (lv_at hl 0 rfl) ?_
          refine lv_iconst (v := (-1)) hx hb dX7_doRule_220 (by decide) ?_
          refine lv_icmp_eq (tgt := 253) hx hb dX7_doRule_221 (by decide) (fun h34 => ?_) (fun h34 => ?_)
          · have hf := pif_t hf h34
            refine lv_iconst (v := 0) hx hb dX7_doRule_253 (by decide) ?_
            exact p_iret C hr hlk (pe1 hf) (pe2C hf) hP hS dX7_doRule_254
          · have hf := pif_f hf h34
            refine lv_aload_n hx hb dX7_doRule_224 rfl (lv_at hl 3 rfl) ?_
            refine g_7_28 C hP dX7_doRule_225 ?_
            refine lv_iload hx hb dX7_doRule_228 (lv_at hl 0 rfl) ?_
            refine lv_aload_n hx hb dX7_doRule_230 rfl (lv_at hl 3 rfl) ?_
            refine g_7_118 C hP dX7_doRule_231 ?_
            refine lv_aload_n hx hb dX7_doRule_234 rfl (lv_at hl 3 rfl) ?_
            refine g_7_21 C hP dX7_doRule_235 ?_
            refine lv_aload_n hx hb dX7_doRule_238 rfl (lv_at hl 3 rfl) ?_
            refine g_7_121 C hP dX7_doRule_239 ?_
            obtain ⟨r35, α36, hc37, hf⟩ := pb2_ok hf
            refine p_callV (n := 1) (As := [.int (α12 20 0)]) (rest := [.int (α12 19 0), .int r8, .ref (pL E 6)]) C hP hS (wv_7_179 C.2.2.2.2.1 _) (c_X8_nameOf l C.2.2.2.2.2.2  hc37) (e_X8) rfl rfl hd_X8_nameOf rfl ⟨Nat.le_of_ble_eq_true rfl, Nat.le_of_ble_eq_true rfl⟩ hl.1 rfl (Nat.le_of_ble_eq_true rfl) dX7_doRule_242 ⟨Nat.zero_le _, Nat.zero_le _⟩ (fun H locs hP hS _ _ => ?_)
            refine W.eq (g2 := F0 m 245 ls [.int r35, .int (α12 19 0), .int r8, .ref (pL E 6)]) rfl ?_
            refine lv_iload_n hx hb dX7_doRule_245 rfl (lv_at hl 2 rfl) ?_
            refine lv_aload_n hx hb dX7_doRule_246 rfl (lv_at hl 3 rfl) ?_
            refine g_7_103 C hP dX7_doRule_247 ?_
            obtain ⟨r38, α39, hc40, hf⟩ := pb2_ok hf
            refine p_callV (n := 5) (As := [.int r8, .int (α12 19 0), .int r35, .int r5, .int (α36 21 0)]) (rest := []) C hP hS (wv_7_182 C.2.2.2.2.1 _) (c_X1_append l C.2.2.2.2.2.2  hc40) (e_X1) rfl rfl hd_X1_append rfl ⟨Nat.le_of_ble_eq_true rfl, Nat.le_of_ble_eq_true rfl⟩ hl.1 rfl (Nat.le_of_ble_eq_true rfl) dX7_doRule_250 ⟨Nat.zero_le _, Nat.zero_le _⟩ (fun H locs hP hS _ _ => ?_)
            refine W.eq (g2 := F0 m 253 ls []) rfl ?_
            refine lv_iconst (v := 0) hx hb dX7_doRule_253 (by decide) ?_
            exact p_iret C hr hlk (pe1 hf) (pe2C hf) hP hS dX7_doRule_254
        · have hf := pif_f hf h33
          by_cases h41 : r11 = 3
          · have hf := pif_t hf h41
            refine lv_tableIn (tgt := 119) (off := 87) hx hb dX7_doRule_32 (by rw [h41]; decide) (by rw [h41]; decide) (by rw [h41]; decide) (by decide) ?_
            refine lv_aload_n hx hb dX7_doRule_119 rfl (lv_at hl 4 rfl) ?_
            refine lv_dup hx hb dX7_doRule_120 rfl ?_
            refine g_7_166 C hP (k := q0) hq0 dX7_doRule_121 ?_
            refine lv_iload_n hx hb dX7_doRule_124 rfl (lv_at hl 2 rfl) ?_
            refine lv_bipush (v := 127) hx hb dX7_doRule_125 (by decide) ?_
            refine lv_icmp_le (tgt := 140) hx hb dX7_doRule_127 (by decide) (fun h42 => ?_) (fun h42 => ?_)
            · have hf := pif_t hf h42
              refine lv_iload_n hx hb dX7_doRule_140 rfl (lv_at hl 2 rfl) ?_
              refine lv_iadd hx hb dX7_doRule_141 ?_
              refine s_7_166 C hP hS (k := q0) hq0 dX7_doRule_142 (fun H locs hP hS => ?_)
              obtain ⟨α43, eα43, hf⟩ := pl_ok hf
              rw [← eα43] at hP
              clear eα43
              refine lv_goto (tgt := 218) hx hb dX7_doRule_145 (by decide) ?_
              refine lv_iload hx hb dX7_doRule_218 (lv_at hl 0 rfl) ?_
              refine lv_iconst (v := (-1)) hx hb dX7_doRule_220 (by decide) ?_
              refine lv_icmp_eq (tgt := 253) hx hb dX7_doRule_221 (by decide) (fun h44 => ?_) (fun h44 => absurd h44 (by decide))
              refine lv_iconst (v := 0) hx hb dX7_doRule_253 (by decide) ?_
              exact p_iret C hr hlk (pe1 hf) (pe2C hf) hP hS dX7_doRule_254
            · have hf := pif_f hf h42
              refine lv_iload_n hx hb dX7_doRule_130 rfl (lv_at hl 2 rfl) ?_
              refine lv_sipush (v := 255) hx hb dX7_doRule_131 (by decide) ?_
              refine lv_isub hx hb dX7_doRule_134 ?_
              refine lv_iconst (v := 1) hx hb dX7_doRule_135 (by decide) ?_
              refine lv_isub hx hb dX7_doRule_136 ?_
              refine lv_goto (tgt := 141) hx hb dX7_doRule_137 (by decide) ?_
              refine lv_iadd hx hb dX7_doRule_141 ?_
              refine s_7_166 C hP hS (k := q0) hq0 dX7_doRule_142 (fun H locs hP hS => ?_)
              obtain ⟨α45, eα45, hf⟩ := pl_ok hf
              rw [← eα45] at hP
              clear eα45
              refine lv_goto (tgt := 218) hx hb dX7_doRule_145 (by decide) ?_
              refine lv_iload hx hb dX7_doRule_218 (lv_at hl 0 rfl) ?_
              refine lv_iconst (v := (-1)) hx hb dX7_doRule_220 (by decide) ?_
              refine lv_icmp_eq (tgt := 253) hx hb dX7_doRule_221 (by decide) (fun h46 => ?_) (fun h46 => absurd h46 (by decide))
              refine lv_iconst (v := 0) hx hb dX7_doRule_253 (by decide) ?_
              exact p_iret C hr hlk (pe1 hf) (pe2C hf) hP hS dX7_doRule_254
          · have hf := pif_f hf h41
            by_cases h47 : r11 = 4
            · have hf := pif_t hf h47
              refine lv_tableIn (tgt := 148) (off := 116) hx hb dX7_doRule_32 (by rw [h47]; decide) (by rw [h47]; decide) (by rw [h47]; decide) (by decide) ?_
              refine lv_iconst (v := 5) hx hb dX7_doRule_148 (by decide) ?_
              refine lv_istore (lv' := [(5, .int 5), (4, .int r8), (3, .int r5), (0, .ref (pL E 2)), (1, .ref (pL E (16 + q0))), (2, .int a1)]) hx hb dX7_doRule_149 hl (by decide) rfl (fun ls hl => ?_)
              refine lv_aload_n hx hb dX7_doRule_151 rfl (lv_at hl 3 rfl) ?_
              refine lv_aload_n hx hb dX7_doRule_152 rfl (lv_at hl 4 rfl) ?_
              obtain ⟨r48, α49, hc50, hf⟩ := pb2_ok hf
              refine p_callV (n := 1) (As := [.ref (pL E (16 + q0))]) (rest := []) C hP hS (wv_7_169 C.2.2.2.2.1 _) (c_X7_stop l C.2.2.2.2.2.2 (q0 := q0) hq0 hc50) (e_X7) rfl rfl hd_X7_stop rfl ⟨Nat.le_of_ble_eq_true rfl, Nat.le_of_ble_eq_true rfl⟩ hl.1 rfl (Nat.le_of_ble_eq_true rfl) dX7_doRule_153 ⟨Nat.zero_le _, Nat.zero_le _⟩ (fun H locs hP hS _ _ => ?_)
              refine W.eq (g2 := F0 m 156 ls []) rfl ?_
              refine lv_goto (tgt := 218) hx hb dX7_doRule_156 (by decide) ?_
              refine lv_iload hx hb dX7_doRule_218 (lv_at hl 0 rfl) ?_
              refine lv_iconst (v := (-1)) hx hb dX7_doRule_220 (by decide) ?_
              refine lv_icmp_eq (tgt := 253) hx hb dX7_doRule_221 (by decide) (fun h51 => absurd h51 (by decide)) (fun h51 => ?_)
              refine lv_aload_n hx hb dX7_doRule_224 rfl (lv_at hl 3 rfl) ?_
              refine g_7_28 C hP dX7_doRule_225 ?_
              refine lv_iload hx hb dX7_doRule_228 (lv_at hl 0 rfl) ?_
              refine lv_aload_n hx hb dX7_doRule_230 rfl (lv_at hl 3 rfl) ?_
              refine g_7_118 C hP dX7_doRule_231 ?_
              refine lv_aload_n hx hb dX7_doRule_234 rfl (lv_at hl 3 rfl) ?_
              refine g_7_21 C hP dX7_doRule_235 ?_
              refine lv_aload_n hx hb dX7_doRule_238 rfl (lv_at hl 3 rfl) ?_
              refine g_7_121 C hP dX7_doRule_239 ?_
              obtain ⟨r52, α53, hc54, hf⟩ := pb2_ok hf
              refine p_callV (n := 1) (As := [.int (α49 20 0)]) (rest := [.int (α49 19 0), .int 5, .ref (pL E 6)]) C hP hS (wv_7_179 C.2.2.2.2.1 _) (c_X8_nameOf l C.2.2.2.2.2.2  hc54) (e_X8) rfl rfl hd_X8_nameOf rfl ⟨Nat.le_of_ble_eq_true rfl, Nat.le_of_ble_eq_true rfl⟩ hl.1 rfl (Nat.le_of_ble_eq_true rfl) dX7_doRule_242 ⟨Nat.zero_le _, Nat.zero_le _⟩ (fun H locs hP hS _ _ => ?_)
              refine W.eq (g2 := F0 m 245 ls [.int r52, .int (α49 19 0), .int 5, .ref (pL E 6)]) rfl ?_
              refine lv_iload_n hx hb dX7_doRule_245 rfl (lv_at hl 2 rfl) ?_
              refine lv_aload_n hx hb dX7_doRule_246 rfl (lv_at hl 3 rfl) ?_
              refine g_7_103 C hP dX7_doRule_247 ?_
              obtain ⟨r55, α56, hc57, hf⟩ := pb2_ok hf
              refine p_callV (n := 5) (As := [.int 5, .int (α49 19 0), .int r52, .int r5, .int (α53 21 0)]) (rest := []) C hP hS (wv_7_182 C.2.2.2.2.1 _) (c_X1_append l C.2.2.2.2.2.2  hc57) (e_X1) rfl rfl hd_X1_append rfl ⟨Nat.le_of_ble_eq_true rfl, Nat.le_of_ble_eq_true rfl⟩ hl.1 rfl (Nat.le_of_ble_eq_true rfl) dX7_doRule_250 ⟨Nat.zero_le _, Nat.zero_le _⟩ (fun H locs hP hS _ _ => ?_)
              refine W.eq (g2 := F0 m 253 ls []) rfl ?_
              refine lv_iconst (v := 0) hx hb dX7_doRule_253 (by decide) ?_
              exact p_iret C hr hlk (pe1 hf) (pe2C hf) hP hS dX7_doRule_254
            · have hf := pif_f hf h47
              by_cases h58 : r11 = 5
              · have hf := pif_t hf h58
                refine lv_tableIn (tgt := 159) (off := 127) hx hb dX7_doRule_32 (by rw [h58]; decide) (by rw [h58]; decide) (by rw [h58]; decide) (by decide) ?_
                refine lv_aload_n hx hb dX7_doRule_159 rfl (lv_at hl 3 rfl) ?_
                refine lv_aload_n hx hb dX7_doRule_160 rfl (lv_at hl 4 rfl) ?_
                refine lv_iload_n hx hb dX7_doRule_161 rfl (lv_at hl 2 rfl) ?_
                refine lv_iload hx hb dX7_doRule_162 (lv_at hl 1 rfl) ?_
                refine lv_imul hx hb dX7_doRule_164 ?_
                obtain ⟨r59, α60, hc61, hf⟩ := pb2_ok hf
                refine p_callV (n := 2) (As := [.ref (pL E (16 + q0)), .int (r5 * r8)]) (rest := []) C hP hS (wv_7_146 C.2.2.2.2.1 _) (c_X7_takeSteps l C.2.2.2.2.2.2 (q0 := q0) hq0 hc61) (e_X7) rfl rfl hd_X7_takeSteps rfl ⟨Nat.le_of_ble_eq_true rfl, Nat.le_of_ble_eq_true rfl⟩ hl.1 rfl (Nat.le_of_ble_eq_true rfl) dX7_doRule_165 ⟨Nat.zero_le _, Nat.zero_le _⟩ (fun H locs hP hS _ _ => ?_)
                refine W.eq (g2 := F0 m 168 ls [.int r59]) rfl ?_
                refine lv_pop hx hb dX7_doRule_168 rfl ?_
                refine lv_goto (tgt := 218) hx hb dX7_doRule_169 (by decide) ?_
                refine lv_iload hx hb dX7_doRule_218 (lv_at hl 0 rfl) ?_
                refine lv_iconst (v := (-1)) hx hb dX7_doRule_220 (by decide) ?_
                refine lv_icmp_eq (tgt := 253) hx hb dX7_doRule_221 (by decide) (fun h62 => ?_) (fun h62 => absurd h62 (by decide))
                refine lv_iconst (v := 0) hx hb dX7_doRule_253 (by decide) ?_
                exact p_iret C hr hlk (pe1 hf) (pe2C hf) hP hS dX7_doRule_254
              · have hf := pif_f hf h58
                by_cases h63 : r11 = 6
                · have hf := pif_t hf h63
                  refine lv_tableIn (tgt := 172) (off := 140) hx hb dX7_doRule_32 (by rw [h63]; decide) (by rw [h63]; decide) (by rw [h63]; decide) (by decide) ?_
                  refine lv_bipush (v := 6) hx hb dX7_doRule_172 (by decide) ?_
                  refine lv_istore (lv' := [(5, .int 6), (4, .int r8), (3, .int r5), (0, .ref (pL E 2)), (1, .ref (pL E (16 + q0))), (2, .int a1)]) hx hb dX7_doRule_174 hl (by decide) rfl (fun ls hl => ?_)
                  refine lv_goto (tgt := 218) hx hb dX7_doRule_176 (by decide) ?_
                  refine lv_iload hx hb dX7_doRule_218 (lv_at hl 0 rfl) ?_
                  refine lv_iconst (v := (-1)) hx hb dX7_doRule_220 (by decide) ?_
                  refine lv_icmp_eq (tgt := 253) hx hb dX7_doRule_221 (by decide) (fun h64 => absurd h64 (by decide)) (fun h64 => ?_)
                  refine lv_aload_n hx hb dX7_doRule_224 rfl (lv_at hl 3 rfl) ?_
                  refine g_7_28 C hP dX7_doRule_225 ?_
                  refine lv_iload hx hb dX7_doRule_228 (lv_at hl 0 rfl) ?_
                  refine lv_aload_n hx hb dX7_doRule_230 rfl (lv_at hl 3 rfl) ?_
                  refine g_7_118 C hP dX7_doRule_231 ?_
                  refine lv_aload_n hx hb dX7_doRule_234 rfl (lv_at hl 3 rfl) ?_
                  refine g_7_21 C hP dX7_doRule_235 ?_
                  refine lv_aload_n hx hb dX7_doRule_238 rfl (lv_at hl 3 rfl) ?_
                  refine g_7_121 C hP dX7_doRule_239 ?_
                  obtain ⟨r65, α66, hc67, hf⟩ := pb2_ok hf
                  refine p_callV (n := 1) (As := [.int (α12 20 0)]) (rest := [.int (α12 19 0), .int 6, .ref (pL E 6)]) C hP hS (wv_7_179 C.2.2.2.2.1 _) (c_X8_nameOf l C.2.2.2.2.2.2  hc67) (e_X8) rfl rfl hd_X8_nameOf rfl ⟨Nat.le_of_ble_eq_true rfl, Nat.le_of_ble_eq_true rfl⟩ hl.1 rfl (Nat.le_of_ble_eq_true rfl) dX7_doRule_242 ⟨Nat.zero_le _, Nat.zero_le _⟩ (fun H locs hP hS _ _ => ?_)
                  refine W.eq (g2 := F0 m 245 ls [.int r65, .int (α12 19 0), .int 6, .ref (pL E 6)]) rfl ?_
                  refine lv_iload_n hx hb dX7_doRule_245 rfl (lv_at hl 2 rfl) ?_
                  refine lv_aload_n hx hb dX7_doRule_246 rfl (lv_at hl 3 rfl) ?_
                  refine g_7_103 C hP dX7_doRule_247 ?_
                  obtain ⟨r68, α69, hc70, hf⟩ := pb2_ok hf
                  refine p_callV (n := 5) (As := [.int 6, .int (α12 19 0), .int r65, .int r5, .int (α66 21 0)]) (rest := []) C hP hS (wv_7_182 C.2.2.2.2.1 _) (c_X1_append l C.2.2.2.2.2.2  hc70) (e_X1) rfl rfl hd_X1_append rfl ⟨Nat.le_of_ble_eq_true rfl, Nat.le_of_ble_eq_true rfl⟩ hl.1 rfl (Nat.le_of_ble_eq_true rfl) dX7_doRule_250 ⟨Nat.zero_le _, Nat.zero_le _⟩ (fun H locs hP hS _ _ => ?_)
                  refine W.eq (g2 := F0 m 253 ls []) rfl ?_
                  refine lv_iconst (v := 0) hx hb dX7_doRule_253 (by decide) ?_
                  exact p_iret C hr hlk (pe1 hf) (pe2C hf) hP hS dX7_doRule_254
                · have hf := pif_f hf h63
                  by_cases h71 : r11 = 7
                  · have hf := pif_t hf h71
                    refine lv_tableIn (tgt := 179) (off := 147) hx hb dX7_doRule_32 (by rw [h71]; decide) (by rw [h71]; decide) (by rw [h71]; decide) (by decide) ?_
                    refine lv_aload_n hx hb dX7_doRule_179 rfl (lv_at hl 3 rfl) ?_
                    refine lv_iload_n hx hb dX7_doRule_180 rfl (lv_at hl 2 rfl) ?_
                    refine lv_iload hx hb dX7_doRule_181 (lv_at hl 1 rfl) ?_
                    obtain ⟨r72, α73, hc74, hf⟩ := pb2_ok hf
                    refine p_callV (n := 2) (As := [.int r5, .int r8]) (rest := []) C hP hS (wv_7_173 C.2.2.2.2.1 _) (c_X7_write l C.2.2.2.2.2.2  hc74) (e_X7) rfl rfl hd_X7_write rfl ⟨Nat.le_of_ble_eq_true rfl, Nat.le_of_ble_eq_true rfl⟩ hl.1 rfl (Nat.le_of_ble_eq_true rfl) dX7_doRule_183 ⟨Nat.zero_le _, Nat.zero_le _⟩ (fun H locs hP hS _ _ => ?_)
                    refine W.eq (g2 := F0 m 186 ls [.int r72]) rfl ?_
                    refine lv_istore (lv' := [(5, .int r72), (4, .int r8), (3, .int r5), (0, .ref (pL E 2)), (1, .ref (pL E (16 + q0))), (2, .int a1)]) hx hb dX7_doRule_186 hl (by decide) rfl (fun ls hl => ?_)
                    refine lv_goto (tgt := 218) hx hb dX7_doRule_188 (by decide) ?_
                    refine lv_iload hx hb dX7_doRule_218 (lv_at hl 0 rfl) ?_
                    refine lv_iconst (v := (-1)) hx hb dX7_doRule_220 (by decide) ?_
                    refine lv_icmp_eq (tgt := 253) hx hb dX7_doRule_221 (by decide) (fun h75 => ?_) (fun h75 => ?_)
                    · have hf := pif_t hf h75
                      refine lv_iconst (v := 0) hx hb dX7_doRule_253 (by decide) ?_
                      exact p_iret C hr hlk (pe1 hf) (pe2C hf) hP hS dX7_doRule_254
                    · have hf := pif_f hf h75
                      refine lv_aload_n hx hb dX7_doRule_224 rfl (lv_at hl 3 rfl) ?_
                      refine g_7_28 C hP dX7_doRule_225 ?_
                      refine lv_iload hx hb dX7_doRule_228 (lv_at hl 0 rfl) ?_
                      refine lv_aload_n hx hb dX7_doRule_230 rfl (lv_at hl 3 rfl) ?_
                      refine g_7_118 C hP dX7_doRule_231 ?_
                      refine lv_aload_n hx hb dX7_doRule_234 rfl (lv_at hl 3 rfl) ?_
                      refine g_7_21 C hP dX7_doRule_235 ?_
                      refine lv_aload_n hx hb dX7_doRule_238 rfl (lv_at hl 3 rfl) ?_
                      refine g_7_121 C hP dX7_doRule_239 ?_
                      obtain ⟨r76, α77, hc78, hf⟩ := pb2_ok hf
                      refine p_callV (n := 1) (As := [.int (α73 20 0)]) (rest := [.int (α73 19 0), .int r72, .ref (pL E 6)]) C hP hS (wv_7_179 C.2.2.2.2.1 _) (c_X8_nameOf l C.2.2.2.2.2.2  hc78) (e_X8) rfl rfl hd_X8_nameOf rfl ⟨Nat.le_of_ble_eq_true rfl, Nat.le_of_ble_eq_true rfl⟩ hl.1 rfl (Nat.le_of_ble_eq_true rfl) dX7_doRule_242 ⟨Nat.zero_le _, Nat.zero_le _⟩ (fun H locs hP hS _ _ => ?_)
                      refine W.eq (g2 := F0 m 245 ls [.int r76, .int (α73 19 0), .int r72, .ref (pL E 6)]) rfl ?_
                      refine lv_iload_n hx hb dX7_doRule_245 rfl (lv_at hl 2 rfl) ?_
                      refine lv_aload_n hx hb dX7_doRule_246 rfl (lv_at hl 3 rfl) ?_
                      refine g_7_103 C hP dX7_doRule_247 ?_
                      obtain ⟨r79, α80, hc81, hf⟩ := pb2_ok hf
                      refine p_callV (n := 5) (As := [.int r72, .int (α73 19 0), .int r76, .int r5, .int (α77 21 0)]) (rest := []) C hP hS (wv_7_182 C.2.2.2.2.1 _) (c_X1_append l C.2.2.2.2.2.2  hc81) (e_X1) rfl rfl hd_X1_append rfl ⟨Nat.le_of_ble_eq_true rfl, Nat.le_of_ble_eq_true rfl⟩ hl.1 rfl (Nat.le_of_ble_eq_true rfl) dX7_doRule_250 ⟨Nat.zero_le _, Nat.zero_le _⟩ (fun H locs hP hS _ _ => ?_)
                      refine W.eq (g2 := F0 m 253 ls []) rfl ?_
                      refine lv_iconst (v := 0) hx hb dX7_doRule_253 (by decide) ?_
                      exact p_iret C hr hlk (pe1 hf) (pe2C hf) hP hS dX7_doRule_254
                  · have hf := pif_f hf h71
                    by_cases h82 : r11 = 8
                    · have hf := pif_t hf h82
                      refine lv_tableIn (tgt := 191) (off := 159) hx hb dX7_doRule_32 (by rw [h82]; decide) (by rw [h82]; decide) (by rw [h82]; decide) (by decide) ?_
                      refine lv_aload_n hx hb dX7_doRule_191 rfl (lv_at hl 4 rfl) ?_
                      refine g_7_166 C hP (k := q0) hq0 dX7_doRule_192 ?_
                      refine lv_iload_n hx hb dX7_doRule_195 rfl (lv_at hl 2 rfl) ?_
                      refine lv_icmp_lt (tgt := 204) hx hb dX7_doRule_196 (by decide) (fun h83 => ?_) (fun h83 => ?_)
                      · have hf := pif_t hf h83
                        refine lv_iconst (v := 0) hx hb dX7_doRule_204 (by decide) ?_
                        exact p_iret C hr hlk (pe1 hf) (pe2C hf) hP hS dX7_doRule_205
                      · have hf := pif_f hf h83
                        refine lv_iload hx hb dX7_doRule_199 (lv_at hl 1 rfl) ?_
                        refine lv_goto (tgt := 205) hx hb dX7_doRule_201 (by decide) ?_
                        exact p_iret C hr hlk (pe1 hf) (pe2C hf) hP hS dX7_doRule_205
                    · have hf := pif_f hf h82
                      by_cases h84 : r11 = 9
                      · have hf := pif_t hf h84
                        refine lv_tableIn (tgt := 206) (off := 174) hx hb dX7_doRule_32 (by rw [h84]; decide) (by rw [h84]; decide) (by rw [h84]; decide) (by decide) ?_
                        refine lv_aload_n hx hb dX7_doRule_206 rfl (lv_at hl 4 rfl) ?_
                        refine lv_aload_n hx hb dX7_doRule_207 rfl (lv_at hl 3 rfl) ?_
                        refine lv_iload_n hx hb dX7_doRule_208 rfl (lv_at hl 2 rfl) ?_
                        obtain ⟨r85, α86, hc87, hf⟩ := pb2_ok hf
                        refine p_callV (n := 1) (As := [.int r5]) (rest := [.ref (pL E (16 + q0))]) C hP hS (wv_7_176 C.2.2.2.2.1 _) (c_X7_optionAt l C.2.2.2.2.2.2  hc87) (e_X7) rfl rfl hd_X7_optionAt rfl ⟨Nat.le_of_ble_eq_true rfl, Nat.le_of_ble_eq_true rfl⟩ hl.1 rfl (Nat.le_of_ble_eq_true rfl) dX7_doRule_209 ⟨Nat.zero_le _, Nat.zero_le _⟩ (fun H locs hP hS _ _ => ?_)
                        refine W.eq (g2 := F0 m 212 ls [.int r85, .ref (pL E (16 + q0))]) rfl ?_
                        refine s_7_166 C hP hS (k := q0) hq0 dX7_doRule_212 (fun H locs hP hS => ?_)
                        obtain ⟨α88, eα88, hf⟩ := pl_ok hf
                        rw [← eα88] at hP
                        clear eα88
                        refine lv_goto (tgt := 218) hx hb dX7_doRule_215 (by decide) ?_
                        refine lv_iload hx hb dX7_doRule_218 (lv_at hl 0 rfl) ?_
                        refine lv_iconst (v := (-1)) hx hb dX7_doRule_220 (by decide) ?_
                        refine lv_icmp_eq (tgt := 253) hx hb dX7_doRule_221 (by decide) (fun h89 => ?_) (fun h89 => absurd h89 (by decide))
                        refine lv_iconst (v := 0) hx hb dX7_doRule_253 (by decide) ?_
                        exact p_iret C hr hlk (pe1 hf) (pe2C hf) hP hS dX7_doRule_254
                      · have hf := pif_f hf h84
                        refine lv_tableOut (tgt := 218) hx hb dX7_doRule_32 (by have z0 := lv_neT (a := 0) h14 rfl; have z1 := lv_neT (a := 1) h22 rfl; have z2 := lv_neT (a := 2) h33 rfl; have z3 := lv_neT (a := 3) h41 rfl; have z4 := lv_neT (a := 4) h47 rfl; have z5 := lv_neT (a := 5) h58 rfl; have z6 := lv_neT (a := 6) h63 rfl; have z7 := lv_neT (a := 7) h71 rfl; have z8 := lv_neT (a := 8) h82 rfl; have z9 := lv_neT (a := 9) h84 rfl; omega) (by decide) ?_
                        refine lv_iload hx hb dX7_doRule_218 (lv_at hl 0 rfl) ?_
                        refine lv_iconst (v := (-1)) hx hb dX7_doRule_220 (by decide) ?_
                        refine lv_icmp_eq (tgt := 253) hx hb dX7_doRule_221 (by decide) (fun h90 => ?_) (fun h90 => absurd h90 (by decide))
                        refine lv_iconst (v := 0) hx hb dX7_doRule_253 (by decide) ?_
                        exact p_iret C hr hlk (pe1 hf) (pe2C hf) hP hS dX7_doRule_254
  · have hf := pif_t hf h4
    refine lv_iconst (v := 0) hx hb dX7_doRule_9 (by decide) ?_
    exact p_iret C hr hlk (pe1 hf) (pe2C hf) hP hS dX7_doRule_10
