set_option maxHeartbeats 4000000 in
set_option maxRecDepth 100000 in
theorem c_X9_judge (l : Launch) {E : pE} (hE : pInj E) {β : pSt} {a0 : Int32} {α α' : pSt} {r : Int32} (hf : f_X9_judge a0 α = some (r, α')) : pM l E yX9_judge cX9_judge 3 (some .int) 3 [.ref (pL E 0), .int a0] α β (some (.int r)) α' β := by
  refine pM.ofW hE (by decide) ?_ (Nat.le_of_ble_eq_true rfl)
  intro p e s m below meth c ls C hr hlk hP hl
  have C : pCx p s m c cX9_judge 3 E RX9 := C
  have hS : va_S (pA E s.heap.size) s.heap s.heap [] := va_S.rf
  have hx := C.1
  have hb := C.2.1
  have hl : lv_has ls 3 [(0, .ref (pL E 0)), (1, .int a0)] := hl
  unfold f_X9_judge at hf
  refine lv_aload_n hx hb dX9_judge_0 rfl (lv_at hl 0 rfl) ?_
  refine lv_iload_n hx hb dX9_judge_1 rfl (lv_at hl 1 rfl) ?_
  obtain ⟨r1, α2, hc3, hf⟩ := pb2_ok hf
  refine p_callV (n := 1) (As := [.int a0]) (rest := []) C hP hS (wv_9_68 C.2.2.2.2.1 _) (c_X9_fileAt l C.2.2.2.2.2.2  hc3) (e_X9) rfl rfl hd_X9_fileAt rfl ⟨Nat.le_of_ble_eq_true rfl, Nat.le_of_ble_eq_true rfl⟩ hl.1 rfl (Nat.le_of_ble_eq_true rfl) dX9_judge_2 ⟨Nat.zero_le _, Nat.zero_le _⟩ (fun H locs hP hS _ _ => ?_)
  rcases r1 with _ | i4
  · have hf := pO_n hf
    refine W.eq (g2 := F0 m 5 ls [.null]) rfl ?_
    refine lv_astore_nN (lv' := [(2, .null), (0, .ref (pL E 0)), (1, .int a0)]) hx hb dX9_judge_5 rfl hl (by decide) rfl (fun ls hl => ?_)
    refine lv_aload_nN hx hb dX9_judge_6 rfl (lv_at hl 0 rfl) ?_
    refine lv_ifnonnullN hx hb dX9_judge_7 ?_
    refine lv_bipush (v := (-101)) hx hb dX9_judge_10 (by decide) ?_
    refine lv_goto (tgt := 22) hx hb dX9_judge_12 (by decide) ?_
    exact p_iret C hr hlk (pe1 hf) (pe2C hf) hP hS dX9_judge_22
  · have hf := pO_s hf
    obtain ⟨h5, hf⟩ := pg_ok hf
    refine W.eq (g2 := F0 m 5 ls [.ref (pL E (10 + i4))]) rfl ?_
    refine lv_astore_n (lv' := [(2, .ref (pL E (10 + i4))), (0, .ref (pL E 0)), (1, .int a0)]) hx hb dX9_judge_5 rfl hl (by decide) rfl (fun ls hl => ?_)
    refine lv_aload_n hx hb dX9_judge_6 rfl (lv_at hl 0 rfl) ?_
    refine lv_ifnonnull (tgt := 15) hx hb dX9_judge_7 (by decide) ?_
    refine lv_aload_n hx hb dX9_judge_15 rfl (lv_at hl 0 rfl) ?_
    refine g_9_72 C hP (k := i4) (of_decide_eq_true h5) dX9_judge_16 ?_
    obtain ⟨r6, α7, hc8, hf⟩ := pb2_ok hf
    refine p_callS (n := 1) (As := [.ref (pL E (22 + (1 + i4)))]) (rest := []) C hP hS (wv_9_114 C.2.2.2.2.1 _) (c_X0_firstBroken l C.2.2.2.2.2.2 (q0 := (1 + i4)) (pr1 (of_decide_eq_true h5)) hc8) hd_X0_firstBroken rfl ⟨Nat.le_of_ble_eq_true rfl, Nat.le_of_ble_eq_true rfl⟩ hl.1 rfl (Nat.le_of_ble_eq_true rfl) dX9_judge_19 ⟨Nat.zero_le _, Nat.zero_le _⟩ (fun H locs hP hS _ _ => ?_)
    refine W.eq (g2 := F0 m 22 ls [.int r6]) rfl ?_
    exact p_iret C hr hlk (pe1 hf) (pe2C hf) hP hS dX9_judge_22
set_option maxHeartbeats 4000000 in
set_option maxRecDepth 100000 in
theorem c_X9_define (l : Launch) {E : pE} (hE : pInj E) {β : pSt} {a0 : Int32} {α α' : pSt} {r : Int32} (hf : f_X9_define a0 α = some (r, α')) : pM l E yX9_define cX9_define 4 (some .int) 3 [.ref (pL E 0), .int a0] α β (some (.int r)) α' β := by
  refine pM.ofW hE (by decide) ?_ (Nat.le_of_ble_eq_true rfl)
  intro p e s m below meth c ls C hr hlk hP hl
  have C : pCx p s m c cX9_define 4 E RX9 := C
  have hS : va_S (pA E s.heap.size) s.heap s.heap [] := va_S.rf
  have hx := C.1
  have hb := C.2.1
  have hl : lv_has ls 4 [(0, .ref (pL E 0)), (1, .int a0)] := hl
  unfold f_X9_define at hf
  refine lv_aload_n hx hb dX9_define_0 rfl (lv_at hl 0 rfl) ?_
  refine lv_iload_n hx hb dX9_define_1 rfl (lv_at hl 1 rfl) ?_
  obtain ⟨r1, α2, hc3, hf⟩ := pb2_ok hf
  refine p_callV (n := 1) (As := [.int a0]) (rest := []) C hP hS (wv_9_68 C.2.2.2.2.1 _) (c_X9_fileAt l C.2.2.2.2.2.2  hc3) (e_X9) rfl rfl hd_X9_fileAt rfl ⟨Nat.le_of_ble_eq_true rfl, Nat.le_of_ble_eq_true rfl⟩ hl.1 rfl (Nat.le_of_ble_eq_true rfl) dX9_define_2 ⟨Nat.zero_le _, Nat.zero_le _⟩ (fun H locs hP hS _ _ => ?_)
  rcases r1 with _ | i4
  · have hf := pO_n hf
    refine W.eq (g2 := F0 m 5 ls [.null]) rfl ?_
    refine lv_astore_nN (lv' := [(2, .null), (0, .ref (pL E 0)), (1, .int a0)]) hx hb dX9_define_5 rfl hl (by decide) rfl (fun ls hl => ?_)
    refine lv_aload_nN hx hb dX9_define_6 rfl (lv_at hl 0 rfl) ?_
    refine lv_ifnonnullN hx hb dX9_define_7 ?_
    refine lv_bipush (v := (-101)) hx hb dX9_define_10 (by decide) ?_
    exact p_iret C hr hlk (pe1 hf) (pe2C hf) hP hS dX9_define_12
  · have hf := pO_s hf
    obtain ⟨h5, hf⟩ := pg_ok hf
    refine W.eq (g2 := F0 m 5 ls [.ref (pL E (10 + i4))]) rfl ?_
    refine lv_astore_n (lv' := [(2, .ref (pL E (10 + i4))), (0, .ref (pL E 0)), (1, .int a0)]) hx hb dX9_define_5 rfl hl (by decide) rfl (fun ls hl => ?_)
    refine lv_aload_n hx hb dX9_define_6 rfl (lv_at hl 0 rfl) ?_
    refine lv_ifnonnull (tgt := 13) hx hb dX9_define_7 (by decide) ?_
    refine lv_aload_n hx hb dX9_define_13 rfl (lv_at hl 0 rfl) ?_
    refine g_9_72 C hP (k := i4) (of_decide_eq_true h5) dX9_define_14 ?_
    obtain ⟨r6, α7, hc8, hf⟩ := pb2_ok hf
    refine p_callS (n := 1) (As := [.ref (pL E (22 + (1 + i4)))]) (rest := []) C hP hS (wv_9_114 C.2.2.2.2.1 _) (c_X0_firstBroken l C.2.2.2.2.2.2 (q0 := (1 + i4)) (pr1 (of_decide_eq_true h5)) hc8) hd_X0_firstBroken rfl ⟨Nat.le_of_ble_eq_true rfl, Nat.le_of_ble_eq_true rfl⟩ hl.1 rfl (Nat.le_of_ble_eq_true rfl) dX9_define_17 ⟨Nat.zero_le _, Nat.zero_le _⟩ (fun H locs hP hS _ _ => ?_)
    refine W.eq (g2 := F0 m 20 ls [.int r6]) rfl ?_
    refine lv_istore_n (lv' := [(3, .int r6), (2, .ref (pL E (10 + i4))), (0, .ref (pL E 0)), (1, .int a0)]) hx hb dX9_define_20 rfl hl (by decide) rfl (fun ls hl => ?_)
    refine lv_iload_n hx hb dX9_define_21 rfl (lv_at hl 0 rfl) ?_
    refine lv_if_eq (tgt := 30) hx hb dX9_define_22 (by decide) (fun h9 => ?_) (fun h9 => ?_)
    · have hf := pif_t hf h9
      refine lv_aload_n hx hb dX9_define_30 rfl (lv_at hl 2 rfl) ?_
      refine g_9_41 C hP dX9_define_31 ?_
      obtain ⟨r10, α11, hc12, hf⟩ := pb2_ok hf
      refine p_callV (n := 0) (As := []) (rest := []) C hP hS (wv_9_120 C.2.2.2.2.1 _) (c_X4_isFull l C.2.2.2.2.2.2  hc12) (e_X4) rfl rfl hd_X4_isFull rfl ⟨Nat.le_of_ble_eq_true rfl, Nat.le_of_ble_eq_true rfl⟩ hl.1 rfl (Nat.le_of_ble_eq_true rfl) dX9_define_34 ⟨Nat.zero_le _, Nat.zero_le _⟩ (fun H locs hP hS _ _ => ?_)
      refine W.eq (g2 := F0 m 37 ls [.int r10]) rfl ?_
      refine lv_if_eq (tgt := 43) hx hb dX9_define_37 (by decide) (fun h13 => ?_) (fun h13 => ?_)
      · have hf := pif_t hf h13
        refine lv_aload_n hx hb dX9_define_43 rfl (lv_at hl 1 rfl) ?_
        refine g_9_106 C hP (k := i4) (of_decide_eq_true h5) dX9_define_44 ?_
        refine lv_if_eq (tgt := 55) hx hb dX9_define_47 (by decide) (fun h14 => ?_) (fun h14 => ?_)
        · have hf := pif_t hf h14
          refine lv_aload_n hx hb dX9_define_55 rfl (lv_at hl 2 rfl) ?_
          refine g_9_41 C hP dX9_define_56 ?_
          refine lv_iload_n hx hb dX9_define_59 rfl (lv_at hl 3 rfl) ?_
          refine lv_aload_n hx hb dX9_define_60 rfl (lv_at hl 1 rfl) ?_
          refine g_9_72 C hP (k := i4) (of_decide_eq_true h5) dX9_define_61 ?_
          obtain ⟨r15, α16, hc17, hf⟩ := pb2_ok hf
          refine p_callV (n := 2) (As := [.int a0, .ref (pL E (22 + (1 + i4)))]) (rest := []) C hP hS (wv_9_129 C.2.2.2.2.1 _) (c_X4_enlist l C.2.2.2.2.2.2 (q1 := (1 + i4)) (pr1 (of_decide_eq_true h5)) hc17) (e_X4) rfl rfl hd_X4_enlist rfl ⟨Nat.le_of_ble_eq_true rfl, Nat.le_of_ble_eq_true rfl⟩ hl.1 rfl (Nat.le_of_ble_eq_true rfl) dX9_define_64 ⟨Nat.zero_le _, Nat.zero_le _⟩ (fun H locs hP hS _ _ => ?_)
          refine W.eq (g2 := F0 m 67 ls [.int r15]) rfl ?_
          exact p_iret C hr hlk (pe1 hf) (pe2C hf) hP hS dX9_define_67
        · have hf := pif_f hf h14
          refine lv_aload_n hx hb dX9_define_50 rfl (lv_at hl 1 rfl) ?_
          obtain ⟨r18, α19, hc20, hf⟩ := pb2_ok hf
          refine p_callV (n := 0) (As := []) (rest := []) C hP hS (wv_9_126 C.2.2.2.2.1 _) (c_X2_failToStart l C.2.2.2.2.2.2 (k := i4) (of_decide_eq_true h5) hc20) (e_X2 (k := i4) (of_decide_eq_true h5)) rfl rfl hd_X2_failToStart rfl ⟨Nat.le_of_ble_eq_true rfl, Nat.le_of_ble_eq_true rfl⟩ hl.1 rfl (Nat.le_of_ble_eq_true rfl) dX9_define_51 ⟨Nat.zero_le _, Nat.zero_le _⟩ (fun H locs hP hS _ _ => ?_)
          refine W.eq (g2 := F0 m 54 ls [.int r18]) rfl ?_
          exact p_iret C hr hlk (pe1 hf) (pe2C hf) hP hS dX9_define_54
      · have hf := pif_f hf h13
        refine lv_bipush (v := (-104)) hx hb dX9_define_40 (by decide) ?_
        exact p_iret C hr hlk (pe1 hf) (pe2C hf) hP hS dX9_define_42
    · have hf := pif_f hf h9
      refine lv_bipush (v := (-10)) hx hb dX9_define_25 (by decide) ?_
      refine lv_iload_n hx hb dX9_define_27 rfl (lv_at hl 0 rfl) ?_
      refine lv_isub hx hb dX9_define_28 ?_
      exact p_iret C hr hlk (pe1 hf) (pe2C hf) hP hS dX9_define_29
set_option maxHeartbeats 4000000 in
set_option maxRecDepth 100000 in
theorem c_X7_goBack (l : Launch) {E : pE} (hE : pInj E) {β : pSt} {a0 : Int32} {α α' : pSt} {r : Unit} (hf : f_X7_goBack a0 α = some (r, α')) : pM l E yX7_goBack cX7_goBack 2 none 3 [.ref (pL E 2), .int a0] α β none α' β := by
  refine pM.ofW hE (by decide) ?_ (Nat.le_of_ble_eq_true rfl)
  intro p e s m below meth c ls C hr hlk hP hl
  have C : pCx p s m c cX7_goBack 2 E RX7 := C
  have hS : va_S (pA E s.heap.size) s.heap s.heap [] := va_S.rf
  have hx := C.1
  have hb := C.2.1
  have hl : lv_has ls 2 [(0, .ref (pL E 2)), (1, .int a0)] := hl
  unfold f_X7_goBack at hf
  refine lv_aload_n hx hb dX7_goBack_0 rfl (lv_at hl 0 rfl) ?_
  refine g_7_21 C hP dX7_goBack_1 ?_
  refine lv_iload_n hx hb dX7_goBack_4 rfl (lv_at hl 1 rfl) ?_
  obtain ⟨r1, α2, hc3, hf⟩ := pb2_ok hf
  refine p_callV (n := 1) (As := [.int a0]) (rest := []) C hP hS (wv_7_97 C.2.2.2.2.1 _) (c_X8_cutTo l C.2.2.2.2.2.2  hc3) (e_X8) rfl rfl hd_X8_cutTo rfl ⟨Nat.le_of_ble_eq_true rfl, Nat.le_of_ble_eq_true rfl⟩ hl.1 rfl (Nat.le_of_ble_eq_true rfl) dX7_goBack_5 ⟨Nat.zero_le _, Nat.zero_le _⟩ (fun H locs hP hS _ _ => ?_)
  refine W.eq (g2 := F0 m 8 ls []) rfl ?_
  refine lv_aload_n hx hb dX7_goBack_8 rfl (lv_at hl 0 rfl) ?_
  refine g_7_12 C hP dX7_goBack_9 ?_
  obtain ⟨r4, α5, hc6, hf⟩ := pb2_ok hf
  refine p_callV (n := 0) (As := []) (rest := []) C hP hS (wv_7_100 C.2.2.2.2.1 _) (c_X4_goBack l C.2.2.2.2.2.2  hc6) (e_X4) rfl rfl hd_X4_goBack rfl ⟨Nat.le_of_ble_eq_true rfl, Nat.le_of_ble_eq_true rfl⟩ hl.1 rfl (Nat.le_of_ble_eq_true rfl) dX7_goBack_12 ⟨Nat.zero_le _, Nat.zero_le _⟩ (fun H locs hP hS _ _ => ?_)
  refine W.eq (g2 := F0 m 15 ls []) rfl ?_
  refine lv_aload_n hx hb dX7_goBack_15 rfl (lv_at hl 0 rfl) ?_
  refine g_7_35 C hP dX7_goBack_16 ?_
  obtain ⟨r7, α8, hc9, hf⟩ := pb2_ok hf
  refine p_callV (n := 0) (As := []) (rest := []) C hP hS (wv_7_102 C.2.2.2.2.1 _) (c_X5_goBack l C.2.2.2.2.2.2  hc9) (e_X5) rfl rfl hd_X5_goBack rfl ⟨Nat.le_of_ble_eq_true rfl, Nat.le_of_ble_eq_true rfl⟩ hl.1 rfl (Nat.le_of_ble_eq_true rfl) dX7_goBack_19 ⟨Nat.zero_le _, Nat.zero_le _⟩ (fun H locs hP hS _ _ => ?_)
  refine W.eq (g2 := F0 m 22 ls []) rfl ?_
  exact p_vret C hr hlk (pe2C hf) hP hS dX7_goBack_22
set_option maxHeartbeats 4000000 in
set_option maxRecDepth 100000 in
theorem c_X7_doRules (l : Launch) {E : pE} (hE : pInj E) {β : pSt} {a0 : Int32} {a1 : Int32} {α α' : pSt} {r : Unit} (hf : f_X7_doRules a0 a1 α = some (r, α')) : pM l E yX7_doRules cX7_doRules 6 none 3 [.ref (pL E 2), .int a0, .int a1] α β none α' β := by
  refine pM.ofW hE (by decide) ?_ (Nat.le_of_ble_eq_true rfl)
  intro p e s m below meth c ls C hr hlk hP hl
  have C : pCx p s m c cX7_doRules 6 E RX7 := C
  have hS : va_S (pA E s.heap.size) s.heap s.heap [] := va_S.rf
  have hx := C.1
  have hb := C.2.1
  have hl : lv_has ls 6 [(0, .ref (pL E 2)), (1, .int a0), (2, .int a1)] := hl
  unfold f_X7_doRules at hf
  refine lv_aload_n hx hb dX7_doRules_0 rfl (lv_at hl 0 rfl) ?_
  refine g_7_12 C hP dX7_doRules_1 ?_
  refine lv_iload_n hx hb dX7_doRules_4 rfl (lv_at hl 1 rfl) ?_
  obtain ⟨r1, α2, hc3, hf⟩ := pb2_ok hf
  refine p_callV (n := 1) (As := [.int a0]) (rest := []) C hP hS (wv_7_114 C.2.2.2.2.1 _) (c_X4_at l C.2.2.2.2.2.2  hc3) (e_X4) rfl rfl hd_X4_at rfl ⟨Nat.le_of_ble_eq_true rfl, Nat.le_of_ble_eq_true rfl⟩ hl.1 rfl (Nat.le_of_ble_eq_true rfl) dX7_doRules_5 ⟨Nat.zero_le _, Nat.zero_le _⟩ (fun H locs hP hS _ _ => ?_)
  rcases r1 with _ | i4
  · have hf := pO_n hf
    refine W.eq (g2 := F0 m 8 ls [.null]) rfl ?_
    refine lv_astore_nN (lv' := [(3, .null), (0, .ref (pL E 2)), (1, .int a0), (2, .int a1)]) hx hb dX7_doRules_8 rfl hl (by decide) rfl (fun ls hl => ?_)
    refine lv_aload_nN hx hb dX7_doRules_9 rfl (lv_at hl 0 rfl) ?_
    refine lv_ifnonnullN hx hb dX7_doRules_10 ?_
    exact p_vret C hr hlk (pe2C hf) hP hS dX7_doRules_13
  · have hf := pO_s hf
    obtain ⟨h5, hf⟩ := pg_ok hf
    refine W.eq (g2 := F0 m 8 ls [.ref (pL E (16 + i4))]) rfl ?_
    refine lv_astore_n (lv' := [(3, .ref (pL E (16 + i4))), (0, .ref (pL E 2)), (1, .int a0), (2, .int a1)]) hx hb dX7_doRules_8 rfl hl (by decide) rfl (fun ls hl => ?_)
    refine lv_aload_n hx hb dX7_doRules_9 rfl (lv_at hl 0 rfl) ?_
    refine lv_ifnonnull (tgt := 14) hx hb dX7_doRules_10 (by decide) ?_
    refine lv_aload_n hx hb dX7_doRules_14 rfl (lv_at hl 1 rfl) ?_
    refine lv_iload_n hx hb dX7_doRules_15 rfl (lv_at hl 2 rfl) ?_
    refine s_7_118 C hP hS dX7_doRules_16 (fun H locs hP hS => ?_)
    obtain ⟨α6, eα6, hf⟩ := pl_ok hf
    rw [← eα6] at hP
    clear eα6
    refine lv_aload_n hx hb dX7_doRules_19 rfl (lv_at hl 1 rfl) ?_
    refine lv_iload_n hx hb dX7_doRules_20 rfl (lv_at hl 3 rfl) ?_
    refine s_7_121 C hP hS dX7_doRules_21 (fun H locs hP hS => ?_)
    obtain ⟨α7, eα7, hf⟩ := pl_ok hf
    rw [← eα7] at hP
    clear eα7
    refine lv_iconst (v := 0) hx hb dX7_doRules_24 (by decide) ?_
    refine lv_istore (lv' := [(4, .int 0), (3, .ref (pL E (16 + i4))), (0, .ref (pL E 2)), (1, .int a0), (2, .int a1)]) hx hb dX7_doRules_25 hl (by decide) rfl (fun ls hl => ?_)
    refine lv_iconst (v := 0) hx hb dX7_doRules_27 (by decide) ?_
    refine lv_istore (lv' := [(5, .int 0), (4, .int 0), (3, .ref (pL E (16 + i4))), (0, .ref (pL E 2)), (1, .int a0), (2, .int a1)]) hx hb dX7_doRules_28 hl (by decide) rfl (fun ls hl => ?_)
    have lp30 : ∀ (n : Nat) (x5 : Int32) (x4 : Int32) (α : pSt) (H : Heap) (locs : List Loc) (ls : Array Slot), f_X7_doRules_L30 i4 n x5 x4 α = some (r, α') → va_P (pD E) vwCl (pw E α β) H → va_S (pA E s.heap.size) s.heap H locs → lv_has ls 6 [(5, .int x5), (4, .int x4), (3, .ref (pL E (16 + i4))), (0, .ref (pL E 2))] → W p l e (pR 3) s m [.ref (pL E 2), .int a0, .int a1].toArray below meth c H locs 0 0 (pQ below E s [.ref (pL E 2), .int a0, .int a1].toArray none α' β) (F0 m 30 ls []) := by
      intro n
      induction n with
      | zero =>
        intro x5 x4 α H locs ls hf
        rw [f_X7_doRules_L30] at hf
        cases hf
      | succ n30 ih30 =>
        intro x5 x4 α H locs ls hf hP hS hl
        rw [f_X7_doRules_L30] at hf
        refine lv_iload hx hb dX7_doRules_30 (lv_at hl 0 rfl) ?_
        refine lv_aload_n hx hb dX7_doRules_32 rfl (lv_at hl 2 rfl) ?_
        refine g_7_124 C hP (k := i4) (of_decide_eq_true h5) dX7_doRules_33 ?_
        refine lv_icmp_ge (tgt := 93) hx hb dX7_doRules_36 (by decide) (fun h8 => ?_) (fun h8 => ?_)
        · have hf := pif_t hf h8
          exact p_vret C hr hlk (pe2C hf) hP hS dX7_doRules_93
        · have hf := pif_f hf h8
          refine lv_aload_n hx hb dX7_doRules_39 rfl (lv_at hl 3 rfl) ?_
          refine g_7_57 C hP dX7_doRules_40 ?_
          refine lv_if_ne (tgt := 93) hx hb dX7_doRules_43 (by decide) (fun h9 => ?_) (fun h9 => ?_)
          · have hf := pif_f hf h9
            exact p_vret C hr hlk (pe2C hf) hP hS dX7_doRules_93
          · have hf := pif_t hf h9
            refine lv_aload_n hx hb dX7_doRules_46 rfl (lv_at hl 2 rfl) ?_
            refine g_7_129 C hP (k := i4) (of_decide_eq_true h5) dX7_doRules_47 ?_
            refine lv_if_ne (tgt := 93) hx hb dX7_doRules_50 (by decide) (fun h10 => ?_) (fun h10 => ?_)
            · have hf := pif_f hf h10
              exact p_vret C hr hlk (pe2C hf) hP hS dX7_doRules_93
            · have hf := pif_t hf h10
              refine lv_iload hx hb dX7_doRules_53 (lv_at hl 0 rfl) ?_
              refine lv_iload hx hb dX7_doRules_55 (lv_at hl 1 rfl) ?_
              refine lv_icmp_lt (tgt := 87) hx hb dX7_doRules_57 (by decide) (fun h11 => ?_) (fun h11 => ?_)
              · have hf := pif_t hf h11
                refine lv_iinc (v := (x5 + 1)) (lv' := [(5, .int (x5 + 1)), (4, .int x4), (3, .ref (pL E (16 + i4))), (0, .ref (pL E 2))]) hx hb dX7_doRules_87 hl (k := 0) rfl rfl (by decide) rfl (fun ls hl => ?_)
                refine lv_goto (tgt := 30) hx hb dX7_doRules_90 (by decide) ?_
                exact ih30 _ _ α _ _ _ hf hP hS (lv_sub hl [0, 1, 2, 3] rfl)
              · have hf := pif_f hf h11
                refine lv_aload_n hx hb dX7_doRules_60 rfl (lv_at hl 3 rfl) ?_
                refine lv_aload_n hx hb dX7_doRules_61 rfl (lv_at hl 2 rfl) ?_
                refine lv_iload hx hb dX7_doRules_62 (lv_at hl 0 rfl) ?_
                obtain ⟨r12, α13, hc14, hf⟩ := pb2_ok hf
                refine p_callV (n := 1) (As := [.int x5]) (rest := [.ref (pL E 2)]) C hP hS (wv_7_132 C.2.2.2.2.1 _) (c_X3_markOf l C.2.2.2.2.2.2 (k := i4) (of_decide_eq_true h5) hc14) (e_X3 (k := i4) (of_decide_eq_true h5)) rfl rfl hd_X3_markOf rfl ⟨Nat.le_of_ble_eq_true rfl, Nat.le_of_ble_eq_true rfl⟩ hl.1 rfl (Nat.le_of_ble_eq_true rfl) dX7_doRules_64 ⟨Nat.zero_le _, Nat.zero_le _⟩ (fun H locs hP hS _ _ => ?_)
                refine W.eq (g2 := F0 m 67 ls [.int r12, .ref (pL E 2)]) rfl ?_
                obtain ⟨r15, α16, hc17, hf⟩ := pb2_ok hf
                refine p_callV (n := 1) (As := [.int r12]) (rest := []) C hP hS (wv_7_136 C.2.2.2.2.1 _) (c_X7_isDue l C.2.2.2.2.2.2  hc17) (e_X7) rfl rfl hd_X7_isDue rfl ⟨Nat.le_of_ble_eq_true rfl, Nat.le_of_ble_eq_true rfl⟩ hl.1 rfl (Nat.le_of_ble_eq_true rfl) dX7_doRules_67 ⟨Nat.zero_le _, Nat.zero_le _⟩ (fun H locs hP hS _ _ => ?_)
                refine W.eq (g2 := F0 m 70 ls [.int r15]) rfl ?_
                refine lv_if_eq (tgt := 87) hx hb dX7_doRules_70 (by decide) (fun h18 => ?_) (fun h18 => ?_)
                · have hf := pif_t hf h18
                  refine lv_iinc (v := (x5 + 1)) (lv' := [(5, .int (x5 + 1)), (4, .int x4), (3, .ref (pL E (16 + i4))), (0, .ref (pL E 2))]) hx hb dX7_doRules_87 hl (k := 0) rfl rfl (by decide) rfl (fun ls hl => ?_)
                  refine lv_goto (tgt := 30) hx hb dX7_doRules_90 (by decide) ?_
                  exact ih30 _ _ α16 _ _ _ hf hP hS (lv_sub hl [0, 1, 2, 3] rfl)
                · have hf := pif_f hf h18
                  refine lv_iload hx hb dX7_doRules_73 (lv_at hl 0 rfl) ?_
                  refine lv_iconst (v := 1) hx hb dX7_doRules_75 (by decide) ?_
                  refine lv_iadd hx hb dX7_doRules_76 ?_
                  refine lv_aload_n hx hb dX7_doRules_77 rfl (lv_at hl 3 rfl) ?_
                  refine lv_aload_n hx hb dX7_doRules_78 rfl (lv_at hl 2 rfl) ?_
                  refine lv_iload hx hb dX7_doRules_79 (lv_at hl 0 rfl) ?_
                  obtain ⟨r19, α20, hc21, hf⟩ := pb2_ok hf
                  refine p_callV (n := 2) (As := [.ref (pL E (16 + i4)), .int x5]) (rest := [.int (x5 + 1)]) C hP hS (wv_7_139 C.2.2.2.2.1 _) (c_X7_doRule l C.2.2.2.2.2.2 (q0 := i4) (of_decide_eq_true h5) hc21) (e_X7) rfl rfl hd_X7_doRule rfl ⟨Nat.le_of_ble_eq_true rfl, Nat.le_of_ble_eq_true rfl⟩ hl.1 rfl (Nat.le_of_ble_eq_true rfl) dX7_doRules_81 ⟨Nat.zero_le _, Nat.zero_le _⟩ (fun H locs hP hS _ _ => ?_)
                  refine W.eq (g2 := F0 m 84 ls [.int r19, .int (x5 + 1)]) rfl ?_
                  refine lv_iadd hx hb dX7_doRules_84 ?_
                  refine lv_istore (lv' := [(4, .int ((x5 + 1) + r19)), (5, .int x5), (3, .ref (pL E (16 + i4))), (0, .ref (pL E 2))]) hx hb dX7_doRules_85 hl (by decide) rfl (fun ls hl => ?_)
                  refine lv_iinc (v := (x5 + 1)) (lv' := [(5, .int (x5 + 1)), (4, .int ((x5 + 1) + r19)), (3, .ref (pL E (16 + i4))), (0, .ref (pL E 2))]) hx hb dX7_doRules_87 hl (k := 1) rfl rfl (by decide) rfl (fun ls hl => ?_)
                  refine lv_goto (tgt := 30) hx hb dX7_doRules_90 (by decide) ?_
                  exact ih30 _ _ α20 _ _ _ hf hP hS (lv_sub hl [0, 1, 2, 3] rfl)
    exact lp30 _ _ _ _ _ _ _ hf hP hS (lv_sub hl [0, 1, 2, 3] rfl)
set_option maxHeartbeats 4000000 in
set_option maxRecDepth 100000 in
theorem c_X7_makeRound (l : Launch) {E : pE} (hE : pInj E) {β : pSt} {a0 : Int32} {a1 : Int32} {α α' : pSt} {r : Unit} (hf : f_X7_makeRound a0 a1 α = some (r, α')) : pM l E yX7_makeRound cX7_makeRound 5 none 4 [.ref (pL E 2), .int a0, .int a1] α β none α' β := by
  refine pM.ofW hE (by decide) ?_ (Nat.le_of_ble_eq_true rfl)
  intro p e s m below meth c ls C hr hlk hP hl
  have C : pCx p s m c cX7_makeRound 5 E RX7 := C
  have hS : va_S (pA E s.heap.size) s.heap s.heap [] := va_S.rf
  have hx := C.1
  have hb := C.2.1
  have hl : lv_has ls 5 [(0, .ref (pL E 2)), (1, .int a0), (2, .int a1)] := hl
  unfold f_X7_makeRound at hf
  refine lv_aload_n hx hb dX7_makeRound_0 rfl (lv_at hl 0 rfl) ?_
  refine lv_dup hx hb dX7_makeRound_1 rfl ?_
  refine g_7_65 C hP dX7_makeRound_2 ?_
  refine lv_iconst (v := 1) hx hb dX7_makeRound_5 (by decide) ?_
  refine lv_iadd hx hb dX7_makeRound_6 ?_
  refine s_7_65 C hP hS dX7_makeRound_7 (fun H locs hP hS => ?_)
  obtain ⟨α1, eα1, hf⟩ := pl_ok hf
  rw [← eα1] at hP
  clear eα1
  refine lv_aload_n hx hb dX7_makeRound_10 rfl (lv_at hl 0 rfl) ?_
  refine lv_aload_n hx hb dX7_makeRound_11 rfl (lv_at hl 0 rfl) ?_
  refine g_7_65 C hP dX7_makeRound_12 ?_
  refine s_7_103 C hP hS dX7_makeRound_15 (fun H locs hP hS => ?_)
  obtain ⟨α2, eα2, hf⟩ := pl_ok hf
  rw [← eα2] at hP
  clear eα2
  refine lv_iconst (v := 0) hx hb dX7_makeRound_18 (by decide) ?_
  refine lv_istore_n (lv' := [(3, .int 0), (0, .ref (pL E 2)), (1, .int a0), (2, .int a1)]) hx hb dX7_makeRound_19 rfl hl (by decide) rfl (fun ls hl => ?_)
  have lp20 : ∀ (n : Nat) (x3 : Int32) (α : pSt) (H : Heap) (locs : List Loc) (ls : Array Slot), f_X7_makeRound_L20 a0 a1 n x3 α = some (r, α') → va_P (pD E) vwCl (pw E α β) H → va_S (pA E s.heap.size) s.heap H locs → lv_has ls 5 [(3, .int x3), (0, .ref (pL E 2)), (1, .int a0), (2, .int a1)] → W p l e (pR 4) s m [.ref (pL E 2), .int a0, .int a1].toArray below meth c H locs 0 0 (pQ below E s [.ref (pL E 2), .int a0, .int a1].toArray none α' β) (F0 m 20 ls []) := by
    intro n
    induction n with
    | zero =>
      intro x3 α H locs ls hf
      rw [f_X7_makeRound_L20] at hf
      cases hf
    | succ n20 ih20 =>
      intro x3 α H locs ls hf hP hS hl
      rw [f_X7_makeRound_L20] at hf
      refine lv_iload_n hx hb dX7_makeRound_20 rfl (lv_at hl 0 rfl) ?_
      refine lv_aload_n hx hb dX7_makeRound_21 rfl (lv_at hl 1 rfl) ?_
      refine g_7_43 C hP dX7_makeRound_22 ?_
      refine ln_claimants C hP dX7_makeRound_25 ?_
      refine lv_icmp_ge (tgt := 42) hx hb dX7_makeRound_26 (by decide) (fun h3 => ?_) (fun h3 => ?_)
      · have hf := pif_t hf h3
        refine lv_iconst (v := 0) hx hb dX7_makeRound_42 (by decide) ?_
        refine lv_istore_n (lv' := [(3, .int 0), (0, .ref (pL E 2)), (1, .int a0), (2, .int a1)]) hx hb dX7_makeRound_43 rfl hl (by decide) rfl (fun ls hl => ?_)
        have lp44 : ∀ (n : Nat) (x3 : Int32) (α : pSt) (H : Heap) (locs : List Loc) (ls : Array Slot), f_X7_makeRound_L44 a0 a1 n x3 α = some (r, α') → va_P (pD E) vwCl (pw E α β) H → va_S (pA E s.heap.size) s.heap H locs → lv_has ls 5 [(3, .int x3), (0, .ref (pL E 2)), (1, .int a0), (2, .int a1)] → W p l e (pR 4) s m [.ref (pL E 2), .int a0, .int a1].toArray below meth c H locs 0 0 (pQ below E s [.ref (pL E 2), .int a0, .int a1].toArray none α' β) (F0 m 44 ls []) := by
          intro n
          induction n with
          | zero =>
            intro x3 α H locs ls hf
            rw [f_X7_makeRound_L44] at hf
            cases hf
          | succ n44 ih44 =>
            intro x3 α H locs ls hf hP hS hl
            rw [f_X7_makeRound_L44] at hf
            refine lv_iload_n hx hb dX7_makeRound_44 rfl (lv_at hl 0 rfl) ?_
            refine lv_aload_n hx hb dX7_makeRound_45 rfl (lv_at hl 1 rfl) ?_
            refine g_7_12 C hP dX7_makeRound_46 ?_
            obtain ⟨r4, α5, hc6, hf⟩ := pb2_ok hf
            refine p_callV (n := 0) (As := []) (rest := [.int x3]) C hP hS (wv_7_106 C.2.2.2.2.1 _) (c_X4_size l C.2.2.2.2.2.2  hc6) (e_X4) rfl rfl hd_X4_size rfl ⟨Nat.le_of_ble_eq_true rfl, Nat.le_of_ble_eq_true rfl⟩ hl.1 rfl (Nat.le_of_ble_eq_true rfl) dX7_makeRound_49 ⟨Nat.zero_le _, Nat.zero_le _⟩ (fun H locs hP hS _ _ => ?_)
            refine W.eq (g2 := F0 m 52 ls [.int r4, .int x3]) rfl ?_
            refine lv_icmp_ge (tgt := 95) hx hb dX7_makeRound_52 (by decide) (fun h7 => ?_) (fun h7 => ?_)
            · have hf := pif_t hf h7
              exact p_vret C hr hlk (pe2C hf) hP hS dX7_makeRound_95
            · have hf := pif_f hf h7
              refine lv_iload_n hx hb dX7_makeRound_55 rfl (lv_at hl 2 rfl) ?_
              refine lv_istore (lv' := [(4, .int a0), (3, .int x3), (0, .ref (pL E 2)), (1, .int a0), (2, .int a1)]) hx hb dX7_makeRound_56 hl (by decide) rfl (fun ls hl => ?_)
              have lp58 : ∀ (n : Nat) (x4 : Int32) (α : pSt) (H : Heap) (locs : List Loc) (ls : Array Slot), f_X7_makeRound_L58 x3 a0 a1 (fun α => f_X7_makeRound_L44 a0 a1 n44 ((x3 + 1)) α) n x4 α = some (r, α') → va_P (pD E) vwCl (pw E α β) H → va_S (pA E s.heap.size) s.heap H locs → lv_has ls 5 [(4, .int x4), (3, .int x3), (0, .ref (pL E 2)), (1, .int a0), (2, .int a1)] → W p l e (pR 4) s m [.ref (pL E 2), .int a0, .int a1].toArray below meth c H locs 0 0 (pQ below E s [.ref (pL E 2), .int a0, .int a1].toArray none α' β) (F0 m 58 ls []) := by
                intro n
                induction n with
                | zero =>
                  intro x4 α H locs ls hf
                  rw [f_X7_makeRound_L58] at hf
                  cases hf
                | succ n58 ih58 =>
                  intro x4 α H locs ls hf hP hS hl
                  rw [f_X7_makeRound_L58] at hf
                  refine lv_iload hx hb dX7_makeRound_58 (lv_at hl 0 rfl) ?_
                  refine lv_iload_n hx hb dX7_makeRound_60 rfl (lv_at hl 4 rfl) ?_
                  refine lv_icmp_ge (tgt := 89) hx hb dX7_makeRound_61 (by decide) (fun h8 => ?_) (fun h8 => ?_)
                  · have hf := pif_t hf h8
                    try dsimp only at hf
                    refine lv_iinc (v := (x3 + 1)) (lv' := [(3, .int (x3 + 1)), (4, .int x4), (0, .ref (pL E 2)), (1, .int a0), (2, .int a1)]) hx hb dX7_makeRound_89 hl (k := 1) rfl rfl (by decide) rfl (fun ls hl => ?_)
                    refine lv_goto (tgt := 44) hx hb dX7_makeRound_92 (by decide) ?_
                    exact ih44 _ α _ _ _ hf hP hS (lv_sub hl [0, 2, 3, 4] rfl)
                  · have hf := pif_f hf h8
                    refine lv_aload_n hx hb dX7_makeRound_64 rfl (lv_at hl 2 rfl) ?_
                    refine g_7_21 C hP dX7_makeRound_65 ?_
                    refine lv_iload hx hb dX7_makeRound_68 (lv_at hl 0 rfl) ?_
                    obtain ⟨r9, α10, hc11, hf⟩ := pb2_ok hf
                    refine p_callV (n := 1) (As := [.int x4]) (rest := []) C hP hS (wv_7_107 C.2.2.2.2.1 _) (c_X8_isNew l C.2.2.2.2.2.2  hc11) (e_X8) rfl rfl hd_X8_isNew rfl ⟨Nat.le_of_ble_eq_true rfl, Nat.le_of_ble_eq_true rfl⟩ hl.1 rfl (Nat.le_of_ble_eq_true rfl) dX7_makeRound_70 ⟨Nat.zero_le _, Nat.zero_le _⟩ (fun H locs hP hS _ _ => ?_)
                    refine W.eq (g2 := F0 m 73 ls [.int r9]) rfl ?_
                    refine lv_if_eq (tgt := 83) hx hb dX7_makeRound_73 (by decide) (fun h12 => ?_) (fun h12 => ?_)
                    · have hf := pif_t hf h12
                      refine lv_iinc (v := (x4 + 1)) (lv' := [(4, .int (x4 + 1)), (3, .int x3), (0, .ref (pL E 2)), (1, .int a0), (2, .int a1)]) hx hb dX7_makeRound_83 hl (k := 0) rfl rfl (by decide) rfl (fun ls hl => ?_)
                      refine lv_goto (tgt := 58) hx hb dX7_makeRound_86 (by decide) ?_
                      exact ih58 _ α10 _ _ _ hf hP hS (lv_sub hl [0, 1, 2, 3, 4] rfl)
                    · have hf := pif_f hf h12
                      refine lv_aload_n hx hb dX7_makeRound_76 rfl (lv_at hl 2 rfl) ?_
                      refine lv_iload_n hx hb dX7_makeRound_77 rfl (lv_at hl 1 rfl) ?_
                      refine lv_iload hx hb dX7_makeRound_78 (lv_at hl 0 rfl) ?_
                      obtain ⟨r13, α14, hc15, hf⟩ := pb2_ok hf
                      refine p_callV (n := 2) (As := [.int x3, .int x4]) (rest := []) C hP hS (wv_7_111 C.2.2.2.2.1 _) (c_X7_doRules l C.2.2.2.2.2.2  hc15) (e_X7) rfl rfl hd_X7_doRules rfl ⟨Nat.le_of_ble_eq_true rfl, Nat.le_of_ble_eq_true rfl⟩ hl.1 rfl (Nat.le_of_ble_eq_true rfl) dX7_makeRound_80 ⟨Nat.zero_le _, Nat.zero_le _⟩ (fun H locs hP hS _ _ => ?_)
                      refine W.eq (g2 := F0 m 83 ls []) rfl ?_
                      refine lv_iinc (v := (x4 + 1)) (lv' := [(4, .int (x4 + 1)), (3, .int x3), (0, .ref (pL E 2)), (1, .int a0), (2, .int a1)]) hx hb dX7_makeRound_83 hl (k := 0) rfl rfl (by decide) rfl (fun ls hl => ?_)
                      refine lv_goto (tgt := 58) hx hb dX7_makeRound_86 (by decide) ?_
                      exact ih58 _ α14 _ _ _ hf hP hS (lv_sub hl [0, 1, 2, 3, 4] rfl)
              exact lp58 _ _ _ _ _ _ hf hP hS (lv_sub hl [0, 1, 2, 3, 4] rfl)
        exact lp44 _ _ _ _ _ _ hf hP hS (lv_sub hl [0, 1, 2, 3] rfl)
      · have hf := pif_f hf h3
        refine lv_aload_n hx hb dX7_makeRound_29 rfl (lv_at hl 1 rfl) ?_
        refine g_7_43 C hP dX7_makeRound_30 ?_
        refine lv_iload_n hx hb dX7_makeRound_33 rfl (lv_at hl 0 rfl) ?_
        refine lv_iconst (v := (-1)) hx hb dX7_makeRound_34 (by decide) ?_
        obtain ⟨h16, hf⟩ := pg_ok hf
        refine sa_claimants C hP hS h16 dX7_makeRound_35 (fun H locs hP hS => ?_)
        obtain ⟨α17, eα17, hf⟩ := pl_ok hf
        rw [← eα17] at hP
        clear eα17
        refine lv_iinc (v := (x3 + 1)) (lv' := [(3, .int (x3 + 1)), (0, .ref (pL E 2)), (1, .int a0), (2, .int a1)]) hx hb dX7_makeRound_36 hl (k := 0) rfl rfl (by decide) rfl (fun ls hl => ?_)
        refine lv_goto (tgt := 20) hx hb dX7_makeRound_39 (by decide) ?_
        exact ih20 _ α17 _ _ _ hf hP hS (lv_sub hl [0, 1, 2, 3] rfl)
  exact lp20 _ _ _ _ _ _ hf hP hS (lv_sub hl [0, 1, 2, 3] rfl)
set_option maxHeartbeats 4000000 in
set_option maxRecDepth 100000 in
theorem c_X7_makeEnd (l : Launch) {E : pE} (hE : pInj E) {β : pSt}  {α α' : pSt} {r : Unit} (hf : f_X7_makeEnd  α = some (r, α')) : pM l E yX7_makeEnd cX7_makeEnd 2 none 4 [.ref (pL E 2)] α β none α' β := by
  refine pM.ofW hE (by decide) ?_ (Nat.le_of_ble_eq_true rfl)
  intro p e s m below meth c ls C hr hlk hP hl
  have C : pCx p s m c cX7_makeEnd 2 E RX7 := C
  have hS : va_S (pA E s.heap.size) s.heap s.heap [] := va_S.rf
  have hx := C.1
  have hb := C.2.1
  have hl : lv_has ls 2 [(0, .ref (pL E 2))] := hl
  unfold f_X7_makeEnd at hf
  refine lv_aload_n hx hb dX7_makeEnd_0 rfl (lv_at hl 0 rfl) ?_
  refine lv_aload_n hx hb dX7_makeEnd_1 rfl (lv_at hl 0 rfl) ?_
  refine g_7_65 C hP dX7_makeEnd_2 ?_
  refine lv_iconst (v := 1) hx hb dX7_makeEnd_5 (by decide) ?_
  refine lv_iadd hx hb dX7_makeEnd_6 ?_
  refine s_7_103 C hP hS dX7_makeEnd_7 (fun H locs hP hS => ?_)
  obtain ⟨α1, eα1, hf⟩ := pl_ok hf
  rw [← eα1] at hP
  clear eα1
  refine lv_iconst (v := 0) hx hb dX7_makeEnd_10 (by decide) ?_
  refine lv_istore_n (lv' := [(1, .int 0), (0, .ref (pL E 2))]) hx hb dX7_makeEnd_11 rfl hl (by decide) rfl (fun ls hl => ?_)
  have lp12 : ∀ (n : Nat) (x1 : Int32) (α : pSt) (H : Heap) (locs : List Loc) (ls : Array Slot), f_X7_makeEnd_L12 n x1 α = some (r, α') → va_P (pD E) vwCl (pw E α β) H → va_S (pA E s.heap.size) s.heap H locs → lv_has ls 2 [(1, .int x1), (0, .ref (pL E 2))] → W p l e (pR 4) s m [.ref (pL E 2)].toArray below meth c H locs 0 0 (pQ below E s [.ref (pL E 2)].toArray none α' β) (F0 m 12 ls []) := by
    intro n
    induction n with
    | zero =>
      intro x1 α H locs ls hf
      rw [f_X7_makeEnd_L12] at hf
      cases hf
    | succ n12 ih12 =>
      intro x1 α H locs ls hf hP hS hl
      rw [f_X7_makeEnd_L12] at hf
      refine lv_iload_n hx hb dX7_makeEnd_12 rfl (lv_at hl 0 rfl) ?_
      refine lv_aload_n hx hb dX7_makeEnd_13 rfl (lv_at hl 1 rfl) ?_
      refine g_7_12 C hP dX7_makeEnd_14 ?_
      obtain ⟨r2, α3, hc4, hf⟩ := pb2_ok hf
      refine p_callV (n := 0) (As := []) (rest := [.int x1]) C hP hS (wv_7_106 C.2.2.2.2.1 _) (c_X4_size l C.2.2.2.2.2.2  hc4) (e_X4) rfl rfl hd_X4_size rfl ⟨Nat.le_of_ble_eq_true rfl, Nat.le_of_ble_eq_true rfl⟩ hl.1 rfl (Nat.le_of_ble_eq_true rfl) dX7_makeEnd_17 ⟨Nat.zero_le _, Nat.zero_le _⟩ (fun H locs hP hS _ _ => ?_)
      refine W.eq (g2 := F0 m 20 ls [.int r2, .int x1]) rfl ?_
      refine lv_icmp_ge (tgt := 35) hx hb dX7_makeEnd_20 (by decide) (fun h5 => ?_) (fun h5 => ?_)
      · have hf := pif_t hf h5
        exact p_vret C hr hlk (pe2C hf) hP hS dX7_makeEnd_35
      · have hf := pif_f hf h5
        refine lv_aload_n hx hb dX7_makeEnd_23 rfl (lv_at hl 1 rfl) ?_
        refine lv_iload_n hx hb dX7_makeEnd_24 rfl (lv_at hl 0 rfl) ?_
        refine lv_iconst (v := (-1)) hx hb dX7_makeEnd_25 (by decide) ?_
        obtain ⟨r6, α7, hc8, hf⟩ := pb2_ok hf
        refine p_callV (n := 2) (As := [.int x1, .int (-1)]) (rest := []) C hP hS (wv_7_111 C.2.2.2.2.1 _) (c_X7_doRules l C.2.2.2.2.2.2  hc8) (e_X7) rfl rfl hd_X7_doRules rfl ⟨Nat.le_of_ble_eq_true rfl, Nat.le_of_ble_eq_true rfl⟩ hl.1 rfl (Nat.le_of_ble_eq_true rfl) dX7_makeEnd_26 ⟨Nat.zero_le _, Nat.zero_le _⟩ (fun H locs hP hS _ _ => ?_)
        refine W.eq (g2 := F0 m 29 ls []) rfl ?_
        refine lv_iinc (v := (x1 + 1)) (lv' := [(1, .int (x1 + 1)), (0, .ref (pL E 2))]) hx hb dX7_makeEnd_29 hl (k := 0) rfl rfl (by decide) rfl (fun ls hl => ?_)
        refine lv_goto (tgt := 12) hx hb dX7_makeEnd_32 (by decide) ?_
        exact ih12 _ α7 _ _ _ hf hP hS (lv_sub hl [0, 1] rfl)
  exact lp12 _ _ _ _ _ _ hf hP hS (lv_sub hl [0, 1] rfl)
set_option maxHeartbeats 4000000 in
set_option maxRecDepth 100000 in
theorem c_X7_go (l : Launch) {E : pE} (hE : pInj E) {β : pSt} {a0 : Int32} {a1 : Int32} {α α' : pSt} {r : Int32} (hf : f_X7_go a0 a1 α = some (r, α')) : pM l E yX7_go cX7_go 7 (some .int) 5 [.ref (pL E 2), .int a0, .int a1] α β (some (.int r)) α' β := by
  refine pM.ofW hE (by decide) ?_ (Nat.le_of_ble_eq_true rfl)
  intro p e s m below meth c ls C hr hlk hP hl
  have C : pCx p s m c cX7_go 7 E RX7 := C
  have hS : va_S (pA E s.heap.size) s.heap s.heap [] := va_S.rf
  have hx := C.1
  have hb := C.2.1
  have hl : lv_has ls 7 [(0, .ref (pL E 2)), (1, .int a0), (2, .int a1)] := hl
  unfold f_X7_go at hf
  refine lv_aload_n hx hb dX7_go_0 rfl (lv_at hl 0 rfl) ?_
  refine lv_iload_n hx hb dX7_go_1 rfl (lv_at hl 1 rfl) ?_
  refine lv_iload_n hx hb dX7_go_2 rfl (lv_at hl 2 rfl) ?_
  obtain ⟨r1, α2, hc3, hf⟩ := pb2_ok hf
  refine p_callV (n := 2) (As := [.int a0, .int a1]) (rest := []) C hP hS (wv_7_46 C.2.2.2.2.1 _) (c_X7_begin l C.2.2.2.2.2.2  hc3) (e_X7) rfl rfl hd_X7_begin rfl ⟨Nat.le_of_ble_eq_true rfl, Nat.le_of_ble_eq_true rfl⟩ hl.1 rfl (Nat.le_of_ble_eq_true rfl) dX7_go_3 ⟨Nat.zero_le _, Nat.zero_le _⟩ (fun H locs hP hS _ _ => ?_)
  refine W.eq (g2 := F0 m 6 ls []) rfl ?_
  refine lv_aload_n hx hb dX7_go_6 rfl (lv_at hl 0 rfl) ?_
  refine g_7_21 C hP dX7_go_7 ?_
  obtain ⟨r4, α5, hc6, hf⟩ := pb2_ok hf
  refine p_callV (n := 0) (As := []) (rest := []) C hP hS (wv_7_50 C.2.2.2.2.1 _) (c_X8_size l C.2.2.2.2.2.2  hc6) (e_X8) rfl rfl hd_X8_size rfl ⟨Nat.le_of_ble_eq_true rfl, Nat.le_of_ble_eq_true rfl⟩ hl.1 rfl (Nat.le_of_ble_eq_true rfl) dX7_go_10 ⟨Nat.zero_le _, Nat.zero_le _⟩ (fun H locs hP hS _ _ => ?_)
  refine W.eq (g2 := F0 m 13 ls [.int r4]) rfl ?_
  refine lv_istore_n (lv' := [(3, .int r4), (0, .ref (pL E 2)), (1, .int a0), (2, .int a1)]) hx hb dX7_go_13 rfl hl (by decide) rfl (fun ls hl => ?_)
  refine lv_iconst (v := 0) hx hb dX7_go_14 (by decide) ?_
  refine lv_istore (lv' := [(4, .int 0), (3, .int r4), (0, .ref (pL E 2)), (1, .int a0), (2, .int a1)]) hx hb dX7_go_15 hl (by decide) rfl (fun ls hl => ?_)
  refine lv_aload_n hx hb dX7_go_17 rfl (lv_at hl 2 rfl) ?_
  refine g_7_21 C hP dX7_go_18 ?_
  obtain ⟨r7, α8, hc9, hf⟩ := pb2_ok hf
  refine p_callV (n := 0) (As := []) (rest := []) C hP hS (wv_7_54 C.2.2.2.2.1 _) (c_X8_countNew l C.2.2.2.2.2.2  hc9) (e_X8) rfl rfl hd_X8_countNew rfl ⟨Nat.le_of_ble_eq_true rfl, Nat.le_of_ble_eq_true rfl⟩ hl.1 rfl (Nat.le_of_ble_eq_true rfl) dX7_go_21 ⟨Nat.zero_le _, Nat.zero_le _⟩ (fun H locs hP hS _ _ => ?_)
  refine W.eq (g2 := F0 m 24 ls [.int r7]) rfl ?_
  refine lv_if_le (tgt := 31) hx hb dX7_go_24 (by decide) (fun h10 => ?_) (fun h10 => ?_)
  · have hf := pif_t hf h10
    refine lv_iconst (v := 0) hx hb dX7_go_31 (by decide) ?_
    refine lv_istore (lv' := [(5, .int 0), (4, .int 0), (3, .int r4), (0, .ref (pL E 2)), (1, .int a0), (2, .int a1)]) hx hb dX7_go_32 hl (by decide) rfl (fun ls hl => ?_)
    refine lv_iconst (v := 0) hx hb dX7_go_34 (by decide) ?_
    refine lv_istore (lv' := [(6, .int 0), (5, .int 0), (4, .int 0), (3, .int r4), (0, .ref (pL E 2)), (1, .int a0), (2, .int a1)]) hx hb dX7_go_35 hl (by decide) rfl (fun ls hl => ?_)
    generalize r4 = y3_37 at hf hl
    have lp37 : ∀ (n : Nat) (x6 : Int32) (x5 : Int32) (x4 : Int32) (α : pSt) (H : Heap) (locs : List Loc) (ls : Array Slot), f_X7_go_L37 y3_37 n x6 x5 x4 α = some (r, α') → va_P (pD E) vwCl (pw E α β) H → va_S (pA E s.heap.size) s.heap H locs → lv_has ls 7 [(6, .int x6), (5, .int x5), (4, .int x4), (3, .int y3_37), (0, .ref (pL E 2))] → W p l e (pR 5) s m [.ref (pL E 2), .int a0, .int a1].toArray below meth c H locs 0 0 (pQ below E s [.ref (pL E 2), .int a0, .int a1].toArray (some (.int r)) α' β) (F0 m 37 ls []) := by
      intro n
      induction n with
      | zero =>
        intro x6 x5 x4 α H locs ls hf
        rw [f_X7_go_L37] at hf
        cases hf
      | succ n37 ih37 =>
        intro x6 x5 x4 α H locs ls hf hP hS hl
        rw [f_X7_go_L37] at hf
        refine lv_iload hx hb dX7_go_37 (lv_at hl 0 rfl) ?_
        refine lv_bipush (v := 40) hx hb dX7_go_39 (by decide) ?_
        refine lv_icmp_ge (tgt := 85) hx hb dX7_go_41 (by decide) (fun h11 => ?_) (fun h11 => ?_)
        · have hf := pif_t hf h11
          refine lv_aload_n hx hb dX7_go_85 rfl (lv_at hl 4 rfl) ?_
          refine g_7_21 C hP dX7_go_86 ?_
          obtain ⟨r12, α13, hc14, hf⟩ := pb2_ok hf
          refine p_callV (n := 0) (As := []) (rest := []) C hP hS (wv_7_50 C.2.2.2.2.1 _) (c_X8_size l C.2.2.2.2.2.2  hc14) (e_X8) rfl rfl hd_X8_size rfl ⟨Nat.le_of_ble_eq_true rfl, Nat.le_of_ble_eq_true rfl⟩ hl.1 rfl (Nat.le_of_ble_eq_true rfl) dX7_go_89 ⟨Nat.zero_le _, Nat.zero_le _⟩ (fun H locs hP hS _ _ => ?_)
          refine W.eq (g2 := F0 m 92 ls [.int r12]) rfl ?_
          refine lv_istore (lv' := [(6, .int r12), (5, .int x5), (4, .int x4), (3, .int y3_37), (0, .ref (pL E 2))]) hx hb dX7_go_92 hl (by decide) rfl (fun ls hl => ?_)
          refine lv_aload_n hx hb dX7_go_94 rfl (lv_at hl 4 rfl) ?_
          refine g_7_57 C hP dX7_go_95 ?_
          refine lv_if_ne (tgt := 112) hx hb dX7_go_98 (by decide) (fun h15 => ?_) (fun h15 => ?_)
          · have hf := pif_f hf h15
            refine lv_aload_n hx hb dX7_go_112 rfl (lv_at hl 4 rfl) ?_
            refine g_7_57 C hP dX7_go_113 ?_
            refine lv_if_eq (tgt := 129) hx hb dX7_go_116 (by decide) (fun h16 => ?_) (fun h16 => ?_)
            · have hf := pif_t hf h16
              refine lv_aload_n hx hb dX7_go_129 rfl (lv_at hl 4 rfl) ?_
              refine g_7_21 C hP dX7_go_130 ?_
              refine lv_iload hx hb dX7_go_133 (lv_at hl 0 rfl) ?_
              obtain ⟨r17, α18, hc19, hf⟩ := pb2_ok hf
              refine p_callV (n := 1) (As := [.int r12]) (rest := []) C hP hS (wv_7_75 C.2.2.2.2.1 _) (c_X8_makeOldAheadOf l C.2.2.2.2.2.2  hc19) (e_X8) rfl rfl hd_X8_makeOldAheadOf rfl ⟨Nat.le_of_ble_eq_true rfl, Nat.le_of_ble_eq_true rfl⟩ hl.1 rfl (Nat.le_of_ble_eq_true rfl) dX7_go_135 ⟨Nat.zero_le _, Nat.zero_le _⟩ (fun H locs hP hS _ _ => ?_)
              refine W.eq (g2 := F0 m 138 ls []) rfl ?_
              refine lv_aload_n hx hb dX7_go_138 rfl (lv_at hl 4 rfl) ?_
              refine lv_aload_n hx hb dX7_go_139 rfl (lv_at hl 4 rfl) ?_
              refine g_7_21 C hP dX7_go_140 ?_
              obtain ⟨r20, α21, hc22, hf⟩ := pb2_ok hf
              refine p_callV (n := 0) (As := []) (rest := [.ref (pL E 2)]) C hP hS (wv_7_50 C.2.2.2.2.1 _) (c_X8_size l C.2.2.2.2.2.2  hc22) (e_X8) rfl rfl hd_X8_size rfl ⟨Nat.le_of_ble_eq_true rfl, Nat.le_of_ble_eq_true rfl⟩ hl.1 rfl (Nat.le_of_ble_eq_true rfl) dX7_go_143 ⟨Nat.zero_le _, Nat.zero_le _⟩ (fun H locs hP hS _ _ => ?_)
              refine W.eq (g2 := F0 m 146 ls [.int r20, .ref (pL E 2)]) rfl ?_
              refine lv_iload_n hx hb dX7_go_146 rfl (lv_at hl 3 rfl) ?_
              refine lv_isub hx hb dX7_go_147 ?_
              refine s_7_78 C hP hS dX7_go_148 (fun H locs hP hS => ?_)
              obtain ⟨α23, eα23, hf⟩ := pl_ok hf
              rw [← eα23] at hP
              clear eα23
              refine lv_aload_n hx hb dX7_go_151 rfl (lv_at hl 4 rfl) ?_
              refine g_7_65 C hP dX7_go_152 ?_
              exact p_iret C hr hlk (pe1 hf) (pe2C hf) hP hS dX7_go_155
            · have hf := pif_f hf h16
              refine lv_aload_n hx hb dX7_go_119 rfl (lv_at hl 4 rfl) ?_
              refine lv_iload_n hx hb dX7_go_120 rfl (lv_at hl 3 rfl) ?_
              obtain ⟨r24, α25, hc26, hf⟩ := pb2_ok hf
              refine p_callV (n := 1) (As := [.int y3_37]) (rest := []) C hP hS (wv_7_71 C.2.2.2.2.1 _) (c_X7_goBack l C.2.2.2.2.2.2  hc26) (e_X7) rfl rfl hd_X7_goBack rfl ⟨Nat.le_of_ble_eq_true rfl, Nat.le_of_ble_eq_true rfl⟩ hl.1 rfl (Nat.le_of_ble_eq_true rfl) dX7_go_121 ⟨Nat.zero_le _, Nat.zero_le _⟩ (fun H locs hP hS _ _ => ?_)
              refine W.eq (g2 := F0 m 124 ls []) rfl ?_
              refine lv_aload_n hx hb dX7_go_124 rfl (lv_at hl 4 rfl) ?_
              refine g_7_57 C hP dX7_go_125 ?_
              exact p_iret C hr hlk (pe1 hf) (pe2C hf) hP hS dX7_go_128
          · have hf := pif_t hf h15
            refine lv_aload_n hx hb dX7_go_101 rfl (lv_at hl 4 rfl) ?_
            refine g_7_65 C hP dX7_go_102 ?_
            refine lv_if_le (tgt := 112) hx hb dX7_go_105 (by decide) (fun h27 => ?_) (fun h27 => ?_)
            · have hf := pif_t hf h27
              refine lv_aload_n hx hb dX7_go_112 rfl (lv_at hl 4 rfl) ?_
              refine g_7_57 C hP dX7_go_113 ?_
              refine lv_if_eq (tgt := 129) hx hb dX7_go_116 (by decide) (fun h28 => ?_) (fun h28 => ?_)
              · have hf := pif_t hf h28
                refine lv_aload_n hx hb dX7_go_129 rfl (lv_at hl 4 rfl) ?_
                refine g_7_21 C hP dX7_go_130 ?_
                refine lv_iload hx hb dX7_go_133 (lv_at hl 0 rfl) ?_
                obtain ⟨r29, α30, hc31, hf⟩ := pb2_ok hf
                refine p_callV (n := 1) (As := [.int r12]) (rest := []) C hP hS (wv_7_75 C.2.2.2.2.1 _) (c_X8_makeOldAheadOf l C.2.2.2.2.2.2  hc31) (e_X8) rfl rfl hd_X8_makeOldAheadOf rfl ⟨Nat.le_of_ble_eq_true rfl, Nat.le_of_ble_eq_true rfl⟩ hl.1 rfl (Nat.le_of_ble_eq_true rfl) dX7_go_135 ⟨Nat.zero_le _, Nat.zero_le _⟩ (fun H locs hP hS _ _ => ?_)
                refine W.eq (g2 := F0 m 138 ls []) rfl ?_
                refine lv_aload_n hx hb dX7_go_138 rfl (lv_at hl 4 rfl) ?_
                refine lv_aload_n hx hb dX7_go_139 rfl (lv_at hl 4 rfl) ?_
                refine g_7_21 C hP dX7_go_140 ?_
                obtain ⟨r32, α33, hc34, hf⟩ := pb2_ok hf
                refine p_callV (n := 0) (As := []) (rest := [.ref (pL E 2)]) C hP hS (wv_7_50 C.2.2.2.2.1 _) (c_X8_size l C.2.2.2.2.2.2  hc34) (e_X8) rfl rfl hd_X8_size rfl ⟨Nat.le_of_ble_eq_true rfl, Nat.le_of_ble_eq_true rfl⟩ hl.1 rfl (Nat.le_of_ble_eq_true rfl) dX7_go_143 ⟨Nat.zero_le _, Nat.zero_le _⟩ (fun H locs hP hS _ _ => ?_)
                refine W.eq (g2 := F0 m 146 ls [.int r32, .ref (pL E 2)]) rfl ?_
                refine lv_iload_n hx hb dX7_go_146 rfl (lv_at hl 3 rfl) ?_
                refine lv_isub hx hb dX7_go_147 ?_
                refine s_7_78 C hP hS dX7_go_148 (fun H locs hP hS => ?_)
                obtain ⟨α35, eα35, hf⟩ := pl_ok hf
                rw [← eα35] at hP
                clear eα35
                refine lv_aload_n hx hb dX7_go_151 rfl (lv_at hl 4 rfl) ?_
                refine g_7_65 C hP dX7_go_152 ?_
                exact p_iret C hr hlk (pe1 hf) (pe2C hf) hP hS dX7_go_155
              · have hf := pif_f hf h28
                refine lv_aload_n hx hb dX7_go_119 rfl (lv_at hl 4 rfl) ?_
                refine lv_iload_n hx hb dX7_go_120 rfl (lv_at hl 3 rfl) ?_
                obtain ⟨r36, α37, hc38, hf⟩ := pb2_ok hf
                refine p_callV (n := 1) (As := [.int y3_37]) (rest := []) C hP hS (wv_7_71 C.2.2.2.2.1 _) (c_X7_goBack l C.2.2.2.2.2.2  hc38) (e_X7) rfl rfl hd_X7_goBack rfl ⟨Nat.le_of_ble_eq_true rfl, Nat.le_of_ble_eq_true rfl⟩ hl.1 rfl (Nat.le_of_ble_eq_true rfl) dX7_go_121 ⟨Nat.zero_le _, Nat.zero_le _⟩ (fun H locs hP hS _ _ => ?_)
                refine W.eq (g2 := F0 m 124 ls []) rfl ?_
                refine lv_aload_n hx hb dX7_go_124 rfl (lv_at hl 4 rfl) ?_
                refine g_7_57 C hP dX7_go_125 ?_
                exact p_iret C hr hlk (pe1 hf) (pe2C hf) hP hS dX7_go_128
            · have hf := pif_f hf h27
              refine lv_aload_n hx hb dX7_go_108 rfl (lv_at hl 4 rfl) ?_
              obtain ⟨r39, α40, hc41, hf⟩ := pb2_ok hf
              refine p_callV (n := 0) (As := []) (rest := []) C hP hS (wv_7_68 C.2.2.2.2.1 _) (c_X7_makeEnd l C.2.2.2.2.2.2  hc41) (e_X7) rfl rfl hd_X7_makeEnd rfl ⟨Nat.le_of_ble_eq_true rfl, Nat.le_of_ble_eq_true rfl⟩ hl.1 rfl (Nat.le_of_ble_eq_true rfl) dX7_go_109 ⟨Nat.zero_le _, Nat.zero_le _⟩ (fun H locs hP hS _ _ => ?_)
              refine W.eq (g2 := F0 m 112 ls []) rfl ?_
              refine lv_aload_n hx hb dX7_go_112 rfl (lv_at hl 4 rfl) ?_
              refine g_7_57 C hP dX7_go_113 ?_
              refine lv_if_eq (tgt := 129) hx hb dX7_go_116 (by decide) (fun h42 => ?_) (fun h42 => ?_)
              · have hf := pif_t hf h42
                refine lv_aload_n hx hb dX7_go_129 rfl (lv_at hl 4 rfl) ?_
                refine g_7_21 C hP dX7_go_130 ?_
                refine lv_iload hx hb dX7_go_133 (lv_at hl 0 rfl) ?_
                obtain ⟨r43, α44, hc45, hf⟩ := pb2_ok hf
                refine p_callV (n := 1) (As := [.int r12]) (rest := []) C hP hS (wv_7_75 C.2.2.2.2.1 _) (c_X8_makeOldAheadOf l C.2.2.2.2.2.2  hc45) (e_X8) rfl rfl hd_X8_makeOldAheadOf rfl ⟨Nat.le_of_ble_eq_true rfl, Nat.le_of_ble_eq_true rfl⟩ hl.1 rfl (Nat.le_of_ble_eq_true rfl) dX7_go_135 ⟨Nat.zero_le _, Nat.zero_le _⟩ (fun H locs hP hS _ _ => ?_)
                refine W.eq (g2 := F0 m 138 ls []) rfl ?_
                refine lv_aload_n hx hb dX7_go_138 rfl (lv_at hl 4 rfl) ?_
                refine lv_aload_n hx hb dX7_go_139 rfl (lv_at hl 4 rfl) ?_
                refine g_7_21 C hP dX7_go_140 ?_
                obtain ⟨r46, α47, hc48, hf⟩ := pb2_ok hf
                refine p_callV (n := 0) (As := []) (rest := [.ref (pL E 2)]) C hP hS (wv_7_50 C.2.2.2.2.1 _) (c_X8_size l C.2.2.2.2.2.2  hc48) (e_X8) rfl rfl hd_X8_size rfl ⟨Nat.le_of_ble_eq_true rfl, Nat.le_of_ble_eq_true rfl⟩ hl.1 rfl (Nat.le_of_ble_eq_true rfl) dX7_go_143 ⟨Nat.zero_le _, Nat.zero_le _⟩ (fun H locs hP hS _ _ => ?_)
                refine W.eq (g2 := F0 m 146 ls [.int r46, .ref (pL E 2)]) rfl ?_
                refine lv_iload_n hx hb dX7_go_146 rfl (lv_at hl 3 rfl) ?_
                refine lv_isub hx hb dX7_go_147 ?_
                refine s_7_78 C hP hS dX7_go_148 (fun H locs hP hS => ?_)
                obtain ⟨α49, eα49, hf⟩ := pl_ok hf
                rw [← eα49] at hP
                clear eα49
                refine lv_aload_n hx hb dX7_go_151 rfl (lv_at hl 4 rfl) ?_
                refine g_7_65 C hP dX7_go_152 ?_
                exact p_iret C hr hlk (pe1 hf) (pe2C hf) hP hS dX7_go_155
              · have hf := pif_f hf h42
                refine lv_aload_n hx hb dX7_go_119 rfl (lv_at hl 4 rfl) ?_
                refine lv_iload_n hx hb dX7_go_120 rfl (lv_at hl 3 rfl) ?_
                obtain ⟨r50, α51, hc52, hf⟩ := pb2_ok hf
                refine p_callV (n := 1) (As := [.int y3_37]) (rest := []) C hP hS (wv_7_71 C.2.2.2.2.1 _) (c_X7_goBack l C.2.2.2.2.2.2  hc52) (e_X7) rfl rfl hd_X7_goBack rfl ⟨Nat.le_of_ble_eq_true rfl, Nat.le_of_ble_eq_true rfl⟩ hl.1 rfl (Nat.le_of_ble_eq_true rfl) dX7_go_121 ⟨Nat.zero_le _, Nat.zero_le _⟩ (fun H locs hP hS _ _ => ?_)
                refine W.eq (g2 := F0 m 124 ls []) rfl ?_
                refine lv_aload_n hx hb dX7_go_124 rfl (lv_at hl 4 rfl) ?_
                refine g_7_57 C hP dX7_go_125 ?_
                exact p_iret C hr hlk (pe1 hf) (pe2C hf) hP hS dX7_go_128
        · have hf := pif_f hf h11
          refine lv_aload_n hx hb dX7_go_44 rfl (lv_at hl 4 rfl) ?_
          refine g_7_57 C hP dX7_go_45 ?_
          refine lv_if_ne (tgt := 85) hx hb dX7_go_48 (by decide) (fun h53 => ?_) (fun h53 => ?_)
          · have hf := pif_f hf h53
            refine lv_aload_n hx hb dX7_go_85 rfl (lv_at hl 4 rfl) ?_
            refine g_7_21 C hP dX7_go_86 ?_
            obtain ⟨r54, α55, hc56, hf⟩ := pb2_ok hf
            refine p_callV (n := 0) (As := []) (rest := []) C hP hS (wv_7_50 C.2.2.2.2.1 _) (c_X8_size l C.2.2.2.2.2.2  hc56) (e_X8) rfl rfl hd_X8_size rfl ⟨Nat.le_of_ble_eq_true rfl, Nat.le_of_ble_eq_true rfl⟩ hl.1 rfl (Nat.le_of_ble_eq_true rfl) dX7_go_89 ⟨Nat.zero_le _, Nat.zero_le _⟩ (fun H locs hP hS _ _ => ?_)
            refine W.eq (g2 := F0 m 92 ls [.int r54]) rfl ?_
            refine lv_istore (lv' := [(6, .int r54), (5, .int x5), (4, .int x4), (3, .int y3_37), (0, .ref (pL E 2))]) hx hb dX7_go_92 hl (by decide) rfl (fun ls hl => ?_)
            refine lv_aload_n hx hb dX7_go_94 rfl (lv_at hl 4 rfl) ?_
            refine g_7_57 C hP dX7_go_95 ?_
            refine lv_if_ne (tgt := 112) hx hb dX7_go_98 (by decide) (fun h57 => ?_) (fun h57 => ?_)
            · have hf := pif_f hf h57
              refine lv_aload_n hx hb dX7_go_112 rfl (lv_at hl 4 rfl) ?_
              refine g_7_57 C hP dX7_go_113 ?_
              refine lv_if_eq (tgt := 129) hx hb dX7_go_116 (by decide) (fun h58 => ?_) (fun h58 => ?_)
              · have hf := pif_t hf h58
                refine lv_aload_n hx hb dX7_go_129 rfl (lv_at hl 4 rfl) ?_
                refine g_7_21 C hP dX7_go_130 ?_
                refine lv_iload hx hb dX7_go_133 (lv_at hl 0 rfl) ?_
                obtain ⟨r59, α60, hc61, hf⟩ := pb2_ok hf
                refine p_callV (n := 1) (As := [.int r54]) (rest := []) C hP hS (wv_7_75 C.2.2.2.2.1 _) (c_X8_makeOldAheadOf l C.2.2.2.2.2.2  hc61) (e_X8) rfl rfl hd_X8_makeOldAheadOf rfl ⟨Nat.le_of_ble_eq_true rfl, Nat.le_of_ble_eq_true rfl⟩ hl.1 rfl (Nat.le_of_ble_eq_true rfl) dX7_go_135 ⟨Nat.zero_le _, Nat.zero_le _⟩ (fun H locs hP hS _ _ => ?_)
                refine W.eq (g2 := F0 m 138 ls []) rfl ?_
                refine lv_aload_n hx hb dX7_go_138 rfl (lv_at hl 4 rfl) ?_
                refine lv_aload_n hx hb dX7_go_139 rfl (lv_at hl 4 rfl) ?_
                refine g_7_21 C hP dX7_go_140 ?_
                obtain ⟨r62, α63, hc64, hf⟩ := pb2_ok hf
                refine p_callV (n := 0) (As := []) (rest := [.ref (pL E 2)]) C hP hS (wv_7_50 C.2.2.2.2.1 _) (c_X8_size l C.2.2.2.2.2.2  hc64) (e_X8) rfl rfl hd_X8_size rfl ⟨Nat.le_of_ble_eq_true rfl, Nat.le_of_ble_eq_true rfl⟩ hl.1 rfl (Nat.le_of_ble_eq_true rfl) dX7_go_143 ⟨Nat.zero_le _, Nat.zero_le _⟩ (fun H locs hP hS _ _ => ?_)
                refine W.eq (g2 := F0 m 146 ls [.int r62, .ref (pL E 2)]) rfl ?_
                refine lv_iload_n hx hb dX7_go_146 rfl (lv_at hl 3 rfl) ?_
                refine lv_isub hx hb dX7_go_147 ?_
                refine s_7_78 C hP hS dX7_go_148 (fun H locs hP hS => ?_)
                obtain ⟨α65, eα65, hf⟩ := pl_ok hf
                rw [← eα65] at hP
                clear eα65
                refine lv_aload_n hx hb dX7_go_151 rfl (lv_at hl 4 rfl) ?_
                refine g_7_65 C hP dX7_go_152 ?_
                exact p_iret C hr hlk (pe1 hf) (pe2C hf) hP hS dX7_go_155
              · have hf := pif_f hf h58
                refine lv_aload_n hx hb dX7_go_119 rfl (lv_at hl 4 rfl) ?_
                refine lv_iload_n hx hb dX7_go_120 rfl (lv_at hl 3 rfl) ?_
                obtain ⟨r66, α67, hc68, hf⟩ := pb2_ok hf
                refine p_callV (n := 1) (As := [.int y3_37]) (rest := []) C hP hS (wv_7_71 C.2.2.2.2.1 _) (c_X7_goBack l C.2.2.2.2.2.2  hc68) (e_X7) rfl rfl hd_X7_goBack rfl ⟨Nat.le_of_ble_eq_true rfl, Nat.le_of_ble_eq_true rfl⟩ hl.1 rfl (Nat.le_of_ble_eq_true rfl) dX7_go_121 ⟨Nat.zero_le _, Nat.zero_le _⟩ (fun H locs hP hS _ _ => ?_)
                refine W.eq (g2 := F0 m 124 ls []) rfl ?_
                refine lv_aload_n hx hb dX7_go_124 rfl (lv_at hl 4 rfl) ?_
                refine g_7_57 C hP dX7_go_125 ?_
                exact p_iret C hr hlk (pe1 hf) (pe2C hf) hP hS dX7_go_128
            · have hf := pif_t hf h57
              refine lv_aload_n hx hb dX7_go_101 rfl (lv_at hl 4 rfl) ?_
              refine g_7_65 C hP dX7_go_102 ?_
              refine lv_if_le (tgt := 112) hx hb dX7_go_105 (by decide) (fun h69 => ?_) (fun h69 => ?_)
              · have hf := pif_t hf h69
                refine lv_aload_n hx hb dX7_go_112 rfl (lv_at hl 4 rfl) ?_
                refine g_7_57 C hP dX7_go_113 ?_
                refine lv_if_eq (tgt := 129) hx hb dX7_go_116 (by decide) (fun h70 => ?_) (fun h70 => ?_)
                · have hf := pif_t hf h70
                  refine lv_aload_n hx hb dX7_go_129 rfl (lv_at hl 4 rfl) ?_
                  refine g_7_21 C hP dX7_go_130 ?_
                  refine lv_iload hx hb dX7_go_133 (lv_at hl 0 rfl) ?_
                  obtain ⟨r71, α72, hc73, hf⟩ := pb2_ok hf
                  refine p_callV (n := 1) (As := [.int r54]) (rest := []) C hP hS (wv_7_75 C.2.2.2.2.1 _) (c_X8_makeOldAheadOf l C.2.2.2.2.2.2  hc73) (e_X8) rfl rfl hd_X8_makeOldAheadOf rfl ⟨Nat.le_of_ble_eq_true rfl, Nat.le_of_ble_eq_true rfl⟩ hl.1 rfl (Nat.le_of_ble_eq_true rfl) dX7_go_135 ⟨Nat.zero_le _, Nat.zero_le _⟩ (fun H locs hP hS _ _ => ?_)
                  refine W.eq (g2 := F0 m 138 ls []) rfl ?_
                  refine lv_aload_n hx hb dX7_go_138 rfl (lv_at hl 4 rfl) ?_
                  refine lv_aload_n hx hb dX7_go_139 rfl (lv_at hl 4 rfl) ?_
                  refine g_7_21 C hP dX7_go_140 ?_
                  obtain ⟨r74, α75, hc76, hf⟩ := pb2_ok hf
                  refine p_callV (n := 0) (As := []) (rest := [.ref (pL E 2)]) C hP hS (wv_7_50 C.2.2.2.2.1 _) (c_X8_size l C.2.2.2.2.2.2  hc76) (e_X8) rfl rfl hd_X8_size rfl ⟨Nat.le_of_ble_eq_true rfl, Nat.le_of_ble_eq_true rfl⟩ hl.1 rfl (Nat.le_of_ble_eq_true rfl) dX7_go_143 ⟨Nat.zero_le _, Nat.zero_le _⟩ (fun H locs hP hS _ _ => ?_)
                  refine W.eq (g2 := F0 m 146 ls [.int r74, .ref (pL E 2)]) rfl ?_
                  refine lv_iload_n hx hb dX7_go_146 rfl (lv_at hl 3 rfl) ?_
                  refine lv_isub hx hb dX7_go_147 ?_
                  refine s_7_78 C hP hS dX7_go_148 (fun H locs hP hS => ?_)
                  obtain ⟨α77, eα77, hf⟩ := pl_ok hf
                  rw [← eα77] at hP
                  clear eα77
                  refine lv_aload_n hx hb dX7_go_151 rfl (lv_at hl 4 rfl) ?_
                  refine g_7_65 C hP dX7_go_152 ?_
                  exact p_iret C hr hlk (pe1 hf) (pe2C hf) hP hS dX7_go_155
                · have hf := pif_f hf h70
                  refine lv_aload_n hx hb dX7_go_119 rfl (lv_at hl 4 rfl) ?_
                  refine lv_iload_n hx hb dX7_go_120 rfl (lv_at hl 3 rfl) ?_
                  obtain ⟨r78, α79, hc80, hf⟩ := pb2_ok hf
                  refine p_callV (n := 1) (As := [.int y3_37]) (rest := []) C hP hS (wv_7_71 C.2.2.2.2.1 _) (c_X7_goBack l C.2.2.2.2.2.2  hc80) (e_X7) rfl rfl hd_X7_goBack rfl ⟨Nat.le_of_ble_eq_true rfl, Nat.le_of_ble_eq_true rfl⟩ hl.1 rfl (Nat.le_of_ble_eq_true rfl) dX7_go_121 ⟨Nat.zero_le _, Nat.zero_le _⟩ (fun H locs hP hS _ _ => ?_)
                  refine W.eq (g2 := F0 m 124 ls []) rfl ?_
                  refine lv_aload_n hx hb dX7_go_124 rfl (lv_at hl 4 rfl) ?_
                  refine g_7_57 C hP dX7_go_125 ?_
                  exact p_iret C hr hlk (pe1 hf) (pe2C hf) hP hS dX7_go_128
              · have hf := pif_f hf h69
                refine lv_aload_n hx hb dX7_go_108 rfl (lv_at hl 4 rfl) ?_
                obtain ⟨r81, α82, hc83, hf⟩ := pb2_ok hf
                refine p_callV (n := 0) (As := []) (rest := []) C hP hS (wv_7_68 C.2.2.2.2.1 _) (c_X7_makeEnd l C.2.2.2.2.2.2  hc83) (e_X7) rfl rfl hd_X7_makeEnd rfl ⟨Nat.le_of_ble_eq_true rfl, Nat.le_of_ble_eq_true rfl⟩ hl.1 rfl (Nat.le_of_ble_eq_true rfl) dX7_go_109 ⟨Nat.zero_le _, Nat.zero_le _⟩ (fun H locs hP hS _ _ => ?_)
                refine W.eq (g2 := F0 m 112 ls []) rfl ?_
                refine lv_aload_n hx hb dX7_go_112 rfl (lv_at hl 4 rfl) ?_
                refine g_7_57 C hP dX7_go_113 ?_
                refine lv_if_eq (tgt := 129) hx hb dX7_go_116 (by decide) (fun h84 => ?_) (fun h84 => ?_)
                · have hf := pif_t hf h84
                  refine lv_aload_n hx hb dX7_go_129 rfl (lv_at hl 4 rfl) ?_
                  refine g_7_21 C hP dX7_go_130 ?_
                  refine lv_iload hx hb dX7_go_133 (lv_at hl 0 rfl) ?_
                  obtain ⟨r85, α86, hc87, hf⟩ := pb2_ok hf
                  refine p_callV (n := 1) (As := [.int r54]) (rest := []) C hP hS (wv_7_75 C.2.2.2.2.1 _) (c_X8_makeOldAheadOf l C.2.2.2.2.2.2  hc87) (e_X8) rfl rfl hd_X8_makeOldAheadOf rfl ⟨Nat.le_of_ble_eq_true rfl, Nat.le_of_ble_eq_true rfl⟩ hl.1 rfl (Nat.le_of_ble_eq_true rfl) dX7_go_135 ⟨Nat.zero_le _, Nat.zero_le _⟩ (fun H locs hP hS _ _ => ?_)
                  refine W.eq (g2 := F0 m 138 ls []) rfl ?_
                  refine lv_aload_n hx hb dX7_go_138 rfl (lv_at hl 4 rfl) ?_
                  refine lv_aload_n hx hb dX7_go_139 rfl (lv_at hl 4 rfl) ?_
                  refine g_7_21 C hP dX7_go_140 ?_
                  obtain ⟨r88, α89, hc90, hf⟩ := pb2_ok hf
                  refine p_callV (n := 0) (As := []) (rest := [.ref (pL E 2)]) C hP hS (wv_7_50 C.2.2.2.2.1 _) (c_X8_size l C.2.2.2.2.2.2  hc90) (e_X8) rfl rfl hd_X8_size rfl ⟨Nat.le_of_ble_eq_true rfl, Nat.le_of_ble_eq_true rfl⟩ hl.1 rfl (Nat.le_of_ble_eq_true rfl) dX7_go_143 ⟨Nat.zero_le _, Nat.zero_le _⟩ (fun H locs hP hS _ _ => ?_)
                  refine W.eq (g2 := F0 m 146 ls [.int r88, .ref (pL E 2)]) rfl ?_
                  refine lv_iload_n hx hb dX7_go_146 rfl (lv_at hl 3 rfl) ?_
                  refine lv_isub hx hb dX7_go_147 ?_
                  refine s_7_78 C hP hS dX7_go_148 (fun H locs hP hS => ?_)
                  obtain ⟨α91, eα91, hf⟩ := pl_ok hf
                  rw [← eα91] at hP
                  clear eα91
                  refine lv_aload_n hx hb dX7_go_151 rfl (lv_at hl 4 rfl) ?_
                  refine g_7_65 C hP dX7_go_152 ?_
                  exact p_iret C hr hlk (pe1 hf) (pe2C hf) hP hS dX7_go_155
                · have hf := pif_f hf h84
                  refine lv_aload_n hx hb dX7_go_119 rfl (lv_at hl 4 rfl) ?_
                  refine lv_iload_n hx hb dX7_go_120 rfl (lv_at hl 3 rfl) ?_
                  obtain ⟨r92, α93, hc94, hf⟩ := pb2_ok hf
                  refine p_callV (n := 1) (As := [.int y3_37]) (rest := []) C hP hS (wv_7_71 C.2.2.2.2.1 _) (c_X7_goBack l C.2.2.2.2.2.2  hc94) (e_X7) rfl rfl hd_X7_goBack rfl ⟨Nat.le_of_ble_eq_true rfl, Nat.le_of_ble_eq_true rfl⟩ hl.1 rfl (Nat.le_of_ble_eq_true rfl) dX7_go_121 ⟨Nat.zero_le _, Nat.zero_le _⟩ (fun H locs hP hS _ _ => ?_)
                  refine W.eq (g2 := F0 m 124 ls []) rfl ?_
                  refine lv_aload_n hx hb dX7_go_124 rfl (lv_at hl 4 rfl) ?_
                  refine g_7_57 C hP dX7_go_125 ?_
                  exact p_iret C hr hlk (pe1 hf) (pe2C hf) hP hS dX7_go_128
          · have hf := pif_t hf h53
            refine lv_iload hx hb dX7_go_51 (lv_at hl 2 rfl) ?_
            refine lv_iload hx hb dX7_go_53 (lv_at hl 1 rfl) ?_
            refine lv_icmp_ge (tgt := 85) hx hb dX7_go_55 (by decide) (fun h95 => ?_) (fun h95 => ?_)
            · have hf := pif_t hf h95
              refine lv_aload_n hx hb dX7_go_85 rfl (lv_at hl 4 rfl) ?_
              refine g_7_21 C hP dX7_go_86 ?_
              obtain ⟨r96, α97, hc98, hf⟩ := pb2_ok hf
              refine p_callV (n := 0) (As := []) (rest := []) C hP hS (wv_7_50 C.2.2.2.2.1 _) (c_X8_size l C.2.2.2.2.2.2  hc98) (e_X8) rfl rfl hd_X8_size rfl ⟨Nat.le_of_ble_eq_true rfl, Nat.le_of_ble_eq_true rfl⟩ hl.1 rfl (Nat.le_of_ble_eq_true rfl) dX7_go_89 ⟨Nat.zero_le _, Nat.zero_le _⟩ (fun H locs hP hS _ _ => ?_)
              refine W.eq (g2 := F0 m 92 ls [.int r96]) rfl ?_
              refine lv_istore (lv' := [(6, .int r96), (5, .int x5), (4, .int x4), (3, .int y3_37), (0, .ref (pL E 2))]) hx hb dX7_go_92 hl (by decide) rfl (fun ls hl => ?_)
              refine lv_aload_n hx hb dX7_go_94 rfl (lv_at hl 4 rfl) ?_
              refine g_7_57 C hP dX7_go_95 ?_
              refine lv_if_ne (tgt := 112) hx hb dX7_go_98 (by decide) (fun h99 => ?_) (fun h99 => ?_)
              · have hf := pif_f hf h99
                refine lv_aload_n hx hb dX7_go_112 rfl (lv_at hl 4 rfl) ?_
                refine g_7_57 C hP dX7_go_113 ?_
                refine lv_if_eq (tgt := 129) hx hb dX7_go_116 (by decide) (fun h100 => ?_) (fun h100 => ?_)
                · have hf := pif_t hf h100
                  refine lv_aload_n hx hb dX7_go_129 rfl (lv_at hl 4 rfl) ?_
                  refine g_7_21 C hP dX7_go_130 ?_
                  refine lv_iload hx hb dX7_go_133 (lv_at hl 0 rfl) ?_
                  obtain ⟨r101, α102, hc103, hf⟩ := pb2_ok hf
                  refine p_callV (n := 1) (As := [.int r96]) (rest := []) C hP hS (wv_7_75 C.2.2.2.2.1 _) (c_X8_makeOldAheadOf l C.2.2.2.2.2.2  hc103) (e_X8) rfl rfl hd_X8_makeOldAheadOf rfl ⟨Nat.le_of_ble_eq_true rfl, Nat.le_of_ble_eq_true rfl⟩ hl.1 rfl (Nat.le_of_ble_eq_true rfl) dX7_go_135 ⟨Nat.zero_le _, Nat.zero_le _⟩ (fun H locs hP hS _ _ => ?_)
                  refine W.eq (g2 := F0 m 138 ls []) rfl ?_
                  refine lv_aload_n hx hb dX7_go_138 rfl (lv_at hl 4 rfl) ?_
                  refine lv_aload_n hx hb dX7_go_139 rfl (lv_at hl 4 rfl) ?_
                  refine g_7_21 C hP dX7_go_140 ?_
                  obtain ⟨r104, α105, hc106, hf⟩ := pb2_ok hf
                  refine p_callV (n := 0) (As := []) (rest := [.ref (pL E 2)]) C hP hS (wv_7_50 C.2.2.2.2.1 _) (c_X8_size l C.2.2.2.2.2.2  hc106) (e_X8) rfl rfl hd_X8_size rfl ⟨Nat.le_of_ble_eq_true rfl, Nat.le_of_ble_eq_true rfl⟩ hl.1 rfl (Nat.le_of_ble_eq_true rfl) dX7_go_143 ⟨Nat.zero_le _, Nat.zero_le _⟩ (fun H locs hP hS _ _ => ?_)
                  refine W.eq (g2 := F0 m 146 ls [.int r104, .ref (pL E 2)]) rfl ?_
                  refine lv_iload_n hx hb dX7_go_146 rfl (lv_at hl 3 rfl) ?_
                  refine lv_isub hx hb dX7_go_147 ?_
                  refine s_7_78 C hP hS dX7_go_148 (fun H locs hP hS => ?_)
                  obtain ⟨α107, eα107, hf⟩ := pl_ok hf
                  rw [← eα107] at hP
                  clear eα107
                  refine lv_aload_n hx hb dX7_go_151 rfl (lv_at hl 4 rfl) ?_
                  refine g_7_65 C hP dX7_go_152 ?_
                  exact p_iret C hr hlk (pe1 hf) (pe2C hf) hP hS dX7_go_155
                · have hf := pif_f hf h100
                  refine lv_aload_n hx hb dX7_go_119 rfl (lv_at hl 4 rfl) ?_
                  refine lv_iload_n hx hb dX7_go_120 rfl (lv_at hl 3 rfl) ?_
                  obtain ⟨r108, α109, hc110, hf⟩ := pb2_ok hf
                  refine p_callV (n := 1) (As := [.int y3_37]) (rest := []) C hP hS (wv_7_71 C.2.2.2.2.1 _) (c_X7_goBack l C.2.2.2.2.2.2  hc110) (e_X7) rfl rfl hd_X7_goBack rfl ⟨Nat.le_of_ble_eq_true rfl, Nat.le_of_ble_eq_true rfl⟩ hl.1 rfl (Nat.le_of_ble_eq_true rfl) dX7_go_121 ⟨Nat.zero_le _, Nat.zero_le _⟩ (fun H locs hP hS _ _ => ?_)
                  refine W.eq (g2 := F0 m 124 ls []) rfl ?_
                  refine lv_aload_n hx hb dX7_go_124 rfl (lv_at hl 4 rfl) ?_
                  refine g_7_57 C hP dX7_go_125 ?_
                  exact p_iret C hr hlk (pe1 hf) (pe2C hf) hP hS dX7_go_128
              · have hf := pif_t hf h99
                refine lv_aload_n hx hb dX7_go_101 rfl (lv_at hl 4 rfl) ?_
                refine g_7_65 C hP dX7_go_102 ?_
                refine lv_if_le (tgt := 112) hx hb dX7_go_105 (by decide) (fun h111 => ?_) (fun h111 => ?_)
                · have hf := pif_t hf h111
                  refine lv_aload_n hx hb dX7_go_112 rfl (lv_at hl 4 rfl) ?_
                  refine g_7_57 C hP dX7_go_113 ?_
                  refine lv_if_eq (tgt := 129) hx hb dX7_go_116 (by decide) (fun h112 => ?_) (fun h112 => ?_)
                  · have hf := pif_t hf h112
                    refine lv_aload_n hx hb dX7_go_129 rfl (lv_at hl 4 rfl) ?_
                    refine g_7_21 C hP dX7_go_130 ?_
                    refine lv_iload hx hb dX7_go_133 (lv_at hl 0 rfl) ?_
                    obtain ⟨r113, α114, hc115, hf⟩ := pb2_ok hf
                    refine p_callV (n := 1) (As := [.int r96]) (rest := []) C hP hS (wv_7_75 C.2.2.2.2.1 _) (c_X8_makeOldAheadOf l C.2.2.2.2.2.2  hc115) (e_X8) rfl rfl hd_X8_makeOldAheadOf rfl ⟨Nat.le_of_ble_eq_true rfl, Nat.le_of_ble_eq_true rfl⟩ hl.1 rfl (Nat.le_of_ble_eq_true rfl) dX7_go_135 ⟨Nat.zero_le _, Nat.zero_le _⟩ (fun H locs hP hS _ _ => ?_)
                    refine W.eq (g2 := F0 m 138 ls []) rfl ?_
                    refine lv_aload_n hx hb dX7_go_138 rfl (lv_at hl 4 rfl) ?_
                    refine lv_aload_n hx hb dX7_go_139 rfl (lv_at hl 4 rfl) ?_
                    refine g_7_21 C hP dX7_go_140 ?_
                    obtain ⟨r116, α117, hc118, hf⟩ := pb2_ok hf
                    refine p_callV (n := 0) (As := []) (rest := [.ref (pL E 2)]) C hP hS (wv_7_50 C.2.2.2.2.1 _) (c_X8_size l C.2.2.2.2.2.2  hc118) (e_X8) rfl rfl hd_X8_size rfl ⟨Nat.le_of_ble_eq_true rfl, Nat.le_of_ble_eq_true rfl⟩ hl.1 rfl (Nat.le_of_ble_eq_true rfl) dX7_go_143 ⟨Nat.zero_le _, Nat.zero_le _⟩ (fun H locs hP hS _ _ => ?_)
                    refine W.eq (g2 := F0 m 146 ls [.int r116, .ref (pL E 2)]) rfl ?_
                    refine lv_iload_n hx hb dX7_go_146 rfl (lv_at hl 3 rfl) ?_
                    refine lv_isub hx hb dX7_go_147 ?_
                    refine s_7_78 C hP hS dX7_go_148 (fun H locs hP hS => ?_)
                    obtain ⟨α119, eα119, hf⟩ := pl_ok hf
                    rw [← eα119] at hP
                    clear eα119
                    refine lv_aload_n hx hb dX7_go_151 rfl (lv_at hl 4 rfl) ?_
                    refine g_7_65 C hP dX7_go_152 ?_
                    exact p_iret C hr hlk (pe1 hf) (pe2C hf) hP hS dX7_go_155
                  · have hf := pif_f hf h112
                    refine lv_aload_n hx hb dX7_go_119 rfl (lv_at hl 4 rfl) ?_
                    refine lv_iload_n hx hb dX7_go_120 rfl (lv_at hl 3 rfl) ?_
                    obtain ⟨r120, α121, hc122, hf⟩ := pb2_ok hf
                    refine p_callV (n := 1) (As := [.int y3_37]) (rest := []) C hP hS (wv_7_71 C.2.2.2.2.1 _) (c_X7_goBack l C.2.2.2.2.2.2  hc122) (e_X7) rfl rfl hd_X7_goBack rfl ⟨Nat.le_of_ble_eq_true rfl, Nat.le_of_ble_eq_true rfl⟩ hl.1 rfl (Nat.le_of_ble_eq_true rfl) dX7_go_121 ⟨Nat.zero_le _, Nat.zero_le _⟩ (fun H locs hP hS _ _ => ?_)
                    refine W.eq (g2 := F0 m 124 ls []) rfl ?_
                    refine lv_aload_n hx hb dX7_go_124 rfl (lv_at hl 4 rfl) ?_
                    refine g_7_57 C hP dX7_go_125 ?_
                    exact p_iret C hr hlk (pe1 hf) (pe2C hf) hP hS dX7_go_128
                · have hf := pif_f hf h111
                  refine lv_aload_n hx hb dX7_go_108 rfl (lv_at hl 4 rfl) ?_
                  obtain ⟨r123, α124, hc125, hf⟩ := pb2_ok hf
                  refine p_callV (n := 0) (As := []) (rest := []) C hP hS (wv_7_68 C.2.2.2.2.1 _) (c_X7_makeEnd l C.2.2.2.2.2.2  hc125) (e_X7) rfl rfl hd_X7_makeEnd rfl ⟨Nat.le_of_ble_eq_true rfl, Nat.le_of_ble_eq_true rfl⟩ hl.1 rfl (Nat.le_of_ble_eq_true rfl) dX7_go_109 ⟨Nat.zero_le _, Nat.zero_le _⟩ (fun H locs hP hS _ _ => ?_)
                  refine W.eq (g2 := F0 m 112 ls []) rfl ?_
                  refine lv_aload_n hx hb dX7_go_112 rfl (lv_at hl 4 rfl) ?_
                  refine g_7_57 C hP dX7_go_113 ?_
                  refine lv_if_eq (tgt := 129) hx hb dX7_go_116 (by decide) (fun h126 => ?_) (fun h126 => ?_)
                  · have hf := pif_t hf h126
                    refine lv_aload_n hx hb dX7_go_129 rfl (lv_at hl 4 rfl) ?_
                    refine g_7_21 C hP dX7_go_130 ?_
                    refine lv_iload hx hb dX7_go_133 (lv_at hl 0 rfl) ?_
                    obtain ⟨r127, α128, hc129, hf⟩ := pb2_ok hf
                    refine p_callV (n := 1) (As := [.int r96]) (rest := []) C hP hS (wv_7_75 C.2.2.2.2.1 _) (c_X8_makeOldAheadOf l C.2.2.2.2.2.2  hc129) (e_X8) rfl rfl hd_X8_makeOldAheadOf rfl ⟨Nat.le_of_ble_eq_true rfl, Nat.le_of_ble_eq_true rfl⟩ hl.1 rfl (Nat.le_of_ble_eq_true rfl) dX7_go_135 ⟨Nat.zero_le _, Nat.zero_le _⟩ (fun H locs hP hS _ _ => ?_)
                    refine W.eq (g2 := F0 m 138 ls []) rfl ?_
                    refine lv_aload_n hx hb dX7_go_138 rfl (lv_at hl 4 rfl) ?_
                    refine lv_aload_n hx hb dX7_go_139 rfl (lv_at hl 4 rfl) ?_
                    refine g_7_21 C hP dX7_go_140 ?_
                    obtain ⟨r130, α131, hc132, hf⟩ := pb2_ok hf
                    refine p_callV (n := 0) (As := []) (rest := [.ref (pL E 2)]) C hP hS (wv_7_50 C.2.2.2.2.1 _) (c_X8_size l C.2.2.2.2.2.2  hc132) (e_X8) rfl rfl hd_X8_size rfl ⟨Nat.le_of_ble_eq_true rfl, Nat.le_of_ble_eq_true rfl⟩ hl.1 rfl (Nat.le_of_ble_eq_true rfl) dX7_go_143 ⟨Nat.zero_le _, Nat.zero_le _⟩ (fun H locs hP hS _ _ => ?_)
                    refine W.eq (g2 := F0 m 146 ls [.int r130, .ref (pL E 2)]) rfl ?_
                    refine lv_iload_n hx hb dX7_go_146 rfl (lv_at hl 3 rfl) ?_
                    refine lv_isub hx hb dX7_go_147 ?_
                    refine s_7_78 C hP hS dX7_go_148 (fun H locs hP hS => ?_)
                    obtain ⟨α133, eα133, hf⟩ := pl_ok hf
                    rw [← eα133] at hP
                    clear eα133
                    refine lv_aload_n hx hb dX7_go_151 rfl (lv_at hl 4 rfl) ?_
                    refine g_7_65 C hP dX7_go_152 ?_
                    exact p_iret C hr hlk (pe1 hf) (pe2C hf) hP hS dX7_go_155
                  · have hf := pif_f hf h126
                    refine lv_aload_n hx hb dX7_go_119 rfl (lv_at hl 4 rfl) ?_
                    refine lv_iload_n hx hb dX7_go_120 rfl (lv_at hl 3 rfl) ?_
                    obtain ⟨r134, α135, hc136, hf⟩ := pb2_ok hf
                    refine p_callV (n := 1) (As := [.int y3_37]) (rest := []) C hP hS (wv_7_71 C.2.2.2.2.1 _) (c_X7_goBack l C.2.2.2.2.2.2  hc136) (e_X7) rfl rfl hd_X7_goBack rfl ⟨Nat.le_of_ble_eq_true rfl, Nat.le_of_ble_eq_true rfl⟩ hl.1 rfl (Nat.le_of_ble_eq_true rfl) dX7_go_121 ⟨Nat.zero_le _, Nat.zero_le _⟩ (fun H locs hP hS _ _ => ?_)
                    refine W.eq (g2 := F0 m 124 ls []) rfl ?_
                    refine lv_aload_n hx hb dX7_go_124 rfl (lv_at hl 4 rfl) ?_
                    refine g_7_57 C hP dX7_go_125 ?_
                    exact p_iret C hr hlk (pe1 hf) (pe2C hf) hP hS dX7_go_128
            · have hf := pif_f hf h95
              refine lv_aload_n hx hb dX7_go_58 rfl (lv_at hl 4 rfl) ?_
              refine lv_iload hx hb dX7_go_59 (lv_at hl 2 rfl) ?_
              refine lv_iload hx hb dX7_go_61 (lv_at hl 1 rfl) ?_
              obtain ⟨r137, α138, hc139, hf⟩ := pb2_ok hf
              refine p_callV (n := 2) (As := [.int x4, .int x5]) (rest := []) C hP hS (wv_7_61 C.2.2.2.2.1 _) (c_X7_makeRound l C.2.2.2.2.2.2  hc139) (e_X7) rfl rfl hd_X7_makeRound rfl ⟨Nat.le_of_ble_eq_true rfl, Nat.le_of_ble_eq_true rfl⟩ hl.1 rfl (Nat.le_of_ble_eq_true rfl) dX7_go_63 ⟨Nat.zero_le _, Nat.zero_le _⟩ (fun H locs hP hS _ _ => ?_)
              refine W.eq (g2 := F0 m 66 ls []) rfl ?_
              refine lv_iload hx hb dX7_go_66 (lv_at hl 1 rfl) ?_
              refine lv_istore (lv' := [(4, .int x5), (6, .int x6), (5, .int x5), (3, .int y3_37), (0, .ref (pL E 2))]) hx hb dX7_go_68 hl (by decide) rfl (fun ls hl => ?_)
              refine lv_aload_n hx hb dX7_go_70 rfl (lv_at hl 4 rfl) ?_
              refine g_7_21 C hP dX7_go_71 ?_
              obtain ⟨r140, α141, hc142, hf⟩ := pb2_ok hf
              refine p_callV (n := 0) (As := []) (rest := []) C hP hS (wv_7_50 C.2.2.2.2.1 _) (c_X8_size l C.2.2.2.2.2.2  hc142) (e_X8) rfl rfl hd_X8_size rfl ⟨Nat.le_of_ble_eq_true rfl, Nat.le_of_ble_eq_true rfl⟩ hl.1 rfl (Nat.le_of_ble_eq_true rfl) dX7_go_74 ⟨Nat.zero_le _, Nat.zero_le _⟩ (fun H locs hP hS _ _ => ?_)
              refine W.eq (g2 := F0 m 77 ls [.int r140]) rfl ?_
              refine lv_istore (lv' := [(5, .int r140), (4, .int x5), (6, .int x6), (3, .int y3_37), (0, .ref (pL E 2))]) hx hb dX7_go_77 hl (by decide) rfl (fun ls hl => ?_)
              refine lv_iinc (v := (x6 + 1)) (lv' := [(6, .int (x6 + 1)), (5, .int r140), (4, .int x5), (3, .int y3_37), (0, .ref (pL E 2))]) hx hb dX7_go_79 hl (k := 2) rfl rfl (by decide) rfl (fun ls hl => ?_)
              refine lv_goto (tgt := 37) hx hb dX7_go_82 (by decide) ?_
              exact ih37 _ _ _ α141 _ _ _ hf hP hS (lv_sub hl [0, 1, 2, 3, 4] rfl)
    exact lp37 _ _ _ _ _ _ _ _ hf hP hS (lv_sub hl [0, 1, 2, 3, 4] rfl)
  · have hf := pif_f hf h10
    refine lv_iload_n hx hb dX7_go_27 rfl (lv_at hl 1 rfl) ?_
    refine lv_goto (tgt := 32) hx hb dX7_go_28 (by decide) ?_
    refine lv_istore (lv' := [(5, .int r4), (4, .int 0), (3, .int r4), (0, .ref (pL E 2)), (1, .int a0), (2, .int a1)]) hx hb dX7_go_32 hl (by decide) rfl (fun ls hl => ?_)
    refine lv_iconst (v := 0) hx hb dX7_go_34 (by decide) ?_
    refine lv_istore (lv' := [(6, .int 0), (5, .int r4), (4, .int 0), (3, .int r4), (0, .ref (pL E 2)), (1, .int a0), (2, .int a1)]) hx hb dX7_go_35 hl (by decide) rfl (fun ls hl => ?_)
    generalize r4 = y3_37 at hf hl
    have lp37 : ∀ (n : Nat) (x6 : Int32) (x5 : Int32) (x4 : Int32) (α : pSt) (H : Heap) (locs : List Loc) (ls : Array Slot), f_X7_go_L37 y3_37 n x6 x5 x4 α = some (r, α') → va_P (pD E) vwCl (pw E α β) H → va_S (pA E s.heap.size) s.heap H locs → lv_has ls 7 [(6, .int x6), (5, .int x5), (4, .int x4), (3, .int y3_37), (0, .ref (pL E 2))] → W p l e (pR 5) s m [.ref (pL E 2), .int a0, .int a1].toArray below meth c H locs 0 0 (pQ below E s [.ref (pL E 2), .int a0, .int a1].toArray (some (.int r)) α' β) (F0 m 37 ls []) := by
      intro n
      induction n with
      | zero =>
        intro x6 x5 x4 α H locs ls hf
        rw [f_X7_go_L37] at hf
        cases hf
      | succ n37 ih37 =>
        intro x6 x5 x4 α H locs ls hf hP hS hl
        rw [f_X7_go_L37] at hf
        refine lv_iload hx hb dX7_go_37 (lv_at hl 0 rfl) ?_
        refine lv_bipush (v := 40) hx hb dX7_go_39 (by decide) ?_
        refine lv_icmp_ge (tgt := 85) hx hb dX7_go_41 (by decide) (fun h11 => ?_) (fun h11 => ?_)
        · have hf := pif_t hf h11
          refine lv_aload_n hx hb dX7_go_85 rfl (lv_at hl 4 rfl) ?_
          refine g_7_21 C hP dX7_go_86 ?_
          obtain ⟨r12, α13, hc14, hf⟩ := pb2_ok hf
          refine p_callV (n := 0) (As := []) (rest := []) C hP hS (wv_7_50 C.2.2.2.2.1 _) (c_X8_size l C.2.2.2.2.2.2  hc14) (e_X8) rfl rfl hd_X8_size rfl ⟨Nat.le_of_ble_eq_true rfl, Nat.le_of_ble_eq_true rfl⟩ hl.1 rfl (Nat.le_of_ble_eq_true rfl) dX7_go_89 ⟨Nat.zero_le _, Nat.zero_le _⟩ (fun H locs hP hS _ _ => ?_)
          refine W.eq (g2 := F0 m 92 ls [.int r12]) rfl ?_
          refine lv_istore (lv' := [(6, .int r12), (5, .int x5), (4, .int x4), (3, .int y3_37), (0, .ref (pL E 2))]) hx hb dX7_go_92 hl (by decide) rfl (fun ls hl => ?_)
          refine lv_aload_n hx hb dX7_go_94 rfl (lv_at hl 4 rfl) ?_
          refine g_7_57 C hP dX7_go_95 ?_
          refine lv_if_ne (tgt := 112) hx hb dX7_go_98 (by decide) (fun h15 => ?_) (fun h15 => ?_)
          · have hf := pif_f hf h15
            refine lv_aload_n hx hb dX7_go_112 rfl (lv_at hl 4 rfl) ?_
            refine g_7_57 C hP dX7_go_113 ?_
            refine lv_if_eq (tgt := 129) hx hb dX7_go_116 (by decide) (fun h16 => ?_) (fun h16 => ?_)
            · have hf := pif_t hf h16
              refine lv_aload_n hx hb dX7_go_129 rfl (lv_at hl 4 rfl) ?_
              refine g_7_21 C hP dX7_go_130 ?_
              refine lv_iload hx hb dX7_go_133 (lv_at hl 0 rfl) ?_
              obtain ⟨r17, α18, hc19, hf⟩ := pb2_ok hf
              refine p_callV (n := 1) (As := [.int r12]) (rest := []) C hP hS (wv_7_75 C.2.2.2.2.1 _) (c_X8_makeOldAheadOf l C.2.2.2.2.2.2  hc19) (e_X8) rfl rfl hd_X8_makeOldAheadOf rfl ⟨Nat.le_of_ble_eq_true rfl, Nat.le_of_ble_eq_true rfl⟩ hl.1 rfl (Nat.le_of_ble_eq_true rfl) dX7_go_135 ⟨Nat.zero_le _, Nat.zero_le _⟩ (fun H locs hP hS _ _ => ?_)
              refine W.eq (g2 := F0 m 138 ls []) rfl ?_
              refine lv_aload_n hx hb dX7_go_138 rfl (lv_at hl 4 rfl) ?_
              refine lv_aload_n hx hb dX7_go_139 rfl (lv_at hl 4 rfl) ?_
              refine g_7_21 C hP dX7_go_140 ?_
              obtain ⟨r20, α21, hc22, hf⟩ := pb2_ok hf
              refine p_callV (n := 0) (As := []) (rest := [.ref (pL E 2)]) C hP hS (wv_7_50 C.2.2.2.2.1 _) (c_X8_size l C.2.2.2.2.2.2  hc22) (e_X8) rfl rfl hd_X8_size rfl ⟨Nat.le_of_ble_eq_true rfl, Nat.le_of_ble_eq_true rfl⟩ hl.1 rfl (Nat.le_of_ble_eq_true rfl) dX7_go_143 ⟨Nat.zero_le _, Nat.zero_le _⟩ (fun H locs hP hS _ _ => ?_)
              refine W.eq (g2 := F0 m 146 ls [.int r20, .ref (pL E 2)]) rfl ?_
              refine lv_iload_n hx hb dX7_go_146 rfl (lv_at hl 3 rfl) ?_
              refine lv_isub hx hb dX7_go_147 ?_
              refine s_7_78 C hP hS dX7_go_148 (fun H locs hP hS => ?_)
              obtain ⟨α23, eα23, hf⟩ := pl_ok hf
              rw [← eα23] at hP
              clear eα23
              refine lv_aload_n hx hb dX7_go_151 rfl (lv_at hl 4 rfl) ?_
              refine g_7_65 C hP dX7_go_152 ?_
              exact p_iret C hr hlk (pe1 hf) (pe2C hf) hP hS dX7_go_155
            · have hf := pif_f hf h16
              refine lv_aload_n hx hb dX7_go_119 rfl (lv_at hl 4 rfl) ?_
              refine lv_iload_n hx hb dX7_go_120 rfl (lv_at hl 3 rfl) ?_
              obtain ⟨r24, α25, hc26, hf⟩ := pb2_ok hf
              refine p_callV (n := 1) (As := [.int y3_37]) (rest := []) C hP hS (wv_7_71 C.2.2.2.2.1 _) (c_X7_goBack l C.2.2.2.2.2.2  hc26) (e_X7) rfl rfl hd_X7_goBack rfl ⟨Nat.le_of_ble_eq_true rfl, Nat.le_of_ble_eq_true rfl⟩ hl.1 rfl (Nat.le_of_ble_eq_true rfl) dX7_go_121 ⟨Nat.zero_le _, Nat.zero_le _⟩ (fun H locs hP hS _ _ => ?_)
              refine W.eq (g2 := F0 m 124 ls []) rfl ?_
              refine lv_aload_n hx hb dX7_go_124 rfl (lv_at hl 4 rfl) ?_
              refine g_7_57 C hP dX7_go_125 ?_
              exact p_iret C hr hlk (pe1 hf) (pe2C hf) hP hS dX7_go_128
          · have hf := pif_t hf h15
            refine lv_aload_n hx hb dX7_go_101 rfl (lv_at hl 4 rfl) ?_
            refine g_7_65 C hP dX7_go_102 ?_
            refine lv_if_le (tgt := 112) hx hb dX7_go_105 (by decide) (fun h27 => ?_) (fun h27 => ?_)
            · have hf := pif_t hf h27
              refine lv_aload_n hx hb dX7_go_112 rfl (lv_at hl 4 rfl) ?_
              refine g_7_57 C hP dX7_go_113 ?_
              refine lv_if_eq (tgt := 129) hx hb dX7_go_116 (by decide) (fun h28 => ?_) (fun h28 => ?_)
              · have hf := pif_t hf h28
                refine lv_aload_n hx hb dX7_go_129 rfl (lv_at hl 4 rfl) ?_
                refine g_7_21 C hP dX7_go_130 ?_
                refine lv_iload hx hb dX7_go_133 (lv_at hl 0 rfl) ?_
                obtain ⟨r29, α30, hc31, hf⟩ := pb2_ok hf
                refine p_callV (n := 1) (As := [.int r12]) (rest := []) C hP hS (wv_7_75 C.2.2.2.2.1 _) (c_X8_makeOldAheadOf l C.2.2.2.2.2.2  hc31) (e_X8) rfl rfl hd_X8_makeOldAheadOf rfl ⟨Nat.le_of_ble_eq_true rfl, Nat.le_of_ble_eq_true rfl⟩ hl.1 rfl (Nat.le_of_ble_eq_true rfl) dX7_go_135 ⟨Nat.zero_le _, Nat.zero_le _⟩ (fun H locs hP hS _ _ => ?_)
                refine W.eq (g2 := F0 m 138 ls []) rfl ?_
                refine lv_aload_n hx hb dX7_go_138 rfl (lv_at hl 4 rfl) ?_
                refine lv_aload_n hx hb dX7_go_139 rfl (lv_at hl 4 rfl) ?_
                refine g_7_21 C hP dX7_go_140 ?_
                obtain ⟨r32, α33, hc34, hf⟩ := pb2_ok hf
                refine p_callV (n := 0) (As := []) (rest := [.ref (pL E 2)]) C hP hS (wv_7_50 C.2.2.2.2.1 _) (c_X8_size l C.2.2.2.2.2.2  hc34) (e_X8) rfl rfl hd_X8_size rfl ⟨Nat.le_of_ble_eq_true rfl, Nat.le_of_ble_eq_true rfl⟩ hl.1 rfl (Nat.le_of_ble_eq_true rfl) dX7_go_143 ⟨Nat.zero_le _, Nat.zero_le _⟩ (fun H locs hP hS _ _ => ?_)
                refine W.eq (g2 := F0 m 146 ls [.int r32, .ref (pL E 2)]) rfl ?_
                refine lv_iload_n hx hb dX7_go_146 rfl (lv_at hl 3 rfl) ?_
                refine lv_isub hx hb dX7_go_147 ?_
                refine s_7_78 C hP hS dX7_go_148 (fun H locs hP hS => ?_)
                obtain ⟨α35, eα35, hf⟩ := pl_ok hf
                rw [← eα35] at hP
                clear eα35
                refine lv_aload_n hx hb dX7_go_151 rfl (lv_at hl 4 rfl) ?_
                refine g_7_65 C hP dX7_go_152 ?_
                exact p_iret C hr hlk (pe1 hf) (pe2C hf) hP hS dX7_go_155
              · have hf := pif_f hf h28
                refine lv_aload_n hx hb dX7_go_119 rfl (lv_at hl 4 rfl) ?_
                refine lv_iload_n hx hb dX7_go_120 rfl (lv_at hl 3 rfl) ?_
                obtain ⟨r36, α37, hc38, hf⟩ := pb2_ok hf
                refine p_callV (n := 1) (As := [.int y3_37]) (rest := []) C hP hS (wv_7_71 C.2.2.2.2.1 _) (c_X7_goBack l C.2.2.2.2.2.2  hc38) (e_X7) rfl rfl hd_X7_goBack rfl ⟨Nat.le_of_ble_eq_true rfl, Nat.le_of_ble_eq_true rfl⟩ hl.1 rfl (Nat.le_of_ble_eq_true rfl) dX7_go_121 ⟨Nat.zero_le _, Nat.zero_le _⟩ (fun H locs hP hS _ _ => ?_)
                refine W.eq (g2 := F0 m 124 ls []) rfl ?_
                refine lv_aload_n hx hb dX7_go_124 rfl (lv_at hl 4 rfl) ?_
                refine g_7_57 C hP dX7_go_125 ?_
                exact p_iret C hr hlk (pe1 hf) (pe2C hf) hP hS dX7_go_128
            · have hf := pif_f hf h27
              refine lv_aload_n hx hb dX7_go_108 rfl (lv_at hl 4 rfl) ?_
              obtain ⟨r39, α40, hc41, hf⟩ := pb2_ok hf
              refine p_callV (n := 0) (As := []) (rest := []) C hP hS (wv_7_68 C.2.2.2.2.1 _) (c_X7_makeEnd l C.2.2.2.2.2.2  hc41) (e_X7) rfl rfl hd_X7_makeEnd rfl ⟨Nat.le_of_ble_eq_true rfl, Nat.le_of_ble_eq_true rfl⟩ hl.1 rfl (Nat.le_of_ble_eq_true rfl) dX7_go_109 ⟨Nat.zero_le _, Nat.zero_le _⟩ (fun H locs hP hS _ _ => ?_)
              refine W.eq (g2 := F0 m 112 ls []) rfl ?_
              refine lv_aload_n hx hb dX7_go_112 rfl (lv_at hl 4 rfl) ?_
              refine g_7_57 C hP dX7_go_113 ?_
              refine lv_if_eq (tgt := 129) hx hb dX7_go_116 (by decide) (fun h42 => ?_) (fun h42 => ?_)
              · have hf := pif_t hf h42
                refine lv_aload_n hx hb dX7_go_129 rfl (lv_at hl 4 rfl) ?_
                refine g_7_21 C hP dX7_go_130 ?_
                refine lv_iload hx hb dX7_go_133 (lv_at hl 0 rfl) ?_
                obtain ⟨r43, α44, hc45, hf⟩ := pb2_ok hf
                refine p_callV (n := 1) (As := [.int r12]) (rest := []) C hP hS (wv_7_75 C.2.2.2.2.1 _) (c_X8_makeOldAheadOf l C.2.2.2.2.2.2  hc45) (e_X8) rfl rfl hd_X8_makeOldAheadOf rfl ⟨Nat.le_of_ble_eq_true rfl, Nat.le_of_ble_eq_true rfl⟩ hl.1 rfl (Nat.le_of_ble_eq_true rfl) dX7_go_135 ⟨Nat.zero_le _, Nat.zero_le _⟩ (fun H locs hP hS _ _ => ?_)
                refine W.eq (g2 := F0 m 138 ls []) rfl ?_
                refine lv_aload_n hx hb dX7_go_138 rfl (lv_at hl 4 rfl) ?_
                refine lv_aload_n hx hb dX7_go_139 rfl (lv_at hl 4 rfl) ?_
                refine g_7_21 C hP dX7_go_140 ?_
                obtain ⟨r46, α47, hc48, hf⟩ := pb2_ok hf
                refine p_callV (n := 0) (As := []) (rest := [.ref (pL E 2)]) C hP hS (wv_7_50 C.2.2.2.2.1 _) (c_X8_size l C.2.2.2.2.2.2  hc48) (e_X8) rfl rfl hd_X8_size rfl ⟨Nat.le_of_ble_eq_true rfl, Nat.le_of_ble_eq_true rfl⟩ hl.1 rfl (Nat.le_of_ble_eq_true rfl) dX7_go_143 ⟨Nat.zero_le _, Nat.zero_le _⟩ (fun H locs hP hS _ _ => ?_)
                refine W.eq (g2 := F0 m 146 ls [.int r46, .ref (pL E 2)]) rfl ?_
                refine lv_iload_n hx hb dX7_go_146 rfl (lv_at hl 3 rfl) ?_
                refine lv_isub hx hb dX7_go_147 ?_
                refine s_7_78 C hP hS dX7_go_148 (fun H locs hP hS => ?_)
                obtain ⟨α49, eα49, hf⟩ := pl_ok hf
                rw [← eα49] at hP
                clear eα49
                refine lv_aload_n hx hb dX7_go_151 rfl (lv_at hl 4 rfl) ?_
                refine g_7_65 C hP dX7_go_152 ?_
                exact p_iret C hr hlk (pe1 hf) (pe2C hf) hP hS dX7_go_155
              · have hf := pif_f hf h42
                refine lv_aload_n hx hb dX7_go_119 rfl (lv_at hl 4 rfl) ?_
                refine lv_iload_n hx hb dX7_go_120 rfl (lv_at hl 3 rfl) ?_
                obtain ⟨r50, α51, hc52, hf⟩ := pb2_ok hf
                refine p_callV (n := 1) (As := [.int y3_37]) (rest := []) C hP hS (wv_7_71 C.2.2.2.2.1 _) (c_X7_goBack l C.2.2.2.2.2.2  hc52) (e_X7) rfl rfl hd_X7_goBack rfl ⟨Nat.le_of_ble_eq_true rfl, Nat.le_of_ble_eq_true rfl⟩ hl.1 rfl (Nat.le_of_ble_eq_true rfl) dX7_go_121 ⟨Nat.zero_le _, Nat.zero_le _⟩ (fun H locs hP hS _ _ => ?_)
                refine W.eq (g2 := F0 m 124 ls []) rfl ?_
                refine lv_aload_n hx hb dX7_go_124 rfl (lv_at hl 4 rfl) ?_
                refine g_7_57 C hP dX7_go_125 ?_
                exact p_iret C hr hlk (pe1 hf) (pe2C hf) hP hS dX7_go_128
        · have hf := pif_f hf h11
          refine lv_aload_n hx hb dX7_go_44 rfl (lv_at hl 4 rfl) ?_
          refine g_7_57 C hP dX7_go_45 ?_
          refine lv_if_ne (tgt := 85) hx hb dX7_go_48 (by decide) (fun h53 => ?_) (fun h53 => ?_)
          · have hf := pif_f hf h53
            refine lv_aload_n hx hb dX7_go_85 rfl (lv_at hl 4 rfl) ?_
            refine g_7_21 C hP dX7_go_86 ?_
            obtain ⟨r54, α55, hc56, hf⟩ := pb2_ok hf
            refine p_callV (n := 0) (As := []) (rest := []) C hP hS (wv_7_50 C.2.2.2.2.1 _) (c_X8_size l C.2.2.2.2.2.2  hc56) (e_X8) rfl rfl hd_X8_size rfl ⟨Nat.le_of_ble_eq_true rfl, Nat.le_of_ble_eq_true rfl⟩ hl.1 rfl (Nat.le_of_ble_eq_true rfl) dX7_go_89 ⟨Nat.zero_le _, Nat.zero_le _⟩ (fun H locs hP hS _ _ => ?_)
            refine W.eq (g2 := F0 m 92 ls [.int r54]) rfl ?_
            refine lv_istore (lv' := [(6, .int r54), (5, .int x5), (4, .int x4), (3, .int y3_37), (0, .ref (pL E 2))]) hx hb dX7_go_92 hl (by decide) rfl (fun ls hl => ?_)
            refine lv_aload_n hx hb dX7_go_94 rfl (lv_at hl 4 rfl) ?_
            refine g_7_57 C hP dX7_go_95 ?_
            refine lv_if_ne (tgt := 112) hx hb dX7_go_98 (by decide) (fun h57 => ?_) (fun h57 => ?_)
            · have hf := pif_f hf h57
              refine lv_aload_n hx hb dX7_go_112 rfl (lv_at hl 4 rfl) ?_
              refine g_7_57 C hP dX7_go_113 ?_
              refine lv_if_eq (tgt := 129) hx hb dX7_go_116 (by decide) (fun h58 => ?_) (fun h58 => ?_)
              · have hf := pif_t hf h58
                refine lv_aload_n hx hb dX7_go_129 rfl (lv_at hl 4 rfl) ?_
                refine g_7_21 C hP dX7_go_130 ?_
                refine lv_iload hx hb dX7_go_133 (lv_at hl 0 rfl) ?_
                obtain ⟨r59, α60, hc61, hf⟩ := pb2_ok hf
                refine p_callV (n := 1) (As := [.int r54]) (rest := []) C hP hS (wv_7_75 C.2.2.2.2.1 _) (c_X8_makeOldAheadOf l C.2.2.2.2.2.2  hc61) (e_X8) rfl rfl hd_X8_makeOldAheadOf rfl ⟨Nat.le_of_ble_eq_true rfl, Nat.le_of_ble_eq_true rfl⟩ hl.1 rfl (Nat.le_of_ble_eq_true rfl) dX7_go_135 ⟨Nat.zero_le _, Nat.zero_le _⟩ (fun H locs hP hS _ _ => ?_)
                refine W.eq (g2 := F0 m 138 ls []) rfl ?_
                refine lv_aload_n hx hb dX7_go_138 rfl (lv_at hl 4 rfl) ?_
                refine lv_aload_n hx hb dX7_go_139 rfl (lv_at hl 4 rfl) ?_
                refine g_7_21 C hP dX7_go_140 ?_
                obtain ⟨r62, α63, hc64, hf⟩ := pb2_ok hf
                refine p_callV (n := 0) (As := []) (rest := [.ref (pL E 2)]) C hP hS (wv_7_50 C.2.2.2.2.1 _) (c_X8_size l C.2.2.2.2.2.2  hc64) (e_X8) rfl rfl hd_X8_size rfl ⟨Nat.le_of_ble_eq_true rfl, Nat.le_of_ble_eq_true rfl⟩ hl.1 rfl (Nat.le_of_ble_eq_true rfl) dX7_go_143 ⟨Nat.zero_le _, Nat.zero_le _⟩ (fun H locs hP hS _ _ => ?_)
                refine W.eq (g2 := F0 m 146 ls [.int r62, .ref (pL E 2)]) rfl ?_
                refine lv_iload_n hx hb dX7_go_146 rfl (lv_at hl 3 rfl) ?_
                refine lv_isub hx hb dX7_go_147 ?_
                refine s_7_78 C hP hS dX7_go_148 (fun H locs hP hS => ?_)
                obtain ⟨α65, eα65, hf⟩ := pl_ok hf
                rw [← eα65] at hP
                clear eα65
                refine lv_aload_n hx hb dX7_go_151 rfl (lv_at hl 4 rfl) ?_
                refine g_7_65 C hP dX7_go_152 ?_
                exact p_iret C hr hlk (pe1 hf) (pe2C hf) hP hS dX7_go_155
              · have hf := pif_f hf h58
                refine lv_aload_n hx hb dX7_go_119 rfl (lv_at hl 4 rfl) ?_
                refine lv_iload_n hx hb dX7_go_120 rfl (lv_at hl 3 rfl) ?_
                obtain ⟨r66, α67, hc68, hf⟩ := pb2_ok hf
                refine p_callV (n := 1) (As := [.int y3_37]) (rest := []) C hP hS (wv_7_71 C.2.2.2.2.1 _) (c_X7_goBack l C.2.2.2.2.2.2  hc68) (e_X7) rfl rfl hd_X7_goBack rfl ⟨Nat.le_of_ble_eq_true rfl, Nat.le_of_ble_eq_true rfl⟩ hl.1 rfl (Nat.le_of_ble_eq_true rfl) dX7_go_121 ⟨Nat.zero_le _, Nat.zero_le _⟩ (fun H locs hP hS _ _ => ?_)
                refine W.eq (g2 := F0 m 124 ls []) rfl ?_
                refine lv_aload_n hx hb dX7_go_124 rfl (lv_at hl 4 rfl) ?_
                refine g_7_57 C hP dX7_go_125 ?_
                exact p_iret C hr hlk (pe1 hf) (pe2C hf) hP hS dX7_go_128
            · have hf := pif_t hf h57
              refine lv_aload_n hx hb dX7_go_101 rfl (lv_at hl 4 rfl) ?_
              refine g_7_65 C hP dX7_go_102 ?_
              refine lv_if_le (tgt := 112) hx hb dX7_go_105 (by decide) (fun h69 => ?_) (fun h69 => ?_)
              · have hf := pif_t hf h69
                refine lv_aload_n hx hb dX7_go_112 rfl (lv_at hl 4 rfl) ?_
                refine g_7_57 C hP dX7_go_113 ?_
                refine lv_if_eq (tgt := 129) hx hb dX7_go_116 (by decide) (fun h70 => ?_) (fun h70 => ?_)
                · have hf := pif_t hf h70
                  refine lv_aload_n hx hb dX7_go_129 rfl (lv_at hl 4 rfl) ?_
                  refine g_7_21 C hP dX7_go_130 ?_
                  refine lv_iload hx hb dX7_go_133 (lv_at hl 0 rfl) ?_
                  obtain ⟨r71, α72, hc73, hf⟩ := pb2_ok hf
                  refine p_callV (n := 1) (As := [.int r54]) (rest := []) C hP hS (wv_7_75 C.2.2.2.2.1 _) (c_X8_makeOldAheadOf l C.2.2.2.2.2.2  hc73) (e_X8) rfl rfl hd_X8_makeOldAheadOf rfl ⟨Nat.le_of_ble_eq_true rfl, Nat.le_of_ble_eq_true rfl⟩ hl.1 rfl (Nat.le_of_ble_eq_true rfl) dX7_go_135 ⟨Nat.zero_le _, Nat.zero_le _⟩ (fun H locs hP hS _ _ => ?_)
                  refine W.eq (g2 := F0 m 138 ls []) rfl ?_
                  refine lv_aload_n hx hb dX7_go_138 rfl (lv_at hl 4 rfl) ?_
                  refine lv_aload_n hx hb dX7_go_139 rfl (lv_at hl 4 rfl) ?_
                  refine g_7_21 C hP dX7_go_140 ?_
                  obtain ⟨r74, α75, hc76, hf⟩ := pb2_ok hf
                  refine p_callV (n := 0) (As := []) (rest := [.ref (pL E 2)]) C hP hS (wv_7_50 C.2.2.2.2.1 _) (c_X8_size l C.2.2.2.2.2.2  hc76) (e_X8) rfl rfl hd_X8_size rfl ⟨Nat.le_of_ble_eq_true rfl, Nat.le_of_ble_eq_true rfl⟩ hl.1 rfl (Nat.le_of_ble_eq_true rfl) dX7_go_143 ⟨Nat.zero_le _, Nat.zero_le _⟩ (fun H locs hP hS _ _ => ?_)
                  refine W.eq (g2 := F0 m 146 ls [.int r74, .ref (pL E 2)]) rfl ?_
                  refine lv_iload_n hx hb dX7_go_146 rfl (lv_at hl 3 rfl) ?_
                  refine lv_isub hx hb dX7_go_147 ?_
                  refine s_7_78 C hP hS dX7_go_148 (fun H locs hP hS => ?_)
                  obtain ⟨α77, eα77, hf⟩ := pl_ok hf
                  rw [← eα77] at hP
                  clear eα77
                  refine lv_aload_n hx hb dX7_go_151 rfl (lv_at hl 4 rfl) ?_
                  refine g_7_65 C hP dX7_go_152 ?_
                  exact p_iret C hr hlk (pe1 hf) (pe2C hf) hP hS dX7_go_155
                · have hf := pif_f hf h70
                  refine lv_aload_n hx hb dX7_go_119 rfl (lv_at hl 4 rfl) ?_
                  refine lv_iload_n hx hb dX7_go_120 rfl (lv_at hl 3 rfl) ?_
                  obtain ⟨r78, α79, hc80, hf⟩ := pb2_ok hf
                  refine p_callV (n := 1) (As := [.int y3_37]) (rest := []) C hP hS (wv_7_71 C.2.2.2.2.1 _) (c_X7_goBack l C.2.2.2.2.2.2  hc80) (e_X7) rfl rfl hd_X7_goBack rfl ⟨Nat.le_of_ble_eq_true rfl, Nat.le_of_ble_eq_true rfl⟩ hl.1 rfl (Nat.le_of_ble_eq_true rfl) dX7_go_121 ⟨Nat.zero_le _, Nat.zero_le _⟩ (fun H locs hP hS _ _ => ?_)
                  refine W.eq (g2 := F0 m 124 ls []) rfl ?_
                  refine lv_aload_n hx hb dX7_go_124 rfl (lv_at hl 4 rfl) ?_
                  refine g_7_57 C hP dX7_go_125 ?_
                  exact p_iret C hr hlk (pe1 hf) (pe2C hf) hP hS dX7_go_128
              · have hf := pif_f hf h69
                refine lv_aload_n hx hb dX7_go_108 rfl (lv_at hl 4 rfl) ?_
                obtain ⟨r81, α82, hc83, hf⟩ := pb2_ok hf
                refine p_callV (n := 0) (As := []) (rest := []) C hP hS (wv_7_68 C.2.2.2.2.1 _) (c_X7_makeEnd l C.2.2.2.2.2.2  hc83) (e_X7) rfl rfl hd_X7_makeEnd rfl ⟨Nat.le_of_ble_eq_true rfl, Nat.le_of_ble_eq_true rfl⟩ hl.1 rfl (Nat.le_of_ble_eq_true rfl) dX7_go_109 ⟨Nat.zero_le _, Nat.zero_le _⟩ (fun H locs hP hS _ _ => ?_)
                refine W.eq (g2 := F0 m 112 ls []) rfl ?_
                refine lv_aload_n hx hb dX7_go_112 rfl (lv_at hl 4 rfl) ?_
                refine g_7_57 C hP dX7_go_113 ?_
                refine lv_if_eq (tgt := 129) hx hb dX7_go_116 (by decide) (fun h84 => ?_) (fun h84 => ?_)
                · have hf := pif_t hf h84
                  refine lv_aload_n hx hb dX7_go_129 rfl (lv_at hl 4 rfl) ?_
                  refine g_7_21 C hP dX7_go_130 ?_
                  refine lv_iload hx hb dX7_go_133 (lv_at hl 0 rfl) ?_
                  obtain ⟨r85, α86, hc87, hf⟩ := pb2_ok hf
                  refine p_callV (n := 1) (As := [.int r54]) (rest := []) C hP hS (wv_7_75 C.2.2.2.2.1 _) (c_X8_makeOldAheadOf l C.2.2.2.2.2.2  hc87) (e_X8) rfl rfl hd_X8_makeOldAheadOf rfl ⟨Nat.le_of_ble_eq_true rfl, Nat.le_of_ble_eq_true rfl⟩ hl.1 rfl (Nat.le_of_ble_eq_true rfl) dX7_go_135 ⟨Nat.zero_le _, Nat.zero_le _⟩ (fun H locs hP hS _ _ => ?_)
                  refine W.eq (g2 := F0 m 138 ls []) rfl ?_
                  refine lv_aload_n hx hb dX7_go_138 rfl (lv_at hl 4 rfl) ?_
                  refine lv_aload_n hx hb dX7_go_139 rfl (lv_at hl 4 rfl) ?_
                  refine g_7_21 C hP dX7_go_140 ?_
                  obtain ⟨r88, α89, hc90, hf⟩ := pb2_ok hf
                  refine p_callV (n := 0) (As := []) (rest := [.ref (pL E 2)]) C hP hS (wv_7_50 C.2.2.2.2.1 _) (c_X8_size l C.2.2.2.2.2.2  hc90) (e_X8) rfl rfl hd_X8_size rfl ⟨Nat.le_of_ble_eq_true rfl, Nat.le_of_ble_eq_true rfl⟩ hl.1 rfl (Nat.le_of_ble_eq_true rfl) dX7_go_143 ⟨Nat.zero_le _, Nat.zero_le _⟩ (fun H locs hP hS _ _ => ?_)
                  refine W.eq (g2 := F0 m 146 ls [.int r88, .ref (pL E 2)]) rfl ?_
                  refine lv_iload_n hx hb dX7_go_146 rfl (lv_at hl 3 rfl) ?_
                  refine lv_isub hx hb dX7_go_147 ?_
                  refine s_7_78 C hP hS dX7_go_148 (fun H locs hP hS => ?_)
                  obtain ⟨α91, eα91, hf⟩ := pl_ok hf
                  rw [← eα91] at hP
                  clear eα91
                  refine lv_aload_n hx hb dX7_go_151 rfl (lv_at hl 4 rfl) ?_
                  refine g_7_65 C hP dX7_go_152 ?_
                  exact p_iret C hr hlk (pe1 hf) (pe2C hf) hP hS dX7_go_155
                · have hf := pif_f hf h84
                  refine lv_aload_n hx hb dX7_go_119 rfl (lv_at hl 4 rfl) ?_
                  refine lv_iload_n hx hb dX7_go_120 rfl (lv_at hl 3 rfl) ?_
                  obtain ⟨r92, α93, hc94, hf⟩ := pb2_ok hf
                  refine p_callV (n := 1) (As := [.int y3_37]) (rest := []) C hP hS (wv_7_71 C.2.2.2.2.1 _) (c_X7_goBack l C.2.2.2.2.2.2  hc94) (e_X7) rfl rfl hd_X7_goBack rfl ⟨Nat.le_of_ble_eq_true rfl, Nat.le_of_ble_eq_true rfl⟩ hl.1 rfl (Nat.le_of_ble_eq_true rfl) dX7_go_121 ⟨Nat.zero_le _, Nat.zero_le _⟩ (fun H locs hP hS _ _ => ?_)
                  refine W.eq (g2 := F0 m 124 ls []) rfl ?_
                  refine lv_aload_n hx hb dX7_go_124 rfl (lv_at hl 4 rfl) ?_
                  refine g_7_57 C hP dX7_go_125 ?_
                  exact p_iret C hr hlk (pe1 hf) (pe2C hf) hP hS dX7_go_128
          · have hf := pif_t hf h53
            refine lv_iload hx hb dX7_go_51 (lv_at hl 2 rfl) ?_
            refine lv_iload hx hb dX7_go_53 (lv_at hl 1 rfl) ?_
            refine lv_icmp_ge (tgt := 85) hx hb dX7_go_55 (by decide) (fun h95 => ?_) (fun h95 => ?_)
            · have hf := pif_t hf h95
              refine lv_aload_n hx hb dX7_go_85 rfl (lv_at hl 4 rfl) ?_
              refine g_7_21 C hP dX7_go_86 ?_
              obtain ⟨r96, α97, hc98, hf⟩ := pb2_ok hf
              refine p_callV (n := 0) (As := []) (rest := []) C hP hS (wv_7_50 C.2.2.2.2.1 _) (c_X8_size l C.2.2.2.2.2.2  hc98) (e_X8) rfl rfl hd_X8_size rfl ⟨Nat.le_of_ble_eq_true rfl, Nat.le_of_ble_eq_true rfl⟩ hl.1 rfl (Nat.le_of_ble_eq_true rfl) dX7_go_89 ⟨Nat.zero_le _, Nat.zero_le _⟩ (fun H locs hP hS _ _ => ?_)
              refine W.eq (g2 := F0 m 92 ls [.int r96]) rfl ?_
              refine lv_istore (lv' := [(6, .int r96), (5, .int x5), (4, .int x4), (3, .int y3_37), (0, .ref (pL E 2))]) hx hb dX7_go_92 hl (by decide) rfl (fun ls hl => ?_)
              refine lv_aload_n hx hb dX7_go_94 rfl (lv_at hl 4 rfl) ?_
              refine g_7_57 C hP dX7_go_95 ?_
              refine lv_if_ne (tgt := 112) hx hb dX7_go_98 (by decide) (fun h99 => ?_) (fun h99 => ?_)
              · have hf := pif_f hf h99
                refine lv_aload_n hx hb dX7_go_112 rfl (lv_at hl 4 rfl) ?_
                refine g_7_57 C hP dX7_go_113 ?_
                refine lv_if_eq (tgt := 129) hx hb dX7_go_116 (by decide) (fun h100 => ?_) (fun h100 => ?_)
                · have hf := pif_t hf h100
                  refine lv_aload_n hx hb dX7_go_129 rfl (lv_at hl 4 rfl) ?_
                  refine g_7_21 C hP dX7_go_130 ?_
                  refine lv_iload hx hb dX7_go_133 (lv_at hl 0 rfl) ?_
                  obtain ⟨r101, α102, hc103, hf⟩ := pb2_ok hf
                  refine p_callV (n := 1) (As := [.int r96]) (rest := []) C hP hS (wv_7_75 C.2.2.2.2.1 _) (c_X8_makeOldAheadOf l C.2.2.2.2.2.2  hc103) (e_X8) rfl rfl hd_X8_makeOldAheadOf rfl ⟨Nat.le_of_ble_eq_true rfl, Nat.le_of_ble_eq_true rfl⟩ hl.1 rfl (Nat.le_of_ble_eq_true rfl) dX7_go_135 ⟨Nat.zero_le _, Nat.zero_le _⟩ (fun H locs hP hS _ _ => ?_)
                  refine W.eq (g2 := F0 m 138 ls []) rfl ?_
                  refine lv_aload_n hx hb dX7_go_138 rfl (lv_at hl 4 rfl) ?_
                  refine lv_aload_n hx hb dX7_go_139 rfl (lv_at hl 4 rfl) ?_
                  refine g_7_21 C hP dX7_go_140 ?_
                  obtain ⟨r104, α105, hc106, hf⟩ := pb2_ok hf
                  refine p_callV (n := 0) (As := []) (rest := [.ref (pL E 2)]) C hP hS (wv_7_50 C.2.2.2.2.1 _) (c_X8_size l C.2.2.2.2.2.2  hc106) (e_X8) rfl rfl hd_X8_size rfl ⟨Nat.le_of_ble_eq_true rfl, Nat.le_of_ble_eq_true rfl⟩ hl.1 rfl (Nat.le_of_ble_eq_true rfl) dX7_go_143 ⟨Nat.zero_le _, Nat.zero_le _⟩ (fun H locs hP hS _ _ => ?_)
                  refine W.eq (g2 := F0 m 146 ls [.int r104, .ref (pL E 2)]) rfl ?_
                  refine lv_iload_n hx hb dX7_go_146 rfl (lv_at hl 3 rfl) ?_
                  refine lv_isub hx hb dX7_go_147 ?_
                  refine s_7_78 C hP hS dX7_go_148 (fun H locs hP hS => ?_)
                  obtain ⟨α107, eα107, hf⟩ := pl_ok hf
                  rw [← eα107] at hP
                  clear eα107
                  refine lv_aload_n hx hb dX7_go_151 rfl (lv_at hl 4 rfl) ?_
                  refine g_7_65 C hP dX7_go_152 ?_
                  exact p_iret C hr hlk (pe1 hf) (pe2C hf) hP hS dX7_go_155
                · have hf := pif_f hf h100
                  refine lv_aload_n hx hb dX7_go_119 rfl (lv_at hl 4 rfl) ?_
                  refine lv_iload_n hx hb dX7_go_120 rfl (lv_at hl 3 rfl) ?_
                  obtain ⟨r108, α109, hc110, hf⟩ := pb2_ok hf
                  refine p_callV (n := 1) (As := [.int y3_37]) (rest := []) C hP hS (wv_7_71 C.2.2.2.2.1 _) (c_X7_goBack l C.2.2.2.2.2.2  hc110) (e_X7) rfl rfl hd_X7_goBack rfl ⟨Nat.le_of_ble_eq_true rfl, Nat.le_of_ble_eq_true rfl⟩ hl.1 rfl (Nat.le_of_ble_eq_true rfl) dX7_go_121 ⟨Nat.zero_le _, Nat.zero_le _⟩ (fun H locs hP hS _ _ => ?_)
                  refine W.eq (g2 := F0 m 124 ls []) rfl ?_
                  refine lv_aload_n hx hb dX7_go_124 rfl (lv_at hl 4 rfl) ?_
                  refine g_7_57 C hP dX7_go_125 ?_
                  exact p_iret C hr hlk (pe1 hf) (pe2C hf) hP hS dX7_go_128
              · have hf := pif_t hf h99
                refine lv_aload_n hx hb dX7_go_101 rfl (lv_at hl 4 rfl) ?_
                refine g_7_65 C hP dX7_go_102 ?_
                refine lv_if_le (tgt := 112) hx hb dX7_go_105 (by decide) (fun h111 => ?_) (fun h111 => ?_)
                · have hf := pif_t hf h111
                  refine lv_aload_n hx hb dX7_go_112 rfl (lv_at hl 4 rfl) ?_
                  refine g_7_57 C hP dX7_go_113 ?_
                  refine lv_if_eq (tgt := 129) hx hb dX7_go_116 (by decide) (fun h112 => ?_) (fun h112 => ?_)
                  · have hf := pif_t hf h112
                    refine lv_aload_n hx hb dX7_go_129 rfl (lv_at hl 4 rfl) ?_
                    refine g_7_21 C hP dX7_go_130 ?_
                    refine lv_iload hx hb dX7_go_133 (lv_at hl 0 rfl) ?_
                    obtain ⟨r113, α114, hc115, hf⟩ := pb2_ok hf
                    refine p_callV (n := 1) (As := [.int r96]) (rest := []) C hP hS (wv_7_75 C.2.2.2.2.1 _) (c_X8_makeOldAheadOf l C.2.2.2.2.2.2  hc115) (e_X8) rfl rfl hd_X8_makeOldAheadOf rfl ⟨Nat.le_of_ble_eq_true rfl, Nat.le_of_ble_eq_true rfl⟩ hl.1 rfl (Nat.le_of_ble_eq_true rfl) dX7_go_135 ⟨Nat.zero_le _, Nat.zero_le _⟩ (fun H locs hP hS _ _ => ?_)
                    refine W.eq (g2 := F0 m 138 ls []) rfl ?_
                    refine lv_aload_n hx hb dX7_go_138 rfl (lv_at hl 4 rfl) ?_
                    refine lv_aload_n hx hb dX7_go_139 rfl (lv_at hl 4 rfl) ?_
                    refine g_7_21 C hP dX7_go_140 ?_
                    obtain ⟨r116, α117, hc118, hf⟩ := pb2_ok hf
                    refine p_callV (n := 0) (As := []) (rest := [.ref (pL E 2)]) C hP hS (wv_7_50 C.2.2.2.2.1 _) (c_X8_size l C.2.2.2.2.2.2  hc118) (e_X8) rfl rfl hd_X8_size rfl ⟨Nat.le_of_ble_eq_true rfl, Nat.le_of_ble_eq_true rfl⟩ hl.1 rfl (Nat.le_of_ble_eq_true rfl) dX7_go_143 ⟨Nat.zero_le _, Nat.zero_le _⟩ (fun H locs hP hS _ _ => ?_)
                    refine W.eq (g2 := F0 m 146 ls [.int r116, .ref (pL E 2)]) rfl ?_
                    refine lv_iload_n hx hb dX7_go_146 rfl (lv_at hl 3 rfl) ?_
                    refine lv_isub hx hb dX7_go_147 ?_
                    refine s_7_78 C hP hS dX7_go_148 (fun H locs hP hS => ?_)
                    obtain ⟨α119, eα119, hf⟩ := pl_ok hf
                    rw [← eα119] at hP
                    clear eα119
                    refine lv_aload_n hx hb dX7_go_151 rfl (lv_at hl 4 rfl) ?_
                    refine g_7_65 C hP dX7_go_152 ?_
                    exact p_iret C hr hlk (pe1 hf) (pe2C hf) hP hS dX7_go_155
                  · have hf := pif_f hf h112
                    refine lv_aload_n hx hb dX7_go_119 rfl (lv_at hl 4 rfl) ?_
                    refine lv_iload_n hx hb dX7_go_120 rfl (lv_at hl 3 rfl) ?_
                    obtain ⟨r120, α121, hc122, hf⟩ := pb2_ok hf
                    refine p_callV (n := 1) (As := [.int y3_37]) (rest := []) C hP hS (wv_7_71 C.2.2.2.2.1 _) (c_X7_goBack l C.2.2.2.2.2.2  hc122) (e_X7) rfl rfl hd_X7_goBack rfl ⟨Nat.le_of_ble_eq_true rfl, Nat.le_of_ble_eq_true rfl⟩ hl.1 rfl (Nat.le_of_ble_eq_true rfl) dX7_go_121 ⟨Nat.zero_le _, Nat.zero_le _⟩ (fun H locs hP hS _ _ => ?_)
                    refine W.eq (g2 := F0 m 124 ls []) rfl ?_
                    refine lv_aload_n hx hb dX7_go_124 rfl (lv_at hl 4 rfl) ?_
                    refine g_7_57 C hP dX7_go_125 ?_
                    exact p_iret C hr hlk (pe1 hf) (pe2C hf) hP hS dX7_go_128
                · have hf := pif_f hf h111
                  refine lv_aload_n hx hb dX7_go_108 rfl (lv_at hl 4 rfl) ?_
                  obtain ⟨r123, α124, hc125, hf⟩ := pb2_ok hf
                  refine p_callV (n := 0) (As := []) (rest := []) C hP hS (wv_7_68 C.2.2.2.2.1 _) (c_X7_makeEnd l C.2.2.2.2.2.2  hc125) (e_X7) rfl rfl hd_X7_makeEnd rfl ⟨Nat.le_of_ble_eq_true rfl, Nat.le_of_ble_eq_true rfl⟩ hl.1 rfl (Nat.le_of_ble_eq_true rfl) dX7_go_109 ⟨Nat.zero_le _, Nat.zero_le _⟩ (fun H locs hP hS _ _ => ?_)
                  refine W.eq (g2 := F0 m 112 ls []) rfl ?_
                  refine lv_aload_n hx hb dX7_go_112 rfl (lv_at hl 4 rfl) ?_
                  refine g_7_57 C hP dX7_go_113 ?_
                  refine lv_if_eq (tgt := 129) hx hb dX7_go_116 (by decide) (fun h126 => ?_) (fun h126 => ?_)
                  · have hf := pif_t hf h126
                    refine lv_aload_n hx hb dX7_go_129 rfl (lv_at hl 4 rfl) ?_
                    refine g_7_21 C hP dX7_go_130 ?_
                    refine lv_iload hx hb dX7_go_133 (lv_at hl 0 rfl) ?_
                    obtain ⟨r127, α128, hc129, hf⟩ := pb2_ok hf
                    refine p_callV (n := 1) (As := [.int r96]) (rest := []) C hP hS (wv_7_75 C.2.2.2.2.1 _) (c_X8_makeOldAheadOf l C.2.2.2.2.2.2  hc129) (e_X8) rfl rfl hd_X8_makeOldAheadOf rfl ⟨Nat.le_of_ble_eq_true rfl, Nat.le_of_ble_eq_true rfl⟩ hl.1 rfl (Nat.le_of_ble_eq_true rfl) dX7_go_135 ⟨Nat.zero_le _, Nat.zero_le _⟩ (fun H locs hP hS _ _ => ?_)
                    refine W.eq (g2 := F0 m 138 ls []) rfl ?_
                    refine lv_aload_n hx hb dX7_go_138 rfl (lv_at hl 4 rfl) ?_
                    refine lv_aload_n hx hb dX7_go_139 rfl (lv_at hl 4 rfl) ?_
                    refine g_7_21 C hP dX7_go_140 ?_
                    obtain ⟨r130, α131, hc132, hf⟩ := pb2_ok hf
                    refine p_callV (n := 0) (As := []) (rest := [.ref (pL E 2)]) C hP hS (wv_7_50 C.2.2.2.2.1 _) (c_X8_size l C.2.2.2.2.2.2  hc132) (e_X8) rfl rfl hd_X8_size rfl ⟨Nat.le_of_ble_eq_true rfl, Nat.le_of_ble_eq_true rfl⟩ hl.1 rfl (Nat.le_of_ble_eq_true rfl) dX7_go_143 ⟨Nat.zero_le _, Nat.zero_le _⟩ (fun H locs hP hS _ _ => ?_)
                    refine W.eq (g2 := F0 m 146 ls [.int r130, .ref (pL E 2)]) rfl ?_
                    refine lv_iload_n hx hb dX7_go_146 rfl (lv_at hl 3 rfl) ?_
                    refine lv_isub hx hb dX7_go_147 ?_
                    refine s_7_78 C hP hS dX7_go_148 (fun H locs hP hS => ?_)
                    obtain ⟨α133, eα133, hf⟩ := pl_ok hf
                    rw [← eα133] at hP
                    clear eα133
                    refine lv_aload_n hx hb dX7_go_151 rfl (lv_at hl 4 rfl) ?_
                    refine g_7_65 C hP dX7_go_152 ?_
                    exact p_iret C hr hlk (pe1 hf) (pe2C hf) hP hS dX7_go_155
                  · have hf := pif_f hf h126
                    refine lv_aload_n hx hb dX7_go_119 rfl (lv_at hl 4 rfl) ?_
                    refine lv_iload_n hx hb dX7_go_120 rfl (lv_at hl 3 rfl) ?_
                    obtain ⟨r134, α135, hc136, hf⟩ := pb2_ok hf
                    refine p_callV (n := 1) (As := [.int y3_37]) (rest := []) C hP hS (wv_7_71 C.2.2.2.2.1 _) (c_X7_goBack l C.2.2.2.2.2.2  hc136) (e_X7) rfl rfl hd_X7_goBack rfl ⟨Nat.le_of_ble_eq_true rfl, Nat.le_of_ble_eq_true rfl⟩ hl.1 rfl (Nat.le_of_ble_eq_true rfl) dX7_go_121 ⟨Nat.zero_le _, Nat.zero_le _⟩ (fun H locs hP hS _ _ => ?_)
                    refine W.eq (g2 := F0 m 124 ls []) rfl ?_
                    refine lv_aload_n hx hb dX7_go_124 rfl (lv_at hl 4 rfl) ?_
                    refine g_7_57 C hP dX7_go_125 ?_
                    exact p_iret C hr hlk (pe1 hf) (pe2C hf) hP hS dX7_go_128
            · have hf := pif_f hf h95
              refine lv_aload_n hx hb dX7_go_58 rfl (lv_at hl 4 rfl) ?_
              refine lv_iload hx hb dX7_go_59 (lv_at hl 2 rfl) ?_
              refine lv_iload hx hb dX7_go_61 (lv_at hl 1 rfl) ?_
              obtain ⟨r137, α138, hc139, hf⟩ := pb2_ok hf
              refine p_callV (n := 2) (As := [.int x4, .int x5]) (rest := []) C hP hS (wv_7_61 C.2.2.2.2.1 _) (c_X7_makeRound l C.2.2.2.2.2.2  hc139) (e_X7) rfl rfl hd_X7_makeRound rfl ⟨Nat.le_of_ble_eq_true rfl, Nat.le_of_ble_eq_true rfl⟩ hl.1 rfl (Nat.le_of_ble_eq_true rfl) dX7_go_63 ⟨Nat.zero_le _, Nat.zero_le _⟩ (fun H locs hP hS _ _ => ?_)
              refine W.eq (g2 := F0 m 66 ls []) rfl ?_
              refine lv_iload hx hb dX7_go_66 (lv_at hl 1 rfl) ?_
              refine lv_istore (lv' := [(4, .int x5), (6, .int x6), (5, .int x5), (3, .int y3_37), (0, .ref (pL E 2))]) hx hb dX7_go_68 hl (by decide) rfl (fun ls hl => ?_)
              refine lv_aload_n hx hb dX7_go_70 rfl (lv_at hl 4 rfl) ?_
              refine g_7_21 C hP dX7_go_71 ?_
              obtain ⟨r140, α141, hc142, hf⟩ := pb2_ok hf
              refine p_callV (n := 0) (As := []) (rest := []) C hP hS (wv_7_50 C.2.2.2.2.1 _) (c_X8_size l C.2.2.2.2.2.2  hc142) (e_X8) rfl rfl hd_X8_size rfl ⟨Nat.le_of_ble_eq_true rfl, Nat.le_of_ble_eq_true rfl⟩ hl.1 rfl (Nat.le_of_ble_eq_true rfl) dX7_go_74 ⟨Nat.zero_le _, Nat.zero_le _⟩ (fun H locs hP hS _ _ => ?_)
              refine W.eq (g2 := F0 m 77 ls [.int r140]) rfl ?_
              refine lv_istore (lv' := [(5, .int r140), (4, .int x5), (6, .int x6), (3, .int y3_37), (0, .ref (pL E 2))]) hx hb dX7_go_77 hl (by decide) rfl (fun ls hl => ?_)
              refine lv_iinc (v := (x6 + 1)) (lv' := [(6, .int (x6 + 1)), (5, .int r140), (4, .int x5), (3, .int y3_37), (0, .ref (pL E 2))]) hx hb dX7_go_79 hl (k := 2) rfl rfl (by decide) rfl (fun ls hl => ?_)
              refine lv_goto (tgt := 37) hx hb dX7_go_82 (by decide) ?_
              exact ih37 _ _ _ α141 _ _ _ hf hP hS (lv_sub hl [0, 1, 2, 3, 4] rfl)
    exact lp37 _ _ _ _ _ _ _ _ hf hP hS (lv_sub hl [0, 1, 2, 3, 4] rfl)
set_option maxHeartbeats 4000000 in
set_option maxRecDepth 100000 in
theorem c_X9_run (l : Launch) {E : pE} (hE : pInj E) {β : pSt} {a0 : Int32} {α α' : pSt} {r : Int32} (hf : f_X9_run a0 α = some (r, α')) : pM l E yX9_run cX9_run 2 (some .int) 6 [.ref (pL E 0), .int a0] α β (some (.int r)) α' β := by
  refine pM.ofW hE (by decide) ?_ (Nat.le_of_ble_eq_true rfl)
  intro p e s m below meth c ls C hr hlk hP hl
  have C : pCx p s m c cX9_run 2 E RX9 := C
  have hS : va_S (pA E s.heap.size) s.heap s.heap [] := va_S.rf
  have hx := C.1
  have hb := C.2.1
  have hl : lv_has ls 2 [(0, .ref (pL E 0)), (1, .int a0)] := hl
  unfold f_X9_run at hf
  refine lv_iload_n hx hb dX9_run_0 rfl (lv_at hl 1 rfl) ?_
  refine lv_if_lt (tgt := 10) hx hb dX9_run_1 (by decide) (fun h1 => ?_) (fun h1 => ?_)
  · have hf := pif_t hf h1
    refine lv_bipush (v := (-102)) hx hb dX9_run_10 (by decide) ?_
    exact p_iret C hr hlk (pe1 hf) (pe2C hf) hP hS dX9_run_12
  · have hf := pif_f hf h1
    refine lv_iload_n hx hb dX9_run_4 rfl (lv_at hl 1 rfl) ?_
    refine lv_ldc (v := 100000) hx hb C.2.2.2.1 (C.2.2.2.2.1.1 _ (List.mem_of_getElem? (i := 453) rfl) rfl _) dX9_run_5 ?_
    refine lv_icmp_le (tgt := 13) hx hb dX9_run_7 (by decide) (fun h2 => ?_) (fun h2 => ?_)
    · have hf := pif_t hf h2
      refine lv_aload_n hx hb dX9_run_13 rfl (lv_at hl 0 rfl) ?_
      refine g_9_28 C hP dX9_run_14 ?_
      refine lv_iload_n hx hb dX9_run_17 rfl (lv_at hl 1 rfl) ?_
      refine lv_aload_n hx hb dX9_run_18 rfl (lv_at hl 0 rfl) ?_
      refine g_9_160 C hP dX9_run_19 ?_
      obtain ⟨r3, α4, hc5, hf⟩ := pb2_ok hf
      refine p_callV (n := 2) (As := [.int a0, .int (α 22 0)]) (rest := []) C hP hS (wv_9_164 C.2.2.2.2.1 _) (c_X7_go l C.2.2.2.2.2.2  hc5) (e_X7) rfl rfl hd_X7_go rfl ⟨Nat.le_of_ble_eq_true rfl, Nat.le_of_ble_eq_true rfl⟩ hl.1 rfl (Nat.le_of_ble_eq_true rfl) dX9_run_22 ⟨Nat.zero_le _, Nat.zero_le _⟩ (fun H locs hP hS _ _ => ?_)
      refine W.eq (g2 := F0 m 25 ls [.int r3]) rfl ?_
      exact p_iret C hr hlk (pe1 hf) (pe2C hf) hP hS dX9_run_25
    · have hf := pif_f hf h2
      refine lv_bipush (v := (-102)) hx hb dX9_run_10 (by decide) ?_
      exact p_iret C hr hlk (pe1 hf) (pe2C hf) hP hS dX9_run_12
