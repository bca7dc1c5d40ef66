set_option maxHeartbeats 4000000 in
set_option maxRecDepth 100000 in
theorem c_X10_lay (l : Launch) {E : pE} (hE : pInj E) {α : pSt} {a0 : Int32} {β β' : pSt} {r : Int32} (hf : f_X10_lay a0 β = some (r, β')) : pM l E yX10_lay cX10_lay 3 (some .int) 2 [.ref (pL E 57), .int a0] α β (some (.int r)) α β' := by
  refine pM.ofW hE (by decide) ?_ (Nat.le_of_ble_eq_true rfl)
  intro p e s m below meth c ls C hr hlk hP hl
  have C : pCx p s m c cX10_lay 3 E RX10 := C
  have hS : va_S (pA E s.heap.size) s.heap s.heap [] := va_S.rf
  have hx := C.1
  have hb := C.2.1
  have hl : lv_has ls 3 [(0, .ref (pL E 57)), (1, .int a0)] := hl
  unfold f_X10_lay at hf
  refine lv_iload_n hx hb dX10_lay_0 rfl (lv_at hl 1 rfl) ?_
  obtain ⟨r1, β2, hc3, hf⟩ := pb2_ok hf
  refine p_callS (n := 1) (As := [.int a0]) (rest := []) C hP hS (wv_10_100 C.2.2.2.2.1 _) (c_X10_isFile l C.2.2.2.2.2.2  hc3) hd_X10_isFile rfl ⟨Nat.le_of_ble_eq_true rfl, Nat.le_of_ble_eq_true rfl⟩ hl.1 rfl (Nat.le_of_ble_eq_true rfl) dX10_lay_1 ⟨Nat.zero_le _, Nat.zero_le _⟩ (fun H locs hP hS _ _ => ?_)
  refine W.eq (g2 := F0 m 4 ls [.int r1]) rfl ?_
  refine lv_if_ne (tgt := 10) hx hb dX10_lay_4 (by decide) (fun h4 => ?_) (fun h4 => ?_)
  · have hf := pif_f hf h4
    refine lv_iconst (v := 0) hx hb dX10_lay_10 (by decide) ?_
    refine lv_istore_n (lv' := [(2, .int 0), (0, .ref (pL E 57)), (1, .int a0)]) hx hb dX10_lay_11 rfl hl (by decide) rfl (fun ls hl => ?_)
    have lp12 : ∀ (n : Nat) (x2 : Int32) (β : pSt) (H : Heap) (locs : List Loc) (ls : Array Slot), f_X10_lay_L12 a0 n x2 β = some (r, β') → va_P (pD E) vwCl (pw E α β) H → va_S (pA E s.heap.size) s.heap H locs → lv_has ls 3 [(2, .int x2), (0, .ref (pL E 57)), (1, .int a0)] → W p l e (pR 2) s m [.ref (pL E 57), .int a0].toArray below meth c H locs 0 0 (pQ below E s [.ref (pL E 57), .int a0].toArray (some (.int r)) α β') (F0 m 12 ls []) := by
      intro n
      induction n with
      | zero =>
        intro x2 β H locs ls hf
        rw [f_X10_lay_L12] at hf
        cases hf
      | succ n12 ih12 =>
        intro x2 β H locs ls hf hP hS hl
        rw [f_X10_lay_L12] at hf
        refine lv_iload_n hx hb dX10_lay_12 rfl (lv_at hl 0 rfl) ?_
        refine lv_aload_n hx hb dX10_lay_13 rfl (lv_at hl 1 rfl) ?_
        refine g_10_93 C hP dX10_lay_14 ?_
        refine lv_icmp_ge (tgt := 43) hx hb dX10_lay_17 (by decide) (fun h5 => ?_) (fun h5 => ?_)
        · have hf := pif_t hf h5
          refine lv_aload_n hx hb dX10_lay_43 rfl (lv_at hl 1 rfl) ?_
          refine g_10_13 C hP dX10_lay_44 ?_
          refine lv_iload_n hx hb dX10_lay_47 rfl (lv_at hl 2 rfl) ?_
          refine lv_aload_n hx hb dX10_lay_48 rfl (lv_at hl 1 rfl) ?_
          refine g_10_93 C hP dX10_lay_49 ?_
          obtain ⟨h6, hf⟩ := pg_ok hf
          refine sa_m_size C hP hS h6 dX10_lay_52 (fun H locs hP hS => ?_)
          obtain ⟨β7, eβ7, hf⟩ := pl_ok hf
          rw [← eβ7] at hP
          clear eβ7
          refine lv_aload_n hx hb dX10_lay_53 rfl (lv_at hl 1 rfl) ?_
          refine lv_iconst (v := 0) hx hb dX10_lay_54 (by decide) ?_
          refine s_10_93 C hP hS dX10_lay_55 (fun H locs hP hS => ?_)
          obtain ⟨β8, eβ8, hf⟩ := pl_ok hf
          rw [← eβ8] at hP
          clear eβ8
          refine lv_aload_n hx hb dX10_lay_58 rfl (lv_at hl 1 rfl) ?_
          refine g_10_19 C hP dX10_lay_59 ?_
          refine lv_iload_n hx hb dX10_lay_62 rfl (lv_at hl 2 rfl) ?_
          refine lv_iconst (v := 0) hx hb dX10_lay_63 (by decide) ?_
          obtain ⟨h9, hf⟩ := pg_ok hf
          refine sa_m_fails C hP hS (Or.inl rfl) h9 dX10_lay_64 (fun H locs hP hS => ?_)
          obtain ⟨β10, eβ10, hf⟩ := pl_ok hf
          rw [← eβ10] at hP
          clear eβ10
          refine lv_aload_n hx hb dX10_lay_65 rfl (lv_at hl 1 rfl) ?_
          refine g_10_23 C hP dX10_lay_66 ?_
          refine lv_iload_n hx hb dX10_lay_69 rfl (lv_at hl 2 rfl) ?_
          refine lv_iconst (v := 0) hx hb dX10_lay_70 (by decide) ?_
          obtain ⟨h11, hf⟩ := pg_ok hf
          refine sa_m_failed C hP hS (Or.inl rfl) h11 dX10_lay_71 (fun H locs hP hS => ?_)
          obtain ⟨β12, eβ12, hf⟩ := pl_ok hf
          rw [← eβ12] at hP
          clear eβ12
          refine lv_aload_n hx hb dX10_lay_72 rfl (lv_at hl 1 rfl) ?_
          refine g_10_13 C hP dX10_lay_73 ?_
          refine lv_iload_n hx hb dX10_lay_76 rfl (lv_at hl 2 rfl) ?_
          obtain ⟨h13, hf⟩ := pg_ok hf
          refine la_m_size C hP h13 dX10_lay_77 ?_
          exact p_iret C hr hlk (pe1 hf) (pe2M hf) hP hS dX10_lay_78
        · have hf := pif_f hf h5
          refine lv_aload_n hx hb dX10_lay_20 rfl (lv_at hl 1 rfl) ?_
          refine g_10_16 C hP dX10_lay_21 ?_
          refine lv_bipush (v := 64) hx hb dX10_lay_24 (by decide) ?_
          refine lv_iload_n hx hb dX10_lay_26 rfl (lv_at hl 2 rfl) ?_
          refine lv_imul hx hb dX10_lay_27 ?_
          refine lv_iload_n hx hb dX10_lay_28 rfl (lv_at hl 0 rfl) ?_
          refine lv_iadd hx hb dX10_lay_29 ?_
          refine lv_aload_n hx hb dX10_lay_30 rfl (lv_at hl 1 rfl) ?_
          refine g_10_7 C hP dX10_lay_31 ?_
          refine lv_iload_n hx hb dX10_lay_34 rfl (lv_at hl 0 rfl) ?_
          obtain ⟨h14, hf⟩ := pg_ok hf
          refine la_m_tape C hP h14 dX10_lay_35 ?_
          obtain ⟨h15, hf⟩ := pg_ok hf
          refine sa_m_file C hP hS h15 dX10_lay_36 (fun H locs hP hS => ?_)
          obtain ⟨β16, eβ16, hf⟩ := pl_ok hf
          rw [← eβ16] at hP
          clear eβ16
          refine lv_iinc (v := (x2 + 1)) (lv' := [(2, .int (x2 + 1)), (0, .ref (pL E 57)), (1, .int a0)]) hx hb dX10_lay_37 hl (k := 0) rfl rfl (by decide) rfl (fun ls hl => ?_)
          refine lv_goto (tgt := 12) hx hb dX10_lay_40 (by decide) ?_
          exact ih12 _ β16 _ _ _ hf hP hS (lv_sub hl [0, 1, 2] rfl)
    exact lp12 _ _ _ _ _ _ hf hP hS (lv_sub hl [0, 1, 2] rfl)
  · have hf := pif_t hf h4
    refine lv_bipush (v := (-101)) hx hb dX10_lay_7 (by decide) ?_
    exact p_iret C hr hlk (pe1 hf) (pe2M hf) hP hS dX10_lay_9
set_option maxHeartbeats 4000000 in
set_option maxRecDepth 100000 in
theorem c_X10_octet (l : Launch) {E : pE} (hE : pInj E) {α : pSt} {a0 : Int32} {a1 : Int32} {β β' : pSt} {r : Int32} (hf : f_X10_octet a0 a1 β = some (r, β')) : pM l E yX10_octet cX10_octet 4 (some .byte) 2 [.ref (pL E 57), .int a0, .int a1] α β (some (.int r)) α β' := by
  refine pM.ofW hE (by decide) ?_ (Nat.le_of_ble_eq_true rfl)
  intro p e s m below meth c ls C hr hlk hP hl
  have C : pCx p s m c cX10_octet 4 E RX10 := C
  have hS : va_S (pA E s.heap.size) s.heap s.heap [] := va_S.rf
  have hx := C.1
  have hb := C.2.1
  have hl : lv_has ls 4 [(0, .ref (pL E 57)), (1, .int a0), (2, .int a1)] := hl
  unfold f_X10_octet at hf
  refine lv_iload_n hx hb dX10_octet_0 rfl (lv_at hl 1 rfl) ?_
  obtain ⟨r1, β2, hc3, hf⟩ := pb2_ok hf
  refine p_callS (n := 1) (As := [.int a0]) (rest := []) C hP hS (wv_10_100 C.2.2.2.2.1 _) (c_X10_isFile l C.2.2.2.2.2.2  hc3) hd_X10_isFile rfl ⟨Nat.le_of_ble_eq_true rfl, Nat.le_of_ble_eq_true rfl⟩ hl.1 rfl (Nat.le_of_ble_eq_true rfl) dX10_octet_1 ⟨Nat.zero_le _, Nat.zero_le _⟩ (fun H locs hP hS _ _ => ?_)
  refine W.eq (g2 := F0 m 4 ls [.int r1]) rfl ?_
  refine lv_if_eq (tgt := 40) hx hb dX10_octet_4 (by decide) (fun h4 => ?_) (fun h4 => ?_)
  · have hf := pif_t hf h4
    refine lv_iconst (v := 0) hx hb dX10_octet_40 (by decide) ?_
    refine lv_istore_n (lv' := [(3, .int 0), (0, .ref (pL E 57)), (1, .int a0), (2, .int a1)]) hx hb dX10_octet_41 rfl hl (by decide) rfl (fun ls hl => ?_)
    refine lv_aload_n hx hb dX10_octet_42 rfl (lv_at hl 1 rfl) ?_
    refine lv_iload_n hx hb dX10_octet_43 rfl (lv_at hl 0 rfl) ?_
    refine lv_if_eq (tgt := 51) hx hb dX10_octet_44 (by decide) (fun h5 => ?_) (fun h5 => absurd h5 (by decide))
    refine lv_iconst (v := 1) hx hb dX10_octet_51 (by decide) ?_
    refine s_10_84 C hP hS dX10_octet_52 (fun H locs hP hS => ?_)
    obtain ⟨β6, eβ6, hf⟩ := pl_ok hf
    rw [← eβ6] at hP
    clear eβ6
    refine lv_iload_n hx hb dX10_octet_55 rfl (lv_at hl 0 rfl) ?_
    refine lv_if_eq (tgt := 74) hx hb dX10_octet_56 (by decide) (fun h7 => ?_) (fun h7 => absurd h7 (by decide))
    refine lv_iconst (v := 0) hx hb dX10_octet_74 (by decide) ?_
    exact p_bret C hr hlk (by decide) (pe1 hf) (pe2M hf) hP hS dX10_octet_75
  · have hf := pif_f hf h4
    refine lv_iload_n hx hb dX10_octet_7 rfl (lv_at hl 2 rfl) ?_
    refine lv_i2l hx hb dX10_octet_8 rfl ?_
    refine lv_lconst (v := 0) hx hb dX10_octet_9 (by decide) ?_
    refine lv_aload_n hx hb dX10_octet_10 rfl (lv_at hl 0 rfl) ?_
    refine g_10_13 C hP dX10_octet_11 ?_
    refine lv_iload_n hx hb dX10_octet_14 rfl (lv_at hl 1 rfl) ?_
    obtain ⟨r8, β9, hc10, hf⟩ := pb2_ok hf
    refine p_callS (n := 1) (As := [.int a0]) (rest := [.ref (pL E 59), .long 0, .long (a1.toInt64)]) C hP hS (wv_10_100 C.2.2.2.2.1 _) (c_X10_isFile l C.2.2.2.2.2.2  hc10) hd_X10_isFile rfl ⟨Nat.le_of_ble_eq_true rfl, Nat.le_of_ble_eq_true rfl⟩ hl.1 rfl (Nat.le_of_ble_eq_true rfl) dX10_octet_15 ⟨Nat.zero_le _, Nat.zero_le _⟩ (fun H locs hP hS _ _ => ?_)
    refine W.eq (g2 := F0 m 18 ls [.int r8, .ref (pL E 59), .long 0, .long (a1.toInt64)]) rfl ?_
    refine lv_if_eq (tgt := 25) hx hb dX10_octet_18 (by decide) (fun h11 => ?_) (fun h11 => ?_)
    · have hf := pif_t hf h11
      refine lv_iconst (v := 0) hx hb dX10_octet_25 (by decide) ?_
      obtain ⟨h12, hf⟩ := pg_ok hf
      refine la_m_size C hP h12 dX10_octet_26 ?_
      refine lv_iconst (v := 1) hx hb dX10_octet_27 (by decide) ?_
      refine lv_isub hx hb dX10_octet_28 ?_
      refine lv_i2l hx hb dX10_octet_29 rfl ?_
      obtain ⟨r13, β14, hc15, hf⟩ := pb2_ok hf
      refine p_callS (n := 3) (As := [.long (a1.toInt64), .long 0, .long (((β9 3 ((0 : Int32).toNatClampNeg)) - 1).toInt64)]) (rest := []) C hP hS (wv_10_89 C.2.2.2.2.1 _) (c_X10_in l C.2.2.2.2.2.2  hc15) hd_X10_in rfl ⟨Nat.le_of_ble_eq_true rfl, Nat.le_of_ble_eq_true rfl⟩ hl.1 rfl (Nat.le_of_ble_eq_true rfl) dX10_octet_30 ⟨Nat.zero_le _, Nat.zero_le _⟩ (fun H locs hP hS _ _ => ?_)
      refine W.eq (g2 := F0 m 33 ls [.int r13]) rfl ?_
      refine lv_if_eq (tgt := 40) hx hb dX10_octet_33 (by decide) (fun h16 => ?_) (fun h16 => ?_)
      · have hf := pif_t hf h16
        refine lv_iconst (v := 0) hx hb dX10_octet_40 (by decide) ?_
        refine lv_istore_n (lv' := [(3, .int 0), (0, .ref (pL E 57)), (1, .int a0), (2, .int a1)]) hx hb dX10_octet_41 rfl hl (by decide) rfl (fun ls hl => ?_)
        refine lv_aload_n hx hb dX10_octet_42 rfl (lv_at hl 1 rfl) ?_
        refine lv_iload_n hx hb dX10_octet_43 rfl (lv_at hl 0 rfl) ?_
        refine lv_if_eq (tgt := 51) hx hb dX10_octet_44 (by decide) (fun h17 => ?_) (fun h17 => absurd h17 (by decide))
        refine lv_iconst (v := 1) hx hb dX10_octet_51 (by decide) ?_
        refine s_10_84 C hP hS dX10_octet_52 (fun H locs hP hS => ?_)
        obtain ⟨β18, eβ18, hf⟩ := pl_ok hf
        rw [← eβ18] at hP
        clear eβ18
        refine lv_iload_n hx hb dX10_octet_55 rfl (lv_at hl 0 rfl) ?_
        refine lv_if_eq (tgt := 74) hx hb dX10_octet_56 (by decide) (fun h19 => ?_) (fun h19 => absurd h19 (by decide))
        refine lv_iconst (v := 0) hx hb dX10_octet_74 (by decide) ?_
        exact p_bret C hr hlk (by decide) (pe1 hf) (pe2M hf) hP hS dX10_octet_75
      · have hf := pif_f hf h16
        refine lv_iconst (v := 1) hx hb dX10_octet_36 (by decide) ?_
        refine lv_goto (tgt := 41) hx hb dX10_octet_37 (by decide) ?_
        refine lv_istore_n (lv' := [(3, .int 1), (0, .ref (pL E 57)), (1, .int a0), (2, .int a1)]) hx hb dX10_octet_41 rfl hl (by decide) rfl (fun ls hl => ?_)
        refine lv_aload_n hx hb dX10_octet_42 rfl (lv_at hl 1 rfl) ?_
        refine lv_iload_n hx hb dX10_octet_43 rfl (lv_at hl 0 rfl) ?_
        refine lv_if_eq (tgt := 51) hx hb dX10_octet_44 (by decide) (fun h20 => absurd h20 (by decide)) (fun h20 => ?_)
        refine lv_iconst (v := 0) hx hb dX10_octet_47 (by decide) ?_
        refine lv_goto (tgt := 52) hx hb dX10_octet_48 (by decide) ?_
        refine s_10_84 C hP hS dX10_octet_52 (fun H locs hP hS => ?_)
        obtain ⟨β21, eβ21, hf⟩ := pl_ok hf
        rw [← eβ21] at hP
        clear eβ21
        refine lv_iload_n hx hb dX10_octet_55 rfl (lv_at hl 0 rfl) ?_
        refine lv_if_eq (tgt := 74) hx hb dX10_octet_56 (by decide) (fun h22 => absurd h22 (by decide)) (fun h22 => ?_)
        refine lv_aload_n hx hb dX10_octet_59 rfl (lv_at hl 1 rfl) ?_
        refine g_10_16 C hP dX10_octet_60 ?_
        refine lv_bipush (v := 64) hx hb dX10_octet_63 (by decide) ?_
        refine lv_iload_n hx hb dX10_octet_65 rfl (lv_at hl 2 rfl) ?_
        refine lv_imul hx hb dX10_octet_66 ?_
        refine lv_iload_n hx hb dX10_octet_67 rfl (lv_at hl 3 rfl) ?_
        refine lv_iadd hx hb dX10_octet_68 ?_
        obtain ⟨h23, hf⟩ := pg_ok hf
        refine la_m_file C hP h23 dX10_octet_69 ?_
        refine lv_i2b hx hb dX10_octet_70 rfl ?_
        refine lv_goto (tgt := 75) hx hb dX10_octet_71 (by decide) ?_
        exact p_bret C hr hlk (pk_nb _) (pe1 hf) (pe2M hf) hP hS dX10_octet_75
    · have hf := pif_f hf h11
      refine lv_iload_n hx hb dX10_octet_21 rfl (lv_at hl 1 rfl) ?_
      refine lv_goto (tgt := 26) hx hb dX10_octet_22 (by decide) ?_
      obtain ⟨h24, hf⟩ := pg_ok hf
      refine la_m_size C hP h24 dX10_octet_26 ?_
      refine lv_iconst (v := 1) hx hb dX10_octet_27 (by decide) ?_
      refine lv_isub hx hb dX10_octet_28 ?_
      refine lv_i2l hx hb dX10_octet_29 rfl ?_
      obtain ⟨r25, β26, hc27, hf⟩ := pb2_ok hf
      refine p_callS (n := 3) (As := [.long (a1.toInt64), .long 0, .long (((β9 3 (a0.toNatClampNeg)) - 1).toInt64)]) (rest := []) C hP hS (wv_10_89 C.2.2.2.2.1 _) (c_X10_in l C.2.2.2.2.2.2  hc27) hd_X10_in rfl ⟨Nat.le_of_ble_eq_true rfl, Nat.le_of_ble_eq_true rfl⟩ hl.1 rfl (Nat.le_of_ble_eq_true rfl) dX10_octet_30 ⟨Nat.zero_le _, Nat.zero_le _⟩ (fun H locs hP hS _ _ => ?_)
      refine W.eq (g2 := F0 m 33 ls [.int r25]) rfl ?_
      refine lv_if_eq (tgt := 40) hx hb dX10_octet_33 (by decide) (fun h28 => ?_) (fun h28 => ?_)
      · have hf := pif_t hf h28
        refine lv_iconst (v := 0) hx hb dX10_octet_40 (by decide) ?_
        refine lv_istore_n (lv' := [(3, .int 0), (0, .ref (pL E 57)), (1, .int a0), (2, .int a1)]) hx hb dX10_octet_41 rfl hl (by decide) rfl (fun ls hl => ?_)
        refine lv_aload_n hx hb dX10_octet_42 rfl (lv_at hl 1 rfl) ?_
        refine lv_iload_n hx hb dX10_octet_43 rfl (lv_at hl 0 rfl) ?_
        refine lv_if_eq (tgt := 51) hx hb dX10_octet_44 (by decide) (fun h29 => ?_) (fun h29 => absurd h29 (by decide))
        refine lv_iconst (v := 1) hx hb dX10_octet_51 (by decide) ?_
        refine s_10_84 C hP hS dX10_octet_52 (fun H locs hP hS => ?_)
        obtain ⟨β30, eβ30, hf⟩ := pl_ok hf
        rw [← eβ30] at hP
        clear eβ30
        refine lv_iload_n hx hb dX10_octet_55 rfl (lv_at hl 0 rfl) ?_
        refine lv_if_eq (tgt := 74) hx hb dX10_octet_56 (by decide) (fun h31 => ?_) (fun h31 => absurd h31 (by decide))
        refine lv_iconst (v := 0) hx hb dX10_octet_74 (by decide) ?_
        exact p_bret C hr hlk (by decide) (pe1 hf) (pe2M hf) hP hS dX10_octet_75
      · have hf := pif_f hf h28
        refine lv_iconst (v := 1) hx hb dX10_octet_36 (by decide) ?_
        refine lv_goto (tgt := 41) hx hb dX10_octet_37 (by decide) ?_
        refine lv_istore_n (lv' := [(3, .int 1), (0, .ref (pL E 57)), (1, .int a0), (2, .int a1)]) hx hb dX10_octet_41 rfl hl (by decide) rfl (fun ls hl => ?_)
        refine lv_aload_n hx hb dX10_octet_42 rfl (lv_at hl 1 rfl) ?_
        refine lv_iload_n hx hb dX10_octet_43 rfl (lv_at hl 0 rfl) ?_
        refine lv_if_eq (tgt := 51) hx hb dX10_octet_44 (by decide) (fun h32 => absurd h32 (by decide)) (fun h32 => ?_)
        refine lv_iconst (v := 0) hx hb dX10_octet_47 (by decide) ?_
        refine lv_goto (tgt := 52) hx hb dX10_octet_48 (by decide) ?_
        refine s_10_84 C hP hS dX10_octet_52 (fun H locs hP hS => ?_)
        obtain ⟨β33, eβ33, hf⟩ := pl_ok hf
        rw [← eβ33] at hP
        clear eβ33
        refine lv_iload_n hx hb dX10_octet_55 rfl (lv_at hl 0 rfl) ?_
        refine lv_if_eq (tgt := 74) hx hb dX10_octet_56 (by decide) (fun h34 => absurd h34 (by decide)) (fun h34 => ?_)
        refine lv_aload_n hx hb dX10_octet_59 rfl (lv_at hl 1 rfl) ?_
        refine g_10_16 C hP dX10_octet_60 ?_
        refine lv_bipush (v := 64) hx hb dX10_octet_63 (by decide) ?_
        refine lv_iload_n hx hb dX10_octet_65 rfl (lv_at hl 2 rfl) ?_
        refine lv_imul hx hb dX10_octet_66 ?_
        refine lv_iload_n hx hb dX10_octet_67 rfl (lv_at hl 3 rfl) ?_
        refine lv_iadd hx hb dX10_octet_68 ?_
        obtain ⟨h35, hf⟩ := pg_ok hf
        refine la_m_file C hP h35 dX10_octet_69 ?_
        refine lv_i2b hx hb dX10_octet_70 rfl ?_
        refine lv_goto (tgt := 75) hx hb dX10_octet_71 (by decide) ?_
        exact p_bret C hr hlk (pk_nb _) (pe1 hf) (pe2M hf) hP hS dX10_octet_75
set_option maxHeartbeats 4000000 in
set_option maxRecDepth 100000 in
theorem c_X10_plant (l : Launch) {E : pE} (hE : pInj E) {α : pSt} {a0 : Int32} {a1 : Int32} {a2 : Int32} {β β' : pSt} {r : Int32} (hf : f_X10_plant a0 a1 a2 β = some (r, β')) : pM l E yX10_plant cX10_plant 4 (some .int) 2 [.ref (pL E 57), .int a0, .int a1, .int a2] α β (some (.int r)) α β' := by
  refine pM.ofW hE (by decide) ?_ (Nat.le_of_ble_eq_true rfl)
  intro p e s m below meth c ls C hr hlk hP hl
  have C : pCx p s m c cX10_plant 4 E RX10 := C
  have hS : va_S (pA E s.heap.size) s.heap s.heap [] := va_S.rf
  have hx := C.1
  have hb := C.2.1
  have hl : lv_has ls 4 [(0, .ref (pL E 57)), (1, .int a0), (2, .int a1), (3, .int a2)] := hl
  unfold f_X10_plant at hf
  refine lv_iload_n hx hb dX10_plant_0 rfl (lv_at hl 1 rfl) ?_
  obtain ⟨r1, β2, hc3, hf⟩ := pb2_ok hf
  refine p_callS (n := 1) (As := [.int a0]) (rest := []) C hP hS (wv_10_100 C.2.2.2.2.1 _) (c_X10_isFile l C.2.2.2.2.2.2  hc3) hd_X10_isFile rfl ⟨Nat.le_of_ble_eq_true rfl, Nat.le_of_ble_eq_true rfl⟩ hl.1 rfl (Nat.le_of_ble_eq_true rfl) dX10_plant_1 ⟨Nat.zero_le _, Nat.zero_le _⟩ (fun H locs hP hS _ _ => ?_)
  refine W.eq (g2 := F0 m 4 ls [.int r1]) rfl ?_
  refine lv_if_eq (tgt := 25) hx hb dX10_plant_4 (by decide) (fun h4 => ?_) (fun h4 => ?_)
  · have hf := pif_t hf h4
    refine lv_bipush (v := (-101)) hx hb dX10_plant_25 (by decide) ?_
    exact p_iret C hr hlk (pe1 hf) (pe2M hf) hP hS dX10_plant_27
  · have hf := pif_f hf h4
    refine lv_iload_n hx hb dX10_plant_7 rfl (lv_at hl 2 rfl) ?_
    refine lv_i2l hx hb dX10_plant_8 rfl ?_
    refine lv_lconst (v := 0) hx hb dX10_plant_9 (by decide) ?_
    refine lv_aload_n hx hb dX10_plant_10 rfl (lv_at hl 0 rfl) ?_
    refine g_10_13 C hP dX10_plant_11 ?_
    refine lv_iload_n hx hb dX10_plant_14 rfl (lv_at hl 1 rfl) ?_
    obtain ⟨h5, hf⟩ := pg_ok hf
    refine la_m_size C hP h5 dX10_plant_15 ?_
    refine lv_iconst (v := 1) hx hb dX10_plant_16 (by decide) ?_
    refine lv_isub hx hb dX10_plant_17 ?_
    refine lv_i2l hx hb dX10_plant_18 rfl ?_
    obtain ⟨r6, β7, hc8, hf⟩ := pb2_ok hf
    refine p_callS (n := 3) (As := [.long (a1.toInt64), .long 0, .long (((β2 3 (a0.toNatClampNeg)) - 1).toInt64)]) (rest := []) C hP hS (wv_10_89 C.2.2.2.2.1 _) (c_X10_in l C.2.2.2.2.2.2  hc8) hd_X10_in rfl ⟨Nat.le_of_ble_eq_true rfl, Nat.le_of_ble_eq_true rfl⟩ hl.1 rfl (Nat.le_of_ble_eq_true rfl) dX10_plant_19 ⟨Nat.zero_le _, Nat.zero_le _⟩ (fun H locs hP hS _ _ => ?_)
    refine W.eq (g2 := F0 m 22 ls [.int r6]) rfl ?_
    refine lv_if_ne (tgt := 28) hx hb dX10_plant_22 (by decide) (fun h9 => ?_) (fun h9 => ?_)
    · have hf := pif_f hf h9
      refine lv_iload_n hx hb dX10_plant_28 rfl (lv_at hl 3 rfl) ?_
      refine lv_i2l hx hb dX10_plant_29 rfl ?_
      refine lv_lconst (v := 0) hx hb dX10_plant_30 (by decide) ?_
      refine lv_ldc2 (v := 255) hx hb C.2.2.2.1 (C.2.2.2.2.1.1 _ (List.mem_of_getElem? (i := 938) rfl) rfl _) dX10_plant_31 ?_
      obtain ⟨r10, β11, hc12, hf⟩ := pb2_ok hf
      refine p_callS (n := 3) (As := [.long (a2.toInt64), .long 0, .long 255]) (rest := []) C hP hS (wv_10_89 C.2.2.2.2.1 _) (c_X10_in l C.2.2.2.2.2.2  hc12) hd_X10_in rfl ⟨Nat.le_of_ble_eq_true rfl, Nat.le_of_ble_eq_true rfl⟩ hl.1 rfl (Nat.le_of_ble_eq_true rfl) dX10_plant_34 ⟨Nat.zero_le _, Nat.zero_le _⟩ (fun H locs hP hS _ _ => ?_)
      refine W.eq (g2 := F0 m 37 ls [.int r10]) rfl ?_
      refine lv_if_ne (tgt := 43) hx hb dX10_plant_37 (by decide) (fun h13 => ?_) (fun h13 => ?_)
      · have hf := pif_f hf h13
        refine lv_aload_n hx hb dX10_plant_43 rfl (lv_at hl 0 rfl) ?_
        refine g_10_16 C hP dX10_plant_44 ?_
        refine lv_bipush (v := 64) hx hb dX10_plant_47 (by decide) ?_
        refine lv_iload_n hx hb dX10_plant_49 rfl (lv_at hl 1 rfl) ?_
        refine lv_imul hx hb dX10_plant_50 ?_
        refine lv_iload_n hx hb dX10_plant_51 rfl (lv_at hl 2 rfl) ?_
        refine lv_iadd hx hb dX10_plant_52 ?_
        refine lv_dup2_11 hx hb dX10_plant_53 rfl rfl ?_
        obtain ⟨h14, hf⟩ := pg_ok hf
        refine la_m_file C hP h14 dX10_plant_54 ?_
        refine lv_iload_n hx hb dX10_plant_55 rfl (lv_at hl 3 rfl) ?_
        refine lv_ixor hx hb dX10_plant_56 ?_
        obtain ⟨h15, hf⟩ := pg_ok hf
        refine sa_m_file C hP hS h15 dX10_plant_57 (fun H locs hP hS => ?_)
        obtain ⟨β16, eβ16, hf⟩ := pl_ok hf
        rw [← eβ16] at hP
        clear eβ16
        refine lv_aload_n hx hb dX10_plant_58 rfl (lv_at hl 0 rfl) ?_
        refine g_10_16 C hP dX10_plant_59 ?_
        refine lv_bipush (v := 64) hx hb dX10_plant_62 (by decide) ?_
        refine lv_iload_n hx hb dX10_plant_64 rfl (lv_at hl 1 rfl) ?_
        refine lv_imul hx hb dX10_plant_65 ?_
        refine lv_iload_n hx hb dX10_plant_66 rfl (lv_at hl 2 rfl) ?_
        refine lv_iadd hx hb dX10_plant_67 ?_
        obtain ⟨h17, hf⟩ := pg_ok hf
        refine la_m_file C hP h17 dX10_plant_68 ?_
        exact p_iret C hr hlk (pe1 hf) (pe2M hf) hP hS dX10_plant_69
      · have hf := pif_t hf h13
        refine lv_bipush (v := (-102)) hx hb dX10_plant_40 (by decide) ?_
        exact p_iret C hr hlk (pe1 hf) (pe2M hf) hP hS dX10_plant_42
    · have hf := pif_t hf h9
      refine lv_bipush (v := (-101)) hx hb dX10_plant_25 (by decide) ?_
      exact p_iret C hr hlk (pe1 hf) (pe2M hf) hP hS dX10_plant_27
set_option maxHeartbeats 4000000 in
set_option maxRecDepth 100000 in
theorem c_X10_fails (l : Launch) {E : pE} (hE : pInj E) {α : pSt} {a0 : Int32} {a1 : Int32} {β β' : pSt} {r : Int32} (hf : f_X10_fails a0 a1 β = some (r, β')) : pM l E yX10_fails cX10_fails 4 (some .int) 2 [.ref (pL E 57), .int a0, .int a1] α β (some (.int r)) α β' := by
  refine pM.ofW hE (by decide) ?_ (Nat.le_of_ble_eq_true rfl)
  intro p e s m below meth c ls C hr hlk hP hl
  have C : pCx p s m c cX10_fails 4 E RX10 := C
  have hS : va_S (pA E s.heap.size) s.heap s.heap [] := va_S.rf
  have hx := C.1
  have hb := C.2.1
  have hl : lv_has ls 4 [(0, .ref (pL E 57)), (1, .int a0), (2, .int a1)] := hl
  unfold f_X10_fails at hf
  refine lv_iload_n hx hb dX10_fails_0 rfl (lv_at hl 1 rfl) ?_
  obtain ⟨r1, β2, hc3, hf⟩ := pb2_ok hf
  refine p_callS (n := 1) (As := [.int a0]) (rest := []) C hP hS (wv_10_100 C.2.2.2.2.1 _) (c_X10_isFile l C.2.2.2.2.2.2  hc3) hd_X10_isFile rfl ⟨Nat.le_of_ble_eq_true rfl, Nat.le_of_ble_eq_true rfl⟩ hl.1 rfl (Nat.le_of_ble_eq_true rfl) dX10_fails_1 ⟨Nat.zero_le _, Nat.zero_le _⟩ (fun H locs hP hS _ _ => ?_)
  refine W.eq (g2 := F0 m 4 ls [.int r1]) rfl ?_
  refine lv_if_ne (tgt := 10) hx hb dX10_fails_4 (by decide) (fun h4 => ?_) (fun h4 => ?_)
  · have hf := pif_f hf h4
    refine lv_aload_n hx hb dX10_fails_10 rfl (lv_at hl 0 rfl) ?_
    refine g_10_19 C hP dX10_fails_11 ?_
    refine lv_iload_n hx hb dX10_fails_14 rfl (lv_at hl 1 rfl) ?_
    obtain ⟨h5, hf⟩ := pg_ok hf
    refine la_m_fails C hP h5 dX10_fails_15 ?_
    refine lv_if_eq (tgt := 23) hx hb dX10_fails_16 (by decide) (fun h6 => ?_) (fun h6 => ?_)
    · have hf := pif_t hf h6
      refine lv_iconst (v := 0) hx hb dX10_fails_23 (by decide) ?_
      refine lv_istore_n (lv' := [(3, .int 0), (0, .ref (pL E 57)), (1, .int a0), (2, .int a1)]) hx hb dX10_fails_24 rfl hl (by decide) rfl (fun ls hl => ?_)
      refine lv_aload_n hx hb dX10_fails_25 rfl (lv_at hl 1 rfl) ?_
      refine g_10_19 C hP dX10_fails_26 ?_
      refine lv_iload_n hx hb dX10_fails_29 rfl (lv_at hl 2 rfl) ?_
      refine lv_iload_n hx hb dX10_fails_30 rfl (lv_at hl 3 rfl) ?_
      obtain ⟨h7, hf⟩ := pg_ok hf
      obtain ⟨h8, hf⟩ := pg_ok hf
      refine sa_m_fails C hP hS (pbl_ok h7) h8 dX10_fails_31 (fun H locs hP hS => ?_)
      obtain ⟨β9, eβ9, hf⟩ := pl_ok hf
      rw [← eβ9] at hP
      clear eβ9
      refine lv_aload_n hx hb dX10_fails_32 rfl (lv_at hl 1 rfl) ?_
      refine g_10_23 C hP dX10_fails_33 ?_
      refine lv_iload_n hx hb dX10_fails_36 rfl (lv_at hl 2 rfl) ?_
      refine lv_iconst (v := 0) hx hb dX10_fails_37 (by decide) ?_
      obtain ⟨h10, hf⟩ := pg_ok hf
      refine sa_m_failed C hP hS (Or.inl rfl) h10 dX10_fails_38 (fun H locs hP hS => ?_)
      obtain ⟨β11, eβ11, hf⟩ := pl_ok hf
      rw [← eβ11] at hP
      clear eβ11
      refine lv_iload_n hx hb dX10_fails_39 rfl (lv_at hl 0 rfl) ?_
      exact p_iret C hr hlk (pe1 hf) (pe2M hf) hP hS dX10_fails_40
    · have hf := pif_f hf h6
      refine lv_iconst (v := 1) hx hb dX10_fails_19 (by decide) ?_
      refine lv_goto (tgt := 24) hx hb dX10_fails_20 (by decide) ?_
      refine lv_istore_n (lv' := [(3, .int 1), (0, .ref (pL E 57)), (1, .int a0), (2, .int a1)]) hx hb dX10_fails_24 rfl hl (by decide) rfl (fun ls hl => ?_)
      refine lv_aload_n hx hb dX10_fails_25 rfl (lv_at hl 1 rfl) ?_
      refine g_10_19 C hP dX10_fails_26 ?_
      refine lv_iload_n hx hb dX10_fails_29 rfl (lv_at hl 2 rfl) ?_
      refine lv_iload_n hx hb dX10_fails_30 rfl (lv_at hl 3 rfl) ?_
      obtain ⟨h12, hf⟩ := pg_ok hf
      obtain ⟨h13, hf⟩ := pg_ok hf
      refine sa_m_fails C hP hS (pbl_ok h12) h13 dX10_fails_31 (fun H locs hP hS => ?_)
      obtain ⟨β14, eβ14, hf⟩ := pl_ok hf
      rw [← eβ14] at hP
      clear eβ14
      refine lv_aload_n hx hb dX10_fails_32 rfl (lv_at hl 1 rfl) ?_
      refine g_10_23 C hP dX10_fails_33 ?_
      refine lv_iload_n hx hb dX10_fails_36 rfl (lv_at hl 2 rfl) ?_
      refine lv_iconst (v := 0) hx hb dX10_fails_37 (by decide) ?_
      obtain ⟨h15, hf⟩ := pg_ok hf
      refine sa_m_failed C hP hS (Or.inl rfl) h15 dX10_fails_38 (fun H locs hP hS => ?_)
      obtain ⟨β16, eβ16, hf⟩ := pl_ok hf
      rw [← eβ16] at hP
      clear eβ16
      refine lv_iload_n hx hb dX10_fails_39 rfl (lv_at hl 0 rfl) ?_
      exact p_iret C hr hlk (pe1 hf) (pe2M hf) hP hS dX10_fails_40
  · have hf := pif_t hf h4
    refine lv_bipush (v := (-101)) hx hb dX10_fails_7 (by decide) ?_
    exact p_iret C hr hlk (pe1 hf) (pe2M hf) hP hS dX10_fails_9
set_option maxHeartbeats 4000000 in
set_option maxRecDepth 100000 in
theorem c_X10_judge (l : Launch) {E : pE} (hE : pInj E) {α : pSt} {a0 : Int32} {β β' : pSt} {r : Int32} (hf : f_X10_judge a0 β = some (r, β')) : pM l E yX10_judge cX10_judge 2 (some .int) 2 [.ref (pL E 57), .int a0] α β (some (.int r)) α β' := by
  refine pM.ofW hE (by decide) ?_ (Nat.le_of_ble_eq_true rfl)
  intro p e s m below meth c ls C hr hlk hP hl
  have C : pCx p s m c cX10_judge 2 E RX10 := C
  have hS : va_S (pA E s.heap.size) s.heap s.heap [] := va_S.rf
  have hx := C.1
  have hb := C.2.1
  have hl : lv_has ls 2 [(0, .ref (pL E 57)), (1, .int a0)] := hl
  unfold f_X10_judge at hf
  refine lv_iload_n hx hb dX10_judge_0 rfl (lv_at hl 1 rfl) ?_
  obtain ⟨r1, β2, hc3, hf⟩ := pb2_ok hf
  refine p_callS (n := 1) (As := [.int a0]) (rest := []) C hP hS (wv_10_100 C.2.2.2.2.1 _) (c_X10_isFile l C.2.2.2.2.2.2  hc3) hd_X10_isFile rfl ⟨Nat.le_of_ble_eq_true rfl, Nat.le_of_ble_eq_true rfl⟩ hl.1 rfl (Nat.le_of_ble_eq_true rfl) dX10_judge_1 ⟨Nat.zero_le _, Nat.zero_le _⟩ (fun H locs hP hS _ _ => ?_)
  refine W.eq (g2 := F0 m 4 ls [.int r1]) rfl ?_
  refine lv_if_eq (tgt := 15) hx hb dX10_judge_4 (by decide) (fun h4 => ?_) (fun h4 => ?_)
  · have hf := pif_t hf h4
    refine lv_bipush (v := (-101)) hx hb dX10_judge_15 (by decide) ?_
    exact p_iret C hr hlk (pe1 hf) (pe2M hf) hP hS dX10_judge_17
  · have hf := pif_f hf h4
    refine lv_aload_n hx hb dX10_judge_7 rfl (lv_at hl 0 rfl) ?_
    refine lv_iload_n hx hb dX10_judge_8 rfl (lv_at hl 1 rfl) ?_
    obtain ⟨r5, β6, hc7, hf⟩ := pb2_ok hf
    refine p_callV (n := 1) (As := [.int a0]) (rest := []) C hP hS (wv_10_109 C.2.2.2.2.1 _) (c_X10_clause l C.2.2.2.2.2.2  hc7) (e_X10) rfl rfl hd_X10_clause rfl ⟨Nat.le_of_ble_eq_true rfl, Nat.le_of_ble_eq_true rfl⟩ hl.1 rfl (Nat.le_of_ble_eq_true rfl) dX10_judge_9 ⟨Nat.zero_le _, Nat.zero_le _⟩ (fun H locs hP hS _ _ => ?_)
    refine W.eq (g2 := F0 m 12 ls [.int r5]) rfl ?_
    refine lv_goto (tgt := 17) hx hb dX10_judge_12 (by decide) ?_
    exact p_iret C hr hlk (pe1 hf) (pe2M hf) hP hS dX10_judge_17
set_option maxHeartbeats 4000000 in
set_option maxRecDepth 100000 in
theorem c_X10_define (l : Launch) {E : pE} (hE : pInj E) {α : pSt} {a0 : Int32} {β β' : pSt} {r : Int32} (hf : f_X10_define a0 β = some (r, β')) : pM l E yX10_define cX10_define 5 (some .int) 2 [.ref (pL E 57), .int a0] α β (some (.int r)) α β' := by
  refine pM.ofW hE (by decide) ?_ (Nat.le_of_ble_eq_true rfl)
  intro p e s m below meth c ls C hr hlk hP hl
  have C : pCx p s m c cX10_define 5 E RX10 := C
  have hS : va_S (pA E s.heap.size) s.heap s.heap [] := va_S.rf
  have hx := C.1
  have hb := C.2.1
  have hl : lv_has ls 5 [(0, .ref (pL E 57)), (1, .int a0)] := hl
  unfold f_X10_define at hf
  refine lv_iload_n hx hb dX10_define_0 rfl (lv_at hl 1 rfl) ?_
  obtain ⟨r1, β2, hc3, hf⟩ := pb2_ok hf
  refine p_callS (n := 1) (As := [.int a0]) (rest := []) C hP hS (wv_10_100 C.2.2.2.2.1 _) (c_X10_isFile l C.2.2.2.2.2.2  hc3) hd_X10_isFile rfl ⟨Nat.le_of_ble_eq_true rfl, Nat.le_of_ble_eq_true rfl⟩ hl.1 rfl (Nat.le_of_ble_eq_true rfl) dX10_define_1 ⟨Nat.zero_le _, Nat.zero_le _⟩ (fun H locs hP hS _ _ => ?_)
  refine W.eq (g2 := F0 m 4 ls [.int r1]) rfl ?_
  refine lv_if_ne (tgt := 10) hx hb dX10_define_4 (by decide) (fun h4 => ?_) (fun h4 => ?_)
  · have hf := pif_f hf h4
    refine lv_aload_n hx hb dX10_define_10 rfl (lv_at hl 0 rfl) ?_
    refine lv_iload_n hx hb dX10_define_11 rfl (lv_at hl 1 rfl) ?_
    obtain ⟨r5, β6, hc7, hf⟩ := pb2_ok hf
    refine p_callV (n := 1) (As := [.int a0]) (rest := []) C hP hS (wv_10_109 C.2.2.2.2.1 _) (c_X10_clause l C.2.2.2.2.2.2  hc7) (e_X10) rfl rfl hd_X10_clause rfl ⟨Nat.le_of_ble_eq_true rfl, Nat.le_of_ble_eq_true rfl⟩ hl.1 rfl (Nat.le_of_ble_eq_true rfl) dX10_define_12 ⟨Nat.zero_le _, Nat.zero_le _⟩ (fun H locs hP hS _ _ => ?_)
    refine W.eq (g2 := F0 m 15 ls [.int r5]) rfl ?_
    refine lv_istore_n (lv' := [(2, .int r5), (0, .ref (pL E 57)), (1, .int a0)]) hx hb dX10_define_15 rfl hl (by decide) rfl (fun ls hl => ?_)
    refine lv_iload_n hx hb dX10_define_16 rfl (lv_at hl 0 rfl) ?_
    refine lv_if_le (tgt := 25) hx hb dX10_define_17 (by decide) (fun h8 => ?_) (fun h8 => ?_)
    · have hf := pif_t hf h8
      refine lv_aload_n hx hb dX10_define_25 rfl (lv_at hl 1 rfl) ?_
      refine g_10_113 C hP dX10_define_26 ?_
      refine lv_bipush (v := 6) hx hb dX10_define_29 (by decide) ?_
      refine lv_icmp_ne (tgt := 37) hx hb dX10_define_31 (by decide) (fun h9 => ?_) (fun h9 => ?_)
      · have hf := pif_f hf h9
        refine lv_aload_n hx hb dX10_define_37 rfl (lv_at hl 1 rfl) ?_
        refine g_10_19 C hP dX10_define_38 ?_
        refine lv_iload_n hx hb dX10_define_41 rfl (lv_at hl 2 rfl) ?_
        obtain ⟨h10, hf⟩ := pg_ok hf
        refine la_m_fails C hP h10 dX10_define_42 ?_
        refine lv_if_eq (tgt := 72) hx hb dX10_define_43 (by decide) (fun h11 => ?_) (fun h11 => ?_)
        · have hf := pif_t hf h11
          refine lv_aload_n hx hb dX10_define_72 rfl (lv_at hl 1 rfl) ?_
          refine g_10_113 C hP dX10_define_73 ?_
          refine lv_istore_n (lv' := [(3, .int (β6 7 0)), (2, .int r5), (0, .ref (pL E 57)), (1, .int a0)]) hx hb dX10_define_76 rfl hl (by decide) rfl (fun ls hl => ?_)
          refine lv_aload_n hx hb dX10_define_77 rfl (lv_at hl 2 rfl) ?_
          refine g_10_26 C hP dX10_define_78 ?_
          refine lv_iload_n hx hb dX10_define_81 rfl (lv_at hl 0 rfl) ?_
          refine lv_iload_n hx hb dX10_define_82 rfl (lv_at hl 3 rfl) ?_
          obtain ⟨h12, hf⟩ := pg_ok hf
          refine sa_m_fileOf C hP hS h12 dX10_define_83 (fun H locs hP hS => ?_)
          obtain ⟨β13, eβ13, hf⟩ := pl_ok hf
          rw [← eβ13] at hP
          clear eβ13
          refine lv_aload_n hx hb dX10_define_84 rfl (lv_at hl 2 rfl) ?_
          refine g_10_29 C hP dX10_define_85 ?_
          refine lv_iload_n hx hb dX10_define_88 rfl (lv_at hl 0 rfl) ?_
          refine lv_aload_n hx hb dX10_define_89 rfl (lv_at hl 2 rfl) ?_
          refine g_10_16 C hP dX10_define_90 ?_
          refine lv_bipush (v := 64) hx hb dX10_define_93 (by decide) ?_
          refine lv_iload_n hx hb dX10_define_95 rfl (lv_at hl 3 rfl) ?_
          refine lv_imul hx hb dX10_define_96 ?_
          refine lv_iconst (v := 2) hx hb dX10_define_97 (by decide) ?_
          refine lv_iadd hx hb dX10_define_98 ?_
          obtain ⟨h14, hf⟩ := pg_ok hf
          refine la_m_file C hP h14 dX10_define_99 ?_
          obtain ⟨h15, hf⟩ := pg_ok hf
          refine sa_m_rules C hP hS h15 dX10_define_100 (fun H locs hP hS => ?_)
          obtain ⟨β16, eβ16, hf⟩ := pl_ok hf
          rw [← eβ16] at hP
          clear eβ16
          refine lv_iconst (v := 0) hx hb dX10_define_101 (by decide) ?_
          refine lv_istore (lv' := [(4, .int 0), (3, .int (β6 7 0)), (2, .int r5), (0, .ref (pL E 57)), (1, .int a0)]) hx hb dX10_define_102 hl (by decide) rfl (fun ls hl => ?_)
          generalize (β6 7 0) = y3_104 at hf hl
          have lp104 : ∀ (n : Nat) (x4 : Int32) (β : pSt) (H : Heap) (locs : List Loc) (ls : Array Slot), f_X10_define_L104 y3_104 a0 n x4 β = some (r, β') → va_P (pD E) vwCl (pw E α β) H → va_S (pA E s.heap.size) s.heap H locs → lv_has ls 5 [(4, .int x4), (3, .int y3_104), (0, .ref (pL E 57)), (1, .int a0)] → W p l e (pR 2) s m [.ref (pL E 57), .int a0].toArray below meth c H locs 0 0 (pQ below E s [.ref (pL E 57), .int a0].toArray (some (.int r)) α β') (F0 m 104 ls []) := by
            intro n
            induction n with
            | zero =>
              intro x4 β H locs ls hf
              rw [f_X10_define_L104] at hf
              cases hf
            | succ n104 ih104 =>
              intro x4 β H locs ls hf hP hS hl
              rw [f_X10_define_L104] at hf
              refine lv_iload hx hb dX10_define_104 (lv_at hl 0 rfl) ?_
              refine lv_iconst (v := 4) hx hb dX10_define_106 (by decide) ?_
              refine lv_aload_n hx hb dX10_define_107 rfl (lv_at hl 2 rfl) ?_
              refine g_10_29 C hP dX10_define_108 ?_
              refine lv_iload_n hx hb dX10_define_111 rfl (lv_at hl 1 rfl) ?_
              obtain ⟨h17, hf⟩ := pg_ok hf
              refine la_m_rules C hP h17 dX10_define_112 ?_
              refine lv_imul hx hb dX10_define_113 ?_
              refine lv_icmp_ge (tgt := 149) hx hb dX10_define_114 (by decide) (fun h18 => ?_) (fun h18 => ?_)
              · have hf := pif_t hf h18
                refine lv_aload_n hx hb dX10_define_149 rfl (lv_at hl 2 rfl) ?_
                refine g_10_35 C hP dX10_define_150 ?_
                refine lv_iload_n hx hb dX10_define_153 rfl (lv_at hl 1 rfl) ?_
                refine lv_iconst (v := 0) hx hb dX10_define_154 (by decide) ?_
                obtain ⟨h19, hf⟩ := pg_ok hf
                refine sa_m_cells C hP hS h19 dX10_define_155 (fun H locs hP hS => ?_)
                obtain ⟨β20, eβ20, hf⟩ := pl_ok hf
                rw [← eβ20] at hP
                clear eβ20
                refine lv_aload_n hx hb dX10_define_156 rfl (lv_at hl 2 rfl) ?_
                refine g_10_41 C hP dX10_define_157 ?_
                refine lv_iload_n hx hb dX10_define_160 rfl (lv_at hl 1 rfl) ?_
                refine lv_iconst (v := 0) hx hb dX10_define_161 (by decide) ?_
                obtain ⟨h21, hf⟩ := pg_ok hf
                refine sa_m_stopped C hP hS (Or.inl rfl) h21 dX10_define_162 (fun H locs hP hS => ?_)
                obtain ⟨β22, eβ22, hf⟩ := pl_ok hf
                rw [← eβ22] at hP
                clear eβ22
                refine lv_aload_n hx hb dX10_define_163 rfl (lv_at hl 2 rfl) ?_
                refine g_10_44 C hP dX10_define_164 ?_
                refine lv_iload_n hx hb dX10_define_167 rfl (lv_at hl 1 rfl) ?_
                refine lv_iconst (v := 0) hx hb dX10_define_168 (by decide) ?_
                obtain ⟨h23, hf⟩ := pg_ok hf
                refine sa_m_took C hP hS h23 dX10_define_169 (fun H locs hP hS => ?_)
                obtain ⟨β24, eβ24, hf⟩ := pl_ok hf
                rw [← eβ24] at hP
                clear eβ24
                refine lv_aload_n hx hb dX10_define_170 rfl (lv_at hl 2 rfl) ?_
                refine lv_dup hx hb dX10_define_171 rfl ?_
                refine g_10_113 C hP dX10_define_172 ?_
                refine lv_iconst (v := 1) hx hb dX10_define_175 (by decide) ?_
                refine lv_iadd hx hb dX10_define_176 ?_
                refine s_10_113 C hP hS dX10_define_177 (fun H locs hP hS => ?_)
                obtain ⟨β25, eβ25, hf⟩ := pl_ok hf
                rw [← eβ25] at hP
                clear eβ25
                refine lv_iload_n hx hb dX10_define_180 rfl (lv_at hl 1 rfl) ?_
                exact p_iret C hr hlk (pe1 hf) (pe2M hf) hP hS dX10_define_181
              · have hf := pif_f hf h18
                refine lv_aload_n hx hb dX10_define_117 rfl (lv_at hl 2 rfl) ?_
                refine g_10_32 C hP dX10_define_118 ?_
                refine lv_bipush (v := 48) hx hb dX10_define_121 (by decide) ?_
                refine lv_iload_n hx hb dX10_define_123 rfl (lv_at hl 1 rfl) ?_
                refine lv_imul hx hb dX10_define_124 ?_
                refine lv_iload hx hb dX10_define_125 (lv_at hl 0 rfl) ?_
                refine lv_iadd hx hb dX10_define_127 ?_
                refine lv_aload_n hx hb dX10_define_128 rfl (lv_at hl 2 rfl) ?_
                refine g_10_16 C hP dX10_define_129 ?_
                refine lv_bipush (v := 64) hx hb dX10_define_132 (by decide) ?_
                refine lv_iload_n hx hb dX10_define_134 rfl (lv_at hl 3 rfl) ?_
                refine lv_imul hx hb dX10_define_135 ?_
                refine lv_iconst (v := 3) hx hb dX10_define_136 (by decide) ?_
                refine lv_iadd hx hb dX10_define_137 ?_
                refine lv_iload hx hb dX10_define_138 (lv_at hl 0 rfl) ?_
                refine lv_iadd hx hb dX10_define_140 ?_
                obtain ⟨h26, hf⟩ := pg_ok hf
                refine la_m_file C hP h26 dX10_define_141 ?_
                obtain ⟨h27, hf⟩ := pg_ok hf
                refine sa_m_rule C hP hS h27 dX10_define_142 (fun H locs hP hS => ?_)
                obtain ⟨β28, eβ28, hf⟩ := pl_ok hf
                rw [← eβ28] at hP
                clear eβ28
                refine lv_iinc (v := (x4 + 1)) (lv' := [(4, .int (x4 + 1)), (3, .int y3_104), (0, .ref (pL E 57)), (1, .int a0)]) hx hb dX10_define_143 hl (k := 0) rfl rfl (by decide) rfl (fun ls hl => ?_)
                refine lv_goto (tgt := 104) hx hb dX10_define_146 (by decide) ?_
                exact ih104 _ β28 _ _ _ hf hP hS (lv_sub hl [0, 1, 2, 3] rfl)
          exact lp104 _ _ _ _ _ _ hf hP hS (lv_sub hl [0, 1, 3, 4] rfl)
        · have hf := pif_f hf h11
          refine lv_aload_n hx hb dX10_define_46 rfl (lv_at hl 1 rfl) ?_
          refine g_10_23 C hP dX10_define_47 ?_
          refine lv_iload_n hx hb dX10_define_50 rfl (lv_at hl 2 rfl) ?_
          obtain ⟨h29, hf⟩ := pg_ok hf
          refine la_m_failed C hP h29 dX10_define_51 ?_
          refine lv_if_eq (tgt := 60) hx hb dX10_define_52 (by decide) (fun h30 => ?_) (fun h30 => ?_)
          · have hf := pif_t hf h30
            refine lv_bipush (v := (-31)) hx hb dX10_define_60 (by decide) ?_
            refine lv_istore_n (lv' := [(3, .int (-31)), (2, .int r5), (0, .ref (pL E 57)), (1, .int a0)]) hx hb dX10_define_62 rfl hl (by decide) rfl (fun ls hl => ?_)
            refine lv_aload_n hx hb dX10_define_63 rfl (lv_at hl 2 rfl) ?_
            refine g_10_23 C hP dX10_define_64 ?_
            refine lv_iload_n hx hb dX10_define_67 rfl (lv_at hl 3 rfl) ?_
            refine lv_iconst (v := 1) hx hb dX10_define_68 (by decide) ?_
            obtain ⟨h31, hf⟩ := pg_ok hf
            refine sa_m_failed C hP hS (Or.inr rfl) h31 dX10_define_69 (fun H locs hP hS => ?_)
            obtain ⟨β32, eβ32, hf⟩ := pl_ok hf
            rw [← eβ32] at hP
            clear eβ32
            refine lv_iload_n hx hb dX10_define_70 rfl (lv_at hl 0 rfl) ?_
            exact p_iret C hr hlk (pe1 hf) (pe2M hf) hP hS dX10_define_71
          · have hf := pif_f hf h30
            refine lv_bipush (v := (-32)) hx hb dX10_define_55 (by decide) ?_
            refine lv_goto (tgt := 62) hx hb dX10_define_57 (by decide) ?_
            refine lv_istore_n (lv' := [(3, .int (-32)), (2, .int r5), (0, .ref (pL E 57)), (1, .int a0)]) hx hb dX10_define_62 rfl hl (by decide) rfl (fun ls hl => ?_)
            refine lv_aload_n hx hb dX10_define_63 rfl (lv_at hl 2 rfl) ?_
            refine g_10_23 C hP dX10_define_64 ?_
            refine lv_iload_n hx hb dX10_define_67 rfl (lv_at hl 3 rfl) ?_
            refine lv_iconst (v := 1) hx hb dX10_define_68 (by decide) ?_
            obtain ⟨h33, hf⟩ := pg_ok hf
            refine sa_m_failed C hP hS (Or.inr rfl) h33 dX10_define_69 (fun H locs hP hS => ?_)
            obtain ⟨β34, eβ34, hf⟩ := pl_ok hf
            rw [← eβ34] at hP
            clear eβ34
            refine lv_iload_n hx hb dX10_define_70 rfl (lv_at hl 0 rfl) ?_
            exact p_iret C hr hlk (pe1 hf) (pe2M hf) hP hS dX10_define_71
      · have hf := pif_t hf h9
        refine lv_bipush (v := (-104)) hx hb dX10_define_34 (by decide) ?_
        exact p_iret C hr hlk (pe1 hf) (pe2M hf) hP hS dX10_define_36
    · have hf := pif_f hf h8
      refine lv_bipush (v := (-10)) hx hb dX10_define_20 (by decide) ?_
      refine lv_iload_n hx hb dX10_define_22 rfl (lv_at hl 0 rfl) ?_
      refine lv_isub hx hb dX10_define_23 ?_
      exact p_iret C hr hlk (pe1 hf) (pe2M hf) hP hS dX10_define_24
  · have hf := pif_t hf h4
    refine lv_bipush (v := (-101)) hx hb dX10_define_7 (by decide) ?_
    exact p_iret C hr hlk (pe1 hf) (pe2M hf) hP hS dX10_define_9
set_option maxHeartbeats 4000000 in
set_option maxRecDepth 100000 in
theorem c_X10_marks (l : Launch) {E : pE} (hE : pInj E) {α : pSt} {a0 : Int32} {a1 : Int32} {β β' : pSt} {r : Int32} (hf : f_X10_marks a0 a1 β = some (r, β')) : pM l E yX10_marks cX10_marks 4 (some .int) 2 [.ref (pL E 57), .int a0, .int a1] α β (some (.int r)) α β' := by
  refine pM.ofW hE (by decide) ?_ (Nat.le_of_ble_eq_true rfl)
  intro p e s m below meth c ls C hr hlk hP hl
  have C : pCx p s m c cX10_marks 4 E RX10 := C
  have hS : va_S (pA E s.heap.size) s.heap s.heap [] := va_S.rf
  have hx := C.1
  have hb := C.2.1
  have hl : lv_has ls 4 [(0, .ref (pL E 57)), (1, .int a0), (2, .int a1)] := hl
  unfold f_X10_marks at hf
  refine lv_aload_n hx hb dX10_marks_0 rfl (lv_at hl 0 rfl) ?_
  refine lv_iload_n hx hb dX10_marks_1 rfl (lv_at hl 1 rfl) ?_
  obtain ⟨r1, β2, hc3, hf⟩ := pb2_ok hf
  refine p_callV (n := 1) (As := [.int a0]) (rest := []) C hP hS (wv_10_125 C.2.2.2.2.1 _) (c_X10_isUnit l C.2.2.2.2.2.2  hc3) (e_X10) rfl rfl hd_X10_isUnit rfl ⟨Nat.le_of_ble_eq_true rfl, Nat.le_of_ble_eq_true rfl⟩ hl.1 rfl (Nat.le_of_ble_eq_true rfl) dX10_marks_2 ⟨Nat.zero_le _, Nat.zero_le _⟩ (fun H locs hP hS _ _ => ?_)
  refine W.eq (g2 := F0 m 5 ls [.int r1]) rfl ?_
  refine lv_if_ne (tgt := 11) hx hb dX10_marks_5 (by decide) (fun h4 => ?_) (fun h4 => ?_)
  · have hf := pif_f hf h4
    refine lv_iload_n hx hb dX10_marks_11 rfl (lv_at hl 2 rfl) ?_
    refine lv_i2l hx hb dX10_marks_12 rfl ?_
    refine lv_lconst (v := 0) hx hb dX10_marks_13 (by decide) ?_
    refine lv_ldc2 (v := 255) hx hb C.2.2.2.1 (C.2.2.2.2.1.1 _ (List.mem_of_getElem? (i := 938) rfl) rfl _) dX10_marks_14 ?_
    obtain ⟨r5, β6, hc7, hf⟩ := pb2_ok hf
    refine p_callS (n := 3) (As := [.long (a1.toInt64), .long 0, .long 255]) (rest := []) C hP hS (wv_10_89 C.2.2.2.2.1 _) (c_X10_in l C.2.2.2.2.2.2  hc7) hd_X10_in rfl ⟨Nat.le_of_ble_eq_true rfl, Nat.le_of_ble_eq_true rfl⟩ hl.1 rfl (Nat.le_of_ble_eq_true rfl) dX10_marks_17 ⟨Nat.zero_le _, Nat.zero_le _⟩ (fun H locs hP hS _ _ => ?_)
    refine W.eq (g2 := F0 m 20 ls [.int r5]) rfl ?_
    refine lv_if_ne (tgt := 26) hx hb dX10_marks_20 (by decide) (fun h8 => ?_) (fun h8 => ?_)
    · have hf := pif_f hf h8
      refine lv_aload_n hx hb dX10_marks_26 rfl (lv_at hl 0 rfl) ?_
      refine g_10_50 C hP dX10_marks_27 ?_
      refine lv_iload_n hx hb dX10_marks_30 rfl (lv_at hl 1 rfl) ?_
      obtain ⟨h9, hf⟩ := pg_ok hf
      refine la_m_marks C hP h9 dX10_marks_31 ?_
      refine lv_istore_n (lv' := [(3, .int (β6 17 (a0.toNatClampNeg))), (0, .ref (pL E 57)), (1, .int a0), (2, .int a1)]) hx hb dX10_marks_32 rfl hl (by decide) rfl (fun ls hl => ?_)
      refine lv_aload_n hx hb dX10_marks_33 rfl (lv_at hl 1 rfl) ?_
      refine g_10_50 C hP dX10_marks_34 ?_
      refine lv_iload_n hx hb dX10_marks_37 rfl (lv_at hl 2 rfl) ?_
      refine lv_iload_n hx hb dX10_marks_38 rfl (lv_at hl 3 rfl) ?_
      obtain ⟨h10, hf⟩ := pg_ok hf
      refine sa_m_marks C hP hS h10 dX10_marks_39 (fun H locs hP hS => ?_)
      obtain ⟨β11, eβ11, hf⟩ := pl_ok hf
      rw [← eβ11] at hP
      clear eβ11
      refine lv_aload_n hx hb dX10_marks_40 rfl (lv_at hl 1 rfl) ?_
      refine g_10_53 C hP dX10_marks_41 ?_
      refine lv_iload_n hx hb dX10_marks_44 rfl (lv_at hl 2 rfl) ?_
      refine lv_iconst (v := 1) hx hb dX10_marks_45 (by decide) ?_
      obtain ⟨h12, hf⟩ := pg_ok hf
      refine sa_m_isNew C hP hS (Or.inr rfl) h12 dX10_marks_46 (fun H locs hP hS => ?_)
      obtain ⟨β13, eβ13, hf⟩ := pl_ok hf
      rw [← eβ13] at hP
      clear eβ13
      refine lv_iload_n hx hb dX10_marks_47 rfl (lv_at hl 0 rfl) ?_
      exact p_iret C hr hlk (pe1 hf) (pe2M hf) hP hS dX10_marks_48
    · have hf := pif_t hf h8
      refine lv_bipush (v := (-102)) hx hb dX10_marks_23 (by decide) ?_
      exact p_iret C hr hlk (pe1 hf) (pe2M hf) hP hS dX10_marks_25
  · have hf := pif_t hf h4
    refine lv_bipush (v := (-101)) hx hb dX10_marks_8 (by decide) ?_
    exact p_iret C hr hlk (pe1 hf) (pe2M hf) hP hS dX10_marks_10
set_option maxHeartbeats 4000000 in
set_option maxRecDepth 100000 in
theorem c_X10_meet (l : Launch) {E : pE} (hE : pInj E) {α : pSt} {a0 : Int32} {a1 : Int32} {β β' : pSt} {r : Unit} (hf : f_X10_meet a0 a1 β = some (r, β')) : pM l E yX10_meet cX10_meet 7 none 2 [.ref (pL E 57), .int a0, .int a1] α β none α β' := by
  refine pM.ofW hE (by decide) ?_ (Nat.le_of_ble_eq_true rfl)
  intro p e s m below meth c ls C hr hlk hP hl
  have C : pCx p s m c cX10_meet 7 E RX10 := C
  have hS : va_S (pA E s.heap.size) s.heap s.heap [] := va_S.rf
  have hx := C.1
  have hb := C.2.1
  have hl : lv_has ls 7 [(0, .ref (pL E 57)), (1, .int a0), (2, .int a1)] := hl
  unfold f_X10_meet at hf
  refine lv_iconst (v := 0) hx hb dX10_meet_0 (by decide) ?_
  refine lv_istore_n (lv' := [(3, .int 0), (0, .ref (pL E 57)), (1, .int a0), (2, .int a1)]) hx hb dX10_meet_1 rfl hl (by decide) rfl (fun ls hl => ?_)
  have lp2 : ∀ (n : Nat) (x3 : Int32) (β : pSt) (H : Heap) (locs : List Loc) (ls : Array Slot), f_X10_meet_L2 a0 a1 n x3 β = some (r, β') → va_P (pD E) vwCl (pw E α β) H → va_S (pA E s.heap.size) s.heap H locs → lv_has ls 7 [(3, .int x3), (0, .ref (pL E 57)), (1, .int a0), (2, .int a1)] → W p l e (pR 2) s m [.ref (pL E 57), .int a0, .int a1].toArray below meth c H locs 0 0 (pQ below E s [.ref (pL E 57), .int a0, .int a1].toArray none α β') (F0 m 2 ls []) := by
    intro n
    induction n with
    | zero =>
      intro x3 β H locs ls hf
      rw [f_X10_meet_L2] at hf
      cases hf
    | succ n2 ih2 =>
      intro x3 β H locs ls hf hP hS hl
      rw [f_X10_meet_L2] at hf
      refine lv_iload_n hx hb dX10_meet_2 rfl (lv_at hl 0 rfl) ?_
      refine lv_aload_n hx hb dX10_meet_3 rfl (lv_at hl 1 rfl) ?_
      refine g_10_29 C hP dX10_meet_4 ?_
      refine lv_iload_n hx hb dX10_meet_7 rfl (lv_at hl 2 rfl) ?_
      obtain ⟨h1, hf⟩ := pg_ok hf
      refine la_m_rules C hP h1 dX10_meet_8 ?_
      refine lv_icmp_ge (tgt := 179) hx hb dX10_meet_9 (by decide) (fun h2 => ?_) (fun h2 => ?_)
      · have hf := pif_t hf h2
        exact p_vret C hr hlk (pe2M hf) hP hS dX10_meet_179
      · have hf := pif_f hf h2
        refine lv_aload_n hx hb dX10_meet_12 rfl (lv_at hl 1 rfl) ?_
        refine g_10_143 C hP dX10_meet_13 ?_
        refine lv_if_ne (tgt := 179) hx hb dX10_meet_16 (by decide) (fun h3 => ?_) (fun h3 => ?_)
        · have hf := pif_f hf h3
          exact p_vret C hr hlk (pe2M hf) hP hS dX10_meet_179
        · have hf := pif_t hf h3
          refine lv_aload_n hx hb dX10_meet_19 rfl (lv_at hl 1 rfl) ?_
          refine g_10_41 C hP dX10_meet_20 ?_
          refine lv_iload_n hx hb dX10_meet_23 rfl (lv_at hl 2 rfl) ?_
          obtain ⟨h4, hf⟩ := pg_ok hf
          refine la_m_stopped C hP h4 dX10_meet_24 ?_
          refine lv_if_ne (tgt := 179) hx hb dX10_meet_25 (by decide) (fun h5 => ?_) (fun h5 => ?_)
          · have hf := pif_f hf h5
            exact p_vret C hr hlk (pe2M hf) hP hS dX10_meet_179
          · have hf := pif_t hf h5
            refine lv_bipush (v := 48) hx hb dX10_meet_28 (by decide) ?_
            refine lv_iload_n hx hb dX10_meet_30 rfl (lv_at hl 2 rfl) ?_
            refine lv_imul hx hb dX10_meet_31 ?_
            refine lv_iconst (v := 4) hx hb dX10_meet_32 (by decide) ?_
            refine lv_iload_n hx hb dX10_meet_33 rfl (lv_at hl 0 rfl) ?_
            refine lv_imul hx hb dX10_meet_34 ?_
            refine lv_iadd hx hb dX10_meet_35 ?_
            refine lv_istore (lv' := [(4, .int ((48 * a0) + (4 * x3))), (3, .int x3), (0, .ref (pL E 57)), (1, .int a0), (2, .int a1)]) hx hb dX10_meet_36 hl (by decide) rfl (fun ls hl => ?_)
            refine lv_aload_n hx hb dX10_meet_38 rfl (lv_at hl 2 rfl) ?_
            refine g_10_32 C hP dX10_meet_39 ?_
            refine lv_iload hx hb dX10_meet_42 (lv_at hl 0 rfl) ?_
            obtain ⟨h6, hf⟩ := pg_ok hf
            refine la_m_rule C hP h6 dX10_meet_44 ?_
            refine lv_istore (lv' := [(5, .int (β 10 (((48 * a0) + (4 * x3)).toNatClampNeg))), (4, .int ((48 * a0) + (4 * x3))), (3, .int x3), (0, .ref (pL E 57)), (1, .int a0), (2, .int a1)]) hx hb dX10_meet_45 hl (by decide) rfl (fun ls hl => ?_)
            refine lv_iload_n hx hb dX10_meet_47 rfl (lv_at hl 5 rfl) ?_
            refine lv_iconst (v := (-1)) hx hb dX10_meet_48 (by decide) ?_
            refine lv_icmp_ne (tgt := 67) hx hb dX10_meet_49 (by decide) (fun h7 => ?_) (fun h7 => ?_)
            · have hf := pif_f hf h7
              refine lv_iload hx hb dX10_meet_67 (lv_at hl 0 rfl) ?_
              refine lv_bipush (v := 15) hx hb dX10_meet_69 (by decide) ?_
              refine lv_icmp_eq (tgt := 137) hx hb dX10_meet_71 (by decide) (fun h8 => ?_) (fun h8 => ?_)
              · have hf := pif_t hf h8
                refine lv_iconst (v := 0) hx hb dX10_meet_137 (by decide) ?_
                refine lv_istore (lv' := [(6, .int 0), (5, .int (β 10 (((48 * a0) + (4 * x3)).toNatClampNeg))), (4, .int ((48 * a0) + (4 * x3))), (3, .int x3), (0, .ref (pL E 57)), (1, .int a0), (2, .int a1)]) hx hb dX10_meet_138 hl (by decide) rfl (fun ls hl => ?_)
                refine lv_iinc (v := (x3 + 1)) (lv' := [(3, .int (x3 + 1)), (6, .int 0), (5, .int (β 10 (((48 * a0) + (4 * x3)).toNatClampNeg))), (4, .int ((48 * a0) + (4 * x3))), (0, .ref (pL E 57)), (1, .int a0), (2, .int a1)]) hx hb dX10_meet_140 hl (k := 3) rfl rfl (by decide) rfl (fun ls hl => ?_)
                refine lv_iload hx hb dX10_meet_143 (lv_at hl 1 rfl) ?_
                refine lv_if_eq (tgt := 176) hx hb dX10_meet_145 (by decide) (fun h9 => ?_) (fun h9 => absurd h9 (by decide))
                refine lv_goto (tgt := 2) hx hb dX10_meet_176 (by decide) ?_
                exact ih2 _ β _ _ _ hf hP hS (lv_sub hl [0, 4, 5, 6] rfl)
              · have hf := pif_f hf h8
                refine lv_aload_n hx hb dX10_meet_74 rfl (lv_at hl 3 rfl) ?_
                refine g_10_50 C hP dX10_meet_75 ?_
                refine lv_iload_n hx hb dX10_meet_78 rfl (lv_at hl 5 rfl) ?_
                obtain ⟨h10, hf⟩ := pg_ok hf
                refine la_m_marks C hP h10 dX10_meet_79 ?_
                refine lv_iload hx hb dX10_meet_80 (lv_at hl 0 rfl) ?_
                refine lv_ishr hx hb dX10_meet_82 ?_
                refine lv_iconst (v := 1) hx hb dX10_meet_83 (by decide) ?_
                refine lv_iand hx hb dX10_meet_84 ?_
                refine lv_iconst (v := 1) hx hb dX10_meet_85 (by decide) ?_
                refine lv_icmp_ne (tgt := 137) hx hb dX10_meet_86 (by decide) (fun h11 => ?_) (fun h11 => ?_)
                · have hf := pif_f hf h11
                  refine lv_iconst (v := 0) hx hb dX10_meet_137 (by decide) ?_
                  refine lv_istore (lv' := [(6, .int 0), (5, .int (β 10 (((48 * a0) + (4 * x3)).toNatClampNeg))), (4, .int ((48 * a0) + (4 * x3))), (3, .int x3), (0, .ref (pL E 57)), (1, .int a0), (2, .int a1)]) hx hb dX10_meet_138 hl (by decide) rfl (fun ls hl => ?_)
                  refine lv_iinc (v := (x3 + 1)) (lv' := [(3, .int (x3 + 1)), (6, .int 0), (5, .int (β 10 (((48 * a0) + (4 * x3)).toNatClampNeg))), (4, .int ((48 * a0) + (4 * x3))), (0, .ref (pL E 57)), (1, .int a0), (2, .int a1)]) hx hb dX10_meet_140 hl (k := 3) rfl rfl (by decide) rfl (fun ls hl => ?_)
                  refine lv_iload hx hb dX10_meet_143 (lv_at hl 1 rfl) ?_
                  refine lv_if_eq (tgt := 176) hx hb dX10_meet_145 (by decide) (fun h12 => ?_) (fun h12 => absurd h12 (by decide))
                  refine lv_goto (tgt := 2) hx hb dX10_meet_176 (by decide) ?_
                  exact ih2 _ β _ _ _ hf hP hS (lv_sub hl [0, 4, 5, 6] rfl)
                · have hf := pif_t hf h11
                  refine lv_aload_n hx hb dX10_meet_89 rfl (lv_at hl 3 rfl) ?_
                  refine g_10_77 C hP dX10_meet_90 ?_
                  refine lv_iload hx hb dX10_meet_93 (lv_at hl 0 rfl) ?_
                  refine lv_bipush (v := 15) hx hb dX10_meet_95 (by decide) ?_
                  refine lv_icmp_ne (tgt := 104) hx hb dX10_meet_97 (by decide) (fun h13 => ?_) (fun h13 => ?_)
                  · have hf := pif_f hf h13
                    refine lv_iload hx hb dX10_meet_104 (lv_at hl 0 rfl) ?_
                    obtain ⟨h14, hf⟩ := pg_ok hf
                    refine la_m_claimer C hP h14 dX10_meet_106 ?_
                    refine lv_iconst (v := (-1)) hx hb dX10_meet_107 (by decide) ?_
                    refine lv_icmp_eq (tgt := 133) hx hb dX10_meet_108 (by decide) (fun h15 => ?_) (fun h15 => ?_)
                    · have hf := pif_t hf h15
                      refine lv_iconst (v := 1) hx hb dX10_meet_133 (by decide) ?_
                      refine lv_goto (tgt := 138) hx hb dX10_meet_134 (by decide) ?_
                      refine lv_istore (lv' := [(6, .int 1), (5, .int (β 10 (((48 * a0) + (4 * x3)).toNatClampNeg))), (4, .int ((48 * a0) + (4 * x3))), (3, .int x3), (0, .ref (pL E 57)), (1, .int a0), (2, .int a1)]) hx hb dX10_meet_138 hl (by decide) rfl (fun ls hl => ?_)
                      refine lv_iinc (v := (x3 + 1)) (lv' := [(3, .int (x3 + 1)), (6, .int 1), (5, .int (β 10 (((48 * a0) + (4 * x3)).toNatClampNeg))), (4, .int ((48 * a0) + (4 * x3))), (0, .ref (pL E 57)), (1, .int a0), (2, .int a1)]) hx hb dX10_meet_140 hl (k := 3) rfl rfl (by decide) rfl (fun ls hl => ?_)
                      refine lv_iload hx hb dX10_meet_143 (lv_at hl 1 rfl) ?_
                      refine lv_if_eq (tgt := 176) hx hb dX10_meet_145 (by decide) (fun h16 => absurd h16 (by decide)) (fun h16 => ?_)
                      refine lv_aload_n hx hb dX10_meet_148 rfl (lv_at hl 4 rfl) ?_
                      refine lv_iload_n hx hb dX10_meet_149 rfl (lv_at hl 5 rfl) ?_
                      refine lv_iconst (v := 1) hx hb dX10_meet_150 (by decide) ?_
                      obtain ⟨r17, β18, hc19, hf⟩ := pb2_ok hf
                      refine p_callV (n := 2) (As := [.int a0, .int 1]) (rest := []) C hP hS (wv_10_155 C.2.2.2.2.1 _) (c_X10_step l C.2.2.2.2.2.2  hc19) (e_X10) rfl rfl hd_X10_step rfl ⟨Nat.le_of_ble_eq_true rfl, Nat.le_of_ble_eq_true rfl⟩ hl.1 rfl (Nat.le_of_ble_eq_true rfl) dX10_meet_151 ⟨Nat.zero_le _, Nat.zero_le _⟩ (fun H locs hP hS _ _ => ?_)
                      refine W.eq (g2 := F0 m 154 ls []) rfl ?_
                      refine lv_iload_n hx hb dX10_meet_154 rfl (lv_at hl 0 rfl) ?_
                      refine lv_aload_n hx hb dX10_meet_155 rfl (lv_at hl 4 rfl) ?_
                      refine g_10_143 C hP dX10_meet_156 ?_
                      refine lv_if_ne (tgt := 173) hx hb dX10_meet_159 (by decide) (fun h20 => ?_) (fun h20 => ?_)
                      · have hf := pif_f hf h20
                        refine lv_iconst (v := 0) hx hb dX10_meet_173 (by decide) ?_
                        refine lv_iadd hx hb dX10_meet_174 ?_
                        refine lv_istore_n (lv' := [(3, .int ((x3 + 1) + 0)), (6, .int 1), (5, .int (β 10 (((48 * a0) + (4 * x3)).toNatClampNeg))), (4, .int ((48 * a0) + (4 * x3))), (0, .ref (pL E 57)), (1, .int a0), (2, .int a1)]) hx hb dX10_meet_175 rfl hl (by decide) rfl (fun ls hl => ?_)
                        refine lv_goto (tgt := 2) hx hb dX10_meet_176 (by decide) ?_
                        exact ih2 _ β18 _ _ _ hf hP hS (lv_sub hl [0, 4, 5, 6] rfl)
                      · have hf := pif_t hf h20
                        refine lv_aload_n hx hb dX10_meet_162 rfl (lv_at hl 4 rfl) ?_
                        refine lv_iload_n hx hb dX10_meet_163 rfl (lv_at hl 5 rfl) ?_
                        refine lv_iload hx hb dX10_meet_164 (lv_at hl 3 rfl) ?_
                        refine lv_iload_n hx hb dX10_meet_166 rfl (lv_at hl 6 rfl) ?_
                        obtain ⟨r21, β22, hc23, hf⟩ := pb2_ok hf
                        refine p_callV (n := 3) (As := [.int a0, .int ((48 * a0) + (4 * x3)), .int a1]) (rest := [.int (x3 + 1)]) C hP hS (wv_10_159 C.2.2.2.2.1 _) (c_X10_act l C.2.2.2.2.2.2  hc23) (e_X10) rfl rfl hd_X10_act rfl ⟨Nat.le_of_ble_eq_true rfl, Nat.le_of_ble_eq_true rfl⟩ hl.1 rfl (Nat.le_of_ble_eq_true rfl) dX10_meet_167 ⟨Nat.zero_le _, Nat.zero_le _⟩ (fun H locs hP hS _ _ => ?_)
                        refine W.eq (g2 := F0 m 170 ls [.int r21, .int (x3 + 1)]) rfl ?_
                        refine lv_goto (tgt := 174) hx hb dX10_meet_170 (by decide) ?_
                        refine lv_iadd hx hb dX10_meet_174 ?_
                        refine lv_istore_n (lv' := [(3, .int ((x3 + 1) + r21)), (6, .int 1), (5, .int (β 10 (((48 * a0) + (4 * x3)).toNatClampNeg))), (4, .int ((48 * a0) + (4 * x3))), (0, .ref (pL E 57)), (1, .int a0), (2, .int a1)]) hx hb dX10_meet_175 rfl hl (by decide) rfl (fun ls hl => ?_)
                        refine lv_goto (tgt := 2) hx hb dX10_meet_176 (by decide) ?_
                        exact ih2 _ β22 _ _ _ hf hP hS (lv_sub hl [0, 4, 5, 6] rfl)
                    · have hf := pif_f hf h15
                      refine lv_aload_n hx hb dX10_meet_111 rfl (lv_at hl 3 rfl) ?_
                      refine g_10_77 C hP dX10_meet_112 ?_
                      refine lv_iload hx hb dX10_meet_115 (lv_at hl 0 rfl) ?_
                      refine lv_bipush (v := 15) hx hb dX10_meet_117 (by decide) ?_
                      refine lv_icmp_ne (tgt := 126) hx hb dX10_meet_119 (by decide) (fun h24 => ?_) (fun h24 => ?_)
                      · have hf := pif_f hf h24
                        refine lv_iload hx hb dX10_meet_126 (lv_at hl 0 rfl) ?_
                        obtain ⟨h25, hf⟩ := pg_ok hf
                        refine la_m_claimer C hP h25 dX10_meet_128 ?_
                        refine lv_iload_n hx hb dX10_meet_129 rfl (lv_at hl 4 rfl) ?_
                        refine lv_icmp_ne (tgt := 137) hx hb dX10_meet_130 (by decide) (fun h26 => ?_) (fun h26 => ?_)
                        · have hf := pif_f hf h26
                          refine lv_iconst (v := 0) hx hb dX10_meet_137 (by decide) ?_
                          refine lv_istore (lv' := [(6, .int 0), (5, .int (β 10 (((48 * a0) + (4 * x3)).toNatClampNeg))), (4, .int ((48 * a0) + (4 * x3))), (3, .int x3), (0, .ref (pL E 57)), (1, .int a0), (2, .int a1)]) hx hb dX10_meet_138 hl (by decide) rfl (fun ls hl => ?_)
                          refine lv_iinc (v := (x3 + 1)) (lv' := [(3, .int (x3 + 1)), (6, .int 0), (5, .int (β 10 (((48 * a0) + (4 * x3)).toNatClampNeg))), (4, .int ((48 * a0) + (4 * x3))), (0, .ref (pL E 57)), (1, .int a0), (2, .int a1)]) hx hb dX10_meet_140 hl (k := 3) rfl rfl (by decide) rfl (fun ls hl => ?_)
                          refine lv_iload hx hb dX10_meet_143 (lv_at hl 1 rfl) ?_
                          refine lv_if_eq (tgt := 176) hx hb dX10_meet_145 (by decide) (fun h27 => ?_) (fun h27 => absurd h27 (by decide))
                          refine lv_goto (tgt := 2) hx hb dX10_meet_176 (by decide) ?_
                          exact ih2 _ β _ _ _ hf hP hS (lv_sub hl [0, 4, 5, 6] rfl)
                        · have hf := pif_t hf h26
                          refine lv_iconst (v := 1) hx hb dX10_meet_133 (by decide) ?_
                          refine lv_goto (tgt := 138) hx hb dX10_meet_134 (by decide) ?_
                          refine lv_istore (lv' := [(6, .int 1), (5, .int (β 10 (((48 * a0) + (4 * x3)).toNatClampNeg))), (4, .int ((48 * a0) + (4 * x3))), (3, .int x3), (0, .ref (pL E 57)), (1, .int a0), (2, .int a1)]) hx hb dX10_meet_138 hl (by decide) rfl (fun ls hl => ?_)
                          refine lv_iinc (v := (x3 + 1)) (lv' := [(3, .int (x3 + 1)), (6, .int 1), (5, .int (β 10 (((48 * a0) + (4 * x3)).toNatClampNeg))), (4, .int ((48 * a0) + (4 * x3))), (0, .ref (pL E 57)), (1, .int a0), (2, .int a1)]) hx hb dX10_meet_140 hl (k := 3) rfl rfl (by decide) rfl (fun ls hl => ?_)
                          refine lv_iload hx hb dX10_meet_143 (lv_at hl 1 rfl) ?_
                          refine lv_if_eq (tgt := 176) hx hb dX10_meet_145 (by decide) (fun h28 => absurd h28 (by decide)) (fun h28 => ?_)
                          refine lv_aload_n hx hb dX10_meet_148 rfl (lv_at hl 4 rfl) ?_
                          refine lv_iload_n hx hb dX10_meet_149 rfl (lv_at hl 5 rfl) ?_
                          refine lv_iconst (v := 1) hx hb dX10_meet_150 (by decide) ?_
                          obtain ⟨r29, β30, hc31, hf⟩ := pb2_ok hf
                          refine p_callV (n := 2) (As := [.int a0, .int 1]) (rest := []) C hP hS (wv_10_155 C.2.2.2.2.1 _) (c_X10_step l C.2.2.2.2.2.2  hc31) (e_X10) rfl rfl hd_X10_step rfl ⟨Nat.le_of_ble_eq_true rfl, Nat.le_of_ble_eq_true rfl⟩ hl.1 rfl (Nat.le_of_ble_eq_true rfl) dX10_meet_151 ⟨Nat.zero_le _, Nat.zero_le _⟩ (fun H locs hP hS _ _ => ?_)
                          refine W.eq (g2 := F0 m 154 ls []) rfl ?_
                          refine lv_iload_n hx hb dX10_meet_154 rfl (lv_at hl 0 rfl) ?_
                          refine lv_aload_n hx hb dX10_meet_155 rfl (lv_at hl 4 rfl) ?_
                          refine g_10_143 C hP dX10_meet_156 ?_
                          refine lv_if_ne (tgt := 173) hx hb dX10_meet_159 (by decide) (fun h32 => ?_) (fun h32 => ?_)
                          · have hf := pif_f hf h32
                            refine lv_iconst (v := 0) hx hb dX10_meet_173 (by decide) ?_
                            refine lv_iadd hx hb dX10_meet_174 ?_
                            refine lv_istore_n (lv' := [(3, .int ((x3 + 1) + 0)), (6, .int 1), (5, .int (β 10 (((48 * a0) + (4 * x3)).toNatClampNeg))), (4, .int ((48 * a0) + (4 * x3))), (0, .ref (pL E 57)), (1, .int a0), (2, .int a1)]) hx hb dX10_meet_175 rfl hl (by decide) rfl (fun ls hl => ?_)
                            refine lv_goto (tgt := 2) hx hb dX10_meet_176 (by decide) ?_
                            exact ih2 _ β30 _ _ _ hf hP hS (lv_sub hl [0, 4, 5, 6] rfl)
                          · have hf := pif_t hf h32
                            refine lv_aload_n hx hb dX10_meet_162 rfl (lv_at hl 4 rfl) ?_
                            refine lv_iload_n hx hb dX10_meet_163 rfl (lv_at hl 5 rfl) ?_
                            refine lv_iload hx hb dX10_meet_164 (lv_at hl 3 rfl) ?_
                            refine lv_iload_n hx hb dX10_meet_166 rfl (lv_at hl 6 rfl) ?_
                            obtain ⟨r33, β34, hc35, hf⟩ := pb2_ok hf
                            refine p_callV (n := 3) (As := [.int a0, .int ((48 * a0) + (4 * x3)), .int a1]) (rest := [.int (x3 + 1)]) C hP hS (wv_10_159 C.2.2.2.2.1 _) (c_X10_act l C.2.2.2.2.2.2  hc35) (e_X10) rfl rfl hd_X10_act rfl ⟨Nat.le_of_ble_eq_true rfl, Nat.le_of_ble_eq_true rfl⟩ hl.1 rfl (Nat.le_of_ble_eq_true rfl) dX10_meet_167 ⟨Nat.zero_le _, Nat.zero_le _⟩ (fun H locs hP hS _ _ => ?_)
                            refine W.eq (g2 := F0 m 170 ls [.int r33, .int (x3 + 1)]) rfl ?_
                            refine lv_goto (tgt := 174) hx hb dX10_meet_170 (by decide) ?_
                            refine lv_iadd hx hb dX10_meet_174 ?_
                            refine lv_istore_n (lv' := [(3, .int ((x3 + 1) + r33)), (6, .int 1), (5, .int (β 10 (((48 * a0) + (4 * x3)).toNatClampNeg))), (4, .int ((48 * a0) + (4 * x3))), (0, .ref (pL E 57)), (1, .int a0), (2, .int a1)]) hx hb dX10_meet_175 rfl hl (by decide) rfl (fun ls hl => ?_)
                            refine lv_goto (tgt := 2) hx hb dX10_meet_176 (by decide) ?_
                            exact ih2 _ β34 _ _ _ hf hP hS (lv_sub hl [0, 4, 5, 6] rfl)
                      · have hf := pif_t hf h24
                        refine lv_iconst (v := 0) hx hb dX10_meet_122 (by decide) ?_
                        refine lv_goto (tgt := 128) hx hb dX10_meet_123 (by decide) ?_
                        obtain ⟨h36, hf⟩ := pg_ok hf
                        refine la_m_claimer C hP h36 dX10_meet_128 ?_
                        refine lv_iload_n hx hb dX10_meet_129 rfl (lv_at hl 4 rfl) ?_
                        refine lv_icmp_ne (tgt := 137) hx hb dX10_meet_130 (by decide) (fun h37 => ?_) (fun h37 => ?_)
                        · have hf := pif_f hf h37
                          refine lv_iconst (v := 0) hx hb dX10_meet_137 (by decide) ?_
                          refine lv_istore (lv' := [(6, .int 0), (5, .int (β 10 (((48 * a0) + (4 * x3)).toNatClampNeg))), (4, .int ((48 * a0) + (4 * x3))), (3, .int x3), (0, .ref (pL E 57)), (1, .int a0), (2, .int a1)]) hx hb dX10_meet_138 hl (by decide) rfl (fun ls hl => ?_)
                          refine lv_iinc (v := (x3 + 1)) (lv' := [(3, .int (x3 + 1)), (6, .int 0), (5, .int (β 10 (((48 * a0) + (4 * x3)).toNatClampNeg))), (4, .int ((48 * a0) + (4 * x3))), (0, .ref (pL E 57)), (1, .int a0), (2, .int a1)]) hx hb dX10_meet_140 hl (k := 3) rfl rfl (by decide) rfl (fun ls hl => ?_)
                          refine lv_iload hx hb dX10_meet_143 (lv_at hl 1 rfl) ?_
                          refine lv_if_eq (tgt := 176) hx hb dX10_meet_145 (by decide) (fun h38 => ?_) (fun h38 => absurd h38 (by decide))
                          refine lv_goto (tgt := 2) hx hb dX10_meet_176 (by decide) ?_
                          exact ih2 _ β _ _ _ hf hP hS (lv_sub hl [0, 4, 5, 6] rfl)
                        · have hf := pif_t hf h37
                          refine lv_iconst (v := 1) hx hb dX10_meet_133 (by decide) ?_
                          refine lv_goto (tgt := 138) hx hb dX10_meet_134 (by decide) ?_
                          refine lv_istore (lv' := [(6, .int 1), (5, .int (β 10 (((48 * a0) + (4 * x3)).toNatClampNeg))), (4, .int ((48 * a0) + (4 * x3))), (3, .int x3), (0, .ref (pL E 57)), (1, .int a0), (2, .int a1)]) hx hb dX10_meet_138 hl (by decide) rfl (fun ls hl => ?_)
                          refine lv_iinc (v := (x3 + 1)) (lv' := [(3, .int (x3 + 1)), (6, .int 1), (5, .int (β 10 (((48 * a0) + (4 * x3)).toNatClampNeg))), (4, .int ((48 * a0) + (4 * x3))), (0, .ref (pL E 57)), (1, .int a0), (2, .int a1)]) hx hb dX10_meet_140 hl (k := 3) rfl rfl (by decide) rfl (fun ls hl => ?_)
                          refine lv_iload hx hb dX10_meet_143 (lv_at hl 1 rfl) ?_
                          refine lv_if_eq (tgt := 176) hx hb dX10_meet_145 (by decide) (fun h39 => absurd h39 (by decide)) (fun h39 => ?_)
                          refine lv_aload_n hx hb dX10_meet_148 rfl (lv_at hl 4 rfl) ?_
                          refine lv_iload_n hx hb dX10_meet_149 rfl (lv_at hl 5 rfl) ?_
                          refine lv_iconst (v := 1) hx hb dX10_meet_150 (by decide) ?_
                          obtain ⟨r40, β41, hc42, hf⟩ := pb2_ok hf
                          refine p_callV (n := 2) (As := [.int a0, .int 1]) (rest := []) C hP hS (wv_10_155 C.2.2.2.2.1 _) (c_X10_step l C.2.2.2.2.2.2  hc42) (e_X10) rfl rfl hd_X10_step rfl ⟨Nat.le_of_ble_eq_true rfl, Nat.le_of_ble_eq_true rfl⟩ hl.1 rfl (Nat.le_of_ble_eq_true rfl) dX10_meet_151 ⟨Nat.zero_le _, Nat.zero_le _⟩ (fun H locs hP hS _ _ => ?_)
                          refine W.eq (g2 := F0 m 154 ls []) rfl ?_
                          refine lv_iload_n hx hb dX10_meet_154 rfl (lv_at hl 0 rfl) ?_
                          refine lv_aload_n hx hb dX10_meet_155 rfl (lv_at hl 4 rfl) ?_
                          refine g_10_143 C hP dX10_meet_156 ?_
                          refine lv_if_ne (tgt := 173) hx hb dX10_meet_159 (by decide) (fun h43 => ?_) (fun h43 => ?_)
                          · have hf := pif_f hf h43
                            refine lv_iconst (v := 0) hx hb dX10_meet_173 (by decide) ?_
                            refine lv_iadd hx hb dX10_meet_174 ?_
                            refine lv_istore_n (lv' := [(3, .int ((x3 + 1) + 0)), (6, .int 1), (5, .int (β 10 (((48 * a0) + (4 * x3)).toNatClampNeg))), (4, .int ((48 * a0) + (4 * x3))), (0, .ref (pL E 57)), (1, .int a0), (2, .int a1)]) hx hb dX10_meet_175 rfl hl (by decide) rfl (fun ls hl => ?_)
                            refine lv_goto (tgt := 2) hx hb dX10_meet_176 (by decide) ?_
                            exact ih2 _ β41 _ _ _ hf hP hS (lv_sub hl [0, 4, 5, 6] rfl)
                          · have hf := pif_t hf h43
                            refine lv_aload_n hx hb dX10_meet_162 rfl (lv_at hl 4 rfl) ?_
                            refine lv_iload_n hx hb dX10_meet_163 rfl (lv_at hl 5 rfl) ?_
                            refine lv_iload hx hb dX10_meet_164 (lv_at hl 3 rfl) ?_
                            refine lv_iload_n hx hb dX10_meet_166 rfl (lv_at hl 6 rfl) ?_
                            obtain ⟨r44, β45, hc46, hf⟩ := pb2_ok hf
                            refine p_callV (n := 3) (As := [.int a0, .int ((48 * a0) + (4 * x3)), .int a1]) (rest := [.int (x3 + 1)]) C hP hS (wv_10_159 C.2.2.2.2.1 _) (c_X10_act l C.2.2.2.2.2.2  hc46) (e_X10) rfl rfl hd_X10_act rfl ⟨Nat.le_of_ble_eq_true rfl, Nat.le_of_ble_eq_true rfl⟩ hl.1 rfl (Nat.le_of_ble_eq_true rfl) dX10_meet_167 ⟨Nat.zero_le _, Nat.zero_le _⟩ (fun H locs hP hS _ _ => ?_)
                            refine W.eq (g2 := F0 m 170 ls [.int r44, .int (x3 + 1)]) rfl ?_
                            refine lv_goto (tgt := 174) hx hb dX10_meet_170 (by decide) ?_
                            refine lv_iadd hx hb dX10_meet_174 ?_
                            refine lv_istore_n (lv' := [(3, .int ((x3 + 1) + r44)), (6, .int 1), (5, .int (β 10 (((48 * a0) + (4 * x3)).toNatClampNeg))), (4, .int ((48 * a0) + (4 * x3))), (0, .ref (pL E 57)), (1, .int a0), (2, .int a1)]) hx hb dX10_meet_175 rfl hl (by decide) rfl (fun ls hl => ?_)
                            refine lv_goto (tgt := 2) hx hb dX10_meet_176 (by decide) ?_
                            exact ih2 _ β45 _ _ _ hf hP hS (lv_sub hl [0, 4, 5, 6] rfl)
                  · have hf := pif_t hf h13
                    refine lv_iconst (v := 0) hx hb dX10_meet_100 (by decide) ?_
                    refine lv_goto (tgt := 106) hx hb dX10_meet_101 (by decide) ?_
                    obtain ⟨h47, hf⟩ := pg_ok hf
                    refine la_m_claimer C hP h47 dX10_meet_106 ?_
                    refine lv_iconst (v := (-1)) hx hb dX10_meet_107 (by decide) ?_
                    refine lv_icmp_eq (tgt := 133) hx hb dX10_meet_108 (by decide) (fun h48 => ?_) (fun h48 => ?_)
                    · have hf := pif_t hf h48
                      refine lv_iconst (v := 1) hx hb dX10_meet_133 (by decide) ?_
                      refine lv_goto (tgt := 138) hx hb dX10_meet_134 (by decide) ?_
                      refine lv_istore (lv' := [(6, .int 1), (5, .int (β 10 (((48 * a0) + (4 * x3)).toNatClampNeg))), (4, .int ((48 * a0) + (4 * x3))), (3, .int x3), (0, .ref (pL E 57)), (1, .int a0), (2, .int a1)]) hx hb dX10_meet_138 hl (by decide) rfl (fun ls hl => ?_)
                      refine lv_iinc (v := (x3 + 1)) (lv' := [(3, .int (x3 + 1)), (6, .int 1), (5, .int (β 10 (((48 * a0) + (4 * x3)).toNatClampNeg))), (4, .int ((48 * a0) + (4 * x3))), (0, .ref (pL E 57)), (1, .int a0), (2, .int a1)]) hx hb dX10_meet_140 hl (k := 3) rfl rfl (by decide) rfl (fun ls hl => ?_)
                      refine lv_iload hx hb dX10_meet_143 (lv_at hl 1 rfl) ?_
                      refine lv_if_eq (tgt := 176) hx hb dX10_meet_145 (by decide) (fun h49 => absurd h49 (by decide)) (fun h49 => ?_)
                      refine lv_aload_n hx hb dX10_meet_148 rfl (lv_at hl 4 rfl) ?_
                      refine lv_iload_n hx hb dX10_meet_149 rfl (lv_at hl 5 rfl) ?_
                      refine lv_iconst (v := 1) hx hb dX10_meet_150 (by decide) ?_
                      obtain ⟨r50, β51, hc52, hf⟩ := pb2_ok hf
                      refine p_callV (n := 2) (As := [.int a0, .int 1]) (rest := []) C hP hS (wv_10_155 C.2.2.2.2.1 _) (c_X10_step l C.2.2.2.2.2.2  hc52) (e_X10) rfl rfl hd_X10_step rfl ⟨Nat.le_of_ble_eq_true rfl, Nat.le_of_ble_eq_true rfl⟩ hl.1 rfl (Nat.le_of_ble_eq_true rfl) dX10_meet_151 ⟨Nat.zero_le _, Nat.zero_le _⟩ (fun H locs hP hS _ _ => ?_)
                      refine W.eq (g2 := F0 m 154 ls []) rfl ?_
                      refine lv_iload_n hx hb dX10_meet_154 rfl (lv_at hl 0 rfl) ?_
                      refine lv_aload_n hx hb dX10_meet_155 rfl (lv_at hl 4 rfl) ?_
                      refine g_10_143 C hP dX10_meet_156 ?_
                      refine lv_if_ne (tgt := 173) hx hb dX10_meet_159 (by decide) (fun h53 => ?_) (fun h53 => ?_)
                      · have hf := pif_f hf h53
                        refine lv_iconst (v := 0) hx hb dX10_meet_173 (by decide) ?_
                        refine lv_iadd hx hb dX10_meet_174 ?_
                        refine lv_istore_n (lv' := [(3, .int ((x3 + 1) + 0)), (6, .int 1), (5, .int (β 10 (((48 * a0) + (4 * x3)).toNatClampNeg))), (4, .int ((48 * a0) + (4 * x3))), (0, .ref (pL E 57)), (1, .int a0), (2, .int a1)]) hx hb dX10_meet_175 rfl hl (by decide) rfl (fun ls hl => ?_)
                        refine lv_goto (tgt := 2) hx hb dX10_meet_176 (by decide) ?_
                        exact ih2 _ β51 _ _ _ hf hP hS (lv_sub hl [0, 4, 5, 6] rfl)
                      · have hf := pif_t hf h53
                        refine lv_aload_n hx hb dX10_meet_162 rfl (lv_at hl 4 rfl) ?_
                        refine lv_iload_n hx hb dX10_meet_163 rfl (lv_at hl 5 rfl) ?_
                        refine lv_iload hx hb dX10_meet_164 (lv_at hl 3 rfl) ?_
                        refine lv_iload_n hx hb dX10_meet_166 rfl (lv_at hl 6 rfl) ?_
                        obtain ⟨r54, β55, hc56, hf⟩ := pb2_ok hf
                        refine p_callV (n := 3) (As := [.int a0, .int ((48 * a0) + (4 * x3)), .int a1]) (rest := [.int (x3 + 1)]) C hP hS (wv_10_159 C.2.2.2.2.1 _) (c_X10_act l C.2.2.2.2.2.2  hc56) (e_X10) rfl rfl hd_X10_act rfl ⟨Nat.le_of_ble_eq_true rfl, Nat.le_of_ble_eq_true rfl⟩ hl.1 rfl (Nat.le_of_ble_eq_true rfl) dX10_meet_167 ⟨Nat.zero_le _, Nat.zero_le _⟩ (fun H locs hP hS _ _ => ?_)
                        refine W.eq (g2 := F0 m 170 ls [.int r54, .int (x3 + 1)]) rfl ?_
                        refine lv_goto (tgt := 174) hx hb dX10_meet_170 (by decide) ?_
                        refine lv_iadd hx hb dX10_meet_174 ?_
                        refine lv_istore_n (lv' := [(3, .int ((x3 + 1) + r54)), (6, .int 1), (5, .int (β 10 (((48 * a0) + (4 * x3)).toNatClampNeg))), (4, .int ((48 * a0) + (4 * x3))), (0, .ref (pL E 57)), (1, .int a0), (2, .int a1)]) hx hb dX10_meet_175 rfl hl (by decide) rfl (fun ls hl => ?_)
                        refine lv_goto (tgt := 2) hx hb dX10_meet_176 (by decide) ?_
                        exact ih2 _ β55 _ _ _ hf hP hS (lv_sub hl [0, 4, 5, 6] rfl)
                    · have hf := pif_f hf h48
                      refine lv_aload_n hx hb dX10_meet_111 rfl (lv_at hl 3 rfl) ?_
                      refine g_10_77 C hP dX10_meet_112 ?_
                      refine lv_iload hx hb dX10_meet_115 (lv_at hl 0 rfl) ?_
                      refine lv_bipush (v := 15) hx hb dX10_meet_117 (by decide) ?_
                      refine lv_icmp_ne (tgt := 126) hx hb dX10_meet_119 (by decide) (fun h57 => ?_) (fun h57 => ?_)
                      · have hf := pif_f hf h57
                        refine lv_iload hx hb dX10_meet_126 (lv_at hl 0 rfl) ?_
                        obtain ⟨h58, hf⟩ := pg_ok hf
                        refine la_m_claimer C hP h58 dX10_meet_128 ?_
                        refine lv_iload_n hx hb dX10_meet_129 rfl (lv_at hl 4 rfl) ?_
                        refine lv_icmp_ne (tgt := 137) hx hb dX10_meet_130 (by decide) (fun h59 => ?_) (fun h59 => ?_)
                        · have hf := pif_f hf h59
                          refine lv_iconst (v := 0) hx hb dX10_meet_137 (by decide) ?_
                          refine lv_istore (lv' := [(6, .int 0), (5, .int (β 10 (((48 * a0) + (4 * x3)).toNatClampNeg))), (4, .int ((48 * a0) + (4 * x3))), (3, .int x3), (0, .ref (pL E 57)), (1, .int a0), (2, .int a1)]) hx hb dX10_meet_138 hl (by decide) rfl (fun ls hl => ?_)
                          refine lv_iinc (v := (x3 + 1)) (lv' := [(3, .int (x3 + 1)), (6, .int 0), (5, .int (β 10 (((48 * a0) + (4 * x3)).toNatClampNeg))), (4, .int ((48 * a0) + (4 * x3))), (0, .ref (pL E 57)), (1, .int a0), (2, .int a1)]) hx hb dX10_meet_140 hl (k := 3) rfl rfl (by decide) rfl (fun ls hl => ?_)
                          refine lv_iload hx hb dX10_meet_143 (lv_at hl 1 rfl) ?_
                          refine lv_if_eq (tgt := 176) hx hb dX10_meet_145 (by decide) (fun h60 => ?_) (fun h60 => absurd h60 (by decide))
                          refine lv_goto (tgt := 2) hx hb dX10_meet_176 (by decide) ?_
                          exact ih2 _ β _ _ _ hf hP hS (lv_sub hl [0, 4, 5, 6] rfl)
                        · have hf := pif_t hf h59
                          refine lv_iconst (v := 1) hx hb dX10_meet_133 (by decide) ?_
                          refine lv_goto (tgt := 138) hx hb dX10_meet_134 (by decide) ?_
                          refine lv_istore (lv' := [(6, .int 1), (5, .int (β 10 (((48 * a0) + (4 * x3)).toNatClampNeg))), (4, .int ((48 * a0) + (4 * x3))), (3, .int x3), (0, .ref (pL E 57)), (1, .int a0), (2, .int a1)]) hx hb dX10_meet_138 hl (by decide) rfl (fun ls hl => ?_)
                          refine lv_iinc (v := (x3 + 1)) (lv' := [(3, .int (x3 + 1)), (6, .int 1), (5, .int (β 10 (((48 * a0) + (4 * x3)).toNatClampNeg))), (4, .int ((48 * a0) + (4 * x3))), (0, .ref (pL E 57)), (1, .int a0), (2, .int a1)]) hx hb dX10_meet_140 hl (k := 3) rfl rfl (by decide) rfl (fun ls hl => ?_)
                          refine lv_iload hx hb dX10_meet_143 (lv_at hl 1 rfl) ?_
                          refine lv_if_eq (tgt := 176) hx hb dX10_meet_145 (by decide) (fun h61 => absurd h61 (by decide)) (fun h61 => ?_)
                          refine lv_aload_n hx hb dX10_meet_148 rfl (lv_at hl 4 rfl) ?_
                          refine lv_iload_n hx hb dX10_meet_149 rfl (lv_at hl 5 rfl) ?_
                          refine lv_iconst (v := 1) hx hb dX10_meet_150 (by decide) ?_
                          obtain ⟨r62, β63, hc64, hf⟩ := pb2_ok hf
                          refine p_callV (n := 2) (As := [.int a0, .int 1]) (rest := []) C hP hS (wv_10_155 C.2.2.2.2.1 _) (c_X10_step l C.2.2.2.2.2.2  hc64) (e_X10) rfl rfl hd_X10_step rfl ⟨Nat.le_of_ble_eq_true rfl, Nat.le_of_ble_eq_true rfl⟩ hl.1 rfl (Nat.le_of_ble_eq_true rfl) dX10_meet_151 ⟨Nat.zero_le _, Nat.zero_le _⟩ (fun H locs hP hS _ _ => ?_)
                          refine W.eq (g2 := F0 m 154 ls []) rfl ?_
                          refine lv_iload_n hx hb dX10_meet_154 rfl (lv_at hl 0 rfl) ?_
                          refine lv_aload_n hx hb dX10_meet_155 rfl (lv_at hl 4 rfl) ?_
                          refine g_10_143 C hP dX10_meet_156 ?_
                          refine lv_if_ne (tgt := 173) hx hb dX10_meet_159 (by decide) (fun h65 => ?_) (fun h65 => ?_)
                          · have hf := pif_f hf h65
                            refine lv_iconst (v := 0) hx hb dX10_meet_173 (by decide) ?_
                            refine lv_iadd hx hb dX10_meet_174 ?_
                            refine lv_istore_n (lv' := [(3, .int ((x3 + 1) + 0)), (6, .int 1), (5, .int (β 10 (((48 * a0) + (4 * x3)).toNatClampNeg))), (4, .int ((48 * a0) + (4 * x3))), (0, .ref (pL E 57)), (1, .int a0), (2, .int a1)]) hx hb dX10_meet_175 rfl hl (by decide) rfl (fun ls hl => ?_)
                            refine lv_goto (tgt := 2) hx hb dX10_meet_176 (by decide) ?_
                            exact ih2 _ β63 _ _ _ hf hP hS (lv_sub hl [0, 4, 5, 6] rfl)
                          · have hf := pif_t hf h65
                            refine lv_aload_n hx hb dX10_meet_162 rfl (lv_at hl 4 rfl) ?_
                            refine lv_iload_n hx hb dX10_meet_163 rfl (lv_at hl 5 rfl) ?_
                            refine lv_iload hx hb dX10_meet_164 (lv_at hl 3 rfl) ?_
                            refine lv_iload_n hx hb dX10_meet_166 rfl (lv_at hl 6 rfl) ?_
                            obtain ⟨r66, β67, hc68, hf⟩ := pb2_ok hf
                            refine p_callV (n := 3) (As := [.int a0, .int ((48 * a0) + (4 * x3)), .int a1]) (rest := [.int (x3 + 1)]) C hP hS (wv_10_159 C.2.2.2.2.1 _) (c_X10_act l C.2.2.2.2.2.2  hc68) (e_X10) rfl rfl hd_X10_act rfl ⟨Nat.le_of_ble_eq_true rfl, Nat.le_of_ble_eq_true rfl⟩ hl.1 rfl (Nat.le_of_ble_eq_true rfl) dX10_meet_167 ⟨Nat.zero_le _, Nat.zero_le _⟩ (fun H locs hP hS _ _ => ?_)
                            refine W.eq (g2 := F0 m 170 ls [.int r66, .int (x3 + 1)]) rfl ?_
                            refine lv_goto (tgt := 174) hx hb dX10_meet_170 (by decide) ?_
                            refine lv_iadd hx hb dX10_meet_174 ?_
                            refine lv_istore_n (lv' := [(3, .int ((x3 + 1) + r66)), (6, .int 1), (5, .int (β 10 (((48 * a0) + (4 * x3)).toNatClampNeg))), (4, .int ((48 * a0) + (4 * x3))), (0, .ref (pL E 57)), (1, .int a0), (2, .int a1)]) hx hb dX10_meet_175 rfl hl (by decide) rfl (fun ls hl => ?_)
                            refine lv_goto (tgt := 2) hx hb dX10_meet_176 (by decide) ?_
                            exact ih2 _ β67 _ _ _ hf hP hS (lv_sub hl [0, 4, 5, 6] rfl)
                      · have hf := pif_t hf h57
                        refine lv_iconst (v := 0) hx hb dX10_meet_122 (by decide) ?_
                        refine lv_goto (tgt := 128) hx hb dX10_meet_123 (by decide) ?_
                        obtain ⟨h69, hf⟩ := pg_ok hf
                        refine la_m_claimer C hP h69 dX10_meet_128 ?_
                        refine lv_iload_n hx hb dX10_meet_129 rfl (lv_at hl 4 rfl) ?_
                        refine lv_icmp_ne (tgt := 137) hx hb dX10_meet_130 (by decide) (fun h70 => ?_) (fun h70 => ?_)
                        · have hf := pif_f hf h70
                          refine lv_iconst (v := 0) hx hb dX10_meet_137 (by decide) ?_
                          refine lv_istore (lv' := [(6, .int 0), (5, .int (β 10 (((48 * a0) + (4 * x3)).toNatClampNeg))), (4, .int ((48 * a0) + (4 * x3))), (3, .int x3), (0, .ref (pL E 57)), (1, .int a0), (2, .int a1)]) hx hb dX10_meet_138 hl (by decide) rfl (fun ls hl => ?_)
                          refine lv_iinc (v := (x3 + 1)) (lv' := [(3, .int (x3 + 1)), (6, .int 0), (5, .int (β 10 (((48 * a0) + (4 * x3)).toNatClampNeg))), (4, .int ((48 * a0) + (4 * x3))), (0, .ref (pL E 57)), (1, .int a0), (2, .int a1)]) hx hb dX10_meet_140 hl (k := 3) rfl rfl (by decide) rfl (fun ls hl => ?_)
                          refine lv_iload hx hb dX10_meet_143 (lv_at hl 1 rfl) ?_
                          refine lv_if_eq (tgt := 176) hx hb dX10_meet_145 (by decide) (fun h71 => ?_) (fun h71 => absurd h71 (by decide))
                          refine lv_goto (tgt := 2) hx hb dX10_meet_176 (by decide) ?_
                          exact ih2 _ β _ _ _ hf hP hS (lv_sub hl [0, 4, 5, 6] rfl)
                        · have hf := pif_t hf h70
                          refine lv_iconst (v := 1) hx hb dX10_meet_133 (by decide) ?_
                          refine lv_goto (tgt := 138) hx hb dX10_meet_134 (by decide) ?_
                          refine lv_istore (lv' := [(6, .int 1), (5, .int (β 10 (((48 * a0) + (4 * x3)).toNatClampNeg))), (4, .int ((48 * a0) + (4 * x3))), (3, .int x3), (0, .ref (pL E 57)), (1, .int a0), (2, .int a1)]) hx hb dX10_meet_138 hl (by decide) rfl (fun ls hl => ?_)
                          refine lv_iinc (v := (x3 + 1)) (lv' := [(3, .int (x3 + 1)), (6, .int 1), (5, .int (β 10 (((48 * a0) + (4 * x3)).toNatClampNeg))), (4, .int ((48 * a0) + (4 * x3))), (0, .ref (pL E 57)), (1, .int a0), (2, .int a1)]) hx hb dX10_meet_140 hl (k := 3) rfl rfl (by decide) rfl (fun ls hl => ?_)
                          refine lv_iload hx hb dX10_meet_143 (lv_at hl 1 rfl) ?_
                          refine lv_if_eq (tgt := 176) hx hb dX10_meet_145 (by decide) (fun h72 => absurd h72 (by decide)) (fun h72 => ?_)
                          refine lv_aload_n hx hb dX10_meet_148 rfl (lv_at hl 4 rfl) ?_
                          refine lv_iload_n hx hb dX10_meet_149 rfl (lv_at hl 5 rfl) ?_
                          refine lv_iconst (v := 1) hx hb dX10_meet_150 (by decide) ?_
                          obtain ⟨r73, β74, hc75, hf⟩ := pb2_ok hf
                          refine p_callV (n := 2) (As := [.int a0, .int 1]) (rest := []) C hP hS (wv_10_155 C.2.2.2.2.1 _) (c_X10_step l C.2.2.2.2.2.2  hc75) (e_X10) rfl rfl hd_X10_step rfl ⟨Nat.le_of_ble_eq_true rfl, Nat.le_of_ble_eq_true rfl⟩ hl.1 rfl (Nat.le_of_ble_eq_true rfl) dX10_meet_151 ⟨Nat.zero_le _, Nat.zero_le _⟩ (fun H locs hP hS _ _ => ?_)
                          refine W.eq (g2 := F0 m 154 ls []) rfl ?_
                          refine lv_iload_n hx hb dX10_meet_154 rfl (lv_at hl 0 rfl) ?_
                          refine lv_aload_n hx hb dX10_meet_155 rfl (lv_at hl 4 rfl) ?_
                          refine g_10_143 C hP dX10_meet_156 ?_
                          refine lv_if_ne (tgt := 173) hx hb dX10_meet_159 (by decide) (fun h76 => ?_) (fun h76 => ?_)
                          · have hf := pif_f hf h76
                            refine lv_iconst (v := 0) hx hb dX10_meet_173 (by decide) ?_
                            refine lv_iadd hx hb dX10_meet_174 ?_
                            refine lv_istore_n (lv' := [(3, .int ((x3 + 1) + 0)), (6, .int 1), (5, .int (β 10 (((48 * a0) + (4 * x3)).toNatClampNeg))), (4, .int ((48 * a0) + (4 * x3))), (0, .ref (pL E 57)), (1, .int a0), (2, .int a1)]) hx hb dX10_meet_175 rfl hl (by decide) rfl (fun ls hl => ?_)
                            refine lv_goto (tgt := 2) hx hb dX10_meet_176 (by decide) ?_
                            exact ih2 _ β74 _ _ _ hf hP hS (lv_sub hl [0, 4, 5, 6] rfl)
                          · have hf := pif_t hf h76
                            refine lv_aload_n hx hb dX10_meet_162 rfl (lv_at hl 4 rfl) ?_
                            refine lv_iload_n hx hb dX10_meet_163 rfl (lv_at hl 5 rfl) ?_
                            refine lv_iload hx hb dX10_meet_164 (lv_at hl 3 rfl) ?_
                            refine lv_iload_n hx hb dX10_meet_166 rfl (lv_at hl 6 rfl) ?_
                            obtain ⟨r77, β78, hc79, hf⟩ := pb2_ok hf
                            refine p_callV (n := 3) (As := [.int a0, .int ((48 * a0) + (4 * x3)), .int a1]) (rest := [.int (x3 + 1)]) C hP hS (wv_10_159 C.2.2.2.2.1 _) (c_X10_act l C.2.2.2.2.2.2  hc79) (e_X10) rfl rfl hd_X10_act rfl ⟨Nat.le_of_ble_eq_true rfl, Nat.le_of_ble_eq_true rfl⟩ hl.1 rfl (Nat.le_of_ble_eq_true rfl) dX10_meet_167 ⟨Nat.zero_le _, Nat.zero_le _⟩ (fun H locs hP hS _ _ => ?_)
                            refine W.eq (g2 := F0 m 170 ls [.int r77, .int (x3 + 1)]) rfl ?_
                            refine lv_goto (tgt := 174) hx hb dX10_meet_170 (by decide) ?_
                            refine lv_iadd hx hb dX10_meet_174 ?_
                            refine lv_istore_n (lv' := [(3, .int ((x3 + 1) + r77)), (6, .int 1), (5, .int (β 10 (((48 * a0) + (4 * x3)).toNatClampNeg))), (4, .int ((48 * a0) + (4 * x3))), (0, .ref (pL E 57)), (1, .int a0), (2, .int a1)]) hx hb dX10_meet_175 rfl hl (by decide) rfl (fun ls hl => ?_)
                            refine lv_goto (tgt := 2) hx hb dX10_meet_176 (by decide) ?_
                            exact ih2 _ β78 _ _ _ hf hP hS (lv_sub hl [0, 4, 5, 6] rfl)
            · have hf := pif_t hf h7
              refine lv_iload hx hb dX10_meet_52 (lv_at hl 0 rfl) ?_
              refine lv_bipush (v := 15) hx hb dX10_meet_54 (by decide) ?_
              refine lv_icmp_ne (tgt := 63) hx hb dX10_meet_56 (by decide) (fun h80 => ?_) (fun h80 => ?_)
              · have hf := pif_f hf h80
                refine lv_iconst (v := 0) hx hb dX10_meet_63 (by decide) ?_
                refine lv_goto (tgt := 138) hx hb dX10_meet_64 (by decide) ?_
                refine lv_istore (lv' := [(6, .int 0), (5, .int (β 10 (((48 * a0) + (4 * x3)).toNatClampNeg))), (4, .int ((48 * a0) + (4 * x3))), (3, .int x3), (0, .ref (pL E 57)), (1, .int a0), (2, .int a1)]) hx hb dX10_meet_138 hl (by decide) rfl (fun ls hl => ?_)
                refine lv_iinc (v := (x3 + 1)) (lv' := [(3, .int (x3 + 1)), (6, .int 0), (5, .int (β 10 (((48 * a0) + (4 * x3)).toNatClampNeg))), (4, .int ((48 * a0) + (4 * x3))), (0, .ref (pL E 57)), (1, .int a0), (2, .int a1)]) hx hb dX10_meet_140 hl (k := 3) rfl rfl (by decide) rfl (fun ls hl => ?_)
                refine lv_iload hx hb dX10_meet_143 (lv_at hl 1 rfl) ?_
                refine lv_if_eq (tgt := 176) hx hb dX10_meet_145 (by decide) (fun h81 => ?_) (fun h81 => absurd h81 (by decide))
                refine lv_goto (tgt := 2) hx hb dX10_meet_176 (by decide) ?_
                exact ih2 _ β _ _ _ hf hP hS (lv_sub hl [0, 4, 5, 6] rfl)
              · have hf := pif_t hf h80
                refine lv_iconst (v := 1) hx hb dX10_meet_59 (by decide) ?_
                refine lv_goto (tgt := 138) hx hb dX10_meet_60 (by decide) ?_
                refine lv_istore (lv' := [(6, .int 1), (5, .int (β 10 (((48 * a0) + (4 * x3)).toNatClampNeg))), (4, .int ((48 * a0) + (4 * x3))), (3, .int x3), (0, .ref (pL E 57)), (1, .int a0), (2, .int a1)]) hx hb dX10_meet_138 hl (by decide) rfl (fun ls hl => ?_)
                refine lv_iinc (v := (x3 + 1)) (lv' := [(3, .int (x3 + 1)), (6, .int 1), (5, .int (β 10 (((48 * a0) + (4 * x3)).toNatClampNeg))), (4, .int ((48 * a0) + (4 * x3))), (0, .ref (pL E 57)), (1, .int a0), (2, .int a1)]) hx hb dX10_meet_140 hl (k := 3) rfl rfl (by decide) rfl (fun ls hl => ?_)
                refine lv_iload hx hb dX10_meet_143 (lv_at hl 1 rfl) ?_
                refine lv_if_eq (tgt := 176) hx hb dX10_meet_145 (by decide) (fun h82 => absurd h82 (by decide)) (fun h82 => ?_)
                refine lv_aload_n hx hb dX10_meet_148 rfl (lv_at hl 4 rfl) ?_
                refine lv_iload_n hx hb dX10_meet_149 rfl (lv_at hl 5 rfl) ?_
                refine lv_iconst (v := 1) hx hb dX10_meet_150 (by decide) ?_
                obtain ⟨r83, β84, hc85, hf⟩ := pb2_ok hf
                refine p_callV (n := 2) (As := [.int a0, .int 1]) (rest := []) C hP hS (wv_10_155 C.2.2.2.2.1 _) (c_X10_step l C.2.2.2.2.2.2  hc85) (e_X10) rfl rfl hd_X10_step rfl ⟨Nat.le_of_ble_eq_true rfl, Nat.le_of_ble_eq_true rfl⟩ hl.1 rfl (Nat.le_of_ble_eq_true rfl) dX10_meet_151 ⟨Nat.zero_le _, Nat.zero_le _⟩ (fun H locs hP hS _ _ => ?_)
                refine W.eq (g2 := F0 m 154 ls []) rfl ?_
                refine lv_iload_n hx hb dX10_meet_154 rfl (lv_at hl 0 rfl) ?_
                refine lv_aload_n hx hb dX10_meet_155 rfl (lv_at hl 4 rfl) ?_
                refine g_10_143 C hP dX10_meet_156 ?_
                refine lv_if_ne (tgt := 173) hx hb dX10_meet_159 (by decide) (fun h86 => ?_) (fun h86 => ?_)
                · have hf := pif_f hf h86
                  refine lv_iconst (v := 0) hx hb dX10_meet_173 (by decide) ?_
                  refine lv_iadd hx hb dX10_meet_174 ?_
                  refine lv_istore_n (lv' := [(3, .int ((x3 + 1) + 0)), (6, .int 1), (5, .int (β 10 (((48 * a0) + (4 * x3)).toNatClampNeg))), (4, .int ((48 * a0) + (4 * x3))), (0, .ref (pL E 57)), (1, .int a0), (2, .int a1)]) hx hb dX10_meet_175 rfl hl (by decide) rfl (fun ls hl => ?_)
                  refine lv_goto (tgt := 2) hx hb dX10_meet_176 (by decide) ?_
                  exact ih2 _ β84 _ _ _ hf hP hS (lv_sub hl [0, 4, 5, 6] rfl)
                · have hf := pif_t hf h86
                  refine lv_aload_n hx hb dX10_meet_162 rfl (lv_at hl 4 rfl) ?_
                  refine lv_iload_n hx hb dX10_meet_163 rfl (lv_at hl 5 rfl) ?_
                  refine lv_iload hx hb dX10_meet_164 (lv_at hl 3 rfl) ?_
                  refine lv_iload_n hx hb dX10_meet_166 rfl (lv_at hl 6 rfl) ?_
                  obtain ⟨r87, β88, hc89, hf⟩ := pb2_ok hf
                  refine p_callV (n := 3) (As := [.int a0, .int ((48 * a0) + (4 * x3)), .int a1]) (rest := [.int (x3 + 1)]) C hP hS (wv_10_159 C.2.2.2.2.1 _) (c_X10_act l C.2.2.2.2.2.2  hc89) (e_X10) rfl rfl hd_X10_act rfl ⟨Nat.le_of_ble_eq_true rfl, Nat.le_of_ble_eq_true rfl⟩ hl.1 rfl (Nat.le_of_ble_eq_true rfl) dX10_meet_167 ⟨Nat.zero_le _, Nat.zero_le _⟩ (fun H locs hP hS _ _ => ?_)
                  refine W.eq (g2 := F0 m 170 ls [.int r87, .int (x3 + 1)]) rfl ?_
                  refine lv_goto (tgt := 174) hx hb dX10_meet_170 (by decide) ?_
                  refine lv_iadd hx hb dX10_meet_174 ?_
                  refine lv_istore_n (lv' := [(3, .int ((x3 + 1) + r87)), (6, .int 1), (5, .int (β 10 (((48 * a0) + (4 * x3)).toNatClampNeg))), (4, .int ((48 * a0) + (4 * x3))), (0, .ref (pL E 57)), (1, .int a0), (2, .int a1)]) hx hb dX10_meet_175 rfl hl (by decide) rfl (fun ls hl => ?_)
                  refine lv_goto (tgt := 2) hx hb dX10_meet_176 (by decide) ?_
                  exact ih2 _ β88 _ _ _ hf hP hS (lv_sub hl [0, 4, 5, 6] rfl)
  exact lp2 _ _ _ _ _ _ hf hP hS (lv_sub hl [0, 1, 2, 3] rfl)
set_option maxHeartbeats 4000000 in
set_option maxRecDepth 100000 in
theorem c_X10_mirror (l : Launch) {E : pE} (hE : pInj E) {α : pSt} {a0 : Int32} {a1 : Int32} {β β' : pSt} {r : Int32} (hf : f_X10_mirror a0 a1 β = some (r, β')) : pM l E yX10_mirror cX10_mirror 3 (some .int) 2 [.ref (pL E 57), .int a0, .int a1] α β (some (.int r)) α β' := by
  refine pM.ofW hE (by decide) ?_ (Nat.le_of_ble_eq_true rfl)
  intro p e s m below meth c ls C hr hlk hP hl
  have C : pCx p s m c cX10_mirror 3 E RX10 := C
  have hS : va_S (pA E s.heap.size) s.heap s.heap [] := va_S.rf
  have hx := C.1
  have hb := C.2.1
  have hl : lv_has ls 3 [(0, .ref (pL E 57)), (1, .int a0), (2, .int a1)] := hl
  unfold f_X10_mirror at hf
  refine lv_aload_n hx hb dX10_mirror_0 rfl (lv_at hl 0 rfl) ?_
  refine lv_iload_n hx hb dX10_mirror_1 rfl (lv_at hl 1 rfl) ?_
  obtain ⟨r1, β2, hc3, hf⟩ := pb2_ok hf
  refine p_callV (n := 1) (As := [.int a0]) (rest := []) C hP hS (wv_10_125 C.2.2.2.2.1 _) (c_X10_isUnit l C.2.2.2.2.2.2  hc3) (e_X10) rfl rfl hd_X10_isUnit rfl ⟨Nat.le_of_ble_eq_true rfl, Nat.le_of_ble_eq_true rfl⟩ hl.1 rfl (Nat.le_of_ble_eq_true rfl) dX10_mirror_2 ⟨Nat.zero_le _, Nat.zero_le _⟩ (fun H locs hP hS _ _ => ?_)
  refine W.eq (g2 := F0 m 5 ls [.int r1]) rfl ?_
  refine lv_if_ne (tgt := 11) hx hb dX10_mirror_5 (by decide) (fun h4 => ?_) (fun h4 => ?_)
  · have hf := pif_f hf h4
    refine lv_iload_n hx hb dX10_mirror_11 rfl (lv_at hl 2 rfl) ?_
    by_cases h5 : a1 = 0
    · have hf := pif_t hf h5
      refine lv_tableIn (tgt := 48) (off := 36) hx hb dX10_mirror_12 (by rw [h5]; decide) (by rw [h5]; decide) (by rw [h5]; decide) (by decide) ?_
      refine lv_aload_n hx hb dX10_mirror_48 rfl (lv_at hl 0 rfl) ?_
      refine g_10_47 C hP dX10_mirror_49 ?_
      refine lv_iload_n hx hb dX10_mirror_52 rfl (lv_at hl 1 rfl) ?_
      obtain ⟨h6, hf⟩ := pg_ok hf
      refine la_m_name C hP h6 dX10_mirror_53 ?_
      exact p_iret C hr hlk (pe1 hf) (pe2M hf) hP hS dX10_mirror_54
    · have hf := pif_f hf h5
      by_cases h7 : a1 = 1
      · have hf := pif_t hf h7
        refine lv_tableIn (tgt := 55) (off := 43) hx hb dX10_mirror_12 (by rw [h7]; decide) (by rw [h7]; decide) (by rw [h7]; decide) (by decide) ?_
        refine lv_aload_n hx hb dX10_mirror_55 rfl (lv_at hl 0 rfl) ?_
        refine g_10_50 C hP dX10_mirror_56 ?_
        refine lv_iload_n hx hb dX10_mirror_59 rfl (lv_at hl 1 rfl) ?_
        obtain ⟨h8, hf⟩ := pg_ok hf
        refine la_m_marks C hP h8 dX10_mirror_60 ?_
        exact p_iret C hr hlk (pe1 hf) (pe2M hf) hP hS dX10_mirror_61
      · have hf := pif_f hf h7
        by_cases h9 : a1 = 2
        · have hf := pif_t hf h9
          refine lv_tableIn (tgt := 62) (off := 50) hx hb dX10_mirror_12 (by rw [h9]; decide) (by rw [h9]; decide) (by rw [h9]; decide) (by decide) ?_
          refine lv_aload_n hx hb dX10_mirror_62 rfl (lv_at hl 0 rfl) ?_
          refine g_10_53 C hP dX10_mirror_63 ?_
          refine lv_iload_n hx hb dX10_mirror_66 rfl (lv_at hl 1 rfl) ?_
          obtain ⟨h10, hf⟩ := pg_ok hf
          refine la_m_isNew C hP h10 dX10_mirror_67 ?_
          refine lv_if_eq (tgt := 75) hx hb dX10_mirror_68 (by decide) (fun h11 => ?_) (fun h11 => ?_)
          · have hf := pif_t hf h11
            refine lv_iconst (v := 0) hx hb dX10_mirror_75 (by decide) ?_
            exact p_iret C hr hlk (pe1 hf) (pe2M hf) hP hS dX10_mirror_76
          · have hf := pif_f hf h11
            refine lv_iconst (v := 1) hx hb dX10_mirror_71 (by decide) ?_
            refine lv_goto (tgt := 76) hx hb dX10_mirror_72 (by decide) ?_
            exact p_iret C hr hlk (pe1 hf) (pe2M hf) hP hS dX10_mirror_76
        · have hf := pif_f hf h9
          by_cases h12 : a1 = 3
          · have hf := pif_t hf h12
            refine lv_tableIn (tgt := 77) (off := 65) hx hb dX10_mirror_12 (by rw [h12]; decide) (by rw [h12]; decide) (by rw [h12]; decide) (by decide) ?_
            refine lv_aload_n hx hb dX10_mirror_77 rfl (lv_at hl 0 rfl) ?_
            refine g_10_56 C hP dX10_mirror_78 ?_
            refine lv_iload_n hx hb dX10_mirror_81 rfl (lv_at hl 1 rfl) ?_
            obtain ⟨h13, hf⟩ := pg_ok hf
            refine la_m_maker C hP h13 dX10_mirror_82 ?_
            exact p_iret C hr hlk (pe1 hf) (pe2M hf) hP hS dX10_mirror_83
          · have hf := pif_f hf h12
            by_cases h14 : a1 = 4
            · have hf := pif_t hf h14
              refine lv_tableIn (tgt := 84) (off := 72) hx hb dX10_mirror_12 (by rw [h14]; decide) (by rw [h14]; decide) (by rw [h14]; decide) (by decide) ?_
              refine lv_aload_n hx hb dX10_mirror_84 rfl (lv_at hl 0 rfl) ?_
              refine g_10_59 C hP dX10_mirror_85 ?_
              refine lv_iload_n hx hb dX10_mirror_88 rfl (lv_at hl 1 rfl) ?_
              obtain ⟨h15, hf⟩ := pg_ok hf
              refine la_m_madeIn C hP h15 dX10_mirror_89 ?_
              exact p_iret C hr hlk (pe1 hf) (pe2M hf) hP hS dX10_mirror_90
            · have hf := pif_f hf h14
              refine lv_tableOut (tgt := 91) hx hb dX10_mirror_12 (by have z0 := lv_neT (a := 0) h5 rfl; have z1 := lv_neT (a := 1) h7 rfl; have z2 := lv_neT (a := 2) h9 rfl; have z3 := lv_neT (a := 3) h12 rfl; have z4 := lv_neT (a := 4) h14 rfl; omega) (by decide) ?_
              refine lv_bipush (v := (-102)) hx hb dX10_mirror_91 (by decide) ?_
              exact p_iret C hr hlk (pe1 hf) (pe2M hf) hP hS dX10_mirror_93
  · have hf := pif_t hf h4
    refine lv_bipush (v := (-101)) hx hb dX10_mirror_8 (by decide) ?_
    exact p_iret C hr hlk (pe1 hf) (pe2M hf) hP hS dX10_mirror_10
set_option maxHeartbeats 4000000 in
set_option maxRecDepth 100000 in
theorem c_X10_turn (l : Launch) {E : pE} (hE : pInj E) {α : pSt} {a0 : Int32} {a1 : Int32} {a2 : Int32} {β β' : pSt} {r : Unit} (hf : f_X10_turn a0 a1 a2 β = some (r, β')) : pM l E yX10_turn cX10_turn 6 none 3 [.ref (pL E 57), .int a0, .int a1, .int a2] α β none α β' := by
  refine pM.ofW hE (by decide) ?_ (Nat.le_of_ble_eq_true rfl)
  intro p e s m below meth c ls C hr hlk hP hl
  have C : pCx p s m c cX10_turn 6 E RX10 := C
  have hS : va_S (pA E s.heap.size) s.heap s.heap [] := va_S.rf
  have hx := C.1
  have hb := C.2.1
  have hl : lv_has ls 6 [(0, .ref (pL E 57)), (1, .int a0), (2, .int a1), (3, .int a2)] := hl
  unfold f_X10_turn at hf
  refine lv_iconst (v := 0) hx hb dX10_turn_0 (by decide) ?_
  refine lv_istore (lv' := [(4, .int 0), (0, .ref (pL E 57)), (1, .int a0), (2, .int a1), (3, .int a2)]) hx hb dX10_turn_1 hl (by decide) rfl (fun ls hl => ?_)
  have lp3 : ∀ (n : Nat) (x4 : Int32) (β : pSt) (H : Heap) (locs : List Loc) (ls : Array Slot), f_X10_turn_L3 a0 a1 a2 n x4 β = some (r, β') → va_P (pD E) vwCl (pw E α β) H → va_S (pA E s.heap.size) s.heap H locs → lv_has ls 6 [(4, .int x4), (0, .ref (pL E 57)), (1, .int a0), (2, .int a1), (3, .int a2)] → W p l e (pR 3) s m [.ref (pL E 57), .int a0, .int a1, .int a2].toArray below meth c H locs 0 0 (pQ below E s [.ref (pL E 57), .int a0, .int a1, .int a2].toArray none α β') (F0 m 3 ls []) := by
    intro n
    induction n with
    | zero =>
      intro x4 β H locs ls hf
      rw [f_X10_turn_L3] at hf
      cases hf
    | succ n3 ih3 =>
      intro x4 β H locs ls hf hP hS hl
      rw [f_X10_turn_L3] at hf
      refine lv_iload hx hb dX10_turn_3 (lv_at hl 0 rfl) ?_
      refine lv_bipush (v := 8) hx hb dX10_turn_5 (by decide) ?_
      refine lv_icmp_ge (tgt := 24) hx hb dX10_turn_7 (by decide) (fun h1 => ?_) (fun h1 => ?_)
      · have hf := pif_t hf h1
        refine lv_iconst (v := 0) hx hb dX10_turn_24 (by decide) ?_
        refine lv_istore (lv' := [(4, .int 0), (0, .ref (pL E 57)), (1, .int a0), (2, .int a1), (3, .int a2)]) hx hb dX10_turn_25 hl (by decide) rfl (fun ls hl => ?_)
        have lp27 : ∀ (n : Nat) (x4 : Int32) (β : pSt) (H : Heap) (locs : List Loc) (ls : Array Slot), f_X10_turn_L27 a0 a1 a2 n x4 β = some (r, β') → va_P (pD E) vwCl (pw E α β) H → va_S (pA E s.heap.size) s.heap H locs → lv_has ls 6 [(4, .int x4), (0, .ref (pL E 57)), (1, .int a0), (2, .int a1), (3, .int a2)] → W p l e (pR 3) s m [.ref (pL E 57), .int a0, .int a1, .int a2].toArray below meth c H locs 0 0 (pQ below E s [.ref (pL E 57), .int a0, .int a1, .int a2].toArray none α β') (F0 m 27 ls []) := by
          intro n
          induction n with
          | zero =>
            intro x4 β H locs ls hf
            rw [f_X10_turn_L27] at hf
            cases hf
          | succ n27 ih27 =>
            intro x4 β H locs ls hf hP hS hl
            rw [f_X10_turn_L27] at hf
            refine lv_iload hx hb dX10_turn_27 (lv_at hl 0 rfl) ?_
            refine lv_aload_n hx hb dX10_turn_29 rfl (lv_at hl 1 rfl) ?_
            refine g_10_113 C hP dX10_turn_30 ?_
            refine lv_icmp_ge (tgt := 96) hx hb dX10_turn_33 (by decide) (fun h2 => ?_) (fun h2 => ?_)
            · have hf := pif_t hf h2
              exact p_vret C hr hlk (pe2M hf) hP hS dX10_turn_96
            · have hf := pif_f hf h2
              refine lv_iload_n hx hb dX10_turn_36 rfl (lv_at hl 2 rfl) ?_
              refine lv_istore (lv' := [(5, .int a0), (4, .int x4), (0, .ref (pL E 57)), (1, .int a0), (2, .int a1), (3, .int a2)]) hx hb dX10_turn_37 hl (by decide) rfl (fun ls hl => ?_)
              have lp39 : ∀ (n : Nat) (x5 : Int32) (β : pSt) (H : Heap) (locs : List Loc) (ls : Array Slot), f_X10_turn_L39 x4 a0 a1 a2 (fun β => f_X10_turn_L27 a0 a1 a2 n27 ((x4 + 1)) β) n x5 β = some (r, β') → va_P (pD E) vwCl (pw E α β) H → va_S (pA E s.heap.size) s.heap H locs → lv_has ls 6 [(5, .int x5), (4, .int x4), (0, .ref (pL E 57)), (1, .int a0), (2, .int a1), (3, .int a2)] → W p l e (pR 3) s m [.ref (pL E 57), .int a0, .int a1, .int a2].toArray below meth c H locs 0 0 (pQ below E s [.ref (pL E 57), .int a0, .int a1, .int a2].toArray none α β') (F0 m 39 ls []) := by
                intro n
                induction n with
                | zero =>
                  intro x5 β H locs ls hf
                  rw [f_X10_turn_L39] at hf
                  cases hf
                | succ n39 ih39 =>
                  intro x5 β H locs ls hf hP hS hl
                  rw [f_X10_turn_L39] at hf
                  refine lv_iload hx hb dX10_turn_39 (lv_at hl 0 rfl) ?_
                  refine lv_iload_n hx hb dX10_turn_41 rfl (lv_at hl 4 rfl) ?_
                  refine lv_icmp_ge (tgt := 90) hx hb dX10_turn_42 (by decide) (fun h3 => ?_) (fun h3 => ?_)
                  · have hf := pif_t hf h3
                    try dsimp only at hf
                    refine lv_iinc (v := (x4 + 1)) (lv' := [(4, .int (x4 + 1)), (5, .int x5), (0, .ref (pL E 57)), (1, .int a0), (2, .int a1), (3, .int a2)]) hx hb dX10_turn_90 hl (k := 1) rfl rfl (by decide) rfl (fun ls hl => ?_)
                    refine lv_goto (tgt := 27) hx hb dX10_turn_93 (by decide) ?_
                    exact ih27 _ β _ _ _ hf hP hS (lv_sub hl [0, 2, 3, 4, 5] rfl)
                  · have hf := pif_f hf h3
                    refine lv_aload_n hx hb dX10_turn_45 rfl (lv_at hl 2 rfl) ?_
                    refine g_10_143 C hP dX10_turn_46 ?_
                    refine lv_if_ne (tgt := 90) hx hb dX10_turn_49 (by decide) (fun h4 => ?_) (fun h4 => ?_)
                    · have hf := pif_f hf h4
                      try dsimp only at hf
                      refine lv_iinc (v := (x4 + 1)) (lv' := [(4, .int (x4 + 1)), (5, .int x5), (0, .ref (pL E 57)), (1, .int a0), (2, .int a1), (3, .int a2)]) hx hb dX10_turn_90 hl (k := 1) rfl rfl (by decide) rfl (fun ls hl => ?_)
                      refine lv_goto (tgt := 27) hx hb dX10_turn_93 (by decide) ?_
                      exact ih27 _ β _ _ _ hf hP hS (lv_sub hl [0, 2, 3, 4, 5] rfl)
                    · have hf := pif_t hf h4
                      refine lv_aload_n hx hb dX10_turn_52 rfl (lv_at hl 2 rfl) ?_
                      refine g_10_41 C hP dX10_turn_53 ?_
                      refine lv_iload hx hb dX10_turn_56 (lv_at hl 1 rfl) ?_
                      obtain ⟨h5, hf⟩ := pg_ok hf
                      refine la_m_stopped C hP h5 dX10_turn_58 ?_
                      refine lv_if_ne (tgt := 90) hx hb dX10_turn_59 (by decide) (fun h6 => ?_) (fun h6 => ?_)
                      · have hf := pif_f hf h6
                        try dsimp only at hf
                        refine lv_iinc (v := (x4 + 1)) (lv' := [(4, .int (x4 + 1)), (5, .int x5), (0, .ref (pL E 57)), (1, .int a0), (2, .int a1), (3, .int a2)]) hx hb dX10_turn_90 hl (k := 1) rfl rfl (by decide) rfl (fun ls hl => ?_)
                        refine lv_goto (tgt := 27) hx hb dX10_turn_93 (by decide) ?_
                        exact ih27 _ β _ _ _ hf hP hS (lv_sub hl [0, 2, 3, 4, 5] rfl)
                      · have hf := pif_t hf h6
                        refine lv_iload_n hx hb dX10_turn_62 rfl (lv_at hl 5 rfl) ?_
                        refine lv_if_eq (tgt := 76) hx hb dX10_turn_63 (by decide) (fun h7 => ?_) (fun h7 => ?_)
                        · have hf := pif_t hf h7
                          refine lv_aload_n hx hb dX10_turn_76 rfl (lv_at hl 2 rfl) ?_
                          refine lv_iload hx hb dX10_turn_77 (lv_at hl 1 rfl) ?_
                          refine lv_iload hx hb dX10_turn_79 (lv_at hl 0 rfl) ?_
                          obtain ⟨r8, β9, hc10, hf⟩ := pb2_ok hf
                          refine p_callV (n := 2) (As := [.int x4, .int x5]) (rest := []) C hP hS (wv_10_163 C.2.2.2.2.1 _) (c_X10_meet l C.2.2.2.2.2.2  hc10) (e_X10) rfl rfl hd_X10_meet rfl ⟨Nat.le_of_ble_eq_true rfl, Nat.le_of_ble_eq_true rfl⟩ hl.1 rfl (Nat.le_of_ble_eq_true rfl) dX10_turn_81 ⟨Nat.zero_le _, Nat.zero_le _⟩ (fun H locs hP hS _ _ => ?_)
                          refine W.eq (g2 := F0 m 84 ls []) rfl ?_
                          refine lv_iinc (v := (x5 + 1)) (lv' := [(5, .int (x5 + 1)), (4, .int x4), (0, .ref (pL E 57)), (1, .int a0), (2, .int a1), (3, .int a2)]) hx hb dX10_turn_84 hl (k := 0) rfl rfl (by decide) rfl (fun ls hl => ?_)
                          refine lv_goto (tgt := 39) hx hb dX10_turn_87 (by decide) ?_
                          exact ih39 _ β9 _ _ _ hf hP hS (lv_sub hl [0, 1, 2, 3, 4, 5] rfl)
                        · have hf := pif_f hf h7
                          refine lv_aload_n hx hb dX10_turn_66 rfl (lv_at hl 2 rfl) ?_
                          refine g_10_53 C hP dX10_turn_67 ?_
                          refine lv_iload hx hb dX10_turn_70 (lv_at hl 0 rfl) ?_
                          obtain ⟨h11, hf⟩ := pg_ok hf
                          refine la_m_isNew C hP h11 dX10_turn_72 ?_
                          refine lv_if_eq (tgt := 84) hx hb dX10_turn_73 (by decide) (fun h12 => ?_) (fun h12 => ?_)
                          · have hf := pif_t hf h12
                            refine lv_iinc (v := (x5 + 1)) (lv' := [(5, .int (x5 + 1)), (4, .int x4), (0, .ref (pL E 57)), (1, .int a0), (2, .int a1), (3, .int a2)]) hx hb dX10_turn_84 hl (k := 0) rfl rfl (by decide) rfl (fun ls hl => ?_)
                            refine lv_goto (tgt := 39) hx hb dX10_turn_87 (by decide) ?_
                            exact ih39 _ β _ _ _ hf hP hS (lv_sub hl [0, 1, 2, 3, 4, 5] rfl)
                          · have hf := pif_f hf h12
                            refine lv_aload_n hx hb dX10_turn_76 rfl (lv_at hl 2 rfl) ?_
                            refine lv_iload hx hb dX10_turn_77 (lv_at hl 1 rfl) ?_
                            refine lv_iload hx hb dX10_turn_79 (lv_at hl 0 rfl) ?_
                            obtain ⟨r13, β14, hc15, hf⟩ := pb2_ok hf
                            refine p_callV (n := 2) (As := [.int x4, .int x5]) (rest := []) C hP hS (wv_10_163 C.2.2.2.2.1 _) (c_X10_meet l C.2.2.2.2.2.2  hc15) (e_X10) rfl rfl hd_X10_meet rfl ⟨Nat.le_of_ble_eq_true rfl, Nat.le_of_ble_eq_true rfl⟩ hl.1 rfl (Nat.le_of_ble_eq_true rfl) dX10_turn_81 ⟨Nat.zero_le _, Nat.zero_le _⟩ (fun H locs hP hS _ _ => ?_)
                            refine W.eq (g2 := F0 m 84 ls []) rfl ?_
                            refine lv_iinc (v := (x5 + 1)) (lv' := [(5, .int (x5 + 1)), (4, .int x4), (0, .ref (pL E 57)), (1, .int a0), (2, .int a1), (3, .int a2)]) hx hb dX10_turn_84 hl (k := 0) rfl rfl (by decide) rfl (fun ls hl => ?_)
                            refine lv_goto (tgt := 39) hx hb dX10_turn_87 (by decide) ?_
                            exact ih39 _ β14 _ _ _ hf hP hS (lv_sub hl [0, 1, 2, 3, 4, 5] rfl)
              exact lp39 _ _ _ _ _ _ hf hP hS (lv_sub hl [0, 1, 2, 3, 4, 5] rfl)
        exact lp27 _ _ _ _ _ _ hf hP hS (lv_sub hl [0, 1, 2, 3, 4] rfl)
      · have hf := pif_f hf h1
        refine lv_aload_n hx hb dX10_turn_10 rfl (lv_at hl 1 rfl) ?_
        refine g_10_77 C hP dX10_turn_11 ?_
        refine lv_iload hx hb dX10_turn_14 (lv_at hl 0 rfl) ?_
        refine lv_iconst (v := (-1)) hx hb dX10_turn_16 (by decide) ?_
        obtain ⟨h16, hf⟩ := pg_ok hf
        refine sa_m_claimer C hP hS h16 dX10_turn_17 (fun H locs hP hS => ?_)
        obtain ⟨β17, eβ17, hf⟩ := pl_ok hf
        rw [← eβ17] at hP
        clear eβ17
        refine lv_iinc (v := (x4 + 1)) (lv' := [(4, .int (x4 + 1)), (0, .ref (pL E 57)), (1, .int a0), (2, .int a1), (3, .int a2)]) hx hb dX10_turn_18 hl (k := 0) rfl rfl (by decide) rfl (fun ls hl => ?_)
        refine lv_goto (tgt := 3) hx hb dX10_turn_21 (by decide) ?_
        exact ih3 _ β17 _ _ _ hf hP hS (lv_sub hl [0, 1, 2, 3, 4] rfl)
  exact lp3 _ _ _ _ _ _ hf hP hS (lv_sub hl [0, 1, 2, 3, 4] rfl)
set_option maxHeartbeats 4000000 in
set_option maxRecDepth 100000 in
theorem c_X10_run (l : Launch) {E : pE} (hE : pInj E) {α : pSt} {a0 : Int32} {β β' : pSt} {r : Int32} (hf : f_X10_run a0 β = some (r, β')) : pM l E yX10_run cX10_run 8 (some .int) 4 [.ref (pL E 57), .int a0] α β (some (.int r)) α β' := by
  refine pM.ofW hE (by decide) ?_ (Nat.le_of_ble_eq_true rfl)
  intro p e s m below meth c ls C hr hlk hP hl
  have C : pCx p s m c cX10_run 8 E RX10 := C
  have hS : va_S (pA E s.heap.size) s.heap s.heap [] := va_S.rf
  have hx := C.1
  have hb := C.2.1
  have hl : lv_has ls 8 [(0, .ref (pL E 57)), (1, .int a0)] := hl
  unfold f_X10_run at hf
  refine lv_iload_n hx hb dX10_run_0 rfl (lv_at hl 1 rfl) ?_
  refine lv_i2l hx hb dX10_run_1 rfl ?_
  refine lv_lconst (v := 0) hx hb dX10_run_2 (by decide) ?_
  refine lv_ldc2 (v := 100000) hx hb C.2.2.2.1 (C.2.2.2.2.1.1 _ (List.mem_of_getElem? (i := 1014) rfl) rfl _) dX10_run_3 ?_
  obtain ⟨r1, β2, hc3, hf⟩ := pb2_ok hf
  refine p_callS (n := 3) (As := [.long (a0.toInt64), .long 0, .long 100000]) (rest := []) C hP hS (wv_10_89 C.2.2.2.2.1 _) (c_X10_in l C.2.2.2.2.2.2  hc3) hd_X10_in rfl ⟨Nat.le_of_ble_eq_true rfl, Nat.le_of_ble_eq_true rfl⟩ hl.1 rfl (Nat.le_of_ble_eq_true rfl) dX10_run_6 ⟨Nat.zero_le _, Nat.zero_le _⟩ (fun H locs hP hS _ _ => ?_)
  refine W.eq (g2 := F0 m 9 ls [.int r1]) rfl ?_
  refine lv_if_ne (tgt := 15) hx hb dX10_run_9 (by decide) (fun h4 => ?_) (fun h4 => ?_)
  · have hf := pif_f hf h4
    refine lv_aload_n hx hb dX10_run_15 rfl (lv_at hl 0 rfl) ?_
    refine g_10_80 C hP dX10_run_16 ?_
    refine lv_istore_n (lv' := [(2, .int (β2 15 0)), (0, .ref (pL E 57)), (1, .int a0)]) hx hb dX10_run_19 rfl hl (by decide) rfl (fun ls hl => ?_)
    refine lv_iconst (v := 0) hx hb dX10_run_20 (by decide) ?_
    refine lv_istore_n (lv' := [(3, .int 0), (2, .int (β2 15 0)), (0, .ref (pL E 57)), (1, .int a0)]) hx hb dX10_run_21 rfl hl (by decide) rfl (fun ls hl => ?_)
    refine lv_iconst (v := 0) hx hb dX10_run_22 (by decide) ?_
    refine lv_istore (lv' := [(4, .int 0), (3, .int 0), (2, .int (β2 15 0)), (0, .ref (pL E 57)), (1, .int a0)]) hx hb dX10_run_23 hl (by decide) rfl (fun ls hl => ?_)
    generalize (β2 15 0) = y2_25 at hf hl
    have lp25 : ∀ (n : Nat) (x4 : Int32) (x3 : Int32) (β : pSt) (H : Heap) (locs : List Loc) (ls : Array Slot), f_X10_run_L25 y2_25 a0 n x4 x3 β = some (r, β') → va_P (pD E) vwCl (pw E α β) H → va_S (pA E s.heap.size) s.heap H locs → lv_has ls 8 [(4, .int x4), (3, .int x3), (2, .int y2_25), (0, .ref (pL E 57)), (1, .int a0)] → W p l e (pR 4) s m [.ref (pL E 57), .int a0].toArray below meth c H locs 0 0 (pQ below E s [.ref (pL E 57), .int a0].toArray (some (.int r)) α β') (F0 m 25 ls []) := by
      intro n
      induction n with
      | zero =>
        intro x4 x3 β H locs ls hf
        rw [f_X10_run_L25] at hf
        cases hf
      | succ n25 ih25 =>
        intro x4 x3 β H locs ls hf hP hS hl
        rw [f_X10_run_L25] at hf
        refine lv_iload hx hb dX10_run_25 (lv_at hl 0 rfl) ?_
        refine lv_aload_n hx hb dX10_run_27 rfl (lv_at hl 3 rfl) ?_
        refine g_10_80 C hP dX10_run_28 ?_
        refine lv_icmp_ge (tgt := 58) hx hb dX10_run_31 (by decide) (fun h5 => ?_) (fun h5 => ?_)
        · have hf := pif_t hf h5
          refine lv_iconst (v := 0) hx hb dX10_run_58 (by decide) ?_
          refine lv_istore (lv' := [(4, .int 0), (3, .int x3), (2, .int y2_25), (0, .ref (pL E 57)), (1, .int a0)]) hx hb dX10_run_59 hl (by decide) rfl (fun ls hl => ?_)
          generalize x3 = y3_61 at hf hl
          generalize y2_25 = y2_61 at hf hl
          have lp61 : ∀ (n : Nat) (x4 : Int32) (β : pSt) (H : Heap) (locs : List Loc) (ls : Array Slot), f_X10_run_L61 y3_61 y2_61 a0 n x4 β = some (r, β') → va_P (pD E) vwCl (pw E α β) H → va_S (pA E s.heap.size) s.heap H locs → lv_has ls 8 [(4, .int x4), (3, .int y3_61), (2, .int y2_61), (0, .ref (pL E 57)), (1, .int a0)] → W p l e (pR 4) s m [.ref (pL E 57), .int a0].toArray below meth c H locs 0 0 (pQ below E s [.ref (pL E 57), .int a0].toArray (some (.int r)) α β') (F0 m 61 ls []) := by
            intro n
            induction n with
            | zero =>
              intro x4 β H locs ls hf
              rw [f_X10_run_L61] at hf
              cases hf
            | succ n61 ih61 =>
              intro x4 β H locs ls hf hP hS hl
              rw [f_X10_run_L61] at hf
              refine lv_iload hx hb dX10_run_61 (lv_at hl 0 rfl) ?_
              refine lv_bipush (v := 6) hx hb dX10_run_63 (by decide) ?_
              refine lv_icmp_ge (tgt := 104) hx hb dX10_run_65 (by decide) (fun h6 => ?_) (fun h6 => ?_)
              · have hf := pif_t hf h6
                refine lv_iconst (v := 0) hx hb dX10_run_104 (by decide) ?_
                refine lv_istore (lv' := [(4, .int 0), (3, .int y3_61), (2, .int y2_61), (0, .ref (pL E 57)), (1, .int a0)]) hx hb dX10_run_105 hl (by decide) rfl (fun ls hl => ?_)
                generalize y3_61 = y3_107 at hf hl
                generalize y2_61 = y2_107 at hf hl
                have lp107 : ∀ (n : Nat) (x4 : Int32) (β : pSt) (H : Heap) (locs : List Loc) (ls : Array Slot), f_X10_run_L107 y3_107 y2_107 a0 n x4 β = some (r, β') → va_P (pD E) vwCl (pw E α β) H → va_S (pA E s.heap.size) s.heap H locs → lv_has ls 8 [(4, .int x4), (3, .int y3_107), (2, .int y2_107), (0, .ref (pL E 57)), (1, .int a0)] → W p l e (pR 4) s m [.ref (pL E 57), .int a0].toArray below meth c H locs 0 0 (pQ below E s [.ref (pL E 57), .int a0].toArray (some (.int r)) α β') (F0 m 107 ls []) := by
                  intro n
                  induction n with
                  | zero =>
                    intro x4 β H locs ls hf
                    rw [f_X10_run_L107] at hf
                    cases hf
                  | succ n107 ih107 =>
                    intro x4 β H locs ls hf hP hS hl
                    rw [f_X10_run_L107] at hf
                    refine lv_iload hx hb dX10_run_107 (lv_at hl 0 rfl) ?_
                    refine lv_iconst (v := 4) hx hb dX10_run_109 (by decide) ?_
                    refine lv_icmp_ge (tgt := 133) hx hb dX10_run_110 (by decide) (fun h7 => ?_) (fun h7 => ?_)
                    · have hf := pif_t hf h7
                      refine lv_aload_n hx hb dX10_run_133 rfl (lv_at hl 3 rfl) ?_
                      refine lv_iconst (v := 0) hx hb dX10_run_134 (by decide) ?_
                      refine s_10_146 C hP hS dX10_run_135 (fun H locs hP hS => ?_)
                      obtain ⟨β8, eβ8, hf⟩ := pl_ok hf
                      rw [← eβ8] at hP
                      clear eβ8
                      refine lv_aload_n hx hb dX10_run_138 rfl (lv_at hl 3 rfl) ?_
                      refine lv_iload_n hx hb dX10_run_139 rfl (lv_at hl 4 rfl) ?_
                      refine s_10_140 C hP hS dX10_run_140 (fun H locs hP hS => ?_)
                      obtain ⟨β9, eβ9, hf⟩ := pl_ok hf
                      rw [← eβ9] at hP
                      clear eβ9
                      refine lv_aload_n hx hb dX10_run_143 rfl (lv_at hl 3 rfl) ?_
                      refine lv_iconst (v := 0) hx hb dX10_run_144 (by decide) ?_
                      refine s_10_168 C hP hS dX10_run_145 (fun H locs hP hS => ?_)
                      obtain ⟨β10, eβ10, hf⟩ := pl_ok hf
                      rw [← eβ10] at hP
                      clear eβ10
                      refine lv_aload_n hx hb dX10_run_148 rfl (lv_at hl 3 rfl) ?_
                      refine lv_iconst (v := 0) hx hb dX10_run_149 (by decide) ?_
                      refine s_10_137 C hP hS dX10_run_150 (fun H locs hP hS => ?_)
                      obtain ⟨β11, eβ11, hf⟩ := pl_ok hf
                      rw [← eβ11] at hP
                      clear eβ11
                      refine lv_aload_n hx hb dX10_run_153 rfl (lv_at hl 3 rfl) ?_
                      refine lv_iconst (v := 0) hx hb dX10_run_154 (by decide) ?_
                      refine s_10_171 C hP hS dX10_run_155 (fun H locs hP hS => ?_)
                      obtain ⟨β12, eβ12, hf⟩ := pl_ok hf
                      rw [← eβ12] at hP
                      clear eβ12
                      refine lv_aload_n hx hb dX10_run_158 rfl (lv_at hl 3 rfl) ?_
                      refine lv_iconst (v := 0) hx hb dX10_run_159 (by decide) ?_
                      refine s_10_143 C hP hS dX10_run_160 (fun H locs hP hS => ?_)
                      obtain ⟨β13, eβ13, hf⟩ := pl_ok hf
                      rw [← eβ13] at hP
                      clear eβ13
                      refine lv_aload_n hx hb dX10_run_163 rfl (lv_at hl 3 rfl) ?_
                      refine lv_iconst (v := 0) hx hb dX10_run_164 (by decide) ?_
                      refine s_10_149 C hP hS (Or.inl rfl) dX10_run_165 (fun H locs hP hS => ?_)
                      obtain ⟨β14, eβ14, hf⟩ := pl_ok hf
                      rw [← eβ14] at hP
                      clear eβ14
                      refine lv_iconst (v := 0) hx hb dX10_run_168 (by decide) ?_
                      refine lv_istore (lv' := [(4, .int 0), (3, .int y3_107), (2, .int y2_107), (0, .ref (pL E 57)), (1, .int a0)]) hx hb dX10_run_169 hl (by decide) rfl (fun ls hl => ?_)
                      refine lv_iconst (v := 1) hx hb dX10_run_171 (by decide) ?_
                      refine lv_istore (lv' := [(5, .int 1), (4, .int 0), (3, .int y3_107), (2, .int y2_107), (0, .ref (pL E 57)), (1, .int a0)]) hx hb dX10_run_172 hl (by decide) rfl (fun ls hl => ?_)
                      generalize y2_107 = y2_174 at hf hl
                      have lp174 : ∀ (n : Nat) (x5 : Int32) (x4 : Int32) (x3 : Int32) (β : pSt) (H : Heap) (locs : List Loc) (ls : Array Slot), f_X10_run_L174 y2_174 n x5 x4 x3 β = some (r, β') → va_P (pD E) vwCl (pw E α β) H → va_S (pA E s.heap.size) s.heap H locs → lv_has ls 8 [(5, .int x5), (4, .int x4), (3, .int x3), (2, .int y2_174), (0, .ref (pL E 57))] → W p l e (pR 4) s m [.ref (pL E 57), .int a0].toArray below meth c H locs 0 0 (pQ below E s [.ref (pL E 57), .int a0].toArray (some (.int r)) α β') (F0 m 174 ls []) := by
                        intro n
                        induction n with
                        | zero =>
                          intro x5 x4 x3 β H locs ls hf
                          rw [f_X10_run_L174] at hf
                          cases hf
                        | succ n174 ih174 =>
                          intro x5 x4 x3 β H locs ls hf hP hS hl
                          rw [f_X10_run_L174] at hf
                          refine lv_iload_n hx hb dX10_run_174 rfl (lv_at hl 2 rfl) ?_
                          refine lv_if_le (tgt := 237) hx hb dX10_run_175 (by decide) (fun h15 => ?_) (fun h15 => ?_)
                          · have hf := pif_t hf h15
                            refine lv_aload_n hx hb dX10_run_237 rfl (lv_at hl 4 rfl) ?_
                            refine g_10_80 C hP dX10_run_238 ?_
                            refine lv_istore (lv' := [(6, .int (β 15 0)), (5, .int x5), (4, .int x4), (3, .int x3), (2, .int y2_174), (0, .ref (pL E 57))]) hx hb dX10_run_241 hl (by decide) rfl (fun ls hl => ?_)
                            refine lv_aload_n hx hb dX10_run_243 rfl (lv_at hl 5 rfl) ?_
                            refine g_10_168 C hP dX10_run_244 ?_
                            refine lv_if_le (tgt := 297) hx hb dX10_run_247 (by decide) (fun h16 => ?_) (fun h16 => ?_)
                            · have hf := pif_t hf h16
                              refine lv_aload_n hx hb dX10_run_297 rfl (lv_at hl 5 rfl) ?_
                              refine g_10_143 C hP dX10_run_298 ?_
                              refine lv_if_ne (tgt := 343) hx hb dX10_run_301 (by decide) (fun h17 => ?_) (fun h17 => ?_)
                              · have hf := pif_f hf h17
                                refine lv_aload_n hx hb dX10_run_343 rfl (lv_at hl 5 rfl) ?_
                                refine lv_iload_n hx hb dX10_run_344 rfl (lv_at hl 4 rfl) ?_
                                refine s_10_80 C hP hS dX10_run_345 (fun H locs hP hS => ?_)
                                obtain ⟨β18, eβ18, hf⟩ := pl_ok hf
                                rw [← eβ18] at hP
                                clear eβ18
                                refine lv_iconst (v := 0) hx hb dX10_run_348 (by decide) ?_
                                refine lv_istore (lv' := [(7, .int 0), (6, .int (β 15 0)), (5, .int x5), (4, .int x4), (3, .int x3), (2, .int y2_174), (0, .ref (pL E 57))]) hx hb dX10_run_349 hl (by decide) rfl (fun ls hl => ?_)
                                have lp351 : ∀ (n : Nat) (x7 : Int32) (β : pSt) (H : Heap) (locs : List Loc) (ls : Array Slot), f_X10_run_L351 n x7 β = some (r, β') → va_P (pD E) vwCl (pw E α β) H → va_S (pA E s.heap.size) s.heap H locs → lv_has ls 8 [(7, .int x7), (0, .ref (pL E 57))] → W p l e (pR 4) s m [.ref (pL E 57), .int a0].toArray below meth c H locs 0 0 (pQ below E s [.ref (pL E 57), .int a0].toArray (some (.int r)) α β') (F0 m 351 ls []) := by
                                  intro n
                                  induction n with
                                  | zero =>
                                    intro x7 β H locs ls hf
                                    rw [f_X10_run_L351] at hf
                                    cases hf
                                  | succ n351 ih351 =>
                                    intro x7 β H locs ls hf hP hS hl
                                    rw [f_X10_run_L351] at hf
                                    refine lv_iload hx hb dX10_run_351 (lv_at hl 0 rfl) ?_
                                    refine lv_bipush (v := 6) hx hb dX10_run_353 (by decide) ?_
                                    refine lv_icmp_ge (tgt := 378) hx hb dX10_run_355 (by decide) (fun h19 => ?_) (fun h19 => ?_)
                                    · have hf := pif_t hf h19
                                      refine lv_iconst (v := 0) hx hb dX10_run_378 (by decide) ?_
                                      refine lv_istore (lv' := [(7, .int 0), (0, .ref (pL E 57))]) hx hb dX10_run_379 hl (by decide) rfl (fun ls hl => ?_)
                                      have lp381 : ∀ (n : Nat) (x7 : Int32) (β : pSt) (H : Heap) (locs : List Loc) (ls : Array Slot), f_X10_run_L381 n x7 β = some (r, β') → va_P (pD E) vwCl (pw E α β) H → va_S (pA E s.heap.size) s.heap H locs → lv_has ls 8 [(7, .int x7), (0, .ref (pL E 57))] → W p l e (pR 4) s m [.ref (pL E 57), .int a0].toArray below meth c H locs 0 0 (pQ below E s [.ref (pL E 57), .int a0].toArray (some (.int r)) α β') (F0 m 381 ls []) := by
                                        intro n
                                        induction n with
                                        | zero =>
                                          intro x7 β H locs ls hf
                                          rw [f_X10_run_L381] at hf
                                          cases hf
                                        | succ n381 ih381 =>
                                          intro x7 β H locs ls hf hP hS hl
                                          rw [f_X10_run_L381] at hf
                                          refine lv_iload hx hb dX10_run_381 (lv_at hl 0 rfl) ?_
                                          refine lv_iconst (v := 4) hx hb dX10_run_383 (by decide) ?_
                                          refine lv_icmp_ge (tgt := 407) hx hb dX10_run_384 (by decide) (fun h20 => ?_) (fun h20 => ?_)
                                          · have hf := pif_t hf h20
                                            refine lv_aload_n hx hb dX10_run_407 rfl (lv_at hl 1 rfl) ?_
                                            refine g_10_143 C hP dX10_run_408 ?_
                                            refine lv_iconst (v := 1) hx hb dX10_run_411 (by decide) ?_
                                            refine lv_icmp_ne (tgt := 420) hx hb dX10_run_412 (by decide) (fun h21 => ?_) (fun h21 => ?_)
                                            · have hf := pif_f hf h21
                                              refine lv_bipush (v := (-12)) hx hb dX10_run_420 (by decide) ?_
                                              exact p_iret C hr hlk (pe1 hf) (pe2M hf) hP hS dX10_run_422
                                            · have hf := pif_t hf h21
                                              refine lv_bipush (v := (-11)) hx hb dX10_run_415 (by decide) ?_
                                              refine lv_goto (tgt := 422) hx hb dX10_run_417 (by decide) ?_
                                              exact p_iret C hr hlk (pe1 hf) (pe2M hf) hP hS dX10_run_422
                                          · have hf := pif_f hf h20
                                            refine lv_aload_n hx hb dX10_run_387 rfl (lv_at hl 1 rfl) ?_
                                            refine g_10_65 C hP dX10_run_388 ?_
                                            refine lv_iload hx hb dX10_run_391 (lv_at hl 0 rfl) ?_
                                            refine lv_aload_n hx hb dX10_run_393 rfl (lv_at hl 1 rfl) ?_
                                            refine g_10_68 C hP dX10_run_394 ?_
                                            refine lv_iload hx hb dX10_run_397 (lv_at hl 0 rfl) ?_
                                            obtain ⟨h22, hf⟩ := pg_ok hf
                                            refine la_m_writtenWas C hP h22 dX10_run_399 ?_
                                            obtain ⟨h23, hf⟩ := pg_ok hf
                                            refine sa_m_written C hP hS h23 dX10_run_400 (fun H locs hP hS => ?_)
                                            obtain ⟨β24, eβ24, hf⟩ := pl_ok hf
                                            rw [← eβ24] at hP
                                            clear eβ24
                                            refine lv_iinc (v := (x7 + 1)) (lv' := [(7, .int (x7 + 1)), (0, .ref (pL E 57))]) hx hb dX10_run_401 hl (k := 0) rfl rfl (by decide) rfl (fun ls hl => ?_)
                                            refine lv_goto (tgt := 381) hx hb dX10_run_404 (by decide) ?_
                                            exact ih381 _ β24 _ _ _ hf hP hS (lv_sub hl [0, 1] rfl)
                                      exact lp381 _ _ _ _ _ _ hf hP hS (lv_sub hl [0, 1] rfl)
                                    · have hf := pif_f hf h19
                                      refine lv_aload_n hx hb dX10_run_358 rfl (lv_at hl 1 rfl) ?_
                                      refine g_10_35 C hP dX10_run_359 ?_
                                      refine lv_iload hx hb dX10_run_362 (lv_at hl 0 rfl) ?_
                                      refine lv_aload_n hx hb dX10_run_364 rfl (lv_at hl 1 rfl) ?_
                                      refine g_10_38 C hP dX10_run_365 ?_
                                      refine lv_iload hx hb dX10_run_368 (lv_at hl 0 rfl) ?_
                                      obtain ⟨h25, hf⟩ := pg_ok hf
                                      refine la_m_cellWas C hP h25 dX10_run_370 ?_
                                      obtain ⟨h26, hf⟩ := pg_ok hf
                                      refine sa_m_cells C hP hS h26 dX10_run_371 (fun H locs hP hS => ?_)
                                      obtain ⟨β27, eβ27, hf⟩ := pl_ok hf
                                      rw [← eβ27] at hP
                                      clear eβ27
                                      refine lv_iinc (v := (x7 + 1)) (lv' := [(7, .int (x7 + 1)), (0, .ref (pL E 57))]) hx hb dX10_run_372 hl (k := 0) rfl rfl (by decide) rfl (fun ls hl => ?_)
                                      refine lv_goto (tgt := 351) hx hb dX10_run_375 (by decide) ?_
                                      exact ih351 _ β27 _ _ _ hf hP hS (lv_sub hl [0, 1] rfl)
                                exact lp351 _ _ _ _ _ _ hf hP hS (lv_sub hl [0, 6] rfl)
                              · have hf := pif_t hf h17
                                refine lv_aload_n hx hb dX10_run_304 rfl (lv_at hl 5 rfl) ?_
                                refine lv_aload_n hx hb dX10_run_305 rfl (lv_at hl 5 rfl) ?_
                                refine g_10_80 C hP dX10_run_306 ?_
                                refine lv_iload_n hx hb dX10_run_309 rfl (lv_at hl 4 rfl) ?_
                                refine lv_isub hx hb dX10_run_310 ?_
                                refine s_10_171 C hP hS dX10_run_311 (fun H locs hP hS => ?_)
                                obtain ⟨β28, eβ28, hf⟩ := pl_ok hf
                                rw [← eβ28] at hP
                                clear eβ28
                                refine lv_iconst (v := 0) hx hb dX10_run_314 (by decide) ?_
                                refine lv_istore (lv' := [(7, .int 0), (6, .int (β 15 0)), (5, .int x5), (4, .int x4), (3, .int x3), (2, .int y2_174), (0, .ref (pL E 57))]) hx hb dX10_run_315 hl (by decide) rfl (fun ls hl => ?_)
                                generalize (β 15 0) = y6_317 at hf hl
                                have lp317 : ∀ (n : Nat) (x7 : Int32) (β : pSt) (H : Heap) (locs : List Loc) (ls : Array Slot), f_X10_run_L317 y6_317 n x7 β = some (r, β') → va_P (pD E) vwCl (pw E α β) H → va_S (pA E s.heap.size) s.heap H locs → lv_has ls 8 [(7, .int x7), (6, .int y6_317), (0, .ref (pL E 57))] → W p l e (pR 4) s m [.ref (pL E 57), .int a0].toArray below meth c H locs 0 0 (pQ below E s [.ref (pL E 57), .int a0].toArray (some (.int r)) α β') (F0 m 317 ls []) := by
                                  intro n
                                  induction n with
                                  | zero =>
                                    intro x7 β H locs ls hf
                                    rw [f_X10_run_L317] at hf
                                    cases hf
                                  | succ n317 ih317 =>
                                    intro x7 β H locs ls hf hP hS hl
                                    rw [f_X10_run_L317] at hf
                                    refine lv_iload hx hb dX10_run_317 (lv_at hl 0 rfl) ?_
                                    refine lv_iload hx hb dX10_run_319 (lv_at hl 1 rfl) ?_
                                    refine lv_icmp_ge (tgt := 338) hx hb dX10_run_321 (by decide) (fun h29 => ?_) (fun h29 => ?_)
                                    · have hf := pif_t hf h29
                                      refine lv_aload_n hx hb dX10_run_338 rfl (lv_at hl 2 rfl) ?_
                                      refine g_10_168 C hP dX10_run_339 ?_
                                      exact p_iret C hr hlk (pe1 hf) (pe2M hf) hP hS dX10_run_342
                                    · have hf := pif_f hf h29
                                      refine lv_aload_n hx hb dX10_run_324 rfl (lv_at hl 2 rfl) ?_
                                      refine g_10_53 C hP dX10_run_325 ?_
                                      refine lv_iload hx hb dX10_run_328 (lv_at hl 0 rfl) ?_
                                      refine lv_iconst (v := 0) hx hb dX10_run_330 (by decide) ?_
                                      obtain ⟨h30, hf⟩ := pg_ok hf
                                      refine sa_m_isNew C hP hS (Or.inl rfl) h30 dX10_run_331 (fun H locs hP hS => ?_)
                                      obtain ⟨β31, eβ31, hf⟩ := pl_ok hf
                                      rw [← eβ31] at hP
                                      clear eβ31
                                      refine lv_iinc (v := (x7 + 1)) (lv' := [(7, .int (x7 + 1)), (6, .int y6_317), (0, .ref (pL E 57))]) hx hb dX10_run_332 hl (k := 0) rfl rfl (by decide) rfl (fun ls hl => ?_)
                                      refine lv_goto (tgt := 317) hx hb dX10_run_335 (by decide) ?_
                                      exact ih317 _ β31 _ _ _ hf hP hS (lv_sub hl [0, 1, 2] rfl)
                                exact lp317 _ _ _ _ _ _ hf hP hS (lv_sub hl [0, 1, 6] rfl)
                            · have hf := pif_f hf h16
                              refine lv_aload_n hx hb dX10_run_250 rfl (lv_at hl 5 rfl) ?_
                              refine g_10_143 C hP dX10_run_251 ?_
                              refine lv_if_ne (tgt := 297) hx hb dX10_run_254 (by decide) (fun h32 => ?_) (fun h32 => ?_)
                              · have hf := pif_f hf h32
                                refine lv_aload_n hx hb dX10_run_297 rfl (lv_at hl 5 rfl) ?_
                                refine g_10_143 C hP dX10_run_298 ?_
                                refine lv_if_ne (tgt := 343) hx hb dX10_run_301 (by decide) (fun h33 => ?_) (fun h33 => ?_)
                                · have hf := pif_f hf h33
                                  refine lv_aload_n hx hb dX10_run_343 rfl (lv_at hl 5 rfl) ?_
                                  refine lv_iload_n hx hb dX10_run_344 rfl (lv_at hl 4 rfl) ?_
                                  refine s_10_80 C hP hS dX10_run_345 (fun H locs hP hS => ?_)
                                  obtain ⟨β34, eβ34, hf⟩ := pl_ok hf
                                  rw [← eβ34] at hP
                                  clear eβ34
                                  refine lv_iconst (v := 0) hx hb dX10_run_348 (by decide) ?_
                                  refine lv_istore (lv' := [(7, .int 0), (6, .int (β 15 0)), (5, .int x5), (4, .int x4), (3, .int x3), (2, .int y2_174), (0, .ref (pL E 57))]) hx hb dX10_run_349 hl (by decide) rfl (fun ls hl => ?_)
                                  have lp351 : ∀ (n : Nat) (x7 : Int32) (β : pSt) (H : Heap) (locs : List Loc) (ls : Array Slot), f_X10_run_L351 n x7 β = some (r, β') → va_P (pD E) vwCl (pw E α β) H → va_S (pA E s.heap.size) s.heap H locs → lv_has ls 8 [(7, .int x7), (0, .ref (pL E 57))] → W p l e (pR 4) s m [.ref (pL E 57), .int a0].toArray below meth c H locs 0 0 (pQ below E s [.ref (pL E 57), .int a0].toArray (some (.int r)) α β') (F0 m 351 ls []) := by
                                    intro n
                                    induction n with
                                    | zero =>
                                      intro x7 β H locs ls hf
                                      rw [f_X10_run_L351] at hf
                                      cases hf
                                    | succ n351 ih351 =>
                                      intro x7 β H locs ls hf hP hS hl
                                      rw [f_X10_run_L351] at hf
                                      refine lv_iload hx hb dX10_run_351 (lv_at hl 0 rfl) ?_
                                      refine lv_bipush (v := 6) hx hb dX10_run_353 (by decide) ?_
                                      refine lv_icmp_ge (tgt := 378) hx hb dX10_run_355 (by decide) (fun h19 => ?_) (fun h19 => ?_)
                                      · have hf := pif_t hf h19
                                        refine lv_iconst (v := 0) hx hb dX10_run_378 (by decide) ?_
                                        refine lv_istore (lv' := [(7, .int 0), (0, .ref (pL E 57))]) hx hb dX10_run_379 hl (by decide) rfl (fun ls hl => ?_)
                                        have lp381 : ∀ (n : Nat) (x7 : Int32) (β : pSt) (H : Heap) (locs : List Loc) (ls : Array Slot), f_X10_run_L381 n x7 β = some (r, β') → va_P (pD E) vwCl (pw E α β) H → va_S (pA E s.heap.size) s.heap H locs → lv_has ls 8 [(7, .int x7), (0, .ref (pL E 57))] → W p l e (pR 4) s m [.ref (pL E 57), .int a0].toArray below meth c H locs 0 0 (pQ below E s [.ref (pL E 57), .int a0].toArray (some (.int r)) α β') (F0 m 381 ls []) := by
                                          intro n
                                          induction n with
                                          | zero =>
                                            intro x7 β H locs ls hf
                                            rw [f_X10_run_L381] at hf
                                            cases hf
                                          | succ n381 ih381 =>
                                            intro x7 β H locs ls hf hP hS hl
                                            rw [f_X10_run_L381] at hf
                                            refine lv_iload hx hb dX10_run_381 (lv_at hl 0 rfl) ?_
                                            refine lv_iconst (v := 4) hx hb dX10_run_383 (by decide) ?_
                                            refine lv_icmp_ge (tgt := 407) hx hb dX10_run_384 (by decide) (fun h20 => ?_) (fun h20 => ?_)
                                            · have hf := pif_t hf h20
                                              refine lv_aload_n hx hb dX10_run_407 rfl (lv_at hl 1 rfl) ?_
                                              refine g_10_143 C hP dX10_run_408 ?_
                                              refine lv_iconst (v := 1) hx hb dX10_run_411 (by decide) ?_
                                              refine lv_icmp_ne (tgt := 420) hx hb dX10_run_412 (by decide) (fun h21 => ?_) (fun h21 => ?_)
                                              · have hf := pif_f hf h21
                                                refine lv_bipush (v := (-12)) hx hb dX10_run_420 (by decide) ?_
                                                exact p_iret C hr hlk (pe1 hf) (pe2M hf) hP hS dX10_run_422
                                              · have hf := pif_t hf h21
                                                refine lv_bipush (v := (-11)) hx hb dX10_run_415 (by decide) ?_
                                                refine lv_goto (tgt := 422) hx hb dX10_run_417 (by decide) ?_
                                                exact p_iret C hr hlk (pe1 hf) (pe2M hf) hP hS dX10_run_422
                                            · have hf := pif_f hf h20
                                              refine lv_aload_n hx hb dX10_run_387 rfl (lv_at hl 1 rfl) ?_
                                              refine g_10_65 C hP dX10_run_388 ?_
                                              refine lv_iload hx hb dX10_run_391 (lv_at hl 0 rfl) ?_
                                              refine lv_aload_n hx hb dX10_run_393 rfl (lv_at hl 1 rfl) ?_
                                              refine g_10_68 C hP dX10_run_394 ?_
                                              refine lv_iload hx hb dX10_run_397 (lv_at hl 0 rfl) ?_
                                              obtain ⟨h22, hf⟩ := pg_ok hf
                                              refine la_m_writtenWas C hP h22 dX10_run_399 ?_
                                              obtain ⟨h23, hf⟩ := pg_ok hf
                                              refine sa_m_written C hP hS h23 dX10_run_400 (fun H locs hP hS => ?_)
                                              obtain ⟨β24, eβ24, hf⟩ := pl_ok hf
                                              rw [← eβ24] at hP
                                              clear eβ24
                                              refine lv_iinc (v := (x7 + 1)) (lv' := [(7, .int (x7 + 1)), (0, .ref (pL E 57))]) hx hb dX10_run_401 hl (k := 0) rfl rfl (by decide) rfl (fun ls hl => ?_)
                                              refine lv_goto (tgt := 381) hx hb dX10_run_404 (by decide) ?_
                                              exact ih381 _ β24 _ _ _ hf hP hS (lv_sub hl [0, 1] rfl)
                                        exact lp381 _ _ _ _ _ _ hf hP hS (lv_sub hl [0, 1] rfl)
                                      · have hf := pif_f hf h19
                                        refine lv_aload_n hx hb dX10_run_358 rfl (lv_at hl 1 rfl) ?_
                                        refine g_10_35 C hP dX10_run_359 ?_
                                        refine lv_iload hx hb dX10_run_362 (lv_at hl 0 rfl) ?_
                                        refine lv_aload_n hx hb dX10_run_364 rfl (lv_at hl 1 rfl) ?_
                                        refine g_10_38 C hP dX10_run_365 ?_
                                        refine lv_iload hx hb dX10_run_368 (lv_at hl 0 rfl) ?_
                                        obtain ⟨h25, hf⟩ := pg_ok hf
                                        refine la_m_cellWas C hP h25 dX10_run_370 ?_
                                        obtain ⟨h26, hf⟩ := pg_ok hf
                                        refine sa_m_cells C hP hS h26 dX10_run_371 (fun H locs hP hS => ?_)
                                        obtain ⟨β27, eβ27, hf⟩ := pl_ok hf
                                        rw [← eβ27] at hP
                                        clear eβ27
                                        refine lv_iinc (v := (x7 + 1)) (lv' := [(7, .int (x7 + 1)), (0, .ref (pL E 57))]) hx hb dX10_run_372 hl (k := 0) rfl rfl (by decide) rfl (fun ls hl => ?_)
                                        refine lv_goto (tgt := 351) hx hb dX10_run_375 (by decide) ?_
                                        exact ih351 _ β27 _ _ _ hf hP hS (lv_sub hl [0, 1] rfl)
                                  exact lp351 _ _ _ _ _ _ hf hP hS (lv_sub hl [0, 6] rfl)
                                · have hf := pif_t hf h33
                                  refine lv_aload_n hx hb dX10_run_304 rfl (lv_at hl 5 rfl) ?_
                                  refine lv_aload_n hx hb dX10_run_305 rfl (lv_at hl 5 rfl) ?_
                                  refine g_10_80 C hP dX10_run_306 ?_
                                  refine lv_iload_n hx hb dX10_run_309 rfl (lv_at hl 4 rfl) ?_
                                  refine lv_isub hx hb dX10_run_310 ?_
                                  refine s_10_171 C hP hS dX10_run_311 (fun H locs hP hS => ?_)
                                  obtain ⟨β35, eβ35, hf⟩ := pl_ok hf
                                  rw [← eβ35] at hP
                                  clear eβ35
                                  refine lv_iconst (v := 0) hx hb dX10_run_314 (by decide) ?_
                                  refine lv_istore (lv' := [(7, .int 0), (6, .int (β 15 0)), (5, .int x5), (4, .int x4), (3, .int x3), (2, .int y2_174), (0, .ref (pL E 57))]) hx hb dX10_run_315 hl (by decide) rfl (fun ls hl => ?_)
                                  generalize (β 15 0) = y6_317 at hf hl
                                  have lp317 : ∀ (n : Nat) (x7 : Int32) (β : pSt) (H : Heap) (locs : List Loc) (ls : Array Slot), f_X10_run_L317 y6_317 n x7 β = some (r, β') → va_P (pD E) vwCl (pw E α β) H → va_S (pA E s.heap.size) s.heap H locs → lv_has ls 8 [(7, .int x7), (6, .int y6_317), (0, .ref (pL E 57))] → W p l e (pR 4) s m [.ref (pL E 57), .int a0].toArray below meth c H locs 0 0 (pQ below E s [.ref (pL E 57), .int a0].toArray (some (.int r)) α β') (F0 m 317 ls []) := by
                                    intro n
                                    induction n with
                                    | zero =>
                                      intro x7 β H locs ls hf
                                      rw [f_X10_run_L317] at hf
                                      cases hf
                                    | succ n317 ih317 =>
                                      intro x7 β H locs ls hf hP hS hl
                                      rw [f_X10_run_L317] at hf
                                      refine lv_iload hx hb dX10_run_317 (lv_at hl 0 rfl) ?_
                                      refine lv_iload hx hb dX10_run_319 (lv_at hl 1 rfl) ?_
                                      refine lv_icmp_ge (tgt := 338) hx hb dX10_run_321 (by decide) (fun h29 => ?_) (fun h29 => ?_)
                                      · have hf := pif_t hf h29
                                        refine lv_aload_n hx hb dX10_run_338 rfl (lv_at hl 2 rfl) ?_
                                        refine g_10_168 C hP dX10_run_339 ?_
                                        exact p_iret C hr hlk (pe1 hf) (pe2M hf) hP hS dX10_run_342
                                      · have hf := pif_f hf h29
                                        refine lv_aload_n hx hb dX10_run_324 rfl (lv_at hl 2 rfl) ?_
                                        refine g_10_53 C hP dX10_run_325 ?_
                                        refine lv_iload hx hb dX10_run_328 (lv_at hl 0 rfl) ?_
                                        refine lv_iconst (v := 0) hx hb dX10_run_330 (by decide) ?_
                                        obtain ⟨h30, hf⟩ := pg_ok hf
                                        refine sa_m_isNew C hP hS (Or.inl rfl) h30 dX10_run_331 (fun H locs hP hS => ?_)
                                        obtain ⟨β31, eβ31, hf⟩ := pl_ok hf
                                        rw [← eβ31] at hP
                                        clear eβ31
                                        refine lv_iinc (v := (x7 + 1)) (lv' := [(7, .int (x7 + 1)), (6, .int y6_317), (0, .ref (pL E 57))]) hx hb dX10_run_332 hl (k := 0) rfl rfl (by decide) rfl (fun ls hl => ?_)
                                        refine lv_goto (tgt := 317) hx hb dX10_run_335 (by decide) ?_
                                        exact ih317 _ β31 _ _ _ hf hP hS (lv_sub hl [0, 1, 2] rfl)
                                  exact lp317 _ _ _ _ _ _ hf hP hS (lv_sub hl [0, 1, 6] rfl)
                              · have hf := pif_t hf h32
                                refine lv_aload_n hx hb dX10_run_257 rfl (lv_at hl 5 rfl) ?_
                                refine lv_iconst (v := 1) hx hb dX10_run_258 (by decide) ?_
                                refine s_10_149 C hP hS (Or.inr rfl) dX10_run_259 (fun H locs hP hS => ?_)
                                obtain ⟨β36, eβ36, hf⟩ := pl_ok hf
                                rw [← eβ36] at hP
                                clear eβ36
                                refine lv_aload_n hx hb dX10_run_262 rfl (lv_at hl 5 rfl) ?_
                                refine lv_aload_n hx hb dX10_run_263 rfl (lv_at hl 5 rfl) ?_
                                refine g_10_168 C hP dX10_run_264 ?_
                                refine lv_iconst (v := 1) hx hb dX10_run_267 (by decide) ?_
                                refine lv_iadd hx hb dX10_run_268 ?_
                                refine s_10_137 C hP hS dX10_run_269 (fun H locs hP hS => ?_)
                                obtain ⟨β37, eβ37, hf⟩ := pl_ok hf
                                rw [← eβ37] at hP
                                clear eβ37
                                refine lv_iconst (v := 0) hx hb dX10_run_272 (by decide) ?_
                                refine lv_istore (lv' := [(7, .int 0), (6, .int (β 15 0)), (5, .int x5), (4, .int x4), (3, .int x3), (2, .int y2_174), (0, .ref (pL E 57))]) hx hb dX10_run_273 hl (by decide) rfl (fun ls hl => ?_)
                                generalize (β 15 0) = y6_275 at hf hl
                                generalize y2_174 = y2_275 at hf hl
                                have lp275 : ∀ (n : Nat) (x7 : Int32) (β : pSt) (H : Heap) (locs : List Loc) (ls : Array Slot), f_X10_run_L275 y6_275 y2_275 n x7 β = some (r, β') → va_P (pD E) vwCl (pw E α β) H → va_S (pA E s.heap.size) s.heap H locs → lv_has ls 8 [(7, .int x7), (6, .int y6_275), (2, .int y2_275), (0, .ref (pL E 57))] → W p l e (pR 4) s m [.ref (pL E 57), .int a0].toArray below meth c H locs 0 0 (pQ below E s [.ref (pL E 57), .int a0].toArray (some (.int r)) α β') (F0 m 275 ls []) := by
                                  intro n
                                  induction n with
                                  | zero =>
                                    intro x7 β H locs ls hf
                                    rw [f_X10_run_L275] at hf
                                    cases hf
                                  | succ n275 ih275 =>
                                    intro x7 β H locs ls hf hP hS hl
                                    rw [f_X10_run_L275] at hf
                                    refine lv_iload hx hb dX10_run_275 (lv_at hl 0 rfl) ?_
                                    refine lv_aload_n hx hb dX10_run_277 rfl (lv_at hl 3 rfl) ?_
                                    refine g_10_113 C hP dX10_run_278 ?_
                                    refine lv_icmp_ge (tgt := 297) hx hb dX10_run_281 (by decide) (fun h38 => ?_) (fun h38 => ?_)
                                    · have hf := pif_t hf h38
                                      refine lv_aload_n hx hb dX10_run_297 rfl (lv_at hl 3 rfl) ?_
                                      refine g_10_143 C hP dX10_run_298 ?_
                                      refine lv_if_ne (tgt := 343) hx hb dX10_run_301 (by decide) (fun h39 => ?_) (fun h39 => ?_)
                                      · have hf := pif_f hf h39
                                        refine lv_aload_n hx hb dX10_run_343 rfl (lv_at hl 3 rfl) ?_
                                        refine lv_iload_n hx hb dX10_run_344 rfl (lv_at hl 2 rfl) ?_
                                        refine s_10_80 C hP hS dX10_run_345 (fun H locs hP hS => ?_)
                                        obtain ⟨β40, eβ40, hf⟩ := pl_ok hf
                                        rw [← eβ40] at hP
                                        clear eβ40
                                        refine lv_iconst (v := 0) hx hb dX10_run_348 (by decide) ?_
                                        refine lv_istore (lv' := [(7, .int 0), (6, .int y6_275), (2, .int y2_275), (0, .ref (pL E 57))]) hx hb dX10_run_349 hl (by decide) rfl (fun ls hl => ?_)
                                        have lp351 : ∀ (n : Nat) (x7 : Int32) (β : pSt) (H : Heap) (locs : List Loc) (ls : Array Slot), f_X10_run_L351 n x7 β = some (r, β') → va_P (pD E) vwCl (pw E α β) H → va_S (pA E s.heap.size) s.heap H locs → lv_has ls 8 [(7, .int x7), (0, .ref (pL E 57))] → W p l e (pR 4) s m [.ref (pL E 57), .int a0].toArray below meth c H locs 0 0 (pQ below E s [.ref (pL E 57), .int a0].toArray (some (.int r)) α β') (F0 m 351 ls []) := by
                                          intro n
                                          induction n with
                                          | zero =>
                                            intro x7 β H locs ls hf
                                            rw [f_X10_run_L351] at hf
                                            cases hf
                                          | succ n351 ih351 =>
                                            intro x7 β H locs ls hf hP hS hl
                                            rw [f_X10_run_L351] at hf
                                            refine lv_iload hx hb dX10_run_351 (lv_at hl 0 rfl) ?_
                                            refine lv_bipush (v := 6) hx hb dX10_run_353 (by decide) ?_
                                            refine lv_icmp_ge (tgt := 378) hx hb dX10_run_355 (by decide) (fun h19 => ?_) (fun h19 => ?_)
                                            · have hf := pif_t hf h19
                                              refine lv_iconst (v := 0) hx hb dX10_run_378 (by decide) ?_
                                              refine lv_istore (lv' := [(7, .int 0), (0, .ref (pL E 57))]) hx hb dX10_run_379 hl (by decide) rfl (fun ls hl => ?_)
                                              have lp381 : ∀ (n : Nat) (x7 : Int32) (β : pSt) (H : Heap) (locs : List Loc) (ls : Array Slot), f_X10_run_L381 n x7 β = some (r, β') → va_P (pD E) vwCl (pw E α β) H → va_S (pA E s.heap.size) s.heap H locs → lv_has ls 8 [(7, .int x7), (0, .ref (pL E 57))] → W p l e (pR 4) s m [.ref (pL E 57), .int a0].toArray below meth c H locs 0 0 (pQ below E s [.ref (pL E 57), .int a0].toArray (some (.int r)) α β') (F0 m 381 ls []) := by
                                                intro n
                                                induction n with
                                                | zero =>
                                                  intro x7 β H locs ls hf
                                                  rw [f_X10_run_L381] at hf
                                                  cases hf
                                                | succ n381 ih381 =>
                                                  intro x7 β H locs ls hf hP hS hl
                                                  rw [f_X10_run_L381] at hf
                                                  refine lv_iload hx hb dX10_run_381 (lv_at hl 0 rfl) ?_
                                                  refine lv_iconst (v := 4) hx hb dX10_run_383 (by decide) ?_
                                                  refine lv_icmp_ge (tgt := 407) hx hb dX10_run_384 (by decide) (fun h20 => ?_) (fun h20 => ?_)
                                                  · have hf := pif_t hf h20
                                                    refine lv_aload_n hx hb dX10_run_407 rfl (lv_at hl 1 rfl) ?_
                                                    refine g_10_143 C hP dX10_run_408 ?_
                                                    refine lv_iconst (v := 1) hx hb dX10_run_411 (by decide) ?_
                                                    refine lv_icmp_ne (tgt := 420) hx hb dX10_run_412 (by decide) (fun h21 => ?_) (fun h21 => ?_)
                                                    · have hf := pif_f hf h21
                                                      refine lv_bipush (v := (-12)) hx hb dX10_run_420 (by decide) ?_
                                                      exact p_iret C hr hlk (pe1 hf) (pe2M hf) hP hS dX10_run_422
                                                    · have hf := pif_t hf h21
                                                      refine lv_bipush (v := (-11)) hx hb dX10_run_415 (by decide) ?_
                                                      refine lv_goto (tgt := 422) hx hb dX10_run_417 (by decide) ?_
                                                      exact p_iret C hr hlk (pe1 hf) (pe2M hf) hP hS dX10_run_422
                                                  · have hf := pif_f hf h20
                                                    refine lv_aload_n hx hb dX10_run_387 rfl (lv_at hl 1 rfl) ?_
                                                    refine g_10_65 C hP dX10_run_388 ?_
                                                    refine lv_iload hx hb dX10_run_391 (lv_at hl 0 rfl) ?_
                                                    refine lv_aload_n hx hb dX10_run_393 rfl (lv_at hl 1 rfl) ?_
                                                    refine g_10_68 C hP dX10_run_394 ?_
                                                    refine lv_iload hx hb dX10_run_397 (lv_at hl 0 rfl) ?_
                                                    obtain ⟨h22, hf⟩ := pg_ok hf
                                                    refine la_m_writtenWas C hP h22 dX10_run_399 ?_
                                                    obtain ⟨h23, hf⟩ := pg_ok hf
                                                    refine sa_m_written C hP hS h23 dX10_run_400 (fun H locs hP hS => ?_)
                                                    obtain ⟨β24, eβ24, hf⟩ := pl_ok hf
                                                    rw [← eβ24] at hP
                                                    clear eβ24
                                                    refine lv_iinc (v := (x7 + 1)) (lv' := [(7, .int (x7 + 1)), (0, .ref (pL E 57))]) hx hb dX10_run_401 hl (k := 0) rfl rfl (by decide) rfl (fun ls hl => ?_)
                                                    refine lv_goto (tgt := 381) hx hb dX10_run_404 (by decide) ?_
                                                    exact ih381 _ β24 _ _ _ hf hP hS (lv_sub hl [0, 1] rfl)
                                              exact lp381 _ _ _ _ _ _ hf hP hS (lv_sub hl [0, 1] rfl)
                                            · have hf := pif_f hf h19
                                              refine lv_aload_n hx hb dX10_run_358 rfl (lv_at hl 1 rfl) ?_
                                              refine g_10_35 C hP dX10_run_359 ?_
                                              refine lv_iload hx hb dX10_run_362 (lv_at hl 0 rfl) ?_
                                              refine lv_aload_n hx hb dX10_run_364 rfl (lv_at hl 1 rfl) ?_
                                              refine g_10_38 C hP dX10_run_365 ?_
                                              refine lv_iload hx hb dX10_run_368 (lv_at hl 0 rfl) ?_
                                              obtain ⟨h25, hf⟩ := pg_ok hf
                                              refine la_m_cellWas C hP h25 dX10_run_370 ?_
                                              obtain ⟨h26, hf⟩ := pg_ok hf
                                              refine sa_m_cells C hP hS h26 dX10_run_371 (fun H locs hP hS => ?_)
                                              obtain ⟨β27, eβ27, hf⟩ := pl_ok hf
                                              rw [← eβ27] at hP
                                              clear eβ27
                                              refine lv_iinc (v := (x7 + 1)) (lv' := [(7, .int (x7 + 1)), (0, .ref (pL E 57))]) hx hb dX10_run_372 hl (k := 0) rfl rfl (by decide) rfl (fun ls hl => ?_)
                                              refine lv_goto (tgt := 351) hx hb dX10_run_375 (by decide) ?_
                                              exact ih351 _ β27 _ _ _ hf hP hS (lv_sub hl [0, 1] rfl)
                                        exact lp351 _ _ _ _ _ _ hf hP hS (lv_sub hl [0, 3] rfl)
                                      · have hf := pif_t hf h39
                                        refine lv_aload_n hx hb dX10_run_304 rfl (lv_at hl 3 rfl) ?_
                                        refine lv_aload_n hx hb dX10_run_305 rfl (lv_at hl 3 rfl) ?_
                                        refine g_10_80 C hP dX10_run_306 ?_
                                        refine lv_iload_n hx hb dX10_run_309 rfl (lv_at hl 2 rfl) ?_
                                        refine lv_isub hx hb dX10_run_310 ?_
                                        refine s_10_171 C hP hS dX10_run_311 (fun H locs hP hS => ?_)
                                        obtain ⟨β41, eβ41, hf⟩ := pl_ok hf
                                        rw [← eβ41] at hP
                                        clear eβ41
                                        refine lv_iconst (v := 0) hx hb dX10_run_314 (by decide) ?_
                                        refine lv_istore (lv' := [(7, .int 0), (6, .int y6_275), (2, .int y2_275), (0, .ref (pL E 57))]) hx hb dX10_run_315 hl (by decide) rfl (fun ls hl => ?_)
                                        generalize y6_275 = y6_317 at hf hl
                                        have lp317 : ∀ (n : Nat) (x7 : Int32) (β : pSt) (H : Heap) (locs : List Loc) (ls : Array Slot), f_X10_run_L317 y6_317 n x7 β = some (r, β') → va_P (pD E) vwCl (pw E α β) H → va_S (pA E s.heap.size) s.heap H locs → lv_has ls 8 [(7, .int x7), (6, .int y6_317), (0, .ref (pL E 57))] → W p l e (pR 4) s m [.ref (pL E 57), .int a0].toArray below meth c H locs 0 0 (pQ below E s [.ref (pL E 57), .int a0].toArray (some (.int r)) α β') (F0 m 317 ls []) := by
                                          intro n
                                          induction n with
                                          | zero =>
                                            intro x7 β H locs ls hf
                                            rw [f_X10_run_L317] at hf
                                            cases hf
                                          | succ n317 ih317 =>
                                            intro x7 β H locs ls hf hP hS hl
                                            rw [f_X10_run_L317] at hf
                                            refine lv_iload hx hb dX10_run_317 (lv_at hl 0 rfl) ?_
                                            refine lv_iload hx hb dX10_run_319 (lv_at hl 1 rfl) ?_
                                            refine lv_icmp_ge (tgt := 338) hx hb dX10_run_321 (by decide) (fun h29 => ?_) (fun h29 => ?_)
                                            · have hf := pif_t hf h29
                                              refine lv_aload_n hx hb dX10_run_338 rfl (lv_at hl 2 rfl) ?_
                                              refine g_10_168 C hP dX10_run_339 ?_
                                              exact p_iret C hr hlk (pe1 hf) (pe2M hf) hP hS dX10_run_342
                                            · have hf := pif_f hf h29
                                              refine lv_aload_n hx hb dX10_run_324 rfl (lv_at hl 2 rfl) ?_
                                              refine g_10_53 C hP dX10_run_325 ?_
                                              refine lv_iload hx hb dX10_run_328 (lv_at hl 0 rfl) ?_
                                              refine lv_iconst (v := 0) hx hb dX10_run_330 (by decide) ?_
                                              obtain ⟨h30, hf⟩ := pg_ok hf
                                              refine sa_m_isNew C hP hS (Or.inl rfl) h30 dX10_run_331 (fun H locs hP hS => ?_)
                                              obtain ⟨β31, eβ31, hf⟩ := pl_ok hf
                                              rw [← eβ31] at hP
                                              clear eβ31
                                              refine lv_iinc (v := (x7 + 1)) (lv' := [(7, .int (x7 + 1)), (6, .int y6_317), (0, .ref (pL E 57))]) hx hb dX10_run_332 hl (k := 0) rfl rfl (by decide) rfl (fun ls hl => ?_)
                                              refine lv_goto (tgt := 317) hx hb dX10_run_335 (by decide) ?_
                                              exact ih317 _ β31 _ _ _ hf hP hS (lv_sub hl [0, 1, 2] rfl)
                                        exact lp317 _ _ _ _ _ _ hf hP hS (lv_sub hl [0, 1, 3] rfl)
                                    · have hf := pif_f hf h38
                                      refine lv_aload_n hx hb dX10_run_284 rfl (lv_at hl 3 rfl) ?_
                                      refine lv_iload hx hb dX10_run_285 (lv_at hl 0 rfl) ?_
                                      refine lv_iconst (v := (-1)) hx hb dX10_run_287 (by decide) ?_
                                      obtain ⟨r42, β43, hc44, hf⟩ := pb2_ok hf
                                      refine p_callV (n := 2) (As := [.int x7, .int (-1)]) (rest := []) C hP hS (wv_10_163 C.2.2.2.2.1 _) (c_X10_meet l C.2.2.2.2.2.2  hc44) (e_X10) rfl rfl hd_X10_meet rfl ⟨Nat.le_of_ble_eq_true rfl, Nat.le_of_ble_eq_true rfl⟩ hl.1 rfl (Nat.le_of_ble_eq_true rfl) dX10_run_288 ⟨Nat.zero_le _, Nat.zero_le _⟩ (fun H locs hP hS _ _ => ?_)
                                      refine W.eq (g2 := F0 m 291 ls []) rfl ?_
                                      refine lv_iinc (v := (x7 + 1)) (lv' := [(7, .int (x7 + 1)), (6, .int y6_275), (2, .int y2_275), (0, .ref (pL E 57))]) hx hb dX10_run_291 hl (k := 0) rfl rfl (by decide) rfl (fun ls hl => ?_)
                                      refine lv_goto (tgt := 275) hx hb dX10_run_294 (by decide) ?_
                                      exact ih275 _ β43 _ _ _ hf hP hS (lv_sub hl [0, 1, 2, 3] rfl)
                                exact lp275 _ _ _ _ _ _ hf hP hS (lv_sub hl [0, 1, 5, 6] rfl)
                          · have hf := pif_f hf h15
                            refine lv_aload_n hx hb dX10_run_178 rfl (lv_at hl 4 rfl) ?_
                            refine g_10_143 C hP dX10_run_179 ?_
                            refine lv_if_ne (tgt := 237) hx hb dX10_run_182 (by decide) (fun h45 => ?_) (fun h45 => ?_)
                            · have hf := pif_f hf h45
                              refine lv_aload_n hx hb dX10_run_237 rfl (lv_at hl 4 rfl) ?_
                              refine g_10_80 C hP dX10_run_238 ?_
                              refine lv_istore (lv' := [(6, .int (β 15 0)), (5, .int x5), (4, .int x4), (3, .int x3), (2, .int y2_174), (0, .ref (pL E 57))]) hx hb dX10_run_241 hl (by decide) rfl (fun ls hl => ?_)
                              refine lv_aload_n hx hb dX10_run_243 rfl (lv_at hl 5 rfl) ?_
                              refine g_10_168 C hP dX10_run_244 ?_
                              refine lv_if_le (tgt := 297) hx hb dX10_run_247 (by decide) (fun h46 => ?_) (fun h46 => ?_)
                              · have hf := pif_t hf h46
                                refine lv_aload_n hx hb dX10_run_297 rfl (lv_at hl 5 rfl) ?_
                                refine g_10_143 C hP dX10_run_298 ?_
                                refine lv_if_ne (tgt := 343) hx hb dX10_run_301 (by decide) (fun h47 => ?_) (fun h47 => ?_)
                                · have hf := pif_f hf h47
                                  refine lv_aload_n hx hb dX10_run_343 rfl (lv_at hl 5 rfl) ?_
                                  refine lv_iload_n hx hb dX10_run_344 rfl (lv_at hl 4 rfl) ?_
                                  refine s_10_80 C hP hS dX10_run_345 (fun H locs hP hS => ?_)
                                  obtain ⟨β48, eβ48, hf⟩ := pl_ok hf
                                  rw [← eβ48] at hP
                                  clear eβ48
                                  refine lv_iconst (v := 0) hx hb dX10_run_348 (by decide) ?_
                                  refine lv_istore (lv' := [(7, .int 0), (6, .int (β 15 0)), (5, .int x5), (4, .int x4), (3, .int x3), (2, .int y2_174), (0, .ref (pL E 57))]) hx hb dX10_run_349 hl (by decide) rfl (fun ls hl => ?_)
                                  have lp351 : ∀ (n : Nat) (x7 : Int32) (β : pSt) (H : Heap) (locs : List Loc) (ls : Array Slot), f_X10_run_L351 n x7 β = some (r, β') → va_P (pD E) vwCl (pw E α β) H → va_S (pA E s.heap.size) s.heap H locs → lv_has ls 8 [(7, .int x7), (0, .ref (pL E 57))] → W p l e (pR 4) s m [.ref (pL E 57), .int a0].toArray below meth c H locs 0 0 (pQ below E s [.ref (pL E 57), .int a0].toArray (some (.int r)) α β') (F0 m 351 ls []) := by
                                    intro n
                                    induction n with
                                    | zero =>
                                      intro x7 β H locs ls hf
                                      rw [f_X10_run_L351] at hf
                                      cases hf
                                    | succ n351 ih351 =>
                                      intro x7 β H locs ls hf hP hS hl
                                      rw [f_X10_run_L351] at hf
                                      refine lv_iload hx hb dX10_run_351 (lv_at hl 0 rfl) ?_
                                      refine lv_bipush (v := 6) hx hb dX10_run_353 (by decide) ?_
                                      refine lv_icmp_ge (tgt := 378) hx hb dX10_run_355 (by decide) (fun h19 => ?_) (fun h19 => ?_)
                                      · have hf := pif_t hf h19
                                        refine lv_iconst (v := 0) hx hb dX10_run_378 (by decide) ?_
                                        refine lv_istore (lv' := [(7, .int 0), (0, .ref (pL E 57))]) hx hb dX10_run_379 hl (by decide) rfl (fun ls hl => ?_)
                                        have lp381 : ∀ (n : Nat) (x7 : Int32) (β : pSt) (H : Heap) (locs : List Loc) (ls : Array Slot), f_X10_run_L381 n x7 β = some (r, β') → va_P (pD E) vwCl (pw E α β) H → va_S (pA E s.heap.size) s.heap H locs → lv_has ls 8 [(7, .int x7), (0, .ref (pL E 57))] → W p l e (pR 4) s m [.ref (pL E 57), .int a0].toArray below meth c H locs 0 0 (pQ below E s [.ref (pL E 57), .int a0].toArray (some (.int r)) α β') (F0 m 381 ls []) := by
                                          intro n
                                          induction n with
                                          | zero =>
                                            intro x7 β H locs ls hf
                                            rw [f_X10_run_L381] at hf
                                            cases hf
                                          | succ n381 ih381 =>
                                            intro x7 β H locs ls hf hP hS hl
                                            rw [f_X10_run_L381] at hf
                                            refine lv_iload hx hb dX10_run_381 (lv_at hl 0 rfl) ?_
                                            refine lv_iconst (v := 4) hx hb dX10_run_383 (by decide) ?_
                                            refine lv_icmp_ge (tgt := 407) hx hb dX10_run_384 (by decide) (fun h20 => ?_) (fun h20 => ?_)
                                            · have hf := pif_t hf h20
                                              refine lv_aload_n hx hb dX10_run_407 rfl (lv_at hl 1 rfl) ?_
                                              refine g_10_143 C hP dX10_run_408 ?_
                                              refine lv_iconst (v := 1) hx hb dX10_run_411 (by decide) ?_
                                              refine lv_icmp_ne (tgt := 420) hx hb dX10_run_412 (by decide) (fun h21 => ?_) (fun h21 => ?_)
                                              · have hf := pif_f hf h21
                                                refine lv_bipush (v := (-12)) hx hb dX10_run_420 (by decide) ?_
                                                exact p_iret C hr hlk (pe1 hf) (pe2M hf) hP hS dX10_run_422
                                              · have hf := pif_t hf h21
                                                refine lv_bipush (v := (-11)) hx hb dX10_run_415 (by decide) ?_
                                                refine lv_goto (tgt := 422) hx hb dX10_run_417 (by decide) ?_
                                                exact p_iret C hr hlk (pe1 hf) (pe2M hf) hP hS dX10_run_422
                                            · have hf := pif_f hf h20
                                              refine lv_aload_n hx hb dX10_run_387 rfl (lv_at hl 1 rfl) ?_
                                              refine g_10_65 C hP dX10_run_388 ?_
                                              refine lv_iload hx hb dX10_run_391 (lv_at hl 0 rfl) ?_
                                              refine lv_aload_n hx hb dX10_run_393 rfl (lv_at hl 1 rfl) ?_
                                              refine g_10_68 C hP dX10_run_394 ?_
                                              refine lv_iload hx hb dX10_run_397 (lv_at hl 0 rfl) ?_
                                              obtain ⟨h22, hf⟩ := pg_ok hf
                                              refine la_m_writtenWas C hP h22 dX10_run_399 ?_
                                              obtain ⟨h23, hf⟩ := pg_ok hf
                                              refine sa_m_written C hP hS h23 dX10_run_400 (fun H locs hP hS => ?_)
                                              obtain ⟨β24, eβ24, hf⟩ := pl_ok hf
                                              rw [← eβ24] at hP
                                              clear eβ24
                                              refine lv_iinc (v := (x7 + 1)) (lv' := [(7, .int (x7 + 1)), (0, .ref (pL E 57))]) hx hb dX10_run_401 hl (k := 0) rfl rfl (by decide) rfl (fun ls hl => ?_)
                                              refine lv_goto (tgt := 381) hx hb dX10_run_404 (by decide) ?_
                                              exact ih381 _ β24 _ _ _ hf hP hS (lv_sub hl [0, 1] rfl)
                                        exact lp381 _ _ _ _ _ _ hf hP hS (lv_sub hl [0, 1] rfl)
                                      · have hf := pif_f hf h19
                                        refine lv_aload_n hx hb dX10_run_358 rfl (lv_at hl 1 rfl) ?_
                                        refine g_10_35 C hP dX10_run_359 ?_
                                        refine lv_iload hx hb dX10_run_362 (lv_at hl 0 rfl) ?_
                                        refine lv_aload_n hx hb dX10_run_364 rfl (lv_at hl 1 rfl) ?_
                                        refine g_10_38 C hP dX10_run_365 ?_
                                        refine lv_iload hx hb dX10_run_368 (lv_at hl 0 rfl) ?_
                                        obtain ⟨h25, hf⟩ := pg_ok hf
                                        refine la_m_cellWas C hP h25 dX10_run_370 ?_
                                        obtain ⟨h26, hf⟩ := pg_ok hf
                                        refine sa_m_cells C hP hS h26 dX10_run_371 (fun H locs hP hS => ?_)
                                        obtain ⟨β27, eβ27, hf⟩ := pl_ok hf
                                        rw [← eβ27] at hP
                                        clear eβ27
                                        refine lv_iinc (v := (x7 + 1)) (lv' := [(7, .int (x7 + 1)), (0, .ref (pL E 57))]) hx hb dX10_run_372 hl (k := 0) rfl rfl (by decide) rfl (fun ls hl => ?_)
                                        refine lv_goto (tgt := 351) hx hb dX10_run_375 (by decide) ?_
                                        exact ih351 _ β27 _ _ _ hf hP hS (lv_sub hl [0, 1] rfl)
                                  exact lp351 _ _ _ _ _ _ hf hP hS (lv_sub hl [0, 6] rfl)
                                · have hf := pif_t hf h47
                                  refine lv_aload_n hx hb dX10_run_304 rfl (lv_at hl 5 rfl) ?_
                                  refine lv_aload_n hx hb dX10_run_305 rfl (lv_at hl 5 rfl) ?_
                                  refine g_10_80 C hP dX10_run_306 ?_
                                  refine lv_iload_n hx hb dX10_run_309 rfl (lv_at hl 4 rfl) ?_
                                  refine lv_isub hx hb dX10_run_310 ?_
                                  refine s_10_171 C hP hS dX10_run_311 (fun H locs hP hS => ?_)
                                  obtain ⟨β49, eβ49, hf⟩ := pl_ok hf
                                  rw [← eβ49] at hP
                                  clear eβ49
                                  refine lv_iconst (v := 0) hx hb dX10_run_314 (by decide) ?_
                                  refine lv_istore (lv' := [(7, .int 0), (6, .int (β 15 0)), (5, .int x5), (4, .int x4), (3, .int x3), (2, .int y2_174), (0, .ref (pL E 57))]) hx hb dX10_run_315 hl (by decide) rfl (fun ls hl => ?_)
                                  generalize (β 15 0) = y6_317 at hf hl
                                  have lp317 : ∀ (n : Nat) (x7 : Int32) (β : pSt) (H : Heap) (locs : List Loc) (ls : Array Slot), f_X10_run_L317 y6_317 n x7 β = some (r, β') → va_P (pD E) vwCl (pw E α β) H → va_S (pA E s.heap.size) s.heap H locs → lv_has ls 8 [(7, .int x7), (6, .int y6_317), (0, .ref (pL E 57))] → W p l e (pR 4) s m [.ref (pL E 57), .int a0].toArray below meth c H locs 0 0 (pQ below E s [.ref (pL E 57), .int a0].toArray (some (.int r)) α β') (F0 m 317 ls []) := by
                                    intro n
                                    induction n with
                                    | zero =>
                                      intro x7 β H locs ls hf
                                      rw [f_X10_run_L317] at hf
                                      cases hf
                                    | succ n317 ih317 =>
                                      intro x7 β H locs ls hf hP hS hl
                                      rw [f_X10_run_L317] at hf
                                      refine lv_iload hx hb dX10_run_317 (lv_at hl 0 rfl) ?_
                                      refine lv_iload hx hb dX10_run_319 (lv_at hl 1 rfl) ?_
                                      refine lv_icmp_ge (tgt := 338) hx hb dX10_run_321 (by decide) (fun h29 => ?_) (fun h29 => ?_)
                                      · have hf := pif_t hf h29
                                        refine lv_aload_n hx hb dX10_run_338 rfl (lv_at hl 2 rfl) ?_
                                        refine g_10_168 C hP dX10_run_339 ?_
                                        exact p_iret C hr hlk (pe1 hf) (pe2M hf) hP hS dX10_run_342
                                      · have hf := pif_f hf h29
                                        refine lv_aload_n hx hb dX10_run_324 rfl (lv_at hl 2 rfl) ?_
                                        refine g_10_53 C hP dX10_run_325 ?_
                                        refine lv_iload hx hb dX10_run_328 (lv_at hl 0 rfl) ?_
                                        refine lv_iconst (v := 0) hx hb dX10_run_330 (by decide) ?_
                                        obtain ⟨h30, hf⟩ := pg_ok hf
                                        refine sa_m_isNew C hP hS (Or.inl rfl) h30 dX10_run_331 (fun H locs hP hS => ?_)
                                        obtain ⟨β31, eβ31, hf⟩ := pl_ok hf
                                        rw [← eβ31] at hP
                                        clear eβ31
                                        refine lv_iinc (v := (x7 + 1)) (lv' := [(7, .int (x7 + 1)), (6, .int y6_317), (0, .ref (pL E 57))]) hx hb dX10_run_332 hl (k := 0) rfl rfl (by decide) rfl (fun ls hl => ?_)
                                        refine lv_goto (tgt := 317) hx hb dX10_run_335 (by decide) ?_
                                        exact ih317 _ β31 _ _ _ hf hP hS (lv_sub hl [0, 1, 2] rfl)
                                  exact lp317 _ _ _ _ _ _ hf hP hS (lv_sub hl [0, 1, 6] rfl)
                              · have hf := pif_f hf h46
                                refine lv_aload_n hx hb dX10_run_250 rfl (lv_at hl 5 rfl) ?_
                                refine g_10_143 C hP dX10_run_251 ?_
                                refine lv_if_ne (tgt := 297) hx hb dX10_run_254 (by decide) (fun h50 => ?_) (fun h50 => ?_)
                                · have hf := pif_f hf h50
                                  refine lv_aload_n hx hb dX10_run_297 rfl (lv_at hl 5 rfl) ?_
                                  refine g_10_143 C hP dX10_run_298 ?_
                                  refine lv_if_ne (tgt := 343) hx hb dX10_run_301 (by decide) (fun h51 => ?_) (fun h51 => ?_)
                                  · have hf := pif_f hf h51
                                    refine lv_aload_n hx hb dX10_run_343 rfl (lv_at hl 5 rfl) ?_
                                    refine lv_iload_n hx hb dX10_run_344 rfl (lv_at hl 4 rfl) ?_
                                    refine s_10_80 C hP hS dX10_run_345 (fun H locs hP hS => ?_)
                                    obtain ⟨β52, eβ52, hf⟩ := pl_ok hf
                                    rw [← eβ52] at hP
                                    clear eβ52
                                    refine lv_iconst (v := 0) hx hb dX10_run_348 (by decide) ?_
                                    refine lv_istore (lv' := [(7, .int 0), (6, .int (β 15 0)), (5, .int x5), (4, .int x4), (3, .int x3), (2, .int y2_174), (0, .ref (pL E 57))]) hx hb dX10_run_349 hl (by decide) rfl (fun ls hl => ?_)
                                    have lp351 : ∀ (n : Nat) (x7 : Int32) (β : pSt) (H : Heap) (locs : List Loc) (ls : Array Slot), f_X10_run_L351 n x7 β = some (r, β') → va_P (pD E) vwCl (pw E α β) H → va_S (pA E s.heap.size) s.heap H locs → lv_has ls 8 [(7, .int x7), (0, .ref (pL E 57))] → W p l e (pR 4) s m [.ref (pL E 57), .int a0].toArray below meth c H locs 0 0 (pQ below E s [.ref (pL E 57), .int a0].toArray (some (.int r)) α β') (F0 m 351 ls []) := by
                                      intro n
                                      induction n with
                                      | zero =>
                                        intro x7 β H locs ls hf
                                        rw [f_X10_run_L351] at hf
                                        cases hf
                                      | succ n351 ih351 =>
                                        intro x7 β H locs ls hf hP hS hl
                                        rw [f_X10_run_L351] at hf
                                        refine lv_iload hx hb dX10_run_351 (lv_at hl 0 rfl) ?_
                                        refine lv_bipush (v := 6) hx hb dX10_run_353 (by decide) ?_
                                        refine lv_icmp_ge (tgt := 378) hx hb dX10_run_355 (by decide) (fun h19 => ?_) (fun h19 => ?_)
                                        · have hf := pif_t hf h19
                                          refine lv_iconst (v := 0) hx hb dX10_run_378 (by decide) ?_
                                          refine lv_istore (lv' := [(7, .int 0), (0, .ref (pL E 57))]) hx hb dX10_run_379 hl (by decide) rfl (fun ls hl => ?_)
                                          have lp381 : ∀ (n : Nat) (x7 : Int32) (β : pSt) (H : Heap) (locs : List Loc) (ls : Array Slot), f_X10_run_L381 n x7 β = some (r, β') → va_P (pD E) vwCl (pw E α β) H → va_S (pA E s.heap.size) s.heap H locs → lv_has ls 8 [(7, .int x7), (0, .ref (pL E 57))] → W p l e (pR 4) s m [.ref (pL E 57), .int a0].toArray below meth c H locs 0 0 (pQ below E s [.ref (pL E 57), .int a0].toArray (some (.int r)) α β') (F0 m 381 ls []) := by
                                            intro n
                                            induction n with
                                            | zero =>
                                              intro x7 β H locs ls hf
                                              rw [f_X10_run_L381] at hf
                                              cases hf
                                            | succ n381 ih381 =>
                                              intro x7 β H locs ls hf hP hS hl
                                              rw [f_X10_run_L381] at hf
                                              refine lv_iload hx hb dX10_run_381 (lv_at hl 0 rfl) ?_
                                              refine lv_iconst (v := 4) hx hb dX10_run_383 (by decide) ?_
                                              refine lv_icmp_ge (tgt := 407) hx hb dX10_run_384 (by decide) (fun h20 => ?_) (fun h20 => ?_)
                                              · have hf := pif_t hf h20
                                                refine lv_aload_n hx hb dX10_run_407 rfl (lv_at hl 1 rfl) ?_
                                                refine g_10_143 C hP dX10_run_408 ?_
                                                refine lv_iconst (v := 1) hx hb dX10_run_411 (by decide) ?_
                                                refine lv_icmp_ne (tgt := 420) hx hb dX10_run_412 (by decide) (fun h21 => ?_) (fun h21 => ?_)
                                                · have hf := pif_f hf h21
                                                  refine lv_bipush (v := (-12)) hx hb dX10_run_420 (by decide) ?_
                                                  exact p_iret C hr hlk (pe1 hf) (pe2M hf) hP hS dX10_run_422
                                                · have hf := pif_t hf h21
                                                  refine lv_bipush (v := (-11)) hx hb dX10_run_415 (by decide) ?_
                                                  refine lv_goto (tgt := 422) hx hb dX10_run_417 (by decide) ?_
                                                  exact p_iret C hr hlk (pe1 hf) (pe2M hf) hP hS dX10_run_422
                                              · have hf := pif_f hf h20
                                                refine lv_aload_n hx hb dX10_run_387 rfl (lv_at hl 1 rfl) ?_
                                                refine g_10_65 C hP dX10_run_388 ?_
                                                refine lv_iload hx hb dX10_run_391 (lv_at hl 0 rfl) ?_
                                                refine lv_aload_n hx hb dX10_run_393 rfl (lv_at hl 1 rfl) ?_
                                                refine g_10_68 C hP dX10_run_394 ?_
                                                refine lv_iload hx hb dX10_run_397 (lv_at hl 0 rfl) ?_
                                                obtain ⟨h22, hf⟩ := pg_ok hf
                                                refine la_m_writtenWas C hP h22 dX10_run_399 ?_
                                                obtain ⟨h23, hf⟩ := pg_ok hf
                                                refine sa_m_written C hP hS h23 dX10_run_400 (fun H locs hP hS => ?_)
                                                obtain ⟨β24, eβ24, hf⟩ := pl_ok hf
                                                rw [← eβ24] at hP
                                                clear eβ24
                                                refine lv_iinc (v := (x7 + 1)) (lv' := [(7, .int (x7 + 1)), (0, .ref (pL E 57))]) hx hb dX10_run_401 hl (k := 0) rfl rfl (by decide) rfl (fun ls hl => ?_)
                                                refine lv_goto (tgt := 381) hx hb dX10_run_404 (by decide) ?_
                                                exact ih381 _ β24 _ _ _ hf hP hS (lv_sub hl [0, 1] rfl)
                                          exact lp381 _ _ _ _ _ _ hf hP hS (lv_sub hl [0, 1] rfl)
                                        · have hf := pif_f hf h19
                                          refine lv_aload_n hx hb dX10_run_358 rfl (lv_at hl 1 rfl) ?_
                                          refine g_10_35 C hP dX10_run_359 ?_
                                          refine lv_iload hx hb dX10_run_362 (lv_at hl 0 rfl) ?_
                                          refine lv_aload_n hx hb dX10_run_364 rfl (lv_at hl 1 rfl) ?_
                                          refine g_10_38 C hP dX10_run_365 ?_
                                          refine lv_iload hx hb dX10_run_368 (lv_at hl 0 rfl) ?_
                                          obtain ⟨h25, hf⟩ := pg_ok hf
                                          refine la_m_cellWas C hP h25 dX10_run_370 ?_
                                          obtain ⟨h26, hf⟩ := pg_ok hf
                                          refine sa_m_cells C hP hS h26 dX10_run_371 (fun H locs hP hS => ?_)
                                          obtain ⟨β27, eβ27, hf⟩ := pl_ok hf
                                          rw [← eβ27] at hP
                                          clear eβ27
                                          refine lv_iinc (v := (x7 + 1)) (lv' := [(7, .int (x7 + 1)), (0, .ref (pL E 57))]) hx hb dX10_run_372 hl (k := 0) rfl rfl (by decide) rfl (fun ls hl => ?_)
                                          refine lv_goto (tgt := 351) hx hb dX10_run_375 (by decide) ?_
                                          exact ih351 _ β27 _ _ _ hf hP hS (lv_sub hl [0, 1] rfl)
                                    exact lp351 _ _ _ _ _ _ hf hP hS (lv_sub hl [0, 6] rfl)
                                  · have hf := pif_t hf h51
                                    refine lv_aload_n hx hb dX10_run_304 rfl (lv_at hl 5 rfl) ?_
                                    refine lv_aload_n hx hb dX10_run_305 rfl (lv_at hl 5 rfl) ?_
                                    refine g_10_80 C hP dX10_run_306 ?_
                                    refine lv_iload_n hx hb dX10_run_309 rfl (lv_at hl 4 rfl) ?_
                                    refine lv_isub hx hb dX10_run_310 ?_
                                    refine s_10_171 C hP hS dX10_run_311 (fun H locs hP hS => ?_)
                                    obtain ⟨β53, eβ53, hf⟩ := pl_ok hf
                                    rw [← eβ53] at hP
                                    clear eβ53
                                    refine lv_iconst (v := 0) hx hb dX10_run_314 (by decide) ?_
                                    refine lv_istore (lv' := [(7, .int 0), (6, .int (β 15 0)), (5, .int x5), (4, .int x4), (3, .int x3), (2, .int y2_174), (0, .ref (pL E 57))]) hx hb dX10_run_315 hl (by decide) rfl (fun ls hl => ?_)
                                    generalize (β 15 0) = y6_317 at hf hl
                                    have lp317 : ∀ (n : Nat) (x7 : Int32) (β : pSt) (H : Heap) (locs : List Loc) (ls : Array Slot), f_X10_run_L317 y6_317 n x7 β = some (r, β') → va_P (pD E) vwCl (pw E α β) H → va_S (pA E s.heap.size) s.heap H locs → lv_has ls 8 [(7, .int x7), (6, .int y6_317), (0, .ref (pL E 57))] → W p l e (pR 4) s m [.ref (pL E 57), .int a0].toArray below meth c H locs 0 0 (pQ below E s [.ref (pL E 57), .int a0].toArray (some (.int r)) α β') (F0 m 317 ls []) := by
                                      intro n
                                      induction n with
                                      | zero =>
                                        intro x7 β H locs ls hf
                                        rw [f_X10_run_L317] at hf
                                        cases hf
                                      | succ n317 ih317 =>
                                        intro x7 β H locs ls hf hP hS hl
                                        rw [f_X10_run_L317] at hf
                                        refine lv_iload hx hb dX10_run_317 (lv_at hl 0 rfl) ?_
                                        refine lv_iload hx hb dX10_run_319 (lv_at hl 1 rfl) ?_
                                        refine lv_icmp_ge (tgt := 338) hx hb dX10_run_321 (by decide) (fun h29 => ?_) (fun h29 => ?_)
                                        · have hf := pif_t hf h29
                                          refine lv_aload_n hx hb dX10_run_338 rfl (lv_at hl 2 rfl) ?_
                                          refine g_10_168 C hP dX10_run_339 ?_
                                          exact p_iret C hr hlk (pe1 hf) (pe2M hf) hP hS dX10_run_342
                                        · have hf := pif_f hf h29
                                          refine lv_aload_n hx hb dX10_run_324 rfl (lv_at hl 2 rfl) ?_
                                          refine g_10_53 C hP dX10_run_325 ?_
                                          refine lv_iload hx hb dX10_run_328 (lv_at hl 0 rfl) ?_
                                          refine lv_iconst (v := 0) hx hb dX10_run_330 (by decide) ?_
                                          obtain ⟨h30, hf⟩ := pg_ok hf
                                          refine sa_m_isNew C hP hS (Or.inl rfl) h30 dX10_run_331 (fun H locs hP hS => ?_)
                                          obtain ⟨β31, eβ31, hf⟩ := pl_ok hf
                                          rw [← eβ31] at hP
                                          clear eβ31
                                          refine lv_iinc (v := (x7 + 1)) (lv' := [(7, .int (x7 + 1)), (6, .int y6_317), (0, .ref (pL E 57))]) hx hb dX10_run_332 hl (k := 0) rfl rfl (by decide) rfl (fun ls hl => ?_)
                                          refine lv_goto (tgt := 317) hx hb dX10_run_335 (by decide) ?_
                                          exact ih317 _ β31 _ _ _ hf hP hS (lv_sub hl [0, 1, 2] rfl)
                                    exact lp317 _ _ _ _ _ _ hf hP hS (lv_sub hl [0, 1, 6] rfl)
                                · have hf := pif_t hf h50
                                  refine lv_aload_n hx hb dX10_run_257 rfl (lv_at hl 5 rfl) ?_
                                  refine lv_iconst (v := 1) hx hb dX10_run_258 (by decide) ?_
                                  refine s_10_149 C hP hS (Or.inr rfl) dX10_run_259 (fun H locs hP hS => ?_)
                                  obtain ⟨β54, eβ54, hf⟩ := pl_ok hf
                                  rw [← eβ54] at hP
                                  clear eβ54
                                  refine lv_aload_n hx hb dX10_run_262 rfl (lv_at hl 5 rfl) ?_
                                  refine lv_aload_n hx hb dX10_run_263 rfl (lv_at hl 5 rfl) ?_
                                  refine g_10_168 C hP dX10_run_264 ?_
                                  refine lv_iconst (v := 1) hx hb dX10_run_267 (by decide) ?_
                                  refine lv_iadd hx hb dX10_run_268 ?_
                                  refine s_10_137 C hP hS dX10_run_269 (fun H locs hP hS => ?_)
                                  obtain ⟨β55, eβ55, hf⟩ := pl_ok hf
                                  rw [← eβ55] at hP
                                  clear eβ55
                                  refine lv_iconst (v := 0) hx hb dX10_run_272 (by decide) ?_
                                  refine lv_istore (lv' := [(7, .int 0), (6, .int (β 15 0)), (5, .int x5), (4, .int x4), (3, .int x3), (2, .int y2_174), (0, .ref (pL E 57))]) hx hb dX10_run_273 hl (by decide) rfl (fun ls hl => ?_)
                                  generalize (β 15 0) = y6_275 at hf hl
                                  generalize y2_174 = y2_275 at hf hl
                                  have lp275 : ∀ (n : Nat) (x7 : Int32) (β : pSt) (H : Heap) (locs : List Loc) (ls : Array Slot), f_X10_run_L275 y6_275 y2_275 n x7 β = some (r, β') → va_P (pD E) vwCl (pw E α β) H → va_S (pA E s.heap.size) s.heap H locs → lv_has ls 8 [(7, .int x7), (6, .int y6_275), (2, .int y2_275), (0, .ref (pL E 57))] → W p l e (pR 4) s m [.ref (pL E 57), .int a0].toArray below meth c H locs 0 0 (pQ below E s [.ref (pL E 57), .int a0].toArray (some (.int r)) α β') (F0 m 275 ls []) := by
                                    intro n
                                    induction n with
                                    | zero =>
                                      intro x7 β H locs ls hf
                                      rw [f_X10_run_L275] at hf
                                      cases hf
                                    | succ n275 ih275 =>
                                      intro x7 β H locs ls hf hP hS hl
                                      rw [f_X10_run_L275] at hf
                                      refine lv_iload hx hb dX10_run_275 (lv_at hl 0 rfl) ?_
                                      refine lv_aload_n hx hb dX10_run_277 rfl (lv_at hl 3 rfl) ?_
                                      refine g_10_113 C hP dX10_run_278 ?_
                                      refine lv_icmp_ge (tgt := 297) hx hb dX10_run_281 (by decide) (fun h38 => ?_) (fun h38 => ?_)
                                      · have hf := pif_t hf h38
                                        refine lv_aload_n hx hb dX10_run_297 rfl (lv_at hl 3 rfl) ?_
                                        refine g_10_143 C hP dX10_run_298 ?_
                                        refine lv_if_ne (tgt := 343) hx hb dX10_run_301 (by decide) (fun h39 => ?_) (fun h39 => ?_)
                                        · have hf := pif_f hf h39
                                          refine lv_aload_n hx hb dX10_run_343 rfl (lv_at hl 3 rfl) ?_
                                          refine lv_iload_n hx hb dX10_run_344 rfl (lv_at hl 2 rfl) ?_
                                          refine s_10_80 C hP hS dX10_run_345 (fun H locs hP hS => ?_)
                                          obtain ⟨β40, eβ40, hf⟩ := pl_ok hf
                                          rw [← eβ40] at hP
                                          clear eβ40
                                          refine lv_iconst (v := 0) hx hb dX10_run_348 (by decide) ?_
                                          refine lv_istore (lv' := [(7, .int 0), (6, .int y6_275), (2, .int y2_275), (0, .ref (pL E 57))]) hx hb dX10_run_349 hl (by decide) rfl (fun ls hl => ?_)
                                          have lp351 : ∀ (n : Nat) (x7 : Int32) (β : pSt) (H : Heap) (locs : List Loc) (ls : Array Slot), f_X10_run_L351 n x7 β = some (r, β') → va_P (pD E) vwCl (pw E α β) H → va_S (pA E s.heap.size) s.heap H locs → lv_has ls 8 [(7, .int x7), (0, .ref (pL E 57))] → W p l e (pR 4) s m [.ref (pL E 57), .int a0].toArray below meth c H locs 0 0 (pQ below E s [.ref (pL E 57), .int a0].toArray (some (.int r)) α β') (F0 m 351 ls []) := by
                                            intro n
                                            induction n with
                                            | zero =>
                                              intro x7 β H locs ls hf
                                              rw [f_X10_run_L351] at hf
                                              cases hf
                                            | succ n351 ih351 =>
                                              intro x7 β H locs ls hf hP hS hl
                                              rw [f_X10_run_L351] at hf
                                              refine lv_iload hx hb dX10_run_351 (lv_at hl 0 rfl) ?_
                                              refine lv_bipush (v := 6) hx hb dX10_run_353 (by decide) ?_
                                              refine lv_icmp_ge (tgt := 378) hx hb dX10_run_355 (by decide) (fun h19 => ?_) (fun h19 => ?_)
                                              · have hf := pif_t hf h19
                                                refine lv_iconst (v := 0) hx hb dX10_run_378 (by decide) ?_
                                                refine lv_istore (lv' := [(7, .int 0), (0, .ref (pL E 57))]) hx hb dX10_run_379 hl (by decide) rfl (fun ls hl => ?_)
                                                have lp381 : ∀ (n : Nat) (x7 : Int32) (β : pSt) (H : Heap) (locs : List Loc) (ls : Array Slot), f_X10_run_L381 n x7 β = some (r, β') → va_P (pD E) vwCl (pw E α β) H → va_S (pA E s.heap.size) s.heap H locs → lv_has ls 8 [(7, .int x7), (0, .ref (pL E 57))] → W p l e (pR 4) s m [.ref (pL E 57), .int a0].toArray below meth c H locs 0 0 (pQ below E s [.ref (pL E 57), .int a0].toArray (some (.int r)) α β') (F0 m 381 ls []) := by
                                                  intro n
                                                  induction n with
                                                  | zero =>
                                                    intro x7 β H locs ls hf
                                                    rw [f_X10_run_L381] at hf
                                                    cases hf
                                                  | succ n381 ih381 =>
                                                    intro x7 β H locs ls hf hP hS hl
                                                    rw [f_X10_run_L381] at hf
                                                    refine lv_iload hx hb dX10_run_381 (lv_at hl 0 rfl) ?_
                                                    refine lv_iconst (v := 4) hx hb dX10_run_383 (by decide) ?_
                                                    refine lv_icmp_ge (tgt := 407) hx hb dX10_run_384 (by decide) (fun h20 => ?_) (fun h20 => ?_)
                                                    · have hf := pif_t hf h20
                                                      refine lv_aload_n hx hb dX10_run_407 rfl (lv_at hl 1 rfl) ?_
                                                      refine g_10_143 C hP dX10_run_408 ?_
                                                      refine lv_iconst (v := 1) hx hb dX10_run_411 (by decide) ?_
                                                      refine lv_icmp_ne (tgt := 420) hx hb dX10_run_412 (by decide) (fun h21 => ?_) (fun h21 => ?_)
                                                      · have hf := pif_f hf h21
                                                        refine lv_bipush (v := (-12)) hx hb dX10_run_420 (by decide) ?_
                                                        exact p_iret C hr hlk (pe1 hf) (pe2M hf) hP hS dX10_run_422
                                                      · have hf := pif_t hf h21
                                                        refine lv_bipush (v := (-11)) hx hb dX10_run_415 (by decide) ?_
                                                        refine lv_goto (tgt := 422) hx hb dX10_run_417 (by decide) ?_
                                                        exact p_iret C hr hlk (pe1 hf) (pe2M hf) hP hS dX10_run_422
                                                    · have hf := pif_f hf h20
                                                      refine lv_aload_n hx hb dX10_run_387 rfl (lv_at hl 1 rfl) ?_
                                                      refine g_10_65 C hP dX10_run_388 ?_
                                                      refine lv_iload hx hb dX10_run_391 (lv_at hl 0 rfl) ?_
                                                      refine lv_aload_n hx hb dX10_run_393 rfl (lv_at hl 1 rfl) ?_
                                                      refine g_10_68 C hP dX10_run_394 ?_
                                                      refine lv_iload hx hb dX10_run_397 (lv_at hl 0 rfl) ?_
                                                      obtain ⟨h22, hf⟩ := pg_ok hf
                                                      refine la_m_writtenWas C hP h22 dX10_run_399 ?_
                                                      obtain ⟨h23, hf⟩ := pg_ok hf
                                                      refine sa_m_written C hP hS h23 dX10_run_400 (fun H locs hP hS => ?_)
                                                      obtain ⟨β24, eβ24, hf⟩ := pl_ok hf
                                                      rw [← eβ24] at hP
                                                      clear eβ24
                                                      refine lv_iinc (v := (x7 + 1)) (lv' := [(7, .int (x7 + 1)), (0, .ref (pL E 57))]) hx hb dX10_run_401 hl (k := 0) rfl rfl (by decide) rfl (fun ls hl => ?_)
                                                      refine lv_goto (tgt := 381) hx hb dX10_run_404 (by decide) ?_
                                                      exact ih381 _ β24 _ _ _ hf hP hS (lv_sub hl [0, 1] rfl)
                                                exact lp381 _ _ _ _ _ _ hf hP hS (lv_sub hl [0, 1] rfl)
                                              · have hf := pif_f hf h19
                                                refine lv_aload_n hx hb dX10_run_358 rfl (lv_at hl 1 rfl) ?_
                                                refine g_10_35 C hP dX10_run_359 ?_
                                                refine lv_iload hx hb dX10_run_362 (lv_at hl 0 rfl) ?_
                                                refine lv_aload_n hx hb dX10_run_364 rfl (lv_at hl 1 rfl) ?_
                                                refine g_10_38 C hP dX10_run_365 ?_
                                                refine lv_iload hx hb dX10_run_368 (lv_at hl 0 rfl) ?_
                                                obtain ⟨h25, hf⟩ := pg_ok hf
                                                refine la_m_cellWas C hP h25 dX10_run_370 ?_
                                                obtain ⟨h26, hf⟩ := pg_ok hf
                                                refine sa_m_cells C hP hS h26 dX10_run_371 (fun H locs hP hS => ?_)
                                                obtain ⟨β27, eβ27, hf⟩ := pl_ok hf
                                                rw [← eβ27] at hP
                                                clear eβ27
                                                refine lv_iinc (v := (x7 + 1)) (lv' := [(7, .int (x7 + 1)), (0, .ref (pL E 57))]) hx hb dX10_run_372 hl (k := 0) rfl rfl (by decide) rfl (fun ls hl => ?_)
                                                refine lv_goto (tgt := 351) hx hb dX10_run_375 (by decide) ?_
                                                exact ih351 _ β27 _ _ _ hf hP hS (lv_sub hl [0, 1] rfl)
                                          exact lp351 _ _ _ _ _ _ hf hP hS (lv_sub hl [0, 3] rfl)
                                        · have hf := pif_t hf h39
                                          refine lv_aload_n hx hb dX10_run_304 rfl (lv_at hl 3 rfl) ?_
                                          refine lv_aload_n hx hb dX10_run_305 rfl (lv_at hl 3 rfl) ?_
                                          refine g_10_80 C hP dX10_run_306 ?_
                                          refine lv_iload_n hx hb dX10_run_309 rfl (lv_at hl 2 rfl) ?_
                                          refine lv_isub hx hb dX10_run_310 ?_
                                          refine s_10_171 C hP hS dX10_run_311 (fun H locs hP hS => ?_)
                                          obtain ⟨β41, eβ41, hf⟩ := pl_ok hf
                                          rw [← eβ41] at hP
                                          clear eβ41
                                          refine lv_iconst (v := 0) hx hb dX10_run_314 (by decide) ?_
                                          refine lv_istore (lv' := [(7, .int 0), (6, .int y6_275), (2, .int y2_275), (0, .ref (pL E 57))]) hx hb dX10_run_315 hl (by decide) rfl (fun ls hl => ?_)
                                          generalize y6_275 = y6_317 at hf hl
                                          have lp317 : ∀ (n : Nat) (x7 : Int32) (β : pSt) (H : Heap) (locs : List Loc) (ls : Array Slot), f_X10_run_L317 y6_317 n x7 β = some (r, β') → va_P (pD E) vwCl (pw E α β) H → va_S (pA E s.heap.size) s.heap H locs → lv_has ls 8 [(7, .int x7), (6, .int y6_317), (0, .ref (pL E 57))] → W p l e (pR 4) s m [.ref (pL E 57), .int a0].toArray below meth c H locs 0 0 (pQ below E s [.ref (pL E 57), .int a0].toArray (some (.int r)) α β') (F0 m 317 ls []) := by
                                            intro n
                                            induction n with
                                            | zero =>
                                              intro x7 β H locs ls hf
                                              rw [f_X10_run_L317] at hf
                                              cases hf
                                            | succ n317 ih317 =>
                                              intro x7 β H locs ls hf hP hS hl
                                              rw [f_X10_run_L317] at hf
                                              refine lv_iload hx hb dX10_run_317 (lv_at hl 0 rfl) ?_
                                              refine lv_iload hx hb dX10_run_319 (lv_at hl 1 rfl) ?_
                                              refine lv_icmp_ge (tgt := 338) hx hb dX10_run_321 (by decide) (fun h29 => ?_) (fun h29 => ?_)
                                              · have hf := pif_t hf h29
                                                refine lv_aload_n hx hb dX10_run_338 rfl (lv_at hl 2 rfl) ?_
                                                refine g_10_168 C hP dX10_run_339 ?_
                                                exact p_iret C hr hlk (pe1 hf) (pe2M hf) hP hS dX10_run_342
                                              · have hf := pif_f hf h29
                                                refine lv_aload_n hx hb dX10_run_324 rfl (lv_at hl 2 rfl) ?_
                                                refine g_10_53 C hP dX10_run_325 ?_
                                                refine lv_iload hx hb dX10_run_328 (lv_at hl 0 rfl) ?_
                                                refine lv_iconst (v := 0) hx hb dX10_run_330 (by decide) ?_
                                                obtain ⟨h30, hf⟩ := pg_ok hf
                                                refine sa_m_isNew C hP hS (Or.inl rfl) h30 dX10_run_331 (fun H locs hP hS => ?_)
                                                obtain ⟨β31, eβ31, hf⟩ := pl_ok hf
                                                rw [← eβ31] at hP
                                                clear eβ31
                                                refine lv_iinc (v := (x7 + 1)) (lv' := [(7, .int (x7 + 1)), (6, .int y6_317), (0, .ref (pL E 57))]) hx hb dX10_run_332 hl (k := 0) rfl rfl (by decide) rfl (fun ls hl => ?_)
                                                refine lv_goto (tgt := 317) hx hb dX10_run_335 (by decide) ?_
                                                exact ih317 _ β31 _ _ _ hf hP hS (lv_sub hl [0, 1, 2] rfl)
                                          exact lp317 _ _ _ _ _ _ hf hP hS (lv_sub hl [0, 1, 3] rfl)
                                      · have hf := pif_f hf h38
                                        refine lv_aload_n hx hb dX10_run_284 rfl (lv_at hl 3 rfl) ?_
                                        refine lv_iload hx hb dX10_run_285 (lv_at hl 0 rfl) ?_
                                        refine lv_iconst (v := (-1)) hx hb dX10_run_287 (by decide) ?_
                                        obtain ⟨r42, β43, hc44, hf⟩ := pb2_ok hf
                                        refine p_callV (n := 2) (As := [.int x7, .int (-1)]) (rest := []) C hP hS (wv_10_163 C.2.2.2.2.1 _) (c_X10_meet l C.2.2.2.2.2.2  hc44) (e_X10) rfl rfl hd_X10_meet rfl ⟨Nat.le_of_ble_eq_true rfl, Nat.le_of_ble_eq_true rfl⟩ hl.1 rfl (Nat.le_of_ble_eq_true rfl) dX10_run_288 ⟨Nat.zero_le _, Nat.zero_le _⟩ (fun H locs hP hS _ _ => ?_)
                                        refine W.eq (g2 := F0 m 291 ls []) rfl ?_
                                        refine lv_iinc (v := (x7 + 1)) (lv' := [(7, .int (x7 + 1)), (6, .int y6_275), (2, .int y2_275), (0, .ref (pL E 57))]) hx hb dX10_run_291 hl (k := 0) rfl rfl (by decide) rfl (fun ls hl => ?_)
                                        refine lv_goto (tgt := 275) hx hb dX10_run_294 (by decide) ?_
                                        exact ih275 _ β43 _ _ _ hf hP hS (lv_sub hl [0, 1, 2, 3] rfl)
                                  exact lp275 _ _ _ _ _ _ hf hP hS (lv_sub hl [0, 1, 5, 6] rfl)
                            · have hf := pif_t hf h45
                              refine lv_aload_n hx hb dX10_run_185 rfl (lv_at hl 4 rfl) ?_
                              refine g_10_80 C hP dX10_run_186 ?_
                              refine lv_istore (lv' := [(6, .int (β 15 0)), (5, .int x5), (4, .int x4), (3, .int x3), (2, .int y2_174), (0, .ref (pL E 57))]) hx hb dX10_run_189 hl (by decide) rfl (fun ls hl => ?_)
                              refine lv_aload_n hx hb dX10_run_191 rfl (lv_at hl 5 rfl) ?_
                              refine lv_dup hx hb dX10_run_192 rfl ?_
                              refine g_10_168 C hP dX10_run_193 ?_
                              refine lv_iconst (v := 1) hx hb dX10_run_196 (by decide) ?_
                              refine lv_iadd hx hb dX10_run_197 ?_
                              refine s_10_168 C hP hS dX10_run_198 (fun H locs hP hS => ?_)
                              obtain ⟨β56, eβ56, hf⟩ := pl_ok hf
                              rw [← eβ56] at hP
                              clear eβ56
                              refine lv_aload_n hx hb dX10_run_201 rfl (lv_at hl 5 rfl) ?_
                              refine lv_aload_n hx hb dX10_run_202 rfl (lv_at hl 5 rfl) ?_
                              refine g_10_168 C hP dX10_run_203 ?_
                              refine s_10_137 C hP hS dX10_run_206 (fun H locs hP hS => ?_)
                              obtain ⟨β57, eβ57, hf⟩ := pl_ok hf
                              rw [← eβ57] at hP
                              clear eβ57
                              refine lv_aload_n hx hb dX10_run_209 rfl (lv_at hl 5 rfl) ?_
                              refine lv_iload hx hb dX10_run_210 (lv_at hl 2 rfl) ?_
                              refine lv_iload hx hb dX10_run_212 (lv_at hl 0 rfl) ?_
                              refine lv_iload hx hb dX10_run_214 (lv_at hl 1 rfl) ?_
                              obtain ⟨r58, β59, hc60, hf⟩ := pb2_ok hf
                              refine p_callV (n := 3) (As := [.int x4, .int (β 15 0), .int x5]) (rest := []) C hP hS (wv_10_174 C.2.2.2.2.1 _) (c_X10_turn l C.2.2.2.2.2.2  hc60) (e_X10) rfl rfl hd_X10_turn rfl ⟨Nat.le_of_ble_eq_true rfl, Nat.le_of_ble_eq_true rfl⟩ hl.1 rfl (Nat.le_of_ble_eq_true rfl) dX10_run_216 ⟨Nat.zero_le _, Nat.zero_le _⟩ (fun H locs hP hS _ _ => ?_)
                              refine W.eq (g2 := F0 m 219 ls []) rfl ?_
                              refine lv_iconst (v := 0) hx hb dX10_run_219 (by decide) ?_
                              refine lv_istore (lv' := [(5, .int 0), (6, .int (β 15 0)), (4, .int x4), (3, .int x3), (2, .int y2_174), (0, .ref (pL E 57))]) hx hb dX10_run_220 hl (by decide) rfl (fun ls hl => ?_)
                              refine lv_iload hx hb dX10_run_222 (lv_at hl 1 rfl) ?_
                              refine lv_istore (lv' := [(4, .int (β 15 0)), (5, .int 0), (6, .int (β 15 0)), (3, .int x3), (2, .int y2_174), (0, .ref (pL E 57))]) hx hb dX10_run_224 hl (by decide) rfl (fun ls hl => ?_)
                              refine lv_aload_n hx hb dX10_run_226 rfl (lv_at hl 5 rfl) ?_
                              refine g_10_80 C hP dX10_run_227 ?_
                              refine lv_iload hx hb dX10_run_230 (lv_at hl 2 rfl) ?_
                              refine lv_isub hx hb dX10_run_232 ?_
                              refine lv_istore_n (lv' := [(3, .int ((β59 15 0) - (β 15 0))), (4, .int (β 15 0)), (5, .int 0), (6, .int (β 15 0)), (2, .int y2_174), (0, .ref (pL E 57))]) hx hb dX10_run_233 rfl hl (by decide) rfl (fun ls hl => ?_)
                              refine lv_goto (tgt := 174) hx hb dX10_run_234 (by decide) ?_
                              exact ih174 _ _ _ β59 _ _ _ hf hP hS (lv_sub hl [2, 1, 0, 4, 5] rfl)
                      exact lp174 _ _ _ _ _ _ _ _ hf hP hS (lv_sub hl [0, 1, 2, 3, 4] rfl)
                    · have hf := pif_f hf h7
                      refine lv_aload_n hx hb dX10_run_113 rfl (lv_at hl 3 rfl) ?_
                      refine g_10_68 C hP dX10_run_114 ?_
                      refine lv_iload hx hb dX10_run_117 (lv_at hl 0 rfl) ?_
                      refine lv_aload_n hx hb dX10_run_119 rfl (lv_at hl 3 rfl) ?_
                      refine g_10_65 C hP dX10_run_120 ?_
                      refine lv_iload hx hb dX10_run_123 (lv_at hl 0 rfl) ?_
                      obtain ⟨h61, hf⟩ := pg_ok hf
                      refine la_m_written C hP h61 dX10_run_125 ?_
                      obtain ⟨h62, hf⟩ := pg_ok hf
                      refine sa_m_writtenWas C hP hS h62 dX10_run_126 (fun H locs hP hS => ?_)
                      obtain ⟨β63, eβ63, hf⟩ := pl_ok hf
                      rw [← eβ63] at hP
                      clear eβ63
                      refine lv_iinc (v := (x4 + 1)) (lv' := [(4, .int (x4 + 1)), (3, .int y3_107), (2, .int y2_107), (0, .ref (pL E 57)), (1, .int a0)]) hx hb dX10_run_127 hl (k := 0) rfl rfl (by decide) rfl (fun ls hl => ?_)
                      refine lv_goto (tgt := 107) hx hb dX10_run_130 (by decide) ?_
                      exact ih107 _ β63 _ _ _ hf hP hS (lv_sub hl [0, 1, 2, 3, 4] rfl)
                exact lp107 _ _ _ _ _ _ hf hP hS (lv_sub hl [0, 1, 2, 3, 4] rfl)
              · have hf := pif_f hf h6
                refine lv_aload_n hx hb dX10_run_68 rfl (lv_at hl 3 rfl) ?_
                refine g_10_38 C hP dX10_run_69 ?_
                refine lv_iload hx hb dX10_run_72 (lv_at hl 0 rfl) ?_
                refine lv_aload_n hx hb dX10_run_74 rfl (lv_at hl 3 rfl) ?_
                refine g_10_35 C hP dX10_run_75 ?_
                refine lv_iload hx hb dX10_run_78 (lv_at hl 0 rfl) ?_
                obtain ⟨h64, hf⟩ := pg_ok hf
                refine la_m_cells C hP h64 dX10_run_80 ?_
                obtain ⟨h65, hf⟩ := pg_ok hf
                refine sa_m_cellWas C hP hS h65 dX10_run_81 (fun H locs hP hS => ?_)
                obtain ⟨β66, eβ66, hf⟩ := pl_ok hf
                rw [← eβ66] at hP
                clear eβ66
                refine lv_aload_n hx hb dX10_run_82 rfl (lv_at hl 3 rfl) ?_
                refine g_10_41 C hP dX10_run_83 ?_
                refine lv_iload hx hb dX10_run_86 (lv_at hl 0 rfl) ?_
                refine lv_iconst (v := 0) hx hb dX10_run_88 (by decide) ?_
                obtain ⟨h67, hf⟩ := pg_ok hf
                refine sa_m_stopped C hP hS (Or.inl rfl) h67 dX10_run_89 (fun H locs hP hS => ?_)
                obtain ⟨β68, eβ68, hf⟩ := pl_ok hf
                rw [← eβ68] at hP
                clear eβ68
                refine lv_aload_n hx hb dX10_run_90 rfl (lv_at hl 3 rfl) ?_
                refine g_10_44 C hP dX10_run_91 ?_
                refine lv_iload hx hb dX10_run_94 (lv_at hl 0 rfl) ?_
                refine lv_iconst (v := 0) hx hb dX10_run_96 (by decide) ?_
                obtain ⟨h69, hf⟩ := pg_ok hf
                refine sa_m_took C hP hS h69 dX10_run_97 (fun H locs hP hS => ?_)
                obtain ⟨β70, eβ70, hf⟩ := pl_ok hf
                rw [← eβ70] at hP
                clear eβ70
                refine lv_iinc (v := (x4 + 1)) (lv' := [(4, .int (x4 + 1)), (3, .int y3_61), (2, .int y2_61), (0, .ref (pL E 57)), (1, .int a0)]) hx hb dX10_run_98 hl (k := 0) rfl rfl (by decide) rfl (fun ls hl => ?_)
                refine lv_goto (tgt := 61) hx hb dX10_run_101 (by decide) ?_
                exact ih61 _ β70 _ _ _ hf hP hS (lv_sub hl [0, 1, 2, 3, 4] rfl)
          exact lp61 _ _ _ _ _ _ hf hP hS (lv_sub hl [0, 1, 2, 3, 4] rfl)
        · have hf := pif_f hf h5
          refine lv_iload_n hx hb dX10_run_34 rfl (lv_at hl 1 rfl) ?_
          refine lv_aload_n hx hb dX10_run_35 rfl (lv_at hl 3 rfl) ?_
          refine g_10_53 C hP dX10_run_36 ?_
          refine lv_iload hx hb dX10_run_39 (lv_at hl 0 rfl) ?_
          obtain ⟨h71, hf⟩ := pg_ok hf
          refine la_m_isNew C hP h71 dX10_run_41 ?_
          refine lv_if_eq (tgt := 49) hx hb dX10_run_42 (by decide) (fun h72 => ?_) (fun h72 => ?_)
          · have hf := pif_t hf h72
            refine lv_iconst (v := 0) hx hb dX10_run_49 (by decide) ?_
            refine lv_iadd hx hb dX10_run_50 ?_
            refine lv_istore_n (lv' := [(3, .int (x3 + 0)), (4, .int x4), (2, .int y2_25), (0, .ref (pL E 57)), (1, .int a0)]) hx hb dX10_run_51 rfl hl (by decide) rfl (fun ls hl => ?_)
            refine lv_iinc (v := (x4 + 1)) (lv' := [(4, .int (x4 + 1)), (3, .int (x3 + 0)), (2, .int y2_25), (0, .ref (pL E 57)), (1, .int a0)]) hx hb dX10_run_52 hl (k := 1) rfl rfl (by decide) rfl (fun ls hl => ?_)
            refine lv_goto (tgt := 25) hx hb dX10_run_55 (by decide) ?_
            exact ih25 _ _ β _ _ _ hf hP hS (lv_sub hl [0, 1, 2, 3, 4] rfl)
          · have hf := pif_f hf h72
            refine lv_iconst (v := 1) hx hb dX10_run_45 (by decide) ?_
            refine lv_goto (tgt := 50) hx hb dX10_run_46 (by decide) ?_
            refine lv_iadd hx hb dX10_run_50 ?_
            refine lv_istore_n (lv' := [(3, .int (x3 + 1)), (4, .int x4), (2, .int y2_25), (0, .ref (pL E 57)), (1, .int a0)]) hx hb dX10_run_51 rfl hl (by decide) rfl (fun ls hl => ?_)
            refine lv_iinc (v := (x4 + 1)) (lv' := [(4, .int (x4 + 1)), (3, .int (x3 + 1)), (2, .int y2_25), (0, .ref (pL E 57)), (1, .int a0)]) hx hb dX10_run_52 hl (k := 1) rfl rfl (by decide) rfl (fun ls hl => ?_)
            refine lv_goto (tgt := 25) hx hb dX10_run_55 (by decide) ?_
            exact ih25 _ _ β _ _ _ hf hP hS (lv_sub hl [0, 1, 2, 3, 4] rfl)
    exact lp25 _ _ _ _ _ _ _ hf hP hS (lv_sub hl [0, 1, 2, 3, 4] rfl)
  · have hf := pif_t hf h4
    refine lv_bipush (v := (-102)) hx hb dX10_run_12 (by decide) ?_
    exact p_iret C hr hlk (pe1 hf) (pe2M hf) hP hS dX10_run_14
