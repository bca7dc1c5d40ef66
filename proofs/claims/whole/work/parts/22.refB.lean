set_option maxHeartbeats 4000000 in
set_option maxRecDepth 100000 in
theorem c_X10_feed (l : Launch) {E : pE} (hE : pInj E) {α : pSt} {a0 : Int32} {a1 : Int64} {β β' : pSt} {r : Int32} (hf : f_X10_feed a0 a1 β = some (r, β')) : pM l E yX10_feed cX10_feed 5 (some .int) 1 [.ref (pL E 57), .int a0, .long a1] α β (some (.int r)) α β' := by
  refine pM.ofW hE (by decide) ?_ (Nat.le_of_ble_eq_true rfl)
  intro p e s m below meth c ls C hr hlk hP hl
  have C : pCx p s m c cX10_feed 5 E RX10 := C
  have hS : va_S (pA E s.heap.size) s.heap s.heap [] := va_S.rf
  have hx := C.1
  have hb := C.2.1
  have hl : lv_has ls 5 [(0, .ref (pL E 57)), (1, .int a0), (2, .long a1)] := hl
  unfold f_X10_feed at hf
  refine lv_iload_n hx hb dX10_feed_0 rfl (lv_at hl 1 rfl) ?_
  refine lv_i2l hx hb dX10_feed_1 rfl ?_
  refine lv_lconst (v := 1) hx hb dX10_feed_2 (by decide) ?_
  refine lv_ldc2 (v := 8) hx hb C.2.2.2.1 (C.2.2.2.2.1.1 _ (List.mem_of_getElem? (i := 934) rfl) rfl _) dX10_feed_3 ?_
  obtain ⟨r1, β2, hc3, hf⟩ := pb2_ok hf
  refine p_callS (n := 3) (As := [.long (a0.toInt64), .long 1, .long 8]) (rest := []) C hP hS (wv_10_89 C.2.2.2.2.1 _) (c_X10_in l C.2.2.2.2.2.2  hc3) hd_X10_in rfl ⟨Nat.le_of_ble_eq_true rfl, Nat.le_of_ble_eq_true rfl⟩ hl.1 rfl (Nat.le_of_ble_eq_true rfl) dX10_feed_6 ⟨Nat.zero_le _, Nat.zero_le _⟩ (fun H locs hP hS _ _ => ?_)
  refine W.eq (g2 := F0 m 9 ls [.int r1]) rfl ?_
  refine lv_if_ne (tgt := 15) hx hb dX10_feed_9 (by decide) (fun h4 => ?_) (fun h4 => ?_)
  · have hf := pif_f hf h4
    refine lv_aload_n hx hb dX10_feed_15 rfl (lv_at hl 0 rfl) ?_
    refine g_10_93 C hP dX10_feed_16 ?_
    refine lv_iload_n hx hb dX10_feed_19 rfl (lv_at hl 1 rfl) ?_
    refine lv_iadd hx hb dX10_feed_20 ?_
    refine lv_bipush (v := 64) hx hb dX10_feed_21 (by decide) ?_
    refine lv_icmp_le (tgt := 29) hx hb dX10_feed_23 (by decide) (fun h5 => ?_) (fun h5 => ?_)
    · have hf := pif_t hf h5
      refine lv_iload_n hx hb dX10_feed_29 rfl (lv_at hl 1 rfl) ?_
      refine lv_iconst (v := 1) hx hb dX10_feed_30 (by decide) ?_
      refine lv_isub hx hb dX10_feed_31 ?_
      refine lv_istore (lv' := [(4, .int (a0 - 1)), (0, .ref (pL E 57)), (1, .int a0), (2, .long a1)]) hx hb dX10_feed_32 hl (by decide) rfl (fun ls hl => ?_)
      have lp34 : ∀ (n : Nat) (x4 : Int32) (β : pSt) (H : Heap) (locs : List Loc) (ls : Array Slot), f_X10_feed_L34 a1 n x4 β = some (r, β') → va_P (pD E) vwCl (pw E α β) H → va_S (pA E s.heap.size) s.heap H locs → lv_has ls 5 [(4, .int x4), (0, .ref (pL E 57)), (2, .long a1)] → W p l e (pR 1) s m [.ref (pL E 57), .int a0, .long a1].toArray below meth c H locs 0 0 (pQ below E s [.ref (pL E 57), .int a0, .long a1].toArray (some (.int r)) α β') (F0 m 34 ls []) := by
        intro n
        induction n with
        | zero =>
          intro x4 β H locs ls hf
          rw [f_X10_feed_L34] at hf
          cases hf
        | succ n34 ih34 =>
          intro x4 β H locs ls hf hP hS hl
          rw [f_X10_feed_L34] at hf
          refine lv_iload hx hb dX10_feed_34 (lv_at hl 0 rfl) ?_
          refine lv_if_lt (tgt := 76) hx hb dX10_feed_36 (by decide) (fun h6 => ?_) (fun h6 => ?_)
          · have hf := pif_t hf h6
            refine lv_aload_n hx hb dX10_feed_76 rfl (lv_at hl 1 rfl) ?_
            refine g_10_93 C hP dX10_feed_77 ?_
            exact p_iret C hr hlk (pe1 hf) (pe2M hf) hP hS dX10_feed_80
          · have hf := pif_f hf h6
            refine lv_aload_n hx hb dX10_feed_39 rfl (lv_at hl 1 rfl) ?_
            refine g_10_7 C hP dX10_feed_40 ?_
            refine lv_aload_n hx hb dX10_feed_43 rfl (lv_at hl 1 rfl) ?_
            refine g_10_93 C hP dX10_feed_44 ?_
            refine lv_lload_n hx hb dX10_feed_47 rfl (lv_at hl 2 rfl) ?_
            refine lv_bipush (v := 8) hx hb dX10_feed_48 (by decide) ?_
            refine lv_iload hx hb dX10_feed_50 (lv_at hl 0 rfl) ?_
            refine lv_imul hx hb dX10_feed_52 ?_
            refine lv_lshr hx hb dX10_feed_53 rfl ?_
            refine lv_ldc2 (v := 255) hx hb C.2.2.2.1 (C.2.2.2.2.1.1 _ (List.mem_of_getElem? (i := 938) rfl) rfl _) dX10_feed_54 ?_
            refine lv_land hx hb dX10_feed_57 ?_
            refine lv_l2i hx hb dX10_feed_58 rfl ?_
            obtain ⟨h7, hf⟩ := pg_ok hf
            refine sa_m_tape C hP hS h7 dX10_feed_59 (fun H locs hP hS => ?_)
            obtain ⟨β8, eβ8, hf⟩ := pl_ok hf
            rw [← eβ8] at hP
            clear eβ8
            refine lv_aload_n hx hb dX10_feed_60 rfl (lv_at hl 1 rfl) ?_
            refine lv_dup hx hb dX10_feed_61 rfl ?_
            refine g_10_93 C hP dX10_feed_62 ?_
            refine lv_iconst (v := 1) hx hb dX10_feed_65 (by decide) ?_
            refine lv_iadd hx hb dX10_feed_66 ?_
            refine s_10_93 C hP hS dX10_feed_67 (fun H locs hP hS => ?_)
            obtain ⟨β9, eβ9, hf⟩ := pl_ok hf
            rw [← eβ9] at hP
            clear eβ9
            refine lv_iinc (v := (x4 + (-1))) (lv' := [(4, .int (x4 + (-1))), (0, .ref (pL E 57)), (2, .long a1)]) hx hb dX10_feed_70 hl (k := 0) rfl rfl (by decide) rfl (fun ls hl => ?_)
            refine lv_goto (tgt := 34) hx hb dX10_feed_73 (by decide) ?_
            exact ih34 _ β9 _ _ _ hf hP hS (lv_sub hl [0, 1, 2] rfl)
      exact lp34 _ _ _ _ _ _ hf hP hS (lv_sub hl [0, 1, 3] rfl)
    · have hf := pif_f hf h5
      refine lv_bipush (v := (-104)) hx hb dX10_feed_26 (by decide) ?_
      exact p_iret C hr hlk (pe1 hf) (pe2M hf) hP hS dX10_feed_28
  · have hf := pif_t hf h4
    refine lv_bipush (v := (-102)) hx hb dX10_feed_12 (by decide) ?_
    exact p_iret C hr hlk (pe1 hf) (pe2M hf) hP hS dX10_feed_14
set_option maxHeartbeats 4000000 in
set_option maxRecDepth 100000 in
theorem c_X10_isFile (l : Launch) {E : pE} (hE : pInj E) {α : pSt} {a0 : Int32} {β β' : pSt} {r : Int32} (hf : f_X10_isFile a0 β = some (r, β')) : pM l E yX10_isFile cX10_isFile 1 (some .boolean) 1 [.int a0] α β (some (.int r)) α β' := by
  refine pM.ofW hE (by decide) ?_ (Nat.le_of_ble_eq_true rfl)
  intro p e s m below meth c ls C hr hlk hP hl
  have C : pCx p s m c cX10_isFile 1 E RX10 := C
  have hS : va_S (pA E s.heap.size) s.heap s.heap [] := va_S.rf
  have hx := C.1
  have hb := C.2.1
  have hl : lv_has ls 1 [(0, .int a0)] := hl
  unfold f_X10_isFile at hf
  refine lv_iload_n hx hb dX10_isFile_0 rfl (lv_at hl 0 rfl) ?_
  refine lv_i2l hx hb dX10_isFile_1 rfl ?_
  refine lv_lconst (v := 0) hx hb dX10_isFile_2 (by decide) ?_
  refine lv_ldc2 (v := 5) hx hb C.2.2.2.1 (C.2.2.2.2.1.1 _ (List.mem_of_getElem? (i := 946) rfl) rfl _) dX10_isFile_3 ?_
  obtain ⟨r1, β2, hc3, hf⟩ := pb2_ok hf
  refine p_callS (n := 3) (As := [.long (a0.toInt64), .long 0, .long 5]) (rest := []) C hP hS (wv_10_89 C.2.2.2.2.1 _) (c_X10_in l C.2.2.2.2.2.2  hc3) hd_X10_in rfl ⟨Nat.le_of_ble_eq_true rfl, Nat.le_of_ble_eq_true rfl⟩ hl.1 rfl (Nat.le_of_ble_eq_true rfl) dX10_isFile_6 ⟨Nat.zero_le _, Nat.zero_le _⟩ (fun H locs hP hS _ _ => ?_)
  refine W.eq (g2 := F0 m 9 ls [.int r1]) rfl ?_
  obtain ⟨h4, hf⟩ := pg_ok hf
  exact p_zret C hr hlk (pbl_ok h4) (pe1 hf) (pe2M hf) hP hS dX10_isFile_9
set_option maxHeartbeats 4000000 in
set_option maxRecDepth 100000 in
theorem c_X10_clause (l : Launch) {E : pE} (hE : pInj E) {α : pSt} {a0 : Int32} {β β' : pSt} {r : Int32} (hf : f_X10_clause a0 β = some (r, β')) : pM l E yX10_clause cX10_clause 6 (some .int) 1 [.ref (pL E 57), .int a0] α β (some (.int r)) α β' := by
  refine pM.ofW hE (by decide) ?_ (Nat.le_of_ble_eq_true rfl)
  intro p e s m below meth c ls C hr hlk hP hl
  have C : pCx p s m c cX10_clause 6 E RX10 := C
  have hS : va_S (pA E s.heap.size) s.heap s.heap [] := va_S.rf
  have hx := C.1
  have hb := C.2.1
  have hl : lv_has ls 6 [(0, .ref (pL E 57)), (1, .int a0)] := hl
  unfold f_X10_clause at hf
  refine lv_bipush (v := 64) hx hb dX10_clause_0 (by decide) ?_
  refine lv_iload_n hx hb dX10_clause_2 rfl (lv_at hl 1 rfl) ?_
  refine lv_imul hx hb dX10_clause_3 ?_
  refine lv_istore_n (lv' := [(2, .int (64 * a0)), (0, .ref (pL E 57)), (1, .int a0)]) hx hb dX10_clause_4 rfl hl (by decide) rfl (fun ls hl => ?_)
  refine lv_aload_n hx hb dX10_clause_5 rfl (lv_at hl 1 rfl) ?_
  refine g_10_13 C hP dX10_clause_6 ?_
  refine lv_iload_n hx hb dX10_clause_9 rfl (lv_at hl 2 rfl) ?_
  obtain ⟨h1, hf⟩ := pg_ok hf
  refine la_m_size C hP h1 dX10_clause_10 ?_
  refine lv_iconst (v := 4) hx hb dX10_clause_11 (by decide) ?_
  refine lv_icmp_ge (tgt := 17) hx hb dX10_clause_12 (by decide) (fun h2 => ?_) (fun h2 => ?_)
  · have hf := pif_t hf h2
    refine lv_aload_n hx hb dX10_clause_17 rfl (lv_at hl 1 rfl) ?_
    refine g_10_16 C hP dX10_clause_18 ?_
    refine lv_iload_n hx hb dX10_clause_21 rfl (lv_at hl 0 rfl) ?_
    obtain ⟨h3, hf⟩ := pg_ok hf
    refine la_m_file C hP h3 dX10_clause_22 ?_
    refine lv_bipush (v := 80) hx hb dX10_clause_23 (by decide) ?_
    refine lv_icmp_ne (tgt := 41) hx hb dX10_clause_25 (by decide) (fun h4 => ?_) (fun h4 => ?_)
    · have hf := pif_f hf h4
      refine lv_iconst (v := 2) hx hb dX10_clause_41 (by decide) ?_
      exact p_iret C hr hlk (pe1 hf) (pe2M hf) hP hS dX10_clause_42
    · have hf := pif_t hf h4
      refine lv_aload_n hx hb dX10_clause_28 rfl (lv_at hl 1 rfl) ?_
      refine g_10_16 C hP dX10_clause_29 ?_
      refine lv_iload_n hx hb dX10_clause_32 rfl (lv_at hl 0 rfl) ?_
      refine lv_iconst (v := 1) hx hb dX10_clause_33 (by decide) ?_
      refine lv_iadd hx hb dX10_clause_34 ?_
      obtain ⟨h5, hf⟩ := pg_ok hf
      refine la_m_file C hP h5 dX10_clause_35 ?_
      refine lv_bipush (v := 82) hx hb dX10_clause_36 (by decide) ?_
      refine lv_icmp_eq (tgt := 43) hx hb dX10_clause_38 (by decide) (fun h6 => ?_) (fun h6 => ?_)
      · have hf := pif_t hf h6
        refine lv_aload_n hx hb dX10_clause_43 rfl (lv_at hl 1 rfl) ?_
        refine g_10_16 C hP dX10_clause_44 ?_
        refine lv_iload_n hx hb dX10_clause_47 rfl (lv_at hl 0 rfl) ?_
        refine lv_iconst (v := 2) hx hb dX10_clause_48 (by decide) ?_
        refine lv_iadd hx hb dX10_clause_49 ?_
        obtain ⟨h7, hf⟩ := pg_ok hf
        refine la_m_file C hP h7 dX10_clause_50 ?_
        refine lv_istore_n (lv' := [(3, .int (β 4 (((64 * a0) + 2).toNatClampNeg))), (2, .int (64 * a0)), (0, .ref (pL E 57)), (1, .int a0)]) hx hb dX10_clause_51 rfl hl (by decide) rfl (fun ls hl => ?_)
        refine lv_iload_n hx hb dX10_clause_52 rfl (lv_at hl 0 rfl) ?_
        refine lv_i2l hx hb dX10_clause_53 rfl ?_
        refine lv_lconst (v := 1) hx hb dX10_clause_54 (by decide) ?_
        refine lv_ldc2 (v := 12) hx hb C.2.2.2.1 (C.2.2.2.2.1.1 _ (List.mem_of_getElem? (i := 967) rfl) rfl _) dX10_clause_55 ?_
        obtain ⟨r8, β9, hc10, hf⟩ := pb2_ok hf
        refine p_callS (n := 3) (As := [.long ((β 4 (((64 * a0) + 2).toNatClampNeg)).toInt64), .long 1, .long 12]) (rest := []) C hP hS (wv_10_89 C.2.2.2.2.1 _) (c_X10_in l C.2.2.2.2.2.2  hc10) hd_X10_in rfl ⟨Nat.le_of_ble_eq_true rfl, Nat.le_of_ble_eq_true rfl⟩ hl.1 rfl (Nat.le_of_ble_eq_true rfl) dX10_clause_58 ⟨Nat.zero_le _, Nat.zero_le _⟩ (fun H locs hP hS _ _ => ?_)
        refine W.eq (g2 := F0 m 61 ls [.int r8]) rfl ?_
        refine lv_if_ne (tgt := 66) hx hb dX10_clause_61 (by decide) (fun h11 => ?_) (fun h11 => ?_)
        · have hf := pif_f hf h11
          refine lv_aload_n hx hb dX10_clause_66 rfl (lv_at hl 2 rfl) ?_
          refine g_10_13 C hP dX10_clause_67 ?_
          refine lv_iload_n hx hb dX10_clause_70 rfl (lv_at hl 3 rfl) ?_
          obtain ⟨h12, hf⟩ := pg_ok hf
          refine la_m_size C hP h12 dX10_clause_71 ?_
          refine lv_iconst (v := 4) hx hb dX10_clause_72 (by decide) ?_
          refine lv_iload_n hx hb dX10_clause_73 rfl (lv_at hl 0 rfl) ?_
          refine lv_imul hx hb dX10_clause_74 ?_
          refine lv_iconst (v := 4) hx hb dX10_clause_75 (by decide) ?_
          refine lv_iadd hx hb dX10_clause_76 ?_
          refine lv_icmp_eq (tgt := 82) hx hb dX10_clause_77 (by decide) (fun h13 => ?_) (fun h13 => ?_)
          · have hf := pif_t hf h13
            refine lv_aload_n hx hb dX10_clause_82 rfl (lv_at hl 2 rfl) ?_
            refine g_10_16 C hP dX10_clause_83 ?_
            refine lv_iload_n hx hb dX10_clause_86 rfl (lv_at hl 1 rfl) ?_
            obtain ⟨h14, hf⟩ := pg_ok hf
            refine la_m_file C hP h14 dX10_clause_87 ?_
            refine lv_aload_n hx hb dX10_clause_88 rfl (lv_at hl 2 rfl) ?_
            refine g_10_16 C hP dX10_clause_89 ?_
            refine lv_iload_n hx hb dX10_clause_92 rfl (lv_at hl 1 rfl) ?_
            refine lv_iconst (v := 1) hx hb dX10_clause_93 (by decide) ?_
            refine lv_iadd hx hb dX10_clause_94 ?_
            obtain ⟨h15, hf⟩ := pg_ok hf
            refine la_m_file C hP h15 dX10_clause_95 ?_
            refine lv_iadd hx hb dX10_clause_96 ?_
            refine lv_iload_n hx hb dX10_clause_97 rfl (lv_at hl 0 rfl) ?_
            refine lv_iadd hx hb dX10_clause_98 ?_
            refine lv_istore (lv' := [(4, .int (((β9 4 ((64 * a0).toNatClampNeg)) + (β9 4 (((64 * a0) + 1).toNatClampNeg))) + (β 4 (((64 * a0) + 2).toNatClampNeg)))), (3, .int (β 4 (((64 * a0) + 2).toNatClampNeg))), (2, .int (64 * a0)), (0, .ref (pL E 57)), (1, .int a0)]) hx hb dX10_clause_99 hl (by decide) rfl (fun ls hl => ?_)
            refine lv_iconst (v := 0) hx hb dX10_clause_101 (by decide) ?_
            refine lv_istore (lv' := [(5, .int 0), (4, .int (((β9 4 ((64 * a0).toNatClampNeg)) + (β9 4 (((64 * a0) + 1).toNatClampNeg))) + (β 4 (((64 * a0) + 2).toNatClampNeg)))), (3, .int (β 4 (((64 * a0) + 2).toNatClampNeg))), (2, .int (64 * a0)), (0, .ref (pL E 57)), (1, .int a0)]) hx hb dX10_clause_102 hl (by decide) rfl (fun ls hl => ?_)
            generalize (((β9 4 ((64 * a0).toNatClampNeg)) + (β9 4 (((64 * a0) + 1).toNatClampNeg))) + (β 4 (((64 * a0) + 2).toNatClampNeg))) = y4_104 at hf hl
            generalize (β 4 (((64 * a0) + 2).toNatClampNeg)) = y3_104 at hf hl
            generalize (64 * a0) = y2_104 at hf hl
            have lp104 : ∀ (n : Nat) (x5 : Int32) (β : pSt) (H : Heap) (locs : List Loc) (ls : Array Slot), f_X10_clause_L104 y4_104 y3_104 y2_104 n x5 β = some (r, β') → va_P (pD E) vwCl (pw E α β) H → va_S (pA E s.heap.size) s.heap H locs → lv_has ls 6 [(5, .int x5), (4, .int y4_104), (3, .int y3_104), (2, .int y2_104), (0, .ref (pL E 57))] → W p l e (pR 1) s m [.ref (pL E 57), .int a0].toArray below meth c H locs 0 0 (pQ below E s [.ref (pL E 57), .int a0].toArray (some (.int r)) α β') (F0 m 104 ls []) := by
              intro n
              induction n with
              | zero =>
                intro x5 β H locs ls hf
                rw [f_X10_clause_L104] at hf
                cases hf
              | succ n104 ih104 =>
                intro x5 β H locs ls hf hP hS hl
                rw [f_X10_clause_L104] at hf
                refine lv_iload hx hb dX10_clause_104 (lv_at hl 0 rfl) ?_
                refine lv_iload_n hx hb dX10_clause_106 rfl (lv_at hl 2 rfl) ?_
                refine lv_icmp_ge (tgt := 133) hx hb dX10_clause_107 (by decide) (fun h16 => ?_) (fun h16 => ?_)
                · have hf := pif_t hf h16
                  refine lv_iconst (v := 3) hx hb dX10_clause_133 (by decide) ?_
                  refine lv_istore (lv' := [(5, .int 3), (4, .int y4_104), (3, .int y3_104), (2, .int y2_104), (0, .ref (pL E 57))]) hx hb dX10_clause_134 hl (by decide) rfl (fun ls hl => ?_)
                  generalize y3_104 = y3_136 at hf hl
                  generalize y2_104 = y2_136 at hf hl
                  have lp136 : ∀ (n : Nat) (x5 : Int32) (x4 : Int32) (β : pSt) (H : Heap) (locs : List Loc) (ls : Array Slot), f_X10_clause_L136 y3_136 y2_136 n x5 x4 β = some (r, β') → va_P (pD E) vwCl (pw E α β) H → va_S (pA E s.heap.size) s.heap H locs → lv_has ls 6 [(5, .int x5), (4, .int x4), (3, .int y3_136), (2, .int y2_136), (0, .ref (pL E 57))] → W p l e (pR 1) s m [.ref (pL E 57), .int a0].toArray below meth c H locs 0 0 (pQ below E s [.ref (pL E 57), .int a0].toArray (some (.int r)) α β') (F0 m 136 ls []) := by
                    intro n
                    induction n with
                    | zero =>
                      intro x5 x4 β H locs ls hf
                      rw [f_X10_clause_L136] at hf
                      cases hf
                    | succ n136 ih136 =>
                      intro x5 x4 β H locs ls hf hP hS hl
                      rw [f_X10_clause_L136] at hf
                      refine lv_iload hx hb dX10_clause_136 (lv_at hl 0 rfl) ?_
                      refine lv_iconst (v := 4) hx hb dX10_clause_138 (by decide) ?_
                      refine lv_iload_n hx hb dX10_clause_139 rfl (lv_at hl 2 rfl) ?_
                      refine lv_imul hx hb dX10_clause_140 ?_
                      refine lv_iconst (v := 3) hx hb dX10_clause_141 (by decide) ?_
                      refine lv_iadd hx hb dX10_clause_142 ?_
                      refine lv_icmp_ge (tgt := 166) hx hb dX10_clause_143 (by decide) (fun h17 => ?_) (fun h17 => ?_)
                      · have hf := pif_t hf h17
                        refine lv_iload hx hb dX10_clause_166 (lv_at hl 1 rfl) ?_
                        refine lv_sipush (v := 255) hx hb dX10_clause_168 (by decide) ?_
                        refine lv_iand hx hb dX10_clause_171 ?_
                        refine lv_aload_n hx hb dX10_clause_172 rfl (lv_at hl 4 rfl) ?_
                        refine g_10_16 C hP dX10_clause_173 ?_
                        refine lv_iload_n hx hb dX10_clause_176 rfl (lv_at hl 3 rfl) ?_
                        refine lv_iconst (v := 4) hx hb dX10_clause_177 (by decide) ?_
                        refine lv_iload_n hx hb dX10_clause_178 rfl (lv_at hl 2 rfl) ?_
                        refine lv_imul hx hb dX10_clause_179 ?_
                        refine lv_iadd hx hb dX10_clause_180 ?_
                        refine lv_iconst (v := 3) hx hb dX10_clause_181 (by decide) ?_
                        refine lv_iadd hx hb dX10_clause_182 ?_
                        obtain ⟨h18, hf⟩ := pg_ok hf
                        refine la_m_file C hP h18 dX10_clause_183 ?_
                        refine lv_icmp_ne (tgt := 191) hx hb dX10_clause_184 (by decide) (fun h19 => ?_) (fun h19 => ?_)
                        · have hf := pif_f hf h19
                          refine lv_bipush (v := 6) hx hb dX10_clause_191 (by decide) ?_
                          exact p_iret C hr hlk (pe1 hf) (pe2M hf) hP hS dX10_clause_193
                        · have hf := pif_t hf h19
                          refine lv_iconst (v := 0) hx hb dX10_clause_187 (by decide) ?_
                          refine lv_goto (tgt := 193) hx hb dX10_clause_188 (by decide) ?_
                          exact p_iret C hr hlk (pe1 hf) (pe2M hf) hP hS dX10_clause_193
                      · have hf := pif_f hf h17
                        refine lv_iload hx hb dX10_clause_146 (lv_at hl 1 rfl) ?_
                        refine lv_aload_n hx hb dX10_clause_148 rfl (lv_at hl 4 rfl) ?_
                        refine g_10_16 C hP dX10_clause_149 ?_
                        refine lv_iload_n hx hb dX10_clause_152 rfl (lv_at hl 3 rfl) ?_
                        refine lv_iload hx hb dX10_clause_153 (lv_at hl 0 rfl) ?_
                        refine lv_iadd hx hb dX10_clause_155 ?_
                        obtain ⟨h20, hf⟩ := pg_ok hf
                        refine la_m_file C hP h20 dX10_clause_156 ?_
                        refine lv_iadd hx hb dX10_clause_157 ?_
                        refine lv_istore (lv' := [(4, .int (x4 + (β 4 ((y2_136 + x5).toNatClampNeg)))), (5, .int x5), (3, .int y3_136), (2, .int y2_136), (0, .ref (pL E 57))]) hx hb dX10_clause_158 hl (by decide) rfl (fun ls hl => ?_)
                        refine lv_iinc (v := (x5 + 1)) (lv' := [(5, .int (x5 + 1)), (4, .int (x4 + (β 4 ((y2_136 + x5).toNatClampNeg)))), (3, .int y3_136), (2, .int y2_136), (0, .ref (pL E 57))]) hx hb dX10_clause_160 hl (k := 1) rfl rfl (by decide) rfl (fun ls hl => ?_)
                        refine lv_goto (tgt := 136) hx hb dX10_clause_163 (by decide) ?_
                        exact ih136 _ _ β _ _ _ hf hP hS (lv_sub hl [0, 1, 2, 3, 4] rfl)
                  exact lp136 _ _ _ _ _ _ _ hf hP hS (lv_sub hl [0, 1, 2, 3, 4] rfl)
                · have hf := pif_f hf h16
                  refine lv_aload_n hx hb dX10_clause_110 rfl (lv_at hl 4 rfl) ?_
                  refine lv_iload_n hx hb dX10_clause_111 rfl (lv_at hl 3 rfl) ?_
                  refine lv_iconst (v := 3) hx hb dX10_clause_112 (by decide) ?_
                  refine lv_iadd hx hb dX10_clause_113 ?_
                  refine lv_iconst (v := 4) hx hb dX10_clause_114 (by decide) ?_
                  refine lv_iload hx hb dX10_clause_115 (lv_at hl 0 rfl) ?_
                  refine lv_imul hx hb dX10_clause_117 ?_
                  refine lv_iadd hx hb dX10_clause_118 ?_
                  obtain ⟨r21, β22, hc23, hf⟩ := pb2_ok hf
                  refine p_callV (n := 1) (As := [.int ((y2_104 + 3) + (4 * x5))]) (rest := []) C hP hS (wv_10_106 C.2.2.2.2.1 _) (c_X10_isRule l C.2.2.2.2.2.2  hc23) (e_X10) rfl rfl hd_X10_isRule rfl ⟨Nat.le_of_ble_eq_true rfl, Nat.le_of_ble_eq_true rfl⟩ hl.1 rfl (Nat.le_of_ble_eq_true rfl) dX10_clause_119 ⟨Nat.zero_le _, Nat.zero_le _⟩ (fun H locs hP hS _ _ => ?_)
                  refine W.eq (g2 := F0 m 122 ls [.int r21]) rfl ?_
                  refine lv_if_ne (tgt := 127) hx hb dX10_clause_122 (by decide) (fun h24 => ?_) (fun h24 => ?_)
                  · have hf := pif_f hf h24
                    refine lv_iinc (v := (x5 + 1)) (lv' := [(5, .int (x5 + 1)), (4, .int y4_104), (3, .int y3_104), (2, .int y2_104), (0, .ref (pL E 57))]) hx hb dX10_clause_127 hl (k := 0) rfl rfl (by decide) rfl (fun ls hl => ?_)
                    refine lv_goto (tgt := 104) hx hb dX10_clause_130 (by decide) ?_
                    exact ih104 _ β22 _ _ _ hf hP hS (lv_sub hl [0, 1, 2, 3, 4] rfl)
                  · have hf := pif_t hf h24
                    refine lv_iconst (v := 5) hx hb dX10_clause_125 (by decide) ?_
                    exact p_iret C hr hlk (pe1 hf) (pe2M hf) hP hS dX10_clause_126
            exact lp104 _ _ _ _ _ _ hf hP hS (lv_sub hl [0, 1, 2, 3, 4] rfl)
          · have hf := pif_f hf h13
            refine lv_iconst (v := 4) hx hb dX10_clause_80 (by decide) ?_
            exact p_iret C hr hlk (pe1 hf) (pe2M hf) hP hS dX10_clause_81
        · have hf := pif_t hf h11
          refine lv_iconst (v := 3) hx hb dX10_clause_64 (by decide) ?_
          exact p_iret C hr hlk (pe1 hf) (pe2M hf) hP hS dX10_clause_65
      · have hf := pif_f hf h6
        refine lv_iconst (v := 2) hx hb dX10_clause_41 (by decide) ?_
        exact p_iret C hr hlk (pe1 hf) (pe2M hf) hP hS dX10_clause_42
  · have hf := pif_f hf h2
    refine lv_iconst (v := 1) hx hb dX10_clause_15 (by decide) ?_
    exact p_iret C hr hlk (pe1 hf) (pe2M hf) hP hS dX10_clause_16
set_option maxHeartbeats 4000000 in
set_option maxRecDepth 100000 in
theorem c_X10_unit (l : Launch) {E : pE} (hE : pInj E) {α : pSt} {a0 : Int32} {a1 : Int32} {β β' : pSt} {r : Int32} (hf : f_X10_unit a0 a1 β = some (r, β')) : pM l E yX10_unit cX10_unit 3 (some .int) 1 [.ref (pL E 57), .int a0, .int a1] α β (some (.int r)) α β' := by
  refine pM.ofW hE (by decide) ?_ (Nat.le_of_ble_eq_true rfl)
  intro p e s m below meth c ls C hr hlk hP hl
  have C : pCx p s m c cX10_unit 3 E RX10 := C
  have hS : va_S (pA E s.heap.size) s.heap s.heap [] := va_S.rf
  have hx := C.1
  have hb := C.2.1
  have hl : lv_has ls 3 [(0, .ref (pL E 57)), (1, .int a0), (2, .int a1)] := hl
  unfold f_X10_unit at hf
  refine lv_iload_n hx hb dX10_unit_0 rfl (lv_at hl 1 rfl) ?_
  refine lv_i2l hx hb dX10_unit_1 rfl ?_
  refine lv_lconst (v := 0) hx hb dX10_unit_2 (by decide) ?_
  refine lv_ldc2 (v := 63) hx hb C.2.2.2.1 (C.2.2.2.2.1.1 _ (List.mem_of_getElem? (i := 980) rfl) rfl _) dX10_unit_3 ?_
  obtain ⟨r1, β2, hc3, hf⟩ := pb2_ok hf
  refine p_callS (n := 3) (As := [.long (a0.toInt64), .long 0, .long 63]) (rest := []) C hP hS (wv_10_89 C.2.2.2.2.1 _) (c_X10_in l C.2.2.2.2.2.2  hc3) hd_X10_in rfl ⟨Nat.le_of_ble_eq_true rfl, Nat.le_of_ble_eq_true rfl⟩ hl.1 rfl (Nat.le_of_ble_eq_true rfl) dX10_unit_6 ⟨Nat.zero_le _, Nat.zero_le _⟩ (fun H locs hP hS _ _ => ?_)
  refine W.eq (g2 := F0 m 9 ls [.int r1]) rfl ?_
  refine lv_if_eq (tgt := 24) hx hb dX10_unit_9 (by decide) (fun h4 => ?_) (fun h4 => ?_)
  · have hf := pif_t hf h4
    refine lv_bipush (v := (-102)) hx hb dX10_unit_24 (by decide) ?_
    exact p_iret C hr hlk (pe1 hf) (pe2M hf) hP hS dX10_unit_26
  · have hf := pif_f hf h4
    refine lv_iload_n hx hb dX10_unit_12 rfl (lv_at hl 2 rfl) ?_
    refine lv_i2l hx hb dX10_unit_13 rfl ?_
    refine lv_lconst (v := 0) hx hb dX10_unit_14 (by decide) ?_
    refine lv_ldc2 (v := 255) hx hb C.2.2.2.1 (C.2.2.2.2.1.1 _ (List.mem_of_getElem? (i := 938) rfl) rfl _) dX10_unit_15 ?_
    obtain ⟨r5, β6, hc7, hf⟩ := pb2_ok hf
    refine p_callS (n := 3) (As := [.long (a1.toInt64), .long 0, .long 255]) (rest := []) C hP hS (wv_10_89 C.2.2.2.2.1 _) (c_X10_in l C.2.2.2.2.2.2  hc7) hd_X10_in rfl ⟨Nat.le_of_ble_eq_true rfl, Nat.le_of_ble_eq_true rfl⟩ hl.1 rfl (Nat.le_of_ble_eq_true rfl) dX10_unit_18 ⟨Nat.zero_le _, Nat.zero_le _⟩ (fun H locs hP hS _ _ => ?_)
    refine W.eq (g2 := F0 m 21 ls [.int r5]) rfl ?_
    refine lv_if_ne (tgt := 27) hx hb dX10_unit_21 (by decide) (fun h8 => ?_) (fun h8 => ?_)
    · have hf := pif_f hf h8
      refine lv_aload_n hx hb dX10_unit_27 rfl (lv_at hl 0 rfl) ?_
      refine lv_iload_n hx hb dX10_unit_28 rfl (lv_at hl 1 rfl) ?_
      obtain ⟨r9, β10, hc11, hf⟩ := pb2_ok hf
      refine p_callV (n := 1) (As := [.int a0]) (rest := []) C hP hS (wv_10_118 C.2.2.2.2.1 _) (c_X10_find l C.2.2.2.2.2.2  hc11) (e_X10) rfl rfl hd_X10_find rfl ⟨Nat.le_of_ble_eq_true rfl, Nat.le_of_ble_eq_true rfl⟩ hl.1 rfl (Nat.le_of_ble_eq_true rfl) dX10_unit_29 ⟨Nat.zero_le _, Nat.zero_le _⟩ (fun H locs hP hS _ _ => ?_)
      refine W.eq (g2 := F0 m 32 ls [.int r9]) rfl ?_
      refine lv_if_lt (tgt := 38) hx hb dX10_unit_32 (by decide) (fun h12 => ?_) (fun h12 => ?_)
      · have hf := pif_t hf h12
        refine lv_aload_n hx hb dX10_unit_38 rfl (lv_at hl 0 rfl) ?_
        refine g_10_80 C hP dX10_unit_39 ?_
        refine lv_bipush (v := 40) hx hb dX10_unit_42 (by decide) ?_
        refine lv_icmp_ne (tgt := 50) hx hb dX10_unit_44 (by decide) (fun h13 => ?_) (fun h13 => ?_)
        · have hf := pif_f hf h13
          refine lv_aload_n hx hb dX10_unit_50 rfl (lv_at hl 0 rfl) ?_
          refine lv_iload_n hx hb dX10_unit_51 rfl (lv_at hl 1 rfl) ?_
          refine lv_iload_n hx hb dX10_unit_52 rfl (lv_at hl 2 rfl) ?_
          refine lv_iconst (v := (-1)) hx hb dX10_unit_53 (by decide) ?_
          refine lv_iconst (v := 0) hx hb dX10_unit_54 (by decide) ?_
          obtain ⟨r14, β15, hc16, hf⟩ := pb2_ok hf
          refine p_callV (n := 4) (As := [.int a0, .int a1, .int (-1), .int 0]) (rest := []) C hP hS (wv_10_121 C.2.2.2.2.1 _) (c_X10_come l C.2.2.2.2.2.2  hc16) (e_X10) rfl rfl hd_X10_come rfl ⟨Nat.le_of_ble_eq_true rfl, Nat.le_of_ble_eq_true rfl⟩ hl.1 rfl (Nat.le_of_ble_eq_true rfl) dX10_unit_55 ⟨Nat.zero_le _, Nat.zero_le _⟩ (fun H locs hP hS _ _ => ?_)
          refine W.eq (g2 := F0 m 58 ls []) rfl ?_
          refine lv_aload_n hx hb dX10_unit_58 rfl (lv_at hl 0 rfl) ?_
          refine g_10_80 C hP dX10_unit_59 ?_
          refine lv_iconst (v := 1) hx hb dX10_unit_62 (by decide) ?_
          refine lv_isub hx hb dX10_unit_63 ?_
          exact p_iret C hr hlk (pe1 hf) (pe2M hf) hP hS dX10_unit_64
        · have hf := pif_t hf h13
          refine lv_bipush (v := (-104)) hx hb dX10_unit_47 (by decide) ?_
          exact p_iret C hr hlk (pe1 hf) (pe2M hf) hP hS dX10_unit_49
      · have hf := pif_f hf h12
        refine lv_bipush (v := (-103)) hx hb dX10_unit_35 (by decide) ?_
        exact p_iret C hr hlk (pe1 hf) (pe2M hf) hP hS dX10_unit_37
    · have hf := pif_t hf h8
      refine lv_bipush (v := (-102)) hx hb dX10_unit_24 (by decide) ?_
      exact p_iret C hr hlk (pe1 hf) (pe2M hf) hP hS dX10_unit_26
set_option maxHeartbeats 4000000 in
set_option maxRecDepth 100000 in
theorem c_X10_isUnit (l : Launch) {E : pE} (hE : pInj E) {α : pSt} {a0 : Int32} {β β' : pSt} {r : Int32} (hf : f_X10_isUnit a0 β = some (r, β')) : pM l E yX10_isUnit cX10_isUnit 2 (some .boolean) 1 [.ref (pL E 57), .int a0] α β (some (.int r)) α β' := by
  refine pM.ofW hE (by decide) ?_ (Nat.le_of_ble_eq_true rfl)
  intro p e s m below meth c ls C hr hlk hP hl
  have C : pCx p s m c cX10_isUnit 2 E RX10 := C
  have hS : va_S (pA E s.heap.size) s.heap s.heap [] := va_S.rf
  have hx := C.1
  have hb := C.2.1
  have hl : lv_has ls 2 [(0, .ref (pL E 57)), (1, .int a0)] := hl
  unfold f_X10_isUnit at hf
  refine lv_iload_n hx hb dX10_isUnit_0 rfl (lv_at hl 1 rfl) ?_
  refine lv_i2l hx hb dX10_isUnit_1 rfl ?_
  refine lv_lconst (v := 0) hx hb dX10_isUnit_2 (by decide) ?_
  refine lv_aload_n hx hb dX10_isUnit_3 rfl (lv_at hl 0 rfl) ?_
  refine g_10_80 C hP dX10_isUnit_4 ?_
  refine lv_iconst (v := 1) hx hb dX10_isUnit_7 (by decide) ?_
  refine lv_isub hx hb dX10_isUnit_8 ?_
  refine lv_i2l hx hb dX10_isUnit_9 rfl ?_
  obtain ⟨r1, β2, hc3, hf⟩ := pb2_ok hf
  refine p_callS (n := 3) (As := [.long (a0.toInt64), .long 0, .long (((β 15 0) - 1).toInt64)]) (rest := []) C hP hS (wv_10_89 C.2.2.2.2.1 _) (c_X10_in l C.2.2.2.2.2.2  hc3) hd_X10_in rfl ⟨Nat.le_of_ble_eq_true rfl, Nat.le_of_ble_eq_true rfl⟩ hl.1 rfl (Nat.le_of_ble_eq_true rfl) dX10_isUnit_10 ⟨Nat.zero_le _, Nat.zero_le _⟩ (fun H locs hP hS _ _ => ?_)
  refine W.eq (g2 := F0 m 13 ls [.int r1]) rfl ?_
  obtain ⟨h4, hf⟩ := pg_ok hf
  exact p_zret C hr hlk (pbl_ok h4) (pe1 hf) (pe2M hf) hP hS dX10_isUnit_13
set_option maxHeartbeats 4000000 in
set_option maxRecDepth 100000 in
theorem c_X10_option (l : Launch) {E : pE} (hE : pInj E) {α : pSt} {a0 : Int32} {a1 : Int32} {β β' : pSt} {r : Int32} (hf : f_X10_option a0 a1 β = some (r, β')) : pM l E yX10_option cX10_option 4 (some .int) 1 [.ref (pL E 57), .int a0, .int a1] α β (some (.int r)) α β' := by
  refine pM.ofW hE (by decide) ?_ (Nat.le_of_ble_eq_true rfl)
  intro p e s m below meth c ls C hr hlk hP hl
  have C : pCx p s m c cX10_option 4 E RX10 := C
  have hS : va_S (pA E s.heap.size) s.heap s.heap [] := va_S.rf
  have hx := C.1
  have hb := C.2.1
  have hl : lv_has ls 4 [(0, .ref (pL E 57)), (1, .int a0), (2, .int a1)] := hl
  unfold f_X10_option at hf
  refine lv_iload_n hx hb dX10_option_0 rfl (lv_at hl 1 rfl) ?_
  refine lv_i2l hx hb dX10_option_1 rfl ?_
  refine lv_lconst (v := 0) hx hb dX10_option_2 (by decide) ?_
  refine lv_ldc2 (v := 3) hx hb C.2.2.2.1 (C.2.2.2.2.1.1 _ (List.mem_of_getElem? (i := 1005) rfl) rfl _) dX10_option_3 ?_
  obtain ⟨r1, β2, hc3, hf⟩ := pb2_ok hf
  refine p_callS (n := 3) (As := [.long (a0.toInt64), .long 0, .long 3]) (rest := []) C hP hS (wv_10_89 C.2.2.2.2.1 _) (c_X10_in l C.2.2.2.2.2.2  hc3) hd_X10_in rfl ⟨Nat.le_of_ble_eq_true rfl, Nat.le_of_ble_eq_true rfl⟩ hl.1 rfl (Nat.le_of_ble_eq_true rfl) dX10_option_6 ⟨Nat.zero_le _, Nat.zero_le _⟩ (fun H locs hP hS _ _ => ?_)
  refine W.eq (g2 := F0 m 9 ls [.int r1]) rfl ?_
  refine lv_if_ne (tgt := 15) hx hb dX10_option_9 (by decide) (fun h4 => ?_) (fun h4 => ?_)
  · have hf := pif_f hf h4
    refine lv_aload_n hx hb dX10_option_15 rfl (lv_at hl 0 rfl) ?_
    refine g_10_62 C hP dX10_option_16 ?_
    refine lv_iload_n hx hb dX10_option_19 rfl (lv_at hl 1 rfl) ?_
    obtain ⟨h5, hf⟩ := pg_ok hf
    refine la_m_options C hP h5 dX10_option_20 ?_
    refine lv_istore_n (lv' := [(3, .int (β2 21 (a0.toNatClampNeg))), (0, .ref (pL E 57)), (1, .int a0), (2, .int a1)]) hx hb dX10_option_21 rfl hl (by decide) rfl (fun ls hl => ?_)
    refine lv_aload_n hx hb dX10_option_22 rfl (lv_at hl 1 rfl) ?_
    refine g_10_62 C hP dX10_option_23 ?_
    refine lv_iload_n hx hb dX10_option_26 rfl (lv_at hl 2 rfl) ?_
    refine lv_iload_n hx hb dX10_option_27 rfl (lv_at hl 3 rfl) ?_
    obtain ⟨h6, hf⟩ := pg_ok hf
    refine sa_m_options C hP hS h6 dX10_option_28 (fun H locs hP hS => ?_)
    obtain ⟨β7, eβ7, hf⟩ := pl_ok hf
    rw [← eβ7] at hP
    clear eβ7
    refine lv_iload_n hx hb dX10_option_29 rfl (lv_at hl 0 rfl) ?_
    exact p_iret C hr hlk (pe1 hf) (pe2M hf) hP hS dX10_option_30
  · have hf := pif_t hf h4
    refine lv_bipush (v := (-102)) hx hb dX10_option_12 (by decide) ?_
    exact p_iret C hr hlk (pe1 hf) (pe2M hf) hP hS dX10_option_14
set_option maxHeartbeats 4000000 in
set_option maxRecDepth 100000 in
theorem c_X10_act (l : Launch) {E : pE} (hE : pInj E) {α : pSt} {a0 : Int32} {a1 : Int32} {a2 : Int32} {β β' : pSt} {r : Int32} (hf : f_X10_act a0 a1 a2 β = some (r, β')) : pM l E yX10_act cX10_act 6 (some .int) 1 [.ref (pL E 57), .int a0, .int a1, .int a2] α β (some (.int r)) α β' := by
  refine pM.ofW hE (by decide) ?_ (Nat.le_of_ble_eq_true rfl)
  intro p e s m below meth c ls C hr hlk hP hl
  have C : pCx p s m c cX10_act 6 E RX10 := C
  have hS : va_S (pA E s.heap.size) s.heap s.heap [] := va_S.rf
  have hx := C.1
  have hb := C.2.1
  have hl : lv_has ls 6 [(0, .ref (pL E 57)), (1, .int a0), (2, .int a1), (3, .int a2)] := hl
  unfold f_X10_act at hf
  refine lv_aload_n hx hb dX10_act_0 rfl (lv_at hl 0 rfl) ?_
  refine g_10_32 C hP dX10_act_1 ?_
  refine lv_iload_n hx hb dX10_act_4 rfl (lv_at hl 2 rfl) ?_
  refine lv_iconst (v := 2) hx hb dX10_act_5 (by decide) ?_
  refine lv_iadd hx hb dX10_act_6 ?_
  obtain ⟨h1, hf⟩ := pg_ok hf
  refine la_m_rule C hP h1 dX10_act_7 ?_
  refine lv_istore (lv' := [(4, .int (β 10 ((a1 + 2).toNatClampNeg))), (0, .ref (pL E 57)), (1, .int a0), (2, .int a1), (3, .int a2)]) hx hb dX10_act_8 hl (by decide) rfl (fun ls hl => ?_)
  refine lv_aload_n hx hb dX10_act_10 rfl (lv_at hl 1 rfl) ?_
  refine g_10_32 C hP dX10_act_11 ?_
  refine lv_iload_n hx hb dX10_act_14 rfl (lv_at hl 3 rfl) ?_
  refine lv_iconst (v := 3) hx hb dX10_act_15 (by decide) ?_
  refine lv_iadd hx hb dX10_act_16 ?_
  obtain ⟨h2, hf⟩ := pg_ok hf
  refine la_m_rule C hP h2 dX10_act_17 ?_
  refine lv_istore (lv' := [(5, .int (β 10 ((a1 + 3).toNatClampNeg))), (4, .int (β 10 ((a1 + 2).toNatClampNeg))), (0, .ref (pL E 57)), (1, .int a0), (2, .int a1), (3, .int a2)]) hx hb dX10_act_18 hl (by decide) rfl (fun ls hl => ?_)
  refine lv_aload_n hx hb dX10_act_20 rfl (lv_at hl 2 rfl) ?_
  refine g_10_32 C hP dX10_act_21 ?_
  refine lv_iload_n hx hb dX10_act_24 rfl (lv_at hl 4 rfl) ?_
  refine lv_iconst (v := 1) hx hb dX10_act_25 (by decide) ?_
  refine lv_iadd hx hb dX10_act_26 ?_
  obtain ⟨h3, hf⟩ := pg_ok hf
  refine la_m_rule C hP h3 dX10_act_27 ?_
  by_cases h4 : (β 10 ((a1 + 1).toNatClampNeg)) = 0
  · have hf := pif_t hf h4
    refine lv_tableIn (tgt := 80) (off := 52) hx hb dX10_act_28 (by rw [h4]; decide) (by rw [h4]; decide) (by rw [h4]; decide) (by decide) ?_
    refine lv_aload_n hx hb dX10_act_80 rfl (lv_at hl 2 rfl) ?_
    refine g_10_149 C hP dX10_act_81 ?_
    refine lv_if_ne (tgt := 99) hx hb dX10_act_84 (by decide) (fun h5 => ?_) (fun h5 => ?_)
    · have hf := pif_f hf h5
      refine lv_iconst (v := 0) hx hb dX10_act_99 (by decide) ?_
      exact p_iret C hr hlk (pe1 hf) (pe2M hf) hP hS dX10_act_100
    · have hf := pif_t hf h5
      refine lv_aload_n hx hb dX10_act_87 rfl (lv_at hl 2 rfl) ?_
      refine g_10_77 C hP dX10_act_88 ?_
      refine lv_aload_n hx hb dX10_act_91 rfl (lv_at hl 2 rfl) ?_
      refine g_10_32 C hP dX10_act_92 ?_
      refine lv_iload_n hx hb dX10_act_95 rfl (lv_at hl 4 rfl) ?_
      obtain ⟨h6, hf⟩ := pg_ok hf
      refine la_m_rule C hP h6 dX10_act_96 ?_
      refine lv_iload_n hx hb dX10_act_97 rfl (lv_at hl 3 rfl) ?_
      obtain ⟨h7, hf⟩ := pg_ok hf
      refine sa_m_claimer C hP hS h7 dX10_act_98 (fun H locs hP hS => ?_)
      obtain ⟨β8, eβ8, hf⟩ := pl_ok hf
      rw [← eβ8] at hP
      clear eβ8
      refine lv_iconst (v := 0) hx hb dX10_act_99 (by decide) ?_
      exact p_iret C hr hlk (pe1 hf) (pe2M hf) hP hS dX10_act_100
  · have hf := pif_f hf h4
    by_cases h9 : (β 10 ((a1 + 1).toNatClampNeg)) = 1
    · have hf := pif_t hf h9
      refine lv_tableIn (tgt := 101) (off := 73) hx hb dX10_act_28 (by rw [h9]; decide) (by rw [h9]; decide) (by rw [h9]; decide) (by decide) ?_
      refine lv_aload_n hx hb dX10_act_101 rfl (lv_at hl 2 rfl) ?_
      refine lv_iload hx hb dX10_act_102 (lv_at hl 1 rfl) ?_
      obtain ⟨r10, β11, hc12, hf⟩ := pb2_ok hf
      refine p_callV (n := 1) (As := [.int (β 10 ((a1 + 2).toNatClampNeg))]) (rest := []) C hP hS (wv_10_118 C.2.2.2.2.1 _) (c_X10_find l C.2.2.2.2.2.2  hc12) (e_X10) rfl rfl hd_X10_find rfl ⟨Nat.le_of_ble_eq_true rfl, Nat.le_of_ble_eq_true rfl⟩ hl.1 rfl (Nat.le_of_ble_eq_true rfl) dX10_act_104 ⟨Nat.zero_le _, Nat.zero_le _⟩ (fun H locs hP hS _ _ => ?_)
      refine W.eq (g2 := F0 m 107 ls [.int r10]) rfl ?_
      refine lv_if_lt (tgt := 122) hx hb dX10_act_107 (by decide) (fun h13 => ?_) (fun h13 => ?_)
      · have hf := pif_t hf h13
        refine lv_aload_n hx hb dX10_act_122 rfl (lv_at hl 2 rfl) ?_
        refine g_10_80 C hP dX10_act_123 ?_
        refine lv_bipush (v := 40) hx hb dX10_act_126 (by decide) ?_
        refine lv_icmp_ne (tgt := 143) hx hb dX10_act_128 (by decide) (fun h14 => ?_) (fun h14 => ?_)
        · have hf := pif_f hf h14
          refine lv_aload_n hx hb dX10_act_143 rfl (lv_at hl 2 rfl) ?_
          refine lv_iload hx hb dX10_act_144 (lv_at hl 1 rfl) ?_
          refine lv_iload hx hb dX10_act_146 (lv_at hl 0 rfl) ?_
          refine lv_iload_n hx hb dX10_act_148 rfl (lv_at hl 3 rfl) ?_
          refine lv_aload_n hx hb dX10_act_149 rfl (lv_at hl 2 rfl) ?_
          refine g_10_137 C hP dX10_act_150 ?_
          obtain ⟨r15, β16, hc17, hf⟩ := pb2_ok hf
          refine p_callV (n := 4) (As := [.int (β 10 ((a1 + 2).toNatClampNeg)), .int (β 10 ((a1 + 3).toNatClampNeg)), .int a0, .int (β11 33 0)]) (rest := []) C hP hS (wv_10_121 C.2.2.2.2.1 _) (c_X10_come l C.2.2.2.2.2.2  hc17) (e_X10) rfl rfl hd_X10_come rfl ⟨Nat.le_of_ble_eq_true rfl, Nat.le_of_ble_eq_true rfl⟩ hl.1 rfl (Nat.le_of_ble_eq_true rfl) dX10_act_153 ⟨Nat.zero_le _, Nat.zero_le _⟩ (fun H locs hP hS _ _ => ?_)
          refine W.eq (g2 := F0 m 156 ls []) rfl ?_
          refine lv_aload_n hx hb dX10_act_156 rfl (lv_at hl 2 rfl) ?_
          refine g_10_149 C hP dX10_act_157 ?_
          refine lv_if_eq (tgt := 173) hx hb dX10_act_160 (by decide) (fun h18 => ?_) (fun h18 => ?_)
          · have hf := pif_t hf h18
            refine lv_iconst (v := 0) hx hb dX10_act_173 (by decide) ?_
            exact p_iret C hr hlk (pe1 hf) (pe2M hf) hP hS dX10_act_174
          · have hf := pif_f hf h18
            refine lv_aload_n hx hb dX10_act_163 rfl (lv_at hl 2 rfl) ?_
            refine lv_bipush (v := 7) hx hb dX10_act_164 (by decide) ?_
            refine lv_iload_n hx hb dX10_act_166 rfl (lv_at hl 3 rfl) ?_
            refine lv_iload_n hx hb dX10_act_167 rfl (lv_at hl 5 rfl) ?_
            refine lv_iload hx hb dX10_act_168 (lv_at hl 1 rfl) ?_
            obtain ⟨r19, β20, hc21, hf⟩ := pb2_ok hf
            refine p_callV (n := 4) (As := [.int 7, .int a0, .int a2, .int (β 10 ((a1 + 2).toNatClampNeg))]) (rest := []) C hP hS (wv_10_152 C.2.2.2.2.1 _) (c_X10_tell l C.2.2.2.2.2.2  hc21) (e_X10) rfl rfl hd_X10_tell rfl ⟨Nat.le_of_ble_eq_true rfl, Nat.le_of_ble_eq_true rfl⟩ hl.1 rfl (Nat.le_of_ble_eq_true rfl) dX10_act_170 ⟨Nat.zero_le _, Nat.zero_le _⟩ (fun H locs hP hS _ _ => ?_)
            refine W.eq (g2 := F0 m 173 ls []) rfl ?_
            refine lv_iconst (v := 0) hx hb dX10_act_173 (by decide) ?_
            exact p_iret C hr hlk (pe1 hf) (pe2M hf) hP hS dX10_act_174
        · have hf := pif_t hf h14
          refine lv_aload_n hx hb dX10_act_131 rfl (lv_at hl 2 rfl) ?_
          refine lv_iconst (v := 4) hx hb dX10_act_132 (by decide) ?_
          refine lv_iload_n hx hb dX10_act_133 rfl (lv_at hl 3 rfl) ?_
          refine lv_iload_n hx hb dX10_act_134 rfl (lv_at hl 5 rfl) ?_
          refine lv_iload hx hb dX10_act_135 (lv_at hl 1 rfl) ?_
          obtain ⟨r22, β23, hc24, hf⟩ := pb2_ok hf
          refine p_callV (n := 4) (As := [.int 4, .int a0, .int a2, .int (β 10 ((a1 + 2).toNatClampNeg))]) (rest := []) C hP hS (wv_10_152 C.2.2.2.2.1 _) (c_X10_tell l C.2.2.2.2.2.2  hc24) (e_X10) rfl rfl hd_X10_tell rfl ⟨Nat.le_of_ble_eq_true rfl, Nat.le_of_ble_eq_true rfl⟩ hl.1 rfl (Nat.le_of_ble_eq_true rfl) dX10_act_137 ⟨Nat.zero_le _, Nat.zero_le _⟩ (fun H locs hP hS _ _ => ?_)
          refine W.eq (g2 := F0 m 140 ls []) rfl ?_
          refine lv_goto (tgt := 173) hx hb dX10_act_140 (by decide) ?_
          refine lv_iconst (v := 0) hx hb dX10_act_173 (by decide) ?_
          exact p_iret C hr hlk (pe1 hf) (pe2M hf) hP hS dX10_act_174
      · have hf := pif_f hf h13
        refine lv_aload_n hx hb dX10_act_110 rfl (lv_at hl 2 rfl) ?_
        refine lv_iconst (v := 3) hx hb dX10_act_111 (by decide) ?_
        refine lv_iload_n hx hb dX10_act_112 rfl (lv_at hl 3 rfl) ?_
        refine lv_iload_n hx hb dX10_act_113 rfl (lv_at hl 5 rfl) ?_
        refine lv_iload hx hb dX10_act_114 (lv_at hl 1 rfl) ?_
        obtain ⟨r25, β26, hc27, hf⟩ := pb2_ok hf
        refine p_callV (n := 4) (As := [.int 3, .int a0, .int a2, .int (β 10 ((a1 + 2).toNatClampNeg))]) (rest := []) C hP hS (wv_10_152 C.2.2.2.2.1 _) (c_X10_tell l C.2.2.2.2.2.2  hc27) (e_X10) rfl rfl hd_X10_tell rfl ⟨Nat.le_of_ble_eq_true rfl, Nat.le_of_ble_eq_true rfl⟩ hl.1 rfl (Nat.le_of_ble_eq_true rfl) dX10_act_116 ⟨Nat.zero_le _, Nat.zero_le _⟩ (fun H locs hP hS _ _ => ?_)
        refine W.eq (g2 := F0 m 119 ls []) rfl ?_
        refine lv_goto (tgt := 173) hx hb dX10_act_119 (by decide) ?_
        refine lv_iconst (v := 0) hx hb dX10_act_173 (by decide) ?_
        exact p_iret C hr hlk (pe1 hf) (pe2M hf) hP hS dX10_act_174
    · have hf := pif_f hf h9
      by_cases h28 : (β 10 ((a1 + 1).toNatClampNeg)) = 2
      · have hf := pif_t hf h28
        refine lv_tableIn (tgt := 175) (off := 147) hx hb dX10_act_28 (by rw [h28]; decide) (by rw [h28]; decide) (by rw [h28]; decide) (by decide) ?_
        refine lv_aload_n hx hb dX10_act_175 rfl (lv_at hl 2 rfl) ?_
        refine lv_iload hx hb dX10_act_176 (lv_at hl 0 rfl) ?_
        refine lv_iload_n hx hb dX10_act_178 rfl (lv_at hl 3 rfl) ?_
        refine lv_iload_n hx hb dX10_act_179 rfl (lv_at hl 5 rfl) ?_
        refine lv_iload hx hb dX10_act_180 (lv_at hl 1 rfl) ?_
        obtain ⟨r29, β30, hc31, hf⟩ := pb2_ok hf
        refine p_callV (n := 4) (As := [.int (β 10 ((a1 + 3).toNatClampNeg)), .int a0, .int a2, .int (β 10 ((a1 + 2).toNatClampNeg))]) (rest := []) C hP hS (wv_10_152 C.2.2.2.2.1 _) (c_X10_tell l C.2.2.2.2.2.2  hc31) (e_X10) rfl rfl hd_X10_tell rfl ⟨Nat.le_of_ble_eq_true rfl, Nat.le_of_ble_eq_true rfl⟩ hl.1 rfl (Nat.le_of_ble_eq_true rfl) dX10_act_182 ⟨Nat.zero_le _, Nat.zero_le _⟩ (fun H locs hP hS _ _ => ?_)
        refine W.eq (g2 := F0 m 185 ls []) rfl ?_
        refine lv_iconst (v := 0) hx hb dX10_act_185 (by decide) ?_
        exact p_iret C hr hlk (pe1 hf) (pe2M hf) hP hS dX10_act_186
      · have hf := pif_f hf h28
        by_cases h32 : (β 10 ((a1 + 1).toNatClampNeg)) = 3
        · have hf := pif_t hf h32
          refine lv_tableIn (tgt := 187) (off := 159) hx hb dX10_act_28 (by rw [h32]; decide) (by rw [h32]; decide) (by rw [h32]; decide) (by decide) ?_
          refine lv_aload_n hx hb dX10_act_187 rfl (lv_at hl 2 rfl) ?_
          refine g_10_35 C hP dX10_act_188 ?_
          refine lv_iload_n hx hb dX10_act_191 rfl (lv_at hl 3 rfl) ?_
          refine lv_dup2_11 hx hb dX10_act_192 rfl rfl ?_
          obtain ⟨h33, hf⟩ := pg_ok hf
          refine la_m_cells C hP h33 dX10_act_193 ?_
          refine lv_iload hx hb dX10_act_194 (lv_at hl 1 rfl) ?_
          refine lv_bipush (v := 127) hx hb dX10_act_196 (by decide) ?_
          refine lv_icmp_le (tgt := 210) hx hb dX10_act_198 (by decide) (fun h34 => ?_) (fun h34 => ?_)
          · have hf := pif_t hf h34
            refine lv_iload hx hb dX10_act_210 (lv_at hl 1 rfl) ?_
            refine lv_iadd hx hb dX10_act_212 ?_
            obtain ⟨h35, hf⟩ := pg_ok hf
            refine sa_m_cells C hP hS h35 dX10_act_213 (fun H locs hP hS => ?_)
            obtain ⟨β36, eβ36, hf⟩ := pl_ok hf
            rw [← eβ36] at hP
            clear eβ36
            refine lv_iconst (v := 0) hx hb dX10_act_214 (by decide) ?_
            exact p_iret C hr hlk (pe1 hf) (pe2M hf) hP hS dX10_act_215
          · have hf := pif_f hf h34
            refine lv_iload hx hb dX10_act_201 (lv_at hl 1 rfl) ?_
            refine lv_sipush (v := 256) hx hb dX10_act_203 (by decide) ?_
            refine lv_isub hx hb dX10_act_206 ?_
            refine lv_goto (tgt := 212) hx hb dX10_act_207 (by decide) ?_
            refine lv_iadd hx hb dX10_act_212 ?_
            obtain ⟨h37, hf⟩ := pg_ok hf
            refine sa_m_cells C hP hS h37 dX10_act_213 (fun H locs hP hS => ?_)
            obtain ⟨β38, eβ38, hf⟩ := pl_ok hf
            rw [← eβ38] at hP
            clear eβ38
            refine lv_iconst (v := 0) hx hb dX10_act_214 (by decide) ?_
            exact p_iret C hr hlk (pe1 hf) (pe2M hf) hP hS dX10_act_215
        · have hf := pif_f hf h32
          by_cases h39 : (β 10 ((a1 + 1).toNatClampNeg)) = 4
          · have hf := pif_t hf h39
            refine lv_tableIn (tgt := 216) (off := 188) hx hb dX10_act_28 (by rw [h39]; decide) (by rw [h39]; decide) (by rw [h39]; decide) (by decide) ?_
            refine lv_aload_n hx hb dX10_act_216 rfl (lv_at hl 2 rfl) ?_
            refine lv_iconst (v := 5) hx hb dX10_act_217 (by decide) ?_
            refine lv_iload_n hx hb dX10_act_218 rfl (lv_at hl 3 rfl) ?_
            refine lv_iload_n hx hb dX10_act_219 rfl (lv_at hl 5 rfl) ?_
            refine lv_iload hx hb dX10_act_220 (lv_at hl 1 rfl) ?_
            obtain ⟨r40, β41, hc42, hf⟩ := pb2_ok hf
            refine p_callV (n := 4) (As := [.int 5, .int a0, .int a2, .int (β 10 ((a1 + 2).toNatClampNeg))]) (rest := []) C hP hS (wv_10_152 C.2.2.2.2.1 _) (c_X10_tell l C.2.2.2.2.2.2  hc42) (e_X10) rfl rfl hd_X10_tell rfl ⟨Nat.le_of_ble_eq_true rfl, Nat.le_of_ble_eq_true rfl⟩ hl.1 rfl (Nat.le_of_ble_eq_true rfl) dX10_act_222 ⟨Nat.zero_le _, Nat.zero_le _⟩ (fun H locs hP hS _ _ => ?_)
            refine W.eq (g2 := F0 m 225 ls []) rfl ?_
            refine lv_aload_n hx hb dX10_act_225 rfl (lv_at hl 2 rfl) ?_
            refine g_10_41 C hP dX10_act_226 ?_
            refine lv_iload_n hx hb dX10_act_229 rfl (lv_at hl 3 rfl) ?_
            refine lv_iconst (v := 1) hx hb dX10_act_230 (by decide) ?_
            obtain ⟨h43, hf⟩ := pg_ok hf
            refine sa_m_stopped C hP hS (Or.inr rfl) h43 dX10_act_231 (fun H locs hP hS => ?_)
            obtain ⟨β44, eβ44, hf⟩ := pl_ok hf
            rw [← eβ44] at hP
            clear eβ44
            refine lv_aload_n hx hb dX10_act_232 rfl (lv_at hl 2 rfl) ?_
            refine lv_aload_n hx hb dX10_act_233 rfl (lv_at hl 2 rfl) ?_
            refine g_10_130 C hP dX10_act_234 ?_
            refine lv_if_eq (tgt := 247) hx hb dX10_act_237 (by decide) (fun h45 => ?_) (fun h45 => ?_)
            · have hf := pif_t hf h45
              refine lv_iconst (v := 2) hx hb dX10_act_247 (by decide) ?_
              refine s_10_143 C hP hS dX10_act_248 (fun H locs hP hS => ?_)
              obtain ⟨β46, eβ46, hf⟩ := pl_ok hf
              rw [← eβ46] at hP
              clear eβ46
              refine lv_iconst (v := 0) hx hb dX10_act_251 (by decide) ?_
              exact p_iret C hr hlk (pe1 hf) (pe2M hf) hP hS dX10_act_252
            · have hf := pif_f hf h45
              refine lv_aload_n hx hb dX10_act_240 rfl (lv_at hl 2 rfl) ?_
              refine g_10_143 C hP dX10_act_241 ?_
              refine lv_goto (tgt := 248) hx hb dX10_act_244 (by decide) ?_
              refine s_10_143 C hP hS dX10_act_248 (fun H locs hP hS => ?_)
              obtain ⟨β47, eβ47, hf⟩ := pl_ok hf
              rw [← eβ47] at hP
              clear eβ47
              refine lv_iconst (v := 0) hx hb dX10_act_251 (by decide) ?_
              exact p_iret C hr hlk (pe1 hf) (pe2M hf) hP hS dX10_act_252
          · have hf := pif_f hf h39
            by_cases h48 : (β 10 ((a1 + 1).toNatClampNeg)) = 5
            · have hf := pif_t hf h48
              refine lv_tableIn (tgt := 253) (off := 225) hx hb dX10_act_28 (by rw [h48]; decide) (by rw [h48]; decide) (by rw [h48]; decide) (by decide) ?_
              refine lv_aload_n hx hb dX10_act_253 rfl (lv_at hl 2 rfl) ?_
              refine lv_iload_n hx hb dX10_act_254 rfl (lv_at hl 3 rfl) ?_
              refine lv_iload hx hb dX10_act_255 (lv_at hl 1 rfl) ?_
              refine lv_iload hx hb dX10_act_257 (lv_at hl 0 rfl) ?_
              refine lv_imul hx hb dX10_act_259 ?_
              obtain ⟨r49, β50, hc51, hf⟩ := pb2_ok hf
              refine p_callV (n := 2) (As := [.int a0, .int ((β 10 ((a1 + 2).toNatClampNeg)) * (β 10 ((a1 + 3).toNatClampNeg)))]) (rest := []) C hP hS (wv_10_155 C.2.2.2.2.1 _) (c_X10_step l C.2.2.2.2.2.2  hc51) (e_X10) rfl rfl hd_X10_step rfl ⟨Nat.le_of_ble_eq_true rfl, Nat.le_of_ble_eq_true rfl⟩ hl.1 rfl (Nat.le_of_ble_eq_true rfl) dX10_act_260 ⟨Nat.zero_le _, Nat.zero_le _⟩ (fun H locs hP hS _ _ => ?_)
              refine W.eq (g2 := F0 m 263 ls []) rfl ?_
              refine lv_iconst (v := 0) hx hb dX10_act_263 (by decide) ?_
              exact p_iret C hr hlk (pe1 hf) (pe2M hf) hP hS dX10_act_264
            · have hf := pif_f hf h48
              by_cases h52 : (β 10 ((a1 + 1).toNatClampNeg)) = 6
              · have hf := pif_t hf h52
                refine lv_tableIn (tgt := 265) (off := 237) hx hb dX10_act_28 (by rw [h52]; decide) (by rw [h52]; decide) (by rw [h52]; decide) (by decide) ?_
                refine lv_aload_n hx hb dX10_act_265 rfl (lv_at hl 2 rfl) ?_
                refine lv_bipush (v := 6) hx hb dX10_act_266 (by decide) ?_
                refine lv_iload_n hx hb dX10_act_268 rfl (lv_at hl 3 rfl) ?_
                refine lv_iload_n hx hb dX10_act_269 rfl (lv_at hl 5 rfl) ?_
                refine lv_iload hx hb dX10_act_270 (lv_at hl 1 rfl) ?_
                obtain ⟨r53, β54, hc55, hf⟩ := pb2_ok hf
                refine p_callV (n := 4) (As := [.int 6, .int a0, .int a2, .int (β 10 ((a1 + 2).toNatClampNeg))]) (rest := []) C hP hS (wv_10_152 C.2.2.2.2.1 _) (c_X10_tell l C.2.2.2.2.2.2  hc55) (e_X10) rfl rfl hd_X10_tell rfl ⟨Nat.le_of_ble_eq_true rfl, Nat.le_of_ble_eq_true rfl⟩ hl.1 rfl (Nat.le_of_ble_eq_true rfl) dX10_act_272 ⟨Nat.zero_le _, Nat.zero_le _⟩ (fun H locs hP hS _ _ => ?_)
                refine W.eq (g2 := F0 m 275 ls []) rfl ?_
                refine lv_iconst (v := 0) hx hb dX10_act_275 (by decide) ?_
                exact p_iret C hr hlk (pe1 hf) (pe2M hf) hP hS dX10_act_276
              · have hf := pif_f hf h52
                by_cases h56 : (β 10 ((a1 + 1).toNatClampNeg)) = 7
                · have hf := pif_t hf h56
                  refine lv_tableIn (tgt := 277) (off := 249) hx hb dX10_act_28 (by rw [h56]; decide) (by rw [h56]; decide) (by rw [h56]; decide) (by decide) ?_
                  refine lv_aload_n hx hb dX10_act_277 rfl (lv_at hl 2 rfl) ?_
                  refine g_10_65 C hP dX10_act_278 ?_
                  refine lv_iload hx hb dX10_act_281 (lv_at hl 1 rfl) ?_
                  obtain ⟨h57, hf⟩ := pg_ok hf
                  refine la_m_written C hP h57 dX10_act_283 ?_
                  refine lv_bipush (v := 100) hx hb dX10_act_284 (by decide) ?_
                  refine lv_icmp_ne (tgt := 301) hx hb dX10_act_286 (by decide) (fun h58 => ?_) (fun h58 => ?_)
                  · have hf := pif_f hf h58
                    refine lv_aload_n hx hb dX10_act_301 rfl (lv_at hl 2 rfl) ?_
                    refine g_10_71 C hP dX10_act_302 ?_
                    refine lv_bipush (v := 100) hx hb dX10_act_305 (by decide) ?_
                    refine lv_iload hx hb dX10_act_307 (lv_at hl 1 rfl) ?_
                    refine lv_imul hx hb dX10_act_309 ?_
                    refine lv_aload_n hx hb dX10_act_310 rfl (lv_at hl 2 rfl) ?_
                    refine g_10_65 C hP dX10_act_311 ?_
                    refine lv_iload hx hb dX10_act_314 (lv_at hl 1 rfl) ?_
                    obtain ⟨h59, hf⟩ := pg_ok hf
                    refine la_m_written C hP h59 dX10_act_316 ?_
                    refine lv_iadd hx hb dX10_act_317 ?_
                    refine lv_iload hx hb dX10_act_318 (lv_at hl 0 rfl) ?_
                    obtain ⟨h60, hf⟩ := pg_ok hf
                    refine sa_m_resource C hP hS h60 dX10_act_320 (fun H locs hP hS => ?_)
                    obtain ⟨β61, eβ61, hf⟩ := pl_ok hf
                    rw [← eβ61] at hP
                    clear eβ61
                    refine lv_aload_n hx hb dX10_act_321 rfl (lv_at hl 2 rfl) ?_
                    refine g_10_65 C hP dX10_act_322 ?_
                    refine lv_iload hx hb dX10_act_325 (lv_at hl 1 rfl) ?_
                    refine lv_dup2_11 hx hb dX10_act_327 rfl rfl ?_
                    obtain ⟨h62, hf⟩ := pg_ok hf
                    refine la_m_written C hP h62 dX10_act_328 ?_
                    refine lv_iconst (v := 1) hx hb dX10_act_329 (by decide) ?_
                    refine lv_iadd hx hb dX10_act_330 ?_
                    obtain ⟨h63, hf⟩ := pg_ok hf
                    refine sa_m_written C hP hS h63 dX10_act_331 (fun H locs hP hS => ?_)
                    obtain ⟨β64, eβ64, hf⟩ := pl_ok hf
                    rw [← eβ64] at hP
                    clear eβ64
                    refine lv_iconst (v := 0) hx hb dX10_act_332 (by decide) ?_
                    exact p_iret C hr hlk (pe1 hf) (pe2M hf) hP hS dX10_act_333
                  · have hf := pif_t hf h58
                    refine lv_aload_n hx hb dX10_act_289 rfl (lv_at hl 2 rfl) ?_
                    refine lv_iconst (v := 4) hx hb dX10_act_290 (by decide) ?_
                    refine lv_iload_n hx hb dX10_act_291 rfl (lv_at hl 3 rfl) ?_
                    refine lv_iload_n hx hb dX10_act_292 rfl (lv_at hl 5 rfl) ?_
                    refine lv_iload hx hb dX10_act_293 (lv_at hl 1 rfl) ?_
                    obtain ⟨r65, β66, hc67, hf⟩ := pb2_ok hf
                    refine p_callV (n := 4) (As := [.int 4, .int a0, .int a2, .int (β 10 ((a1 + 2).toNatClampNeg))]) (rest := []) C hP hS (wv_10_152 C.2.2.2.2.1 _) (c_X10_tell l C.2.2.2.2.2.2  hc67) (e_X10) rfl rfl hd_X10_tell rfl ⟨Nat.le_of_ble_eq_true rfl, Nat.le_of_ble_eq_true rfl⟩ hl.1 rfl (Nat.le_of_ble_eq_true rfl) dX10_act_295 ⟨Nat.zero_le _, Nat.zero_le _⟩ (fun H locs hP hS _ _ => ?_)
                    refine W.eq (g2 := F0 m 298 ls []) rfl ?_
                    refine lv_goto (tgt := 332) hx hb dX10_act_298 (by decide) ?_
                    refine lv_iconst (v := 0) hx hb dX10_act_332 (by decide) ?_
                    exact p_iret C hr hlk (pe1 hf) (pe2M hf) hP hS dX10_act_333
                · have hf := pif_f hf h56
                  by_cases h68 : (β 10 ((a1 + 1).toNatClampNeg)) = 8
                  · have hf := pif_t hf h68
                    refine lv_tableIn (tgt := 334) (off := 306) hx hb dX10_act_28 (by rw [h68]; decide) (by rw [h68]; decide) (by rw [h68]; decide) (by decide) ?_
                    refine lv_aload_n hx hb dX10_act_334 rfl (lv_at hl 2 rfl) ?_
                    refine g_10_35 C hP dX10_act_335 ?_
                    refine lv_iload_n hx hb dX10_act_338 rfl (lv_at hl 3 rfl) ?_
                    obtain ⟨h69, hf⟩ := pg_ok hf
                    refine la_m_cells C hP h69 dX10_act_339 ?_
                    refine lv_iload hx hb dX10_act_340 (lv_at hl 1 rfl) ?_
                    refine lv_icmp_lt (tgt := 350) hx hb dX10_act_342 (by decide) (fun h70 => ?_) (fun h70 => ?_)
                    · have hf := pif_t hf h70
                      refine lv_iconst (v := 0) hx hb dX10_act_350 (by decide) ?_
                      exact p_iret C hr hlk (pe1 hf) (pe2M hf) hP hS dX10_act_351
                    · have hf := pif_f hf h70
                      refine lv_iload hx hb dX10_act_345 (lv_at hl 0 rfl) ?_
                      refine lv_goto (tgt := 351) hx hb dX10_act_347 (by decide) ?_
                      exact p_iret C hr hlk (pe1 hf) (pe2M hf) hP hS dX10_act_351
                  · have hf := pif_f hf h68
                    refine lv_tableOut (tgt := 352) hx hb dX10_act_28 (by have z0 := lv_neT (a := 0) h4 rfl; have z1 := lv_neT (a := 1) h9 rfl; have z2 := lv_neT (a := 2) h28 rfl; have z3 := lv_neT (a := 3) h32 rfl; have z4 := lv_neT (a := 4) h39 rfl; have z5 := lv_neT (a := 5) h48 rfl; have z6 := lv_neT (a := 6) h52 rfl; have z7 := lv_neT (a := 7) h56 rfl; have z8 := lv_neT (a := 8) h68 rfl; omega) (by decide) ?_
                    refine lv_aload_n hx hb dX10_act_352 rfl (lv_at hl 2 rfl) ?_
                    refine g_10_35 C hP dX10_act_353 ?_
                    refine lv_iload_n hx hb dX10_act_356 rfl (lv_at hl 3 rfl) ?_
                    refine lv_aload_n hx hb dX10_act_357 rfl (lv_at hl 2 rfl) ?_
                    refine g_10_62 C hP dX10_act_358 ?_
                    refine lv_iload hx hb dX10_act_361 (lv_at hl 1 rfl) ?_
                    obtain ⟨h71, hf⟩ := pg_ok hf
                    refine la_m_options C hP h71 dX10_act_363 ?_
                    obtain ⟨h72, hf⟩ := pg_ok hf
                    refine sa_m_cells C hP hS h72 dX10_act_364 (fun H locs hP hS => ?_)
                    obtain ⟨β73, eβ73, hf⟩ := pl_ok hf
                    rw [← eβ73] at hP
                    clear eβ73
                    refine lv_iconst (v := 0) hx hb dX10_act_365 (by decide) ?_
                    exact p_iret C hr hlk (pe1 hf) (pe2M hf) hP hS dX10_act_366
set_option maxHeartbeats 4000000 in
set_option maxRecDepth 100000 in
theorem c_X10_message (l : Launch) {E : pE} (hE : pInj E) {α : pSt} {a0 : Int32} {a1 : Int32} {β β' : pSt} {r : Int32} (hf : f_X10_message a0 a1 β = some (r, β')) : pM l E yX10_message cX10_message 3 (some .int) 1 [.ref (pL E 57), .int a0, .int a1] α β (some (.int r)) α β' := by
  refine pM.ofW hE (by decide) ?_ (Nat.le_of_ble_eq_true rfl)
  intro p e s m below meth c ls C hr hlk hP hl
  have C : pCx p s m c cX10_message 3 E RX10 := C
  have hS : va_S (pA E s.heap.size) s.heap s.heap [] := va_S.rf
  have hx := C.1
  have hb := C.2.1
  have hl : lv_has ls 3 [(0, .ref (pL E 57)), (1, .int a0), (2, .int a1)] := hl
  unfold f_X10_message at hf
  refine lv_iload_n hx hb dX10_message_0 rfl (lv_at hl 1 rfl) ?_
  refine lv_i2l hx hb dX10_message_1 rfl ?_
  refine lv_lconst (v := 0) hx hb dX10_message_2 (by decide) ?_
  refine lv_aload_n hx hb dX10_message_3 rfl (lv_at hl 0 rfl) ?_
  refine g_10_134 C hP dX10_message_4 ?_
  refine lv_iconst (v := 1) hx hb dX10_message_7 (by decide) ?_
  refine lv_isub hx hb dX10_message_8 ?_
  refine lv_i2l hx hb dX10_message_9 rfl ?_
  obtain ⟨r1, β2, hc3, hf⟩ := pb2_ok hf
  refine p_callS (n := 3) (As := [.long (a0.toInt64), .long 0, .long (((β 26 0) - 1).toInt64)]) (rest := []) C hP hS (wv_10_89 C.2.2.2.2.1 _) (c_X10_in l C.2.2.2.2.2.2  hc3) hd_X10_in rfl ⟨Nat.le_of_ble_eq_true rfl, Nat.le_of_ble_eq_true rfl⟩ hl.1 rfl (Nat.le_of_ble_eq_true rfl) dX10_message_10 ⟨Nat.zero_le _, Nat.zero_le _⟩ (fun H locs hP hS _ _ => ?_)
  refine W.eq (g2 := F0 m 13 ls [.int r1]) rfl ?_
  refine lv_if_ne (tgt := 19) hx hb dX10_message_13 (by decide) (fun h4 => ?_) (fun h4 => ?_)
  · have hf := pif_f hf h4
    refine lv_iload_n hx hb dX10_message_19 rfl (lv_at hl 2 rfl) ?_
    refine lv_i2l hx hb dX10_message_20 rfl ?_
    refine lv_lconst (v := 0) hx hb dX10_message_21 (by decide) ?_
    refine lv_ldc2 (v := 4) hx hb C.2.2.2.1 (C.2.2.2.2.1.1 _ (List.mem_of_getElem? (i := 1043) rfl) rfl _) dX10_message_22 ?_
    obtain ⟨r5, β6, hc7, hf⟩ := pb2_ok hf
    refine p_callS (n := 3) (As := [.long (a1.toInt64), .long 0, .long 4]) (rest := []) C hP hS (wv_10_89 C.2.2.2.2.1 _) (c_X10_in l C.2.2.2.2.2.2  hc7) hd_X10_in rfl ⟨Nat.le_of_ble_eq_true rfl, Nat.le_of_ble_eq_true rfl⟩ hl.1 rfl (Nat.le_of_ble_eq_true rfl) dX10_message_25 ⟨Nat.zero_le _, Nat.zero_le _⟩ (fun H locs hP hS _ _ => ?_)
    refine W.eq (g2 := F0 m 28 ls [.int r5]) rfl ?_
    refine lv_if_eq (tgt := 44) hx hb dX10_message_28 (by decide) (fun h8 => ?_) (fun h8 => ?_)
    · have hf := pif_t hf h8
      refine lv_bipush (v := (-102)) hx hb dX10_message_44 (by decide) ?_
      exact p_iret C hr hlk (pe1 hf) (pe2M hf) hP hS dX10_message_46
    · have hf := pif_f hf h8
      refine lv_aload_n hx hb dX10_message_31 rfl (lv_at hl 0 rfl) ?_
      refine g_10_74 C hP dX10_message_32 ?_
      refine lv_iconst (v := 5) hx hb dX10_message_35 (by decide) ?_
      refine lv_iload_n hx hb dX10_message_36 rfl (lv_at hl 1 rfl) ?_
      refine lv_imul hx hb dX10_message_37 ?_
      refine lv_iload_n hx hb dX10_message_38 rfl (lv_at hl 2 rfl) ?_
      refine lv_iadd hx hb dX10_message_39 ?_
      obtain ⟨h9, hf⟩ := pg_ok hf
      refine la_m_message C hP h9 dX10_message_40 ?_
      refine lv_goto (tgt := 46) hx hb dX10_message_41 (by decide) ?_
      exact p_iret C hr hlk (pe1 hf) (pe2M hf) hP hS dX10_message_46
  · have hf := pif_t hf h4
    refine lv_bipush (v := (-101)) hx hb dX10_message_16 (by decide) ?_
    exact p_iret C hr hlk (pe1 hf) (pe2M hf) hP hS dX10_message_18
set_option maxHeartbeats 4000000 in
set_option maxRecDepth 100000 in
theorem c_X10_told (l : Launch) {E : pE} (hE : pInj E) {α : pSt} {a0 : Int32} {a1 : Int32} {β β' : pSt} {r : Int32} (hf : f_X10_told a0 a1 β = some (r, β')) : pM l E yX10_told cX10_told 3 (some .int) 1 [.ref (pL E 57), .int a0, .int a1] α β (some (.int r)) α β' := by
  refine pM.ofW hE (by decide) ?_ (Nat.le_of_ble_eq_true rfl)
  intro p e s m below meth c ls C hr hlk hP hl
  have C : pCx p s m c cX10_told 3 E RX10 := C
  have hS : va_S (pA E s.heap.size) s.heap s.heap [] := va_S.rf
  have hx := C.1
  have hb := C.2.1
  have hl : lv_has ls 3 [(0, .ref (pL E 57)), (1, .int a0), (2, .int a1)] := hl
  unfold f_X10_told at hf
  refine lv_iload_n hx hb dX10_told_0 rfl (lv_at hl 1 rfl) ?_
  refine lv_i2l hx hb dX10_told_1 rfl ?_
  refine lv_lconst (v := 0) hx hb dX10_told_2 (by decide) ?_
  refine lv_aload_n hx hb dX10_told_3 rfl (lv_at hl 0 rfl) ?_
  refine g_10_113 C hP dX10_told_4 ?_
  refine lv_iconst (v := 1) hx hb dX10_told_7 (by decide) ?_
  refine lv_isub hx hb dX10_told_8 ?_
  refine lv_i2l hx hb dX10_told_9 rfl ?_
  obtain ⟨r1, β2, hc3, hf⟩ := pb2_ok hf
  refine p_callS (n := 3) (As := [.long (a0.toInt64), .long 0, .long (((β 7 0) - 1).toInt64)]) (rest := []) C hP hS (wv_10_89 C.2.2.2.2.1 _) (c_X10_in l C.2.2.2.2.2.2  hc3) hd_X10_in rfl ⟨Nat.le_of_ble_eq_true rfl, Nat.le_of_ble_eq_true rfl⟩ hl.1 rfl (Nat.le_of_ble_eq_true rfl) dX10_told_10 ⟨Nat.zero_le _, Nat.zero_le _⟩ (fun H locs hP hS _ _ => ?_)
  refine W.eq (g2 := F0 m 13 ls [.int r1]) rfl ?_
  refine lv_if_ne (tgt := 19) hx hb dX10_told_13 (by decide) (fun h4 => ?_) (fun h4 => ?_)
  · have hf := pif_f hf h4
    refine lv_iload_n hx hb dX10_told_19 rfl (lv_at hl 2 rfl) ?_
    by_cases h5 : a1 = 0
    · have hf := pif_t hf h5
      refine lv_tableIn (tgt := 52) (off := 32) hx hb dX10_told_20 (by rw [h5]; decide) (by rw [h5]; decide) (by rw [h5]; decide) (by decide) ?_
      refine lv_aload_n hx hb dX10_told_52 rfl (lv_at hl 0 rfl) ?_
      refine g_10_26 C hP dX10_told_53 ?_
      refine lv_iload_n hx hb dX10_told_56 rfl (lv_at hl 1 rfl) ?_
      obtain ⟨h6, hf⟩ := pg_ok hf
      refine la_m_fileOf C hP h6 dX10_told_57 ?_
      exact p_iret C hr hlk (pe1 hf) (pe2M hf) hP hS dX10_told_58
    · have hf := pif_f hf h5
      by_cases h7 : a1 = 1
      · have hf := pif_t hf h7
        refine lv_tableIn (tgt := 59) (off := 39) hx hb dX10_told_20 (by rw [h7]; decide) (by rw [h7]; decide) (by rw [h7]; decide) (by decide) ?_
        refine lv_aload_n hx hb dX10_told_59 rfl (lv_at hl 0 rfl) ?_
        refine g_10_29 C hP dX10_told_60 ?_
        refine lv_iload_n hx hb dX10_told_63 rfl (lv_at hl 1 rfl) ?_
        obtain ⟨h8, hf⟩ := pg_ok hf
        refine la_m_rules C hP h8 dX10_told_64 ?_
        exact p_iret C hr hlk (pe1 hf) (pe2M hf) hP hS dX10_told_65
      · have hf := pif_f hf h7
        by_cases h9 : a1 = 2
        · have hf := pif_t hf h9
          refine lv_tableIn (tgt := 66) (off := 46) hx hb dX10_told_20 (by rw [h9]; decide) (by rw [h9]; decide) (by rw [h9]; decide) (by decide) ?_
          refine lv_aload_n hx hb dX10_told_66 rfl (lv_at hl 0 rfl) ?_
          refine g_10_41 C hP dX10_told_67 ?_
          refine lv_iload_n hx hb dX10_told_70 rfl (lv_at hl 1 rfl) ?_
          obtain ⟨h10, hf⟩ := pg_ok hf
          refine la_m_stopped C hP h10 dX10_told_71 ?_
          refine lv_if_eq (tgt := 79) hx hb dX10_told_72 (by decide) (fun h11 => ?_) (fun h11 => ?_)
          · have hf := pif_t hf h11
            refine lv_iconst (v := 0) hx hb dX10_told_79 (by decide) ?_
            exact p_iret C hr hlk (pe1 hf) (pe2M hf) hP hS dX10_told_80
          · have hf := pif_f hf h11
            refine lv_iconst (v := 1) hx hb dX10_told_75 (by decide) ?_
            refine lv_goto (tgt := 80) hx hb dX10_told_76 (by decide) ?_
            exact p_iret C hr hlk (pe1 hf) (pe2M hf) hP hS dX10_told_80
        · have hf := pif_f hf h9
          by_cases h12 : a1 = 3
          · have hf := pif_t hf h12
            refine lv_tableIn (tgt := 81) (off := 61) hx hb dX10_told_20 (by rw [h12]; decide) (by rw [h12]; decide) (by rw [h12]; decide) (by decide) ?_
            refine lv_aload_n hx hb dX10_told_81 rfl (lv_at hl 0 rfl) ?_
            refine g_10_44 C hP dX10_told_82 ?_
            refine lv_iload_n hx hb dX10_told_85 rfl (lv_at hl 1 rfl) ?_
            obtain ⟨h13, hf⟩ := pg_ok hf
            refine la_m_took C hP h13 dX10_told_86 ?_
            exact p_iret C hr hlk (pe1 hf) (pe2M hf) hP hS dX10_told_87
          · have hf := pif_f hf h12
            refine lv_tableOut (tgt := 88) hx hb dX10_told_20 (by have z0 := lv_neT (a := 0) h5 rfl; have z1 := lv_neT (a := 1) h7 rfl; have z2 := lv_neT (a := 2) h9 rfl; have z3 := lv_neT (a := 3) h12 rfl; omega) (by decide) ?_
            refine lv_bipush (v := (-102)) hx hb dX10_told_88 (by decide) ?_
            exact p_iret C hr hlk (pe1 hf) (pe2M hf) hP hS dX10_told_90
  · have hf := pif_t hf h4
    refine lv_bipush (v := (-101)) hx hb dX10_told_16 (by decide) ?_
    exact p_iret C hr hlk (pe1 hf) (pe2M hf) hP hS dX10_told_18
set_option maxHeartbeats 4000000 in
set_option maxRecDepth 100000 in
theorem c_X10_cell (l : Launch) {E : pE} (hE : pInj E) {α : pSt} {a0 : Int32} {β β' : pSt} {r : Int32} (hf : f_X10_cell a0 β = some (r, β')) : pM l E yX10_cell cX10_cell 2 (some .int) 1 [.ref (pL E 57), .int a0] α β (some (.int r)) α β' := by
  refine pM.ofW hE (by decide) ?_ (Nat.le_of_ble_eq_true rfl)
  intro p e s m below meth c ls C hr hlk hP hl
  have C : pCx p s m c cX10_cell 2 E RX10 := C
  have hS : va_S (pA E s.heap.size) s.heap s.heap [] := va_S.rf
  have hx := C.1
  have hb := C.2.1
  have hl : lv_has ls 2 [(0, .ref (pL E 57)), (1, .int a0)] := hl
  unfold f_X10_cell at hf
  refine lv_aload_n hx hb dX10_cell_0 rfl (lv_at hl 0 rfl) ?_
  refine lv_iload_n hx hb dX10_cell_1 rfl (lv_at hl 1 rfl) ?_
  refine lv_i2l hx hb dX10_cell_2 rfl ?_
  refine lv_lconst (v := 0) hx hb dX10_cell_3 (by decide) ?_
  refine lv_ldc2 (v := 5) hx hb C.2.2.2.1 (C.2.2.2.2.1.1 _ (List.mem_of_getElem? (i := 946) rfl) rfl _) dX10_cell_4 ?_
  obtain ⟨r1, β2, hc3, hf⟩ := pb2_ok hf
  refine p_callS (n := 3) (As := [.long (a0.toInt64), .long 0, .long 5]) (rest := [.ref (pL E 57)]) C hP hS (wv_10_89 C.2.2.2.2.1 _) (c_X10_in l C.2.2.2.2.2.2  hc3) hd_X10_in rfl ⟨Nat.le_of_ble_eq_true rfl, Nat.le_of_ble_eq_true rfl⟩ hl.1 rfl (Nat.le_of_ble_eq_true rfl) dX10_cell_7 ⟨Nat.zero_le _, Nat.zero_le _⟩ (fun H locs hP hS _ _ => ?_)
  refine W.eq (g2 := F0 m 10 ls [.int r1, .ref (pL E 57)]) rfl ?_
  refine lv_if_ne (tgt := 17) hx hb dX10_cell_10 (by decide) (fun h4 => ?_) (fun h4 => ?_)
  · have hf := pif_f hf h4
    refine lv_iload_n hx hb dX10_cell_17 rfl (lv_at hl 1 rfl) ?_
    refine lv_aload_n hx hb dX10_cell_18 rfl (lv_at hl 0 rfl) ?_
    refine g_10_113 C hP dX10_cell_19 ?_
    refine lv_icmp_lt (tgt := 29) hx hb dX10_cell_22 (by decide) (fun h5 => ?_) (fun h5 => ?_)
    · have hf := pif_t hf h5
      refine lv_iconst (v := 0) hx hb dX10_cell_29 (by decide) ?_
      refine s_10_84 C hP hS dX10_cell_30 (fun H locs hP hS => ?_)
      obtain ⟨β6, eβ6, hf⟩ := pl_ok hf
      rw [← eβ6] at hP
      clear eβ6
      refine lv_aload_n hx hb dX10_cell_33 rfl (lv_at hl 0 rfl) ?_
      refine g_10_84 C hP dX10_cell_34 ?_
      refine lv_if_ne (tgt := 49) hx hb dX10_cell_37 (by decide) (fun h7 => ?_) (fun h7 => ?_)
      · have hf := pif_f hf h7
        refine lv_iconst (v := 0) hx hb dX10_cell_49 (by decide) ?_
        exact p_iret C hr hlk (pe1 hf) (pe2M hf) hP hS dX10_cell_50
      · have hf := pif_t hf h7
        refine lv_aload_n hx hb dX10_cell_40 rfl (lv_at hl 0 rfl) ?_
        refine g_10_35 C hP dX10_cell_41 ?_
        refine lv_iload_n hx hb dX10_cell_44 rfl (lv_at hl 1 rfl) ?_
        obtain ⟨h8, hf⟩ := pg_ok hf
        refine la_m_cells C hP h8 dX10_cell_45 ?_
        refine lv_goto (tgt := 50) hx hb dX10_cell_46 (by decide) ?_
        exact p_iret C hr hlk (pe1 hf) (pe2M hf) hP hS dX10_cell_50
    · have hf := pif_f hf h5
      refine lv_iconst (v := 2) hx hb dX10_cell_25 (by decide) ?_
      refine lv_goto (tgt := 30) hx hb dX10_cell_26 (by decide) ?_
      refine s_10_84 C hP hS dX10_cell_30 (fun H locs hP hS => ?_)
      obtain ⟨β9, eβ9, hf⟩ := pl_ok hf
      rw [← eβ9] at hP
      clear eβ9
      refine lv_aload_n hx hb dX10_cell_33 rfl (lv_at hl 0 rfl) ?_
      refine g_10_84 C hP dX10_cell_34 ?_
      refine lv_if_ne (tgt := 49) hx hb dX10_cell_37 (by decide) (fun h10 => ?_) (fun h10 => ?_)
      · have hf := pif_f hf h10
        refine lv_iconst (v := 0) hx hb dX10_cell_49 (by decide) ?_
        exact p_iret C hr hlk (pe1 hf) (pe2M hf) hP hS dX10_cell_50
      · have hf := pif_t hf h10
        refine lv_aload_n hx hb dX10_cell_40 rfl (lv_at hl 0 rfl) ?_
        refine g_10_35 C hP dX10_cell_41 ?_
        refine lv_iload_n hx hb dX10_cell_44 rfl (lv_at hl 1 rfl) ?_
        obtain ⟨h11, hf⟩ := pg_ok hf
        refine la_m_cells C hP h11 dX10_cell_45 ?_
        refine lv_goto (tgt := 50) hx hb dX10_cell_46 (by decide) ?_
        exact p_iret C hr hlk (pe1 hf) (pe2M hf) hP hS dX10_cell_50
  · have hf := pif_t hf h4
    refine lv_iconst (v := 1) hx hb dX10_cell_13 (by decide) ?_
    refine lv_goto (tgt := 30) hx hb dX10_cell_14 (by decide) ?_
    refine s_10_84 C hP hS dX10_cell_30 (fun H locs hP hS => ?_)
    obtain ⟨β12, eβ12, hf⟩ := pl_ok hf
    rw [← eβ12] at hP
    clear eβ12
    refine lv_aload_n hx hb dX10_cell_33 rfl (lv_at hl 0 rfl) ?_
    refine g_10_84 C hP dX10_cell_34 ?_
    refine lv_if_ne (tgt := 49) hx hb dX10_cell_37 (by decide) (fun h13 => ?_) (fun h13 => ?_)
    · have hf := pif_f hf h13
      refine lv_iconst (v := 0) hx hb dX10_cell_49 (by decide) ?_
      exact p_iret C hr hlk (pe1 hf) (pe2M hf) hP hS dX10_cell_50
    · have hf := pif_t hf h13
      refine lv_aload_n hx hb dX10_cell_40 rfl (lv_at hl 0 rfl) ?_
      refine g_10_35 C hP dX10_cell_41 ?_
      refine lv_iload_n hx hb dX10_cell_44 rfl (lv_at hl 1 rfl) ?_
      obtain ⟨h14, hf⟩ := pg_ok hf
      refine la_m_cells C hP h14 dX10_cell_45 ?_
      refine lv_goto (tgt := 50) hx hb dX10_cell_46 (by decide) ?_
      exact p_iret C hr hlk (pe1 hf) (pe2M hf) hP hS dX10_cell_50
set_option maxHeartbeats 4000000 in
set_option maxRecDepth 100000 in
theorem c_X10_resource (l : Launch) {E : pE} (hE : pInj E) {α : pSt} {a0 : Int32} {a1 : Int32} {β β' : pSt} {r : Int32} (hf : f_X10_resource a0 a1 β = some (r, β')) : pM l E yX10_resource cX10_resource 4 (some .int) 1 [.ref (pL E 57), .int a0, .int a1] α β (some (.int r)) α β' := by
  refine pM.ofW hE (by decide) ?_ (Nat.le_of_ble_eq_true rfl)
  intro p e s m below meth c ls C hr hlk hP hl
  have C : pCx p s m c cX10_resource 4 E RX10 := C
  have hS : va_S (pA E s.heap.size) s.heap s.heap [] := va_S.rf
  have hx := C.1
  have hb := C.2.1
  have hl : lv_has ls 4 [(0, .ref (pL E 57)), (1, .int a0), (2, .int a1)] := hl
  unfold f_X10_resource at hf
  refine lv_iload_n hx hb dX10_resource_0 rfl (lv_at hl 1 rfl) ?_
  refine lv_i2l hx hb dX10_resource_1 rfl ?_
  refine lv_lconst (v := 0) hx hb dX10_resource_2 (by decide) ?_
  refine lv_ldc2 (v := 3) hx hb C.2.2.2.1 (C.2.2.2.2.1.1 _ (List.mem_of_getElem? (i := 1005) rfl) rfl _) dX10_resource_3 ?_
  obtain ⟨r1, β2, hc3, hf⟩ := pb2_ok hf
  refine p_callS (n := 3) (As := [.long (a0.toInt64), .long 0, .long 3]) (rest := []) C hP hS (wv_10_89 C.2.2.2.2.1 _) (c_X10_in l C.2.2.2.2.2.2  hc3) hd_X10_in rfl ⟨Nat.le_of_ble_eq_true rfl, Nat.le_of_ble_eq_true rfl⟩ hl.1 rfl (Nat.le_of_ble_eq_true rfl) dX10_resource_6 ⟨Nat.zero_le _, Nat.zero_le _⟩ (fun H locs hP hS _ _ => ?_)
  refine W.eq (g2 := F0 m 9 ls [.int r1]) rfl ?_
  refine lv_if_eq (tgt := 50) hx hb dX10_resource_9 (by decide) (fun h4 => ?_) (fun h4 => ?_)
  · have hf := pif_t hf h4
    refine lv_iconst (v := 0) hx hb dX10_resource_50 (by decide) ?_
    refine lv_istore_n (lv' := [(3, .int 0), (0, .ref (pL E 57)), (1, .int a0), (2, .int a1)]) hx hb dX10_resource_51 rfl hl (by decide) rfl (fun ls hl => ?_)
    refine lv_aload_n hx hb dX10_resource_52 rfl (lv_at hl 1 rfl) ?_
    refine lv_iload_n hx hb dX10_resource_53 rfl (lv_at hl 0 rfl) ?_
    refine lv_if_eq (tgt := 61) hx hb dX10_resource_54 (by decide) (fun h5 => ?_) (fun h5 => absurd h5 (by decide))
    refine lv_iconst (v := 1) hx hb dX10_resource_61 (by decide) ?_
    refine s_10_84 C hP hS dX10_resource_62 (fun H locs hP hS => ?_)
    obtain ⟨β6, eβ6, hf⟩ := pl_ok hf
    rw [← eβ6] at hP
    clear eβ6
    refine lv_iload_n hx hb dX10_resource_65 rfl (lv_at hl 0 rfl) ?_
    refine lv_if_eq (tgt := 83) hx hb dX10_resource_66 (by decide) (fun h7 => ?_) (fun h7 => absurd h7 (by decide))
    refine lv_iconst (v := 0) hx hb dX10_resource_83 (by decide) ?_
    exact p_iret C hr hlk (pe1 hf) (pe2M hf) hP hS dX10_resource_84
  · have hf := pif_f hf h4
    refine lv_iload_n hx hb dX10_resource_12 rfl (lv_at hl 2 rfl) ?_
    refine lv_i2l hx hb dX10_resource_13 rfl ?_
    refine lv_lconst (v := 0) hx hb dX10_resource_14 (by decide) ?_
    refine lv_aload_n hx hb dX10_resource_15 rfl (lv_at hl 0 rfl) ?_
    refine g_10_65 C hP dX10_resource_16 ?_
    refine lv_iload_n hx hb dX10_resource_19 rfl (lv_at hl 1 rfl) ?_
    refine lv_i2l hx hb dX10_resource_20 rfl ?_
    refine lv_lconst (v := 0) hx hb dX10_resource_21 (by decide) ?_
    refine lv_ldc2 (v := 3) hx hb C.2.2.2.1 (C.2.2.2.2.1.1 _ (List.mem_of_getElem? (i := 1005) rfl) rfl _) dX10_resource_22 ?_
    obtain ⟨r8, β9, hc10, hf⟩ := pb2_ok hf
    refine p_callS (n := 3) (As := [.long (a0.toInt64), .long 0, .long 3]) (rest := [.ref (pL E 76), .long 0, .long (a1.toInt64)]) C hP hS (wv_10_89 C.2.2.2.2.1 _) (c_X10_in l C.2.2.2.2.2.2  hc10) hd_X10_in rfl ⟨Nat.le_of_ble_eq_true rfl, Nat.le_of_ble_eq_true rfl⟩ hl.1 rfl (Nat.le_of_ble_eq_true rfl) dX10_resource_25 ⟨Nat.zero_le _, Nat.zero_le _⟩ (fun H locs hP hS _ _ => ?_)
    refine W.eq (g2 := F0 m 28 ls [.int r8, .ref (pL E 76), .long 0, .long (a1.toInt64)]) rfl ?_
    refine lv_if_eq (tgt := 35) hx hb dX10_resource_28 (by decide) (fun h11 => ?_) (fun h11 => ?_)
    · have hf := pif_t hf h11
      refine lv_iconst (v := 0) hx hb dX10_resource_35 (by decide) ?_
      obtain ⟨h12, hf⟩ := pg_ok hf
      refine la_m_written C hP h12 dX10_resource_36 ?_
      refine lv_iconst (v := 1) hx hb dX10_resource_37 (by decide) ?_
      refine lv_isub hx hb dX10_resource_38 ?_
      refine lv_i2l hx hb dX10_resource_39 rfl ?_
      obtain ⟨r13, β14, hc15, hf⟩ := pb2_ok hf
      refine p_callS (n := 3) (As := [.long (a1.toInt64), .long 0, .long (((β9 23 ((0 : Int32).toNatClampNeg)) - 1).toInt64)]) (rest := []) C hP hS (wv_10_89 C.2.2.2.2.1 _) (c_X10_in l C.2.2.2.2.2.2  hc15) hd_X10_in rfl ⟨Nat.le_of_ble_eq_true rfl, Nat.le_of_ble_eq_true rfl⟩ hl.1 rfl (Nat.le_of_ble_eq_true rfl) dX10_resource_40 ⟨Nat.zero_le _, Nat.zero_le _⟩ (fun H locs hP hS _ _ => ?_)
      refine W.eq (g2 := F0 m 43 ls [.int r13]) rfl ?_
      refine lv_if_eq (tgt := 50) hx hb dX10_resource_43 (by decide) (fun h16 => ?_) (fun h16 => ?_)
      · have hf := pif_t hf h16
        refine lv_iconst (v := 0) hx hb dX10_resource_50 (by decide) ?_
        refine lv_istore_n (lv' := [(3, .int 0), (0, .ref (pL E 57)), (1, .int a0), (2, .int a1)]) hx hb dX10_resource_51 rfl hl (by decide) rfl (fun ls hl => ?_)
        refine lv_aload_n hx hb dX10_resource_52 rfl (lv_at hl 1 rfl) ?_
        refine lv_iload_n hx hb dX10_resource_53 rfl (lv_at hl 0 rfl) ?_
        refine lv_if_eq (tgt := 61) hx hb dX10_resource_54 (by decide) (fun h17 => ?_) (fun h17 => absurd h17 (by decide))
        refine lv_iconst (v := 1) hx hb dX10_resource_61 (by decide) ?_
        refine s_10_84 C hP hS dX10_resource_62 (fun H locs hP hS => ?_)
        obtain ⟨β18, eβ18, hf⟩ := pl_ok hf
        rw [← eβ18] at hP
        clear eβ18
        refine lv_iload_n hx hb dX10_resource_65 rfl (lv_at hl 0 rfl) ?_
        refine lv_if_eq (tgt := 83) hx hb dX10_resource_66 (by decide) (fun h19 => ?_) (fun h19 => absurd h19 (by decide))
        refine lv_iconst (v := 0) hx hb dX10_resource_83 (by decide) ?_
        exact p_iret C hr hlk (pe1 hf) (pe2M hf) hP hS dX10_resource_84
      · have hf := pif_f hf h16
        refine lv_iconst (v := 1) hx hb dX10_resource_46 (by decide) ?_
        refine lv_goto (tgt := 51) hx hb dX10_resource_47 (by decide) ?_
        refine lv_istore_n (lv' := [(3, .int 1), (0, .ref (pL E 57)), (1, .int a0), (2, .int a1)]) hx hb dX10_resource_51 rfl hl (by decide) rfl (fun ls hl => ?_)
        refine lv_aload_n hx hb dX10_resource_52 rfl (lv_at hl 1 rfl) ?_
        refine lv_iload_n hx hb dX10_resource_53 rfl (lv_at hl 0 rfl) ?_
        refine lv_if_eq (tgt := 61) hx hb dX10_resource_54 (by decide) (fun h20 => absurd h20 (by decide)) (fun h20 => ?_)
        refine lv_iconst (v := 0) hx hb dX10_resource_57 (by decide) ?_
        refine lv_goto (tgt := 62) hx hb dX10_resource_58 (by decide) ?_
        refine s_10_84 C hP hS dX10_resource_62 (fun H locs hP hS => ?_)
        obtain ⟨β21, eβ21, hf⟩ := pl_ok hf
        rw [← eβ21] at hP
        clear eβ21
        refine lv_iload_n hx hb dX10_resource_65 rfl (lv_at hl 0 rfl) ?_
        refine lv_if_eq (tgt := 83) hx hb dX10_resource_66 (by decide) (fun h22 => absurd h22 (by decide)) (fun h22 => ?_)
        refine lv_aload_n hx hb dX10_resource_69 rfl (lv_at hl 1 rfl) ?_
        refine g_10_71 C hP dX10_resource_70 ?_
        refine lv_bipush (v := 100) hx hb dX10_resource_73 (by decide) ?_
        refine lv_iload_n hx hb dX10_resource_75 rfl (lv_at hl 2 rfl) ?_
        refine lv_imul hx hb dX10_resource_76 ?_
        refine lv_iload_n hx hb dX10_resource_77 rfl (lv_at hl 3 rfl) ?_
        refine lv_iadd hx hb dX10_resource_78 ?_
        obtain ⟨h23, hf⟩ := pg_ok hf
        refine la_m_resource C hP h23 dX10_resource_79 ?_
        refine lv_goto (tgt := 84) hx hb dX10_resource_80 (by decide) ?_
        exact p_iret C hr hlk (pe1 hf) (pe2M hf) hP hS dX10_resource_84
    · have hf := pif_f hf h11
      refine lv_iload_n hx hb dX10_resource_31 rfl (lv_at hl 1 rfl) ?_
      refine lv_goto (tgt := 36) hx hb dX10_resource_32 (by decide) ?_
      obtain ⟨h24, hf⟩ := pg_ok hf
      refine la_m_written C hP h24 dX10_resource_36 ?_
      refine lv_iconst (v := 1) hx hb dX10_resource_37 (by decide) ?_
      refine lv_isub hx hb dX10_resource_38 ?_
      refine lv_i2l hx hb dX10_resource_39 rfl ?_
      obtain ⟨r25, β26, hc27, hf⟩ := pb2_ok hf
      refine p_callS (n := 3) (As := [.long (a1.toInt64), .long 0, .long (((β9 23 (a0.toNatClampNeg)) - 1).toInt64)]) (rest := []) C hP hS (wv_10_89 C.2.2.2.2.1 _) (c_X10_in l C.2.2.2.2.2.2  hc27) hd_X10_in rfl ⟨Nat.le_of_ble_eq_true rfl, Nat.le_of_ble_eq_true rfl⟩ hl.1 rfl (Nat.le_of_ble_eq_true rfl) dX10_resource_40 ⟨Nat.zero_le _, Nat.zero_le _⟩ (fun H locs hP hS _ _ => ?_)
      refine W.eq (g2 := F0 m 43 ls [.int r25]) rfl ?_
      refine lv_if_eq (tgt := 50) hx hb dX10_resource_43 (by decide) (fun h28 => ?_) (fun h28 => ?_)
      · have hf := pif_t hf h28
        refine lv_iconst (v := 0) hx hb dX10_resource_50 (by decide) ?_
        refine lv_istore_n (lv' := [(3, .int 0), (0, .ref (pL E 57)), (1, .int a0), (2, .int a1)]) hx hb dX10_resource_51 rfl hl (by decide) rfl (fun ls hl => ?_)
        refine lv_aload_n hx hb dX10_resource_52 rfl (lv_at hl 1 rfl) ?_
        refine lv_iload_n hx hb dX10_resource_53 rfl (lv_at hl 0 rfl) ?_
        refine lv_if_eq (tgt := 61) hx hb dX10_resource_54 (by decide) (fun h29 => ?_) (fun h29 => absurd h29 (by decide))
        refine lv_iconst (v := 1) hx hb dX10_resource_61 (by decide) ?_
        refine s_10_84 C hP hS dX10_resource_62 (fun H locs hP hS => ?_)
        obtain ⟨β30, eβ30, hf⟩ := pl_ok hf
        rw [← eβ30] at hP
        clear eβ30
        refine lv_iload_n hx hb dX10_resource_65 rfl (lv_at hl 0 rfl) ?_
        refine lv_if_eq (tgt := 83) hx hb dX10_resource_66 (by decide) (fun h31 => ?_) (fun h31 => absurd h31 (by decide))
        refine lv_iconst (v := 0) hx hb dX10_resource_83 (by decide) ?_
        exact p_iret C hr hlk (pe1 hf) (pe2M hf) hP hS dX10_resource_84
      · have hf := pif_f hf h28
        refine lv_iconst (v := 1) hx hb dX10_resource_46 (by decide) ?_
        refine lv_goto (tgt := 51) hx hb dX10_resource_47 (by decide) ?_
        refine lv_istore_n (lv' := [(3, .int 1), (0, .ref (pL E 57)), (1, .int a0), (2, .int a1)]) hx hb dX10_resource_51 rfl hl (by decide) rfl (fun ls hl => ?_)
        refine lv_aload_n hx hb dX10_resource_52 rfl (lv_at hl 1 rfl) ?_
        refine lv_iload_n hx hb dX10_resource_53 rfl (lv_at hl 0 rfl) ?_
        refine lv_if_eq (tgt := 61) hx hb dX10_resource_54 (by decide) (fun h32 => absurd h32 (by decide)) (fun h32 => ?_)
        refine lv_iconst (v := 0) hx hb dX10_resource_57 (by decide) ?_
        refine lv_goto (tgt := 62) hx hb dX10_resource_58 (by decide) ?_
        refine s_10_84 C hP hS dX10_resource_62 (fun H locs hP hS => ?_)
        obtain ⟨β33, eβ33, hf⟩ := pl_ok hf
        rw [← eβ33] at hP
        clear eβ33
        refine lv_iload_n hx hb dX10_resource_65 rfl (lv_at hl 0 rfl) ?_
        refine lv_if_eq (tgt := 83) hx hb dX10_resource_66 (by decide) (fun h34 => absurd h34 (by decide)) (fun h34 => ?_)
        refine lv_aload_n hx hb dX10_resource_69 rfl (lv_at hl 1 rfl) ?_
        refine g_10_71 C hP dX10_resource_70 ?_
        refine lv_bipush (v := 100) hx hb dX10_resource_73 (by decide) ?_
        refine lv_iload_n hx hb dX10_resource_75 rfl (lv_at hl 2 rfl) ?_
        refine lv_imul hx hb dX10_resource_76 ?_
        refine lv_iload_n hx hb dX10_resource_77 rfl (lv_at hl 3 rfl) ?_
        refine lv_iadd hx hb dX10_resource_78 ?_
        obtain ⟨h35, hf⟩ := pg_ok hf
        refine la_m_resource C hP h35 dX10_resource_79 ?_
        refine lv_goto (tgt := 84) hx hb dX10_resource_80 (by decide) ?_
        exact p_iret C hr hlk (pe1 hf) (pe2M hf) hP hS dX10_resource_84
set_option maxHeartbeats 4000000 in
set_option maxRecDepth 100000 in
theorem c_X10_about (l : Launch) {E : pE} (hE : pInj E) {α : pSt} {a0 : Int32} {β β' : pSt} {r : Int32} (hf : f_X10_about a0 β = some (r, β')) : pM l E yX10_about cX10_about 4 (some .int) 1 [.ref (pL E 57), .int a0] α β (some (.int r)) α β' := by
  refine pM.ofW hE (by decide) ?_ (Nat.le_of_ble_eq_true rfl)
  intro p e s m below meth c ls C hr hlk hP hl
  have C : pCx p s m c cX10_about 4 E RX10 := C
  have hS : va_S (pA E s.heap.size) s.heap s.heap [] := va_S.rf
  have hx := C.1
  have hb := C.2.1
  have hl : lv_has ls 4 [(0, .ref (pL E 57)), (1, .int a0)] := hl
  unfold f_X10_about at hf
  refine lv_iconst (v := 0) hx hb dX10_about_0 (by decide) ?_
  refine lv_istore_n (lv' := [(2, .int 0), (0, .ref (pL E 57)), (1, .int a0)]) hx hb dX10_about_1 rfl hl (by decide) rfl (fun ls hl => ?_)
  refine lv_iconst (v := 0) hx hb dX10_about_2 (by decide) ?_
  refine lv_istore_n (lv' := [(3, .int 0), (2, .int 0), (0, .ref (pL E 57)), (1, .int a0)]) hx hb dX10_about_3 rfl hl (by decide) rfl (fun ls hl => ?_)
  have lp4 : ∀ (n : Nat) (x3 : Int32) (x2 : Int32) (β : pSt) (H : Heap) (locs : List Loc) (ls : Array Slot), f_X10_about_L4 a0 n x3 x2 β = some (r, β') → va_P (pD E) vwCl (pw E α β) H → va_S (pA E s.heap.size) s.heap H locs → lv_has ls 4 [(3, .int x3), (2, .int x2), (0, .ref (pL E 57)), (1, .int a0)] → W p l e (pR 1) s m [.ref (pL E 57), .int a0].toArray below meth c H locs 0 0 (pQ below E s [.ref (pL E 57), .int a0].toArray (some (.int r)) α β') (F0 m 4 ls []) := by
    intro n
    induction n with
    | zero =>
      intro x3 x2 β H locs ls hf
      rw [f_X10_about_L4] at hf
      cases hf
    | succ n4 ih4 =>
      intro x3 x2 β H locs ls hf hP hS hl
      rw [f_X10_about_L4] at hf
      refine lv_iload_n hx hb dX10_about_4 rfl (lv_at hl 0 rfl) ?_
      refine lv_aload_n hx hb dX10_about_5 rfl (lv_at hl 2 rfl) ?_
      refine g_10_80 C hP dX10_about_6 ?_
      refine lv_icmp_ge (tgt := 35) hx hb dX10_about_9 (by decide) (fun h1 => ?_) (fun h1 => ?_)
      · have hf := pif_t hf h1
        refine lv_iload_n hx hb dX10_about_35 rfl (lv_at hl 3 rfl) ?_
        by_cases h2 : a0 = 0
        · have hf := pif_t hf h2
          refine lv_tableIn (tgt := 80) (off := 44) hx hb dX10_about_36 (by rw [h2]; decide) (by rw [h2]; decide) (by rw [h2]; decide) (by decide) ?_
          refine lv_aload_n hx hb dX10_about_80 rfl (lv_at hl 2 rfl) ?_
          refine g_10_80 C hP dX10_about_81 ?_
          exact p_iret C hr hlk (pe1 hf) (pe2M hf) hP hS dX10_about_84
        · have hf := pif_f hf h2
          by_cases h3 : a0 = 1
          · have hf := pif_t hf h3
            refine lv_tableIn (tgt := 85) (off := 49) hx hb dX10_about_36 (by rw [h3]; decide) (by rw [h3]; decide) (by rw [h3]; decide) (by decide) ?_
            refine lv_aload_n hx hb dX10_about_85 rfl (lv_at hl 2 rfl) ?_
            refine g_10_113 C hP dX10_about_86 ?_
            exact p_iret C hr hlk (pe1 hf) (pe2M hf) hP hS dX10_about_89
          · have hf := pif_f hf h3
            by_cases h4 : a0 = 2
            · have hf := pif_t hf h4
              refine lv_tableIn (tgt := 90) (off := 54) hx hb dX10_about_36 (by rw [h4]; decide) (by rw [h4]; decide) (by rw [h4]; decide) (by decide) ?_
              refine lv_aload_n hx hb dX10_about_90 rfl (lv_at hl 2 rfl) ?_
              refine g_10_134 C hP dX10_about_91 ?_
              exact p_iret C hr hlk (pe1 hf) (pe2M hf) hP hS dX10_about_94
            · have hf := pif_f hf h4
              by_cases h5 : a0 = 3
              · have hf := pif_t hf h5
                refine lv_tableIn (tgt := 95) (off := 59) hx hb dX10_about_36 (by rw [h5]; decide) (by rw [h5]; decide) (by rw [h5]; decide) (by decide) ?_
                refine lv_iload_n hx hb dX10_about_95 rfl (lv_at hl 1 rfl) ?_
                exact p_iret C hr hlk (pe1 hf) (pe2M hf) hP hS dX10_about_96
              · have hf := pif_f hf h5
                by_cases h6 : a0 = 4
                · have hf := pif_t hf h6
                  refine lv_tableIn (tgt := 97) (off := 61) hx hb dX10_about_36 (by rw [h6]; decide) (by rw [h6]; decide) (by rw [h6]; decide) (by decide) ?_
                  refine lv_aload_n hx hb dX10_about_97 rfl (lv_at hl 2 rfl) ?_
                  refine g_10_146 C hP dX10_about_98 ?_
                  exact p_iret C hr hlk (pe1 hf) (pe2M hf) hP hS dX10_about_101
                · have hf := pif_f hf h6
                  by_cases h7 : a0 = 5
                  · have hf := pif_t hf h7
                    refine lv_tableIn (tgt := 102) (off := 66) hx hb dX10_about_36 (by rw [h7]; decide) (by rw [h7]; decide) (by rw [h7]; decide) (by decide) ?_
                    refine lv_aload_n hx hb dX10_about_102 rfl (lv_at hl 2 rfl) ?_
                    refine g_10_168 C hP dX10_about_103 ?_
                    exact p_iret C hr hlk (pe1 hf) (pe2M hf) hP hS dX10_about_106
                  · have hf := pif_f hf h7
                    by_cases h8 : a0 = 6
                    · have hf := pif_t hf h8
                      refine lv_tableIn (tgt := 107) (off := 71) hx hb dX10_about_36 (by rw [h8]; decide) (by rw [h8]; decide) (by rw [h8]; decide) (by decide) ?_
                      refine lv_aload_n hx hb dX10_about_107 rfl (lv_at hl 2 rfl) ?_
                      refine g_10_171 C hP dX10_about_108 ?_
                      exact p_iret C hr hlk (pe1 hf) (pe2M hf) hP hS dX10_about_111
                    · have hf := pif_f hf h8
                      refine lv_tableOut (tgt := 112) hx hb dX10_about_36 (by have z0 := lv_neT (a := 0) h2 rfl; have z1 := lv_neT (a := 1) h3 rfl; have z2 := lv_neT (a := 2) h4 rfl; have z3 := lv_neT (a := 3) h5 rfl; have z4 := lv_neT (a := 4) h6 rfl; have z5 := lv_neT (a := 5) h7 rfl; have z6 := lv_neT (a := 6) h8 rfl; omega) (by decide) ?_
                      refine lv_iload_n hx hb dX10_about_112 rfl (lv_at hl 3 rfl) ?_
                      refine lv_i2l hx hb dX10_about_113 rfl ?_
                      refine lv_ldc2 (v := 10) hx hb C.2.2.2.1 (C.2.2.2.2.1.1 _ (List.mem_of_getElem? (i := 1060) rfl) rfl _) dX10_about_114 ?_
                      refine lv_ldc2 (v := 13) hx hb C.2.2.2.1 (C.2.2.2.2.1.1 _ (List.mem_of_getElem? (i := 1061) rfl) rfl _) dX10_about_117 ?_
                      obtain ⟨r9, β10, hc11, hf⟩ := pb2_ok hf
                      refine p_callS (n := 3) (As := [.long (a0.toInt64), .long 10, .long 13]) (rest := []) C hP hS (wv_10_89 C.2.2.2.2.1 _) (c_X10_in l C.2.2.2.2.2.2  hc11) hd_X10_in rfl ⟨Nat.le_of_ble_eq_true rfl, Nat.le_of_ble_eq_true rfl⟩ hl.1 rfl (Nat.le_of_ble_eq_true rfl) dX10_about_120 ⟨Nat.zero_le _, Nat.zero_le _⟩ (fun H locs hP hS _ _ => ?_)
                      refine W.eq (g2 := F0 m 123 ls [.int r9]) rfl ?_
                      refine lv_if_eq (tgt := 138) hx hb dX10_about_123 (by decide) (fun h12 => ?_) (fun h12 => ?_)
                      · have hf := pif_t hf h12
                        refine lv_bipush (v := (-102)) hx hb dX10_about_138 (by decide) ?_
                        exact p_iret C hr hlk (pe1 hf) (pe2M hf) hP hS dX10_about_140
                      · have hf := pif_f hf h12
                        refine lv_aload_n hx hb dX10_about_126 rfl (lv_at hl 2 rfl) ?_
                        refine g_10_65 C hP dX10_about_127 ?_
                        refine lv_iload_n hx hb dX10_about_130 rfl (lv_at hl 3 rfl) ?_
                        refine lv_bipush (v := 10) hx hb dX10_about_131 (by decide) ?_
                        refine lv_isub hx hb dX10_about_133 ?_
                        obtain ⟨h13, hf⟩ := pg_ok hf
                        refine la_m_written C hP h13 dX10_about_134 ?_
                        refine lv_goto (tgt := 140) hx hb dX10_about_135 (by decide) ?_
                        exact p_iret C hr hlk (pe1 hf) (pe2M hf) hP hS dX10_about_140
      · have hf := pif_f hf h1
        refine lv_iload_n hx hb dX10_about_12 rfl (lv_at hl 1 rfl) ?_
        refine lv_aload_n hx hb dX10_about_13 rfl (lv_at hl 2 rfl) ?_
        refine g_10_53 C hP dX10_about_14 ?_
        refine lv_iload_n hx hb dX10_about_17 rfl (lv_at hl 0 rfl) ?_
        obtain ⟨h14, hf⟩ := pg_ok hf
        refine la_m_isNew C hP h14 dX10_about_18 ?_
        refine lv_if_eq (tgt := 26) hx hb dX10_about_19 (by decide) (fun h15 => ?_) (fun h15 => ?_)
        · have hf := pif_t hf h15
          refine lv_iconst (v := 0) hx hb dX10_about_26 (by decide) ?_
          refine lv_iadd hx hb dX10_about_27 ?_
          refine lv_istore_n (lv' := [(2, .int (x2 + 0)), (3, .int x3), (0, .ref (pL E 57)), (1, .int a0)]) hx hb dX10_about_28 rfl hl (by decide) rfl (fun ls hl => ?_)
          refine lv_iinc (v := (x3 + 1)) (lv' := [(3, .int (x3 + 1)), (2, .int (x2 + 0)), (0, .ref (pL E 57)), (1, .int a0)]) hx hb dX10_about_29 hl (k := 1) rfl rfl (by decide) rfl (fun ls hl => ?_)
          refine lv_goto (tgt := 4) hx hb dX10_about_32 (by decide) ?_
          exact ih4 _ _ β _ _ _ hf hP hS (lv_sub hl [0, 1, 2, 3] rfl)
        · have hf := pif_f hf h15
          refine lv_iconst (v := 1) hx hb dX10_about_22 (by decide) ?_
          refine lv_goto (tgt := 27) hx hb dX10_about_23 (by decide) ?_
          refine lv_iadd hx hb dX10_about_27 ?_
          refine lv_istore_n (lv' := [(2, .int (x2 + 1)), (3, .int x3), (0, .ref (pL E 57)), (1, .int a0)]) hx hb dX10_about_28 rfl hl (by decide) rfl (fun ls hl => ?_)
          refine lv_iinc (v := (x3 + 1)) (lv' := [(3, .int (x3 + 1)), (2, .int (x2 + 1)), (0, .ref (pL E 57)), (1, .int a0)]) hx hb dX10_about_29 hl (k := 1) rfl rfl (by decide) rfl (fun ls hl => ?_)
          refine lv_goto (tgt := 4) hx hb dX10_about_32 (by decide) ?_
          exact ih4 _ _ β _ _ _ hf hP hS (lv_sub hl [0, 1, 2, 3] rfl)
  exact lp4 _ _ _ _ _ _ _ hf hP hS (lv_sub hl [0, 1, 2, 3] rfl)
