set_option maxHeartbeats 4000000 in
set_option maxRecDepth 100000 in
theorem c_X9_feed (l : Launch) {E : pE} (hE : pInj E) {β : pSt} {a0 : Int32} {a1 : Int64} {α α' : pSt} {r : Int32} (hf : f_X9_feed a0 a1 α = some (r, α')) : pM l E yX9_feed cX9_feed 5 (some .int) 1 [.ref (pL E 0), .int a0, .long a1] α β (some (.int r)) α' β := by
  refine pM.ofW hE (by decide) ?_ (Nat.le_of_ble_eq_true rfl)
  intro p e s m below meth c ls C hr hlk hP hl
  have C : pCx p s m c cX9_feed 5 E RX9 := C
  have hS : va_S (pA E s.heap.size) s.heap s.heap [] := va_S.rf
  have hx := C.1
  have hb := C.2.1
  have hl : lv_has ls 5 [(0, .ref (pL E 0)), (1, .int a0), (2, .long a1)] := hl
  unfold f_X9_feed at hf
  refine lv_iload_n hx hb dX9_feed_0 rfl (lv_at hl 1 rfl) ?_
  refine lv_iconst (v := 1) hx hb dX9_feed_1 (by decide) ?_
  refine lv_icmp_lt (tgt := 11) hx hb dX9_feed_2 (by decide) (fun h1 => ?_) (fun h1 => ?_)
  · have hf := pif_t hf h1
    refine lv_bipush (v := (-102)) hx hb dX9_feed_11 (by decide) ?_
    exact p_iret C hr hlk (pe1 hf) (pe2C hf) hP hS dX9_feed_13
  · have hf := pif_f hf h1
    refine lv_iload_n hx hb dX9_feed_5 rfl (lv_at hl 1 rfl) ?_
    refine lv_bipush (v := 8) hx hb dX9_feed_6 (by decide) ?_
    refine lv_icmp_le (tgt := 14) hx hb dX9_feed_8 (by decide) (fun h2 => ?_) (fun h2 => ?_)
    · have hf := pif_t hf h2
      refine lv_iload_n hx hb dX9_feed_14 rfl (lv_at hl 1 rfl) ?_
      refine lv_aload_n hx hb dX9_feed_15 rfl (lv_at hl 0 rfl) ?_
      refine g_9_14 C hP dX9_feed_16 ?_
      obtain ⟨r3, α4, hc5, hf⟩ := pb2_ok hf
      refine p_callV (n := 0) (As := []) (rest := [.int a0]) C hP hS (wv_9_57 C.2.2.2.2.1 _) (c_X6_room l C.2.2.2.2.2.2 (k := 0) (by decide) hc5) (e_X6 (k := 0) (by decide)) rfl rfl hd_X6_room rfl ⟨Nat.le_of_ble_eq_true rfl, Nat.le_of_ble_eq_true rfl⟩ hl.1 rfl (Nat.le_of_ble_eq_true rfl) dX9_feed_19 ⟨Nat.zero_le _, Nat.zero_le _⟩ (fun H locs hP hS _ _ => ?_)
      refine W.eq (g2 := F0 m 22 ls [.int r3, .int a0]) rfl ?_
      refine lv_icmp_le (tgt := 28) hx hb dX9_feed_22 (by decide) (fun h6 => ?_) (fun h6 => ?_)
      · have hf := pif_t hf h6
        refine lv_iload_n hx hb dX9_feed_28 rfl (lv_at hl 1 rfl) ?_
        refine lv_iconst (v := 1) hx hb dX9_feed_29 (by decide) ?_
        refine lv_isub hx hb dX9_feed_30 ?_
        refine lv_istore (lv' := [(4, .int (a0 - 1)), (0, .ref (pL E 0)), (1, .int a0), (2, .long a1)]) hx hb dX9_feed_31 hl (by decide) rfl (fun ls hl => ?_)
        have lp33 : ∀ (n : Nat) (x4 : Int32) (α : pSt) (H : Heap) (locs : List Loc) (ls : Array Slot), f_X9_feed_L33 a1 n x4 α = some (r, α') → va_P (pD E) vwCl (pw E α β) H → va_S (pA E s.heap.size) s.heap H locs → lv_has ls 5 [(4, .int x4), (0, .ref (pL E 0)), (2, .long a1)] → W p l e (pR 1) s m [.ref (pL E 0), .int a0, .long a1].toArray below meth c H locs 0 0 (pQ below E s [.ref (pL E 0), .int a0, .long a1].toArray (some (.int r)) α' β) (F0 m 33 ls []) := by
          intro n
          induction n with
          | zero =>
            intro x4 α H locs ls hf
            rw [f_X9_feed_L33] at hf
            cases hf
          | succ n33 ih33 =>
            intro x4 α H locs ls hf hP hS hl
            rw [f_X9_feed_L33] at hf
            refine lv_iload hx hb dX9_feed_33 (lv_at hl 0 rfl) ?_
            refine lv_if_lt (tgt := 64) hx hb dX9_feed_35 (by decide) (fun h7 => ?_) (fun h7 => ?_)
            · have hf := pif_t hf h7
              refine lv_aload_n hx hb dX9_feed_64 rfl (lv_at hl 1 rfl) ?_
              refine g_9_14 C hP dX9_feed_65 ?_
              obtain ⟨r8, α9, hc10, hf⟩ := pb2_ok hf
              refine p_callV (n := 0) (As := []) (rest := []) C hP hS (wv_9_65 C.2.2.2.2.1 _) (c_X6_size l C.2.2.2.2.2.2 (k := 0) (by decide) hc10) (e_X6 (k := 0) (by decide)) rfl rfl hd_X6_size rfl ⟨Nat.le_of_ble_eq_true rfl, Nat.le_of_ble_eq_true rfl⟩ hl.1 rfl (Nat.le_of_ble_eq_true rfl) dX9_feed_68 ⟨Nat.zero_le _, Nat.zero_le _⟩ (fun H locs hP hS _ _ => ?_)
              refine W.eq (g2 := F0 m 71 ls [.int r8]) rfl ?_
              exact p_iret C hr hlk (pe1 hf) (pe2C hf) hP hS dX9_feed_71
            · have hf := pif_f hf h7
              refine lv_aload_n hx hb dX9_feed_38 rfl (lv_at hl 1 rfl) ?_
              refine g_9_14 C hP dX9_feed_39 ?_
              refine lv_lload_n hx hb dX9_feed_42 rfl (lv_at hl 2 rfl) ?_
              refine lv_bipush (v := 8) hx hb dX9_feed_43 (by decide) ?_
              refine lv_iload hx hb dX9_feed_45 (lv_at hl 0 rfl) ?_
              refine lv_imul hx hb dX9_feed_47 ?_
              refine lv_lushr hx hb dX9_feed_48 rfl ?_
              refine lv_l2i hx hb dX9_feed_49 rfl ?_
              refine lv_sipush (v := 255) hx hb dX9_feed_50 (by decide) ?_
              refine lv_iand hx hb dX9_feed_53 ?_
              obtain ⟨r11, α12, hc13, hf⟩ := pb2_ok hf
              refine p_callV (n := 1) (As := [.int (((a1.toUInt64 >>> (((8 * x4) : Int32).toInt64.toUInt64 &&& Int64.toUInt64 63)).toInt64.toInt32) &&& 255)]) (rest := []) C hP hS (wv_9_61 C.2.2.2.2.1 _) (c_X6_append l C.2.2.2.2.2.2 (k := 0) (by decide) hc13) (e_X6 (k := 0) (by decide)) rfl rfl hd_X6_append rfl ⟨Nat.le_of_ble_eq_true rfl, Nat.le_of_ble_eq_true rfl⟩ hl.1 rfl (Nat.le_of_ble_eq_true rfl) dX9_feed_54 ⟨Nat.zero_le _, Nat.zero_le _⟩ (fun H locs hP hS _ _ => ?_)
              refine W.eq (g2 := F0 m 57 ls [.int r11]) rfl ?_
              refine lv_pop hx hb dX9_feed_57 rfl ?_
              refine lv_iinc (v := (x4 + (-1))) (lv' := [(4, .int (x4 + (-1))), (0, .ref (pL E 0)), (2, .long a1)]) hx hb dX9_feed_58 hl (k := 0) rfl rfl (by decide) rfl (fun ls hl => ?_)
              refine lv_goto (tgt := 33) hx hb dX9_feed_61 (by decide) ?_
              exact ih33 _ α12 _ _ _ hf hP hS (lv_sub hl [0, 1, 2] rfl)
        exact lp33 _ _ _ _ _ _ hf hP hS (lv_sub hl [0, 1, 3] rfl)
      · have hf := pif_f hf h6
        refine lv_bipush (v := (-104)) hx hb dX9_feed_25 (by decide) ?_
        exact p_iret C hr hlk (pe1 hf) (pe2C hf) hP hS dX9_feed_27
    · have hf := pif_f hf h2
      refine lv_bipush (v := (-102)) hx hb dX9_feed_11 (by decide) ?_
      exact p_iret C hr hlk (pe1 hf) (pe2C hf) hP hS dX9_feed_13
set_option maxHeartbeats 4000000 in
set_option maxRecDepth 100000 in
theorem c_X9_plant (l : Launch) {E : pE} (hE : pInj E) {β : pSt} {a0 : Int32} {a1 : Int32} {a2 : Int32} {α α' : pSt} {r : Int32} (hf : f_X9_plant a0 a1 a2 α = some (r, α')) : pM l E yX9_plant cX9_plant 5 (some .int) 1 [.ref (pL E 0), .int a0, .int a1, .int a2] α β (some (.int r)) α' β := by
  refine pM.ofW hE (by decide) ?_ (Nat.le_of_ble_eq_true rfl)
  intro p e s m below meth c ls C hr hlk hP hl
  have C : pCx p s m c cX9_plant 5 E RX9 := C
  have hS : va_S (pA E s.heap.size) s.heap s.heap [] := va_S.rf
  have hx := C.1
  have hb := C.2.1
  have hl : lv_has ls 5 [(0, .ref (pL E 0)), (1, .int a0), (2, .int a1), (3, .int a2)] := hl
  unfold f_X9_plant at hf
  refine lv_aload_n hx hb dX9_plant_0 rfl (lv_at hl 0 rfl) ?_
  refine lv_iload_n hx hb dX9_plant_1 rfl (lv_at hl 1 rfl) ?_
  obtain ⟨r1, α2, hc3, hf⟩ := pb2_ok hf
  refine p_callV (n := 1) (As := [.int a0]) (rest := []) C hP hS (wv_9_68 C.2.2.2.2.1 _) (c_X9_fileAt l C.2.2.2.2.2.2  hc3) (e_X9) rfl rfl hd_X9_fileAt rfl ⟨Nat.le_of_ble_eq_true rfl, Nat.le_of_ble_eq_true rfl⟩ hl.1 rfl (Nat.le_of_ble_eq_true rfl) dX9_plant_2 ⟨Nat.zero_le _, Nat.zero_le _⟩ (fun H locs hP hS _ _ => ?_)
  rcases r1 with _ | i4
  · have hf := pO_n hf
    refine W.eq (g2 := F0 m 5 ls [.null]) rfl ?_
    refine lv_astoreN (lv' := [(4, .null), (0, .ref (pL E 0)), (1, .int a0), (2, .int a1), (3, .int a2)]) hx hb dX9_plant_5 hl (by decide) rfl (fun ls hl => ?_)
    refine lv_aloadN hx hb dX9_plant_7 (lv_at hl 0 rfl) ?_
    refine lv_ifnullN (tgt := 24) hx hb dX9_plant_9 (by decide) ?_
    refine lv_bipush (v := (-101)) hx hb dX9_plant_24 (by decide) ?_
    exact p_iret C hr hlk (pe1 hf) (pe2C hf) hP hS dX9_plant_26
  · have hf := pO_s hf
    obtain ⟨h5, hf⟩ := pg_ok hf
    refine W.eq (g2 := F0 m 5 ls [.ref (pL E (10 + i4))]) rfl ?_
    refine lv_astore (lv' := [(4, .ref (pL E (10 + i4))), (0, .ref (pL E 0)), (1, .int a0), (2, .int a1), (3, .int a2)]) hx hb dX9_plant_5 hl (by decide) rfl (fun ls hl => ?_)
    refine lv_aload hx hb dX9_plant_7 (lv_at hl 0 rfl) ?_
    refine lv_ifnull hx hb dX9_plant_9 ?_
    refine lv_aload hx hb dX9_plant_12 (lv_at hl 0 rfl) ?_
    refine g_9_72 C hP (k := i4) (of_decide_eq_true h5) dX9_plant_14 ?_
    refine lv_iload_n hx hb dX9_plant_17 rfl (lv_at hl 3 rfl) ?_
    obtain ⟨r6, α7, hc8, hf⟩ := pb2_ok hf
    refine p_callV (n := 1) (As := [.int a1]) (rest := []) C hP hS (wv_9_93 C.2.2.2.2.1 _) (c_X6_has l C.2.2.2.2.2.2 (k := (1 + i4)) (pr1 (of_decide_eq_true h5)) hc8) (e_X6 (k := (1 + i4)) (pr1 (of_decide_eq_true h5))) rfl rfl hd_X6_has rfl ⟨Nat.le_of_ble_eq_true rfl, Nat.le_of_ble_eq_true rfl⟩ hl.1 rfl (Nat.le_of_ble_eq_true rfl) dX9_plant_18 ⟨Nat.zero_le _, Nat.zero_le _⟩ (fun H locs hP hS _ _ => ?_)
    refine W.eq (g2 := F0 m 21 ls [.int r6]) rfl ?_
    refine lv_if_ne (tgt := 27) hx hb dX9_plant_21 (by decide) (fun h9 => ?_) (fun h9 => ?_)
    · have hf := pif_f hf h9
      refine lv_iload_n hx hb dX9_plant_27 rfl (lv_at hl 4 rfl) ?_
      refine lv_if_lt (tgt := 38) hx hb dX9_plant_28 (by decide) (fun h10 => ?_) (fun h10 => ?_)
      · have hf := pif_t hf h10
        refine lv_bipush (v := (-102)) hx hb dX9_plant_38 (by decide) ?_
        exact p_iret C hr hlk (pe1 hf) (pe2C hf) hP hS dX9_plant_40
      · have hf := pif_f hf h10
        refine lv_iload_n hx hb dX9_plant_31 rfl (lv_at hl 4 rfl) ?_
        refine lv_sipush (v := 255) hx hb dX9_plant_32 (by decide) ?_
        refine lv_icmp_le (tgt := 41) hx hb dX9_plant_35 (by decide) (fun h11 => ?_) (fun h11 => ?_)
        · have hf := pif_t hf h11
          refine lv_aload hx hb dX9_plant_41 (lv_at hl 0 rfl) ?_
          refine g_9_72 C hP (k := i4) (of_decide_eq_true h5) dX9_plant_43 ?_
          refine lv_iload_n hx hb dX9_plant_46 rfl (lv_at hl 3 rfl) ?_
          refine lv_aload hx hb dX9_plant_47 (lv_at hl 0 rfl) ?_
          refine g_9_72 C hP (k := i4) (of_decide_eq_true h5) dX9_plant_49 ?_
          refine lv_iload_n hx hb dX9_plant_52 rfl (lv_at hl 3 rfl) ?_
          obtain ⟨r12, α13, hc14, hf⟩ := pb2_ok hf
          refine p_callV (n := 1) (As := [.int a1]) (rest := [.int a1, .ref (pL E (22 + (1 + i4)))]) C hP hS (wv_9_98 C.2.2.2.2.1 _) (c_X6_at l C.2.2.2.2.2.2 (k := (1 + i4)) (pr1 (of_decide_eq_true h5)) hc14) (e_X6 (k := (1 + i4)) (pr1 (of_decide_eq_true h5))) rfl rfl hd_X6_at rfl ⟨Nat.le_of_ble_eq_true rfl, Nat.le_of_ble_eq_true rfl⟩ hl.1 rfl (Nat.le_of_ble_eq_true rfl) dX9_plant_53 ⟨Nat.zero_le _, Nat.zero_le _⟩ (fun H locs hP hS _ _ => ?_)
          refine W.eq (g2 := F0 m 56 ls [.int r12, .int a1, .ref (pL E (22 + (1 + i4)))]) rfl ?_
          refine lv_iload_n hx hb dX9_plant_56 rfl (lv_at hl 4 rfl) ?_
          refine lv_ixor hx hb dX9_plant_57 ?_
          obtain ⟨r15, α16, hc17, hf⟩ := pb2_ok hf
          refine p_callV (n := 2) (As := [.int a1, .int (r12 ^^^ a2)]) (rest := []) C hP hS (wv_9_102 C.2.2.2.2.1 _) (c_X6_put l C.2.2.2.2.2.2 (k := (1 + i4)) (pr1 (of_decide_eq_true h5)) hc17) (e_X6 (k := (1 + i4)) (pr1 (of_decide_eq_true h5))) rfl rfl hd_X6_put rfl ⟨Nat.le_of_ble_eq_true rfl, Nat.le_of_ble_eq_true rfl⟩ hl.1 rfl (Nat.le_of_ble_eq_true rfl) dX9_plant_58 ⟨Nat.zero_le _, Nat.zero_le _⟩ (fun H locs hP hS _ _ => ?_)
          refine W.eq (g2 := F0 m 61 ls []) rfl ?_
          refine lv_aload hx hb dX9_plant_61 (lv_at hl 0 rfl) ?_
          refine g_9_72 C hP (k := i4) (of_decide_eq_true h5) dX9_plant_63 ?_
          refine lv_iload_n hx hb dX9_plant_66 rfl (lv_at hl 3 rfl) ?_
          obtain ⟨r18, α19, hc20, hf⟩ := pb2_ok hf
          refine p_callV (n := 1) (As := [.int a1]) (rest := []) C hP hS (wv_9_98 C.2.2.2.2.1 _) (c_X6_at l C.2.2.2.2.2.2 (k := (1 + i4)) (pr1 (of_decide_eq_true h5)) hc20) (e_X6 (k := (1 + i4)) (pr1 (of_decide_eq_true h5))) rfl rfl hd_X6_at rfl ⟨Nat.le_of_ble_eq_true rfl, Nat.le_of_ble_eq_true rfl⟩ hl.1 rfl (Nat.le_of_ble_eq_true rfl) dX9_plant_67 ⟨Nat.zero_le _, Nat.zero_le _⟩ (fun H locs hP hS _ _ => ?_)
          refine W.eq (g2 := F0 m 70 ls [.int r18]) rfl ?_
          exact p_iret C hr hlk (pe1 hf) (pe2C hf) hP hS dX9_plant_70
        · have hf := pif_f hf h11
          refine lv_bipush (v := (-102)) hx hb dX9_plant_38 (by decide) ?_
          exact p_iret C hr hlk (pe1 hf) (pe2C hf) hP hS dX9_plant_40
    · have hf := pif_t hf h9
      refine lv_bipush (v := (-101)) hx hb dX9_plant_24 (by decide) ?_
      exact p_iret C hr hlk (pe1 hf) (pe2C hf) hP hS dX9_plant_26
set_option maxHeartbeats 4000000 in
set_option maxRecDepth 100000 in
theorem c_X9_fails (l : Launch) {E : pE} (hE : pInj E) {β : pSt} {a0 : Int32} {a1 : Int32} {α α' : pSt} {r : Int32} (hf : f_X9_fails a0 a1 α = some (r, α')) : pM l E yX9_fails cX9_fails 5 (some .int) 1 [.ref (pL E 0), .int a0, .int a1] α β (some (.int r)) α' β := by
  refine pM.ofW hE (by decide) ?_ (Nat.le_of_ble_eq_true rfl)
  intro p e s m below meth c ls C hr hlk hP hl
  have C : pCx p s m c cX9_fails 5 E RX9 := C
  have hS : va_S (pA E s.heap.size) s.heap s.heap [] := va_S.rf
  have hx := C.1
  have hb := C.2.1
  have hl : lv_has ls 5 [(0, .ref (pL E 0)), (1, .int a0), (2, .int a1)] := hl
  unfold f_X9_fails at hf
  refine lv_aload_n hx hb dX9_fails_0 rfl (lv_at hl 0 rfl) ?_
  refine lv_iload_n hx hb dX9_fails_1 rfl (lv_at hl 1 rfl) ?_
  obtain ⟨r1, α2, hc3, hf⟩ := pb2_ok hf
  refine p_callV (n := 1) (As := [.int a0]) (rest := []) C hP hS (wv_9_68 C.2.2.2.2.1 _) (c_X9_fileAt l C.2.2.2.2.2.2  hc3) (e_X9) rfl rfl hd_X9_fileAt rfl ⟨Nat.le_of_ble_eq_true rfl, Nat.le_of_ble_eq_true rfl⟩ hl.1 rfl (Nat.le_of_ble_eq_true rfl) dX9_fails_2 ⟨Nat.zero_le _, Nat.zero_le _⟩ (fun H locs hP hS _ _ => ?_)
  rcases r1 with _ | i4
  · have hf := pO_n hf
    refine W.eq (g2 := F0 m 5 ls [.null]) rfl ?_
    refine lv_astore_nN (lv' := [(3, .null), (0, .ref (pL E 0)), (1, .int a0), (2, .int a1)]) hx hb dX9_fails_5 rfl hl (by decide) rfl (fun ls hl => ?_)
    refine lv_aload_nN hx hb dX9_fails_6 rfl (lv_at hl 0 rfl) ?_
    refine lv_ifnonnullN hx hb dX9_fails_7 ?_
    refine lv_bipush (v := (-101)) hx hb dX9_fails_10 (by decide) ?_
    exact p_iret C hr hlk (pe1 hf) (pe2C hf) hP hS dX9_fails_12
  · have hf := pO_s hf
    obtain ⟨h5, hf⟩ := pg_ok hf
    refine W.eq (g2 := F0 m 5 ls [.ref (pL E (10 + i4))]) rfl ?_
    refine lv_astore_n (lv' := [(3, .ref (pL E (10 + i4))), (0, .ref (pL E 0)), (1, .int a0), (2, .int a1)]) hx hb dX9_fails_5 rfl hl (by decide) rfl (fun ls hl => ?_)
    refine lv_aload_n hx hb dX9_fails_6 rfl (lv_at hl 0 rfl) ?_
    refine lv_ifnonnull (tgt := 13) hx hb dX9_fails_7 (by decide) ?_
    refine lv_aload_n hx hb dX9_fails_13 rfl (lv_at hl 0 rfl) ?_
    refine g_9_106 C hP (k := i4) (of_decide_eq_true h5) dX9_fails_14 ?_
    obtain ⟨r6, α7, hc8, hf⟩ := pb2_ok hf
    refine p_callS (n := 1) (As := [.int (α2 2 i4)]) (rest := []) C hP hS (wv_9_110 C.2.2.2.2.1 _) (c_X9_oneIf l C.2.2.2.2.2.2  hc8) hd_X9_oneIf rfl ⟨Nat.le_of_ble_eq_true rfl, Nat.le_of_ble_eq_true rfl⟩ hl.1 rfl (Nat.le_of_ble_eq_true rfl) dX9_fails_17 ⟨Nat.zero_le _, Nat.zero_le _⟩ (fun H locs hP hS _ _ => ?_)
    refine W.eq (g2 := F0 m 20 ls [.int r6]) rfl ?_
    refine lv_istore (lv' := [(4, .int r6), (3, .ref (pL E (10 + i4))), (0, .ref (pL E 0)), (1, .int a0), (2, .int a1)]) hx hb dX9_fails_20 hl (by decide) rfl (fun ls hl => ?_)
    refine lv_aload_n hx hb dX9_fails_22 rfl (lv_at hl 1 rfl) ?_
    refine lv_iload_n hx hb dX9_fails_23 rfl (lv_at hl 4 rfl) ?_
    obtain ⟨r9, α10, hc11, hf⟩ := pb2_ok hf
    refine p_callV (n := 1) (As := [.int a1]) (rest := []) C hP hS (wv_9_79 C.2.2.2.2.1 _) (c_X2_startBecomes l C.2.2.2.2.2.2 (k := i4) (of_decide_eq_true h5) hc11) (e_X2 (k := i4) (of_decide_eq_true h5)) rfl rfl hd_X2_startBecomes rfl ⟨Nat.le_of_ble_eq_true rfl, Nat.le_of_ble_eq_true rfl⟩ hl.1 rfl (Nat.le_of_ble_eq_true rfl) dX9_fails_24 ⟨Nat.zero_le _, Nat.zero_le _⟩ (fun H locs hP hS _ _ => ?_)
    refine W.eq (g2 := F0 m 27 ls []) rfl ?_
    refine lv_iload hx hb dX9_fails_27 (lv_at hl 0 rfl) ?_
    exact p_iret C hr hlk (pe1 hf) (pe2C hf) hP hS dX9_fails_29
set_option maxHeartbeats 4000000 in
set_option maxRecDepth 100000 in
theorem c_X9_unit (l : Launch) {E : pE} (hE : pInj E) {β : pSt} {a0 : Int32} {a1 : Int32} {α α' : pSt} {r : Int32} (hf : f_X9_unit a0 a1 α = some (r, α')) : pM l E yX9_unit cX9_unit 3 (some .int) 1 [.ref (pL E 0), .int a0, .int a1] α β (some (.int r)) α' β := by
  refine pM.ofW hE (by decide) ?_ (Nat.le_of_ble_eq_true rfl)
  intro p e s m below meth c ls C hr hlk hP hl
  have C : pCx p s m c cX9_unit 3 E RX9 := C
  have hS : va_S (pA E s.heap.size) s.heap s.heap [] := va_S.rf
  have hx := C.1
  have hb := C.2.1
  have hl : lv_has ls 3 [(0, .ref (pL E 0)), (1, .int a0), (2, .int a1)] := hl
  unfold f_X9_unit at hf
  refine lv_iload_n hx hb dX9_unit_0 rfl (lv_at hl 1 rfl) ?_
  refine lv_if_lt (tgt := 17) hx hb dX9_unit_1 (by decide) (fun h1 => ?_) (fun h1 => ?_)
  · have hf := pif_t hf h1
    refine lv_bipush (v := (-102)) hx hb dX9_unit_17 (by decide) ?_
    exact p_iret C hr hlk (pe1 hf) (pe2C hf) hP hS dX9_unit_19
  · have hf := pif_f hf h1
    refine lv_iload_n hx hb dX9_unit_4 rfl (lv_at hl 1 rfl) ?_
    refine lv_bipush (v := 64) hx hb dX9_unit_5 (by decide) ?_
    refine lv_icmp_ge (tgt := 17) hx hb dX9_unit_7 (by decide) (fun h2 => ?_) (fun h2 => ?_)
    · have hf := pif_t hf h2
      refine lv_bipush (v := (-102)) hx hb dX9_unit_17 (by decide) ?_
      exact p_iret C hr hlk (pe1 hf) (pe2C hf) hP hS dX9_unit_19
    · have hf := pif_f hf h2
      refine lv_iload_n hx hb dX9_unit_10 rfl (lv_at hl 2 rfl) ?_
      obtain ⟨r3, α4, hc5, hf⟩ := pb2_ok hf
      refine p_callS (n := 1) (As := [.int a1]) (rest := []) C hP hS (wv_9_133 C.2.2.2.2.1 _) (c_X9_areMarks l C.2.2.2.2.2.2  hc5) hd_X9_areMarks rfl ⟨Nat.le_of_ble_eq_true rfl, Nat.le_of_ble_eq_true rfl⟩ hl.1 rfl (Nat.le_of_ble_eq_true rfl) dX9_unit_11 ⟨Nat.zero_le _, Nat.zero_le _⟩ (fun H locs hP hS _ _ => ?_)
      refine W.eq (g2 := F0 m 14 ls [.int r3]) rfl ?_
      refine lv_if_ne (tgt := 20) hx hb dX9_unit_14 (by decide) (fun h6 => ?_) (fun h6 => ?_)
      · have hf := pif_f hf h6
        refine lv_aload_n hx hb dX9_unit_20 rfl (lv_at hl 0 rfl) ?_
        refine g_9_46 C hP dX9_unit_21 ?_
        refine lv_iload_n hx hb dX9_unit_24 rfl (lv_at hl 1 rfl) ?_
        obtain ⟨r7, α8, hc9, hf⟩ := pb2_ok hf
        refine p_callV (n := 1) (As := [.int a0]) (rest := []) C hP hS (wv_9_136 C.2.2.2.2.1 _) (c_X8_bears l C.2.2.2.2.2.2  hc9) (e_X8) rfl rfl hd_X8_bears rfl ⟨Nat.le_of_ble_eq_true rfl, Nat.le_of_ble_eq_true rfl⟩ hl.1 rfl (Nat.le_of_ble_eq_true rfl) dX9_unit_25 ⟨Nat.zero_le _, Nat.zero_le _⟩ (fun H locs hP hS _ _ => ?_)
        refine W.eq (g2 := F0 m 28 ls [.int r7]) rfl ?_
        refine lv_if_eq (tgt := 34) hx hb dX9_unit_28 (by decide) (fun h10 => ?_) (fun h10 => ?_)
        · have hf := pif_t hf h10
          refine lv_aload_n hx hb dX9_unit_34 rfl (lv_at hl 0 rfl) ?_
          refine g_9_46 C hP dX9_unit_35 ?_
          obtain ⟨r11, α12, hc13, hf⟩ := pb2_ok hf
          refine p_callV (n := 0) (As := []) (rest := []) C hP hS (wv_9_141 C.2.2.2.2.1 _) (c_X8_isFull l C.2.2.2.2.2.2  hc13) (e_X8) rfl rfl hd_X8_isFull rfl ⟨Nat.le_of_ble_eq_true rfl, Nat.le_of_ble_eq_true rfl⟩ hl.1 rfl (Nat.le_of_ble_eq_true rfl) dX9_unit_38 ⟨Nat.zero_le _, Nat.zero_le _⟩ (fun H locs hP hS _ _ => ?_)
          refine W.eq (g2 := F0 m 41 ls [.int r11]) rfl ?_
          refine lv_if_eq (tgt := 47) hx hb dX9_unit_41 (by decide) (fun h14 => ?_) (fun h14 => ?_)
          · have hf := pif_t hf h14
            refine lv_aload_n hx hb dX9_unit_47 rfl (lv_at hl 0 rfl) ?_
            refine g_9_46 C hP dX9_unit_48 ?_
            refine lv_iload_n hx hb dX9_unit_51 rfl (lv_at hl 1 rfl) ?_
            refine lv_iload_n hx hb dX9_unit_52 rfl (lv_at hl 2 rfl) ?_
            refine lv_iconst (v := (-1)) hx hb dX9_unit_53 (by decide) ?_
            refine lv_iconst (v := 0) hx hb dX9_unit_54 (by decide) ?_
            obtain ⟨r15, α16, hc17, hf⟩ := pb2_ok hf
            refine p_callV (n := 4) (As := [.int a0, .int a1, .int (-1), .int 0]) (rest := []) C hP hS (wv_9_142 C.2.2.2.2.1 _) (c_X8_enter l C.2.2.2.2.2.2  hc17) (e_X8) rfl rfl hd_X8_enter rfl ⟨Nat.le_of_ble_eq_true rfl, Nat.le_of_ble_eq_true rfl⟩ hl.1 rfl (Nat.le_of_ble_eq_true rfl) dX9_unit_55 ⟨Nat.zero_le _, Nat.zero_le _⟩ (fun H locs hP hS _ _ => ?_)
            refine W.eq (g2 := F0 m 58 ls [.int r15]) rfl ?_
            exact p_iret C hr hlk (pe1 hf) (pe2C hf) hP hS dX9_unit_58
          · have hf := pif_f hf h14
            refine lv_bipush (v := (-104)) hx hb dX9_unit_44 (by decide) ?_
            exact p_iret C hr hlk (pe1 hf) (pe2C hf) hP hS dX9_unit_46
        · have hf := pif_f hf h10
          refine lv_bipush (v := (-103)) hx hb dX9_unit_31 (by decide) ?_
          exact p_iret C hr hlk (pe1 hf) (pe2C hf) hP hS dX9_unit_33
      · have hf := pif_t hf h6
        refine lv_bipush (v := (-102)) hx hb dX9_unit_17 (by decide) ?_
        exact p_iret C hr hlk (pe1 hf) (pe2C hf) hP hS dX9_unit_19
set_option maxHeartbeats 4000000 in
set_option maxRecDepth 100000 in
theorem c_X9_marks (l : Launch) {E : pE} (hE : pInj E) {β : pSt} {a0 : Int32} {a1 : Int32} {α α' : pSt} {r : Int32} (hf : f_X9_marks a0 a1 α = some (r, α')) : pM l E yX9_marks cX9_marks 4 (some .int) 1 [.ref (pL E 0), .int a0, .int a1] α β (some (.int r)) α' β := by
  refine pM.ofW hE (by decide) ?_ (Nat.le_of_ble_eq_true rfl)
  intro p e s m below meth c ls C hr hlk hP hl
  have C : pCx p s m c cX9_marks 4 E RX9 := C
  have hS : va_S (pA E s.heap.size) s.heap s.heap [] := va_S.rf
  have hx := C.1
  have hb := C.2.1
  have hl : lv_has ls 4 [(0, .ref (pL E 0)), (1, .int a0), (2, .int a1)] := hl
  unfold f_X9_marks at hf
  refine lv_aload_n hx hb dX9_marks_0 rfl (lv_at hl 0 rfl) ?_
  refine g_9_46 C hP dX9_marks_1 ?_
  refine lv_iload_n hx hb dX9_marks_4 rfl (lv_at hl 1 rfl) ?_
  obtain ⟨r1, α2, hc3, hf⟩ := pb2_ok hf
  refine p_callV (n := 1) (As := [.int a0]) (rest := []) C hP hS (wv_9_146 C.2.2.2.2.1 _) (c_X8_has l C.2.2.2.2.2.2  hc3) (e_X8) rfl rfl hd_X8_has rfl ⟨Nat.le_of_ble_eq_true rfl, Nat.le_of_ble_eq_true rfl⟩ hl.1 rfl (Nat.le_of_ble_eq_true rfl) dX9_marks_5 ⟨Nat.zero_le _, Nat.zero_le _⟩ (fun H locs hP hS _ _ => ?_)
  refine W.eq (g2 := F0 m 8 ls [.int r1]) rfl ?_
  refine lv_if_ne (tgt := 14) hx hb dX9_marks_8 (by decide) (fun h4 => ?_) (fun h4 => ?_)
  · have hf := pif_f hf h4
    refine lv_iload_n hx hb dX9_marks_14 rfl (lv_at hl 2 rfl) ?_
    obtain ⟨r5, α6, hc7, hf⟩ := pb2_ok hf
    refine p_callS (n := 1) (As := [.int a1]) (rest := []) C hP hS (wv_9_133 C.2.2.2.2.1 _) (c_X9_areMarks l C.2.2.2.2.2.2  hc7) hd_X9_areMarks rfl ⟨Nat.le_of_ble_eq_true rfl, Nat.le_of_ble_eq_true rfl⟩ hl.1 rfl (Nat.le_of_ble_eq_true rfl) dX9_marks_15 ⟨Nat.zero_le _, Nat.zero_le _⟩ (fun H locs hP hS _ _ => ?_)
    refine W.eq (g2 := F0 m 18 ls [.int r5]) rfl ?_
    refine lv_if_ne (tgt := 24) hx hb dX9_marks_18 (by decide) (fun h8 => ?_) (fun h8 => ?_)
    · have hf := pif_f hf h8
      refine lv_aload_n hx hb dX9_marks_24 rfl (lv_at hl 0 rfl) ?_
      refine g_9_46 C hP dX9_marks_25 ?_
      refine lv_iload_n hx hb dX9_marks_28 rfl (lv_at hl 1 rfl) ?_
      obtain ⟨r9, α10, hc11, hf⟩ := pb2_ok hf
      refine p_callV (n := 1) (As := [.int a0]) (rest := []) C hP hS (wv_9_147 C.2.2.2.2.1 _) (c_X8_marksOf l C.2.2.2.2.2.2  hc11) (e_X8) rfl rfl hd_X8_marksOf rfl ⟨Nat.le_of_ble_eq_true rfl, Nat.le_of_ble_eq_true rfl⟩ hl.1 rfl (Nat.le_of_ble_eq_true rfl) dX9_marks_29 ⟨Nat.zero_le _, Nat.zero_le _⟩ (fun H locs hP hS _ _ => ?_)
      refine W.eq (g2 := F0 m 32 ls [.int r9]) rfl ?_
      refine lv_istore_n (lv' := [(3, .int r9), (0, .ref (pL E 0)), (1, .int a0), (2, .int a1)]) hx hb dX9_marks_32 rfl hl (by decide) rfl (fun ls hl => ?_)
      refine lv_aload_n hx hb dX9_marks_33 rfl (lv_at hl 1 rfl) ?_
      refine g_9_46 C hP dX9_marks_34 ?_
      refine lv_iload_n hx hb dX9_marks_37 rfl (lv_at hl 2 rfl) ?_
      refine lv_iload_n hx hb dX9_marks_38 rfl (lv_at hl 3 rfl) ?_
      obtain ⟨r12, α13, hc14, hf⟩ := pb2_ok hf
      refine p_callV (n := 2) (As := [.int a0, .int a1]) (rest := []) C hP hS (wv_9_150 C.2.2.2.2.1 _) (c_X8_retell l C.2.2.2.2.2.2  hc14) (e_X8) rfl rfl hd_X8_retell rfl ⟨Nat.le_of_ble_eq_true rfl, Nat.le_of_ble_eq_true rfl⟩ hl.1 rfl (Nat.le_of_ble_eq_true rfl) dX9_marks_39 ⟨Nat.zero_le _, Nat.zero_le _⟩ (fun H locs hP hS _ _ => ?_)
      refine W.eq (g2 := F0 m 42 ls []) rfl ?_
      refine lv_iload_n hx hb dX9_marks_42 rfl (lv_at hl 0 rfl) ?_
      exact p_iret C hr hlk (pe1 hf) (pe2C hf) hP hS dX9_marks_43
    · have hf := pif_t hf h8
      refine lv_bipush (v := (-102)) hx hb dX9_marks_21 (by decide) ?_
      exact p_iret C hr hlk (pe1 hf) (pe2C hf) hP hS dX9_marks_23
  · have hf := pif_t hf h4
    refine lv_bipush (v := (-101)) hx hb dX9_marks_11 (by decide) ?_
    exact p_iret C hr hlk (pe1 hf) (pe2C hf) hP hS dX9_marks_13
set_option maxHeartbeats 4000000 in
set_option maxRecDepth 100000 in
theorem c_X9_pass (l : Launch) {E : pE} (hE : pInj E) {β : pSt} {a0 : Int32} {α α' : pSt} {r : Int32} (hf : f_X9_pass a0 α = some (r, α')) : pM l E yX9_pass cX9_pass 3 (some .int) 1 [.ref (pL E 0), .int a0] α β (some (.int r)) α' β := by
  refine pM.ofW hE (by decide) ?_ (Nat.le_of_ble_eq_true rfl)
  intro p e s m below meth c ls C hr hlk hP hl
  have C : pCx p s m c cX9_pass 3 E RX9 := C
  have hS : va_S (pA E s.heap.size) s.heap s.heap [] := va_S.rf
  have hx := C.1
  have hb := C.2.1
  have hl : lv_has ls 3 [(0, .ref (pL E 0)), (1, .int a0)] := hl
  unfold f_X9_pass at hf
  refine lv_aload_n hx hb dX9_pass_0 rfl (lv_at hl 0 rfl) ?_
  refine g_9_160 C hP dX9_pass_1 ?_
  obtain ⟨r1, α2, hc3, hf⟩ := pb2_ok hf
  refine p_callS (n := 1) (As := [.int (α 22 0)]) (rest := []) C hP hS (wv_9_110 C.2.2.2.2.1 _) (c_X9_oneIf l C.2.2.2.2.2.2  hc3) hd_X9_oneIf rfl ⟨Nat.le_of_ble_eq_true rfl, Nat.le_of_ble_eq_true rfl⟩ hl.1 rfl (Nat.le_of_ble_eq_true rfl) dX9_pass_4 ⟨Nat.zero_le _, Nat.zero_le _⟩ (fun H locs hP hS _ _ => ?_)
  refine W.eq (g2 := F0 m 7 ls [.int r1]) rfl ?_
  refine lv_istore_n (lv' := [(2, .int r1), (0, .ref (pL E 0)), (1, .int a0)]) hx hb dX9_pass_7 rfl hl (by decide) rfl (fun ls hl => ?_)
  refine lv_aload_n hx hb dX9_pass_8 rfl (lv_at hl 1 rfl) ?_
  refine lv_iload_n hx hb dX9_pass_9 rfl (lv_at hl 2 rfl) ?_
  obtain ⟨h4, hf⟩ := pg_ok hf
  refine s_9_160 C hP hS (pbl_ok h4) dX9_pass_10 (fun H locs hP hS => ?_)
  obtain ⟨α5, eα5, hf⟩ := pl_ok hf
  rw [← eα5] at hP
  clear eα5
  refine lv_iload_n hx hb dX9_pass_13 rfl (lv_at hl 0 rfl) ?_
  exact p_iret C hr hlk (pe1 hf) (pe2C hf) hP hS dX9_pass_14
set_option maxHeartbeats 4000000 in
set_option maxRecDepth 100000 in
theorem c_X9_message (l : Launch) {E : pE} (hE : pInj E) {β : pSt} {a0 : Int32} {a1 : Int32} {α α' : pSt} {r : Int32} (hf : f_X9_message a0 a1 α = some (r, α')) : pM l E yX9_message cX9_message 3 (some .int) 1 [.ref (pL E 0), .int a0, .int a1] α β (some (.int r)) α' β := by
  refine pM.ofW hE (by decide) ?_ (Nat.le_of_ble_eq_true rfl)
  intro p e s m below meth c ls C hr hlk hP hl
  have C : pCx p s m c cX9_message 3 E RX9 := C
  have hS : va_S (pA E s.heap.size) s.heap s.heap [] := va_S.rf
  have hx := C.1
  have hb := C.2.1
  have hl : lv_has ls 3 [(0, .ref (pL E 0)), (1, .int a0), (2, .int a1)] := hl
  unfold f_X9_message at hf
  refine lv_aload_n hx hb dX9_message_0 rfl (lv_at hl 0 rfl) ?_
  refine g_9_51 C hP dX9_message_1 ?_
  refine lv_iload_n hx hb dX9_message_4 rfl (lv_at hl 1 rfl) ?_
  obtain ⟨r1, α2, hc3, hf⟩ := pb2_ok hf
  refine p_callV (n := 1) (As := [.int a0]) (rest := []) C hP hS (wv_9_172 C.2.2.2.2.1 _) (c_X1_has l C.2.2.2.2.2.2  hc3) (e_X1) rfl rfl hd_X1_has rfl ⟨Nat.le_of_ble_eq_true rfl, Nat.le_of_ble_eq_true rfl⟩ hl.1 rfl (Nat.le_of_ble_eq_true rfl) dX9_message_5 ⟨Nat.zero_le _, Nat.zero_le _⟩ (fun H locs hP hS _ _ => ?_)
  refine W.eq (g2 := F0 m 8 ls [.int r1]) rfl ?_
  refine lv_if_ne (tgt := 14) hx hb dX9_message_8 (by decide) (fun h4 => ?_) (fun h4 => ?_)
  · have hf := pif_f hf h4
    refine lv_iload_n hx hb dX9_message_14 rfl (lv_at hl 2 rfl) ?_
    refine lv_if_lt (tgt := 23) hx hb dX9_message_15 (by decide) (fun h5 => ?_) (fun h5 => ?_)
    · have hf := pif_t hf h5
      refine lv_bipush (v := (-102)) hx hb dX9_message_23 (by decide) ?_
      exact p_iret C hr hlk (pe1 hf) (pe2C hf) hP hS dX9_message_25
    · have hf := pif_f hf h5
      refine lv_iload_n hx hb dX9_message_18 rfl (lv_at hl 2 rfl) ?_
      refine lv_iconst (v := 5) hx hb dX9_message_19 (by decide) ?_
      refine lv_icmp_lt (tgt := 26) hx hb dX9_message_20 (by decide) (fun h6 => ?_) (fun h6 => ?_)
      · have hf := pif_t hf h6
        refine lv_aload_n hx hb dX9_message_26 rfl (lv_at hl 0 rfl) ?_
        refine g_9_51 C hP dX9_message_27 ?_
        refine lv_iload_n hx hb dX9_message_30 rfl (lv_at hl 1 rfl) ?_
        refine lv_iload_n hx hb dX9_message_31 rfl (lv_at hl 2 rfl) ?_
        obtain ⟨r7, α8, hc9, hf⟩ := pb2_ok hf
        refine p_callV (n := 2) (As := [.int a0, .int a1]) (rest := []) C hP hS (wv_9_175 C.2.2.2.2.1 _) (c_X1_aspect l C.2.2.2.2.2.2  hc9) (e_X1) rfl rfl hd_X1_aspect rfl ⟨Nat.le_of_ble_eq_true rfl, Nat.le_of_ble_eq_true rfl⟩ hl.1 rfl (Nat.le_of_ble_eq_true rfl) dX9_message_32 ⟨Nat.zero_le _, Nat.zero_le _⟩ (fun H locs hP hS _ _ => ?_)
        refine W.eq (g2 := F0 m 35 ls [.int r7]) rfl ?_
        exact p_iret C hr hlk (pe1 hf) (pe2C hf) hP hS dX9_message_35
      · have hf := pif_f hf h6
        refine lv_bipush (v := (-102)) hx hb dX9_message_23 (by decide) ?_
        exact p_iret C hr hlk (pe1 hf) (pe2C hf) hP hS dX9_message_25
  · have hf := pif_t hf h4
    refine lv_bipush (v := (-101)) hx hb dX9_message_11 (by decide) ?_
    exact p_iret C hr hlk (pe1 hf) (pe2C hf) hP hS dX9_message_13
set_option maxHeartbeats 4000000 in
set_option maxRecDepth 100000 in
theorem c_X9_bytesOfResource (l : Launch) {E : pE} (hE : pInj E) {β : pSt} {a0 : Int32} {α α' : pSt} {r : Int32} (hf : f_X9_bytesOfResource a0 α = some (r, α')) : pM l E yX9_bytesOfResource cX9_bytesOfResource 3 (some .int) 1 [.ref (pL E 0), .int a0] α β (some (.int r)) α' β := by
  refine pM.ofW hE (by decide) ?_ (Nat.le_of_ble_eq_true rfl)
  intro p e s m below meth c ls C hr hlk hP hl
  have C : pCx p s m c cX9_bytesOfResource 3 E RX9 := C
  have hS : va_S (pA E s.heap.size) s.heap s.heap [] := va_S.rf
  have hx := C.1
  have hb := C.2.1
  have hl : lv_has ls 3 [(0, .ref (pL E 0)), (1, .int a0)] := hl
  unfold f_X9_bytesOfResource at hf
  refine lv_aload_n hx hb dX9_bytesOfResource_0 rfl (lv_at hl 0 rfl) ?_
  refine g_9_56 C hP dX9_bytesOfResource_1 ?_
  refine lv_iload_n hx hb dX9_bytesOfResource_4 rfl (lv_at hl 1 rfl) ?_
  obtain ⟨r1, α2, hc3, hf⟩ := pb2_ok hf
  refine p_callV (n := 1) (As := [.int a0]) (rest := []) C hP hS (wv_9_194 C.2.2.2.2.1 _) (c_X5_at l C.2.2.2.2.2.2  hc3) (e_X5) rfl rfl hd_X5_at rfl ⟨Nat.le_of_ble_eq_true rfl, Nat.le_of_ble_eq_true rfl⟩ hl.1 rfl (Nat.le_of_ble_eq_true rfl) dX9_bytesOfResource_5 ⟨Nat.zero_le _, Nat.zero_le _⟩ (fun H locs hP hS _ _ => ?_)
  rcases r1 with _ | i4
  · have hf := pO_n hf
    refine W.eq (g2 := F0 m 8 ls [.null]) rfl ?_
    refine lv_astore_nN (lv' := [(2, .null), (0, .ref (pL E 0)), (1, .int a0)]) hx hb dX9_bytesOfResource_8 rfl hl (by decide) rfl (fun ls hl => ?_)
    refine lv_aload_nN hx hb dX9_bytesOfResource_9 rfl (lv_at hl 0 rfl) ?_
    refine lv_ifnonnullN hx hb dX9_bytesOfResource_10 ?_
    refine lv_bipush (v := (-102)) hx hb dX9_bytesOfResource_13 (by decide) ?_
    refine lv_goto (tgt := 22) hx hb dX9_bytesOfResource_15 (by decide) ?_
    exact p_iret C hr hlk (pe1 hf) (pe2C hf) hP hS dX9_bytesOfResource_22
  · have hf := pO_s hf
    obtain ⟨h5, hf⟩ := pg_ok hf
    refine W.eq (g2 := F0 m 8 ls [.ref (pL E (22 + i4))]) rfl ?_
    refine lv_astore_n (lv' := [(2, .ref (pL E (22 + i4))), (0, .ref (pL E 0)), (1, .int a0)]) hx hb dX9_bytesOfResource_8 rfl hl (by decide) rfl (fun ls hl => ?_)
    refine lv_aload_n hx hb dX9_bytesOfResource_9 rfl (lv_at hl 0 rfl) ?_
    refine lv_ifnonnull (tgt := 18) hx hb dX9_bytesOfResource_10 (by decide) ?_
    refine lv_aload_n hx hb dX9_bytesOfResource_18 rfl (lv_at hl 0 rfl) ?_
    obtain ⟨r6, α7, hc8, hf⟩ := pb2_ok hf
    refine p_callV (n := 0) (As := []) (rest := []) C hP hS (wv_9_65 C.2.2.2.2.1 _) (c_X6_size l C.2.2.2.2.2.2 (k := i4) (of_decide_eq_true h5) hc8) (e_X6 (k := i4) (of_decide_eq_true h5)) rfl rfl hd_X6_size rfl ⟨Nat.le_of_ble_eq_true rfl, Nat.le_of_ble_eq_true rfl⟩ hl.1 rfl (Nat.le_of_ble_eq_true rfl) dX9_bytesOfResource_19 ⟨Nat.zero_le _, Nat.zero_le _⟩ (fun H locs hP hS _ _ => ?_)
    refine W.eq (g2 := F0 m 22 ls [.int r6]) rfl ?_
    exact p_iret C hr hlk (pe1 hf) (pe2C hf) hP hS dX9_bytesOfResource_22
set_option maxHeartbeats 4000000 in
set_option maxRecDepth 100000 in
theorem c_X0_areSoundRules (l : Launch) {E : pE} (hE : pInj E) {β : pSt} {q0 : Nat} (hq0 : q0 < 11) {a1 : Int32} {α α' : pSt} {r : Int32} (hf : f_X0_areSoundRules q0 a1 α = some (r, α')) : pM l E yX0_areSoundRules cX0_areSoundRules 4 (some .boolean) 1 [.ref (pL E (22 + q0)), .int a1] α β (some (.int r)) α' β := by
  refine pM.ofW hE (by decide) ?_ (Nat.le_of_ble_eq_true rfl)
  intro p e s m below meth c ls C hr hlk hP hl
  have C : pCx p s m c cX0_areSoundRules 4 E RX0 := C
  have hS : va_S (pA E s.heap.size) s.heap s.heap [] := va_S.rf
  have hx := C.1
  have hb := C.2.1
  have hl : lv_has ls 4 [(0, .ref (pL E (22 + q0))), (1, .int a1)] := hl
  unfold f_X0_areSoundRules at hf
  refine lv_iconst (v := 0) hx hb dX0_areSoundRules_0 (by decide) ?_
  refine lv_istore_n (lv' := [(2, .int 0), (0, .ref (pL E (22 + q0))), (1, .int a1)]) hx hb dX0_areSoundRules_1 rfl hl (by decide) rfl (fun ls hl => ?_)
  have lp2 : ∀ (n : Nat) (x2 : Int32) (α : pSt) (H : Heap) (locs : List Loc) (ls : Array Slot), f_X0_areSoundRules_L2 q0 a1 n x2 α = some (r, α') → va_P (pD E) vwCl (pw E α β) H → va_S (pA E s.heap.size) s.heap H locs → lv_has ls 4 [(2, .int x2), (0, .ref (pL E (22 + q0))), (1, .int a1)] → W p l e (pR 1) s m [.ref (pL E (22 + q0)), .int a1].toArray below meth c H locs 0 0 (pQ below E s [.ref (pL E (22 + q0)), .int a1].toArray (some (.int r)) α' β) (F0 m 2 ls []) := by
    intro n
    induction n with
    | zero =>
      intro x2 α H locs ls hf
      rw [f_X0_areSoundRules_L2] at hf
      cases hf
    | succ n2 ih2 =>
      intro x2 α H locs ls hf hP hS hl
      rw [f_X0_areSoundRules_L2] at hf
      refine lv_iload_n hx hb dX0_areSoundRules_2 rfl (lv_at hl 0 rfl) ?_
      refine lv_iload_n hx hb dX0_areSoundRules_3 rfl (lv_at hl 2 rfl) ?_
      refine lv_icmp_ge (tgt := 53) hx hb dX0_areSoundRules_4 (by decide) (fun h1 => ?_) (fun h1 => ?_)
      · have hf := pif_t hf h1
        refine lv_iconst (v := 1) hx hb dX0_areSoundRules_53 (by decide) ?_
        exact p_zret C hr hlk (Or.inr rfl) (pe1 hf) (pe2C hf) hP hS dX0_areSoundRules_54
      · have hf := pif_f hf h1
        refine lv_iconst (v := 3) hx hb dX0_areSoundRules_7 (by decide) ?_
        refine lv_iconst (v := 4) hx hb dX0_areSoundRules_8 (by decide) ?_
        refine lv_iload_n hx hb dX0_areSoundRules_9 rfl (lv_at hl 0 rfl) ?_
        refine lv_imul hx hb dX0_areSoundRules_10 ?_
        refine lv_iadd hx hb dX0_areSoundRules_11 ?_
        refine lv_istore_n (lv' := [(3, .int (3 + (4 * x2))), (2, .int x2), (0, .ref (pL E (22 + q0))), (1, .int a1)]) hx hb dX0_areSoundRules_12 rfl hl (by decide) rfl (fun ls hl => ?_)
        refine lv_aload_n hx hb dX0_areSoundRules_13 rfl (lv_at hl 2 rfl) ?_
        refine lv_iload_n hx hb dX0_areSoundRules_14 rfl (lv_at hl 0 rfl) ?_
        obtain ⟨r2, α3, hc4, hf⟩ := pb2_ok hf
        refine p_callV (n := 1) (As := [.int (3 + (4 * x2))]) (rest := []) C hP hS (wv_0_15 C.2.2.2.2.1 _) (c_X6_at l C.2.2.2.2.2.2 (k := q0) hq0 hc4) (e_X6 (k := q0) hq0) rfl rfl hd_X6_at rfl ⟨Nat.le_of_ble_eq_true rfl, Nat.le_of_ble_eq_true rfl⟩ hl.1 rfl (Nat.le_of_ble_eq_true rfl) dX0_areSoundRules_15 ⟨Nat.zero_le _, Nat.zero_le _⟩ (fun H locs hP hS _ _ => ?_)
        refine W.eq (g2 := F0 m 18 ls [.int r2]) rfl ?_
        refine lv_aload_n hx hb dX0_areSoundRules_18 rfl (lv_at hl 2 rfl) ?_
        refine lv_iload_n hx hb dX0_areSoundRules_19 rfl (lv_at hl 0 rfl) ?_
        refine lv_iconst (v := 1) hx hb dX0_areSoundRules_20 (by decide) ?_
        refine lv_iadd hx hb dX0_areSoundRules_21 ?_
        obtain ⟨r5, α6, hc7, hf⟩ := pb2_ok hf
        refine p_callV (n := 1) (As := [.int ((3 + (4 * x2)) + 1)]) (rest := [.int r2]) C hP hS (wv_0_15 C.2.2.2.2.1 _) (c_X6_at l C.2.2.2.2.2.2 (k := q0) hq0 hc7) (e_X6 (k := q0) hq0) rfl rfl hd_X6_at rfl ⟨Nat.le_of_ble_eq_true rfl, Nat.le_of_ble_eq_true rfl⟩ hl.1 rfl (Nat.le_of_ble_eq_true rfl) dX0_areSoundRules_22 ⟨Nat.zero_le _, Nat.zero_le _⟩ (fun H locs hP hS _ _ => ?_)
        refine W.eq (g2 := F0 m 25 ls [.int r5, .int r2]) rfl ?_
        refine lv_aload_n hx hb dX0_areSoundRules_25 rfl (lv_at hl 2 rfl) ?_
        refine lv_iload_n hx hb dX0_areSoundRules_26 rfl (lv_at hl 0 rfl) ?_
        refine lv_iconst (v := 2) hx hb dX0_areSoundRules_27 (by decide) ?_
        refine lv_iadd hx hb dX0_areSoundRules_28 ?_
        obtain ⟨r8, α9, hc10, hf⟩ := pb2_ok hf
        refine p_callV (n := 1) (As := [.int ((3 + (4 * x2)) + 2)]) (rest := [.int r5, .int r2]) C hP hS (wv_0_15 C.2.2.2.2.1 _) (c_X6_at l C.2.2.2.2.2.2 (k := q0) hq0 hc10) (e_X6 (k := q0) hq0) rfl rfl hd_X6_at rfl ⟨Nat.le_of_ble_eq_true rfl, Nat.le_of_ble_eq_true rfl⟩ hl.1 rfl (Nat.le_of_ble_eq_true rfl) dX0_areSoundRules_29 ⟨Nat.zero_le _, Nat.zero_le _⟩ (fun H locs hP hS _ _ => ?_)
        refine W.eq (g2 := F0 m 32 ls [.int r8, .int r5, .int r2]) rfl ?_
        refine lv_aload_n hx hb dX0_areSoundRules_32 rfl (lv_at hl 2 rfl) ?_
        refine lv_iload_n hx hb dX0_areSoundRules_33 rfl (lv_at hl 0 rfl) ?_
        refine lv_iconst (v := 3) hx hb dX0_areSoundRules_34 (by decide) ?_
        refine lv_iadd hx hb dX0_areSoundRules_35 ?_
        obtain ⟨r11, α12, hc13, hf⟩ := pb2_ok hf
        refine p_callV (n := 1) (As := [.int ((3 + (4 * x2)) + 3)]) (rest := [.int r8, .int r5, .int r2]) C hP hS (wv_0_15 C.2.2.2.2.1 _) (c_X6_at l C.2.2.2.2.2.2 (k := q0) hq0 hc13) (e_X6 (k := q0) hq0) rfl rfl hd_X6_at rfl ⟨Nat.le_of_ble_eq_true rfl, Nat.le_of_ble_eq_true rfl⟩ hl.1 rfl (Nat.le_of_ble_eq_true rfl) dX0_areSoundRules_36 ⟨Nat.zero_le _, Nat.zero_le _⟩ (fun H locs hP hS _ _ => ?_)
        refine W.eq (g2 := F0 m 39 ls [.int r11, .int r8, .int r5, .int r2]) rfl ?_
        obtain ⟨r14, α15, hc16, hf⟩ := pb2_ok hf
        refine p_callS (n := 4) (As := [.int r2, .int r5, .int r8, .int r11]) (rest := []) C hP hS (wv_0_29 C.2.2.2.2.1 _) (c_X0_isSoundRule l C.2.2.2.2.2.2  hc16) hd_X0_isSoundRule rfl ⟨Nat.le_of_ble_eq_true rfl, Nat.le_of_ble_eq_true rfl⟩ hl.1 rfl (Nat.le_of_ble_eq_true rfl) dX0_areSoundRules_39 ⟨Nat.zero_le _, Nat.zero_le _⟩ (fun H locs hP hS _ _ => ?_)
        refine W.eq (g2 := F0 m 42 ls [.int r14]) rfl ?_
        refine lv_if_ne (tgt := 47) hx hb dX0_areSoundRules_42 (by decide) (fun h17 => ?_) (fun h17 => ?_)
        · have hf := pif_f hf h17
          refine lv_iinc (v := (x2 + 1)) (lv' := [(2, .int (x2 + 1)), (3, .int (3 + (4 * x2))), (0, .ref (pL E (22 + q0))), (1, .int a1)]) hx hb dX0_areSoundRules_47 hl (k := 1) rfl rfl (by decide) rfl (fun ls hl => ?_)
          refine lv_goto (tgt := 2) hx hb dX0_areSoundRules_50 (by decide) ?_
          exact ih2 _ α15 _ _ _ hf hP hS (lv_sub hl [0, 2, 3] rfl)
        · have hf := pif_t hf h17
          refine lv_iconst (v := 0) hx hb dX0_areSoundRules_45 (by decide) ?_
          exact p_zret C hr hlk (Or.inl rfl) (pe1 hf) (pe2C hf) hP hS dX0_areSoundRules_46
  exact lp2 _ _ _ _ _ _ hf hP hS (lv_sub hl [0, 1, 2] rfl)
set_option maxHeartbeats 4000000 in
set_option maxRecDepth 100000 in
theorem c_X0_sumAheadOfLast (l : Launch) {E : pE} (hE : pInj E) {β : pSt} {q0 : Nat} (hq0 : q0 < 11) {α α' : pSt} {r : Int32} (hf : f_X0_sumAheadOfLast q0 α = some (r, α')) : pM l E yX0_sumAheadOfLast cX0_sumAheadOfLast 3 (some .int) 1 [.ref (pL E (22 + q0))] α β (some (.int r)) α' β := by
  refine pM.ofW hE (by decide) ?_ (Nat.le_of_ble_eq_true rfl)
  intro p e s m below meth c ls C hr hlk hP hl
  have C : pCx p s m c cX0_sumAheadOfLast 3 E RX0 := C
  have hS : va_S (pA E s.heap.size) s.heap s.heap [] := va_S.rf
  have hx := C.1
  have hb := C.2.1
  have hl : lv_has ls 3 [(0, .ref (pL E (22 + q0)))] := hl
  unfold f_X0_sumAheadOfLast at hf
  refine lv_iconst (v := 0) hx hb dX0_sumAheadOfLast_0 (by decide) ?_
  refine lv_istore_n (lv' := [(1, .int 0), (0, .ref (pL E (22 + q0)))]) hx hb dX0_sumAheadOfLast_1 rfl hl (by decide) rfl (fun ls hl => ?_)
  refine lv_iconst (v := 0) hx hb dX0_sumAheadOfLast_2 (by decide) ?_
  refine lv_istore_n (lv' := [(2, .int 0), (1, .int 0), (0, .ref (pL E (22 + q0)))]) hx hb dX0_sumAheadOfLast_3 rfl hl (by decide) rfl (fun ls hl => ?_)
  have lp4 : ∀ (n : Nat) (x2 : Int32) (x1 : Int32) (α : pSt) (H : Heap) (locs : List Loc) (ls : Array Slot), f_X0_sumAheadOfLast_L4 q0 n x2 x1 α = some (r, α') → va_P (pD E) vwCl (pw E α β) H → va_S (pA E s.heap.size) s.heap H locs → lv_has ls 3 [(2, .int x2), (1, .int x1), (0, .ref (pL E (22 + q0)))] → W p l e (pR 1) s m [.ref (pL E (22 + q0))].toArray below meth c H locs 0 0 (pQ below E s [.ref (pL E (22 + q0))].toArray (some (.int r)) α' β) (F0 m 4 ls []) := by
    intro n
    induction n with
    | zero =>
      intro x2 x1 α H locs ls hf
      rw [f_X0_sumAheadOfLast_L4] at hf
      cases hf
    | succ n4 ih4 =>
      intro x2 x1 α H locs ls hf hP hS hl
      rw [f_X0_sumAheadOfLast_L4] at hf
      refine lv_iload_n hx hb dX0_sumAheadOfLast_4 rfl (lv_at hl 0 rfl) ?_
      refine lv_aload_n hx hb dX0_sumAheadOfLast_5 rfl (lv_at hl 2 rfl) ?_
      obtain ⟨r1, α2, hc3, hf⟩ := pb2_ok hf
      refine p_callV (n := 0) (As := []) (rest := [.int x2]) C hP hS (wv_0_9 C.2.2.2.2.1 _) (c_X6_size l C.2.2.2.2.2.2 (k := q0) hq0 hc3) (e_X6 (k := q0) hq0) rfl rfl hd_X6_size rfl ⟨Nat.le_of_ble_eq_true rfl, Nat.le_of_ble_eq_true rfl⟩ hl.1 rfl (Nat.le_of_ble_eq_true rfl) dX0_sumAheadOfLast_6 ⟨Nat.zero_le _, Nat.zero_le _⟩ (fun H locs hP hS _ _ => ?_)
      refine W.eq (g2 := F0 m 9 ls [.int r1, .int x2]) rfl ?_
      refine lv_iconst (v := 1) hx hb dX0_sumAheadOfLast_9 (by decide) ?_
      refine lv_isub hx hb dX0_sumAheadOfLast_10 ?_
      refine lv_icmp_ge (tgt := 28) hx hb dX0_sumAheadOfLast_11 (by decide) (fun h4 => ?_) (fun h4 => ?_)
      · have hf := pif_t hf h4
        refine lv_iload_n hx hb dX0_sumAheadOfLast_28 rfl (lv_at hl 1 rfl) ?_
        refine lv_sipush (v := 255) hx hb dX0_sumAheadOfLast_29 (by decide) ?_
        refine lv_iand hx hb dX0_sumAheadOfLast_32 ?_
        exact p_iret C hr hlk (pe1 hf) (pe2C hf) hP hS dX0_sumAheadOfLast_33
      · have hf := pif_f hf h4
        refine lv_iload_n hx hb dX0_sumAheadOfLast_14 rfl (lv_at hl 1 rfl) ?_
        refine lv_aload_n hx hb dX0_sumAheadOfLast_15 rfl (lv_at hl 2 rfl) ?_
        refine lv_iload_n hx hb dX0_sumAheadOfLast_16 rfl (lv_at hl 0 rfl) ?_
        obtain ⟨r5, α6, hc7, hf⟩ := pb2_ok hf
        refine p_callV (n := 1) (As := [.int x2]) (rest := [.int x1]) C hP hS (wv_0_15 C.2.2.2.2.1 _) (c_X6_at l C.2.2.2.2.2.2 (k := q0) hq0 hc7) (e_X6 (k := q0) hq0) rfl rfl hd_X6_at rfl ⟨Nat.le_of_ble_eq_true rfl, Nat.le_of_ble_eq_true rfl⟩ hl.1 rfl (Nat.le_of_ble_eq_true rfl) dX0_sumAheadOfLast_17 ⟨Nat.zero_le _, Nat.zero_le _⟩ (fun H locs hP hS _ _ => ?_)
        refine W.eq (g2 := F0 m 20 ls [.int r5, .int x1]) rfl ?_
        refine lv_iadd hx hb dX0_sumAheadOfLast_20 ?_
        refine lv_istore_n (lv' := [(1, .int (x1 + r5)), (2, .int x2), (0, .ref (pL E (22 + q0)))]) hx hb dX0_sumAheadOfLast_21 rfl hl (by decide) rfl (fun ls hl => ?_)
        refine lv_iinc (v := (x2 + 1)) (lv' := [(2, .int (x2 + 1)), (1, .int (x1 + r5)), (0, .ref (pL E (22 + q0)))]) hx hb dX0_sumAheadOfLast_22 hl (k := 1) rfl rfl (by decide) rfl (fun ls hl => ?_)
        refine lv_goto (tgt := 4) hx hb dX0_sumAheadOfLast_25 (by decide) ?_
        exact ih4 _ _ α6 _ _ _ hf hP hS (lv_sub hl [0, 1, 2] rfl)
  exact lp4 _ _ _ _ _ _ _ hf hP hS (lv_sub hl [0, 1, 2] rfl)
set_option maxHeartbeats 4000000 in
set_option maxRecDepth 100000 in
theorem c_X3_become (l : Launch) {E : pE} (hE : pInj E) {β : pSt} {k : Nat} (hk : k < 6) {a0 : Int32} {q1 : Nat} (hq1 : q1 < 11) {α α' : pSt} {r : Unit} (hf : f_X3_become k a0 q1 α = some (r, α')) : pM l E yX3_become cX3_become 4 none 1 [.ref (pL E (16 + k)), .int a0, .ref (pL E (22 + q1))] α β none α' β := by
  refine pM.ofW hE (by decide) ?_ (Nat.le_of_ble_eq_true rfl)
  intro p e s m below meth c ls C hr hlk hP hl
  have C : pCx p s m c cX3_become 4 E RX3 := C
  have hS : va_S (pA E s.heap.size) s.heap s.heap [] := va_S.rf
  have hx := C.1
  have hb := C.2.1
  have hl : lv_has ls 4 [(0, .ref (pL E (16 + k))), (1, .int a0), (2, .ref (pL E (22 + q1)))] := hl
  unfold f_X3_become at hf
  refine lv_aload_n hx hb dX3_become_0 rfl (lv_at hl 0 rfl) ?_
  refine lv_iload_n hx hb dX3_become_1 rfl (lv_at hl 1 rfl) ?_
  refine s_3_15 C hP hS (k := k) hk dX3_become_2 (fun H locs hP hS => ?_)
  obtain ⟨α1, eα1, hf⟩ := pl_ok hf
  rw [← eα1] at hP
  clear eα1
  refine lv_aload_n hx hb dX3_become_5 rfl (lv_at hl 0 rfl) ?_
  refine lv_aload_n hx hb dX3_become_6 rfl (lv_at hl 2 rfl) ?_
  refine lv_iconst (v := 2) hx hb dX3_become_7 (by decide) ?_
  obtain ⟨r2, α3, hc4, hf⟩ := pb2_ok hf
  refine p_callV (n := 1) (As := [.int 2]) (rest := [.ref (pL E (16 + k))]) C hP hS (wv_3_19 C.2.2.2.2.1 _) (c_X6_at l C.2.2.2.2.2.2 (k := q1) hq1 hc4) (e_X6 (k := q1) hq1) rfl rfl hd_X6_at rfl ⟨Nat.le_of_ble_eq_true rfl, Nat.le_of_ble_eq_true rfl⟩ hl.1 rfl (Nat.le_of_ble_eq_true rfl) dX3_become_8 ⟨Nat.zero_le _, Nat.zero_le _⟩ (fun H locs hP hS _ _ => ?_)
  refine W.eq (g2 := F0 m 11 ls [.int r2, .ref (pL E (16 + k))]) rfl ?_
  refine lv_bipush (v := 12) hx hb dX3_become_11 (by decide) ?_
  refine va_mmin (own := RX3) hx hb (C.2.2.1.trans hl.1.symm) C.2.2.2.1 (C.2.2.2.2.1.1 _ (List.mem_of_getElem? (i := 386) rfl) rfl _) (C.2.2.2.2.1.1 _ (List.mem_of_getElem? (i := 387) rfl) rfl _) (C.2.2.2.2.1.1 _ (List.mem_of_getElem? (i := 31) rfl) rfl _) (C.2.2.2.2.1.1 _ (List.mem_of_getElem? (i := 388) rfl) rfl _) (Nat.le_of_ble_eq_true rfl) (Nat.le_of_ble_eq_true rfl) (Nat.zero_le _) (Nat.zero_le _) dX3_become_13 ?_
  refine s_3_31 C hP hS (k := k) hk dX3_become_16 (fun H locs hP hS => ?_)
  obtain ⟨α5, eα5, hf⟩ := pl_ok hf
  rw [← eα5] at hP
  clear eα5
  refine lv_iconst (v := 0) hx hb dX3_become_19 (by decide) ?_
  refine lv_istore_n (lv' := [(3, .int 0), (0, .ref (pL E (16 + k))), (1, .int a0), (2, .ref (pL E (22 + q1)))]) hx hb dX3_become_20 rfl hl (by decide) rfl (fun ls hl => ?_)
  have lp21 : ∀ (n : Nat) (x3 : Int32) (α : pSt) (H : Heap) (locs : List Loc) (ls : Array Slot), f_X3_become_L21 k q1 n x3 α = some (r, α') → va_P (pD E) vwCl (pw E α β) H → va_S (pA E s.heap.size) s.heap H locs → lv_has ls 4 [(3, .int x3), (0, .ref (pL E (16 + k))), (2, .ref (pL E (22 + q1)))] → W p l e (pR 1) s m [.ref (pL E (16 + k)), .int a0, .ref (pL E (22 + q1))].toArray below meth c H locs 0 0 (pQ below E s [.ref (pL E (16 + k)), .int a0, .ref (pL E (22 + q1))].toArray none α' β) (F0 m 21 ls []) := by
    intro n
    induction n with
    | zero =>
      intro x3 α H locs ls hf
      rw [f_X3_become_L21] at hf
      cases hf
    | succ n21 ih21 =>
      intro x3 α H locs ls hf hP hS hl
      rw [f_X3_become_L21] at hf
      refine lv_iload_n hx hb dX3_become_21 rfl (lv_at hl 0 rfl) ?_
      refine lv_aload_n hx hb dX3_become_22 rfl (lv_at hl 1 rfl) ?_
      refine g_3_9 C hP (k := k) hk dX3_become_23 ?_
      refine ln_parts C hP (k := k) hk dX3_become_26 ?_
      refine lv_icmp_ge (tgt := 49) hx hb dX3_become_27 (by decide) (fun h6 => ?_) (fun h6 => ?_)
      · have hf := pif_t hf h6
        refine lv_aload_n hx hb dX3_become_49 rfl (lv_at hl 1 rfl) ?_
        refine lv_iconst (v := 0) hx hb dX3_become_50 (by decide) ?_
        refine s_3_34 C hP hS (k := k) hk dX3_become_51 (fun H locs hP hS => ?_)
        obtain ⟨α7, eα7, hf⟩ := pl_ok hf
        rw [← eα7] at hP
        clear eα7
        refine lv_aload_n hx hb dX3_become_54 rfl (lv_at hl 1 rfl) ?_
        refine lv_iconst (v := 0) hx hb dX3_become_55 (by decide) ?_
        refine s_3_37 C hP hS (k := k) hk (Or.inl rfl) dX3_become_56 (fun H locs hP hS => ?_)
        obtain ⟨α8, eα8, hf⟩ := pl_ok hf
        rw [← eα8] at hP
        clear eα8
        refine lv_aload_n hx hb dX3_become_59 rfl (lv_at hl 1 rfl) ?_
        refine lv_iconst (v := 0) hx hb dX3_become_60 (by decide) ?_
        refine s_3_41 C hP hS (k := k) hk dX3_become_61 (fun H locs hP hS => ?_)
        obtain ⟨α9, eα9, hf⟩ := pl_ok hf
        rw [← eα9] at hP
        clear eα9
        exact p_vret C hr hlk (pe2C hf) hP hS dX3_become_64
      · have hf := pif_f hf h6
        refine lv_aload_n hx hb dX3_become_30 rfl (lv_at hl 1 rfl) ?_
        refine g_3_9 C hP (k := k) hk dX3_become_31 ?_
        refine lv_iload_n hx hb dX3_become_34 rfl (lv_at hl 0 rfl) ?_
        refine lv_aload_n hx hb dX3_become_35 rfl (lv_at hl 2 rfl) ?_
        refine lv_iconst (v := 3) hx hb dX3_become_36 (by decide) ?_
        refine lv_iload_n hx hb dX3_become_37 rfl (lv_at hl 0 rfl) ?_
        refine lv_iadd hx hb dX3_become_38 ?_
        obtain ⟨r10, α11, hc12, hf⟩ := pb2_ok hf
        refine p_callV (n := 1) (As := [.int (3 + x3)]) (rest := [.int x3, .ref (pL E (44 + k))]) C hP hS (wv_3_19 C.2.2.2.2.1 _) (c_X6_at l C.2.2.2.2.2.2 (k := q1) hq1 hc12) (e_X6 (k := q1) hq1) rfl rfl hd_X6_at rfl ⟨Nat.le_of_ble_eq_true rfl, Nat.le_of_ble_eq_true rfl⟩ hl.1 rfl (Nat.le_of_ble_eq_true rfl) dX3_become_39 ⟨Nat.zero_le _, Nat.zero_le _⟩ (fun H locs hP hS _ _ => ?_)
        refine W.eq (g2 := F0 m 42 ls [.int r10, .int x3, .ref (pL E (44 + k))]) rfl ?_
        obtain ⟨h13, hf⟩ := pg_ok hf
        refine sa_parts C hP hS (k := k) hk h13 dX3_become_42 (fun H locs hP hS => ?_)
        obtain ⟨α14, eα14, hf⟩ := pl_ok hf
        rw [← eα14] at hP
        clear eα14
        refine lv_iinc (v := (x3 + 1)) (lv' := [(3, .int (x3 + 1)), (0, .ref (pL E (16 + k))), (2, .ref (pL E (22 + q1)))]) hx hb dX3_become_43 hl (k := 0) rfl rfl (by decide) rfl (fun ls hl => ?_)
        refine lv_goto (tgt := 21) hx hb dX3_become_46 (by decide) ?_
        exact ih21 _ α14 _ _ _ hf hP hS (lv_sub hl [0, 1, 2] rfl)
  exact lp21 _ _ _ _ _ _ hf hP hS (lv_sub hl [0, 1, 3] rfl)
set_option maxHeartbeats 4000000 in
set_option maxRecDepth 100000 in
theorem c_X3_markOf (l : Launch) {E : pE} (hE : pInj E) {β : pSt} {k : Nat} (hk : k < 6) {a0 : Int32} {α α' : pSt} {r : Int32} (hf : f_X3_markOf k a0 α = some (r, α')) : pM l E yX3_markOf cX3_markOf 2 (some .int) 1 [.ref (pL E (16 + k)), .int a0] α β (some (.int r)) α' β := by
  refine pM.ofW hE (by decide) ?_ (Nat.le_of_ble_eq_true rfl)
  intro p e s m below meth c ls C hr hlk hP hl
  have C : pCx p s m c cX3_markOf 2 E RX3 := C
  have hS : va_S (pA E s.heap.size) s.heap s.heap [] := va_S.rf
  have hx := C.1
  have hb := C.2.1
  have hl : lv_has ls 2 [(0, .ref (pL E (16 + k))), (1, .int a0)] := hl
  unfold f_X3_markOf at hf
  refine lv_aload_n hx hb dX3_markOf_0 rfl (lv_at hl 0 rfl) ?_
  refine lv_iconst (v := 4) hx hb dX3_markOf_1 (by decide) ?_
  refine lv_iload_n hx hb dX3_markOf_2 rfl (lv_at hl 1 rfl) ?_
  refine lv_imul hx hb dX3_markOf_3 ?_
  obtain ⟨r1, α2, hc3, hf⟩ := pb2_ok hf
  refine p_callV (n := 1) (As := [.int (4 * a0)]) (rest := []) C hP hS (wv_3_44 C.2.2.2.2.1 _) (c_X3_part l C.2.2.2.2.2.2 (k := k) hk hc3) (e_X3 (k := k) hk) rfl rfl hd_X3_part rfl ⟨Nat.le_of_ble_eq_true rfl, Nat.le_of_ble_eq_true rfl⟩ hl.1 rfl (Nat.le_of_ble_eq_true rfl) dX3_markOf_4 ⟨Nat.zero_le _, Nat.zero_le _⟩ (fun H locs hP hS _ _ => ?_)
  refine W.eq (g2 := F0 m 7 ls [.int r1]) rfl ?_
  exact p_iret C hr hlk (pe1 hf) (pe2C hf) hP hS dX3_markOf_7
set_option maxHeartbeats 4000000 in
set_option maxRecDepth 100000 in
theorem c_X3_actOf (l : Launch) {E : pE} (hE : pInj E) {β : pSt} {k : Nat} (hk : k < 6) {a0 : Int32} {α α' : pSt} {r : Int32} (hf : f_X3_actOf k a0 α = some (r, α')) : pM l E yX3_actOf cX3_actOf 2 (some .int) 1 [.ref (pL E (16 + k)), .int a0] α β (some (.int r)) α' β := by
  refine pM.ofW hE (by decide) ?_ (Nat.le_of_ble_eq_true rfl)
  intro p e s m below meth c ls C hr hlk hP hl
  have C : pCx p s m c cX3_actOf 2 E RX3 := C
  have hS : va_S (pA E s.heap.size) s.heap s.heap [] := va_S.rf
  have hx := C.1
  have hb := C.2.1
  have hl : lv_has ls 2 [(0, .ref (pL E (16 + k))), (1, .int a0)] := hl
  unfold f_X3_actOf at hf
  refine lv_aload_n hx hb dX3_actOf_0 rfl (lv_at hl 0 rfl) ?_
  refine lv_iconst (v := 4) hx hb dX3_actOf_1 (by decide) ?_
  refine lv_iload_n hx hb dX3_actOf_2 rfl (lv_at hl 1 rfl) ?_
  refine lv_imul hx hb dX3_actOf_3 ?_
  refine lv_iconst (v := 1) hx hb dX3_actOf_4 (by decide) ?_
  refine lv_iadd hx hb dX3_actOf_5 ?_
  obtain ⟨r1, α2, hc3, hf⟩ := pb2_ok hf
  refine p_callV (n := 1) (As := [.int ((4 * a0) + 1)]) (rest := []) C hP hS (wv_3_44 C.2.2.2.2.1 _) (c_X3_part l C.2.2.2.2.2.2 (k := k) hk hc3) (e_X3 (k := k) hk) rfl rfl hd_X3_part rfl ⟨Nat.le_of_ble_eq_true rfl, Nat.le_of_ble_eq_true rfl⟩ hl.1 rfl (Nat.le_of_ble_eq_true rfl) dX3_actOf_6 ⟨Nat.zero_le _, Nat.zero_le _⟩ (fun H locs hP hS _ _ => ?_)
  refine W.eq (g2 := F0 m 9 ls [.int r1]) rfl ?_
  exact p_iret C hr hlk (pe1 hf) (pe2C hf) hP hS dX3_actOf_9
set_option maxHeartbeats 4000000 in
set_option maxRecDepth 100000 in
theorem c_X3_aOf (l : Launch) {E : pE} (hE : pInj E) {β : pSt} {k : Nat} (hk : k < 6) {a0 : Int32} {α α' : pSt} {r : Int32} (hf : f_X3_aOf k a0 α = some (r, α')) : pM l E yX3_aOf cX3_aOf 2 (some .int) 1 [.ref (pL E (16 + k)), .int a0] α β (some (.int r)) α' β := by
  refine pM.ofW hE (by decide) ?_ (Nat.le_of_ble_eq_true rfl)
  intro p e s m below meth c ls C hr hlk hP hl
  have C : pCx p s m c cX3_aOf 2 E RX3 := C
  have hS : va_S (pA E s.heap.size) s.heap s.heap [] := va_S.rf
  have hx := C.1
  have hb := C.2.1
  have hl : lv_has ls 2 [(0, .ref (pL E (16 + k))), (1, .int a0)] := hl
  unfold f_X3_aOf at hf
  refine lv_aload_n hx hb dX3_aOf_0 rfl (lv_at hl 0 rfl) ?_
  refine lv_iconst (v := 4) hx hb dX3_aOf_1 (by decide) ?_
  refine lv_iload_n hx hb dX3_aOf_2 rfl (lv_at hl 1 rfl) ?_
  refine lv_imul hx hb dX3_aOf_3 ?_
  refine lv_iconst (v := 2) hx hb dX3_aOf_4 (by decide) ?_
  refine lv_iadd hx hb dX3_aOf_5 ?_
  obtain ⟨r1, α2, hc3, hf⟩ := pb2_ok hf
  refine p_callV (n := 1) (As := [.int ((4 * a0) + 2)]) (rest := []) C hP hS (wv_3_44 C.2.2.2.2.1 _) (c_X3_part l C.2.2.2.2.2.2 (k := k) hk hc3) (e_X3 (k := k) hk) rfl rfl hd_X3_part rfl ⟨Nat.le_of_ble_eq_true rfl, Nat.le_of_ble_eq_true rfl⟩ hl.1 rfl (Nat.le_of_ble_eq_true rfl) dX3_aOf_6 ⟨Nat.zero_le _, Nat.zero_le _⟩ (fun H locs hP hS _ _ => ?_)
  refine W.eq (g2 := F0 m 9 ls [.int r1]) rfl ?_
  exact p_iret C hr hlk (pe1 hf) (pe2C hf) hP hS dX3_aOf_9
set_option maxHeartbeats 4000000 in
set_option maxRecDepth 100000 in
theorem c_X3_bOf (l : Launch) {E : pE} (hE : pInj E) {β : pSt} {k : Nat} (hk : k < 6) {a0 : Int32} {α α' : pSt} {r : Int32} (hf : f_X3_bOf k a0 α = some (r, α')) : pM l E yX3_bOf cX3_bOf 2 (some .int) 1 [.ref (pL E (16 + k)), .int a0] α β (some (.int r)) α' β := by
  refine pM.ofW hE (by decide) ?_ (Nat.le_of_ble_eq_true rfl)
  intro p e s m below meth c ls C hr hlk hP hl
  have C : pCx p s m c cX3_bOf 2 E RX3 := C
  have hS : va_S (pA E s.heap.size) s.heap s.heap [] := va_S.rf
  have hx := C.1
  have hb := C.2.1
  have hl : lv_has ls 2 [(0, .ref (pL E (16 + k))), (1, .int a0)] := hl
  unfold f_X3_bOf at hf
  refine lv_aload_n hx hb dX3_bOf_0 rfl (lv_at hl 0 rfl) ?_
  refine lv_iconst (v := 4) hx hb dX3_bOf_1 (by decide) ?_
  refine lv_iload_n hx hb dX3_bOf_2 rfl (lv_at hl 1 rfl) ?_
  refine lv_imul hx hb dX3_bOf_3 ?_
  refine lv_iconst (v := 3) hx hb dX3_bOf_4 (by decide) ?_
  refine lv_iadd hx hb dX3_bOf_5 ?_
  obtain ⟨r1, α2, hc3, hf⟩ := pb2_ok hf
  refine p_callV (n := 1) (As := [.int ((4 * a0) + 3)]) (rest := []) C hP hS (wv_3_44 C.2.2.2.2.1 _) (c_X3_part l C.2.2.2.2.2.2 (k := k) hk hc3) (e_X3 (k := k) hk) rfl rfl hd_X3_part rfl ⟨Nat.le_of_ble_eq_true rfl, Nat.le_of_ble_eq_true rfl⟩ hl.1 rfl (Nat.le_of_ble_eq_true rfl) dX3_bOf_6 ⟨Nat.zero_le _, Nat.zero_le _⟩ (fun H locs hP hS _ _ => ?_)
  refine W.eq (g2 := F0 m 9 ls [.int r1]) rfl ?_
  exact p_iret C hr hlk (pe1 hf) (pe2C hf) hP hS dX3_bOf_9
set_option maxHeartbeats 4000000 in
set_option maxRecDepth 100000 in
theorem c_X3_aspect (l : Launch) {E : pE} (hE : pInj E) {β : pSt} {k : Nat} (hk : k < 6) {a0 : Int32} {α α' : pSt} {r : Int32} (hf : f_X3_aspect k a0 α = some (r, α')) : pM l E yX3_aspect cX3_aspect 2 (some .int) 1 [.ref (pL E (16 + k)), .int a0] α β (some (.int r)) α' β := by
  refine pM.ofW hE (by decide) ?_ (Nat.le_of_ble_eq_true rfl)
  intro p e s m below meth c ls C hr hlk hP hl
  have C : pCx p s m c cX3_aspect 2 E RX3 := C
  have hS : va_S (pA E s.heap.size) s.heap s.heap [] := va_S.rf
  have hx := C.1
  have hb := C.2.1
  have hl : lv_has ls 2 [(0, .ref (pL E (16 + k))), (1, .int a0)] := hl
  unfold f_X3_aspect at hf
  refine lv_iload_n hx hb dX3_aspect_0 rfl (lv_at hl 1 rfl) ?_
  by_cases h1 : a0 = 0
  · have hf := pif_t hf h1
    refine lv_tableIn (tgt := 28) (off := 27) hx hb dX3_aspect_1 (by rw [h1]; decide) (by rw [h1]; decide) (by rw [h1]; decide) (by decide) ?_
    refine lv_aload_n hx hb dX3_aspect_28 rfl (lv_at hl 0 rfl) ?_
    refine g_3_15 C hP (k := k) hk dX3_aspect_29 ?_
    exact p_iret C hr hlk (pe1 hf) (pe2C hf) hP hS dX3_aspect_32
  · have hf := pif_f hf h1
    by_cases h2 : a0 = 1
    · have hf := pif_t hf h2
      refine lv_tableIn (tgt := 33) (off := 32) hx hb dX3_aspect_1 (by rw [h2]; decide) (by rw [h2]; decide) (by rw [h2]; decide) (by decide) ?_
      refine lv_aload_n hx hb dX3_aspect_33 rfl (lv_at hl 0 rfl) ?_
      refine g_3_31 C hP (k := k) hk dX3_aspect_34 ?_
      exact p_iret C hr hlk (pe1 hf) (pe2C hf) hP hS dX3_aspect_37
    · have hf := pif_f hf h2
      by_cases h3 : a0 = 2
      · have hf := pif_t hf h3
        refine lv_tableIn (tgt := 38) (off := 37) hx hb dX3_aspect_1 (by rw [h3]; decide) (by rw [h3]; decide) (by rw [h3]; decide) (by decide) ?_
        refine lv_aload_n hx hb dX3_aspect_38 rfl (lv_at hl 0 rfl) ?_
        refine g_3_37 C hP (k := k) hk dX3_aspect_39 ?_
        obtain ⟨r4, α5, hc6, hf⟩ := pb2_ok hf
        refine p_callN (n := 1) (As := [.int (α 8 k)]) (rest := []) C hP hS (wv_3_50 C.2.2.2.2.1 _) (c_X9_oneIf l C.2.2.2.2.2.2  hc6) hd_X9_oneIf rfl ⟨Nat.le_of_ble_eq_true rfl, Nat.le_of_ble_eq_true rfl⟩ hl.1 rfl (Nat.le_of_ble_eq_true rfl) dX3_aspect_42 ⟨Nat.zero_le _, Nat.zero_le _⟩ (fun H locs hP hS _ _ => ?_)
        refine W.eq (g2 := F0 m 45 ls [.int r4]) rfl ?_
        exact p_iret C hr hlk (pe1 hf) (pe2C hf) hP hS dX3_aspect_45
      · have hf := pif_f hf h3
        refine lv_tableOut (tgt := 46) hx hb dX3_aspect_1 (by have z0 := lv_neT (a := 0) h1 rfl; have z1 := lv_neT (a := 1) h2 rfl; have z2 := lv_neT (a := 2) h3 rfl; omega) (by decide) ?_
        refine lv_aload_n hx hb dX3_aspect_46 rfl (lv_at hl 0 rfl) ?_
        refine g_3_41 C hP (k := k) hk dX3_aspect_47 ?_
        exact p_iret C hr hlk (pe1 hf) (pe2C hf) hP hS dX3_aspect_50
set_option maxHeartbeats 4000000 in
set_option maxRecDepth 100000 in
theorem c_X4_beginRun (l : Launch) {E : pE} (hE : pInj E) {β : pSt}  {α α' : pSt} {r : Unit} (hf : f_X4_beginRun  α = some (r, α')) : pM l E yX4_beginRun cX4_beginRun 3 none 1 [.ref (pL E 3)] α β none α' β := by
  refine pM.ofW hE (by decide) ?_ (Nat.le_of_ble_eq_true rfl)
  intro p e s m below meth c ls C hr hlk hP hl
  have C : pCx p s m c cX4_beginRun 3 E RX4 := C
  have hS : va_S (pA E s.heap.size) s.heap s.heap [] := va_S.rf
  have hx := C.1
  have hb := C.2.1
  have hl : lv_has ls 3 [(0, .ref (pL E 3))] := hl
  unfold f_X4_beginRun at hf
  refine lv_iconst (v := 0) hx hb dX4_beginRun_0 (by decide) ?_
  refine lv_istore_n (lv' := [(1, .int 0), (0, .ref (pL E 3))]) hx hb dX4_beginRun_1 rfl hl (by decide) rfl (fun ls hl => ?_)
  have lp2 : ∀ (n : Nat) (x1 : Int32) (α : pSt) (H : Heap) (locs : List Loc) (ls : Array Slot), f_X4_beginRun_L2 n x1 α = some (r, α') → va_P (pD E) vwCl (pw E α β) H → va_S (pA E s.heap.size) s.heap H locs → lv_has ls 3 [(1, .int x1), (0, .ref (pL E 3))] → W p l e (pR 1) s m [.ref (pL E 3)].toArray below meth c H locs 0 0 (pQ below E s [.ref (pL E 3)].toArray none α' β) (F0 m 2 ls []) := by
    intro n
    induction n with
    | zero =>
      intro x1 α H locs ls hf
      rw [f_X4_beginRun_L2] at hf
      cases hf
    | succ n2 ih2 =>
      intro x1 α H locs ls hf hP hS hl
      rw [f_X4_beginRun_L2] at hf
      refine lv_iload_n hx hb dX4_beginRun_2 rfl (lv_at hl 0 rfl) ?_
      refine lv_aload_n hx hb dX4_beginRun_3 rfl (lv_at hl 1 rfl) ?_
      refine g_4_18 C hP dX4_beginRun_4 ?_
      refine lv_icmp_ge (tgt := 30) hx hb dX4_beginRun_7 (by decide) (fun h1 => ?_) (fun h1 => ?_)
      · have hf := pif_t hf h1
        exact p_vret C hr hlk (pe2C hf) hP hS dX4_beginRun_30
      · have hf := pif_f hf h1
        refine lv_aload_n hx hb dX4_beginRun_10 rfl (lv_at hl 1 rfl) ?_
        refine lv_iload_n hx hb dX4_beginRun_11 rfl (lv_at hl 0 rfl) ?_
        obtain ⟨r2, α3, hc4, hf⟩ := pb2_ok hf
        refine p_callV (n := 1) (As := [.int x1]) (rest := []) C hP hS (wv_4_26 C.2.2.2.2.1 _) (c_X4_at l C.2.2.2.2.2.2  hc4) (e_X4) rfl rfl hd_X4_at rfl ⟨Nat.le_of_ble_eq_true rfl, Nat.le_of_ble_eq_true rfl⟩ hl.1 rfl (Nat.le_of_ble_eq_true rfl) dX4_beginRun_12 ⟨Nat.zero_le _, Nat.zero_le _⟩ (fun H locs hP hS _ _ => ?_)
        rcases r2 with _ | i5
        · have hf := pO_n hf
          refine W.eq (g2 := F0 m 15 ls [.null]) rfl ?_
          refine lv_astore_nN (lv' := [(2, .null), (1, .int x1), (0, .ref (pL E 3))]) hx hb dX4_beginRun_15 rfl hl (by decide) rfl (fun ls hl => ?_)
          refine lv_aload_nN hx hb dX4_beginRun_16 rfl (lv_at hl 0 rfl) ?_
          refine lv_ifnullN (tgt := 24) hx hb dX4_beginRun_17 (by decide) ?_
          refine lv_iinc (v := (x1 + 1)) (lv' := [(1, .int (x1 + 1)), (2, .null), (0, .ref (pL E 3))]) hx hb dX4_beginRun_24 hl (k := 1) rfl rfl (by decide) rfl (fun ls hl => ?_)
          refine lv_goto (tgt := 2) hx hb dX4_beginRun_27 (by decide) ?_
          exact ih2 _ α3 _ _ _ hf hP hS (lv_sub hl [0, 2] rfl)
        · have hf := pO_s hf
          obtain ⟨h6, hf⟩ := pg_ok hf
          refine W.eq (g2 := F0 m 15 ls [.ref (pL E (16 + i5))]) rfl ?_
          refine lv_astore_n (lv' := [(2, .ref (pL E (16 + i5))), (1, .int x1), (0, .ref (pL E 3))]) hx hb dX4_beginRun_15 rfl hl (by decide) rfl (fun ls hl => ?_)
          refine lv_aload_n hx hb dX4_beginRun_16 rfl (lv_at hl 0 rfl) ?_
          refine lv_ifnull hx hb dX4_beginRun_17 ?_
          refine lv_aload_n hx hb dX4_beginRun_20 rfl (lv_at hl 0 rfl) ?_
          obtain ⟨r7, α8, hc9, hf⟩ := pb2_ok hf
          refine p_callV (n := 0) (As := []) (rest := []) C hP hS (wv_4_30 C.2.2.2.2.1 _) (c_X3_beginRun l C.2.2.2.2.2.2 (k := i5) (of_decide_eq_true h6) hc9) (e_X3 (k := i5) (of_decide_eq_true h6)) rfl rfl hd_X3_beginRun rfl ⟨Nat.le_of_ble_eq_true rfl, Nat.le_of_ble_eq_true rfl⟩ hl.1 rfl (Nat.le_of_ble_eq_true rfl) dX4_beginRun_21 ⟨Nat.zero_le _, Nat.zero_le _⟩ (fun H locs hP hS _ _ => ?_)
          refine W.eq (g2 := F0 m 24 ls []) rfl ?_
          refine lv_iinc (v := (x1 + 1)) (lv' := [(1, .int (x1 + 1)), (2, .ref (pL E (16 + i5))), (0, .ref (pL E 3))]) hx hb dX4_beginRun_24 hl (k := 1) rfl rfl (by decide) rfl (fun ls hl => ?_)
          refine lv_goto (tgt := 2) hx hb dX4_beginRun_27 (by decide) ?_
          exact ih2 _ α8 _ _ _ hf hP hS (lv_sub hl [0, 2] rfl)
  exact lp2 _ _ _ _ _ _ hf hP hS (lv_sub hl [0, 1] rfl)
set_option maxHeartbeats 4000000 in
set_option maxRecDepth 100000 in
theorem c_X4_goBack (l : Launch) {E : pE} (hE : pInj E) {β : pSt}  {α α' : pSt} {r : Unit} (hf : f_X4_goBack  α = some (r, α')) : pM l E yX4_goBack cX4_goBack 3 none 1 [.ref (pL E 3)] α β none α' β := by
  refine pM.ofW hE (by decide) ?_ (Nat.le_of_ble_eq_true rfl)
  intro p e s m below meth c ls C hr hlk hP hl
  have C : pCx p s m c cX4_goBack 3 E RX4 := C
  have hS : va_S (pA E s.heap.size) s.heap s.heap [] := va_S.rf
  have hx := C.1
  have hb := C.2.1
  have hl : lv_has ls 3 [(0, .ref (pL E 3))] := hl
  unfold f_X4_goBack at hf
  refine lv_iconst (v := 0) hx hb dX4_goBack_0 (by decide) ?_
  refine lv_istore_n (lv' := [(1, .int 0), (0, .ref (pL E 3))]) hx hb dX4_goBack_1 rfl hl (by decide) rfl (fun ls hl => ?_)
  have lp2 : ∀ (n : Nat) (x1 : Int32) (α : pSt) (H : Heap) (locs : List Loc) (ls : Array Slot), f_X4_goBack_L2 n x1 α = some (r, α') → va_P (pD E) vwCl (pw E α β) H → va_S (pA E s.heap.size) s.heap H locs → lv_has ls 3 [(1, .int x1), (0, .ref (pL E 3))] → W p l e (pR 1) s m [.ref (pL E 3)].toArray below meth c H locs 0 0 (pQ below E s [.ref (pL E 3)].toArray none α' β) (F0 m 2 ls []) := by
    intro n
    induction n with
    | zero =>
      intro x1 α H locs ls hf
      rw [f_X4_goBack_L2] at hf
      cases hf
    | succ n2 ih2 =>
      intro x1 α H locs ls hf hP hS hl
      rw [f_X4_goBack_L2] at hf
      refine lv_iload_n hx hb dX4_goBack_2 rfl (lv_at hl 0 rfl) ?_
      refine lv_aload_n hx hb dX4_goBack_3 rfl (lv_at hl 1 rfl) ?_
      refine g_4_18 C hP dX4_goBack_4 ?_
      refine lv_icmp_ge (tgt := 30) hx hb dX4_goBack_7 (by decide) (fun h1 => ?_) (fun h1 => ?_)
      · have hf := pif_t hf h1
        exact p_vret C hr hlk (pe2C hf) hP hS dX4_goBack_30
      · have hf := pif_f hf h1
        refine lv_aload_n hx hb dX4_goBack_10 rfl (lv_at hl 1 rfl) ?_
        refine lv_iload_n hx hb dX4_goBack_11 rfl (lv_at hl 0 rfl) ?_
        obtain ⟨r2, α3, hc4, hf⟩ := pb2_ok hf
        refine p_callV (n := 1) (As := [.int x1]) (rest := []) C hP hS (wv_4_26 C.2.2.2.2.1 _) (c_X4_at l C.2.2.2.2.2.2  hc4) (e_X4) rfl rfl hd_X4_at rfl ⟨Nat.le_of_ble_eq_true rfl, Nat.le_of_ble_eq_true rfl⟩ hl.1 rfl (Nat.le_of_ble_eq_true rfl) dX4_goBack_12 ⟨Nat.zero_le _, Nat.zero_le _⟩ (fun H locs hP hS _ _ => ?_)
        rcases r2 with _ | i5
        · have hf := pO_n hf
          refine W.eq (g2 := F0 m 15 ls [.null]) rfl ?_
          refine lv_astore_nN (lv' := [(2, .null), (1, .int x1), (0, .ref (pL E 3))]) hx hb dX4_goBack_15 rfl hl (by decide) rfl (fun ls hl => ?_)
          refine lv_aload_nN hx hb dX4_goBack_16 rfl (lv_at hl 0 rfl) ?_
          refine lv_ifnullN (tgt := 24) hx hb dX4_goBack_17 (by decide) ?_
          refine lv_iinc (v := (x1 + 1)) (lv' := [(1, .int (x1 + 1)), (2, .null), (0, .ref (pL E 3))]) hx hb dX4_goBack_24 hl (k := 1) rfl rfl (by decide) rfl (fun ls hl => ?_)
          refine lv_goto (tgt := 2) hx hb dX4_goBack_27 (by decide) ?_
          exact ih2 _ α3 _ _ _ hf hP hS (lv_sub hl [0, 2] rfl)
        · have hf := pO_s hf
          obtain ⟨h6, hf⟩ := pg_ok hf
          refine W.eq (g2 := F0 m 15 ls [.ref (pL E (16 + i5))]) rfl ?_
          refine lv_astore_n (lv' := [(2, .ref (pL E (16 + i5))), (1, .int x1), (0, .ref (pL E 3))]) hx hb dX4_goBack_15 rfl hl (by decide) rfl (fun ls hl => ?_)
          refine lv_aload_n hx hb dX4_goBack_16 rfl (lv_at hl 0 rfl) ?_
          refine lv_ifnull hx hb dX4_goBack_17 ?_
          refine lv_aload_n hx hb dX4_goBack_20 rfl (lv_at hl 0 rfl) ?_
          obtain ⟨r7, α8, hc9, hf⟩ := pb2_ok hf
          refine p_callV (n := 0) (As := []) (rest := []) C hP hS (wv_4_33 C.2.2.2.2.1 _) (c_X3_goBack l C.2.2.2.2.2.2 (k := i5) (of_decide_eq_true h6) hc9) (e_X3 (k := i5) (of_decide_eq_true h6)) rfl rfl hd_X3_goBack rfl ⟨Nat.le_of_ble_eq_true rfl, Nat.le_of_ble_eq_true rfl⟩ hl.1 rfl (Nat.le_of_ble_eq_true rfl) dX4_goBack_21 ⟨Nat.zero_le _, Nat.zero_le _⟩ (fun H locs hP hS _ _ => ?_)
          refine W.eq (g2 := F0 m 24 ls []) rfl ?_
          refine lv_iinc (v := (x1 + 1)) (lv' := [(1, .int (x1 + 1)), (2, .ref (pL E (16 + i5))), (0, .ref (pL E 3))]) hx hb dX4_goBack_24 hl (k := 1) rfl rfl (by decide) rfl (fun ls hl => ?_)
          refine lv_goto (tgt := 2) hx hb dX4_goBack_27 (by decide) ?_
          exact ih2 _ α8 _ _ _ hf hP hS (lv_sub hl [0, 2] rfl)
  exact lp2 _ _ _ _ _ _ hf hP hS (lv_sub hl [0, 1] rfl)
set_option maxHeartbeats 4000000 in
set_option maxRecDepth 100000 in
theorem c_X5_emptyAll (l : Launch) {E : pE} (hE : pInj E) {β : pSt}  {α α' : pSt} {r : Unit} (hf : f_X5_emptyAll  α = some (r, α')) : pM l E yX5_emptyAll cX5_emptyAll 5 none 1 [.ref (pL E 7)] α β none α' β := by
  refine pM.ofW hE (by decide) ?_ (Nat.le_of_ble_eq_true rfl)
  intro p e s m below meth c ls C hr hlk hP hl
  have C : pCx p s m c cX5_emptyAll 5 E RX5 := C
  have hS : va_S (pA E s.heap.size) s.heap s.heap [] := va_S.rf
  have hx := C.1
  have hb := C.2.1
  have hl : lv_has ls 5 [(0, .ref (pL E 7))] := hl
  unfold f_X5_emptyAll at hf
  refine lv_aload_n hx hb dX5_emptyAll_0 rfl (lv_at hl 0 rfl) ?_
  refine g_5_11 C hP dX5_emptyAll_1 ?_
  refine lv_astore_n (lv' := [(1, .ref (pL E 56)), (0, .ref (pL E 7))]) hx hb dX5_emptyAll_4 rfl hl (by decide) rfl (fun ls hl => ?_)
  refine lv_aload_n hx hb dX5_emptyAll_5 rfl (lv_at hl 0 rfl) ?_
  refine ln_rows C hP dX5_emptyAll_6 ?_
  refine lv_istore_n (lv' := [(2, .int 4), (1, .ref (pL E 56)), (0, .ref (pL E 7))]) hx hb dX5_emptyAll_7 rfl hl (by decide) rfl (fun ls hl => ?_)
  refine lv_iconst (v := 0) hx hb dX5_emptyAll_8 (by decide) ?_
  refine lv_istore_n (lv' := [(3, .int 0), (2, .int 4), (1, .ref (pL E 56)), (0, .ref (pL E 7))]) hx hb dX5_emptyAll_9 rfl hl (by decide) rfl (fun ls hl => ?_)
  have lp10 : ∀ (n : Nat) (x3 : Int32) (α : pSt) (H : Heap) (locs : List Loc) (ls : Array Slot), f_X5_emptyAll_L10 n x3 α = some (r, α') → va_P (pD E) vwCl (pw E α β) H → va_S (pA E s.heap.size) s.heap H locs → lv_has ls 5 [(3, .int x3), (2, .int 4), (1, .ref (pL E 56))] → W p l e (pR 1) s m [.ref (pL E 7)].toArray below meth c H locs 0 0 (pQ below E s [.ref (pL E 7)].toArray none α' β) (F0 m 10 ls []) := by
    intro n
    induction n with
    | zero =>
      intro x3 α H locs ls hf
      rw [f_X5_emptyAll_L10] at hf
      cases hf
    | succ n10 ih10 =>
      intro x3 α H locs ls hf hP hS hl
      rw [f_X5_emptyAll_L10] at hf
      refine lv_iload_n hx hb dX5_emptyAll_10 rfl (lv_at hl 0 rfl) ?_
      refine lv_iload_n hx hb dX5_emptyAll_11 rfl (lv_at hl 1 rfl) ?_
      refine lv_icmp_ge (tgt := 36) hx hb dX5_emptyAll_12 (by decide) (fun h1 => ?_) (fun h1 => ?_)
      · have hf := pif_t hf h1
        exact p_vret C hr hlk (pe2C hf) hP hS dX5_emptyAll_36
      · have hf := pif_f hf h1
        refine lv_aload_n hx hb dX5_emptyAll_15 rfl (lv_at hl 2 rfl) ?_
        refine lv_iload_n hx hb dX5_emptyAll_16 rfl (lv_at hl 0 rfl) ?_
        obtain ⟨h2, hf⟩ := pg_ok hf
        refine la_rows C hP h2 dX5_emptyAll_17 ?_
        refine lv_astore (lv' := [(4, .ref (pL E (22 + (7 + x3.toNatClampNeg)))), (3, .int x3), (2, .int 4), (1, .ref (pL E 56))]) hx hb dX5_emptyAll_18 hl (by decide) rfl (fun ls hl => ?_)
        refine lv_aload hx hb dX5_emptyAll_20 (lv_at hl 0 rfl) ?_
        refine lv_ifnull hx hb dX5_emptyAll_22 ?_
        refine lv_aload hx hb dX5_emptyAll_25 (lv_at hl 0 rfl) ?_
        obtain ⟨r3, α4, hc5, hf⟩ := pb2_ok hf
        refine p_callV (n := 0) (As := []) (rest := []) C hP hS (wv_5_20 C.2.2.2.2.1 _) (c_X6_empty l C.2.2.2.2.2.2 (k := (7 + x3.toNatClampNeg)) (pr7 (pin_lt h2)) hc5) (e_X6 (k := (7 + x3.toNatClampNeg)) (pr7 (pin_lt h2))) rfl rfl hd_X6_empty rfl ⟨Nat.le_of_ble_eq_true rfl, Nat.le_of_ble_eq_true rfl⟩ hl.1 rfl (Nat.le_of_ble_eq_true rfl) dX5_emptyAll_27 ⟨Nat.zero_le _, Nat.zero_le _⟩ (fun H locs hP hS _ _ => ?_)
        refine W.eq (g2 := F0 m 30 ls []) rfl ?_
        refine lv_iinc (v := (x3 + 1)) (lv' := [(3, .int (x3 + 1)), (4, .ref (pL E (22 + (7 + x3.toNatClampNeg)))), (2, .int 4), (1, .ref (pL E 56))]) hx hb dX5_emptyAll_30 hl (k := 1) rfl rfl (by decide) rfl (fun ls hl => ?_)
        refine lv_goto (tgt := 10) hx hb dX5_emptyAll_33 (by decide) ?_
        exact ih10 _ α4 _ _ _ hf hP hS (lv_sub hl [0, 2, 3] rfl)
  exact lp10 _ _ _ _ _ _ hf hP hS (lv_sub hl [0, 1, 2] rfl)
set_option maxHeartbeats 4000000 in
set_option maxRecDepth 100000 in
theorem c_X5_keep (l : Launch) {E : pE} (hE : pInj E) {β : pSt}  {α α' : pSt} {r : Unit} (hf : f_X5_keep  α = some (r, α')) : pM l E yX5_keep cX5_keep 5 none 1 [.ref (pL E 7)] α β none α' β := by
  refine pM.ofW hE (by decide) ?_ (Nat.le_of_ble_eq_true rfl)
  intro p e s m below meth c ls C hr hlk hP hl
  have C : pCx p s m c cX5_keep 5 E RX5 := C
  have hS : va_S (pA E s.heap.size) s.heap s.heap [] := va_S.rf
  have hx := C.1
  have hb := C.2.1
  have hl : lv_has ls 5 [(0, .ref (pL E 7))] := hl
  unfold f_X5_keep at hf
  refine lv_aload_n hx hb dX5_keep_0 rfl (lv_at hl 0 rfl) ?_
  refine g_5_11 C hP dX5_keep_1 ?_
  refine lv_astore_n (lv' := [(1, .ref (pL E 56)), (0, .ref (pL E 7))]) hx hb dX5_keep_4 rfl hl (by decide) rfl (fun ls hl => ?_)
  refine lv_aload_n hx hb dX5_keep_5 rfl (lv_at hl 0 rfl) ?_
  refine ln_rows C hP dX5_keep_6 ?_
  refine lv_istore_n (lv' := [(2, .int 4), (1, .ref (pL E 56)), (0, .ref (pL E 7))]) hx hb dX5_keep_7 rfl hl (by decide) rfl (fun ls hl => ?_)
  refine lv_iconst (v := 0) hx hb dX5_keep_8 (by decide) ?_
  refine lv_istore_n (lv' := [(3, .int 0), (2, .int 4), (1, .ref (pL E 56)), (0, .ref (pL E 7))]) hx hb dX5_keep_9 rfl hl (by decide) rfl (fun ls hl => ?_)
  have lp10 : ∀ (n : Nat) (x3 : Int32) (α : pSt) (H : Heap) (locs : List Loc) (ls : Array Slot), f_X5_keep_L10 n x3 α = some (r, α') → va_P (pD E) vwCl (pw E α β) H → va_S (pA E s.heap.size) s.heap H locs → lv_has ls 5 [(3, .int x3), (2, .int 4), (1, .ref (pL E 56))] → W p l e (pR 1) s m [.ref (pL E 7)].toArray below meth c H locs 0 0 (pQ below E s [.ref (pL E 7)].toArray none α' β) (F0 m 10 ls []) := by
    intro n
    induction n with
    | zero =>
      intro x3 α H locs ls hf
      rw [f_X5_keep_L10] at hf
      cases hf
    | succ n10 ih10 =>
      intro x3 α H locs ls hf hP hS hl
      rw [f_X5_keep_L10] at hf
      refine lv_iload_n hx hb dX5_keep_10 rfl (lv_at hl 0 rfl) ?_
      refine lv_iload_n hx hb dX5_keep_11 rfl (lv_at hl 1 rfl) ?_
      refine lv_icmp_ge (tgt := 36) hx hb dX5_keep_12 (by decide) (fun h1 => ?_) (fun h1 => ?_)
      · have hf := pif_t hf h1
        exact p_vret C hr hlk (pe2C hf) hP hS dX5_keep_36
      · have hf := pif_f hf h1
        refine lv_aload_n hx hb dX5_keep_15 rfl (lv_at hl 2 rfl) ?_
        refine lv_iload_n hx hb dX5_keep_16 rfl (lv_at hl 0 rfl) ?_
        obtain ⟨h2, hf⟩ := pg_ok hf
        refine la_rows C hP h2 dX5_keep_17 ?_
        refine lv_astore (lv' := [(4, .ref (pL E (22 + (7 + x3.toNatClampNeg)))), (3, .int x3), (2, .int 4), (1, .ref (pL E 56))]) hx hb dX5_keep_18 hl (by decide) rfl (fun ls hl => ?_)
        refine lv_aload hx hb dX5_keep_20 (lv_at hl 0 rfl) ?_
        refine lv_ifnull hx hb dX5_keep_22 ?_
        refine lv_aload hx hb dX5_keep_25 (lv_at hl 0 rfl) ?_
        obtain ⟨r3, α4, hc5, hf⟩ := pb2_ok hf
        refine p_callV (n := 0) (As := []) (rest := []) C hP hS (wv_5_23 C.2.2.2.2.1 _) (c_X6_keep l C.2.2.2.2.2.2 (k := (7 + x3.toNatClampNeg)) (pr7 (pin_lt h2)) hc5) (e_X6 (k := (7 + x3.toNatClampNeg)) (pr7 (pin_lt h2))) rfl rfl hd_X6_keep rfl ⟨Nat.le_of_ble_eq_true rfl, Nat.le_of_ble_eq_true rfl⟩ hl.1 rfl (Nat.le_of_ble_eq_true rfl) dX5_keep_27 ⟨Nat.zero_le _, Nat.zero_le _⟩ (fun H locs hP hS _ _ => ?_)
        refine W.eq (g2 := F0 m 30 ls []) rfl ?_
        refine lv_iinc (v := (x3 + 1)) (lv' := [(3, .int (x3 + 1)), (4, .ref (pL E (22 + (7 + x3.toNatClampNeg)))), (2, .int 4), (1, .ref (pL E 56))]) hx hb dX5_keep_30 hl (k := 1) rfl rfl (by decide) rfl (fun ls hl => ?_)
        refine lv_goto (tgt := 10) hx hb dX5_keep_33 (by decide) ?_
        exact ih10 _ α4 _ _ _ hf hP hS (lv_sub hl [0, 2, 3] rfl)
  exact lp10 _ _ _ _ _ _ hf hP hS (lv_sub hl [0, 1, 2] rfl)
set_option maxHeartbeats 4000000 in
set_option maxRecDepth 100000 in
theorem c_X6_become (l : Launch) {E : pE} (hE : pInj E) {β : pSt} {k : Nat} (hk : k < 11) {q0 : Nat} (hq0 : q0 < 11) {α α' : pSt} {r : Unit} (hf : f_X6_become k q0 α = some (r, α')) : pM l E yX6_become cX6_become 3 none 1 [.ref (pL E (22 + k)), .ref (pL E (22 + q0))] α β none α' β := by
  refine pM.ofW hE (by decide) ?_ (Nat.le_of_ble_eq_true rfl)
  intro p e s m below meth c ls C hr hlk hP hl
  have C : pCx p s m c cX6_become 3 E RX6 := C
  have hS : va_S (pA E s.heap.size) s.heap s.heap [] := va_S.rf
  have hx := C.1
  have hb := C.2.1
  have hl : lv_has ls 3 [(0, .ref (pL E (22 + k))), (1, .ref (pL E (22 + q0)))] := hl
  unfold f_X6_become at hf
  refine lv_aload_n hx hb dX6_become_0 rfl (lv_at hl 0 rfl) ?_
  obtain ⟨r1, α2, hc3, hf⟩ := pb2_ok hf
  refine p_callV (n := 0) (As := []) (rest := []) C hP hS (wv_6_25 C.2.2.2.2.1 _) (c_X6_empty l C.2.2.2.2.2.2 (k := k) hk hc3) (e_X6 (k := k) hk) rfl rfl hd_X6_empty rfl ⟨Nat.le_of_ble_eq_true rfl, Nat.le_of_ble_eq_true rfl⟩ hl.1 rfl (Nat.le_of_ble_eq_true rfl) dX6_become_1 ⟨Nat.zero_le _, Nat.zero_le _⟩ (fun H locs hP hS _ _ => ?_)
  refine W.eq (g2 := F0 m 4 ls []) rfl ?_
  refine lv_iconst (v := 0) hx hb dX6_become_4 (by decide) ?_
  refine lv_istore_n (lv' := [(2, .int 0), (0, .ref (pL E (22 + k))), (1, .ref (pL E (22 + q0)))]) hx hb dX6_become_5 rfl hl (by decide) rfl (fun ls hl => ?_)
  have lp6 : ∀ (n : Nat) (x2 : Int32) (α : pSt) (H : Heap) (locs : List Loc) (ls : Array Slot), f_X6_become_L6 k q0 n x2 α = some (r, α') → va_P (pD E) vwCl (pw E α β) H → va_S (pA E s.heap.size) s.heap H locs → lv_has ls 3 [(2, .int x2), (0, .ref (pL E (22 + k))), (1, .ref (pL E (22 + q0)))] → W p l e (pR 1) s m [.ref (pL E (22 + k)), .ref (pL E (22 + q0))].toArray below meth c H locs 0 0 (pQ below E s [.ref (pL E (22 + k)), .ref (pL E (22 + q0))].toArray none α' β) (F0 m 6 ls []) := by
    intro n
    induction n with
    | zero =>
      intro x2 α H locs ls hf
      rw [f_X6_become_L6] at hf
      cases hf
    | succ n6 ih6 =>
      intro x2 α H locs ls hf hP hS hl
      rw [f_X6_become_L6] at hf
      refine lv_iload_n hx hb dX6_become_6 rfl (lv_at hl 0 rfl) ?_
      refine lv_aload_n hx hb dX6_become_7 rfl (lv_at hl 2 rfl) ?_
      obtain ⟨r4, α5, hc6, hf⟩ := pb2_ok hf
      refine p_callV (n := 0) (As := []) (rest := [.int x2]) C hP hS (wv_6_28 C.2.2.2.2.1 _) (c_X6_size l C.2.2.2.2.2.2 (k := q0) hq0 hc6) (e_X6 (k := q0) hq0) rfl rfl hd_X6_size rfl ⟨Nat.le_of_ble_eq_true rfl, Nat.le_of_ble_eq_true rfl⟩ hl.1 rfl (Nat.le_of_ble_eq_true rfl) dX6_become_8 ⟨Nat.zero_le _, Nat.zero_le _⟩ (fun H locs hP hS _ _ => ?_)
      refine W.eq (g2 := F0 m 11 ls [.int r4, .int x2]) rfl ?_
      refine lv_icmp_ge (tgt := 30) hx hb dX6_become_11 (by decide) (fun h7 => ?_) (fun h7 => ?_)
      · have hf := pif_t hf h7
        exact p_vret C hr hlk (pe2C hf) hP hS dX6_become_30
      · have hf := pif_f hf h7
        refine lv_aload_n hx hb dX6_become_14 rfl (lv_at hl 1 rfl) ?_
        refine lv_aload_n hx hb dX6_become_15 rfl (lv_at hl 2 rfl) ?_
        refine lv_iload_n hx hb dX6_become_16 rfl (lv_at hl 0 rfl) ?_
        obtain ⟨r8, α9, hc10, hf⟩ := pb2_ok hf
        refine p_callV (n := 1) (As := [.int x2]) (rest := [.ref (pL E (22 + k))]) C hP hS (wv_6_32 C.2.2.2.2.1 _) (c_X6_at l C.2.2.2.2.2.2 (k := q0) hq0 hc10) (e_X6 (k := q0) hq0) rfl rfl hd_X6_at rfl ⟨Nat.le_of_ble_eq_true rfl, Nat.le_of_ble_eq_true rfl⟩ hl.1 rfl (Nat.le_of_ble_eq_true rfl) dX6_become_17 ⟨Nat.zero_le _, Nat.zero_le _⟩ (fun H locs hP hS _ _ => ?_)
        refine W.eq (g2 := F0 m 20 ls [.int r8, .ref (pL E (22 + k))]) rfl ?_
        obtain ⟨r11, α12, hc13, hf⟩ := pb2_ok hf
        refine p_callV (n := 1) (As := [.int r8]) (rest := []) C hP hS (wv_6_36 C.2.2.2.2.1 _) (c_X6_append l C.2.2.2.2.2.2 (k := k) hk hc13) (e_X6 (k := k) hk) rfl rfl hd_X6_append rfl ⟨Nat.le_of_ble_eq_true rfl, Nat.le_of_ble_eq_true rfl⟩ hl.1 rfl (Nat.le_of_ble_eq_true rfl) dX6_become_20 ⟨Nat.zero_le _, Nat.zero_le _⟩ (fun H locs hP hS _ _ => ?_)
        refine W.eq (g2 := F0 m 23 ls [.int r11]) rfl ?_
        refine lv_pop hx hb dX6_become_23 rfl ?_
        refine lv_iinc (v := (x2 + 1)) (lv' := [(2, .int (x2 + 1)), (0, .ref (pL E (22 + k))), (1, .ref (pL E (22 + q0)))]) hx hb dX6_become_24 hl (k := 0) rfl rfl (by decide) rfl (fun ls hl => ?_)
        refine lv_goto (tgt := 6) hx hb dX6_become_27 (by decide) ?_
        exact ih6 _ α12 _ _ _ hf hP hS (lv_sub hl [0, 1, 2] rfl)
  exact lp6 _ _ _ _ _ _ hf hP hS (lv_sub hl [0, 1, 2] rfl)
set_option maxHeartbeats 4000000 in
set_option maxRecDepth 100000 in
theorem c_X6_goBack (l : Launch) {E : pE} (hE : pInj E) {β : pSt} {k : Nat} (hk : k < 11) {α α' : pSt} {r : Unit} (hf : f_X6_goBack k α = some (r, α')) : pM l E yX6_goBack cX6_goBack 1 none 1 [.ref (pL E (22 + k))] α β none α' β := by
  refine pM.ofW hE (by decide) ?_ (Nat.le_of_ble_eq_true rfl)
  intro p e s m below meth c ls C hr hlk hP hl
  have C : pCx p s m c cX6_goBack 1 E RX6 := C
  have hS : va_S (pA E s.heap.size) s.heap s.heap [] := va_S.rf
  have hx := C.1
  have hb := C.2.1
  have hl : lv_has ls 1 [(0, .ref (pL E (22 + k)))] := hl
  unfold f_X6_goBack at hf
  refine lv_aload_n hx hb dX6_goBack_0 rfl (lv_at hl 0 rfl) ?_
  refine lv_aload_n hx hb dX6_goBack_1 rfl (lv_at hl 0 rfl) ?_
  refine g_6_40 C hP (k := k) hk dX6_goBack_2 ?_
  refine lv_aload_n hx hb dX6_goBack_5 rfl (lv_at hl 0 rfl) ?_
  refine g_6_21 C hP (k := k) hk dX6_goBack_6 ?_
  refine va_mmin (own := RX6) hx hb (C.2.2.1.trans hl.1.symm) C.2.2.2.1 (C.2.2.2.2.1.1 _ (List.mem_of_getElem? (i := 600) rfl) rfl _) (C.2.2.2.2.1.1 _ (List.mem_of_getElem? (i := 387) rfl) rfl _) (C.2.2.2.2.1.1 _ (List.mem_of_getElem? (i := 31) rfl) rfl _) (C.2.2.2.2.1.1 _ (List.mem_of_getElem? (i := 388) rfl) rfl _) (Nat.le_of_ble_eq_true rfl) (Nat.le_of_ble_eq_true rfl) (Nat.zero_le _) (Nat.zero_le _) dX6_goBack_9 ?_
  refine s_6_21 C hP hS (k := k) hk dX6_goBack_12 (fun H locs hP hS => ?_)
  obtain ⟨α1, eα1, hf⟩ := pl_ok hf
  rw [← eα1] at hP
  clear eα1
  exact p_vret C hr hlk (pe2C hf) hP hS dX6_goBack_15
set_option maxHeartbeats 4000000 in
set_option maxRecDepth 100000 in
theorem c_X7_isDue (l : Launch) {E : pE} (hE : pInj E) {β : pSt} {a0 : Int32} {α α' : pSt} {r : Int32} (hf : f_X7_isDue a0 α = some (r, α')) : pM l E yX7_isDue cX7_isDue 3 (some .boolean) 1 [.ref (pL E 2), .int a0] α β (some (.int r)) α' β := by
  refine pM.ofW hE (by decide) ?_ (Nat.le_of_ble_eq_true rfl)
  intro p e s m below meth c ls C hr hlk hP hl
  have C : pCx p s m c cX7_isDue 3 E RX7 := C
  have hS : va_S (pA E s.heap.size) s.heap s.heap [] := va_S.rf
  have hx := C.1
  have hb := C.2.1
  have hl : lv_has ls 3 [(0, .ref (pL E 2)), (1, .int a0)] := hl
  unfold f_X7_isDue at hf
  refine lv_aload_n hx hb dX7_isDue_0 rfl (lv_at hl 0 rfl) ?_
  refine g_7_121 C hP dX7_isDue_1 ?_
  refine lv_iconst (v := (-1)) hx hb dX7_isDue_4 (by decide) ?_
  refine lv_icmp_ne (tgt := 20) hx hb dX7_isDue_5 (by decide) (fun h1 => ?_) (fun h1 => ?_)
  · have hf := pif_f hf h1
    refine lv_iload_n hx hb dX7_isDue_20 rfl (lv_at hl 1 rfl) ?_
    refine lv_if_lt (tgt := 33) hx hb dX7_isDue_21 (by decide) (fun h2 => ?_) (fun h2 => ?_)
    · have hf := pif_t hf h2
      refine lv_iconst (v := 0) hx hb dX7_isDue_33 (by decide) ?_
      exact p_zret C hr hlk (Or.inl rfl) (pe1 hf) (pe2C hf) hP hS dX7_isDue_34
    · have hf := pif_f hf h2
      refine lv_iload_n hx hb dX7_isDue_24 rfl (lv_at hl 1 rfl) ?_
      refine lv_aload_n hx hb dX7_isDue_25 rfl (lv_at hl 0 rfl) ?_
      refine g_7_43 C hP dX7_isDue_26 ?_
      refine ln_claimants C hP dX7_isDue_29 ?_
      refine lv_icmp_lt (tgt := 35) hx hb dX7_isDue_30 (by decide) (fun h3 => ?_) (fun h3 => ?_)
      · have hf := pif_t hf h3
        refine lv_aload_n hx hb dX7_isDue_35 rfl (lv_at hl 0 rfl) ?_
        refine g_7_43 C hP dX7_isDue_36 ?_
        refine lv_iload_n hx hb dX7_isDue_39 rfl (lv_at hl 1 rfl) ?_
        obtain ⟨h4, hf⟩ := pg_ok hf
        refine la_claimants C hP h4 dX7_isDue_40 ?_
        refine lv_iconst (v := (-1)) hx hb dX7_isDue_41 (by decide) ?_
        refine lv_icmp_eq (tgt := 58) hx hb dX7_isDue_42 (by decide) (fun h5 => ?_) (fun h5 => ?_)
        · have hf := pif_t hf h5
          refine lv_iconst (v := 1) hx hb dX7_isDue_58 (by decide) ?_
          refine lv_goto (tgt := 63) hx hb dX7_isDue_59 (by decide) ?_
          refine lv_istore_n (lv' := [(2, .int 1), (0, .ref (pL E 2)), (1, .int a0)]) hx hb dX7_isDue_63 rfl hl (by decide) rfl (fun ls hl => ?_)
          refine lv_iload_n hx hb dX7_isDue_64 rfl (lv_at hl 0 rfl) ?_
          refine lv_if_eq (tgt := 91) hx hb dX7_isDue_65 (by decide) (fun h6 => absurd h6 (by decide)) (fun h6 => ?_)
          refine lv_aload_n hx hb dX7_isDue_68 rfl (lv_at hl 1 rfl) ?_
          refine g_7_21 C hP dX7_isDue_69 ?_
          refine lv_aload_n hx hb dX7_isDue_72 rfl (lv_at hl 1 rfl) ?_
          refine g_7_121 C hP dX7_isDue_73 ?_
          obtain ⟨r7, α8, hc9, hf⟩ := pb2_ok hf
          refine p_callV (n := 1) (As := [.int (α 20 0)]) (rest := []) C hP hS (wv_7_143 C.2.2.2.2.1 _) (c_X8_marksOf l C.2.2.2.2.2.2  hc9) (e_X8) rfl rfl hd_X8_marksOf rfl ⟨Nat.le_of_ble_eq_true rfl, Nat.le_of_ble_eq_true rfl⟩ hl.1 rfl (Nat.le_of_ble_eq_true rfl) dX7_isDue_76 ⟨Nat.zero_le _, Nat.zero_le _⟩ (fun H locs hP hS _ _ => ?_)
          refine W.eq (g2 := F0 m 79 ls [.int r7]) rfl ?_
          refine lv_iload_n hx hb dX7_isDue_79 rfl (lv_at hl 2 rfl) ?_
          refine lv_ishr hx hb dX7_isDue_80 ?_
          refine lv_iconst (v := 1) hx hb dX7_isDue_81 (by decide) ?_
          refine lv_iand hx hb dX7_isDue_82 ?_
          refine lv_iconst (v := 1) hx hb dX7_isDue_83 (by decide) ?_
          refine lv_icmp_ne (tgt := 91) hx hb dX7_isDue_84 (by decide) (fun h10 => ?_) (fun h10 => ?_)
          · have hf := pif_f hf h10
            refine lv_iconst (v := 0) hx hb dX7_isDue_91 (by decide) ?_
            exact p_zret C hr hlk (Or.inl rfl) (pe1 hf) (pe2C hf) hP hS dX7_isDue_92
          · have hf := pif_t hf h10
            refine lv_iconst (v := 1) hx hb dX7_isDue_87 (by decide) ?_
            refine lv_goto (tgt := 92) hx hb dX7_isDue_88 (by decide) ?_
            exact p_zret C hr hlk (Or.inr rfl) (pe1 hf) (pe2C hf) hP hS dX7_isDue_92
        · have hf := pif_f hf h5
          refine lv_aload_n hx hb dX7_isDue_45 rfl (lv_at hl 0 rfl) ?_
          refine g_7_43 C hP dX7_isDue_46 ?_
          refine lv_iload_n hx hb dX7_isDue_49 rfl (lv_at hl 1 rfl) ?_
          obtain ⟨h11, hf⟩ := pg_ok hf
          refine la_claimants C hP h11 dX7_isDue_50 ?_
          refine lv_aload_n hx hb dX7_isDue_51 rfl (lv_at hl 0 rfl) ?_
          refine g_7_118 C hP dX7_isDue_52 ?_
          refine lv_icmp_ne (tgt := 62) hx hb dX7_isDue_55 (by decide) (fun h12 => ?_) (fun h12 => ?_)
          · have hf := pif_f hf h12
            refine lv_iconst (v := 0) hx hb dX7_isDue_62 (by decide) ?_
            refine lv_istore_n (lv' := [(2, .int 0), (0, .ref (pL E 2)), (1, .int a0)]) hx hb dX7_isDue_63 rfl hl (by decide) rfl (fun ls hl => ?_)
            refine lv_iload_n hx hb dX7_isDue_64 rfl (lv_at hl 0 rfl) ?_
            refine lv_if_eq (tgt := 91) hx hb dX7_isDue_65 (by decide) (fun h13 => ?_) (fun h13 => absurd h13 (by decide))
            refine lv_iconst (v := 0) hx hb dX7_isDue_91 (by decide) ?_
            exact p_zret C hr hlk (Or.inl rfl) (pe1 hf) (pe2C hf) hP hS dX7_isDue_92
          · have hf := pif_t hf h12
            refine lv_iconst (v := 1) hx hb dX7_isDue_58 (by decide) ?_
            refine lv_goto (tgt := 63) hx hb dX7_isDue_59 (by decide) ?_
            refine lv_istore_n (lv' := [(2, .int 1), (0, .ref (pL E 2)), (1, .int a0)]) hx hb dX7_isDue_63 rfl hl (by decide) rfl (fun ls hl => ?_)
            refine lv_iload_n hx hb dX7_isDue_64 rfl (lv_at hl 0 rfl) ?_
            refine lv_if_eq (tgt := 91) hx hb dX7_isDue_65 (by decide) (fun h14 => absurd h14 (by decide)) (fun h14 => ?_)
            refine lv_aload_n hx hb dX7_isDue_68 rfl (lv_at hl 1 rfl) ?_
            refine g_7_21 C hP dX7_isDue_69 ?_
            refine lv_aload_n hx hb dX7_isDue_72 rfl (lv_at hl 1 rfl) ?_
            refine g_7_121 C hP dX7_isDue_73 ?_
            obtain ⟨r15, α16, hc17, hf⟩ := pb2_ok hf
            refine p_callV (n := 1) (As := [.int (α 20 0)]) (rest := []) C hP hS (wv_7_143 C.2.2.2.2.1 _) (c_X8_marksOf l C.2.2.2.2.2.2  hc17) (e_X8) rfl rfl hd_X8_marksOf rfl ⟨Nat.le_of_ble_eq_true rfl, Nat.le_of_ble_eq_true rfl⟩ hl.1 rfl (Nat.le_of_ble_eq_true rfl) dX7_isDue_76 ⟨Nat.zero_le _, Nat.zero_le _⟩ (fun H locs hP hS _ _ => ?_)
            refine W.eq (g2 := F0 m 79 ls [.int r15]) rfl ?_
            refine lv_iload_n hx hb dX7_isDue_79 rfl (lv_at hl 2 rfl) ?_
            refine lv_ishr hx hb dX7_isDue_80 ?_
            refine lv_iconst (v := 1) hx hb dX7_isDue_81 (by decide) ?_
            refine lv_iand hx hb dX7_isDue_82 ?_
            refine lv_iconst (v := 1) hx hb dX7_isDue_83 (by decide) ?_
            refine lv_icmp_ne (tgt := 91) hx hb dX7_isDue_84 (by decide) (fun h18 => ?_) (fun h18 => ?_)
            · have hf := pif_f hf h18
              refine lv_iconst (v := 0) hx hb dX7_isDue_91 (by decide) ?_
              exact p_zret C hr hlk (Or.inl rfl) (pe1 hf) (pe2C hf) hP hS dX7_isDue_92
            · have hf := pif_t hf h18
              refine lv_iconst (v := 1) hx hb dX7_isDue_87 (by decide) ?_
              refine lv_goto (tgt := 92) hx hb dX7_isDue_88 (by decide) ?_
              exact p_zret C hr hlk (Or.inr rfl) (pe1 hf) (pe2C hf) hP hS dX7_isDue_92
      · have hf := pif_f hf h3
        refine lv_iconst (v := 0) hx hb dX7_isDue_33 (by decide) ?_
        exact p_zret C hr hlk (Or.inl rfl) (pe1 hf) (pe2C hf) hP hS dX7_isDue_34
  · have hf := pif_t hf h1
    refine lv_iload_n hx hb dX7_isDue_8 rfl (lv_at hl 1 rfl) ?_
    refine lv_bipush (v := 15) hx hb dX7_isDue_9 (by decide) ?_
    refine lv_icmp_ne (tgt := 18) hx hb dX7_isDue_11 (by decide) (fun h19 => ?_) (fun h19 => ?_)
    · have hf := pif_f hf h19
      refine lv_iconst (v := 0) hx hb dX7_isDue_18 (by decide) ?_
      exact p_zret C hr hlk (Or.inl rfl) (pe1 hf) (pe2C hf) hP hS dX7_isDue_19
    · have hf := pif_t hf h19
      refine lv_iconst (v := 1) hx hb dX7_isDue_14 (by decide) ?_
      refine lv_goto (tgt := 19) hx hb dX7_isDue_15 (by decide) ?_
      exact p_zret C hr hlk (Or.inr rfl) (pe1 hf) (pe2C hf) hP hS dX7_isDue_19
set_option maxHeartbeats 4000000 in
set_option maxRecDepth 100000 in
theorem c_X7_make (l : Launch) {E : pE} (hE : pInj E) {β : pSt} {a0 : Int32} {a1 : Int32} {α α' : pSt} {r : Int32} (hf : f_X7_make a0 a1 α = some (r, α')) : pM l E yX7_make cX7_make 3 (some .int) 1 [.ref (pL E 2), .int a0, .int a1] α β (some (.int r)) α' β := by
  refine pM.ofW hE (by decide) ?_ (Nat.le_of_ble_eq_true rfl)
  intro p e s m below meth c ls C hr hlk hP hl
  have C : pCx p s m c cX7_make 3 E RX7 := C
  have hS : va_S (pA E s.heap.size) s.heap s.heap [] := va_S.rf
  have hx := C.1
  have hb := C.2.1
  have hl : lv_has ls 3 [(0, .ref (pL E 2)), (1, .int a0), (2, .int a1)] := hl
  unfold f_X7_make at hf
  refine lv_aload_n hx hb dX7_make_0 rfl (lv_at hl 0 rfl) ?_
  refine g_7_21 C hP dX7_make_1 ?_
  refine lv_iload_n hx hb dX7_make_4 rfl (lv_at hl 1 rfl) ?_
  obtain ⟨r1, α2, hc3, hf⟩ := pb2_ok hf
  refine p_callV (n := 1) (As := [.int a0]) (rest := []) C hP hS (wv_7_187 C.2.2.2.2.1 _) (c_X8_bears l C.2.2.2.2.2.2  hc3) (e_X8) rfl rfl hd_X8_bears rfl ⟨Nat.le_of_ble_eq_true rfl, Nat.le_of_ble_eq_true rfl⟩ hl.1 rfl (Nat.le_of_ble_eq_true rfl) dX7_make_5 ⟨Nat.zero_le _, Nat.zero_le _⟩ (fun H locs hP hS _ _ => ?_)
  refine W.eq (g2 := F0 m 8 ls [.int r1]) rfl ?_
  refine lv_if_eq (tgt := 13) hx hb dX7_make_8 (by decide) (fun h4 => ?_) (fun h4 => ?_)
  · have hf := pif_t hf h4
    refine lv_aload_n hx hb dX7_make_13 rfl (lv_at hl 0 rfl) ?_
    refine g_7_21 C hP dX7_make_14 ?_
    obtain ⟨r5, α6, hc7, hf⟩ := pb2_ok hf
    refine p_callV (n := 0) (As := []) (rest := []) C hP hS (wv_7_190 C.2.2.2.2.1 _) (c_X8_isFull l C.2.2.2.2.2.2  hc7) (e_X8) rfl rfl hd_X8_isFull rfl ⟨Nat.le_of_ble_eq_true rfl, Nat.le_of_ble_eq_true rfl⟩ hl.1 rfl (Nat.le_of_ble_eq_true rfl) dX7_make_17 ⟨Nat.zero_le _, Nat.zero_le _⟩ (fun H locs hP hS _ _ => ?_)
    refine W.eq (g2 := F0 m 20 ls [.int r5]) rfl ?_
    refine lv_if_eq (tgt := 25) hx hb dX7_make_20 (by decide) (fun h8 => ?_) (fun h8 => ?_)
    · have hf := pif_t hf h8
      refine lv_aload_n hx hb dX7_make_25 rfl (lv_at hl 0 rfl) ?_
      refine g_7_21 C hP dX7_make_26 ?_
      refine lv_iload_n hx hb dX7_make_29 rfl (lv_at hl 1 rfl) ?_
      refine lv_iload_n hx hb dX7_make_30 rfl (lv_at hl 2 rfl) ?_
      refine lv_aload_n hx hb dX7_make_31 rfl (lv_at hl 0 rfl) ?_
      refine g_7_118 C hP dX7_make_32 ?_
      refine lv_aload_n hx hb dX7_make_35 rfl (lv_at hl 0 rfl) ?_
      refine g_7_103 C hP dX7_make_36 ?_
      obtain ⟨r9, α10, hc11, hf⟩ := pb2_ok hf
      refine p_callV (n := 4) (As := [.int a0, .int a1, .int (α6 19 0), .int (α6 21 0)]) (rest := []) C hP hS (wv_7_194 C.2.2.2.2.1 _) (c_X8_enter l C.2.2.2.2.2.2  hc11) (e_X8) rfl rfl hd_X8_enter rfl ⟨Nat.le_of_ble_eq_true rfl, Nat.le_of_ble_eq_true rfl⟩ hl.1 rfl (Nat.le_of_ble_eq_true rfl) dX7_make_39 ⟨Nat.zero_le _, Nat.zero_le _⟩ (fun H locs hP hS _ _ => ?_)
      refine W.eq (g2 := F0 m 42 ls [.int r9]) rfl ?_
      refine lv_pop hx hb dX7_make_42 rfl ?_
      refine lv_aload_n hx hb dX7_make_43 rfl (lv_at hl 0 rfl) ?_
      refine g_7_121 C hP dX7_make_44 ?_
      refine lv_iconst (v := (-1)) hx hb dX7_make_47 (by decide) ?_
      refine lv_icmp_ne (tgt := 56) hx hb dX7_make_48 (by decide) (fun h12 => ?_) (fun h12 => ?_)
      · have hf := pif_f hf h12
        refine lv_iconst (v := (-1)) hx hb dX7_make_56 (by decide) ?_
        exact p_iret C hr hlk (pe1 hf) (pe2C hf) hP hS dX7_make_57
      · have hf := pif_t hf h12
        refine lv_bipush (v := 7) hx hb dX7_make_51 (by decide) ?_
        refine lv_goto (tgt := 57) hx hb dX7_make_53 (by decide) ?_
        exact p_iret C hr hlk (pe1 hf) (pe2C hf) hP hS dX7_make_57
    · have hf := pif_f hf h8
      refine lv_iconst (v := 4) hx hb dX7_make_23 (by decide) ?_
      exact p_iret C hr hlk (pe1 hf) (pe2C hf) hP hS dX7_make_24
  · have hf := pif_f hf h4
    refine lv_iconst (v := 3) hx hb dX7_make_11 (by decide) ?_
    exact p_iret C hr hlk (pe1 hf) (pe2C hf) hP hS dX7_make_12
set_option maxHeartbeats 4000000 in
set_option maxRecDepth 100000 in
theorem c_X7_write (l : Launch) {E : pE} (hE : pInj E) {β : pSt} {a0 : Int32} {a1 : Int32} {α α' : pSt} {r : Int32} (hf : f_X7_write a0 a1 α = some (r, α')) : pM l E yX7_write cX7_write 4 (some .int) 1 [.ref (pL E 2), .int a0, .int a1] α β (some (.int r)) α' β := by
  refine pM.ofW hE (by decide) ?_ (Nat.le_of_ble_eq_true rfl)
  intro p e s m below meth c ls C hr hlk hP hl
  have C : pCx p s m c cX7_write 4 E RX7 := C
  have hS : va_S (pA E s.heap.size) s.heap s.heap [] := va_S.rf
  have hx := C.1
  have hb := C.2.1
  have hl : lv_has ls 4 [(0, .ref (pL E 2)), (1, .int a0), (2, .int a1)] := hl
  unfold f_X7_write at hf
  refine lv_aload_n hx hb dX7_write_0 rfl (lv_at hl 0 rfl) ?_
  refine g_7_35 C hP dX7_write_1 ?_
  refine lv_iload_n hx hb dX7_write_4 rfl (lv_at hl 1 rfl) ?_
  obtain ⟨r1, α2, hc3, hf⟩ := pb2_ok hf
  refine p_callV (n := 1) (As := [.int a0]) (rest := []) C hP hS (wv_7_198 C.2.2.2.2.1 _) (c_X5_at l C.2.2.2.2.2.2  hc3) (e_X5) rfl rfl hd_X5_at rfl ⟨Nat.le_of_ble_eq_true rfl, Nat.le_of_ble_eq_true rfl⟩ hl.1 rfl (Nat.le_of_ble_eq_true rfl) dX7_write_5 ⟨Nat.zero_le _, Nat.zero_le _⟩ (fun H locs hP hS _ _ => ?_)
  rcases r1 with _ | i4
  · have hf := pO_n hf
    refine W.eq (g2 := F0 m 8 ls [.null]) rfl ?_
    refine lv_astore_nN (lv' := [(3, .null), (0, .ref (pL E 2)), (1, .int a0), (2, .int a1)]) hx hb dX7_write_8 rfl hl (by decide) rfl (fun ls hl => ?_)
    refine lv_aload_nN hx hb dX7_write_9 rfl (lv_at hl 0 rfl) ?_
    refine lv_ifnullN (tgt := 25) hx hb dX7_write_10 (by decide) ?_
    refine lv_iconst (v := 4) hx hb dX7_write_25 (by decide) ?_
    exact p_iret C hr hlk (pe1 hf) (pe2C hf) hP hS dX7_write_26
  · have hf := pO_s hf
    obtain ⟨h5, hf⟩ := pg_ok hf
    refine W.eq (g2 := F0 m 8 ls [.ref (pL E (22 + i4))]) rfl ?_
    refine lv_astore_n (lv' := [(3, .ref (pL E (22 + i4))), (0, .ref (pL E 2)), (1, .int a0), (2, .int a1)]) hx hb dX7_write_8 rfl hl (by decide) rfl (fun ls hl => ?_)
    refine lv_aload_n hx hb dX7_write_9 rfl (lv_at hl 0 rfl) ?_
    refine lv_ifnull hx hb dX7_write_10 ?_
    refine lv_aload_n hx hb dX7_write_13 rfl (lv_at hl 0 rfl) ?_
    refine lv_iload_n hx hb dX7_write_14 rfl (lv_at hl 3 rfl) ?_
    obtain ⟨r6, α7, hc8, hf⟩ := pb2_ok hf
    refine p_callV (n := 1) (As := [.int a1]) (rest := []) C hP hS (wv_7_201 C.2.2.2.2.1 _) (c_X6_append l C.2.2.2.2.2.2 (k := i4) (of_decide_eq_true h5) hc8) (e_X6 (k := i4) (of_decide_eq_true h5)) rfl rfl hd_X6_append rfl ⟨Nat.le_of_ble_eq_true rfl, Nat.le_of_ble_eq_true rfl⟩ hl.1 rfl (Nat.le_of_ble_eq_true rfl) dX7_write_15 ⟨Nat.zero_le _, Nat.zero_le _⟩ (fun H locs hP hS _ _ => ?_)
    refine W.eq (g2 := F0 m 18 ls [.int r6]) rfl ?_
    refine lv_if_eq (tgt := 25) hx hb dX7_write_18 (by decide) (fun h9 => ?_) (fun h9 => ?_)
    · have hf := pif_t hf h9
      refine lv_iconst (v := 4) hx hb dX7_write_25 (by decide) ?_
      exact p_iret C hr hlk (pe1 hf) (pe2C hf) hP hS dX7_write_26
    · have hf := pif_f hf h9
      refine lv_iconst (v := (-1)) hx hb dX7_write_21 (by decide) ?_
      refine lv_goto (tgt := 26) hx hb dX7_write_22 (by decide) ?_
      exact p_iret C hr hlk (pe1 hf) (pe2C hf) hP hS dX7_write_26
set_option maxHeartbeats 4000000 in
set_option maxRecDepth 100000 in
theorem c_X8_countNew (l : Launch) {E : pE} (hE : pInj E) {β : pSt}  {α α' : pSt} {r : Int32} (hf : f_X8_countNew  α = some (r, α')) : pM l E yX8_countNew cX8_countNew 3 (some .int) 1 [.ref (pL E 5)] α β (some (.int r)) α' β := by
  refine pM.ofW hE (by decide) ?_ (Nat.le_of_ble_eq_true rfl)
  intro p e s m below meth c ls C hr hlk hP hl
  have C : pCx p s m c cX8_countNew 3 E RX8 := C
  have hS : va_S (pA E s.heap.size) s.heap s.heap [] := va_S.rf
  have hx := C.1
  have hb := C.2.1
  have hl : lv_has ls 3 [(0, .ref (pL E 5))] := hl
  unfold f_X8_countNew at hf
  refine lv_iconst (v := 0) hx hb dX8_countNew_0 (by decide) ?_
  refine lv_istore_n (lv' := [(1, .int 0), (0, .ref (pL E 5))]) hx hb dX8_countNew_1 rfl hl (by decide) rfl (fun ls hl => ?_)
  refine lv_iconst (v := 0) hx hb dX8_countNew_2 (by decide) ?_
  refine lv_istore_n (lv' := [(2, .int 0), (1, .int 0), (0, .ref (pL E 5))]) hx hb dX8_countNew_3 rfl hl (by decide) rfl (fun ls hl => ?_)
  have lp4 : ∀ (n : Nat) (x2 : Int32) (x1 : Int32) (α : pSt) (H : Heap) (locs : List Loc) (ls : Array Slot), f_X8_countNew_L4 n x2 x1 α = some (r, α') → va_P (pD E) vwCl (pw E α β) H → va_S (pA E s.heap.size) s.heap H locs → lv_has ls 3 [(2, .int x2), (1, .int x1), (0, .ref (pL E 5))] → W p l e (pR 1) s m [.ref (pL E 5)].toArray below meth c H locs 0 0 (pQ below E s [.ref (pL E 5)].toArray (some (.int r)) α' β) (F0 m 4 ls []) := by
    intro n
    induction n with
    | zero =>
      intro x2 x1 α H locs ls hf
      rw [f_X8_countNew_L4] at hf
      cases hf
    | succ n4 ih4 =>
      intro x2 x1 α H locs ls hf hP hS hl
      rw [f_X8_countNew_L4] at hf
      refine lv_iload_n hx hb dX8_countNew_4 rfl (lv_at hl 0 rfl) ?_
      refine lv_aload_n hx hb dX8_countNew_5 rfl (lv_at hl 2 rfl) ?_
      refine g_8_28 C hP dX8_countNew_6 ?_
      refine lv_icmp_ge (tgt := 30) hx hb dX8_countNew_9 (by decide) (fun h1 => ?_) (fun h1 => ?_)
      · have hf := pif_t hf h1
        refine lv_iload_n hx hb dX8_countNew_30 rfl (lv_at hl 1 rfl) ?_
        exact p_iret C hr hlk (pe1 hf) (pe2C hf) hP hS dX8_countNew_31
      · have hf := pif_f hf h1
        refine lv_iload_n hx hb dX8_countNew_12 rfl (lv_at hl 1 rfl) ?_
        refine lv_aload_n hx hb dX8_countNew_13 rfl (lv_at hl 2 rfl) ?_
        refine g_8_18 C hP dX8_countNew_14 ?_
        refine lv_iload_n hx hb dX8_countNew_17 rfl (lv_at hl 0 rfl) ?_
        obtain ⟨h2, hf⟩ := pg_ok hf
        refine la_fresh C hP h2 dX8_countNew_18 ?_
        obtain ⟨r3, α4, hc5, hf⟩ := pb2_ok hf
        refine p_callN (n := 1) (As := [.int (α 27 (x2.toNatClampNeg))]) (rest := [.int x1]) C hP hS (wv_8_32 C.2.2.2.2.1 _) (c_X9_oneIf l C.2.2.2.2.2.2  hc5) hd_X9_oneIf rfl ⟨Nat.le_of_ble_eq_true rfl, Nat.le_of_ble_eq_true rfl⟩ hl.1 rfl (Nat.le_of_ble_eq_true rfl) dX8_countNew_19 ⟨Nat.zero_le _, Nat.zero_le _⟩ (fun H locs hP hS _ _ => ?_)
        refine W.eq (g2 := F0 m 22 ls [.int r3, .int x1]) rfl ?_
        refine lv_iadd hx hb dX8_countNew_22 ?_
        refine lv_istore_n (lv' := [(1, .int (x1 + r3)), (2, .int x2), (0, .ref (pL E 5))]) hx hb dX8_countNew_23 rfl hl (by decide) rfl (fun ls hl => ?_)
        refine lv_iinc (v := (x2 + 1)) (lv' := [(2, .int (x2 + 1)), (1, .int (x1 + r3)), (0, .ref (pL E 5))]) hx hb dX8_countNew_24 hl (k := 1) rfl rfl (by decide) rfl (fun ls hl => ?_)
        refine lv_goto (tgt := 4) hx hb dX8_countNew_27 (by decide) ?_
        exact ih4 _ _ α4 _ _ _ hf hP hS (lv_sub hl [0, 1, 2] rfl)
  exact lp4 _ _ _ _ _ _ _ hf hP hS (lv_sub hl [0, 1, 2] rfl)
set_option maxHeartbeats 4000000 in
set_option maxRecDepth 100000 in
theorem c_X8_cutTo (l : Launch) {E : pE} (hE : pInj E) {β : pSt} {a0 : Int32} {α α' : pSt} {r : Unit} (hf : f_X8_cutTo a0 α = some (r, α')) : pM l E yX8_cutTo cX8_cutTo 2 none 1 [.ref (pL E 5), .int a0] α β none α' β := by
  refine pM.ofW hE (by decide) ?_ (Nat.le_of_ble_eq_true rfl)
  intro p e s m below meth c ls C hr hlk hP hl
  have C : pCx p s m c cX8_cutTo 2 E RX8 := C
  have hS : va_S (pA E s.heap.size) s.heap s.heap [] := va_S.rf
  have hx := C.1
  have hb := C.2.1
  have hl : lv_has ls 2 [(0, .ref (pL E 5)), (1, .int a0)] := hl
  unfold f_X8_cutTo at hf
  refine lv_aload_n hx hb dX8_cutTo_0 rfl (lv_at hl 0 rfl) ?_
  refine lv_iconst (v := 0) hx hb dX8_cutTo_1 (by decide) ?_
  refine lv_iload_n hx hb dX8_cutTo_2 rfl (lv_at hl 1 rfl) ?_
  refine lv_aload_n hx hb dX8_cutTo_3 rfl (lv_at hl 0 rfl) ?_
  refine g_8_28 C hP dX8_cutTo_4 ?_
  refine va_mmin (own := RX8) hx hb (C.2.2.1.trans hl.1.symm) C.2.2.2.1 (C.2.2.2.2.1.1 _ (List.mem_of_getElem? (i := 582) rfl) rfl _) (C.2.2.2.2.1.1 _ (List.mem_of_getElem? (i := 387) rfl) rfl _) (C.2.2.2.2.1.1 _ (List.mem_of_getElem? (i := 31) rfl) rfl _) (C.2.2.2.2.1.1 _ (List.mem_of_getElem? (i := 388) rfl) rfl _) (Nat.le_of_ble_eq_true rfl) (Nat.le_of_ble_eq_true rfl) (Nat.zero_le _) (Nat.zero_le _) dX8_cutTo_7 ?_
  refine va_mmax (own := RX8) hx hb (C.2.2.1.trans hl.1.symm) C.2.2.2.1 (C.2.2.2.2.1.1 _ (List.mem_of_getElem? (i := 583) rfl) rfl _) (C.2.2.2.2.1.1 _ (List.mem_of_getElem? (i := 63) rfl) rfl _) (C.2.2.2.2.1.1 _ (List.mem_of_getElem? (i := 31) rfl) rfl _) (C.2.2.2.2.1.1 _ (List.mem_of_getElem? (i := 64) rfl) rfl _) (Nat.le_of_ble_eq_true rfl) (Nat.le_of_ble_eq_true rfl) (Nat.zero_le _) (Nat.zero_le _) dX8_cutTo_10 ?_
  refine s_8_28 C hP hS dX8_cutTo_13 (fun H locs hP hS => ?_)
  obtain ⟨α1, eα1, hf⟩ := pl_ok hf
  rw [← eα1] at hP
  clear eα1
  exact p_vret C hr hlk (pe2C hf) hP hS dX8_cutTo_16
set_option maxHeartbeats 4000000 in
set_option maxRecDepth 100000 in
theorem c_X8_aspect (l : Launch) {E : pE} (hE : pInj E) {β : pSt} {a0 : Int32} {a1 : Int32} {α α' : pSt} {r : Int32} (hf : f_X8_aspect a0 a1 α = some (r, α')) : pM l E yX8_aspect cX8_aspect 3 (some .int) 1 [.ref (pL E 5), .int a0, .int a1] α β (some (.int r)) α' β := by
  refine pM.ofW hE (by decide) ?_ (Nat.le_of_ble_eq_true rfl)
  intro p e s m below meth c ls C hr hlk hP hl
  have C : pCx p s m c cX8_aspect 3 E RX8 := C
  have hS : va_S (pA E s.heap.size) s.heap s.heap [] := va_S.rf
  have hx := C.1
  have hb := C.2.1
  have hl : lv_has ls 3 [(0, .ref (pL E 5)), (1, .int a0), (2, .int a1)] := hl
  unfold f_X8_aspect at hf
  refine lv_iload_n hx hb dX8_aspect_0 rfl (lv_at hl 1 rfl) ?_
  refine lv_if_lt (tgt := 12) hx hb dX8_aspect_1 (by decide) (fun h1 => ?_) (fun h1 => ?_)
  · have hf := pif_t hf h1
    refine lv_bipush (v := (-101)) hx hb dX8_aspect_12 (by decide) ?_
    exact p_iret C hr hlk (pe1 hf) (pe2C hf) hP hS dX8_aspect_14
  · have hf := pif_f hf h1
    refine lv_iload_n hx hb dX8_aspect_4 rfl (lv_at hl 1 rfl) ?_
    refine lv_aload_n hx hb dX8_aspect_5 rfl (lv_at hl 0 rfl) ?_
    refine g_8_28 C hP dX8_aspect_6 ?_
    refine lv_icmp_lt (tgt := 15) hx hb dX8_aspect_9 (by decide) (fun h2 => ?_) (fun h2 => ?_)
    · have hf := pif_t hf h2
      refine lv_iload_n hx hb dX8_aspect_15 rfl (lv_at hl 2 rfl) ?_
      by_cases h3 : a1 = 0
      · have hf := pif_t hf h3
        refine lv_tableIn (tgt := 48) (off := 32) hx hb dX8_aspect_16 (by rw [h3]; decide) (by rw [h3]; decide) (by rw [h3]; decide) (by decide) ?_
        refine lv_aload_n hx hb dX8_aspect_48 rfl (lv_at hl 0 rfl) ?_
        refine g_8_9 C hP dX8_aspect_49 ?_
        refine lv_iload_n hx hb dX8_aspect_52 rfl (lv_at hl 1 rfl) ?_
        obtain ⟨h4, hf⟩ := pg_ok hf
        refine la_names C hP h4 dX8_aspect_53 ?_
        exact p_iret C hr hlk (pe1 hf) (pe2C hf) hP hS dX8_aspect_54
      · have hf := pif_f hf h3
        by_cases h5 : a1 = 1
        · have hf := pif_t hf h5
          refine lv_tableIn (tgt := 55) (off := 39) hx hb dX8_aspect_16 (by rw [h5]; decide) (by rw [h5]; decide) (by rw [h5]; decide) (by decide) ?_
          refine lv_aload_n hx hb dX8_aspect_55 rfl (lv_at hl 0 rfl) ?_
          refine g_8_15 C hP dX8_aspect_56 ?_
          refine lv_iload_n hx hb dX8_aspect_59 rfl (lv_at hl 1 rfl) ?_
          obtain ⟨h6, hf⟩ := pg_ok hf
          refine la_markSets C hP h6 dX8_aspect_60 ?_
          exact p_iret C hr hlk (pe1 hf) (pe2C hf) hP hS dX8_aspect_61
        · have hf := pif_f hf h5
          by_cases h7 : a1 = 2
          · have hf := pif_t hf h7
            refine lv_tableIn (tgt := 62) (off := 46) hx hb dX8_aspect_16 (by rw [h7]; decide) (by rw [h7]; decide) (by rw [h7]; decide) (by decide) ?_
            refine lv_aload_n hx hb dX8_aspect_62 rfl (lv_at hl 0 rfl) ?_
            refine g_8_18 C hP dX8_aspect_63 ?_
            refine lv_iload_n hx hb dX8_aspect_66 rfl (lv_at hl 1 rfl) ?_
            obtain ⟨h8, hf⟩ := pg_ok hf
            refine la_fresh C hP h8 dX8_aspect_67 ?_
            obtain ⟨r9, α10, hc11, hf⟩ := pb2_ok hf
            refine p_callN (n := 1) (As := [.int (α 27 (a0.toNatClampNeg))]) (rest := []) C hP hS (wv_8_32 C.2.2.2.2.1 _) (c_X9_oneIf l C.2.2.2.2.2.2  hc11) hd_X9_oneIf rfl ⟨Nat.le_of_ble_eq_true rfl, Nat.le_of_ble_eq_true rfl⟩ hl.1 rfl (Nat.le_of_ble_eq_true rfl) dX8_aspect_68 ⟨Nat.zero_le _, Nat.zero_le _⟩ (fun H locs hP hS _ _ => ?_)
            refine W.eq (g2 := F0 m 71 ls [.int r9]) rfl ?_
            exact p_iret C hr hlk (pe1 hf) (pe2C hf) hP hS dX8_aspect_71
          · have hf := pif_f hf h7
            by_cases h12 : a1 = 3
            · have hf := pif_t hf h12
              refine lv_tableIn (tgt := 72) (off := 56) hx hb dX8_aspect_16 (by rw [h12]; decide) (by rw [h12]; decide) (by rw [h12]; decide) (by decide) ?_
              refine lv_aload_n hx hb dX8_aspect_72 rfl (lv_at hl 0 rfl) ?_
              refine g_8_22 C hP dX8_aspect_73 ?_
              refine lv_iload_n hx hb dX8_aspect_76 rfl (lv_at hl 1 rfl) ?_
              obtain ⟨h13, hf⟩ := pg_ok hf
              refine la_makers C hP h13 dX8_aspect_77 ?_
              exact p_iret C hr hlk (pe1 hf) (pe2C hf) hP hS dX8_aspect_78
            · have hf := pif_f hf h12
              refine lv_tableOut (tgt := 79) hx hb dX8_aspect_16 (by have z0 := lv_neT (a := 0) h3 rfl; have z1 := lv_neT (a := 1) h5 rfl; have z2 := lv_neT (a := 2) h7 rfl; have z3 := lv_neT (a := 3) h12 rfl; omega) (by decide) ?_
              refine lv_aload_n hx hb dX8_aspect_79 rfl (lv_at hl 0 rfl) ?_
              refine g_8_25 C hP dX8_aspect_80 ?_
              refine lv_iload_n hx hb dX8_aspect_83 rfl (lv_at hl 1 rfl) ?_
              obtain ⟨h14, hf⟩ := pg_ok hf
              refine la_madeIn C hP h14 dX8_aspect_84 ?_
              exact p_iret C hr hlk (pe1 hf) (pe2C hf) hP hS dX8_aspect_85
    · have hf := pif_f hf h2
      refine lv_bipush (v := (-101)) hx hb dX8_aspect_12 (by decide) ?_
      exact p_iret C hr hlk (pe1 hf) (pe2C hf) hP hS dX8_aspect_14
