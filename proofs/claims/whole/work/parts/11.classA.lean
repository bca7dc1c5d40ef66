set_option maxHeartbeats 4000000 in
set_option maxRecDepth 100000 in
theorem c_X9_option (l : Launch) {E : pE} (hE : pInj E) {β : pSt} {a0 : Int32} {a1 : Int32} {α α' : pSt} {r : Int32} (hf : f_X9_option a0 a1 α = some (r, α')) : pM l E yX9_option cX9_option 4 (some .int) 0 [.ref (pL E 0), .int a0, .int a1] α β (some (.int r)) α' β := by
  refine pM.ofW hE (by decide) ?_ (Nat.le_of_ble_eq_true rfl)
  intro p e s m below meth c ls C hr hlk hP hl
  have C : pCx p s m c cX9_option 4 E RX9 := C
  have hS : va_S (pA E s.heap.size) s.heap s.heap [] := va_S.rf
  have hx := C.1
  have hb := C.2.1
  have hl : lv_has ls 4 [(0, .ref (pL E 0)), (1, .int a0), (2, .int a1)] := hl
  unfold f_X9_option at hf
  refine lv_iload_n hx hb dX9_option_0 rfl (lv_at hl 1 rfl) ?_
  refine lv_if_lt (tgt := 13) hx hb dX9_option_1 (by decide) (fun h1 => ?_) (fun h1 => ?_)
  · have hf := pif_t hf h1
    refine lv_bipush (v := (-102)) hx hb dX9_option_13 (by decide) ?_
    exact p_iret C hr hlk (pe1 hf) (pe2C hf) hP hS dX9_option_15
  · have hf := pif_f hf h1
    refine lv_iload_n hx hb dX9_option_4 rfl (lv_at hl 1 rfl) ?_
    refine lv_aload_n hx hb dX9_option_5 rfl (lv_at hl 0 rfl) ?_
    refine g_9_36 C hP dX9_option_6 ?_
    refine ln_options C hP dX9_option_9 ?_
    refine lv_icmp_lt (tgt := 16) hx hb dX9_option_10 (by decide) (fun h2 => ?_) (fun h2 => ?_)
    · have hf := pif_t hf h2
      refine lv_aload_n hx hb dX9_option_16 rfl (lv_at hl 0 rfl) ?_
      refine g_9_36 C hP dX9_option_17 ?_
      refine lv_iload_n hx hb dX9_option_20 rfl (lv_at hl 1 rfl) ?_
      obtain ⟨h3, hf⟩ := pg_ok hf
      refine la_options C hP h3 dX9_option_21 ?_
      refine lv_istore_n (lv' := [(3, .int (α 23 (a0.toNatClampNeg))), (0, .ref (pL E 0)), (1, .int a0), (2, .int a1)]) hx hb dX9_option_22 rfl hl (by decide) rfl (fun ls hl => ?_)
      refine lv_aload_n hx hb dX9_option_23 rfl (lv_at hl 1 rfl) ?_
      refine g_9_36 C hP dX9_option_24 ?_
      refine lv_iload_n hx hb dX9_option_27 rfl (lv_at hl 2 rfl) ?_
      refine lv_iload_n hx hb dX9_option_28 rfl (lv_at hl 3 rfl) ?_
      obtain ⟨h4, hf⟩ := pg_ok hf
      refine sa_options C hP hS h4 dX9_option_29 (fun H locs hP hS => ?_)
      obtain ⟨α5, eα5, hf⟩ := pl_ok hf
      rw [← eα5] at hP
      clear eα5
      refine lv_iload_n hx hb dX9_option_30 rfl (lv_at hl 0 rfl) ?_
      exact p_iret C hr hlk (pe1 hf) (pe2C hf) hP hS dX9_option_31
    · have hf := pif_f hf h2
      refine lv_bipush (v := (-102)) hx hb dX9_option_13 (by decide) ?_
      exact p_iret C hr hlk (pe1 hf) (pe2C hf) hP hS dX9_option_15
set_option maxHeartbeats 4000000 in
set_option maxRecDepth 100000 in
theorem c_X9_fileAt (l : Launch) {E : pE} (hE : pInj E) {β : pSt} {a0 : Int32} {α α' : pSt} {r : Option Nat} (hf : f_X9_fileAt a0 α = some (r, α')) : pM l E yX9_fileAt cX9_fileAt 2 (some (.object "PlugRounds$PlugFile")) 0 [.ref (pL E 0), .int a0] α β (some (va_rf (r.map (fun i => pL E (10 + i))))) α' β := by
  refine pM.ofW hE (by decide) ?_ (Nat.le_of_ble_eq_true rfl)
  intro p e s m below meth c ls C hr hlk hP hl
  have C : pCx p s m c cX9_fileAt 2 E RX9 := C
  have hS : va_S (pA E s.heap.size) s.heap s.heap [] := va_S.rf
  have hx := C.1
  have hb := C.2.1
  have hl : lv_has ls 2 [(0, .ref (pL E 0)), (1, .int a0)] := hl
  unfold f_X9_fileAt at hf
  refine lv_iload_n hx hb dX9_fileAt_0 rfl (lv_at hl 1 rfl) ?_
  refine lv_if_lt (tgt := 22) hx hb dX9_fileAt_1 (by decide) (fun h1 => ?_) (fun h1 => ?_)
  · have hf := pif_t hf h1
    refine lv_null hx hb dX9_fileAt_22 ?_
    exact p_aret C hr hlk (by rw [← pe1 hf]; rfl) (pe2C hf) hP hS dX9_fileAt_23
  · have hf := pif_f hf h1
    refine lv_iload_n hx hb dX9_fileAt_4 rfl (lv_at hl 1 rfl) ?_
    refine lv_aload_n hx hb dX9_fileAt_5 rfl (lv_at hl 0 rfl) ?_
    refine g_9_20 C hP dX9_fileAt_6 ?_
    refine ln_files C hP dX9_fileAt_9 ?_
    refine lv_icmp_ge (tgt := 22) hx hb dX9_fileAt_10 (by decide) (fun h2 => ?_) (fun h2 => ?_)
    · have hf := pif_t hf h2
      refine lv_null hx hb dX9_fileAt_22 ?_
      exact p_aret C hr hlk (by rw [← pe1 hf]; rfl) (pe2C hf) hP hS dX9_fileAt_23
    · have hf := pif_f hf h2
      refine lv_aload_n hx hb dX9_fileAt_13 rfl (lv_at hl 0 rfl) ?_
      refine g_9_20 C hP dX9_fileAt_14 ?_
      refine lv_iload_n hx hb dX9_fileAt_17 rfl (lv_at hl 1 rfl) ?_
      obtain ⟨h3, hf⟩ := pg_ok hf
      refine la_files C hP h3 dX9_fileAt_18 ?_
      refine lv_goto (tgt := 23) hx hb dX9_fileAt_19 (by decide) ?_
      exact p_aret C hr hlk (by rw [← pe1 hf]; rfl) (pe2C hf) hP hS dX9_fileAt_23
set_option maxHeartbeats 4000000 in
set_option maxRecDepth 100000 in
theorem c_X9_areMarks (l : Launch) {E : pE} (hE : pInj E) {β : pSt} {a0 : Int32} {α α' : pSt} {r : Int32} (hf : f_X9_areMarks a0 α = some (r, α')) : pM l E yX9_areMarks cX9_areMarks 1 (some .boolean) 0 [.int a0] α β (some (.int r)) α' β := by
  refine pM.ofW hE (by decide) ?_ (Nat.le_of_ble_eq_true rfl)
  intro p e s m below meth c ls C hr hlk hP hl
  have C : pCx p s m c cX9_areMarks 1 E RX9 := C
  have hS : va_S (pA E s.heap.size) s.heap s.heap [] := va_S.rf
  have hx := C.1
  have hb := C.2.1
  have hl : lv_has ls 1 [(0, .int a0)] := hl
  unfold f_X9_areMarks at hf
  refine lv_iload_n hx hb dX9_areMarks_0 rfl (lv_at hl 0 rfl) ?_
  refine lv_if_lt (tgt := 15) hx hb dX9_areMarks_1 (by decide) (fun h1 => ?_) (fun h1 => ?_)
  · have hf := pif_t hf h1
    refine lv_iconst (v := 0) hx hb dX9_areMarks_15 (by decide) ?_
    exact p_zret C hr hlk (Or.inl rfl) (pe1 hf) (pe2C hf) hP hS dX9_areMarks_16
  · have hf := pif_f hf h1
    refine lv_iload_n hx hb dX9_areMarks_4 rfl (lv_at hl 0 rfl) ?_
    refine lv_sipush (v := 256) hx hb dX9_areMarks_5 (by decide) ?_
    refine lv_icmp_ge (tgt := 15) hx hb dX9_areMarks_8 (by decide) (fun h2 => ?_) (fun h2 => ?_)
    · have hf := pif_t hf h2
      refine lv_iconst (v := 0) hx hb dX9_areMarks_15 (by decide) ?_
      exact p_zret C hr hlk (Or.inl rfl) (pe1 hf) (pe2C hf) hP hS dX9_areMarks_16
    · have hf := pif_f hf h2
      refine lv_iconst (v := 1) hx hb dX9_areMarks_11 (by decide) ?_
      refine lv_goto (tgt := 16) hx hb dX9_areMarks_12 (by decide) ?_
      exact p_zret C hr hlk (Or.inr rfl) (pe1 hf) (pe2C hf) hP hS dX9_areMarks_16
set_option maxHeartbeats 4000000 in
set_option maxRecDepth 100000 in
theorem c_X9_oneIf (l : Launch) {E : pE} (hE : pInj E) {β : pSt} {a0 : Int32} {α α' : pSt} {r : Int32} (hf : f_X9_oneIf a0 α = some (r, α')) : pM l E yX9_oneIf cX9_oneIf 1 (some .int) 0 [.int a0] α β (some (.int r)) α' β := by
  refine pM.ofW hE (by decide) ?_ (Nat.le_of_ble_eq_true rfl)
  intro p e s m below meth c ls C hr hlk hP hl
  have C : pCx p s m c cX9_oneIf 1 E RX9 := C
  have hS : va_S (pA E s.heap.size) s.heap s.heap [] := va_S.rf
  have hx := C.1
  have hb := C.2.1
  have hl : lv_has ls 1 [(0, .int a0)] := hl
  unfold f_X9_oneIf at hf
  refine lv_iload_n hx hb dX9_oneIf_0 rfl (lv_at hl 0 rfl) ?_
  refine lv_if_eq (tgt := 8) hx hb dX9_oneIf_1 (by decide) (fun h1 => ?_) (fun h1 => ?_)
  · have hf := pif_t hf h1
    refine lv_iconst (v := 0) hx hb dX9_oneIf_8 (by decide) ?_
    exact p_iret C hr hlk (pe1 hf) (pe2C hf) hP hS dX9_oneIf_9
  · have hf := pif_f hf h1
    refine lv_iconst (v := 1) hx hb dX9_oneIf_4 (by decide) ?_
    refine lv_goto (tgt := 9) hx hb dX9_oneIf_5 (by decide) ?_
    exact p_iret C hr hlk (pe1 hf) (pe2C hf) hP hS dX9_oneIf_9
set_option maxHeartbeats 4000000 in
set_option maxRecDepth 100000 in
theorem c_X0_isSoundRule (l : Launch) {E : pE} (hE : pInj E) {β : pSt} {a0 : Int32} {a1 : Int32} {a2 : Int32} {a3 : Int32} {α α' : pSt} {r : Int32} (hf : f_X0_isSoundRule a0 a1 a2 a3 α = some (r, α')) : pM l E yX0_isSoundRule cX0_isSoundRule 4 (some .boolean) 0 [.int a0, .int a1, .int a2, .int a3] α β (some (.int r)) α' β := by
  refine pM.ofW hE (by decide) ?_ (Nat.le_of_ble_eq_true rfl)
  intro p e s m below meth c ls C hr hlk hP hl
  have C : pCx p s m c cX0_isSoundRule 4 E RX0 := C
  have hS : va_S (pA E s.heap.size) s.heap s.heap [] := va_S.rf
  have hx := C.1
  have hb := C.2.1
  have hl : lv_has ls 4 [(0, .int a0), (1, .int a1), (2, .int a2), (3, .int a3)] := hl
  unfold f_X0_isSoundRule at hf
  refine lv_iload_n hx hb dX0_isSoundRule_0 rfl (lv_at hl 0 rfl) ?_
  refine lv_bipush (v := 8) hx hb dX0_isSoundRule_1 (by decide) ?_
  refine lv_icmp_lt (tgt := 14) hx hb dX0_isSoundRule_3 (by decide) (fun h1 => ?_) (fun h1 => ?_)
  · have hf := pif_t hf h1
    refine lv_iload_n hx hb dX0_isSoundRule_14 rfl (lv_at hl 1 rfl) ?_
    by_cases h2 : a1 = 1
    · have hf := pif_t hf h2
      refine lv_tableIn (tgt := 64) (off := 49) hx hb dX0_isSoundRule_15 (by rw [h2]; decide) (by rw [h2]; decide) (by rw [h2]; decide) (by decide) ?_
      refine lv_iload_n hx hb dX0_isSoundRule_64 rfl (lv_at hl 2 rfl) ?_
      refine lv_bipush (v := 64) hx hb dX0_isSoundRule_65 (by decide) ?_
      refine lv_icmp_ge (tgt := 74) hx hb dX0_isSoundRule_67 (by decide) (fun h3 => ?_) (fun h3 => ?_)
      · have hf := pif_t hf h3
        refine lv_iconst (v := 0) hx hb dX0_isSoundRule_74 (by decide) ?_
        exact p_zret C hr hlk (Or.inl rfl) (pe1 hf) (pe2C hf) hP hS dX0_isSoundRule_75
      · have hf := pif_f hf h3
        refine lv_iconst (v := 1) hx hb dX0_isSoundRule_70 (by decide) ?_
        refine lv_goto (tgt := 75) hx hb dX0_isSoundRule_71 (by decide) ?_
        exact p_zret C hr hlk (Or.inr rfl) (pe1 hf) (pe2C hf) hP hS dX0_isSoundRule_75
    · have hf := pif_f hf h2
      by_cases h4 : a1 = 2
      · have hf := pif_t hf h4
        refine lv_tableIn (tgt := 98) (off := 83) hx hb dX0_isSoundRule_15 (by rw [h4]; decide) (by rw [h4]; decide) (by rw [h4]; decide) (by decide) ?_
        refine lv_iload_n hx hb dX0_isSoundRule_98 rfl (lv_at hl 3 rfl) ?_
        refine lv_iconst (v := 3) hx hb dX0_isSoundRule_99 (by decide) ?_
        refine lv_icmp_ge (tgt := 107) hx hb dX0_isSoundRule_100 (by decide) (fun h5 => ?_) (fun h5 => ?_)
        · have hf := pif_t hf h5
          refine lv_iconst (v := 0) hx hb dX0_isSoundRule_107 (by decide) ?_
          exact p_zret C hr hlk (Or.inl rfl) (pe1 hf) (pe2C hf) hP hS dX0_isSoundRule_108
        · have hf := pif_f hf h5
          refine lv_iconst (v := 1) hx hb dX0_isSoundRule_103 (by decide) ?_
          refine lv_goto (tgt := 108) hx hb dX0_isSoundRule_104 (by decide) ?_
          exact p_zret C hr hlk (Or.inr rfl) (pe1 hf) (pe2C hf) hP hS dX0_isSoundRule_108
      · have hf := pif_f hf h4
        by_cases h6 : a1 = 3
        · have hf := pif_t hf h6
          refine lv_tableIn (tgt := 109) (off := 94) hx hb dX0_isSoundRule_15 (by rw [h6]; decide) (by rw [h6]; decide) (by rw [h6]; decide) (by decide) ?_
          refine lv_iload_n hx hb dX0_isSoundRule_109 rfl (lv_at hl 1 rfl) ?_
          refine lv_bipush (v := 9) hx hb dX0_isSoundRule_110 (by decide) ?_
          refine lv_icmp_gt (tgt := 119) hx hb dX0_isSoundRule_112 (by decide) (fun h7 => ?_) (fun h7 => ?_)
          · have hf := pif_t hf h7
            refine lv_iconst (v := 0) hx hb dX0_isSoundRule_119 (by decide) ?_
            exact p_zret C hr hlk (Or.inl rfl) (pe1 hf) (pe2C hf) hP hS dX0_isSoundRule_120
          · have hf := pif_f hf h7
            refine lv_iconst (v := 1) hx hb dX0_isSoundRule_115 (by decide) ?_
            refine lv_goto (tgt := 120) hx hb dX0_isSoundRule_116 (by decide) ?_
            exact p_zret C hr hlk (Or.inr rfl) (pe1 hf) (pe2C hf) hP hS dX0_isSoundRule_120
        · have hf := pif_f hf h6
          by_cases h8 : a1 = 4
          · have hf := pif_t hf h8
            refine lv_tableIn (tgt := 109) (off := 94) hx hb dX0_isSoundRule_15 (by rw [h8]; decide) (by rw [h8]; decide) (by rw [h8]; decide) (by decide) ?_
            refine lv_iload_n hx hb dX0_isSoundRule_109 rfl (lv_at hl 1 rfl) ?_
            refine lv_bipush (v := 9) hx hb dX0_isSoundRule_110 (by decide) ?_
            refine lv_icmp_gt (tgt := 119) hx hb dX0_isSoundRule_112 (by decide) (fun h9 => ?_) (fun h9 => ?_)
            · have hf := pif_t hf h9
              refine lv_iconst (v := 0) hx hb dX0_isSoundRule_119 (by decide) ?_
              exact p_zret C hr hlk (Or.inl rfl) (pe1 hf) (pe2C hf) hP hS dX0_isSoundRule_120
            · have hf := pif_f hf h9
              refine lv_iconst (v := 1) hx hb dX0_isSoundRule_115 (by decide) ?_
              refine lv_goto (tgt := 120) hx hb dX0_isSoundRule_116 (by decide) ?_
              exact p_zret C hr hlk (Or.inr rfl) (pe1 hf) (pe2C hf) hP hS dX0_isSoundRule_120
          · have hf := pif_f hf h8
            by_cases h10 : a1 = 5
            · have hf := pif_t hf h10
              refine lv_tableIn (tgt := 109) (off := 94) hx hb dX0_isSoundRule_15 (by rw [h10]; decide) (by rw [h10]; decide) (by rw [h10]; decide) (by decide) ?_
              refine lv_iload_n hx hb dX0_isSoundRule_109 rfl (lv_at hl 1 rfl) ?_
              refine lv_bipush (v := 9) hx hb dX0_isSoundRule_110 (by decide) ?_
              refine lv_icmp_gt (tgt := 119) hx hb dX0_isSoundRule_112 (by decide) (fun h11 => ?_) (fun h11 => ?_)
              · have hf := pif_t hf h11
                refine lv_iconst (v := 0) hx hb dX0_isSoundRule_119 (by decide) ?_
                exact p_zret C hr hlk (Or.inl rfl) (pe1 hf) (pe2C hf) hP hS dX0_isSoundRule_120
              · have hf := pif_f hf h11
                refine lv_iconst (v := 1) hx hb dX0_isSoundRule_115 (by decide) ?_
                refine lv_goto (tgt := 120) hx hb dX0_isSoundRule_116 (by decide) ?_
                exact p_zret C hr hlk (Or.inr rfl) (pe1 hf) (pe2C hf) hP hS dX0_isSoundRule_120
            · have hf := pif_f hf h10
              by_cases h12 : a1 = 6
              · have hf := pif_t hf h12
                refine lv_tableIn (tgt := 109) (off := 94) hx hb dX0_isSoundRule_15 (by rw [h12]; decide) (by rw [h12]; decide) (by rw [h12]; decide) (by decide) ?_
                refine lv_iload_n hx hb dX0_isSoundRule_109 rfl (lv_at hl 1 rfl) ?_
                refine lv_bipush (v := 9) hx hb dX0_isSoundRule_110 (by decide) ?_
                refine lv_icmp_gt (tgt := 119) hx hb dX0_isSoundRule_112 (by decide) (fun h13 => ?_) (fun h13 => ?_)
                · have hf := pif_t hf h13
                  refine lv_iconst (v := 0) hx hb dX0_isSoundRule_119 (by decide) ?_
                  exact p_zret C hr hlk (Or.inl rfl) (pe1 hf) (pe2C hf) hP hS dX0_isSoundRule_120
                · have hf := pif_f hf h13
                  refine lv_iconst (v := 1) hx hb dX0_isSoundRule_115 (by decide) ?_
                  refine lv_goto (tgt := 120) hx hb dX0_isSoundRule_116 (by decide) ?_
                  exact p_zret C hr hlk (Or.inr rfl) (pe1 hf) (pe2C hf) hP hS dX0_isSoundRule_120
              · have hf := pif_f hf h12
                by_cases h14 : a1 = 7
                · have hf := pif_t hf h14
                  refine lv_tableIn (tgt := 76) (off := 61) hx hb dX0_isSoundRule_15 (by rw [h14]; decide) (by rw [h14]; decide) (by rw [h14]; decide) (by decide) ?_
                  refine lv_iload_n hx hb dX0_isSoundRule_76 rfl (lv_at hl 2 rfl) ?_
                  refine lv_iconst (v := 4) hx hb dX0_isSoundRule_77 (by decide) ?_
                  refine lv_icmp_ge (tgt := 85) hx hb dX0_isSoundRule_78 (by decide) (fun h15 => ?_) (fun h15 => ?_)
                  · have hf := pif_t hf h15
                    refine lv_iconst (v := 0) hx hb dX0_isSoundRule_85 (by decide) ?_
                    exact p_zret C hr hlk (Or.inl rfl) (pe1 hf) (pe2C hf) hP hS dX0_isSoundRule_86
                  · have hf := pif_f hf h15
                    refine lv_iconst (v := 1) hx hb dX0_isSoundRule_81 (by decide) ?_
                    refine lv_goto (tgt := 86) hx hb dX0_isSoundRule_82 (by decide) ?_
                    exact p_zret C hr hlk (Or.inr rfl) (pe1 hf) (pe2C hf) hP hS dX0_isSoundRule_86
                · have hf := pif_f hf h14
                  by_cases h16 : a1 = 8
                  · have hf := pif_t hf h16
                    refine lv_tableIn (tgt := 109) (off := 94) hx hb dX0_isSoundRule_15 (by rw [h16]; decide) (by rw [h16]; decide) (by rw [h16]; decide) (by decide) ?_
                    refine lv_iload_n hx hb dX0_isSoundRule_109 rfl (lv_at hl 1 rfl) ?_
                    refine lv_bipush (v := 9) hx hb dX0_isSoundRule_110 (by decide) ?_
                    refine lv_icmp_gt (tgt := 119) hx hb dX0_isSoundRule_112 (by decide) (fun h17 => ?_) (fun h17 => ?_)
                    · have hf := pif_t hf h17
                      refine lv_iconst (v := 0) hx hb dX0_isSoundRule_119 (by decide) ?_
                      exact p_zret C hr hlk (Or.inl rfl) (pe1 hf) (pe2C hf) hP hS dX0_isSoundRule_120
                    · have hf := pif_f hf h17
                      refine lv_iconst (v := 1) hx hb dX0_isSoundRule_115 (by decide) ?_
                      refine lv_goto (tgt := 120) hx hb dX0_isSoundRule_116 (by decide) ?_
                      exact p_zret C hr hlk (Or.inr rfl) (pe1 hf) (pe2C hf) hP hS dX0_isSoundRule_120
                  · have hf := pif_f hf h16
                    by_cases h18 : a1 = 9
                    · have hf := pif_t hf h18
                      refine lv_tableIn (tgt := 87) (off := 72) hx hb dX0_isSoundRule_15 (by rw [h18]; decide) (by rw [h18]; decide) (by rw [h18]; decide) (by decide) ?_
                      refine lv_iload_n hx hb dX0_isSoundRule_87 rfl (lv_at hl 2 rfl) ?_
                      refine lv_iconst (v := 4) hx hb dX0_isSoundRule_88 (by decide) ?_
                      refine lv_icmp_ge (tgt := 96) hx hb dX0_isSoundRule_89 (by decide) (fun h19 => ?_) (fun h19 => ?_)
                      · have hf := pif_t hf h19
                        refine lv_iconst (v := 0) hx hb dX0_isSoundRule_96 (by decide) ?_
                        exact p_zret C hr hlk (Or.inl rfl) (pe1 hf) (pe2C hf) hP hS dX0_isSoundRule_97
                      · have hf := pif_f hf h19
                        refine lv_iconst (v := 1) hx hb dX0_isSoundRule_92 (by decide) ?_
                        refine lv_goto (tgt := 97) hx hb dX0_isSoundRule_93 (by decide) ?_
                        exact p_zret C hr hlk (Or.inr rfl) (pe1 hf) (pe2C hf) hP hS dX0_isSoundRule_97
                    · have hf := pif_f hf h18
                      refine lv_tableOut (tgt := 109) hx hb dX0_isSoundRule_15 (by have z0 := lv_neT (a := 1) h2 rfl; have z1 := lv_neT (a := 2) h4 rfl; have z2 := lv_neT (a := 3) h6 rfl; have z3 := lv_neT (a := 4) h8 rfl; have z4 := lv_neT (a := 5) h10 rfl; have z5 := lv_neT (a := 6) h12 rfl; have z6 := lv_neT (a := 7) h14 rfl; have z7 := lv_neT (a := 8) h16 rfl; have z8 := lv_neT (a := 9) h18 rfl; omega) (by decide) ?_
                      refine lv_iload_n hx hb dX0_isSoundRule_109 rfl (lv_at hl 1 rfl) ?_
                      refine lv_bipush (v := 9) hx hb dX0_isSoundRule_110 (by decide) ?_
                      refine lv_icmp_gt (tgt := 119) hx hb dX0_isSoundRule_112 (by decide) (fun h20 => ?_) (fun h20 => ?_)
                      · have hf := pif_t hf h20
                        refine lv_iconst (v := 0) hx hb dX0_isSoundRule_119 (by decide) ?_
                        exact p_zret C hr hlk (Or.inl rfl) (pe1 hf) (pe2C hf) hP hS dX0_isSoundRule_120
                      · have hf := pif_f hf h20
                        refine lv_iconst (v := 1) hx hb dX0_isSoundRule_115 (by decide) ?_
                        refine lv_goto (tgt := 120) hx hb dX0_isSoundRule_116 (by decide) ?_
                        exact p_zret C hr hlk (Or.inr rfl) (pe1 hf) (pe2C hf) hP hS dX0_isSoundRule_120
  · have hf := pif_f hf h1
    refine lv_iload_n hx hb dX0_isSoundRule_6 rfl (lv_at hl 0 rfl) ?_
    refine lv_bipush (v := 15) hx hb dX0_isSoundRule_7 (by decide) ?_
    refine lv_icmp_eq (tgt := 14) hx hb dX0_isSoundRule_9 (by decide) (fun h21 => ?_) (fun h21 => ?_)
    · have hf := pif_t hf h21
      refine lv_iload_n hx hb dX0_isSoundRule_14 rfl (lv_at hl 1 rfl) ?_
      by_cases h22 : a1 = 1
      · have hf := pif_t hf h22
        refine lv_tableIn (tgt := 64) (off := 49) hx hb dX0_isSoundRule_15 (by rw [h22]; decide) (by rw [h22]; decide) (by rw [h22]; decide) (by decide) ?_
        refine lv_iload_n hx hb dX0_isSoundRule_64 rfl (lv_at hl 2 rfl) ?_
        refine lv_bipush (v := 64) hx hb dX0_isSoundRule_65 (by decide) ?_
        refine lv_icmp_ge (tgt := 74) hx hb dX0_isSoundRule_67 (by decide) (fun h23 => ?_) (fun h23 => ?_)
        · have hf := pif_t hf h23
          refine lv_iconst (v := 0) hx hb dX0_isSoundRule_74 (by decide) ?_
          exact p_zret C hr hlk (Or.inl rfl) (pe1 hf) (pe2C hf) hP hS dX0_isSoundRule_75
        · have hf := pif_f hf h23
          refine lv_iconst (v := 1) hx hb dX0_isSoundRule_70 (by decide) ?_
          refine lv_goto (tgt := 75) hx hb dX0_isSoundRule_71 (by decide) ?_
          exact p_zret C hr hlk (Or.inr rfl) (pe1 hf) (pe2C hf) hP hS dX0_isSoundRule_75
      · have hf := pif_f hf h22
        by_cases h24 : a1 = 2
        · have hf := pif_t hf h24
          refine lv_tableIn (tgt := 98) (off := 83) hx hb dX0_isSoundRule_15 (by rw [h24]; decide) (by rw [h24]; decide) (by rw [h24]; decide) (by decide) ?_
          refine lv_iload_n hx hb dX0_isSoundRule_98 rfl (lv_at hl 3 rfl) ?_
          refine lv_iconst (v := 3) hx hb dX0_isSoundRule_99 (by decide) ?_
          refine lv_icmp_ge (tgt := 107) hx hb dX0_isSoundRule_100 (by decide) (fun h25 => ?_) (fun h25 => ?_)
          · have hf := pif_t hf h25
            refine lv_iconst (v := 0) hx hb dX0_isSoundRule_107 (by decide) ?_
            exact p_zret C hr hlk (Or.inl rfl) (pe1 hf) (pe2C hf) hP hS dX0_isSoundRule_108
          · have hf := pif_f hf h25
            refine lv_iconst (v := 1) hx hb dX0_isSoundRule_103 (by decide) ?_
            refine lv_goto (tgt := 108) hx hb dX0_isSoundRule_104 (by decide) ?_
            exact p_zret C hr hlk (Or.inr rfl) (pe1 hf) (pe2C hf) hP hS dX0_isSoundRule_108
        · have hf := pif_f hf h24
          by_cases h26 : a1 = 3
          · have hf := pif_t hf h26
            refine lv_tableIn (tgt := 109) (off := 94) hx hb dX0_isSoundRule_15 (by rw [h26]; decide) (by rw [h26]; decide) (by rw [h26]; decide) (by decide) ?_
            refine lv_iload_n hx hb dX0_isSoundRule_109 rfl (lv_at hl 1 rfl) ?_
            refine lv_bipush (v := 9) hx hb dX0_isSoundRule_110 (by decide) ?_
            refine lv_icmp_gt (tgt := 119) hx hb dX0_isSoundRule_112 (by decide) (fun h27 => ?_) (fun h27 => ?_)
            · have hf := pif_t hf h27
              refine lv_iconst (v := 0) hx hb dX0_isSoundRule_119 (by decide) ?_
              exact p_zret C hr hlk (Or.inl rfl) (pe1 hf) (pe2C hf) hP hS dX0_isSoundRule_120
            · have hf := pif_f hf h27
              refine lv_iconst (v := 1) hx hb dX0_isSoundRule_115 (by decide) ?_
              refine lv_goto (tgt := 120) hx hb dX0_isSoundRule_116 (by decide) ?_
              exact p_zret C hr hlk (Or.inr rfl) (pe1 hf) (pe2C hf) hP hS dX0_isSoundRule_120
          · have hf := pif_f hf h26
            by_cases h28 : a1 = 4
            · have hf := pif_t hf h28
              refine lv_tableIn (tgt := 109) (off := 94) hx hb dX0_isSoundRule_15 (by rw [h28]; decide) (by rw [h28]; decide) (by rw [h28]; decide) (by decide) ?_
              refine lv_iload_n hx hb dX0_isSoundRule_109 rfl (lv_at hl 1 rfl) ?_
              refine lv_bipush (v := 9) hx hb dX0_isSoundRule_110 (by decide) ?_
              refine lv_icmp_gt (tgt := 119) hx hb dX0_isSoundRule_112 (by decide) (fun h29 => ?_) (fun h29 => ?_)
              · have hf := pif_t hf h29
                refine lv_iconst (v := 0) hx hb dX0_isSoundRule_119 (by decide) ?_
                exact p_zret C hr hlk (Or.inl rfl) (pe1 hf) (pe2C hf) hP hS dX0_isSoundRule_120
              · have hf := pif_f hf h29
                refine lv_iconst (v := 1) hx hb dX0_isSoundRule_115 (by decide) ?_
                refine lv_goto (tgt := 120) hx hb dX0_isSoundRule_116 (by decide) ?_
                exact p_zret C hr hlk (Or.inr rfl) (pe1 hf) (pe2C hf) hP hS dX0_isSoundRule_120
            · have hf := pif_f hf h28
              by_cases h30 : a1 = 5
              · have hf := pif_t hf h30
                refine lv_tableIn (tgt := 109) (off := 94) hx hb dX0_isSoundRule_15 (by rw [h30]; decide) (by rw [h30]; decide) (by rw [h30]; decide) (by decide) ?_
                refine lv_iload_n hx hb dX0_isSoundRule_109 rfl (lv_at hl 1 rfl) ?_
                refine lv_bipush (v := 9) hx hb dX0_isSoundRule_110 (by decide) ?_
                refine lv_icmp_gt (tgt := 119) hx hb dX0_isSoundRule_112 (by decide) (fun h31 => ?_) (fun h31 => ?_)
                · have hf := pif_t hf h31
                  refine lv_iconst (v := 0) hx hb dX0_isSoundRule_119 (by decide) ?_
                  exact p_zret C hr hlk (Or.inl rfl) (pe1 hf) (pe2C hf) hP hS dX0_isSoundRule_120
                · have hf := pif_f hf h31
                  refine lv_iconst (v := 1) hx hb dX0_isSoundRule_115 (by decide) ?_
                  refine lv_goto (tgt := 120) hx hb dX0_isSoundRule_116 (by decide) ?_
                  exact p_zret C hr hlk (Or.inr rfl) (pe1 hf) (pe2C hf) hP hS dX0_isSoundRule_120
              · have hf := pif_f hf h30
                by_cases h32 : a1 = 6
                · have hf := pif_t hf h32
                  refine lv_tableIn (tgt := 109) (off := 94) hx hb dX0_isSoundRule_15 (by rw [h32]; decide) (by rw [h32]; decide) (by rw [h32]; decide) (by decide) ?_
                  refine lv_iload_n hx hb dX0_isSoundRule_109 rfl (lv_at hl 1 rfl) ?_
                  refine lv_bipush (v := 9) hx hb dX0_isSoundRule_110 (by decide) ?_
                  refine lv_icmp_gt (tgt := 119) hx hb dX0_isSoundRule_112 (by decide) (fun h33 => ?_) (fun h33 => ?_)
                  · have hf := pif_t hf h33
                    refine lv_iconst (v := 0) hx hb dX0_isSoundRule_119 (by decide) ?_
                    exact p_zret C hr hlk (Or.inl rfl) (pe1 hf) (pe2C hf) hP hS dX0_isSoundRule_120
                  · have hf := pif_f hf h33
                    refine lv_iconst (v := 1) hx hb dX0_isSoundRule_115 (by decide) ?_
                    refine lv_goto (tgt := 120) hx hb dX0_isSoundRule_116 (by decide) ?_
                    exact p_zret C hr hlk (Or.inr rfl) (pe1 hf) (pe2C hf) hP hS dX0_isSoundRule_120
                · have hf := pif_f hf h32
                  by_cases h34 : a1 = 7
                  · have hf := pif_t hf h34
                    refine lv_tableIn (tgt := 76) (off := 61) hx hb dX0_isSoundRule_15 (by rw [h34]; decide) (by rw [h34]; decide) (by rw [h34]; decide) (by decide) ?_
                    refine lv_iload_n hx hb dX0_isSoundRule_76 rfl (lv_at hl 2 rfl) ?_
                    refine lv_iconst (v := 4) hx hb dX0_isSoundRule_77 (by decide) ?_
                    refine lv_icmp_ge (tgt := 85) hx hb dX0_isSoundRule_78 (by decide) (fun h35 => ?_) (fun h35 => ?_)
                    · have hf := pif_t hf h35
                      refine lv_iconst (v := 0) hx hb dX0_isSoundRule_85 (by decide) ?_
                      exact p_zret C hr hlk (Or.inl rfl) (pe1 hf) (pe2C hf) hP hS dX0_isSoundRule_86
                    · have hf := pif_f hf h35
                      refine lv_iconst (v := 1) hx hb dX0_isSoundRule_81 (by decide) ?_
                      refine lv_goto (tgt := 86) hx hb dX0_isSoundRule_82 (by decide) ?_
                      exact p_zret C hr hlk (Or.inr rfl) (pe1 hf) (pe2C hf) hP hS dX0_isSoundRule_86
                  · have hf := pif_f hf h34
                    by_cases h36 : a1 = 8
                    · have hf := pif_t hf h36
                      refine lv_tableIn (tgt := 109) (off := 94) hx hb dX0_isSoundRule_15 (by rw [h36]; decide) (by rw [h36]; decide) (by rw [h36]; decide) (by decide) ?_
                      refine lv_iload_n hx hb dX0_isSoundRule_109 rfl (lv_at hl 1 rfl) ?_
                      refine lv_bipush (v := 9) hx hb dX0_isSoundRule_110 (by decide) ?_
                      refine lv_icmp_gt (tgt := 119) hx hb dX0_isSoundRule_112 (by decide) (fun h37 => ?_) (fun h37 => ?_)
                      · have hf := pif_t hf h37
                        refine lv_iconst (v := 0) hx hb dX0_isSoundRule_119 (by decide) ?_
                        exact p_zret C hr hlk (Or.inl rfl) (pe1 hf) (pe2C hf) hP hS dX0_isSoundRule_120
                      · have hf := pif_f hf h37
                        refine lv_iconst (v := 1) hx hb dX0_isSoundRule_115 (by decide) ?_
                        refine lv_goto (tgt := 120) hx hb dX0_isSoundRule_116 (by decide) ?_
                        exact p_zret C hr hlk (Or.inr rfl) (pe1 hf) (pe2C hf) hP hS dX0_isSoundRule_120
                    · have hf := pif_f hf h36
                      by_cases h38 : a1 = 9
                      · have hf := pif_t hf h38
                        refine lv_tableIn (tgt := 87) (off := 72) hx hb dX0_isSoundRule_15 (by rw [h38]; decide) (by rw [h38]; decide) (by rw [h38]; decide) (by decide) ?_
                        refine lv_iload_n hx hb dX0_isSoundRule_87 rfl (lv_at hl 2 rfl) ?_
                        refine lv_iconst (v := 4) hx hb dX0_isSoundRule_88 (by decide) ?_
                        refine lv_icmp_ge (tgt := 96) hx hb dX0_isSoundRule_89 (by decide) (fun h39 => ?_) (fun h39 => ?_)
                        · have hf := pif_t hf h39
                          refine lv_iconst (v := 0) hx hb dX0_isSoundRule_96 (by decide) ?_
                          exact p_zret C hr hlk (Or.inl rfl) (pe1 hf) (pe2C hf) hP hS dX0_isSoundRule_97
                        · have hf := pif_f hf h39
                          refine lv_iconst (v := 1) hx hb dX0_isSoundRule_92 (by decide) ?_
                          refine lv_goto (tgt := 97) hx hb dX0_isSoundRule_93 (by decide) ?_
                          exact p_zret C hr hlk (Or.inr rfl) (pe1 hf) (pe2C hf) hP hS dX0_isSoundRule_97
                      · have hf := pif_f hf h38
                        refine lv_tableOut (tgt := 109) hx hb dX0_isSoundRule_15 (by have z0 := lv_neT (a := 1) h22 rfl; have z1 := lv_neT (a := 2) h24 rfl; have z2 := lv_neT (a := 3) h26 rfl; have z3 := lv_neT (a := 4) h28 rfl; have z4 := lv_neT (a := 5) h30 rfl; have z5 := lv_neT (a := 6) h32 rfl; have z6 := lv_neT (a := 7) h34 rfl; have z7 := lv_neT (a := 8) h36 rfl; have z8 := lv_neT (a := 9) h38 rfl; omega) (by decide) ?_
                        refine lv_iload_n hx hb dX0_isSoundRule_109 rfl (lv_at hl 1 rfl) ?_
                        refine lv_bipush (v := 9) hx hb dX0_isSoundRule_110 (by decide) ?_
                        refine lv_icmp_gt (tgt := 119) hx hb dX0_isSoundRule_112 (by decide) (fun h40 => ?_) (fun h40 => ?_)
                        · have hf := pif_t hf h40
                          refine lv_iconst (v := 0) hx hb dX0_isSoundRule_119 (by decide) ?_
                          exact p_zret C hr hlk (Or.inl rfl) (pe1 hf) (pe2C hf) hP hS dX0_isSoundRule_120
                        · have hf := pif_f hf h40
                          refine lv_iconst (v := 1) hx hb dX0_isSoundRule_115 (by decide) ?_
                          refine lv_goto (tgt := 120) hx hb dX0_isSoundRule_116 (by decide) ?_
                          exact p_zret C hr hlk (Or.inr rfl) (pe1 hf) (pe2C hf) hP hS dX0_isSoundRule_120
    · have hf := pif_f hf h21
      refine lv_iconst (v := 0) hx hb dX0_isSoundRule_12 (by decide) ?_
      exact p_zret C hr hlk (Or.inl rfl) (pe1 hf) (pe2C hf) hP hS dX0_isSoundRule_13
set_option maxHeartbeats 4000000 in
set_option maxRecDepth 100000 in
theorem c_X1_size (l : Launch) {E : pE} (hE : pInj E) {β : pSt}  {α α' : pSt} {r : Int32} (hf : f_X1_size  α = some (r, α')) : pM l E yX1_size cX1_size 1 (some .int) 0 [.ref (pL E 6)] α β (some (.int r)) α' β := by
  refine pM.ofW hE (by decide) ?_ (Nat.le_of_ble_eq_true rfl)
  intro p e s m below meth c ls C hr hlk hP hl
  have C : pCx p s m c cX1_size 1 E RX1 := C
  have hS : va_S (pA E s.heap.size) s.heap s.heap [] := va_S.rf
  have hx := C.1
  have hb := C.2.1
  have hl : lv_has ls 1 [(0, .ref (pL E 6))] := hl
  unfold f_X1_size at hf
  refine lv_aload_n hx hb dX1_size_0 rfl (lv_at hl 0 rfl) ?_
  refine g_1_15 C hP dX1_size_1 ?_
  exact p_iret C hr hlk (pe1 hf) (pe2C hf) hP hS dX1_size_4
set_option maxHeartbeats 4000000 in
set_option maxRecDepth 100000 in
theorem c_X1_has (l : Launch) {E : pE} (hE : pInj E) {β : pSt} {a0 : Int32} {α α' : pSt} {r : Int32} (hf : f_X1_has a0 α = some (r, α')) : pM l E yX1_has cX1_has 2 (some .boolean) 0 [.ref (pL E 6), .int a0] α β (some (.int r)) α' β := by
  refine pM.ofW hE (by decide) ?_ (Nat.le_of_ble_eq_true rfl)
  intro p e s m below meth c ls C hr hlk hP hl
  have C : pCx p s m c cX1_has 2 E RX1 := C
  have hS : va_S (pA E s.heap.size) s.heap s.heap [] := va_S.rf
  have hx := C.1
  have hb := C.2.1
  have hl : lv_has ls 2 [(0, .ref (pL E 6)), (1, .int a0)] := hl
  unfold f_X1_has at hf
  refine lv_iload_n hx hb dX1_has_0 rfl (lv_at hl 1 rfl) ?_
  refine lv_if_lt (tgt := 16) hx hb dX1_has_1 (by decide) (fun h1 => ?_) (fun h1 => ?_)
  · have hf := pif_t hf h1
    refine lv_iconst (v := 0) hx hb dX1_has_16 (by decide) ?_
    exact p_zret C hr hlk (Or.inl rfl) (pe1 hf) (pe2C hf) hP hS dX1_has_17
  · have hf := pif_f hf h1
    refine lv_iload_n hx hb dX1_has_4 rfl (lv_at hl 1 rfl) ?_
    refine lv_aload_n hx hb dX1_has_5 rfl (lv_at hl 0 rfl) ?_
    refine g_1_15 C hP dX1_has_6 ?_
    refine lv_icmp_ge (tgt := 16) hx hb dX1_has_9 (by decide) (fun h2 => ?_) (fun h2 => ?_)
    · have hf := pif_t hf h2
      refine lv_iconst (v := 0) hx hb dX1_has_16 (by decide) ?_
      exact p_zret C hr hlk (Or.inl rfl) (pe1 hf) (pe2C hf) hP hS dX1_has_17
    · have hf := pif_f hf h2
      refine lv_iconst (v := 1) hx hb dX1_has_12 (by decide) ?_
      refine lv_goto (tgt := 17) hx hb dX1_has_13 (by decide) ?_
      exact p_zret C hr hlk (Or.inr rfl) (pe1 hf) (pe2C hf) hP hS dX1_has_17
set_option maxHeartbeats 4000000 in
set_option maxRecDepth 100000 in
theorem c_X1_append (l : Launch) {E : pE} (hE : pInj E) {β : pSt} {a0 : Int32} {a1 : Int32} {a2 : Int32} {a3 : Int32} {a4 : Int32} {α α' : pSt} {r : Unit} (hf : f_X1_append a0 a1 a2 a3 a4 α = some (r, α')) : pM l E yX1_append cX1_append 7 none 0 [.ref (pL E 6), .int a0, .int a1, .int a2, .int a3, .int a4] α β none α' β := by
  refine pM.ofW hE (by decide) ?_ (Nat.le_of_ble_eq_true rfl)
  intro p e s m below meth c ls C hr hlk hP hl
  have C : pCx p s m c cX1_append 7 E RX1 := C
  have hS : va_S (pA E s.heap.size) s.heap s.heap [] := va_S.rf
  have hx := C.1
  have hb := C.2.1
  have hl : lv_has ls 7 [(0, .ref (pL E 6)), (1, .int a0), (2, .int a1), (3, .int a2), (4, .int a3), (5, .int a4)] := hl
  unfold f_X1_append at hf
  refine lv_aload_n hx hb dX1_append_0 rfl (lv_at hl 0 rfl) ?_
  refine g_1_15 C hP dX1_append_1 ?_
  refine lv_bipush (v := 120) hx hb dX1_append_4 (by decide) ?_
  refine lv_icmp_lt (tgt := 10) hx hb dX1_append_6 (by decide) (fun h1 => ?_) (fun h1 => ?_)
  · have hf := pif_t hf h1
    refine lv_aload_n hx hb dX1_append_10 rfl (lv_at hl 0 rfl) ?_
    refine g_1_15 C hP dX1_append_11 ?_
    refine lv_iconst (v := 5) hx hb dX1_append_14 (by decide) ?_
    refine lv_imul hx hb dX1_append_15 ?_
    refine lv_istore (lv' := [(6, .int ((α 12 0) * 5)), (0, .ref (pL E 6)), (1, .int a0), (2, .int a1), (3, .int a2), (4, .int a3), (5, .int a4)]) hx hb dX1_append_16 hl (by decide) rfl (fun ls hl => ?_)
    refine lv_aload_n hx hb dX1_append_18 rfl (lv_at hl 1 rfl) ?_
    refine g_1_9 C hP dX1_append_19 ?_
    refine lv_iload hx hb dX1_append_22 (lv_at hl 0 rfl) ?_
    refine lv_iload_n hx hb dX1_append_24 rfl (lv_at hl 2 rfl) ?_
    obtain ⟨h2, hf⟩ := pg_ok hf
    refine sa_mparts C hP hS h2 dX1_append_25 (fun H locs hP hS => ?_)
    obtain ⟨α3, eα3, hf⟩ := pl_ok hf
    rw [← eα3] at hP
    clear eα3
    refine lv_aload_n hx hb dX1_append_26 rfl (lv_at hl 1 rfl) ?_
    refine g_1_9 C hP dX1_append_27 ?_
    refine lv_iload hx hb dX1_append_30 (lv_at hl 0 rfl) ?_
    refine lv_iconst (v := 1) hx hb dX1_append_32 (by decide) ?_
    refine lv_iadd hx hb dX1_append_33 ?_
    refine lv_iload_n hx hb dX1_append_34 rfl (lv_at hl 3 rfl) ?_
    obtain ⟨h4, hf⟩ := pg_ok hf
    refine sa_mparts C hP hS h4 dX1_append_35 (fun H locs hP hS => ?_)
    obtain ⟨α5, eα5, hf⟩ := pl_ok hf
    rw [← eα5] at hP
    clear eα5
    refine lv_aload_n hx hb dX1_append_36 rfl (lv_at hl 1 rfl) ?_
    refine g_1_9 C hP dX1_append_37 ?_
    refine lv_iload hx hb dX1_append_40 (lv_at hl 0 rfl) ?_
    refine lv_iconst (v := 2) hx hb dX1_append_42 (by decide) ?_
    refine lv_iadd hx hb dX1_append_43 ?_
    refine lv_iload_n hx hb dX1_append_44 rfl (lv_at hl 4 rfl) ?_
    obtain ⟨h6, hf⟩ := pg_ok hf
    refine sa_mparts C hP hS h6 dX1_append_45 (fun H locs hP hS => ?_)
    obtain ⟨α7, eα7, hf⟩ := pl_ok hf
    rw [← eα7] at hP
    clear eα7
    refine lv_aload_n hx hb dX1_append_46 rfl (lv_at hl 1 rfl) ?_
    refine g_1_9 C hP dX1_append_47 ?_
    refine lv_iload hx hb dX1_append_50 (lv_at hl 0 rfl) ?_
    refine lv_iconst (v := 3) hx hb dX1_append_52 (by decide) ?_
    refine lv_iadd hx hb dX1_append_53 ?_
    refine lv_iload hx hb dX1_append_54 (lv_at hl 5 rfl) ?_
    obtain ⟨h8, hf⟩ := pg_ok hf
    refine sa_mparts C hP hS h8 dX1_append_56 (fun H locs hP hS => ?_)
    obtain ⟨α9, eα9, hf⟩ := pl_ok hf
    rw [← eα9] at hP
    clear eα9
    refine lv_aload_n hx hb dX1_append_57 rfl (lv_at hl 1 rfl) ?_
    refine g_1_9 C hP dX1_append_58 ?_
    refine lv_iload hx hb dX1_append_61 (lv_at hl 0 rfl) ?_
    refine lv_iconst (v := 4) hx hb dX1_append_63 (by decide) ?_
    refine lv_iadd hx hb dX1_append_64 ?_
    refine lv_iload hx hb dX1_append_65 (lv_at hl 6 rfl) ?_
    obtain ⟨h10, hf⟩ := pg_ok hf
    refine sa_mparts C hP hS h10 dX1_append_67 (fun H locs hP hS => ?_)
    obtain ⟨α11, eα11, hf⟩ := pl_ok hf
    rw [← eα11] at hP
    clear eα11
    refine lv_aload_n hx hb dX1_append_68 rfl (lv_at hl 1 rfl) ?_
    refine lv_dup hx hb dX1_append_69 rfl ?_
    refine g_1_15 C hP dX1_append_70 ?_
    refine lv_iconst (v := 1) hx hb dX1_append_73 (by decide) ?_
    refine lv_iadd hx hb dX1_append_74 ?_
    refine s_1_15 C hP hS dX1_append_75 (fun H locs hP hS => ?_)
    obtain ⟨α12, eα12, hf⟩ := pl_ok hf
    rw [← eα12] at hP
    clear eα12
    exact p_vret C hr hlk (pe2C hf) hP hS dX1_append_78
  · have hf := pif_f hf h1
    exact p_vret C hr hlk (pe2C hf) hP hS dX1_append_9
set_option maxHeartbeats 4000000 in
set_option maxRecDepth 100000 in
theorem c_X1_aspect (l : Launch) {E : pE} (hE : pInj E) {β : pSt} {a0 : Int32} {a1 : Int32} {α α' : pSt} {r : Int32} (hf : f_X1_aspect a0 a1 α = some (r, α')) : pM l E yX1_aspect cX1_aspect 3 (some .int) 0 [.ref (pL E 6), .int a0, .int a1] α β (some (.int r)) α' β := by
  refine pM.ofW hE (by decide) ?_ (Nat.le_of_ble_eq_true rfl)
  intro p e s m below meth c ls C hr hlk hP hl
  have C : pCx p s m c cX1_aspect 3 E RX1 := C
  have hS : va_S (pA E s.heap.size) s.heap s.heap [] := va_S.rf
  have hx := C.1
  have hb := C.2.1
  have hl : lv_has ls 3 [(0, .ref (pL E 6)), (1, .int a0), (2, .int a1)] := hl
  unfold f_X1_aspect at hf
  refine lv_iload_n hx hb dX1_aspect_0 rfl (lv_at hl 1 rfl) ?_
  refine lv_if_lt (tgt := 21) hx hb dX1_aspect_1 (by decide) (fun h1 => ?_) (fun h1 => ?_)
  · have hf := pif_t hf h1
    refine lv_bipush (v := (-101)) hx hb dX1_aspect_21 (by decide) ?_
    exact p_iret C hr hlk (pe1 hf) (pe2C hf) hP hS dX1_aspect_23
  · have hf := pif_f hf h1
    refine lv_iload_n hx hb dX1_aspect_4 rfl (lv_at hl 1 rfl) ?_
    refine lv_aload_n hx hb dX1_aspect_5 rfl (lv_at hl 0 rfl) ?_
    refine g_1_15 C hP dX1_aspect_6 ?_
    refine lv_icmp_ge (tgt := 21) hx hb dX1_aspect_9 (by decide) (fun h2 => ?_) (fun h2 => ?_)
    · have hf := pif_t hf h2
      refine lv_bipush (v := (-101)) hx hb dX1_aspect_21 (by decide) ?_
      exact p_iret C hr hlk (pe1 hf) (pe2C hf) hP hS dX1_aspect_23
    · have hf := pif_f hf h2
      refine lv_iload_n hx hb dX1_aspect_12 rfl (lv_at hl 2 rfl) ?_
      refine lv_if_lt (tgt := 21) hx hb dX1_aspect_13 (by decide) (fun h3 => ?_) (fun h3 => ?_)
      · have hf := pif_t hf h3
        refine lv_bipush (v := (-101)) hx hb dX1_aspect_21 (by decide) ?_
        exact p_iret C hr hlk (pe1 hf) (pe2C hf) hP hS dX1_aspect_23
      · have hf := pif_f hf h3
        refine lv_iload_n hx hb dX1_aspect_16 rfl (lv_at hl 2 rfl) ?_
        refine lv_iconst (v := 5) hx hb dX1_aspect_17 (by decide) ?_
        refine lv_icmp_lt (tgt := 24) hx hb dX1_aspect_18 (by decide) (fun h4 => ?_) (fun h4 => ?_)
        · have hf := pif_t hf h4
          refine lv_aload_n hx hb dX1_aspect_24 rfl (lv_at hl 0 rfl) ?_
          refine g_1_9 C hP dX1_aspect_25 ?_
          refine lv_iload_n hx hb dX1_aspect_28 rfl (lv_at hl 1 rfl) ?_
          refine lv_iconst (v := 5) hx hb dX1_aspect_29 (by decide) ?_
          refine lv_imul hx hb dX1_aspect_30 ?_
          refine lv_iload_n hx hb dX1_aspect_31 rfl (lv_at hl 2 rfl) ?_
          refine lv_iadd hx hb dX1_aspect_32 ?_
          obtain ⟨h5, hf⟩ := pg_ok hf
          refine la_mparts C hP h5 dX1_aspect_33 ?_
          exact p_iret C hr hlk (pe1 hf) (pe2C hf) hP hS dX1_aspect_34
        · have hf := pif_f hf h4
          refine lv_bipush (v := (-101)) hx hb dX1_aspect_21 (by decide) ?_
          exact p_iret C hr hlk (pe1 hf) (pe2C hf) hP hS dX1_aspect_23
set_option maxHeartbeats 4000000 in
set_option maxRecDepth 100000 in
theorem c_X1_forgetAll (l : Launch) {E : pE} (hE : pInj E) {β : pSt}  {α α' : pSt} {r : Unit} (hf : f_X1_forgetAll  α = some (r, α')) : pM l E yX1_forgetAll cX1_forgetAll 1 none 0 [.ref (pL E 6)] α β none α' β := by
  refine pM.ofW hE (by decide) ?_ (Nat.le_of_ble_eq_true rfl)
  intro p e s m below meth c ls C hr hlk hP hl
  have C : pCx p s m c cX1_forgetAll 1 E RX1 := C
  have hS : va_S (pA E s.heap.size) s.heap s.heap [] := va_S.rf
  have hx := C.1
  have hb := C.2.1
  have hl : lv_has ls 1 [(0, .ref (pL E 6))] := hl
  unfold f_X1_forgetAll at hf
  refine lv_aload_n hx hb dX1_forgetAll_0 rfl (lv_at hl 0 rfl) ?_
  refine lv_iconst (v := 0) hx hb dX1_forgetAll_1 (by decide) ?_
  refine s_1_15 C hP hS dX1_forgetAll_2 (fun H locs hP hS => ?_)
  obtain ⟨α1, eα1, hf⟩ := pl_ok hf
  rw [← eα1] at hP
  clear eα1
  exact p_vret C hr hlk (pe2C hf) hP hS dX1_forgetAll_5
set_option maxHeartbeats 4000000 in
set_option maxRecDepth 100000 in
theorem c_X2_startBecomes (l : Launch) {E : pE} (hE : pInj E) {β : pSt} {k : Nat} (hk : k < 6) {a0 : Int32} {α α' : pSt} {r : Unit} (hf : f_X2_startBecomes k a0 α = some (r, α')) : pM l E yX2_startBecomes cX2_startBecomes 2 none 0 [.ref (pL E (10 + k)), .int a0] α β none α' β := by
  refine pM.ofW hE (by decide) ?_ (Nat.le_of_ble_eq_true rfl)
  intro p e s m below meth c ls C hr hlk hP hl
  have C : pCx p s m c cX2_startBecomes 2 E RX2 := C
  have hS : va_S (pA E s.heap.size) s.heap s.heap [] := va_S.rf
  have hx := C.1
  have hb := C.2.1
  have hl : lv_has ls 2 [(0, .ref (pL E (10 + k))), (1, .int a0)] := hl
  unfold f_X2_startBecomes at hf
  refine lv_aload_n hx hb dX2_startBecomes_0 rfl (lv_at hl 0 rfl) ?_
  refine lv_iload_n hx hb dX2_startBecomes_1 rfl (lv_at hl 1 rfl) ?_
  obtain ⟨h1, hf⟩ := pg_ok hf
  refine s_2_20 C hP hS (k := k) hk (pbl_ok h1) dX2_startBecomes_2 (fun H locs hP hS => ?_)
  obtain ⟨α2, eα2, hf⟩ := pl_ok hf
  rw [← eα2] at hP
  clear eα2
  refine lv_aload_n hx hb dX2_startBecomes_5 rfl (lv_at hl 0 rfl) ?_
  refine lv_iconst (v := 0) hx hb dX2_startBecomes_6 (by decide) ?_
  refine s_2_24 C hP hS (k := k) hk (Or.inl rfl) dX2_startBecomes_7 (fun H locs hP hS => ?_)
  obtain ⟨α3, eα3, hf⟩ := pl_ok hf
  rw [← eα3] at hP
  clear eα3
  exact p_vret C hr hlk (pe2C hf) hP hS dX2_startBecomes_10
set_option maxHeartbeats 4000000 in
set_option maxRecDepth 100000 in
theorem c_X2_failToStart (l : Launch) {E : pE} (hE : pInj E) {β : pSt} {k : Nat} (hk : k < 6) {α α' : pSt} {r : Int32} (hf : f_X2_failToStart k α = some (r, α')) : pM l E yX2_failToStart cX2_failToStart 2 (some .int) 0 [.ref (pL E (10 + k))] α β (some (.int r)) α' β := by
  refine pM.ofW hE (by decide) ?_ (Nat.le_of_ble_eq_true rfl)
  intro p e s m below meth c ls C hr hlk hP hl
  have C : pCx p s m c cX2_failToStart 2 E RX2 := C
  have hS : va_S (pA E s.heap.size) s.heap s.heap [] := va_S.rf
  have hx := C.1
  have hb := C.2.1
  have hl : lv_has ls 2 [(0, .ref (pL E (10 + k)))] := hl
  unfold f_X2_failToStart at hf
  refine lv_aload_n hx hb dX2_failToStart_0 rfl (lv_at hl 0 rfl) ?_
  refine g_2_24 C hP (k := k) hk dX2_failToStart_1 ?_
  refine lv_if_eq (tgt := 12) hx hb dX2_failToStart_4 (by decide) (fun h1 => ?_) (fun h1 => ?_)
  · have hf := pif_t hf h1
    refine lv_bipush (v := (-31)) hx hb dX2_failToStart_12 (by decide) ?_
    refine lv_istore_n (lv' := [(1, .int (-31)), (0, .ref (pL E (10 + k)))]) hx hb dX2_failToStart_14 rfl hl (by decide) rfl (fun ls hl => ?_)
    refine lv_aload_n hx hb dX2_failToStart_15 rfl (lv_at hl 1 rfl) ?_
    refine lv_iconst (v := 1) hx hb dX2_failToStart_16 (by decide) ?_
    refine s_2_24 C hP hS (k := k) hk (Or.inr rfl) dX2_failToStart_17 (fun H locs hP hS => ?_)
    obtain ⟨α2, eα2, hf⟩ := pl_ok hf
    rw [← eα2] at hP
    clear eα2
    refine lv_iload_n hx hb dX2_failToStart_20 rfl (lv_at hl 0 rfl) ?_
    exact p_iret C hr hlk (pe1 hf) (pe2C hf) hP hS dX2_failToStart_21
  · have hf := pif_f hf h1
    refine lv_bipush (v := (-32)) hx hb dX2_failToStart_7 (by decide) ?_
    refine lv_goto (tgt := 14) hx hb dX2_failToStart_9 (by decide) ?_
    refine lv_istore_n (lv' := [(1, .int (-32)), (0, .ref (pL E (10 + k)))]) hx hb dX2_failToStart_14 rfl hl (by decide) rfl (fun ls hl => ?_)
    refine lv_aload_n hx hb dX2_failToStart_15 rfl (lv_at hl 1 rfl) ?_
    refine lv_iconst (v := 1) hx hb dX2_failToStart_16 (by decide) ?_
    refine s_2_24 C hP hS (k := k) hk (Or.inr rfl) dX2_failToStart_17 (fun H locs hP hS => ?_)
    obtain ⟨α3, eα3, hf⟩ := pl_ok hf
    rw [← eα3] at hP
    clear eα3
    refine lv_iload_n hx hb dX2_failToStart_20 rfl (lv_at hl 0 rfl) ?_
    exact p_iret C hr hlk (pe1 hf) (pe2C hf) hP hS dX2_failToStart_21
set_option maxHeartbeats 4000000 in
set_option maxRecDepth 100000 in
theorem c_X3_part (l : Launch) {E : pE} (hE : pInj E) {β : pSt} {k : Nat} (hk : k < 6) {a0 : Int32} {α α' : pSt} {r : Int32} (hf : f_X3_part k a0 α = some (r, α')) : pM l E yX3_part cX3_part 2 (some .int) 0 [.ref (pL E (16 + k)), .int a0] α β (some (.int r)) α' β := by
  refine pM.ofW hE (by decide) ?_ (Nat.le_of_ble_eq_true rfl)
  intro p e s m below meth c ls C hr hlk hP hl
  have C : pCx p s m c cX3_part 2 E RX3 := C
  have hS : va_S (pA E s.heap.size) s.heap s.heap [] := va_S.rf
  have hx := C.1
  have hb := C.2.1
  have hl : lv_has ls 2 [(0, .ref (pL E (16 + k))), (1, .int a0)] := hl
  unfold f_X3_part at hf
  refine lv_iload_n hx hb dX3_part_0 rfl (lv_at hl 1 rfl) ?_
  refine lv_if_lt (tgt := 22) hx hb dX3_part_1 (by decide) (fun h1 => ?_) (fun h1 => ?_)
  · have hf := pif_t hf h1
    refine lv_iconst (v := 0) hx hb dX3_part_22 (by decide) ?_
    exact p_iret C hr hlk (pe1 hf) (pe2C hf) hP hS dX3_part_23
  · have hf := pif_f hf h1
    refine lv_iload_n hx hb dX3_part_4 rfl (lv_at hl 1 rfl) ?_
    refine lv_aload_n hx hb dX3_part_5 rfl (lv_at hl 0 rfl) ?_
    refine g_3_9 C hP (k := k) hk dX3_part_6 ?_
    refine ln_parts C hP (k := k) hk dX3_part_9 ?_
    refine lv_icmp_ge (tgt := 22) hx hb dX3_part_10 (by decide) (fun h2 => ?_) (fun h2 => ?_)
    · have hf := pif_t hf h2
      refine lv_iconst (v := 0) hx hb dX3_part_22 (by decide) ?_
      exact p_iret C hr hlk (pe1 hf) (pe2C hf) hP hS dX3_part_23
    · have hf := pif_f hf h2
      refine lv_aload_n hx hb dX3_part_13 rfl (lv_at hl 0 rfl) ?_
      refine g_3_9 C hP (k := k) hk dX3_part_14 ?_
      refine lv_iload_n hx hb dX3_part_17 rfl (lv_at hl 1 rfl) ?_
      obtain ⟨h3, hf⟩ := pg_ok hf
      refine la_parts C hP (k := k) hk h3 dX3_part_18 ?_
      refine lv_goto (tgt := 23) hx hb dX3_part_19 (by decide) ?_
      exact p_iret C hr hlk (pe1 hf) (pe2C hf) hP hS dX3_part_23
set_option maxHeartbeats 4000000 in
set_option maxRecDepth 100000 in
theorem c_X3_beginRun (l : Launch) {E : pE} (hE : pInj E) {β : pSt} {k : Nat} (hk : k < 6) {α α' : pSt} {r : Unit} (hf : f_X3_beginRun k α = some (r, α')) : pM l E yX3_beginRun cX3_beginRun 1 none 0 [.ref (pL E (16 + k))] α β none α' β := by
  refine pM.ofW hE (by decide) ?_ (Nat.le_of_ble_eq_true rfl)
  intro p e s m below meth c ls C hr hlk hP hl
  have C : pCx p s m c cX3_beginRun 1 E RX3 := C
  have hS : va_S (pA E s.heap.size) s.heap s.heap [] := va_S.rf
  have hx := C.1
  have hb := C.2.1
  have hl : lv_has ls 1 [(0, .ref (pL E (16 + k)))] := hl
  unfold f_X3_beginRun at hf
  refine lv_aload_n hx hb dX3_beginRun_0 rfl (lv_at hl 0 rfl) ?_
  refine lv_aload_n hx hb dX3_beginRun_1 rfl (lv_at hl 0 rfl) ?_
  refine g_3_34 C hP (k := k) hk dX3_beginRun_2 ?_
  refine s_3_47 C hP hS (k := k) hk dX3_beginRun_5 (fun H locs hP hS => ?_)
  obtain ⟨α1, eα1, hf⟩ := pl_ok hf
  rw [← eα1] at hP
  clear eα1
  refine lv_aload_n hx hb dX3_beginRun_8 rfl (lv_at hl 0 rfl) ?_
  refine lv_iconst (v := 0) hx hb dX3_beginRun_9 (by decide) ?_
  refine s_3_37 C hP hS (k := k) hk (Or.inl rfl) dX3_beginRun_10 (fun H locs hP hS => ?_)
  obtain ⟨α2, eα2, hf⟩ := pl_ok hf
  rw [← eα2] at hP
  clear eα2
  refine lv_aload_n hx hb dX3_beginRun_13 rfl (lv_at hl 0 rfl) ?_
  refine lv_iconst (v := 0) hx hb dX3_beginRun_14 (by decide) ?_
  refine s_3_41 C hP hS (k := k) hk dX3_beginRun_15 (fun H locs hP hS => ?_)
  obtain ⟨α3, eα3, hf⟩ := pl_ok hf
  rw [← eα3] at hP
  clear eα3
  exact p_vret C hr hlk (pe2C hf) hP hS dX3_beginRun_18
set_option maxHeartbeats 4000000 in
set_option maxRecDepth 100000 in
theorem c_X3_goBack (l : Launch) {E : pE} (hE : pInj E) {β : pSt} {k : Nat} (hk : k < 6) {α α' : pSt} {r : Unit} (hf : f_X3_goBack k α = some (r, α')) : pM l E yX3_goBack cX3_goBack 1 none 0 [.ref (pL E (16 + k))] α β none α' β := by
  refine pM.ofW hE (by decide) ?_ (Nat.le_of_ble_eq_true rfl)
  intro p e s m below meth c ls C hr hlk hP hl
  have C : pCx p s m c cX3_goBack 1 E RX3 := C
  have hS : va_S (pA E s.heap.size) s.heap s.heap [] := va_S.rf
  have hx := C.1
  have hb := C.2.1
  have hl : lv_has ls 1 [(0, .ref (pL E (16 + k)))] := hl
  unfold f_X3_goBack at hf
  refine lv_aload_n hx hb dX3_goBack_0 rfl (lv_at hl 0 rfl) ?_
  refine lv_aload_n hx hb dX3_goBack_1 rfl (lv_at hl 0 rfl) ?_
  refine g_3_47 C hP (k := k) hk dX3_goBack_2 ?_
  refine s_3_34 C hP hS (k := k) hk dX3_goBack_5 (fun H locs hP hS => ?_)
  obtain ⟨α1, eα1, hf⟩ := pl_ok hf
  rw [← eα1] at hP
  clear eα1
  exact p_vret C hr hlk (pe2C hf) hP hS dX3_goBack_8
set_option maxHeartbeats 4000000 in
set_option maxRecDepth 100000 in
theorem c_X4_size (l : Launch) {E : pE} (hE : pInj E) {β : pSt}  {α α' : pSt} {r : Int32} (hf : f_X4_size  α = some (r, α')) : pM l E yX4_size cX4_size 1 (some .int) 0 [.ref (pL E 3)] α β (some (.int r)) α' β := by
  refine pM.ofW hE (by decide) ?_ (Nat.le_of_ble_eq_true rfl)
  intro p e s m below meth c ls C hr hlk hP hl
  have C : pCx p s m c cX4_size 1 E RX4 := C
  have hS : va_S (pA E s.heap.size) s.heap s.heap [] := va_S.rf
  have hx := C.1
  have hb := C.2.1
  have hl : lv_has ls 1 [(0, .ref (pL E 3))] := hl
  unfold f_X4_size at hf
  refine lv_aload_n hx hb dX4_size_0 rfl (lv_at hl 0 rfl) ?_
  refine g_4_18 C hP dX4_size_1 ?_
  exact p_iret C hr hlk (pe1 hf) (pe2C hf) hP hS dX4_size_4
set_option maxHeartbeats 4000000 in
set_option maxRecDepth 100000 in
theorem c_X4_isFull (l : Launch) {E : pE} (hE : pInj E) {β : pSt}  {α α' : pSt} {r : Int32} (hf : f_X4_isFull  α = some (r, α')) : pM l E yX4_isFull cX4_isFull 1 (some .boolean) 0 [.ref (pL E 3)] α β (some (.int r)) α' β := by
  refine pM.ofW hE (by decide) ?_ (Nat.le_of_ble_eq_true rfl)
  intro p e s m below meth c ls C hr hlk hP hl
  have C : pCx p s m c cX4_isFull 1 E RX4 := C
  have hS : va_S (pA E s.heap.size) s.heap s.heap [] := va_S.rf
  have hx := C.1
  have hb := C.2.1
  have hl : lv_has ls 1 [(0, .ref (pL E 3))] := hl
  unfold f_X4_isFull at hf
  refine lv_aload_n hx hb dX4_isFull_0 rfl (lv_at hl 0 rfl) ?_
  refine g_4_18 C hP dX4_isFull_1 ?_
  refine lv_aload_n hx hb dX4_isFull_4 rfl (lv_at hl 0 rfl) ?_
  refine g_4_11 C hP dX4_isFull_5 ?_
  refine ln_all C hP dX4_isFull_8 ?_
  refine lv_icmp_lt (tgt := 16) hx hb dX4_isFull_9 (by decide) (fun h1 => ?_) (fun h1 => ?_)
  · have hf := pif_t hf h1
    refine lv_iconst (v := 0) hx hb dX4_isFull_16 (by decide) ?_
    exact p_zret C hr hlk (Or.inl rfl) (pe1 hf) (pe2C hf) hP hS dX4_isFull_17
  · have hf := pif_f hf h1
    refine lv_iconst (v := 1) hx hb dX4_isFull_12 (by decide) ?_
    refine lv_goto (tgt := 17) hx hb dX4_isFull_13 (by decide) ?_
    exact p_zret C hr hlk (Or.inr rfl) (pe1 hf) (pe2C hf) hP hS dX4_isFull_17
set_option maxHeartbeats 4000000 in
set_option maxRecDepth 100000 in
theorem c_X4_at (l : Launch) {E : pE} (hE : pInj E) {β : pSt} {a0 : Int32} {α α' : pSt} {r : Option Nat} (hf : f_X4_at a0 α = some (r, α')) : pM l E yX4_at cX4_at 2 (some (.object "PlugRounds$Processor")) 0 [.ref (pL E 3), .int a0] α β (some (va_rf (r.map (fun i => pL E (16 + i))))) α' β := by
  refine pM.ofW hE (by decide) ?_ (Nat.le_of_ble_eq_true rfl)
  intro p e s m below meth c ls C hr hlk hP hl
  have C : pCx p s m c cX4_at 2 E RX4 := C
  have hS : va_S (pA E s.heap.size) s.heap s.heap [] := va_S.rf
  have hx := C.1
  have hb := C.2.1
  have hl : lv_has ls 2 [(0, .ref (pL E 3)), (1, .int a0)] := hl
  unfold f_X4_at at hf
  refine lv_iload_n hx hb dX4_at_0 rfl (lv_at hl 1 rfl) ?_
  refine lv_if_lt (tgt := 30) hx hb dX4_at_1 (by decide) (fun h1 => ?_) (fun h1 => ?_)
  · have hf := pif_t hf h1
    refine lv_null hx hb dX4_at_30 ?_
    exact p_aret C hr hlk (by rw [← pe1 hf]; rfl) (pe2C hf) hP hS dX4_at_31
  · have hf := pif_f hf h1
    refine lv_iload_n hx hb dX4_at_4 rfl (lv_at hl 1 rfl) ?_
    refine lv_aload_n hx hb dX4_at_5 rfl (lv_at hl 0 rfl) ?_
    refine g_4_18 C hP dX4_at_6 ?_
    refine lv_icmp_ge (tgt := 30) hx hb dX4_at_9 (by decide) (fun h2 => ?_) (fun h2 => ?_)
    · have hf := pif_t hf h2
      refine lv_null hx hb dX4_at_30 ?_
      exact p_aret C hr hlk (by rw [← pe1 hf]; rfl) (pe2C hf) hP hS dX4_at_31
    · have hf := pif_f hf h2
      refine lv_iload_n hx hb dX4_at_12 rfl (lv_at hl 1 rfl) ?_
      refine lv_aload_n hx hb dX4_at_13 rfl (lv_at hl 0 rfl) ?_
      refine g_4_11 C hP dX4_at_14 ?_
      refine ln_all C hP dX4_at_17 ?_
      refine lv_icmp_ge (tgt := 30) hx hb dX4_at_18 (by decide) (fun h3 => ?_) (fun h3 => ?_)
      · have hf := pif_t hf h3
        refine lv_null hx hb dX4_at_30 ?_
        exact p_aret C hr hlk (by rw [← pe1 hf]; rfl) (pe2C hf) hP hS dX4_at_31
      · have hf := pif_f hf h3
        refine lv_aload_n hx hb dX4_at_21 rfl (lv_at hl 0 rfl) ?_
        refine g_4_11 C hP dX4_at_22 ?_
        refine lv_iload_n hx hb dX4_at_25 rfl (lv_at hl 1 rfl) ?_
        obtain ⟨h4, hf⟩ := pg_ok hf
        refine la_all C hP h4 dX4_at_26 ?_
        refine lv_goto (tgt := 31) hx hb dX4_at_27 (by decide) ?_
        exact p_aret C hr hlk (by rw [← pe1 hf]; rfl) (pe2C hf) hP hS dX4_at_31
set_option maxHeartbeats 4000000 in
set_option maxRecDepth 100000 in
theorem c_X4_dismissAll (l : Launch) {E : pE} (hE : pInj E) {β : pSt}  {α α' : pSt} {r : Unit} (hf : f_X4_dismissAll  α = some (r, α')) : pM l E yX4_dismissAll cX4_dismissAll 1 none 0 [.ref (pL E 3)] α β none α' β := by
  refine pM.ofW hE (by decide) ?_ (Nat.le_of_ble_eq_true rfl)
  intro p e s m below meth c ls C hr hlk hP hl
  have C : pCx p s m c cX4_dismissAll 1 E RX4 := C
  have hS : va_S (pA E s.heap.size) s.heap s.heap [] := va_S.rf
  have hx := C.1
  have hb := C.2.1
  have hl : lv_has ls 1 [(0, .ref (pL E 3))] := hl
  unfold f_X4_dismissAll at hf
  refine lv_aload_n hx hb dX4_dismissAll_0 rfl (lv_at hl 0 rfl) ?_
  refine lv_iconst (v := 0) hx hb dX4_dismissAll_1 (by decide) ?_
  refine s_4_18 C hP hS dX4_dismissAll_2 (fun H locs hP hS => ?_)
  obtain ⟨α1, eα1, hf⟩ := pl_ok hf
  rw [← eα1] at hP
  clear eα1
  exact p_vret C hr hlk (pe2C hf) hP hS dX4_dismissAll_5
set_option maxHeartbeats 4000000 in
set_option maxRecDepth 100000 in
theorem c_X5_at (l : Launch) {E : pE} (hE : pInj E) {β : pSt} {a0 : Int32} {α α' : pSt} {r : Option Nat} (hf : f_X5_at a0 α = some (r, α')) : pM l E yX5_at cX5_at 2 (some (.object "PlugRounds$Row")) 0 [.ref (pL E 7), .int a0] α β (some (va_rf (r.map (fun i => pL E (22 + i))))) α' β := by
  refine pM.ofW hE (by decide) ?_ (Nat.le_of_ble_eq_true rfl)
  intro p e s m below meth c ls C hr hlk hP hl
  have C : pCx p s m c cX5_at 2 E RX5 := C
  have hS : va_S (pA E s.heap.size) s.heap s.heap [] := va_S.rf
  have hx := C.1
  have hb := C.2.1
  have hl : lv_has ls 2 [(0, .ref (pL E 7)), (1, .int a0)] := hl
  unfold f_X5_at at hf
  refine lv_iload_n hx hb dX5_at_0 rfl (lv_at hl 1 rfl) ?_
  refine lv_if_lt (tgt := 22) hx hb dX5_at_1 (by decide) (fun h1 => ?_) (fun h1 => ?_)
  · have hf := pif_t hf h1
    refine lv_null hx hb dX5_at_22 ?_
    exact p_aret C hr hlk (by rw [← pe1 hf]; rfl) (pe2C hf) hP hS dX5_at_23
  · have hf := pif_f hf h1
    refine lv_iload_n hx hb dX5_at_4 rfl (lv_at hl 1 rfl) ?_
    refine lv_aload_n hx hb dX5_at_5 rfl (lv_at hl 0 rfl) ?_
    refine g_5_11 C hP dX5_at_6 ?_
    refine ln_rows C hP dX5_at_9 ?_
    refine lv_icmp_ge (tgt := 22) hx hb dX5_at_10 (by decide) (fun h2 => ?_) (fun h2 => ?_)
    · have hf := pif_t hf h2
      refine lv_null hx hb dX5_at_22 ?_
      exact p_aret C hr hlk (by rw [← pe1 hf]; rfl) (pe2C hf) hP hS dX5_at_23
    · have hf := pif_f hf h2
      refine lv_aload_n hx hb dX5_at_13 rfl (lv_at hl 0 rfl) ?_
      refine g_5_11 C hP dX5_at_14 ?_
      refine lv_iload_n hx hb dX5_at_17 rfl (lv_at hl 1 rfl) ?_
      obtain ⟨h3, hf⟩ := pg_ok hf
      refine la_rows C hP h3 dX5_at_18 ?_
      refine lv_goto (tgt := 23) hx hb dX5_at_19 (by decide) ?_
      exact p_aret C hr hlk (by rw [← pe1 hf]; rfl) (pe2C hf) hP hS dX5_at_23
set_option maxHeartbeats 4000000 in
set_option maxRecDepth 100000 in
theorem c_X6_size (l : Launch) {E : pE} (hE : pInj E) {β : pSt} {k : Nat} (hk : k < 11) {α α' : pSt} {r : Int32} (hf : f_X6_size k α = some (r, α')) : pM l E yX6_size cX6_size 1 (some .int) 0 [.ref (pL E (22 + k))] α β (some (.int r)) α' β := by
  refine pM.ofW hE (by decide) ?_ (Nat.le_of_ble_eq_true rfl)
  intro p e s m below meth c ls C hr hlk hP hl
  have C : pCx p s m c cX6_size 1 E RX6 := C
  have hS : va_S (pA E s.heap.size) s.heap s.heap [] := va_S.rf
  have hx := C.1
  have hb := C.2.1
  have hl : lv_has ls 1 [(0, .ref (pL E (22 + k)))] := hl
  unfold f_X6_size at hf
  refine lv_aload_n hx hb dX6_size_0 rfl (lv_at hl 0 rfl) ?_
  refine g_6_21 C hP (k := k) hk dX6_size_1 ?_
  exact p_iret C hr hlk (pe1 hf) (pe2C hf) hP hS dX6_size_4
set_option maxHeartbeats 4000000 in
set_option maxRecDepth 100000 in
theorem c_X6_room (l : Launch) {E : pE} (hE : pInj E) {β : pSt} {k : Nat} (hk : k < 11) {α α' : pSt} {r : Int32} (hf : f_X6_room k α = some (r, α')) : pM l E yX6_room cX6_room 1 (some .int) 0 [.ref (pL E (22 + k))] α β (some (.int r)) α' β := by
  refine pM.ofW hE (by decide) ?_ (Nat.le_of_ble_eq_true rfl)
  intro p e s m below meth c ls C hr hlk hP hl
  have C : pCx p s m c cX6_room 1 E RX6 := C
  have hS : va_S (pA E s.heap.size) s.heap s.heap [] := va_S.rf
  have hx := C.1
  have hb := C.2.1
  have hl : lv_has ls 1 [(0, .ref (pL E (22 + k)))] := hl
  unfold f_X6_room at hf
  refine lv_aload_n hx hb dX6_room_0 rfl (lv_at hl 0 rfl) ?_
  refine g_6_15 C hP (k := k) hk dX6_room_1 ?_
  refine ln_bytes C hP (k := k) hk dX6_room_4 ?_
  refine lv_aload_n hx hb dX6_room_5 rfl (lv_at hl 0 rfl) ?_
  refine g_6_21 C hP (k := k) hk dX6_room_6 ?_
  refine lv_isub hx hb dX6_room_9 ?_
  exact p_iret C hr hlk (pe1 hf) (pe2C hf) hP hS dX6_room_10
set_option maxHeartbeats 4000000 in
set_option maxRecDepth 100000 in
theorem c_X6_has (l : Launch) {E : pE} (hE : pInj E) {β : pSt} {k : Nat} (hk : k < 11) {a0 : Int32} {α α' : pSt} {r : Int32} (hf : f_X6_has k a0 α = some (r, α')) : pM l E yX6_has cX6_has 2 (some .boolean) 0 [.ref (pL E (22 + k)), .int a0] α β (some (.int r)) α' β := by
  refine pM.ofW hE (by decide) ?_ (Nat.le_of_ble_eq_true rfl)
  intro p e s m below meth c ls C hr hlk hP hl
  have C : pCx p s m c cX6_has 2 E RX6 := C
  have hS : va_S (pA E s.heap.size) s.heap s.heap [] := va_S.rf
  have hx := C.1
  have hb := C.2.1
  have hl : lv_has ls 2 [(0, .ref (pL E (22 + k))), (1, .int a0)] := hl
  unfold f_X6_has at hf
  refine lv_iload_n hx hb dX6_has_0 rfl (lv_at hl 1 rfl) ?_
  refine lv_if_lt (tgt := 16) hx hb dX6_has_1 (by decide) (fun h1 => ?_) (fun h1 => ?_)
  · have hf := pif_t hf h1
    refine lv_iconst (v := 0) hx hb dX6_has_16 (by decide) ?_
    exact p_zret C hr hlk (Or.inl rfl) (pe1 hf) (pe2C hf) hP hS dX6_has_17
  · have hf := pif_f hf h1
    refine lv_iload_n hx hb dX6_has_4 rfl (lv_at hl 1 rfl) ?_
    refine lv_aload_n hx hb dX6_has_5 rfl (lv_at hl 0 rfl) ?_
    refine g_6_21 C hP (k := k) hk dX6_has_6 ?_
    refine lv_icmp_ge (tgt := 16) hx hb dX6_has_9 (by decide) (fun h2 => ?_) (fun h2 => ?_)
    · have hf := pif_t hf h2
      refine lv_iconst (v := 0) hx hb dX6_has_16 (by decide) ?_
      exact p_zret C hr hlk (Or.inl rfl) (pe1 hf) (pe2C hf) hP hS dX6_has_17
    · have hf := pif_f hf h2
      refine lv_iconst (v := 1) hx hb dX6_has_12 (by decide) ?_
      refine lv_goto (tgt := 17) hx hb dX6_has_13 (by decide) ?_
      exact p_zret C hr hlk (Or.inr rfl) (pe1 hf) (pe2C hf) hP hS dX6_has_17
set_option maxHeartbeats 4000000 in
set_option maxRecDepth 100000 in
theorem c_X6_at (l : Launch) {E : pE} (hE : pInj E) {β : pSt} {k : Nat} (hk : k < 11) {a0 : Int32} {α α' : pSt} {r : Int32} (hf : f_X6_at k a0 α = some (r, α')) : pM l E yX6_at cX6_at 2 (some .int) 0 [.ref (pL E (22 + k)), .int a0] α β (some (.int r)) α' β := by
  refine pM.ofW hE (by decide) ?_ (Nat.le_of_ble_eq_true rfl)
  intro p e s m below meth c ls C hr hlk hP hl
  have C : pCx p s m c cX6_at 2 E RX6 := C
  have hS : va_S (pA E s.heap.size) s.heap s.heap [] := va_S.rf
  have hx := C.1
  have hb := C.2.1
  have hl : lv_has ls 2 [(0, .ref (pL E (22 + k))), (1, .int a0)] := hl
  unfold f_X6_at at hf
  refine lv_iload_n hx hb dX6_at_0 rfl (lv_at hl 1 rfl) ?_
  refine lv_if_lt (tgt := 21) hx hb dX6_at_1 (by decide) (fun h1 => ?_) (fun h1 => ?_)
  · have hf := pif_t hf h1
    refine lv_iconst (v := 0) hx hb dX6_at_21 (by decide) ?_
    exact p_iret C hr hlk (pe1 hf) (pe2C hf) hP hS dX6_at_22
  · have hf := pif_f hf h1
    refine lv_iload_n hx hb dX6_at_4 rfl (lv_at hl 1 rfl) ?_
    refine lv_aload_n hx hb dX6_at_5 rfl (lv_at hl 0 rfl) ?_
    refine g_6_21 C hP (k := k) hk dX6_at_6 ?_
    refine lv_icmp_ge (tgt := 21) hx hb dX6_at_9 (by decide) (fun h2 => ?_) (fun h2 => ?_)
    · have hf := pif_t hf h2
      refine lv_iconst (v := 0) hx hb dX6_at_21 (by decide) ?_
      exact p_iret C hr hlk (pe1 hf) (pe2C hf) hP hS dX6_at_22
    · have hf := pif_f hf h2
      refine lv_aload_n hx hb dX6_at_12 rfl (lv_at hl 0 rfl) ?_
      refine g_6_15 C hP (k := k) hk dX6_at_13 ?_
      refine lv_iload_n hx hb dX6_at_16 rfl (lv_at hl 1 rfl) ?_
      obtain ⟨h3, hf⟩ := pg_ok hf
      refine la_bytes C hP (k := k) hk h3 dX6_at_17 ?_
      refine lv_goto (tgt := 22) hx hb dX6_at_18 (by decide) ?_
      exact p_iret C hr hlk (pe1 hf) (pe2C hf) hP hS dX6_at_22
set_option maxHeartbeats 4000000 in
set_option maxRecDepth 100000 in
theorem c_X6_put (l : Launch) {E : pE} (hE : pInj E) {β : pSt} {k : Nat} (hk : k < 11) {a0 : Int32} {a1 : Int32} {α α' : pSt} {r : Unit} (hf : f_X6_put k a0 a1 α = some (r, α')) : pM l E yX6_put cX6_put 3 none 0 [.ref (pL E (22 + k)), .int a0, .int a1] α β none α' β := by
  refine pM.ofW hE (by decide) ?_ (Nat.le_of_ble_eq_true rfl)
  intro p e s m below meth c ls C hr hlk hP hl
  have C : pCx p s m c cX6_put 3 E RX6 := C
  have hS : va_S (pA E s.heap.size) s.heap s.heap [] := va_S.rf
  have hx := C.1
  have hb := C.2.1
  have hl : lv_has ls 3 [(0, .ref (pL E (22 + k))), (1, .int a0), (2, .int a1)] := hl
  unfold f_X6_put at hf
  refine lv_iload_n hx hb dX6_put_0 rfl (lv_at hl 1 rfl) ?_
  refine lv_if_lt (tgt := 23) hx hb dX6_put_1 (by decide) (fun h1 => ?_) (fun h1 => ?_)
  · have hf := pif_t hf h1
    exact p_vret C hr hlk (pe2C hf) hP hS dX6_put_23
  · have hf := pif_f hf h1
    refine lv_iload_n hx hb dX6_put_4 rfl (lv_at hl 1 rfl) ?_
    refine lv_aload_n hx hb dX6_put_5 rfl (lv_at hl 0 rfl) ?_
    refine g_6_21 C hP (k := k) hk dX6_put_6 ?_
    refine lv_icmp_ge (tgt := 23) hx hb dX6_put_9 (by decide) (fun h2 => ?_) (fun h2 => ?_)
    · have hf := pif_t hf h2
      exact p_vret C hr hlk (pe2C hf) hP hS dX6_put_23
    · have hf := pif_f hf h2
      refine lv_aload_n hx hb dX6_put_12 rfl (lv_at hl 0 rfl) ?_
      refine g_6_15 C hP (k := k) hk dX6_put_13 ?_
      refine lv_iload_n hx hb dX6_put_16 rfl (lv_at hl 1 rfl) ?_
      refine lv_iload_n hx hb dX6_put_17 rfl (lv_at hl 2 rfl) ?_
      refine lv_sipush (v := 255) hx hb dX6_put_18 (by decide) ?_
      refine lv_iand hx hb dX6_put_21 ?_
      obtain ⟨h3, hf⟩ := pg_ok hf
      refine sa_bytes C hP hS (k := k) hk h3 dX6_put_22 (fun H locs hP hS => ?_)
      obtain ⟨α4, eα4, hf⟩ := pl_ok hf
      rw [← eα4] at hP
      clear eα4
      exact p_vret C hr hlk (pe2C hf) hP hS dX6_put_23
set_option maxHeartbeats 4000000 in
set_option maxRecDepth 100000 in
theorem c_X6_append (l : Launch) {E : pE} (hE : pInj E) {β : pSt} {k : Nat} (hk : k < 11) {a0 : Int32} {α α' : pSt} {r : Int32} (hf : f_X6_append k a0 α = some (r, α')) : pM l E yX6_append cX6_append 2 (some .boolean) 0 [.ref (pL E (22 + k)), .int a0] α β (some (.int r)) α' β := by
  refine pM.ofW hE (by decide) ?_ (Nat.le_of_ble_eq_true rfl)
  intro p e s m below meth c ls C hr hlk hP hl
  have C : pCx p s m c cX6_append 2 E RX6 := C
  have hS : va_S (pA E s.heap.size) s.heap s.heap [] := va_S.rf
  have hx := C.1
  have hb := C.2.1
  have hl : lv_has ls 2 [(0, .ref (pL E (22 + k))), (1, .int a0)] := hl
  unfold f_X6_append at hf
  refine lv_aload_n hx hb dX6_append_0 rfl (lv_at hl 0 rfl) ?_
  refine g_6_21 C hP (k := k) hk dX6_append_1 ?_
  refine lv_aload_n hx hb dX6_append_4 rfl (lv_at hl 0 rfl) ?_
  refine g_6_15 C hP (k := k) hk dX6_append_5 ?_
  refine ln_bytes C hP (k := k) hk dX6_append_8 ?_
  refine lv_icmp_lt (tgt := 14) hx hb dX6_append_9 (by decide) (fun h1 => ?_) (fun h1 => ?_)
  · have hf := pif_t hf h1
    refine lv_aload_n hx hb dX6_append_14 rfl (lv_at hl 0 rfl) ?_
    refine g_6_15 C hP (k := k) hk dX6_append_15 ?_
    refine lv_aload_n hx hb dX6_append_18 rfl (lv_at hl 0 rfl) ?_
    refine g_6_21 C hP (k := k) hk dX6_append_19 ?_
    refine lv_iload_n hx hb dX6_append_22 rfl (lv_at hl 1 rfl) ?_
    refine lv_sipush (v := 255) hx hb dX6_append_23 (by decide) ?_
    refine lv_iand hx hb dX6_append_26 ?_
    obtain ⟨h2, hf⟩ := pg_ok hf
    refine sa_bytes C hP hS (k := k) hk h2 dX6_append_27 (fun H locs hP hS => ?_)
    obtain ⟨α3, eα3, hf⟩ := pl_ok hf
    rw [← eα3] at hP
    clear eα3
    refine lv_aload_n hx hb dX6_append_28 rfl (lv_at hl 0 rfl) ?_
    refine lv_dup hx hb dX6_append_29 rfl ?_
    refine g_6_21 C hP (k := k) hk dX6_append_30 ?_
    refine lv_iconst (v := 1) hx hb dX6_append_33 (by decide) ?_
    refine lv_iadd hx hb dX6_append_34 ?_
    refine s_6_21 C hP hS (k := k) hk dX6_append_35 (fun H locs hP hS => ?_)
    obtain ⟨α4, eα4, hf⟩ := pl_ok hf
    rw [← eα4] at hP
    clear eα4
    refine lv_iconst (v := 1) hx hb dX6_append_38 (by decide) ?_
    exact p_zret C hr hlk (Or.inr rfl) (pe1 hf) (pe2C hf) hP hS dX6_append_39
  · have hf := pif_f hf h1
    refine lv_iconst (v := 0) hx hb dX6_append_12 (by decide) ?_
    exact p_zret C hr hlk (Or.inl rfl) (pe1 hf) (pe2C hf) hP hS dX6_append_13
set_option maxHeartbeats 4000000 in
set_option maxRecDepth 100000 in
theorem c_X6_empty (l : Launch) {E : pE} (hE : pInj E) {β : pSt} {k : Nat} (hk : k < 11) {α α' : pSt} {r : Unit} (hf : f_X6_empty k α = some (r, α')) : pM l E yX6_empty cX6_empty 1 none 0 [.ref (pL E (22 + k))] α β none α' β := by
  refine pM.ofW hE (by decide) ?_ (Nat.le_of_ble_eq_true rfl)
  intro p e s m below meth c ls C hr hlk hP hl
  have C : pCx p s m c cX6_empty 1 E RX6 := C
  have hS : va_S (pA E s.heap.size) s.heap s.heap [] := va_S.rf
  have hx := C.1
  have hb := C.2.1
  have hl : lv_has ls 1 [(0, .ref (pL E (22 + k)))] := hl
  unfold f_X6_empty at hf
  refine lv_aload_n hx hb dX6_empty_0 rfl (lv_at hl 0 rfl) ?_
  refine lv_iconst (v := 0) hx hb dX6_empty_1 (by decide) ?_
  refine s_6_21 C hP hS (k := k) hk dX6_empty_2 (fun H locs hP hS => ?_)
  obtain ⟨α1, eα1, hf⟩ := pl_ok hf
  rw [← eα1] at hP
  clear eα1
  exact p_vret C hr hlk (pe2C hf) hP hS dX6_empty_5
set_option maxHeartbeats 4000000 in
set_option maxRecDepth 100000 in
theorem c_X6_keep (l : Launch) {E : pE} (hE : pInj E) {β : pSt} {k : Nat} (hk : k < 11) {α α' : pSt} {r : Unit} (hf : f_X6_keep k α = some (r, α')) : pM l E yX6_keep cX6_keep 1 none 0 [.ref (pL E (22 + k))] α β none α' β := by
  refine pM.ofW hE (by decide) ?_ (Nat.le_of_ble_eq_true rfl)
  intro p e s m below meth c ls C hr hlk hP hl
  have C : pCx p s m c cX6_keep 1 E RX6 := C
  have hS : va_S (pA E s.heap.size) s.heap s.heap [] := va_S.rf
  have hx := C.1
  have hb := C.2.1
  have hl : lv_has ls 1 [(0, .ref (pL E (22 + k)))] := hl
  unfold f_X6_keep at hf
  refine lv_aload_n hx hb dX6_keep_0 rfl (lv_at hl 0 rfl) ?_
  refine lv_aload_n hx hb dX6_keep_1 rfl (lv_at hl 0 rfl) ?_
  refine g_6_21 C hP (k := k) hk dX6_keep_2 ?_
  refine s_6_40 C hP hS (k := k) hk dX6_keep_5 (fun H locs hP hS => ?_)
  obtain ⟨α1, eα1, hf⟩ := pl_ok hf
  rw [← eα1] at hP
  clear eα1
  exact p_vret C hr hlk (pe2C hf) hP hS dX6_keep_8
set_option maxHeartbeats 4000000 in
set_option maxRecDepth 100000 in
theorem c_X7_takeSteps (l : Launch) {E : pE} (hE : pInj E) {β : pSt} {q0 : Nat} (hq0 : q0 < 6) {a1 : Int32} {α α' : pSt} {r : Int32} (hf : f_X7_takeSteps q0 a1 α = some (r, α')) : pM l E yX7_takeSteps cX7_takeSteps 3 (some .boolean) 0 [.ref (pL E 2), .ref (pL E (16 + q0)), .int a1] α β (some (.int r)) α' β := by
  refine pM.ofW hE (by decide) ?_ (Nat.le_of_ble_eq_true rfl)
  intro p e s m below meth c ls C hr hlk hP hl
  have C : pCx p s m c cX7_takeSteps 3 E RX7 := C
  have hS : va_S (pA E s.heap.size) s.heap s.heap [] := va_S.rf
  have hx := C.1
  have hb := C.2.1
  have hl : lv_has ls 3 [(0, .ref (pL E 2)), (1, .ref (pL E (16 + q0))), (2, .int a1)] := hl
  unfold f_X7_takeSteps at hf
  refine lv_iload_n hx hb dX7_takeSteps_0 rfl (lv_at hl 2 rfl) ?_
  refine lv_aload_n hx hb dX7_takeSteps_1 rfl (lv_at hl 0 rfl) ?_
  refine g_7_81 C hP dX7_takeSteps_2 ?_
  refine lv_aload_n hx hb dX7_takeSteps_5 rfl (lv_at hl 0 rfl) ?_
  refine g_7_88 C hP dX7_takeSteps_6 ?_
  refine lv_isub hx hb dX7_takeSteps_9 ?_
  refine lv_icmp_le (tgt := 21) hx hb dX7_takeSteps_10 (by decide) (fun h1 => ?_) (fun h1 => ?_)
  · have hf := pif_t hf h1
    refine lv_aload_n hx hb dX7_takeSteps_21 rfl (lv_at hl 0 rfl) ?_
    refine lv_dup hx hb dX7_takeSteps_22 rfl ?_
    refine g_7_88 C hP dX7_takeSteps_23 ?_
    refine lv_iload_n hx hb dX7_takeSteps_26 rfl (lv_at hl 2 rfl) ?_
    refine lv_iadd hx hb dX7_takeSteps_27 ?_
    refine s_7_88 C hP hS dX7_takeSteps_28 (fun H locs hP hS => ?_)
    obtain ⟨α2, eα2, hf⟩ := pl_ok hf
    rw [← eα2] at hP
    clear eα2
    refine lv_aload_n hx hb dX7_takeSteps_31 rfl (lv_at hl 1 rfl) ?_
    refine lv_dup hx hb dX7_takeSteps_32 rfl ?_
    refine g_7_186 C hP (k := q0) hq0 dX7_takeSteps_33 ?_
    refine lv_iload_n hx hb dX7_takeSteps_36 rfl (lv_at hl 2 rfl) ?_
    refine lv_iadd hx hb dX7_takeSteps_37 ?_
    refine s_7_186 C hP hS (k := q0) hq0 dX7_takeSteps_38 (fun H locs hP hS => ?_)
    obtain ⟨α3, eα3, hf⟩ := pl_ok hf
    rw [← eα3] at hP
    clear eα3
    refine lv_iconst (v := 1) hx hb dX7_takeSteps_41 (by decide) ?_
    exact p_zret C hr hlk (Or.inr rfl) (pe1 hf) (pe2C hf) hP hS dX7_takeSteps_42
  · have hf := pif_f hf h1
    refine lv_aload_n hx hb dX7_takeSteps_13 rfl (lv_at hl 0 rfl) ?_
    refine lv_bipush (v := (-11)) hx hb dX7_takeSteps_14 (by decide) ?_
    refine s_7_57 C hP hS dX7_takeSteps_16 (fun H locs hP hS => ?_)
    obtain ⟨α4, eα4, hf⟩ := pl_ok hf
    rw [← eα4] at hP
    clear eα4
    refine lv_iconst (v := 0) hx hb dX7_takeSteps_19 (by decide) ?_
    exact p_zret C hr hlk (Or.inl rfl) (pe1 hf) (pe2C hf) hP hS dX7_takeSteps_20
set_option maxHeartbeats 4000000 in
set_option maxRecDepth 100000 in
theorem c_X7_claim (l : Launch) {E : pE} (hE : pInj E) {β : pSt} {a0 : Int32} {α α' : pSt} {r : Unit} (hf : f_X7_claim a0 α = some (r, α')) : pM l E yX7_claim cX7_claim 2 none 0 [.ref (pL E 2), .int a0] α β none α' β := by
  refine pM.ofW hE (by decide) ?_ (Nat.le_of_ble_eq_true rfl)
  intro p e s m below meth c ls C hr hlk hP hl
  have C : pCx p s m c cX7_claim 2 E RX7 := C
  have hS : va_S (pA E s.heap.size) s.heap s.heap [] := va_S.rf
  have hx := C.1
  have hb := C.2.1
  have hl : lv_has ls 2 [(0, .ref (pL E 2)), (1, .int a0)] := hl
  unfold f_X7_claim at hf
  refine lv_iload_n hx hb dX7_claim_0 rfl (lv_at hl 1 rfl) ?_
  refine lv_if_lt (tgt := 23) hx hb dX7_claim_1 (by decide) (fun h1 => ?_) (fun h1 => ?_)
  · have hf := pif_t hf h1
    exact p_vret C hr hlk (pe2C hf) hP hS dX7_claim_23
  · have hf := pif_f hf h1
    refine lv_iload_n hx hb dX7_claim_4 rfl (lv_at hl 1 rfl) ?_
    refine lv_aload_n hx hb dX7_claim_5 rfl (lv_at hl 0 rfl) ?_
    refine g_7_43 C hP dX7_claim_6 ?_
    refine ln_claimants C hP dX7_claim_9 ?_
    refine lv_icmp_ge (tgt := 23) hx hb dX7_claim_10 (by decide) (fun h2 => ?_) (fun h2 => ?_)
    · have hf := pif_t hf h2
      exact p_vret C hr hlk (pe2C hf) hP hS dX7_claim_23
    · have hf := pif_f hf h2
      refine lv_aload_n hx hb dX7_claim_13 rfl (lv_at hl 0 rfl) ?_
      refine g_7_43 C hP dX7_claim_14 ?_
      refine lv_iload_n hx hb dX7_claim_17 rfl (lv_at hl 1 rfl) ?_
      refine lv_aload_n hx hb dX7_claim_18 rfl (lv_at hl 0 rfl) ?_
      refine g_7_118 C hP dX7_claim_19 ?_
      obtain ⟨h3, hf⟩ := pg_ok hf
      refine sa_claimants C hP hS h3 dX7_claim_22 (fun H locs hP hS => ?_)
      obtain ⟨α4, eα4, hf⟩ := pl_ok hf
      rw [← eα4] at hP
      clear eα4
      exact p_vret C hr hlk (pe2C hf) hP hS dX7_claim_23
set_option maxHeartbeats 4000000 in
set_option maxRecDepth 100000 in
theorem c_X7_stop (l : Launch) {E : pE} (hE : pInj E) {β : pSt} {q0 : Nat} (hq0 : q0 < 6) {α α' : pSt} {r : Unit} (hf : f_X7_stop q0 α = some (r, α')) : pM l E yX7_stop cX7_stop 2 none 0 [.ref (pL E 2), .ref (pL E (16 + q0))] α β none α' β := by
  refine pM.ofW hE (by decide) ?_ (Nat.le_of_ble_eq_true rfl)
  intro p e s m below meth c ls C hr hlk hP hl
  have C : pCx p s m c cX7_stop 2 E RX7 := C
  have hS : va_S (pA E s.heap.size) s.heap s.heap [] := va_S.rf
  have hx := C.1
  have hb := C.2.1
  have hl : lv_has ls 2 [(0, .ref (pL E 2)), (1, .ref (pL E (16 + q0)))] := hl
  unfold f_X7_stop at hf
  refine lv_aload_n hx hb dX7_stop_0 rfl (lv_at hl 1 rfl) ?_
  refine lv_iconst (v := 1) hx hb dX7_stop_1 (by decide) ?_
  refine s_7_129 C hP hS (k := q0) hq0 (Or.inr rfl) dX7_stop_2 (fun H locs hP hS => ?_)
  obtain ⟨α1, eα1, hf⟩ := pl_ok hf
  rw [← eα1] at hP
  clear eα1
  refine lv_aload_n hx hb dX7_stop_5 rfl (lv_at hl 0 rfl) ?_
  refine g_7_84 C hP dX7_stop_6 ?_
  refine lv_if_ne (tgt := 18) hx hb dX7_stop_9 (by decide) (fun h2 => ?_) (fun h2 => ?_)
  · have hf := pif_f hf h2
    exact p_vret C hr hlk (pe2C hf) hP hS dX7_stop_18
  · have hf := pif_t hf h2
    refine lv_aload_n hx hb dX7_stop_12 rfl (lv_at hl 0 rfl) ?_
    refine lv_bipush (v := (-12)) hx hb dX7_stop_13 (by decide) ?_
    refine s_7_57 C hP hS dX7_stop_15 (fun H locs hP hS => ?_)
    obtain ⟨α3, eα3, hf⟩ := pl_ok hf
    rw [← eα3] at hP
    clear eα3
    exact p_vret C hr hlk (pe2C hf) hP hS dX7_stop_18
set_option maxHeartbeats 4000000 in
set_option maxRecDepth 100000 in
theorem c_X7_optionAt (l : Launch) {E : pE} (hE : pInj E) {β : pSt} {a0 : Int32} {α α' : pSt} {r : Int32} (hf : f_X7_optionAt a0 α = some (r, α')) : pM l E yX7_optionAt cX7_optionAt 2 (some .int) 0 [.ref (pL E 2), .int a0] α β (some (.int r)) α' β := by
  refine pM.ofW hE (by decide) ?_ (Nat.le_of_ble_eq_true rfl)
  intro p e s m below meth c ls C hr hlk hP hl
  have C : pCx p s m c cX7_optionAt 2 E RX7 := C
  have hS : va_S (pA E s.heap.size) s.heap s.heap [] := va_S.rf
  have hx := C.1
  have hb := C.2.1
  have hl : lv_has ls 2 [(0, .ref (pL E 2)), (1, .int a0)] := hl
  unfold f_X7_optionAt at hf
  refine lv_iload_n hx hb dX7_optionAt_0 rfl (lv_at hl 1 rfl) ?_
  refine lv_if_lt (tgt := 22) hx hb dX7_optionAt_1 (by decide) (fun h1 => ?_) (fun h1 => ?_)
  · have hf := pif_t hf h1
    refine lv_iconst (v := 0) hx hb dX7_optionAt_22 (by decide) ?_
    exact p_iret C hr hlk (pe1 hf) (pe2C hf) hP hS dX7_optionAt_23
  · have hf := pif_f hf h1
    refine lv_iload_n hx hb dX7_optionAt_4 rfl (lv_at hl 1 rfl) ?_
    refine lv_aload_n hx hb dX7_optionAt_5 rfl (lv_at hl 0 rfl) ?_
    refine g_7_39 C hP dX7_optionAt_6 ?_
    refine ln_options C hP dX7_optionAt_9 ?_
    refine lv_icmp_ge (tgt := 22) hx hb dX7_optionAt_10 (by decide) (fun h2 => ?_) (fun h2 => ?_)
    · have hf := pif_t hf h2
      refine lv_iconst (v := 0) hx hb dX7_optionAt_22 (by decide) ?_
      exact p_iret C hr hlk (pe1 hf) (pe2C hf) hP hS dX7_optionAt_23
    · have hf := pif_f hf h2
      refine lv_aload_n hx hb dX7_optionAt_13 rfl (lv_at hl 0 rfl) ?_
      refine g_7_39 C hP dX7_optionAt_14 ?_
      refine lv_iload_n hx hb dX7_optionAt_17 rfl (lv_at hl 1 rfl) ?_
      obtain ⟨h3, hf⟩ := pg_ok hf
      refine la_options C hP h3 dX7_optionAt_18 ?_
      refine lv_goto (tgt := 23) hx hb dX7_optionAt_19 (by decide) ?_
      exact p_iret C hr hlk (pe1 hf) (pe2C hf) hP hS dX7_optionAt_23
set_option maxHeartbeats 4000000 in
set_option maxRecDepth 100000 in
theorem c_X8_size (l : Launch) {E : pE} (hE : pInj E) {β : pSt}  {α α' : pSt} {r : Int32} (hf : f_X8_size  α = some (r, α')) : pM l E yX8_size cX8_size 1 (some .int) 0 [.ref (pL E 5)] α β (some (.int r)) α' β := by
  refine pM.ofW hE (by decide) ?_ (Nat.le_of_ble_eq_true rfl)
  intro p e s m below meth c ls C hr hlk hP hl
  have C : pCx p s m c cX8_size 1 E RX8 := C
  have hS : va_S (pA E s.heap.size) s.heap s.heap [] := va_S.rf
  have hx := C.1
  have hb := C.2.1
  have hl : lv_has ls 1 [(0, .ref (pL E 5))] := hl
  unfold f_X8_size at hf
  refine lv_aload_n hx hb dX8_size_0 rfl (lv_at hl 0 rfl) ?_
  refine g_8_28 C hP dX8_size_1 ?_
  exact p_iret C hr hlk (pe1 hf) (pe2C hf) hP hS dX8_size_4
set_option maxHeartbeats 4000000 in
set_option maxRecDepth 100000 in
theorem c_X8_isFull (l : Launch) {E : pE} (hE : pInj E) {β : pSt}  {α α' : pSt} {r : Int32} (hf : f_X8_isFull  α = some (r, α')) : pM l E yX8_isFull cX8_isFull 1 (some .boolean) 0 [.ref (pL E 5)] α β (some (.int r)) α' β := by
  refine pM.ofW hE (by decide) ?_ (Nat.le_of_ble_eq_true rfl)
  intro p e s m below meth c ls C hr hlk hP hl
  have C : pCx p s m c cX8_isFull 1 E RX8 := C
  have hS : va_S (pA E s.heap.size) s.heap s.heap [] := va_S.rf
  have hx := C.1
  have hb := C.2.1
  have hl : lv_has ls 1 [(0, .ref (pL E 5))] := hl
  unfold f_X8_isFull at hf
  refine lv_aload_n hx hb dX8_isFull_0 rfl (lv_at hl 0 rfl) ?_
  refine g_8_28 C hP dX8_isFull_1 ?_
  refine lv_bipush (v := 40) hx hb dX8_isFull_4 (by decide) ?_
  refine lv_icmp_lt (tgt := 13) hx hb dX8_isFull_6 (by decide) (fun h1 => ?_) (fun h1 => ?_)
  · have hf := pif_t hf h1
    refine lv_iconst (v := 0) hx hb dX8_isFull_13 (by decide) ?_
    exact p_zret C hr hlk (Or.inl rfl) (pe1 hf) (pe2C hf) hP hS dX8_isFull_14
  · have hf := pif_f hf h1
    refine lv_iconst (v := 1) hx hb dX8_isFull_9 (by decide) ?_
    refine lv_goto (tgt := 14) hx hb dX8_isFull_10 (by decide) ?_
    exact p_zret C hr hlk (Or.inr rfl) (pe1 hf) (pe2C hf) hP hS dX8_isFull_14
set_option maxHeartbeats 4000000 in
set_option maxRecDepth 100000 in
theorem c_X8_has (l : Launch) {E : pE} (hE : pInj E) {β : pSt} {a0 : Int32} {α α' : pSt} {r : Int32} (hf : f_X8_has a0 α = some (r, α')) : pM l E yX8_has cX8_has 2 (some .boolean) 0 [.ref (pL E 5), .int a0] α β (some (.int r)) α' β := by
  refine pM.ofW hE (by decide) ?_ (Nat.le_of_ble_eq_true rfl)
  intro p e s m below meth c ls C hr hlk hP hl
  have C : pCx p s m c cX8_has 2 E RX8 := C
  have hS : va_S (pA E s.heap.size) s.heap s.heap [] := va_S.rf
  have hx := C.1
  have hb := C.2.1
  have hl : lv_has ls 2 [(0, .ref (pL E 5)), (1, .int a0)] := hl
  unfold f_X8_has at hf
  refine lv_iload_n hx hb dX8_has_0 rfl (lv_at hl 1 rfl) ?_
  refine lv_if_lt (tgt := 16) hx hb dX8_has_1 (by decide) (fun h1 => ?_) (fun h1 => ?_)
  · have hf := pif_t hf h1
    refine lv_iconst (v := 0) hx hb dX8_has_16 (by decide) ?_
    exact p_zret C hr hlk (Or.inl rfl) (pe1 hf) (pe2C hf) hP hS dX8_has_17
  · have hf := pif_f hf h1
    refine lv_iload_n hx hb dX8_has_4 rfl (lv_at hl 1 rfl) ?_
    refine lv_aload_n hx hb dX8_has_5 rfl (lv_at hl 0 rfl) ?_
    refine g_8_28 C hP dX8_has_6 ?_
    refine lv_icmp_ge (tgt := 16) hx hb dX8_has_9 (by decide) (fun h2 => ?_) (fun h2 => ?_)
    · have hf := pif_t hf h2
      refine lv_iconst (v := 0) hx hb dX8_has_16 (by decide) ?_
      exact p_zret C hr hlk (Or.inl rfl) (pe1 hf) (pe2C hf) hP hS dX8_has_17
    · have hf := pif_f hf h2
      refine lv_iconst (v := 1) hx hb dX8_has_12 (by decide) ?_
      refine lv_goto (tgt := 17) hx hb dX8_has_13 (by decide) ?_
      exact p_zret C hr hlk (Or.inr rfl) (pe1 hf) (pe2C hf) hP hS dX8_has_17
set_option maxHeartbeats 4000000 in
set_option maxRecDepth 100000 in
theorem c_X8_bears (l : Launch) {E : pE} (hE : pInj E) {β : pSt} {a0 : Int32} {α α' : pSt} {r : Int32} (hf : f_X8_bears a0 α = some (r, α')) : pM l E yX8_bears cX8_bears 3 (some .boolean) 0 [.ref (pL E 5), .int a0] α β (some (.int r)) α' β := by
  refine pM.ofW hE (by decide) ?_ (Nat.le_of_ble_eq_true rfl)
  intro p e s m below meth c ls C hr hlk hP hl
  have C : pCx p s m c cX8_bears 3 E RX8 := C
  have hS : va_S (pA E s.heap.size) s.heap s.heap [] := va_S.rf
  have hx := C.1
  have hb := C.2.1
  have hl : lv_has ls 3 [(0, .ref (pL E 5)), (1, .int a0)] := hl
  unfold f_X8_bears at hf
  refine lv_iconst (v := 0) hx hb dX8_bears_0 (by decide) ?_
  refine lv_istore_n (lv' := [(2, .int 0), (0, .ref (pL E 5)), (1, .int a0)]) hx hb dX8_bears_1 rfl hl (by decide) rfl (fun ls hl => ?_)
  have lp2 : ∀ (n : Nat) (x2 : Int32) (α : pSt) (H : Heap) (locs : List Loc) (ls : Array Slot), f_X8_bears_L2 a0 n x2 α = some (r, α') → va_P (pD E) vwCl (pw E α β) H → va_S (pA E s.heap.size) s.heap H locs → lv_has ls 3 [(2, .int x2), (0, .ref (pL E 5)), (1, .int a0)] → W p l e (pR 0) s m [.ref (pL E 5), .int a0].toArray below meth c H locs 0 0 (pQ below E s [.ref (pL E 5), .int a0].toArray (some (.int r)) α' β) (F0 m 2 ls []) := by
    intro n
    induction n with
    | zero =>
      intro x2 α H locs ls hf
      rw [f_X8_bears_L2] at hf
      cases hf
    | succ n2 ih2 =>
      intro x2 α H locs ls hf hP hS hl
      rw [f_X8_bears_L2] at hf
      refine lv_iload_n hx hb dX8_bears_2 rfl (lv_at hl 0 rfl) ?_
      refine lv_aload_n hx hb dX8_bears_3 rfl (lv_at hl 1 rfl) ?_
      refine g_8_28 C hP dX8_bears_4 ?_
      refine lv_icmp_ge (tgt := 28) hx hb dX8_bears_7 (by decide) (fun h1 => ?_) (fun h1 => ?_)
      · have hf := pif_t hf h1
        refine lv_iconst (v := 0) hx hb dX8_bears_28 (by decide) ?_
        exact p_zret C hr hlk (Or.inl rfl) (pe1 hf) (pe2C hf) hP hS dX8_bears_29
      · have hf := pif_f hf h1
        refine lv_aload_n hx hb dX8_bears_10 rfl (lv_at hl 1 rfl) ?_
        refine g_8_9 C hP dX8_bears_11 ?_
        refine lv_iload_n hx hb dX8_bears_14 rfl (lv_at hl 0 rfl) ?_
        obtain ⟨h2, hf⟩ := pg_ok hf
        refine la_names C hP h2 dX8_bears_15 ?_
        refine lv_iload_n hx hb dX8_bears_16 rfl (lv_at hl 2 rfl) ?_
        refine lv_icmp_ne (tgt := 22) hx hb dX8_bears_17 (by decide) (fun h3 => ?_) (fun h3 => ?_)
        · have hf := pif_f hf h3
          refine lv_iinc (v := (x2 + 1)) (lv' := [(2, .int (x2 + 1)), (0, .ref (pL E 5)), (1, .int a0)]) hx hb dX8_bears_22 hl (k := 0) rfl rfl (by decide) rfl (fun ls hl => ?_)
          refine lv_goto (tgt := 2) hx hb dX8_bears_25 (by decide) ?_
          exact ih2 _ α _ _ _ hf hP hS (lv_sub hl [0, 1, 2] rfl)
        · have hf := pif_t hf h3
          refine lv_iconst (v := 1) hx hb dX8_bears_20 (by decide) ?_
          exact p_zret C hr hlk (Or.inr rfl) (pe1 hf) (pe2C hf) hP hS dX8_bears_21
  exact lp2 _ _ _ _ _ _ hf hP hS (lv_sub hl [0, 1, 2] rfl)
set_option maxHeartbeats 4000000 in
set_option maxRecDepth 100000 in
theorem c_X8_enter (l : Launch) {E : pE} (hE : pInj E) {β : pSt} {a0 : Int32} {a1 : Int32} {a2 : Int32} {a3 : Int32} {α α' : pSt} {r : Int32} (hf : f_X8_enter a0 a1 a2 a3 α = some (r, α')) : pM l E yX8_enter cX8_enter 5 (some .int) 0 [.ref (pL E 5), .int a0, .int a1, .int a2, .int a3] α β (some (.int r)) α' β := by
  refine pM.ofW hE (by decide) ?_ (Nat.le_of_ble_eq_true rfl)
  intro p e s m below meth c ls C hr hlk hP hl
  have C : pCx p s m c cX8_enter 5 E RX8 := C
  have hS : va_S (pA E s.heap.size) s.heap s.heap [] := va_S.rf
  have hx := C.1
  have hb := C.2.1
  have hl : lv_has ls 5 [(0, .ref (pL E 5)), (1, .int a0), (2, .int a1), (3, .int a2), (4, .int a3)] := hl
  unfold f_X8_enter at hf
  refine lv_aload_n hx hb dX8_enter_0 rfl (lv_at hl 0 rfl) ?_
  refine g_8_28 C hP dX8_enter_1 ?_
  refine lv_bipush (v := 40) hx hb dX8_enter_4 (by decide) ?_
  refine lv_icmp_lt (tgt := 12) hx hb dX8_enter_6 (by decide) (fun h1 => ?_) (fun h1 => ?_)
  · have hf := pif_t hf h1
    refine lv_aload_n hx hb dX8_enter_12 rfl (lv_at hl 0 rfl) ?_
    refine g_8_9 C hP dX8_enter_13 ?_
    refine lv_aload_n hx hb dX8_enter_16 rfl (lv_at hl 0 rfl) ?_
    refine g_8_28 C hP dX8_enter_17 ?_
    refine lv_iload_n hx hb dX8_enter_20 rfl (lv_at hl 1 rfl) ?_
    obtain ⟨h2, hf⟩ := pg_ok hf
    refine sa_names C hP hS h2 dX8_enter_21 (fun H locs hP hS => ?_)
    obtain ⟨α3, eα3, hf⟩ := pl_ok hf
    rw [← eα3] at hP
    clear eα3
    refine lv_aload_n hx hb dX8_enter_22 rfl (lv_at hl 0 rfl) ?_
    refine g_8_15 C hP dX8_enter_23 ?_
    refine lv_aload_n hx hb dX8_enter_26 rfl (lv_at hl 0 rfl) ?_
    refine g_8_28 C hP dX8_enter_27 ?_
    refine lv_iload_n hx hb dX8_enter_30 rfl (lv_at hl 2 rfl) ?_
    obtain ⟨h4, hf⟩ := pg_ok hf
    refine sa_markSets C hP hS h4 dX8_enter_31 (fun H locs hP hS => ?_)
    obtain ⟨α5, eα5, hf⟩ := pl_ok hf
    rw [← eα5] at hP
    clear eα5
    refine lv_aload_n hx hb dX8_enter_32 rfl (lv_at hl 0 rfl) ?_
    refine g_8_18 C hP dX8_enter_33 ?_
    refine lv_aload_n hx hb dX8_enter_36 rfl (lv_at hl 0 rfl) ?_
    refine g_8_28 C hP dX8_enter_37 ?_
    refine lv_iconst (v := 1) hx hb dX8_enter_40 (by decide) ?_
    obtain ⟨h6, hf⟩ := pg_ok hf
    refine sa_fresh C hP hS (Or.inr rfl) h6 dX8_enter_41 (fun H locs hP hS => ?_)
    obtain ⟨α7, eα7, hf⟩ := pl_ok hf
    rw [← eα7] at hP
    clear eα7
    refine lv_aload_n hx hb dX8_enter_42 rfl (lv_at hl 0 rfl) ?_
    refine g_8_22 C hP dX8_enter_43 ?_
    refine lv_aload_n hx hb dX8_enter_46 rfl (lv_at hl 0 rfl) ?_
    refine g_8_28 C hP dX8_enter_47 ?_
    refine lv_iload_n hx hb dX8_enter_50 rfl (lv_at hl 3 rfl) ?_
    obtain ⟨h8, hf⟩ := pg_ok hf
    refine sa_makers C hP hS h8 dX8_enter_51 (fun H locs hP hS => ?_)
    obtain ⟨α9, eα9, hf⟩ := pl_ok hf
    rw [← eα9] at hP
    clear eα9
    refine lv_aload_n hx hb dX8_enter_52 rfl (lv_at hl 0 rfl) ?_
    refine g_8_25 C hP dX8_enter_53 ?_
    refine lv_aload_n hx hb dX8_enter_56 rfl (lv_at hl 0 rfl) ?_
    refine g_8_28 C hP dX8_enter_57 ?_
    refine lv_iload hx hb dX8_enter_60 (lv_at hl 4 rfl) ?_
    obtain ⟨h10, hf⟩ := pg_ok hf
    refine sa_madeIn C hP hS h10 dX8_enter_62 (fun H locs hP hS => ?_)
    obtain ⟨α11, eα11, hf⟩ := pl_ok hf
    rw [← eα11] at hP
    clear eα11
    refine lv_aload_n hx hb dX8_enter_63 rfl (lv_at hl 0 rfl) ?_
    refine lv_dup hx hb dX8_enter_64 rfl ?_
    refine g_8_28 C hP dX8_enter_65 ?_
    refine lv_iconst (v := 1) hx hb dX8_enter_68 (by decide) ?_
    refine lv_iadd hx hb dX8_enter_69 ?_
    refine s_8_28 C hP hS dX8_enter_70 (fun H locs hP hS => ?_)
    obtain ⟨α12, eα12, hf⟩ := pl_ok hf
    rw [← eα12] at hP
    clear eα12
    refine lv_aload_n hx hb dX8_enter_73 rfl (lv_at hl 0 rfl) ?_
    refine g_8_28 C hP dX8_enter_74 ?_
    refine lv_iconst (v := 1) hx hb dX8_enter_77 (by decide) ?_
    refine lv_isub hx hb dX8_enter_78 ?_
    exact p_iret C hr hlk (pe1 hf) (pe2C hf) hP hS dX8_enter_79
  · have hf := pif_f hf h1
    refine lv_bipush (v := (-104)) hx hb dX8_enter_9 (by decide) ?_
    exact p_iret C hr hlk (pe1 hf) (pe2C hf) hP hS dX8_enter_11
set_option maxHeartbeats 4000000 in
set_option maxRecDepth 100000 in
theorem c_X8_nameOf (l : Launch) {E : pE} (hE : pInj E) {β : pSt} {a0 : Int32} {α α' : pSt} {r : Int32} (hf : f_X8_nameOf a0 α = some (r, α')) : pM l E yX8_nameOf cX8_nameOf 2 (some .int) 0 [.ref (pL E 5), .int a0] α β (some (.int r)) α' β := by
  refine pM.ofW hE (by decide) ?_ (Nat.le_of_ble_eq_true rfl)
  intro p e s m below meth c ls C hr hlk hP hl
  have C : pCx p s m c cX8_nameOf 2 E RX8 := C
  have hS : va_S (pA E s.heap.size) s.heap s.heap [] := va_S.rf
  have hx := C.1
  have hb := C.2.1
  have hl : lv_has ls 2 [(0, .ref (pL E 5)), (1, .int a0)] := hl
  unfold f_X8_nameOf at hf
  refine lv_iload_n hx hb dX8_nameOf_0 rfl (lv_at hl 1 rfl) ?_
  refine lv_if_lt (tgt := 21) hx hb dX8_nameOf_1 (by decide) (fun h1 => ?_) (fun h1 => ?_)
  · have hf := pif_t hf h1
    refine lv_iconst (v := (-1)) hx hb dX8_nameOf_21 (by decide) ?_
    exact p_iret C hr hlk (pe1 hf) (pe2C hf) hP hS dX8_nameOf_22
  · have hf := pif_f hf h1
    refine lv_iload_n hx hb dX8_nameOf_4 rfl (lv_at hl 1 rfl) ?_
    refine lv_aload_n hx hb dX8_nameOf_5 rfl (lv_at hl 0 rfl) ?_
    refine g_8_28 C hP dX8_nameOf_6 ?_
    refine lv_icmp_ge (tgt := 21) hx hb dX8_nameOf_9 (by decide) (fun h2 => ?_) (fun h2 => ?_)
    · have hf := pif_t hf h2
      refine lv_iconst (v := (-1)) hx hb dX8_nameOf_21 (by decide) ?_
      exact p_iret C hr hlk (pe1 hf) (pe2C hf) hP hS dX8_nameOf_22
    · have hf := pif_f hf h2
      refine lv_aload_n hx hb dX8_nameOf_12 rfl (lv_at hl 0 rfl) ?_
      refine g_8_9 C hP dX8_nameOf_13 ?_
      refine lv_iload_n hx hb dX8_nameOf_16 rfl (lv_at hl 1 rfl) ?_
      obtain ⟨h3, hf⟩ := pg_ok hf
      refine la_names C hP h3 dX8_nameOf_17 ?_
      refine lv_goto (tgt := 22) hx hb dX8_nameOf_18 (by decide) ?_
      exact p_iret C hr hlk (pe1 hf) (pe2C hf) hP hS dX8_nameOf_22
set_option maxHeartbeats 4000000 in
set_option maxRecDepth 100000 in
theorem c_X8_marksOf (l : Launch) {E : pE} (hE : pInj E) {β : pSt} {a0 : Int32} {α α' : pSt} {r : Int32} (hf : f_X8_marksOf a0 α = some (r, α')) : pM l E yX8_marksOf cX8_marksOf 2 (some .int) 0 [.ref (pL E 5), .int a0] α β (some (.int r)) α' β := by
  refine pM.ofW hE (by decide) ?_ (Nat.le_of_ble_eq_true rfl)
  intro p e s m below meth c ls C hr hlk hP hl
  have C : pCx p s m c cX8_marksOf 2 E RX8 := C
  have hS : va_S (pA E s.heap.size) s.heap s.heap [] := va_S.rf
  have hx := C.1
  have hb := C.2.1
  have hl : lv_has ls 2 [(0, .ref (pL E 5)), (1, .int a0)] := hl
  unfold f_X8_marksOf at hf
  refine lv_iload_n hx hb dX8_marksOf_0 rfl (lv_at hl 1 rfl) ?_
  refine lv_if_lt (tgt := 21) hx hb dX8_marksOf_1 (by decide) (fun h1 => ?_) (fun h1 => ?_)
  · have hf := pif_t hf h1
    refine lv_iconst (v := 0) hx hb dX8_marksOf_21 (by decide) ?_
    exact p_iret C hr hlk (pe1 hf) (pe2C hf) hP hS dX8_marksOf_22
  · have hf := pif_f hf h1
    refine lv_iload_n hx hb dX8_marksOf_4 rfl (lv_at hl 1 rfl) ?_
    refine lv_aload_n hx hb dX8_marksOf_5 rfl (lv_at hl 0 rfl) ?_
    refine g_8_28 C hP dX8_marksOf_6 ?_
    refine lv_icmp_ge (tgt := 21) hx hb dX8_marksOf_9 (by decide) (fun h2 => ?_) (fun h2 => ?_)
    · have hf := pif_t hf h2
      refine lv_iconst (v := 0) hx hb dX8_marksOf_21 (by decide) ?_
      exact p_iret C hr hlk (pe1 hf) (pe2C hf) hP hS dX8_marksOf_22
    · have hf := pif_f hf h2
      refine lv_aload_n hx hb dX8_marksOf_12 rfl (lv_at hl 0 rfl) ?_
      refine g_8_15 C hP dX8_marksOf_13 ?_
      refine lv_iload_n hx hb dX8_marksOf_16 rfl (lv_at hl 1 rfl) ?_
      obtain ⟨h3, hf⟩ := pg_ok hf
      refine la_markSets C hP h3 dX8_marksOf_17 ?_
      refine lv_goto (tgt := 22) hx hb dX8_marksOf_18 (by decide) ?_
      exact p_iret C hr hlk (pe1 hf) (pe2C hf) hP hS dX8_marksOf_22
set_option maxHeartbeats 4000000 in
set_option maxRecDepth 100000 in
theorem c_X8_isNew (l : Launch) {E : pE} (hE : pInj E) {β : pSt} {a0 : Int32} {α α' : pSt} {r : Int32} (hf : f_X8_isNew a0 α = some (r, α')) : pM l E yX8_isNew cX8_isNew 2 (some .boolean) 0 [.ref (pL E 5), .int a0] α β (some (.int r)) α' β := by
  refine pM.ofW hE (by decide) ?_ (Nat.le_of_ble_eq_true rfl)
  intro p e s m below meth c ls C hr hlk hP hl
  have C : pCx p s m c cX8_isNew 2 E RX8 := C
  have hS : va_S (pA E s.heap.size) s.heap s.heap [] := va_S.rf
  have hx := C.1
  have hb := C.2.1
  have hl : lv_has ls 2 [(0, .ref (pL E 5)), (1, .int a0)] := hl
  unfold f_X8_isNew at hf
  refine lv_iload_n hx hb dX8_isNew_0 rfl (lv_at hl 1 rfl) ?_
  refine lv_if_lt (tgt := 25) hx hb dX8_isNew_1 (by decide) (fun h1 => ?_) (fun h1 => ?_)
  · have hf := pif_t hf h1
    refine lv_iconst (v := 0) hx hb dX8_isNew_25 (by decide) ?_
    exact p_zret C hr hlk (Or.inl rfl) (pe1 hf) (pe2C hf) hP hS dX8_isNew_26
  · have hf := pif_f hf h1
    refine lv_iload_n hx hb dX8_isNew_4 rfl (lv_at hl 1 rfl) ?_
    refine lv_aload_n hx hb dX8_isNew_5 rfl (lv_at hl 0 rfl) ?_
    refine g_8_28 C hP dX8_isNew_6 ?_
    refine lv_icmp_ge (tgt := 25) hx hb dX8_isNew_9 (by decide) (fun h2 => ?_) (fun h2 => ?_)
    · have hf := pif_t hf h2
      refine lv_iconst (v := 0) hx hb dX8_isNew_25 (by decide) ?_
      exact p_zret C hr hlk (Or.inl rfl) (pe1 hf) (pe2C hf) hP hS dX8_isNew_26
    · have hf := pif_f hf h2
      refine lv_aload_n hx hb dX8_isNew_12 rfl (lv_at hl 0 rfl) ?_
      refine g_8_18 C hP dX8_isNew_13 ?_
      refine lv_iload_n hx hb dX8_isNew_16 rfl (lv_at hl 1 rfl) ?_
      obtain ⟨h3, hf⟩ := pg_ok hf
      refine la_fresh C hP h3 dX8_isNew_17 ?_
      refine lv_if_eq (tgt := 25) hx hb dX8_isNew_18 (by decide) (fun h4 => ?_) (fun h4 => ?_)
      · have hf := pif_t hf h4
        refine lv_iconst (v := 0) hx hb dX8_isNew_25 (by decide) ?_
        exact p_zret C hr hlk (Or.inl rfl) (pe1 hf) (pe2C hf) hP hS dX8_isNew_26
      · have hf := pif_f hf h4
        refine lv_iconst (v := 1) hx hb dX8_isNew_21 (by decide) ?_
        refine lv_goto (tgt := 26) hx hb dX8_isNew_22 (by decide) ?_
        exact p_zret C hr hlk (Or.inr rfl) (pe1 hf) (pe2C hf) hP hS dX8_isNew_26
set_option maxHeartbeats 4000000 in
set_option maxRecDepth 100000 in
theorem c_X8_retell (l : Launch) {E : pE} (hE : pInj E) {β : pSt} {a0 : Int32} {a1 : Int32} {α α' : pSt} {r : Unit} (hf : f_X8_retell a0 a1 α = some (r, α')) : pM l E yX8_retell cX8_retell 3 none 0 [.ref (pL E 5), .int a0, .int a1] α β none α' β := by
  refine pM.ofW hE (by decide) ?_ (Nat.le_of_ble_eq_true rfl)
  intro p e s m below meth c ls C hr hlk hP hl
  have C : pCx p s m c cX8_retell 3 E RX8 := C
  have hS : va_S (pA E s.heap.size) s.heap s.heap [] := va_S.rf
  have hx := C.1
  have hb := C.2.1
  have hl : lv_has ls 3 [(0, .ref (pL E 5)), (1, .int a0), (2, .int a1)] := hl
  unfold f_X8_retell at hf
  refine lv_iload_n hx hb dX8_retell_0 rfl (lv_at hl 1 rfl) ?_
  refine lv_if_lt (tgt := 26) hx hb dX8_retell_1 (by decide) (fun h1 => ?_) (fun h1 => ?_)
  · have hf := pif_t hf h1
    exact p_vret C hr hlk (pe2C hf) hP hS dX8_retell_26
  · have hf := pif_f hf h1
    refine lv_iload_n hx hb dX8_retell_4 rfl (lv_at hl 1 rfl) ?_
    refine lv_aload_n hx hb dX8_retell_5 rfl (lv_at hl 0 rfl) ?_
    refine g_8_28 C hP dX8_retell_6 ?_
    refine lv_icmp_ge (tgt := 26) hx hb dX8_retell_9 (by decide) (fun h2 => ?_) (fun h2 => ?_)
    · have hf := pif_t hf h2
      exact p_vret C hr hlk (pe2C hf) hP hS dX8_retell_26
    · have hf := pif_f hf h2
      refine lv_aload_n hx hb dX8_retell_12 rfl (lv_at hl 0 rfl) ?_
      refine g_8_15 C hP dX8_retell_13 ?_
      refine lv_iload_n hx hb dX8_retell_16 rfl (lv_at hl 1 rfl) ?_
      refine lv_iload_n hx hb dX8_retell_17 rfl (lv_at hl 2 rfl) ?_
      obtain ⟨h3, hf⟩ := pg_ok hf
      refine sa_markSets C hP hS h3 dX8_retell_18 (fun H locs hP hS => ?_)
      obtain ⟨α4, eα4, hf⟩ := pl_ok hf
      rw [← eα4] at hP
      clear eα4
      refine lv_aload_n hx hb dX8_retell_19 rfl (lv_at hl 0 rfl) ?_
      refine g_8_18 C hP dX8_retell_20 ?_
      refine lv_iload_n hx hb dX8_retell_23 rfl (lv_at hl 1 rfl) ?_
      refine lv_iconst (v := 1) hx hb dX8_retell_24 (by decide) ?_
      obtain ⟨h5, hf⟩ := pg_ok hf
      refine sa_fresh C hP hS (Or.inr rfl) h5 dX8_retell_25 (fun H locs hP hS => ?_)
      obtain ⟨α6, eα6, hf⟩ := pl_ok hf
      rw [← eα6] at hP
      clear eα6
      exact p_vret C hr hlk (pe2C hf) hP hS dX8_retell_26
set_option maxHeartbeats 4000000 in
set_option maxRecDepth 100000 in
theorem c_X8_makeAllNew (l : Launch) {E : pE} (hE : pInj E) {β : pSt}  {α α' : pSt} {r : Unit} (hf : f_X8_makeAllNew  α = some (r, α')) : pM l E yX8_makeAllNew cX8_makeAllNew 2 none 0 [.ref (pL E 5)] α β none α' β := by
  refine pM.ofW hE (by decide) ?_ (Nat.le_of_ble_eq_true rfl)
  intro p e s m below meth c ls C hr hlk hP hl
  have C : pCx p s m c cX8_makeAllNew 2 E RX8 := C
  have hS : va_S (pA E s.heap.size) s.heap s.heap [] := va_S.rf
  have hx := C.1
  have hb := C.2.1
  have hl : lv_has ls 2 [(0, .ref (pL E 5))] := hl
  unfold f_X8_makeAllNew at hf
  refine lv_iconst (v := 0) hx hb dX8_makeAllNew_0 (by decide) ?_
  refine lv_istore_n (lv' := [(1, .int 0), (0, .ref (pL E 5))]) hx hb dX8_makeAllNew_1 rfl hl (by decide) rfl (fun ls hl => ?_)
  have lp2 : ∀ (n : Nat) (x1 : Int32) (α : pSt) (H : Heap) (locs : List Loc) (ls : Array Slot), f_X8_makeAllNew_L2 n x1 α = some (r, α') → va_P (pD E) vwCl (pw E α β) H → va_S (pA E s.heap.size) s.heap H locs → lv_has ls 2 [(1, .int x1), (0, .ref (pL E 5))] → W p l e (pR 0) s m [.ref (pL E 5)].toArray below meth c H locs 0 0 (pQ below E s [.ref (pL E 5)].toArray none α' β) (F0 m 2 ls []) := by
    intro n
    induction n with
    | zero =>
      intro x1 α H locs ls hf
      rw [f_X8_makeAllNew_L2] at hf
      cases hf
    | succ n2 ih2 =>
      intro x1 α H locs ls hf hP hS hl
      rw [f_X8_makeAllNew_L2] at hf
      refine lv_iload_n hx hb dX8_makeAllNew_2 rfl (lv_at hl 0 rfl) ?_
      refine lv_aload_n hx hb dX8_makeAllNew_3 rfl (lv_at hl 1 rfl) ?_
      refine g_8_28 C hP dX8_makeAllNew_4 ?_
      refine lv_icmp_ge (tgt := 23) hx hb dX8_makeAllNew_7 (by decide) (fun h1 => ?_) (fun h1 => ?_)
      · have hf := pif_t hf h1
        exact p_vret C hr hlk (pe2C hf) hP hS dX8_makeAllNew_23
      · have hf := pif_f hf h1
        refine lv_aload_n hx hb dX8_makeAllNew_10 rfl (lv_at hl 1 rfl) ?_
        refine g_8_18 C hP dX8_makeAllNew_11 ?_
        refine lv_iload_n hx hb dX8_makeAllNew_14 rfl (lv_at hl 0 rfl) ?_
        refine lv_iconst (v := 1) hx hb dX8_makeAllNew_15 (by decide) ?_
        obtain ⟨h2, hf⟩ := pg_ok hf
        refine sa_fresh C hP hS (Or.inr rfl) h2 dX8_makeAllNew_16 (fun H locs hP hS => ?_)
        obtain ⟨α3, eα3, hf⟩ := pl_ok hf
        rw [← eα3] at hP
        clear eα3
        refine lv_iinc (v := (x1 + 1)) (lv' := [(1, .int (x1 + 1)), (0, .ref (pL E 5))]) hx hb dX8_makeAllNew_17 hl (k := 0) rfl rfl (by decide) rfl (fun ls hl => ?_)
        refine lv_goto (tgt := 2) hx hb dX8_makeAllNew_20 (by decide) ?_
        exact ih2 _ α3 _ _ _ hf hP hS (lv_sub hl [0, 1] rfl)
  exact lp2 _ _ _ _ _ _ hf hP hS (lv_sub hl [0, 1] rfl)
set_option maxHeartbeats 4000000 in
set_option maxRecDepth 100000 in
theorem c_X8_makeOldAheadOf (l : Launch) {E : pE} (hE : pInj E) {β : pSt} {a0 : Int32} {α α' : pSt} {r : Unit} (hf : f_X8_makeOldAheadOf a0 α = some (r, α')) : pM l E yX8_makeOldAheadOf cX8_makeOldAheadOf 3 none 0 [.ref (pL E 5), .int a0] α β none α' β := by
  refine pM.ofW hE (by decide) ?_ (Nat.le_of_ble_eq_true rfl)
  intro p e s m below meth c ls C hr hlk hP hl
  have C : pCx p s m c cX8_makeOldAheadOf 3 E RX8 := C
  have hS : va_S (pA E s.heap.size) s.heap s.heap [] := va_S.rf
  have hx := C.1
  have hb := C.2.1
  have hl : lv_has ls 3 [(0, .ref (pL E 5)), (1, .int a0)] := hl
  unfold f_X8_makeOldAheadOf at hf
  refine lv_iconst (v := 0) hx hb dX8_makeOldAheadOf_0 (by decide) ?_
  refine lv_istore_n (lv' := [(2, .int 0), (0, .ref (pL E 5)), (1, .int a0)]) hx hb dX8_makeOldAheadOf_1 rfl hl (by decide) rfl (fun ls hl => ?_)
  have lp2 : ∀ (n : Nat) (x2 : Int32) (α : pSt) (H : Heap) (locs : List Loc) (ls : Array Slot), f_X8_makeOldAheadOf_L2 a0 n x2 α = some (r, α') → va_P (pD E) vwCl (pw E α β) H → va_S (pA E s.heap.size) s.heap H locs → lv_has ls 3 [(2, .int x2), (0, .ref (pL E 5)), (1, .int a0)] → W p l e (pR 0) s m [.ref (pL E 5), .int a0].toArray below meth c H locs 0 0 (pQ below E s [.ref (pL E 5), .int a0].toArray none α' β) (F0 m 2 ls []) := by
    intro n
    induction n with
    | zero =>
      intro x2 α H locs ls hf
      rw [f_X8_makeOldAheadOf_L2] at hf
      cases hf
    | succ n2 ih2 =>
      intro x2 α H locs ls hf hP hS hl
      rw [f_X8_makeOldAheadOf_L2] at hf
      refine lv_iload_n hx hb dX8_makeOldAheadOf_2 rfl (lv_at hl 0 rfl) ?_
      refine lv_aload_n hx hb dX8_makeOldAheadOf_3 rfl (lv_at hl 1 rfl) ?_
      refine g_8_28 C hP dX8_makeOldAheadOf_4 ?_
      refine lv_icmp_ge (tgt := 28) hx hb dX8_makeOldAheadOf_7 (by decide) (fun h1 => ?_) (fun h1 => ?_)
      · have hf := pif_t hf h1
        exact p_vret C hr hlk (pe2C hf) hP hS dX8_makeOldAheadOf_28
      · have hf := pif_f hf h1
        refine lv_iload_n hx hb dX8_makeOldAheadOf_10 rfl (lv_at hl 0 rfl) ?_
        refine lv_iload_n hx hb dX8_makeOldAheadOf_11 rfl (lv_at hl 2 rfl) ?_
        refine lv_icmp_ge (tgt := 28) hx hb dX8_makeOldAheadOf_12 (by decide) (fun h2 => ?_) (fun h2 => ?_)
        · have hf := pif_t hf h2
          exact p_vret C hr hlk (pe2C hf) hP hS dX8_makeOldAheadOf_28
        · have hf := pif_f hf h2
          refine lv_aload_n hx hb dX8_makeOldAheadOf_15 rfl (lv_at hl 1 rfl) ?_
          refine g_8_18 C hP dX8_makeOldAheadOf_16 ?_
          refine lv_iload_n hx hb dX8_makeOldAheadOf_19 rfl (lv_at hl 0 rfl) ?_
          refine lv_iconst (v := 0) hx hb dX8_makeOldAheadOf_20 (by decide) ?_
          obtain ⟨h3, hf⟩ := pg_ok hf
          refine sa_fresh C hP hS (Or.inl rfl) h3 dX8_makeOldAheadOf_21 (fun H locs hP hS => ?_)
          obtain ⟨α4, eα4, hf⟩ := pl_ok hf
          rw [← eα4] at hP
          clear eα4
          refine lv_iinc (v := (x2 + 1)) (lv' := [(2, .int (x2 + 1)), (0, .ref (pL E 5)), (1, .int a0)]) hx hb dX8_makeOldAheadOf_22 hl (k := 0) rfl rfl (by decide) rfl (fun ls hl => ?_)
          refine lv_goto (tgt := 2) hx hb dX8_makeOldAheadOf_25 (by decide) ?_
          exact ih2 _ α4 _ _ _ hf hP hS (lv_sub hl [0, 1, 2] rfl)
  exact lp2 _ _ _ _ _ _ hf hP hS (lv_sub hl [0, 1, 2] rfl)
