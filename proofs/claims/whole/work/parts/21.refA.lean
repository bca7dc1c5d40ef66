set_option maxHeartbeats 4000000 in
set_option maxRecDepth 100000 in
theorem c_X10_thrown (l : Launch) {E : pE} (hE : pInj E) {α : pSt}  {β β' : pSt} {r : Int32} (hf : f_X10_thrown  β = some (r, β')) : pM l E yX10_thrown cX10_thrown 1 (some .int) 0 [.ref (pL E 57)] α β (some (.int r)) α β' := by
  refine pM.ofW hE (by decide) ?_ (Nat.le_of_ble_eq_true rfl)
  intro p e s m below meth c ls C hr hlk hP hl
  have C : pCx p s m c cX10_thrown 1 E RX10 := C
  have hS : va_S (pA E s.heap.size) s.heap s.heap [] := va_S.rf
  have hx := C.1
  have hb := C.2.1
  have hl : lv_has ls 1 [(0, .ref (pL E 57))] := hl
  unfold f_X10_thrown at hf
  refine lv_aload_n hx hb dX10_thrown_0 rfl (lv_at hl 0 rfl) ?_
  refine g_10_84 C hP dX10_thrown_1 ?_
  exact p_iret C hr hlk (pe1 hf) (pe2M hf) hP hS dX10_thrown_4
set_option maxHeartbeats 4000000 in
set_option maxRecDepth 100000 in
theorem c_X10_in (l : Launch) {E : pE} (hE : pInj E) {α : pSt} {a0 : Int64} {a1 : Int64} {a2 : Int64} {β β' : pSt} {r : Int32} (hf : f_X10_in a0 a1 a2 β = some (r, β')) : pM l E yX10_in cX10_in 6 (some .boolean) 0 [.long a0, .long a1, .long a2] α β (some (.int r)) α β' := by
  refine pM.ofW hE (by decide) ?_ (Nat.le_of_ble_eq_true rfl)
  intro p e s m below meth c ls C hr hlk hP hl
  have C : pCx p s m c cX10_in 6 E RX10 := C
  have hS : va_S (pA E s.heap.size) s.heap s.heap [] := va_S.rf
  have hx := C.1
  have hb := C.2.1
  have hl : lv_has ls 6 [(0, .long a0), (2, .long a1), (4, .long a2)] := hl
  unfold f_X10_in at hf
  refine lv_lload_n hx hb dX10_in_0 rfl (lv_at hl 0 rfl) ?_
  refine lv_lload_n hx hb dX10_in_1 rfl (lv_at hl 1 rfl) ?_
  refine W.lcmp hx hb dX10_in_2 ?_
  refine lv_if_lt (tgt := 17) hx hb dX10_in_3 (by decide) (fun h1 => ?_) (fun h1 => ?_)
  · have hf := pif_t hf h1
    refine lv_iconst (v := 0) hx hb dX10_in_17 (by decide) ?_
    exact p_zret C hr hlk (Or.inl rfl) (pe1 hf) (pe2M hf) hP hS dX10_in_18
  · have hf := pif_f hf h1
    refine lv_lload_n hx hb dX10_in_6 rfl (lv_at hl 0 rfl) ?_
    refine lv_lload hx hb dX10_in_7 (lv_at hl 2 rfl) ?_
    refine W.lcmp hx hb dX10_in_9 ?_
    refine lv_if_gt (tgt := 17) hx hb dX10_in_10 (by decide) (fun h2 => ?_) (fun h2 => ?_)
    · have hf := pif_t hf h2
      refine lv_iconst (v := 0) hx hb dX10_in_17 (by decide) ?_
      exact p_zret C hr hlk (Or.inl rfl) (pe1 hf) (pe2M hf) hP hS dX10_in_18
    · have hf := pif_f hf h2
      refine lv_iconst (v := 1) hx hb dX10_in_13 (by decide) ?_
      refine lv_goto (tgt := 18) hx hb dX10_in_14 (by decide) ?_
      exact p_zret C hr hlk (Or.inr rfl) (pe1 hf) (pe2M hf) hP hS dX10_in_18
set_option maxHeartbeats 4000000 in
set_option maxRecDepth 100000 in
theorem c_X10_isRule (l : Launch) {E : pE} (hE : pInj E) {α : pSt} {a0 : Int32} {β β' : pSt} {r : Int32} (hf : f_X10_isRule a0 β = some (r, β')) : pM l E yX10_isRule cX10_isRule 6 (some .boolean) 0 [.ref (pL E 57), .int a0] α β (some (.int r)) α β' := by
  refine pM.ofW hE (by decide) ?_ (Nat.le_of_ble_eq_true rfl)
  intro p e s m below meth c ls C hr hlk hP hl
  have C : pCx p s m c cX10_isRule 6 E RX10 := C
  have hS : va_S (pA E s.heap.size) s.heap s.heap [] := va_S.rf
  have hx := C.1
  have hb := C.2.1
  have hl : lv_has ls 6 [(0, .ref (pL E 57)), (1, .int a0)] := hl
  unfold f_X10_isRule at hf
  refine lv_aload_n hx hb dX10_isRule_0 rfl (lv_at hl 0 rfl) ?_
  refine g_10_16 C hP dX10_isRule_1 ?_
  refine lv_iload_n hx hb dX10_isRule_4 rfl (lv_at hl 1 rfl) ?_
  obtain ⟨h1, hf⟩ := pg_ok hf
  refine la_m_file C hP h1 dX10_isRule_5 ?_
  refine lv_istore_n (lv' := [(2, .int (β 4 (a0.toNatClampNeg))), (0, .ref (pL E 57)), (1, .int a0)]) hx hb dX10_isRule_6 rfl hl (by decide) rfl (fun ls hl => ?_)
  refine lv_aload_n hx hb dX10_isRule_7 rfl (lv_at hl 1 rfl) ?_
  refine g_10_16 C hP dX10_isRule_8 ?_
  refine lv_iload_n hx hb dX10_isRule_11 rfl (lv_at hl 2 rfl) ?_
  refine lv_iconst (v := 1) hx hb dX10_isRule_12 (by decide) ?_
  refine lv_iadd hx hb dX10_isRule_13 ?_
  obtain ⟨h2, hf⟩ := pg_ok hf
  refine la_m_file C hP h2 dX10_isRule_14 ?_
  refine lv_istore_n (lv' := [(3, .int (β 4 ((a0 + 1).toNatClampNeg))), (2, .int (β 4 (a0.toNatClampNeg))), (0, .ref (pL E 57)), (1, .int a0)]) hx hb dX10_isRule_15 rfl hl (by decide) rfl (fun ls hl => ?_)
  refine lv_aload_n hx hb dX10_isRule_16 rfl (lv_at hl 2 rfl) ?_
  refine g_10_16 C hP dX10_isRule_17 ?_
  refine lv_iload_n hx hb dX10_isRule_20 rfl (lv_at hl 3 rfl) ?_
  refine lv_iconst (v := 2) hx hb dX10_isRule_21 (by decide) ?_
  refine lv_iadd hx hb dX10_isRule_22 ?_
  obtain ⟨h3, hf⟩ := pg_ok hf
  refine la_m_file C hP h3 dX10_isRule_23 ?_
  refine lv_istore (lv' := [(4, .int (β 4 ((a0 + 2).toNatClampNeg))), (3, .int (β 4 ((a0 + 1).toNatClampNeg))), (2, .int (β 4 (a0.toNatClampNeg))), (0, .ref (pL E 57)), (1, .int a0)]) hx hb dX10_isRule_24 hl (by decide) rfl (fun ls hl => ?_)
  refine lv_aload_n hx hb dX10_isRule_26 rfl (lv_at hl 3 rfl) ?_
  refine g_10_16 C hP dX10_isRule_27 ?_
  refine lv_iload_n hx hb dX10_isRule_30 rfl (lv_at hl 4 rfl) ?_
  refine lv_iconst (v := 3) hx hb dX10_isRule_31 (by decide) ?_
  refine lv_iadd hx hb dX10_isRule_32 ?_
  obtain ⟨h4, hf⟩ := pg_ok hf
  refine la_m_file C hP h4 dX10_isRule_33 ?_
  refine lv_istore (lv' := [(5, .int (β 4 ((a0 + 3).toNatClampNeg))), (4, .int (β 4 ((a0 + 2).toNatClampNeg))), (3, .int (β 4 ((a0 + 1).toNatClampNeg))), (2, .int (β 4 (a0.toNatClampNeg))), (0, .ref (pL E 57)), (1, .int a0)]) hx hb dX10_isRule_34 hl (by decide) rfl (fun ls hl => ?_)
  refine lv_iload_n hx hb dX10_isRule_36 rfl (lv_at hl 3 rfl) ?_
  refine lv_bipush (v := 8) hx hb dX10_isRule_37 (by decide) ?_
  refine lv_icmp_lt (tgt := 48) hx hb dX10_isRule_39 (by decide) (fun h5 => ?_) (fun h5 => ?_)
  · have hf := pif_t hf h5
    refine lv_iload_n hx hb dX10_isRule_48 rfl (lv_at hl 2 rfl) ?_
    refine lv_bipush (v := 10) hx hb dX10_isRule_49 (by decide) ?_
    refine lv_icmp_ge (tgt := 99) hx hb dX10_isRule_51 (by decide) (fun h6 => ?_) (fun h6 => ?_)
    · have hf := pif_t hf h6
      refine lv_iconst (v := 0) hx hb dX10_isRule_99 (by decide) ?_
      exact p_zret C hr hlk (Or.inl rfl) (pe1 hf) (pe2M hf) hP hS dX10_isRule_100
    · have hf := pif_f hf h6
      refine lv_iload_n hx hb dX10_isRule_54 rfl (lv_at hl 2 rfl) ?_
      refine lv_iconst (v := 1) hx hb dX10_isRule_55 (by decide) ?_
      refine lv_icmp_ne (tgt := 66) hx hb dX10_isRule_56 (by decide) (fun h7 => ?_) (fun h7 => ?_)
      · have hf := pif_f hf h7
        refine lv_iload_n hx hb dX10_isRule_66 rfl (lv_at hl 2 rfl) ?_
        refine lv_bipush (v := 7) hx hb dX10_isRule_67 (by decide) ?_
        refine lv_icmp_eq (tgt := 78) hx hb dX10_isRule_69 (by decide) (fun h8 => ?_) (fun h8 => ?_)
        · have hf := pif_t hf h8
          refine lv_iload hx hb dX10_isRule_78 (lv_at hl 1 rfl) ?_
          refine lv_iconst (v := 4) hx hb dX10_isRule_80 (by decide) ?_
          refine lv_icmp_ge (tgt := 99) hx hb dX10_isRule_81 (by decide) (fun h9 => ?_) (fun h9 => ?_)
          · have hf := pif_t hf h9
            refine lv_iconst (v := 0) hx hb dX10_isRule_99 (by decide) ?_
            exact p_zret C hr hlk (Or.inl rfl) (pe1 hf) (pe2M hf) hP hS dX10_isRule_100
          · have hf := pif_f hf h9
            refine lv_iload_n hx hb dX10_isRule_84 rfl (lv_at hl 2 rfl) ?_
            refine lv_iconst (v := 2) hx hb dX10_isRule_85 (by decide) ?_
            refine lv_icmp_ne (tgt := 95) hx hb dX10_isRule_86 (by decide) (fun h10 => ?_) (fun h10 => ?_)
            · have hf := pif_f hf h10
              refine lv_iconst (v := 1) hx hb dX10_isRule_95 (by decide) ?_
              refine lv_goto (tgt := 100) hx hb dX10_isRule_96 (by decide) ?_
              exact p_zret C hr hlk (Or.inr rfl) (pe1 hf) (pe2M hf) hP hS dX10_isRule_100
            · have hf := pif_t hf h10
              refine lv_iload hx hb dX10_isRule_89 (lv_at hl 0 rfl) ?_
              refine lv_iconst (v := 3) hx hb dX10_isRule_91 (by decide) ?_
              refine lv_icmp_ge (tgt := 99) hx hb dX10_isRule_92 (by decide) (fun h11 => ?_) (fun h11 => ?_)
              · have hf := pif_t hf h11
                refine lv_iconst (v := 0) hx hb dX10_isRule_99 (by decide) ?_
                exact p_zret C hr hlk (Or.inl rfl) (pe1 hf) (pe2M hf) hP hS dX10_isRule_100
              · have hf := pif_f hf h11
                refine lv_iconst (v := 1) hx hb dX10_isRule_95 (by decide) ?_
                refine lv_goto (tgt := 100) hx hb dX10_isRule_96 (by decide) ?_
                exact p_zret C hr hlk (Or.inr rfl) (pe1 hf) (pe2M hf) hP hS dX10_isRule_100
        · have hf := pif_f hf h8
          refine lv_iload_n hx hb dX10_isRule_72 rfl (lv_at hl 2 rfl) ?_
          refine lv_bipush (v := 9) hx hb dX10_isRule_73 (by decide) ?_
          refine lv_icmp_ne (tgt := 84) hx hb dX10_isRule_75 (by decide) (fun h12 => ?_) (fun h12 => ?_)
          · have hf := pif_f hf h12
            refine lv_iload_n hx hb dX10_isRule_84 rfl (lv_at hl 2 rfl) ?_
            refine lv_iconst (v := 2) hx hb dX10_isRule_85 (by decide) ?_
            refine lv_icmp_ne (tgt := 95) hx hb dX10_isRule_86 (by decide) (fun h13 => ?_) (fun h13 => ?_)
            · have hf := pif_f hf h13
              refine lv_iconst (v := 1) hx hb dX10_isRule_95 (by decide) ?_
              refine lv_goto (tgt := 100) hx hb dX10_isRule_96 (by decide) ?_
              exact p_zret C hr hlk (Or.inr rfl) (pe1 hf) (pe2M hf) hP hS dX10_isRule_100
            · have hf := pif_t hf h13
              refine lv_iload hx hb dX10_isRule_89 (lv_at hl 0 rfl) ?_
              refine lv_iconst (v := 3) hx hb dX10_isRule_91 (by decide) ?_
              refine lv_icmp_ge (tgt := 99) hx hb dX10_isRule_92 (by decide) (fun h14 => ?_) (fun h14 => ?_)
              · have hf := pif_t hf h14
                refine lv_iconst (v := 0) hx hb dX10_isRule_99 (by decide) ?_
                exact p_zret C hr hlk (Or.inl rfl) (pe1 hf) (pe2M hf) hP hS dX10_isRule_100
              · have hf := pif_f hf h14
                refine lv_iconst (v := 1) hx hb dX10_isRule_95 (by decide) ?_
                refine lv_goto (tgt := 100) hx hb dX10_isRule_96 (by decide) ?_
                exact p_zret C hr hlk (Or.inr rfl) (pe1 hf) (pe2M hf) hP hS dX10_isRule_100
          · have hf := pif_t hf h12
            refine lv_iload hx hb dX10_isRule_78 (lv_at hl 1 rfl) ?_
            refine lv_iconst (v := 4) hx hb dX10_isRule_80 (by decide) ?_
            refine lv_icmp_ge (tgt := 99) hx hb dX10_isRule_81 (by decide) (fun h15 => ?_) (fun h15 => ?_)
            · have hf := pif_t hf h15
              refine lv_iconst (v := 0) hx hb dX10_isRule_99 (by decide) ?_
              exact p_zret C hr hlk (Or.inl rfl) (pe1 hf) (pe2M hf) hP hS dX10_isRule_100
            · have hf := pif_f hf h15
              refine lv_iload_n hx hb dX10_isRule_84 rfl (lv_at hl 2 rfl) ?_
              refine lv_iconst (v := 2) hx hb dX10_isRule_85 (by decide) ?_
              refine lv_icmp_ne (tgt := 95) hx hb dX10_isRule_86 (by decide) (fun h16 => ?_) (fun h16 => ?_)
              · have hf := pif_f hf h16
                refine lv_iconst (v := 1) hx hb dX10_isRule_95 (by decide) ?_
                refine lv_goto (tgt := 100) hx hb dX10_isRule_96 (by decide) ?_
                exact p_zret C hr hlk (Or.inr rfl) (pe1 hf) (pe2M hf) hP hS dX10_isRule_100
              · have hf := pif_t hf h16
                refine lv_iload hx hb dX10_isRule_89 (lv_at hl 0 rfl) ?_
                refine lv_iconst (v := 3) hx hb dX10_isRule_91 (by decide) ?_
                refine lv_icmp_ge (tgt := 99) hx hb dX10_isRule_92 (by decide) (fun h17 => ?_) (fun h17 => ?_)
                · have hf := pif_t hf h17
                  refine lv_iconst (v := 0) hx hb dX10_isRule_99 (by decide) ?_
                  exact p_zret C hr hlk (Or.inl rfl) (pe1 hf) (pe2M hf) hP hS dX10_isRule_100
                · have hf := pif_f hf h17
                  refine lv_iconst (v := 1) hx hb dX10_isRule_95 (by decide) ?_
                  refine lv_goto (tgt := 100) hx hb dX10_isRule_96 (by decide) ?_
                  exact p_zret C hr hlk (Or.inr rfl) (pe1 hf) (pe2M hf) hP hS dX10_isRule_100
      · have hf := pif_t hf h7
        refine lv_iload hx hb dX10_isRule_59 (lv_at hl 1 rfl) ?_
        refine lv_bipush (v := 64) hx hb dX10_isRule_61 (by decide) ?_
        refine lv_icmp_ge (tgt := 99) hx hb dX10_isRule_63 (by decide) (fun h18 => ?_) (fun h18 => ?_)
        · have hf := pif_t hf h18
          refine lv_iconst (v := 0) hx hb dX10_isRule_99 (by decide) ?_
          exact p_zret C hr hlk (Or.inl rfl) (pe1 hf) (pe2M hf) hP hS dX10_isRule_100
        · have hf := pif_f hf h18
          refine lv_iload_n hx hb dX10_isRule_66 rfl (lv_at hl 2 rfl) ?_
          refine lv_bipush (v := 7) hx hb dX10_isRule_67 (by decide) ?_
          refine lv_icmp_eq (tgt := 78) hx hb dX10_isRule_69 (by decide) (fun h19 => ?_) (fun h19 => ?_)
          · have hf := pif_t hf h19
            refine lv_iload hx hb dX10_isRule_78 (lv_at hl 1 rfl) ?_
            refine lv_iconst (v := 4) hx hb dX10_isRule_80 (by decide) ?_
            refine lv_icmp_ge (tgt := 99) hx hb dX10_isRule_81 (by decide) (fun h20 => ?_) (fun h20 => ?_)
            · have hf := pif_t hf h20
              refine lv_iconst (v := 0) hx hb dX10_isRule_99 (by decide) ?_
              exact p_zret C hr hlk (Or.inl rfl) (pe1 hf) (pe2M hf) hP hS dX10_isRule_100
            · have hf := pif_f hf h20
              refine lv_iload_n hx hb dX10_isRule_84 rfl (lv_at hl 2 rfl) ?_
              refine lv_iconst (v := 2) hx hb dX10_isRule_85 (by decide) ?_
              refine lv_icmp_ne (tgt := 95) hx hb dX10_isRule_86 (by decide) (fun h21 => ?_) (fun h21 => ?_)
              · have hf := pif_f hf h21
                refine lv_iconst (v := 1) hx hb dX10_isRule_95 (by decide) ?_
                refine lv_goto (tgt := 100) hx hb dX10_isRule_96 (by decide) ?_
                exact p_zret C hr hlk (Or.inr rfl) (pe1 hf) (pe2M hf) hP hS dX10_isRule_100
              · have hf := pif_t hf h21
                refine lv_iload hx hb dX10_isRule_89 (lv_at hl 0 rfl) ?_
                refine lv_iconst (v := 3) hx hb dX10_isRule_91 (by decide) ?_
                refine lv_icmp_ge (tgt := 99) hx hb dX10_isRule_92 (by decide) (fun h22 => ?_) (fun h22 => ?_)
                · have hf := pif_t hf h22
                  refine lv_iconst (v := 0) hx hb dX10_isRule_99 (by decide) ?_
                  exact p_zret C hr hlk (Or.inl rfl) (pe1 hf) (pe2M hf) hP hS dX10_isRule_100
                · have hf := pif_f hf h22
                  refine lv_iconst (v := 1) hx hb dX10_isRule_95 (by decide) ?_
                  refine lv_goto (tgt := 100) hx hb dX10_isRule_96 (by decide) ?_
                  exact p_zret C hr hlk (Or.inr rfl) (pe1 hf) (pe2M hf) hP hS dX10_isRule_100
          · have hf := pif_f hf h19
            refine lv_iload_n hx hb dX10_isRule_72 rfl (lv_at hl 2 rfl) ?_
            refine lv_bipush (v := 9) hx hb dX10_isRule_73 (by decide) ?_
            refine lv_icmp_ne (tgt := 84) hx hb dX10_isRule_75 (by decide) (fun h23 => ?_) (fun h23 => ?_)
            · have hf := pif_f hf h23
              refine lv_iload_n hx hb dX10_isRule_84 rfl (lv_at hl 2 rfl) ?_
              refine lv_iconst (v := 2) hx hb dX10_isRule_85 (by decide) ?_
              refine lv_icmp_ne (tgt := 95) hx hb dX10_isRule_86 (by decide) (fun h24 => ?_) (fun h24 => ?_)
              · have hf := pif_f hf h24
                refine lv_iconst (v := 1) hx hb dX10_isRule_95 (by decide) ?_
                refine lv_goto (tgt := 100) hx hb dX10_isRule_96 (by decide) ?_
                exact p_zret C hr hlk (Or.inr rfl) (pe1 hf) (pe2M hf) hP hS dX10_isRule_100
              · have hf := pif_t hf h24
                refine lv_iload hx hb dX10_isRule_89 (lv_at hl 0 rfl) ?_
                refine lv_iconst (v := 3) hx hb dX10_isRule_91 (by decide) ?_
                refine lv_icmp_ge (tgt := 99) hx hb dX10_isRule_92 (by decide) (fun h25 => ?_) (fun h25 => ?_)
                · have hf := pif_t hf h25
                  refine lv_iconst (v := 0) hx hb dX10_isRule_99 (by decide) ?_
                  exact p_zret C hr hlk (Or.inl rfl) (pe1 hf) (pe2M hf) hP hS dX10_isRule_100
                · have hf := pif_f hf h25
                  refine lv_iconst (v := 1) hx hb dX10_isRule_95 (by decide) ?_
                  refine lv_goto (tgt := 100) hx hb dX10_isRule_96 (by decide) ?_
                  exact p_zret C hr hlk (Or.inr rfl) (pe1 hf) (pe2M hf) hP hS dX10_isRule_100
            · have hf := pif_t hf h23
              refine lv_iload hx hb dX10_isRule_78 (lv_at hl 1 rfl) ?_
              refine lv_iconst (v := 4) hx hb dX10_isRule_80 (by decide) ?_
              refine lv_icmp_ge (tgt := 99) hx hb dX10_isRule_81 (by decide) (fun h26 => ?_) (fun h26 => ?_)
              · have hf := pif_t hf h26
                refine lv_iconst (v := 0) hx hb dX10_isRule_99 (by decide) ?_
                exact p_zret C hr hlk (Or.inl rfl) (pe1 hf) (pe2M hf) hP hS dX10_isRule_100
              · have hf := pif_f hf h26
                refine lv_iload_n hx hb dX10_isRule_84 rfl (lv_at hl 2 rfl) ?_
                refine lv_iconst (v := 2) hx hb dX10_isRule_85 (by decide) ?_
                refine lv_icmp_ne (tgt := 95) hx hb dX10_isRule_86 (by decide) (fun h27 => ?_) (fun h27 => ?_)
                · have hf := pif_f hf h27
                  refine lv_iconst (v := 1) hx hb dX10_isRule_95 (by decide) ?_
                  refine lv_goto (tgt := 100) hx hb dX10_isRule_96 (by decide) ?_
                  exact p_zret C hr hlk (Or.inr rfl) (pe1 hf) (pe2M hf) hP hS dX10_isRule_100
                · have hf := pif_t hf h27
                  refine lv_iload hx hb dX10_isRule_89 (lv_at hl 0 rfl) ?_
                  refine lv_iconst (v := 3) hx hb dX10_isRule_91 (by decide) ?_
                  refine lv_icmp_ge (tgt := 99) hx hb dX10_isRule_92 (by decide) (fun h28 => ?_) (fun h28 => ?_)
                  · have hf := pif_t hf h28
                    refine lv_iconst (v := 0) hx hb dX10_isRule_99 (by decide) ?_
                    exact p_zret C hr hlk (Or.inl rfl) (pe1 hf) (pe2M hf) hP hS dX10_isRule_100
                  · have hf := pif_f hf h28
                    refine lv_iconst (v := 1) hx hb dX10_isRule_95 (by decide) ?_
                    refine lv_goto (tgt := 100) hx hb dX10_isRule_96 (by decide) ?_
                    exact p_zret C hr hlk (Or.inr rfl) (pe1 hf) (pe2M hf) hP hS dX10_isRule_100
  · have hf := pif_f hf h5
    refine lv_iload_n hx hb dX10_isRule_42 rfl (lv_at hl 3 rfl) ?_
    refine lv_bipush (v := 15) hx hb dX10_isRule_43 (by decide) ?_
    refine lv_icmp_ne (tgt := 99) hx hb dX10_isRule_45 (by decide) (fun h29 => ?_) (fun h29 => ?_)
    · have hf := pif_f hf h29
      refine lv_iconst (v := 0) hx hb dX10_isRule_99 (by decide) ?_
      exact p_zret C hr hlk (Or.inl rfl) (pe1 hf) (pe2M hf) hP hS dX10_isRule_100
    · have hf := pif_t hf h29
      refine lv_iload_n hx hb dX10_isRule_48 rfl (lv_at hl 2 rfl) ?_
      refine lv_bipush (v := 10) hx hb dX10_isRule_49 (by decide) ?_
      refine lv_icmp_ge (tgt := 99) hx hb dX10_isRule_51 (by decide) (fun h30 => ?_) (fun h30 => ?_)
      · have hf := pif_t hf h30
        refine lv_iconst (v := 0) hx hb dX10_isRule_99 (by decide) ?_
        exact p_zret C hr hlk (Or.inl rfl) (pe1 hf) (pe2M hf) hP hS dX10_isRule_100
      · have hf := pif_f hf h30
        refine lv_iload_n hx hb dX10_isRule_54 rfl (lv_at hl 2 rfl) ?_
        refine lv_iconst (v := 1) hx hb dX10_isRule_55 (by decide) ?_
        refine lv_icmp_ne (tgt := 66) hx hb dX10_isRule_56 (by decide) (fun h31 => ?_) (fun h31 => ?_)
        · have hf := pif_f hf h31
          refine lv_iload_n hx hb dX10_isRule_66 rfl (lv_at hl 2 rfl) ?_
          refine lv_bipush (v := 7) hx hb dX10_isRule_67 (by decide) ?_
          refine lv_icmp_eq (tgt := 78) hx hb dX10_isRule_69 (by decide) (fun h32 => ?_) (fun h32 => ?_)
          · have hf := pif_t hf h32
            refine lv_iload hx hb dX10_isRule_78 (lv_at hl 1 rfl) ?_
            refine lv_iconst (v := 4) hx hb dX10_isRule_80 (by decide) ?_
            refine lv_icmp_ge (tgt := 99) hx hb dX10_isRule_81 (by decide) (fun h33 => ?_) (fun h33 => ?_)
            · have hf := pif_t hf h33
              refine lv_iconst (v := 0) hx hb dX10_isRule_99 (by decide) ?_
              exact p_zret C hr hlk (Or.inl rfl) (pe1 hf) (pe2M hf) hP hS dX10_isRule_100
            · have hf := pif_f hf h33
              refine lv_iload_n hx hb dX10_isRule_84 rfl (lv_at hl 2 rfl) ?_
              refine lv_iconst (v := 2) hx hb dX10_isRule_85 (by decide) ?_
              refine lv_icmp_ne (tgt := 95) hx hb dX10_isRule_86 (by decide) (fun h34 => ?_) (fun h34 => ?_)
              · have hf := pif_f hf h34
                refine lv_iconst (v := 1) hx hb dX10_isRule_95 (by decide) ?_
                refine lv_goto (tgt := 100) hx hb dX10_isRule_96 (by decide) ?_
                exact p_zret C hr hlk (Or.inr rfl) (pe1 hf) (pe2M hf) hP hS dX10_isRule_100
              · have hf := pif_t hf h34
                refine lv_iload hx hb dX10_isRule_89 (lv_at hl 0 rfl) ?_
                refine lv_iconst (v := 3) hx hb dX10_isRule_91 (by decide) ?_
                refine lv_icmp_ge (tgt := 99) hx hb dX10_isRule_92 (by decide) (fun h35 => ?_) (fun h35 => ?_)
                · have hf := pif_t hf h35
                  refine lv_iconst (v := 0) hx hb dX10_isRule_99 (by decide) ?_
                  exact p_zret C hr hlk (Or.inl rfl) (pe1 hf) (pe2M hf) hP hS dX10_isRule_100
                · have hf := pif_f hf h35
                  refine lv_iconst (v := 1) hx hb dX10_isRule_95 (by decide) ?_
                  refine lv_goto (tgt := 100) hx hb dX10_isRule_96 (by decide) ?_
                  exact p_zret C hr hlk (Or.inr rfl) (pe1 hf) (pe2M hf) hP hS dX10_isRule_100
          · have hf := pif_f hf h32
            refine lv_iload_n hx hb dX10_isRule_72 rfl (lv_at hl 2 rfl) ?_
            refine lv_bipush (v := 9) hx hb dX10_isRule_73 (by decide) ?_
            refine lv_icmp_ne (tgt := 84) hx hb dX10_isRule_75 (by decide) (fun h36 => ?_) (fun h36 => ?_)
            · have hf := pif_f hf h36
              refine lv_iload_n hx hb dX10_isRule_84 rfl (lv_at hl 2 rfl) ?_
              refine lv_iconst (v := 2) hx hb dX10_isRule_85 (by decide) ?_
              refine lv_icmp_ne (tgt := 95) hx hb dX10_isRule_86 (by decide) (fun h37 => ?_) (fun h37 => ?_)
              · have hf := pif_f hf h37
                refine lv_iconst (v := 1) hx hb dX10_isRule_95 (by decide) ?_
                refine lv_goto (tgt := 100) hx hb dX10_isRule_96 (by decide) ?_
                exact p_zret C hr hlk (Or.inr rfl) (pe1 hf) (pe2M hf) hP hS dX10_isRule_100
              · have hf := pif_t hf h37
                refine lv_iload hx hb dX10_isRule_89 (lv_at hl 0 rfl) ?_
                refine lv_iconst (v := 3) hx hb dX10_isRule_91 (by decide) ?_
                refine lv_icmp_ge (tgt := 99) hx hb dX10_isRule_92 (by decide) (fun h38 => ?_) (fun h38 => ?_)
                · have hf := pif_t hf h38
                  refine lv_iconst (v := 0) hx hb dX10_isRule_99 (by decide) ?_
                  exact p_zret C hr hlk (Or.inl rfl) (pe1 hf) (pe2M hf) hP hS dX10_isRule_100
                · have hf := pif_f hf h38
                  refine lv_iconst (v := 1) hx hb dX10_isRule_95 (by decide) ?_
                  refine lv_goto (tgt := 100) hx hb dX10_isRule_96 (by decide) ?_
                  exact p_zret C hr hlk (Or.inr rfl) (pe1 hf) (pe2M hf) hP hS dX10_isRule_100
            · have hf := pif_t hf h36
              refine lv_iload hx hb dX10_isRule_78 (lv_at hl 1 rfl) ?_
              refine lv_iconst (v := 4) hx hb dX10_isRule_80 (by decide) ?_
              refine lv_icmp_ge (tgt := 99) hx hb dX10_isRule_81 (by decide) (fun h39 => ?_) (fun h39 => ?_)
              · have hf := pif_t hf h39
                refine lv_iconst (v := 0) hx hb dX10_isRule_99 (by decide) ?_
                exact p_zret C hr hlk (Or.inl rfl) (pe1 hf) (pe2M hf) hP hS dX10_isRule_100
              · have hf := pif_f hf h39
                refine lv_iload_n hx hb dX10_isRule_84 rfl (lv_at hl 2 rfl) ?_
                refine lv_iconst (v := 2) hx hb dX10_isRule_85 (by decide) ?_
                refine lv_icmp_ne (tgt := 95) hx hb dX10_isRule_86 (by decide) (fun h40 => ?_) (fun h40 => ?_)
                · have hf := pif_f hf h40
                  refine lv_iconst (v := 1) hx hb dX10_isRule_95 (by decide) ?_
                  refine lv_goto (tgt := 100) hx hb dX10_isRule_96 (by decide) ?_
                  exact p_zret C hr hlk (Or.inr rfl) (pe1 hf) (pe2M hf) hP hS dX10_isRule_100
                · have hf := pif_t hf h40
                  refine lv_iload hx hb dX10_isRule_89 (lv_at hl 0 rfl) ?_
                  refine lv_iconst (v := 3) hx hb dX10_isRule_91 (by decide) ?_
                  refine lv_icmp_ge (tgt := 99) hx hb dX10_isRule_92 (by decide) (fun h41 => ?_) (fun h41 => ?_)
                  · have hf := pif_t hf h41
                    refine lv_iconst (v := 0) hx hb dX10_isRule_99 (by decide) ?_
                    exact p_zret C hr hlk (Or.inl rfl) (pe1 hf) (pe2M hf) hP hS dX10_isRule_100
                  · have hf := pif_f hf h41
                    refine lv_iconst (v := 1) hx hb dX10_isRule_95 (by decide) ?_
                    refine lv_goto (tgt := 100) hx hb dX10_isRule_96 (by decide) ?_
                    exact p_zret C hr hlk (Or.inr rfl) (pe1 hf) (pe2M hf) hP hS dX10_isRule_100
        · have hf := pif_t hf h31
          refine lv_iload hx hb dX10_isRule_59 (lv_at hl 1 rfl) ?_
          refine lv_bipush (v := 64) hx hb dX10_isRule_61 (by decide) ?_
          refine lv_icmp_ge (tgt := 99) hx hb dX10_isRule_63 (by decide) (fun h42 => ?_) (fun h42 => ?_)
          · have hf := pif_t hf h42
            refine lv_iconst (v := 0) hx hb dX10_isRule_99 (by decide) ?_
            exact p_zret C hr hlk (Or.inl rfl) (pe1 hf) (pe2M hf) hP hS dX10_isRule_100
          · have hf := pif_f hf h42
            refine lv_iload_n hx hb dX10_isRule_66 rfl (lv_at hl 2 rfl) ?_
            refine lv_bipush (v := 7) hx hb dX10_isRule_67 (by decide) ?_
            refine lv_icmp_eq (tgt := 78) hx hb dX10_isRule_69 (by decide) (fun h43 => ?_) (fun h43 => ?_)
            · have hf := pif_t hf h43
              refine lv_iload hx hb dX10_isRule_78 (lv_at hl 1 rfl) ?_
              refine lv_iconst (v := 4) hx hb dX10_isRule_80 (by decide) ?_
              refine lv_icmp_ge (tgt := 99) hx hb dX10_isRule_81 (by decide) (fun h44 => ?_) (fun h44 => ?_)
              · have hf := pif_t hf h44
                refine lv_iconst (v := 0) hx hb dX10_isRule_99 (by decide) ?_
                exact p_zret C hr hlk (Or.inl rfl) (pe1 hf) (pe2M hf) hP hS dX10_isRule_100
              · have hf := pif_f hf h44
                refine lv_iload_n hx hb dX10_isRule_84 rfl (lv_at hl 2 rfl) ?_
                refine lv_iconst (v := 2) hx hb dX10_isRule_85 (by decide) ?_
                refine lv_icmp_ne (tgt := 95) hx hb dX10_isRule_86 (by decide) (fun h45 => ?_) (fun h45 => ?_)
                · have hf := pif_f hf h45
                  refine lv_iconst (v := 1) hx hb dX10_isRule_95 (by decide) ?_
                  refine lv_goto (tgt := 100) hx hb dX10_isRule_96 (by decide) ?_
                  exact p_zret C hr hlk (Or.inr rfl) (pe1 hf) (pe2M hf) hP hS dX10_isRule_100
                · have hf := pif_t hf h45
                  refine lv_iload hx hb dX10_isRule_89 (lv_at hl 0 rfl) ?_
                  refine lv_iconst (v := 3) hx hb dX10_isRule_91 (by decide) ?_
                  refine lv_icmp_ge (tgt := 99) hx hb dX10_isRule_92 (by decide) (fun h46 => ?_) (fun h46 => ?_)
                  · have hf := pif_t hf h46
                    refine lv_iconst (v := 0) hx hb dX10_isRule_99 (by decide) ?_
                    exact p_zret C hr hlk (Or.inl rfl) (pe1 hf) (pe2M hf) hP hS dX10_isRule_100
                  · have hf := pif_f hf h46
                    refine lv_iconst (v := 1) hx hb dX10_isRule_95 (by decide) ?_
                    refine lv_goto (tgt := 100) hx hb dX10_isRule_96 (by decide) ?_
                    exact p_zret C hr hlk (Or.inr rfl) (pe1 hf) (pe2M hf) hP hS dX10_isRule_100
            · have hf := pif_f hf h43
              refine lv_iload_n hx hb dX10_isRule_72 rfl (lv_at hl 2 rfl) ?_
              refine lv_bipush (v := 9) hx hb dX10_isRule_73 (by decide) ?_
              refine lv_icmp_ne (tgt := 84) hx hb dX10_isRule_75 (by decide) (fun h47 => ?_) (fun h47 => ?_)
              · have hf := pif_f hf h47
                refine lv_iload_n hx hb dX10_isRule_84 rfl (lv_at hl 2 rfl) ?_
                refine lv_iconst (v := 2) hx hb dX10_isRule_85 (by decide) ?_
                refine lv_icmp_ne (tgt := 95) hx hb dX10_isRule_86 (by decide) (fun h48 => ?_) (fun h48 => ?_)
                · have hf := pif_f hf h48
                  refine lv_iconst (v := 1) hx hb dX10_isRule_95 (by decide) ?_
                  refine lv_goto (tgt := 100) hx hb dX10_isRule_96 (by decide) ?_
                  exact p_zret C hr hlk (Or.inr rfl) (pe1 hf) (pe2M hf) hP hS dX10_isRule_100
                · have hf := pif_t hf h48
                  refine lv_iload hx hb dX10_isRule_89 (lv_at hl 0 rfl) ?_
                  refine lv_iconst (v := 3) hx hb dX10_isRule_91 (by decide) ?_
                  refine lv_icmp_ge (tgt := 99) hx hb dX10_isRule_92 (by decide) (fun h49 => ?_) (fun h49 => ?_)
                  · have hf := pif_t hf h49
                    refine lv_iconst (v := 0) hx hb dX10_isRule_99 (by decide) ?_
                    exact p_zret C hr hlk (Or.inl rfl) (pe1 hf) (pe2M hf) hP hS dX10_isRule_100
                  · have hf := pif_f hf h49
                    refine lv_iconst (v := 1) hx hb dX10_isRule_95 (by decide) ?_
                    refine lv_goto (tgt := 100) hx hb dX10_isRule_96 (by decide) ?_
                    exact p_zret C hr hlk (Or.inr rfl) (pe1 hf) (pe2M hf) hP hS dX10_isRule_100
              · have hf := pif_t hf h47
                refine lv_iload hx hb dX10_isRule_78 (lv_at hl 1 rfl) ?_
                refine lv_iconst (v := 4) hx hb dX10_isRule_80 (by decide) ?_
                refine lv_icmp_ge (tgt := 99) hx hb dX10_isRule_81 (by decide) (fun h50 => ?_) (fun h50 => ?_)
                · have hf := pif_t hf h50
                  refine lv_iconst (v := 0) hx hb dX10_isRule_99 (by decide) ?_
                  exact p_zret C hr hlk (Or.inl rfl) (pe1 hf) (pe2M hf) hP hS dX10_isRule_100
                · have hf := pif_f hf h50
                  refine lv_iload_n hx hb dX10_isRule_84 rfl (lv_at hl 2 rfl) ?_
                  refine lv_iconst (v := 2) hx hb dX10_isRule_85 (by decide) ?_
                  refine lv_icmp_ne (tgt := 95) hx hb dX10_isRule_86 (by decide) (fun h51 => ?_) (fun h51 => ?_)
                  · have hf := pif_f hf h51
                    refine lv_iconst (v := 1) hx hb dX10_isRule_95 (by decide) ?_
                    refine lv_goto (tgt := 100) hx hb dX10_isRule_96 (by decide) ?_
                    exact p_zret C hr hlk (Or.inr rfl) (pe1 hf) (pe2M hf) hP hS dX10_isRule_100
                  · have hf := pif_t hf h51
                    refine lv_iload hx hb dX10_isRule_89 (lv_at hl 0 rfl) ?_
                    refine lv_iconst (v := 3) hx hb dX10_isRule_91 (by decide) ?_
                    refine lv_icmp_ge (tgt := 99) hx hb dX10_isRule_92 (by decide) (fun h52 => ?_) (fun h52 => ?_)
                    · have hf := pif_t hf h52
                      refine lv_iconst (v := 0) hx hb dX10_isRule_99 (by decide) ?_
                      exact p_zret C hr hlk (Or.inl rfl) (pe1 hf) (pe2M hf) hP hS dX10_isRule_100
                    · have hf := pif_f hf h52
                      refine lv_iconst (v := 1) hx hb dX10_isRule_95 (by decide) ?_
                      refine lv_goto (tgt := 100) hx hb dX10_isRule_96 (by decide) ?_
                      exact p_zret C hr hlk (Or.inr rfl) (pe1 hf) (pe2M hf) hP hS dX10_isRule_100
set_option maxHeartbeats 4000000 in
set_option maxRecDepth 100000 in
theorem c_X10_find (l : Launch) {E : pE} (hE : pInj E) {α : pSt} {a0 : Int32} {β β' : pSt} {r : Int32} (hf : f_X10_find a0 β = some (r, β')) : pM l E yX10_find cX10_find 4 (some .int) 0 [.ref (pL E 57), .int a0] α β (some (.int r)) α β' := by
  refine pM.ofW hE (by decide) ?_ (Nat.le_of_ble_eq_true rfl)
  intro p e s m below meth c ls C hr hlk hP hl
  have C : pCx p s m c cX10_find 4 E RX10 := C
  have hS : va_S (pA E s.heap.size) s.heap s.heap [] := va_S.rf
  have hx := C.1
  have hb := C.2.1
  have hl : lv_has ls 4 [(0, .ref (pL E 57)), (1, .int a0)] := hl
  unfold f_X10_find at hf
  refine lv_iconst (v := (-1)) hx hb dX10_find_0 (by decide) ?_
  refine lv_istore_n (lv' := [(2, .int (-1)), (0, .ref (pL E 57)), (1, .int a0)]) hx hb dX10_find_1 rfl hl (by decide) rfl (fun ls hl => ?_)
  refine lv_iconst (v := 0) hx hb dX10_find_2 (by decide) ?_
  refine lv_istore_n (lv' := [(3, .int 0), (2, .int (-1)), (0, .ref (pL E 57)), (1, .int a0)]) hx hb dX10_find_3 rfl hl (by decide) rfl (fun ls hl => ?_)
  have lp4 : ∀ (n : Nat) (x3 : Int32) (x2 : Int32) (β : pSt) (H : Heap) (locs : List Loc) (ls : Array Slot), f_X10_find_L4 a0 n x3 x2 β = some (r, β') → va_P (pD E) vwCl (pw E α β) H → va_S (pA E s.heap.size) s.heap H locs → lv_has ls 4 [(3, .int x3), (2, .int x2), (0, .ref (pL E 57)), (1, .int a0)] → W p l e (pR 0) s m [.ref (pL E 57), .int a0].toArray below meth c H locs 0 0 (pQ below E s [.ref (pL E 57), .int a0].toArray (some (.int r)) α β') (F0 m 4 ls []) := by
    intro n
    induction n with
    | zero =>
      intro x3 x2 β H locs ls hf
      rw [f_X10_find_L4] at hf
      cases hf
    | succ n4 ih4 =>
      intro x3 x2 β H locs ls hf hP hS hl
      rw [f_X10_find_L4] at hf
      refine lv_iload_n hx hb dX10_find_4 rfl (lv_at hl 0 rfl) ?_
      refine lv_aload_n hx hb dX10_find_5 rfl (lv_at hl 2 rfl) ?_
      refine g_10_80 C hP dX10_find_6 ?_
      refine lv_icmp_ge (tgt := 34) hx hb dX10_find_9 (by decide) (fun h1 => ?_) (fun h1 => ?_)
      · have hf := pif_t hf h1
        refine lv_iload_n hx hb dX10_find_34 rfl (lv_at hl 1 rfl) ?_
        exact p_iret C hr hlk (pe1 hf) (pe2M hf) hP hS dX10_find_35
      · have hf := pif_f hf h1
        refine lv_aload_n hx hb dX10_find_12 rfl (lv_at hl 2 rfl) ?_
        refine g_10_47 C hP dX10_find_13 ?_
        refine lv_iload_n hx hb dX10_find_16 rfl (lv_at hl 0 rfl) ?_
        obtain ⟨h2, hf⟩ := pg_ok hf
        refine la_m_name C hP h2 dX10_find_17 ?_
        refine lv_iload_n hx hb dX10_find_18 rfl (lv_at hl 3 rfl) ?_
        refine lv_icmp_ne (tgt := 26) hx hb dX10_find_19 (by decide) (fun h3 => ?_) (fun h3 => ?_)
        · have hf := pif_f hf h3
          refine lv_iload_n hx hb dX10_find_26 rfl (lv_at hl 1 rfl) ?_
          refine lv_istore_n (lv' := [(2, .int x2), (3, .int x3), (0, .ref (pL E 57)), (1, .int a0)]) hx hb dX10_find_27 rfl hl (by decide) rfl (fun ls hl => ?_)
          refine lv_iinc (v := (x3 + 1)) (lv' := [(3, .int (x3 + 1)), (2, .int x2), (0, .ref (pL E 57)), (1, .int a0)]) hx hb dX10_find_28 hl (k := 1) rfl rfl (by decide) rfl (fun ls hl => ?_)
          refine lv_goto (tgt := 4) hx hb dX10_find_31 (by decide) ?_
          exact ih4 _ _ β _ _ _ hf hP hS (lv_sub hl [0, 1, 2, 3] rfl)
        · have hf := pif_t hf h3
          refine lv_iload_n hx hb dX10_find_22 rfl (lv_at hl 0 rfl) ?_
          refine lv_goto (tgt := 27) hx hb dX10_find_23 (by decide) ?_
          refine lv_istore_n (lv' := [(2, .int x3), (3, .int x3), (0, .ref (pL E 57)), (1, .int a0)]) hx hb dX10_find_27 rfl hl (by decide) rfl (fun ls hl => ?_)
          refine lv_iinc (v := (x3 + 1)) (lv' := [(3, .int (x3 + 1)), (2, .int x3), (0, .ref (pL E 57)), (1, .int a0)]) hx hb dX10_find_28 hl (k := 1) rfl rfl (by decide) rfl (fun ls hl => ?_)
          refine lv_goto (tgt := 4) hx hb dX10_find_31 (by decide) ?_
          exact ih4 _ _ β _ _ _ hf hP hS (lv_sub hl [0, 1, 2, 3] rfl)
  exact lp4 _ _ _ _ _ _ _ hf hP hS (lv_sub hl [0, 1, 2, 3] rfl)
set_option maxHeartbeats 4000000 in
set_option maxRecDepth 100000 in
theorem c_X10_come (l : Launch) {E : pE} (hE : pInj E) {α : pSt} {a0 : Int32} {a1 : Int32} {a2 : Int32} {a3 : Int32} {β β' : pSt} {r : Unit} (hf : f_X10_come a0 a1 a2 a3 β = some (r, β')) : pM l E yX10_come cX10_come 5 none 0 [.ref (pL E 57), .int a0, .int a1, .int a2, .int a3] α β none α β' := by
  refine pM.ofW hE (by decide) ?_ (Nat.le_of_ble_eq_true rfl)
  intro p e s m below meth c ls C hr hlk hP hl
  have C : pCx p s m c cX10_come 5 E RX10 := C
  have hS : va_S (pA E s.heap.size) s.heap s.heap [] := va_S.rf
  have hx := C.1
  have hb := C.2.1
  have hl : lv_has ls 5 [(0, .ref (pL E 57)), (1, .int a0), (2, .int a1), (3, .int a2), (4, .int a3)] := hl
  unfold f_X10_come at hf
  refine lv_aload_n hx hb dX10_come_0 rfl (lv_at hl 0 rfl) ?_
  refine g_10_47 C hP dX10_come_1 ?_
  refine lv_aload_n hx hb dX10_come_4 rfl (lv_at hl 0 rfl) ?_
  refine g_10_80 C hP dX10_come_5 ?_
  refine lv_iload_n hx hb dX10_come_8 rfl (lv_at hl 1 rfl) ?_
  obtain ⟨h1, hf⟩ := pg_ok hf
  refine sa_m_name C hP hS h1 dX10_come_9 (fun H locs hP hS => ?_)
  obtain ⟨β2, eβ2, hf⟩ := pl_ok hf
  rw [← eβ2] at hP
  clear eβ2
  refine lv_aload_n hx hb dX10_come_10 rfl (lv_at hl 0 rfl) ?_
  refine g_10_50 C hP dX10_come_11 ?_
  refine lv_aload_n hx hb dX10_come_14 rfl (lv_at hl 0 rfl) ?_
  refine g_10_80 C hP dX10_come_15 ?_
  refine lv_iload_n hx hb dX10_come_18 rfl (lv_at hl 2 rfl) ?_
  obtain ⟨h3, hf⟩ := pg_ok hf
  refine sa_m_marks C hP hS h3 dX10_come_19 (fun H locs hP hS => ?_)
  obtain ⟨β4, eβ4, hf⟩ := pl_ok hf
  rw [← eβ4] at hP
  clear eβ4
  refine lv_aload_n hx hb dX10_come_20 rfl (lv_at hl 0 rfl) ?_
  refine g_10_56 C hP dX10_come_21 ?_
  refine lv_aload_n hx hb dX10_come_24 rfl (lv_at hl 0 rfl) ?_
  refine g_10_80 C hP dX10_come_25 ?_
  refine lv_iload_n hx hb dX10_come_28 rfl (lv_at hl 3 rfl) ?_
  obtain ⟨h5, hf⟩ := pg_ok hf
  refine sa_m_maker C hP hS h5 dX10_come_29 (fun H locs hP hS => ?_)
  obtain ⟨β6, eβ6, hf⟩ := pl_ok hf
  rw [← eβ6] at hP
  clear eβ6
  refine lv_aload_n hx hb dX10_come_30 rfl (lv_at hl 0 rfl) ?_
  refine g_10_59 C hP dX10_come_31 ?_
  refine lv_aload_n hx hb dX10_come_34 rfl (lv_at hl 0 rfl) ?_
  refine g_10_80 C hP dX10_come_35 ?_
  refine lv_iload hx hb dX10_come_38 (lv_at hl 4 rfl) ?_
  obtain ⟨h7, hf⟩ := pg_ok hf
  refine sa_m_madeIn C hP hS h7 dX10_come_40 (fun H locs hP hS => ?_)
  obtain ⟨β8, eβ8, hf⟩ := pl_ok hf
  rw [← eβ8] at hP
  clear eβ8
  refine lv_aload_n hx hb dX10_come_41 rfl (lv_at hl 0 rfl) ?_
  refine g_10_53 C hP dX10_come_42 ?_
  refine lv_aload_n hx hb dX10_come_45 rfl (lv_at hl 0 rfl) ?_
  refine g_10_80 C hP dX10_come_46 ?_
  refine lv_iconst (v := 1) hx hb dX10_come_49 (by decide) ?_
  obtain ⟨h9, hf⟩ := pg_ok hf
  refine sa_m_isNew C hP hS (Or.inr rfl) h9 dX10_come_50 (fun H locs hP hS => ?_)
  obtain ⟨β10, eβ10, hf⟩ := pl_ok hf
  rw [← eβ10] at hP
  clear eβ10
  refine lv_aload_n hx hb dX10_come_51 rfl (lv_at hl 0 rfl) ?_
  refine lv_dup hx hb dX10_come_52 rfl ?_
  refine g_10_80 C hP dX10_come_53 ?_
  refine lv_iconst (v := 1) hx hb dX10_come_56 (by decide) ?_
  refine lv_iadd hx hb dX10_come_57 ?_
  refine s_10_80 C hP hS dX10_come_58 (fun H locs hP hS => ?_)
  obtain ⟨β11, eβ11, hf⟩ := pl_ok hf
  rw [← eβ11] at hP
  clear eβ11
  exact p_vret C hr hlk (pe2M hf) hP hS dX10_come_61
set_option maxHeartbeats 4000000 in
set_option maxRecDepth 100000 in
theorem c_X10_anew (l : Launch) {E : pE} (hE : pInj E) {α : pSt}  {β β' : pSt} {r : Int32} (hf : f_X10_anew  β = some (r, β')) : pM l E yX10_anew cX10_anew 3 (some .int) 0 [.ref (pL E 57)] α β (some (.int r)) α β' := by
  refine pM.ofW hE (by decide) ?_ (Nat.le_of_ble_eq_true rfl)
  intro p e s m below meth c ls C hr hlk hP hl
  have C : pCx p s m c cX10_anew 3 E RX10 := C
  have hS : va_S (pA E s.heap.size) s.heap s.heap [] := va_S.rf
  have hx := C.1
  have hb := C.2.1
  have hl : lv_has ls 3 [(0, .ref (pL E 57))] := hl
  unfold f_X10_anew at hf
  refine lv_iconst (v := 0) hx hb dX10_anew_0 (by decide) ?_
  refine lv_istore_n (lv' := [(1, .int 0), (0, .ref (pL E 57))]) hx hb dX10_anew_1 rfl hl (by decide) rfl (fun ls hl => ?_)
  refine lv_iconst (v := 0) hx hb dX10_anew_2 (by decide) ?_
  refine lv_istore_n (lv' := [(2, .int 0), (1, .int 0), (0, .ref (pL E 57))]) hx hb dX10_anew_3 rfl hl (by decide) rfl (fun ls hl => ?_)
  have lp4 : ∀ (n : Nat) (x2 : Int32) (x1 : Int32) (β : pSt) (H : Heap) (locs : List Loc) (ls : Array Slot), f_X10_anew_L4 n x2 x1 β = some (r, β') → va_P (pD E) vwCl (pw E α β) H → va_S (pA E s.heap.size) s.heap H locs → lv_has ls 3 [(2, .int x2), (1, .int x1), (0, .ref (pL E 57))] → W p l e (pR 0) s m [.ref (pL E 57)].toArray below meth c H locs 0 0 (pQ below E s [.ref (pL E 57)].toArray (some (.int r)) α β') (F0 m 4 ls []) := by
    intro n
    induction n with
    | zero =>
      intro x2 x1 β H locs ls hf
      rw [f_X10_anew_L4] at hf
      cases hf
    | succ n4 ih4 =>
      intro x2 x1 β H locs ls hf hP hS hl
      rw [f_X10_anew_L4] at hf
      refine lv_iload_n hx hb dX10_anew_4 rfl (lv_at hl 0 rfl) ?_
      refine lv_aload_n hx hb dX10_anew_5 rfl (lv_at hl 2 rfl) ?_
      refine g_10_80 C hP dX10_anew_6 ?_
      refine lv_icmp_ge (tgt := 42) hx hb dX10_anew_9 (by decide) (fun h1 => ?_) (fun h1 => ?_)
      · have hf := pif_t hf h1
        refine lv_iload_n hx hb dX10_anew_42 rfl (lv_at hl 1 rfl) ?_
        exact p_iret C hr hlk (pe1 hf) (pe2M hf) hP hS dX10_anew_43
      · have hf := pif_f hf h1
        refine lv_iload_n hx hb dX10_anew_12 rfl (lv_at hl 1 rfl) ?_
        refine lv_aload_n hx hb dX10_anew_13 rfl (lv_at hl 2 rfl) ?_
        refine g_10_53 C hP dX10_anew_14 ?_
        refine lv_iload_n hx hb dX10_anew_17 rfl (lv_at hl 0 rfl) ?_
        obtain ⟨h2, hf⟩ := pg_ok hf
        refine la_m_isNew C hP h2 dX10_anew_18 ?_
        refine lv_if_eq (tgt := 26) hx hb dX10_anew_19 (by decide) (fun h3 => ?_) (fun h3 => ?_)
        · have hf := pif_t hf h3
          refine lv_iconst (v := 1) hx hb dX10_anew_26 (by decide) ?_
          refine lv_iadd hx hb dX10_anew_27 ?_
          refine lv_istore_n (lv' := [(1, .int (x1 + 1)), (2, .int x2), (0, .ref (pL E 57))]) hx hb dX10_anew_28 rfl hl (by decide) rfl (fun ls hl => ?_)
          refine lv_aload_n hx hb dX10_anew_29 rfl (lv_at hl 2 rfl) ?_
          refine g_10_53 C hP dX10_anew_30 ?_
          refine lv_iload_n hx hb dX10_anew_33 rfl (lv_at hl 1 rfl) ?_
          refine lv_iconst (v := 1) hx hb dX10_anew_34 (by decide) ?_
          obtain ⟨h4, hf⟩ := pg_ok hf
          refine sa_m_isNew C hP hS (Or.inr rfl) h4 dX10_anew_35 (fun H locs hP hS => ?_)
          obtain ⟨β5, eβ5, hf⟩ := pl_ok hf
          rw [← eβ5] at hP
          clear eβ5
          refine lv_iinc (v := (x2 + 1)) (lv' := [(2, .int (x2 + 1)), (1, .int (x1 + 1)), (0, .ref (pL E 57))]) hx hb dX10_anew_36 hl (k := 1) rfl rfl (by decide) rfl (fun ls hl => ?_)
          refine lv_goto (tgt := 4) hx hb dX10_anew_39 (by decide) ?_
          exact ih4 _ _ β5 _ _ _ hf hP hS (lv_sub hl [0, 1, 2] rfl)
        · have hf := pif_f hf h3
          refine lv_iconst (v := 0) hx hb dX10_anew_22 (by decide) ?_
          refine lv_goto (tgt := 27) hx hb dX10_anew_23 (by decide) ?_
          refine lv_iadd hx hb dX10_anew_27 ?_
          refine lv_istore_n (lv' := [(1, .int (x1 + 0)), (2, .int x2), (0, .ref (pL E 57))]) hx hb dX10_anew_28 rfl hl (by decide) rfl (fun ls hl => ?_)
          refine lv_aload_n hx hb dX10_anew_29 rfl (lv_at hl 2 rfl) ?_
          refine g_10_53 C hP dX10_anew_30 ?_
          refine lv_iload_n hx hb dX10_anew_33 rfl (lv_at hl 1 rfl) ?_
          refine lv_iconst (v := 1) hx hb dX10_anew_34 (by decide) ?_
          obtain ⟨h6, hf⟩ := pg_ok hf
          refine sa_m_isNew C hP hS (Or.inr rfl) h6 dX10_anew_35 (fun H locs hP hS => ?_)
          obtain ⟨β7, eβ7, hf⟩ := pl_ok hf
          rw [← eβ7] at hP
          clear eβ7
          refine lv_iinc (v := (x2 + 1)) (lv' := [(2, .int (x2 + 1)), (1, .int (x1 + 0)), (0, .ref (pL E 57))]) hx hb dX10_anew_36 hl (k := 1) rfl rfl (by decide) rfl (fun ls hl => ?_)
          refine lv_goto (tgt := 4) hx hb dX10_anew_39 (by decide) ?_
          exact ih4 _ _ β7 _ _ _ hf hP hS (lv_sub hl [0, 1, 2] rfl)
  exact lp4 _ _ _ _ _ _ _ hf hP hS (lv_sub hl [0, 1, 2] rfl)
set_option maxHeartbeats 4000000 in
set_option maxRecDepth 100000 in
theorem c_X10_pass (l : Launch) {E : pE} (hE : pInj E) {α : pSt} {a0 : Int32} {β β' : pSt} {r : Int32} (hf : f_X10_pass a0 β = some (r, β')) : pM l E yX10_pass cX10_pass 3 (some .int) 0 [.ref (pL E 57), .int a0] α β (some (.int r)) α β' := by
  refine pM.ofW hE (by decide) ?_ (Nat.le_of_ble_eq_true rfl)
  intro p e s m below meth c ls C hr hlk hP hl
  have C : pCx p s m c cX10_pass 3 E RX10 := C
  have hS : va_S (pA E s.heap.size) s.heap s.heap [] := va_S.rf
  have hx := C.1
  have hb := C.2.1
  have hl : lv_has ls 3 [(0, .ref (pL E 57)), (1, .int a0)] := hl
  unfold f_X10_pass at hf
  refine lv_aload_n hx hb dX10_pass_0 rfl (lv_at hl 0 rfl) ?_
  refine g_10_130 C hP dX10_pass_1 ?_
  refine lv_if_eq (tgt := 11) hx hb dX10_pass_4 (by decide) (fun h1 => ?_) (fun h1 => ?_)
  · have hf := pif_t hf h1
    refine lv_iconst (v := 0) hx hb dX10_pass_11 (by decide) ?_
    refine lv_istore_n (lv' := [(2, .int 0), (0, .ref (pL E 57)), (1, .int a0)]) hx hb dX10_pass_12 rfl hl (by decide) rfl (fun ls hl => ?_)
    refine lv_aload_n hx hb dX10_pass_13 rfl (lv_at hl 1 rfl) ?_
    refine lv_iload_n hx hb dX10_pass_14 rfl (lv_at hl 2 rfl) ?_
    obtain ⟨h2, hf⟩ := pg_ok hf
    refine s_10_130 C hP hS (pbl_ok h2) dX10_pass_15 (fun H locs hP hS => ?_)
    obtain ⟨β3, eβ3, hf⟩ := pl_ok hf
    rw [← eβ3] at hP
    clear eβ3
    refine lv_iload_n hx hb dX10_pass_18 rfl (lv_at hl 0 rfl) ?_
    exact p_iret C hr hlk (pe1 hf) (pe2M hf) hP hS dX10_pass_19
  · have hf := pif_f hf h1
    refine lv_iconst (v := 1) hx hb dX10_pass_7 (by decide) ?_
    refine lv_goto (tgt := 12) hx hb dX10_pass_8 (by decide) ?_
    refine lv_istore_n (lv' := [(2, .int 1), (0, .ref (pL E 57)), (1, .int a0)]) hx hb dX10_pass_12 rfl hl (by decide) rfl (fun ls hl => ?_)
    refine lv_aload_n hx hb dX10_pass_13 rfl (lv_at hl 1 rfl) ?_
    refine lv_iload_n hx hb dX10_pass_14 rfl (lv_at hl 2 rfl) ?_
    obtain ⟨h4, hf⟩ := pg_ok hf
    refine s_10_130 C hP hS (pbl_ok h4) dX10_pass_15 (fun H locs hP hS => ?_)
    obtain ⟨β5, eβ5, hf⟩ := pl_ok hf
    rw [← eβ5] at hP
    clear eβ5
    refine lv_iload_n hx hb dX10_pass_18 rfl (lv_at hl 0 rfl) ?_
    exact p_iret C hr hlk (pe1 hf) (pe2M hf) hP hS dX10_pass_19
set_option maxHeartbeats 4000000 in
set_option maxRecDepth 100000 in
theorem c_X10_tell (l : Launch) {E : pE} (hE : pInj E) {α : pSt} {a0 : Int32} {a1 : Int32} {a2 : Int32} {a3 : Int32} {β β' : pSt} {r : Unit} (hf : f_X10_tell a0 a1 a2 a3 β = some (r, β')) : pM l E yX10_tell cX10_tell 6 none 0 [.ref (pL E 57), .int a0, .int a1, .int a2, .int a3] α β none α β' := by
  refine pM.ofW hE (by decide) ?_ (Nat.le_of_ble_eq_true rfl)
  intro p e s m below meth c ls C hr hlk hP hl
  have C : pCx p s m c cX10_tell 6 E RX10 := C
  have hS : va_S (pA E s.heap.size) s.heap s.heap [] := va_S.rf
  have hx := C.1
  have hb := C.2.1
  have hl : lv_has ls 6 [(0, .ref (pL E 57)), (1, .int a0), (2, .int a1), (3, .int a2), (4, .int a3)] := hl
  unfold f_X10_tell at hf
  refine lv_aload_n hx hb dX10_tell_0 rfl (lv_at hl 0 rfl) ?_
  refine g_10_134 C hP dX10_tell_1 ?_
  refine lv_bipush (v := 120) hx hb dX10_tell_4 (by decide) ?_
  refine lv_icmp_ne (tgt := 10) hx hb dX10_tell_6 (by decide) (fun h1 => ?_) (fun h1 => ?_)
  · have hf := pif_f hf h1
    refine lv_iconst (v := 5) hx hb dX10_tell_10 (by decide) ?_
    refine lv_aload_n hx hb dX10_tell_11 rfl (lv_at hl 0 rfl) ?_
    refine g_10_134 C hP dX10_tell_12 ?_
    refine lv_imul hx hb dX10_tell_15 ?_
    refine lv_istore (lv' := [(5, .int (5 * (β 26 0))), (0, .ref (pL E 57)), (1, .int a0), (2, .int a1), (3, .int a2), (4, .int a3)]) hx hb dX10_tell_16 hl (by decide) rfl (fun ls hl => ?_)
    refine lv_aload_n hx hb dX10_tell_18 rfl (lv_at hl 1 rfl) ?_
    refine g_10_74 C hP dX10_tell_19 ?_
    refine lv_iload hx hb dX10_tell_22 (lv_at hl 0 rfl) ?_
    refine lv_iload_n hx hb dX10_tell_24 rfl (lv_at hl 2 rfl) ?_
    obtain ⟨h2, hf⟩ := pg_ok hf
    refine sa_m_message C hP hS h2 dX10_tell_25 (fun H locs hP hS => ?_)
    obtain ⟨β3, eβ3, hf⟩ := pl_ok hf
    rw [← eβ3] at hP
    clear eβ3
    refine lv_aload_n hx hb dX10_tell_26 rfl (lv_at hl 1 rfl) ?_
    refine g_10_74 C hP dX10_tell_27 ?_
    refine lv_iload hx hb dX10_tell_30 (lv_at hl 0 rfl) ?_
    refine lv_iconst (v := 1) hx hb dX10_tell_32 (by decide) ?_
    refine lv_iadd hx hb dX10_tell_33 ?_
    refine lv_iload_n hx hb dX10_tell_34 rfl (lv_at hl 3 rfl) ?_
    obtain ⟨h4, hf⟩ := pg_ok hf
    refine sa_m_message C hP hS h4 dX10_tell_35 (fun H locs hP hS => ?_)
    obtain ⟨β5, eβ5, hf⟩ := pl_ok hf
    rw [← eβ5] at hP
    clear eβ5
    refine lv_aload_n hx hb dX10_tell_36 rfl (lv_at hl 1 rfl) ?_
    refine g_10_74 C hP dX10_tell_37 ?_
    refine lv_iload hx hb dX10_tell_40 (lv_at hl 0 rfl) ?_
    refine lv_iconst (v := 2) hx hb dX10_tell_42 (by decide) ?_
    refine lv_iadd hx hb dX10_tell_43 ?_
    refine lv_iload_n hx hb dX10_tell_44 rfl (lv_at hl 4 rfl) ?_
    refine lv_iconst (v := (-1)) hx hb dX10_tell_45 (by decide) ?_
    refine lv_icmp_ne (tgt := 53) hx hb dX10_tell_46 (by decide) (fun h6 => ?_) (fun h6 => ?_)
    · have hf := pif_f hf h6
      refine lv_aload_n hx hb dX10_tell_53 rfl (lv_at hl 1 rfl) ?_
      refine g_10_47 C hP dX10_tell_54 ?_
      refine lv_iload_n hx hb dX10_tell_57 rfl (lv_at hl 4 rfl) ?_
      obtain ⟨h7, hf⟩ := pg_ok hf
      refine la_m_name C hP h7 dX10_tell_58 ?_
      obtain ⟨h8, hf⟩ := pg_ok hf
      refine sa_m_message C hP hS h8 dX10_tell_59 (fun H locs hP hS => ?_)
      obtain ⟨β9, eβ9, hf⟩ := pl_ok hf
      rw [← eβ9] at hP
      clear eβ9
      refine lv_aload_n hx hb dX10_tell_60 rfl (lv_at hl 1 rfl) ?_
      refine g_10_74 C hP dX10_tell_61 ?_
      refine lv_iload hx hb dX10_tell_64 (lv_at hl 0 rfl) ?_
      refine lv_iconst (v := 3) hx hb dX10_tell_66 (by decide) ?_
      refine lv_iadd hx hb dX10_tell_67 ?_
      refine lv_iload hx hb dX10_tell_68 (lv_at hl 5 rfl) ?_
      obtain ⟨h10, hf⟩ := pg_ok hf
      refine sa_m_message C hP hS h10 dX10_tell_70 (fun H locs hP hS => ?_)
      obtain ⟨β11, eβ11, hf⟩ := pl_ok hf
      rw [← eβ11] at hP
      clear eβ11
      refine lv_aload_n hx hb dX10_tell_71 rfl (lv_at hl 1 rfl) ?_
      refine g_10_74 C hP dX10_tell_72 ?_
      refine lv_iload hx hb dX10_tell_75 (lv_at hl 0 rfl) ?_
      refine lv_iconst (v := 4) hx hb dX10_tell_77 (by decide) ?_
      refine lv_iadd hx hb dX10_tell_78 ?_
      refine lv_aload_n hx hb dX10_tell_79 rfl (lv_at hl 1 rfl) ?_
      refine g_10_137 C hP dX10_tell_80 ?_
      obtain ⟨h12, hf⟩ := pg_ok hf
      refine sa_m_message C hP hS h12 dX10_tell_83 (fun H locs hP hS => ?_)
      obtain ⟨β13, eβ13, hf⟩ := pl_ok hf
      rw [← eβ13] at hP
      clear eβ13
      refine lv_aload_n hx hb dX10_tell_84 rfl (lv_at hl 1 rfl) ?_
      refine lv_dup hx hb dX10_tell_85 rfl ?_
      refine g_10_134 C hP dX10_tell_86 ?_
      refine lv_iconst (v := 1) hx hb dX10_tell_89 (by decide) ?_
      refine lv_iadd hx hb dX10_tell_90 ?_
      refine s_10_134 C hP hS dX10_tell_91 (fun H locs hP hS => ?_)
      obtain ⟨β14, eβ14, hf⟩ := pl_ok hf
      rw [← eβ14] at hP
      clear eβ14
      exact p_vret C hr hlk (pe2M hf) hP hS dX10_tell_94
    · have hf := pif_t hf h6
      refine lv_iconst (v := (-1)) hx hb dX10_tell_49 (by decide) ?_
      refine lv_goto (tgt := 59) hx hb dX10_tell_50 (by decide) ?_
      obtain ⟨h15, hf⟩ := pg_ok hf
      refine sa_m_message C hP hS h15 dX10_tell_59 (fun H locs hP hS => ?_)
      obtain ⟨β16, eβ16, hf⟩ := pl_ok hf
      rw [← eβ16] at hP
      clear eβ16
      refine lv_aload_n hx hb dX10_tell_60 rfl (lv_at hl 1 rfl) ?_
      refine g_10_74 C hP dX10_tell_61 ?_
      refine lv_iload hx hb dX10_tell_64 (lv_at hl 0 rfl) ?_
      refine lv_iconst (v := 3) hx hb dX10_tell_66 (by decide) ?_
      refine lv_iadd hx hb dX10_tell_67 ?_
      refine lv_iload hx hb dX10_tell_68 (lv_at hl 5 rfl) ?_
      obtain ⟨h17, hf⟩ := pg_ok hf
      refine sa_m_message C hP hS h17 dX10_tell_70 (fun H locs hP hS => ?_)
      obtain ⟨β18, eβ18, hf⟩ := pl_ok hf
      rw [← eβ18] at hP
      clear eβ18
      refine lv_aload_n hx hb dX10_tell_71 rfl (lv_at hl 1 rfl) ?_
      refine g_10_74 C hP dX10_tell_72 ?_
      refine lv_iload hx hb dX10_tell_75 (lv_at hl 0 rfl) ?_
      refine lv_iconst (v := 4) hx hb dX10_tell_77 (by decide) ?_
      refine lv_iadd hx hb dX10_tell_78 ?_
      refine lv_aload_n hx hb dX10_tell_79 rfl (lv_at hl 1 rfl) ?_
      refine g_10_137 C hP dX10_tell_80 ?_
      obtain ⟨h19, hf⟩ := pg_ok hf
      refine sa_m_message C hP hS h19 dX10_tell_83 (fun H locs hP hS => ?_)
      obtain ⟨β20, eβ20, hf⟩ := pl_ok hf
      rw [← eβ20] at hP
      clear eβ20
      refine lv_aload_n hx hb dX10_tell_84 rfl (lv_at hl 1 rfl) ?_
      refine lv_dup hx hb dX10_tell_85 rfl ?_
      refine g_10_134 C hP dX10_tell_86 ?_
      refine lv_iconst (v := 1) hx hb dX10_tell_89 (by decide) ?_
      refine lv_iadd hx hb dX10_tell_90 ?_
      refine s_10_134 C hP hS dX10_tell_91 (fun H locs hP hS => ?_)
      obtain ⟨β21, eβ21, hf⟩ := pl_ok hf
      rw [← eβ21] at hP
      clear eβ21
      exact p_vret C hr hlk (pe2M hf) hP hS dX10_tell_94
  · have hf := pif_t hf h1
    exact p_vret C hr hlk (pe2M hf) hP hS dX10_tell_9
set_option maxHeartbeats 4000000 in
set_option maxRecDepth 100000 in
theorem c_X10_step (l : Launch) {E : pE} (hE : pInj E) {α : pSt} {a0 : Int32} {a1 : Int32} {β β' : pSt} {r : Unit} (hf : f_X10_step a0 a1 β = some (r, β')) : pM l E yX10_step cX10_step 3 none 0 [.ref (pL E 57), .int a0, .int a1] α β none α β' := by
  refine pM.ofW hE (by decide) ?_ (Nat.le_of_ble_eq_true rfl)
  intro p e s m below meth c ls C hr hlk hP hl
  have C : pCx p s m c cX10_step 3 E RX10 := C
  have hS : va_S (pA E s.heap.size) s.heap s.heap [] := va_S.rf
  have hx := C.1
  have hb := C.2.1
  have hl : lv_has ls 3 [(0, .ref (pL E 57)), (1, .int a0), (2, .int a1)] := hl
  unfold f_X10_step at hf
  refine lv_iload_n hx hb dX10_step_0 rfl (lv_at hl 2 rfl) ?_
  refine lv_aload_n hx hb dX10_step_1 rfl (lv_at hl 0 rfl) ?_
  refine g_10_140 C hP dX10_step_2 ?_
  refine lv_icmp_le (tgt := 14) hx hb dX10_step_5 (by decide) (fun h1 => ?_) (fun h1 => ?_)
  · have hf := pif_t hf h1
    refine lv_aload_n hx hb dX10_step_14 rfl (lv_at hl 0 rfl) ?_
    refine lv_dup hx hb dX10_step_15 rfl ?_
    refine g_10_140 C hP dX10_step_16 ?_
    refine lv_iload_n hx hb dX10_step_19 rfl (lv_at hl 2 rfl) ?_
    refine lv_isub hx hb dX10_step_20 ?_
    refine s_10_140 C hP hS dX10_step_21 (fun H locs hP hS => ?_)
    obtain ⟨β2, eβ2, hf⟩ := pl_ok hf
    rw [← eβ2] at hP
    clear eβ2
    refine lv_aload_n hx hb dX10_step_24 rfl (lv_at hl 0 rfl) ?_
    refine lv_dup hx hb dX10_step_25 rfl ?_
    refine g_10_146 C hP dX10_step_26 ?_
    refine lv_iload_n hx hb dX10_step_29 rfl (lv_at hl 2 rfl) ?_
    refine lv_iadd hx hb dX10_step_30 ?_
    refine s_10_146 C hP hS dX10_step_31 (fun H locs hP hS => ?_)
    obtain ⟨β3, eβ3, hf⟩ := pl_ok hf
    rw [← eβ3] at hP
    clear eβ3
    refine lv_aload_n hx hb dX10_step_34 rfl (lv_at hl 0 rfl) ?_
    refine g_10_44 C hP dX10_step_35 ?_
    refine lv_iload_n hx hb dX10_step_38 rfl (lv_at hl 1 rfl) ?_
    refine lv_dup2_11 hx hb dX10_step_39 rfl rfl ?_
    obtain ⟨h4, hf⟩ := pg_ok hf
    refine la_m_took C hP h4 dX10_step_40 ?_
    refine lv_iload_n hx hb dX10_step_41 rfl (lv_at hl 2 rfl) ?_
    refine lv_iadd hx hb dX10_step_42 ?_
    obtain ⟨h5, hf⟩ := pg_ok hf
    refine sa_m_took C hP hS h5 dX10_step_43 (fun H locs hP hS => ?_)
    obtain ⟨β6, eβ6, hf⟩ := pl_ok hf
    rw [← eβ6] at hP
    clear eβ6
    exact p_vret C hr hlk (pe2M hf) hP hS dX10_step_44
  · have hf := pif_f hf h1
    refine lv_aload_n hx hb dX10_step_8 rfl (lv_at hl 0 rfl) ?_
    refine lv_iconst (v := 1) hx hb dX10_step_9 (by decide) ?_
    refine s_10_143 C hP hS dX10_step_10 (fun H locs hP hS => ?_)
    obtain ⟨β7, eβ7, hf⟩ := pl_ok hf
    rw [← eβ7] at hP
    clear eβ7
    exact p_vret C hr hlk (pe2M hf) hP hS dX10_step_13
set_option maxHeartbeats 4000000 in
set_option maxRecDepth 100000 in
theorem c_X10_clear (l : Launch) {E : pE} (hE : pInj E) {α : pSt}  {β β' : pSt} {r : Int32} (hf : f_X10_clear  β = some (r, β')) : pM l E yX10_clear cX10_clear 3 (some .int) 0 [.ref (pL E 57)] α β (some (.int r)) α β' := by
  refine pM.ofW hE (by decide) ?_ (Nat.le_of_ble_eq_true rfl)
  intro p e s m below meth c ls C hr hlk hP hl
  have C : pCx p s m c cX10_clear 3 E RX10 := C
  have hS : va_S (pA E s.heap.size) s.heap s.heap [] := va_S.rf
  have hx := C.1
  have hb := C.2.1
  have hl : lv_has ls 3 [(0, .ref (pL E 57))] := hl
  unfold f_X10_clear at hf
  refine lv_aload_n hx hb dX10_clear_0 rfl (lv_at hl 0 rfl) ?_
  refine g_10_80 C hP dX10_clear_1 ?_
  refine lv_istore_n (lv' := [(1, .int (β 15 0)), (0, .ref (pL E 57))]) hx hb dX10_clear_4 rfl hl (by decide) rfl (fun ls hl => ?_)
  refine lv_aload_n hx hb dX10_clear_5 rfl (lv_at hl 1 rfl) ?_
  refine lv_iconst (v := 0) hx hb dX10_clear_6 (by decide) ?_
  refine s_10_80 C hP hS dX10_clear_7 (fun H locs hP hS => ?_)
  obtain ⟨β1, eβ1, hf⟩ := pl_ok hf
  rw [← eβ1] at hP
  clear eβ1
  refine lv_aload_n hx hb dX10_clear_10 rfl (lv_at hl 1 rfl) ?_
  refine lv_iconst (v := 0) hx hb dX10_clear_11 (by decide) ?_
  refine s_10_113 C hP hS dX10_clear_12 (fun H locs hP hS => ?_)
  obtain ⟨β2, eβ2, hf⟩ := pl_ok hf
  rw [← eβ2] at hP
  clear eβ2
  refine lv_aload_n hx hb dX10_clear_15 rfl (lv_at hl 1 rfl) ?_
  refine lv_iconst (v := 0) hx hb dX10_clear_16 (by decide) ?_
  refine s_10_134 C hP hS dX10_clear_17 (fun H locs hP hS => ?_)
  obtain ⟨β3, eβ3, hf⟩ := pl_ok hf
  rw [← eβ3] at hP
  clear eβ3
  refine lv_iconst (v := 0) hx hb dX10_clear_20 (by decide) ?_
  refine lv_istore_n (lv' := [(2, .int 0), (1, .int (β 15 0)), (0, .ref (pL E 57))]) hx hb dX10_clear_21 rfl hl (by decide) rfl (fun ls hl => ?_)
  generalize (β 15 0) = y1_22 at hf hl
  have lp22 : ∀ (n : Nat) (x2 : Int32) (β : pSt) (H : Heap) (locs : List Loc) (ls : Array Slot), f_X10_clear_L22 y1_22 n x2 β = some (r, β') → va_P (pD E) vwCl (pw E α β) H → va_S (pA E s.heap.size) s.heap H locs → lv_has ls 3 [(2, .int x2), (1, .int y1_22), (0, .ref (pL E 57))] → W p l e (pR 0) s m [.ref (pL E 57)].toArray below meth c H locs 0 0 (pQ below E s [.ref (pL E 57)].toArray (some (.int r)) α β') (F0 m 22 ls []) := by
    intro n
    induction n with
    | zero =>
      intro x2 β H locs ls hf
      rw [f_X10_clear_L22] at hf
      cases hf
    | succ n22 ih22 =>
      intro x2 β H locs ls hf hP hS hl
      rw [f_X10_clear_L22] at hf
      refine lv_iload_n hx hb dX10_clear_22 rfl (lv_at hl 0 rfl) ?_
      refine lv_iconst (v := 4) hx hb dX10_clear_23 (by decide) ?_
      refine lv_icmp_ge (tgt := 40) hx hb dX10_clear_24 (by decide) (fun h4 => ?_) (fun h4 => ?_)
      · have hf := pif_t hf h4
        refine lv_iload_n hx hb dX10_clear_40 rfl (lv_at hl 1 rfl) ?_
        exact p_iret C hr hlk (pe1 hf) (pe2M hf) hP hS dX10_clear_41
      · have hf := pif_f hf h4
        refine lv_aload_n hx hb dX10_clear_27 rfl (lv_at hl 2 rfl) ?_
        refine g_10_65 C hP dX10_clear_28 ?_
        refine lv_iload_n hx hb dX10_clear_31 rfl (lv_at hl 0 rfl) ?_
        refine lv_iconst (v := 0) hx hb dX10_clear_32 (by decide) ?_
        obtain ⟨h5, hf⟩ := pg_ok hf
        refine sa_m_written C hP hS h5 dX10_clear_33 (fun H locs hP hS => ?_)
        obtain ⟨β6, eβ6, hf⟩ := pl_ok hf
        rw [← eβ6] at hP
        clear eβ6
        refine lv_iinc (v := (x2 + 1)) (lv' := [(2, .int (x2 + 1)), (1, .int y1_22), (0, .ref (pL E 57))]) hx hb dX10_clear_34 hl (k := 0) rfl rfl (by decide) rfl (fun ls hl => ?_)
        refine lv_goto (tgt := 22) hx hb dX10_clear_37 (by decide) ?_
        exact ih22 _ β6 _ _ _ hf hP hS (lv_sub hl [0, 1, 2] rfl)
  exact lp22 _ _ _ _ _ _ hf hP hS (lv_sub hl [0, 1, 2] rfl)
