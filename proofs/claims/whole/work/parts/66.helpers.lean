set_option maxRecDepth 20000 in
theorem wv_L_7 {U : State} (h : pTab U) (a : Array Value) : pWV RL 7 yX9_octet cX9_octet 4 (some .byte) U a := ⟨h.1 _ (List.mem_of_getElem? (i := 755) rfl) rfl a, h.1 _ (List.mem_of_getElem? (i := 756) rfl) rfl a, h.1 _ (List.mem_of_getElem? (i := 757) rfl) rfl a, h.1 _ (List.mem_of_getElem? (i := 29) rfl) rfl a, h.1 _ (List.mem_of_getElem? (i := 758) rfl) rfl a⟩
set_option maxRecDepth 20000 in
theorem wv_L_15 {U : State} (h : pTab U) (a : Array Value) : pWV RL 15 yX9_cell cX9_cell 3 (some .int) U a := ⟨h.1 _ (List.mem_of_getElem? (i := 792) rfl) rfl a, h.1 _ (List.mem_of_getElem? (i := 793) rfl) rfl a, h.1 _ (List.mem_of_getElem? (i := 794) rfl) rfl a, h.1 _ (List.mem_of_getElem? (i := 29) rfl) rfl a, h.1 _ (List.mem_of_getElem? (i := 795) rfl) rfl a⟩
set_option maxRecDepth 20000 in
theorem wv_L_21 {U : State} (h : pTab U) (a : Array Value) : pWV RL 21 yX9_resource cX9_resource 4 (some .int) U a := ⟨h.1 _ (List.mem_of_getElem? (i := 806) rfl) rfl a, h.1 _ (List.mem_of_getElem? (i := 807) rfl) rfl a, h.1 _ (List.mem_of_getElem? (i := 808) rfl) rfl a, h.1 _ (List.mem_of_getElem? (i := 29) rfl) rfl a, h.1 _ (List.mem_of_getElem? (i := 809) rfl) rfl a⟩
theorem hdL_octet : yL_octet.cls ≠ "java/lang/invoke/MethodHandle" ∧ yL_octet.cls ≠ "java/lang/invoke/VarHandle" ∧ (parseMethodDescriptor yL_octet.desc).map (fun d => d.parameters.length) = some 4 := by decide +kernel
set_option maxRecDepth 20000 in
theorem whL_octet {s : State} (h : pTab s) (a : Array Value) : pWH RL 40 yL_octet cL_octet 5 [(0, 10, 13, 13)] s a := ⟨h.1 _ (by decide +kernel) rfl _, h.1 _ (by decide +kernel) rfl _, h.1 _ (by decide +kernel) rfl _, fun a' U hW => (h.warm hW).1 _ (by decide +kernel) rfl a'⟩
set_option maxHeartbeats 4000000 in
set_option maxRecDepth 100000 in
theorem hR_octet {l : Launch} (hlt : l.stackTraces = false) {E : pE} (hE : pInj E) {o : Nat} (ho : pOut E o) {g : Nat → Int64} {β : pSt} {a0 : Int32} {a1 : Int32} {α α' : pSt} {r : Int32} (hf : f_X9_octet a0 a1 α = some (r, α')) : pH l E o yL_octet cL_octet 5 [(0, 10, 13, 13)] 8 [.ref (pL E 0), .int a0, .int a1, .ref o] α β g 0 α' β (vp_updL g 0 r.toInt64) := by
  refine pH.ofW hE (by decide) ?_ (Nat.le_of_ble_eq_true rfl)
  intro p e s m below meth c ls C htab hr hlk hP hG hZ hl
  have C : pCx p s m c cL_octet 5 E RL := C
  have hS : va_S (pA E s.heap.size) s.heap s.heap [] := va_S.rf
  have hZ1 : pXs (pA E s.heap.size) s s.heap := hZ.narrow (fun _ h => Or.inl h)
  have hx := C.1
  have hb := C.2.1
  have hT := C.2.2.2.2.1
  have hl : lv_has ls 5 [(0, .ref (pL E 0)), (1, .int a0), (2, .int a1), (3, .ref o)] := hl
  refine lv_aload_n hx hb dL_octet_0 rfl (lv_at hl 3 rfl) ?_
  refine lv_iconst (v := 0) hx hb dL_octet_1 (by decide) ?_
  refine lv_aload_n hx hb dL_octet_2 rfl (lv_at hl 0 rfl) ?_
  refine lv_iload_n hx hb dL_octet_3 rfl (lv_at hl 1 rfl) ?_
  refine lv_iload_n hx hb dL_octet_4 rfl (lv_at hl 2 rfl) ?_
  refine p_callV (n := 2) (As := [.int a0, .int a1]) (rest := [.int 0, .ref o]) C hP hS (wv_L_7 C.2.2.2.2.1 _) (c_X9_octet l hE hf) (e_X9) rfl rfl hd_X9_octet rfl ⟨Nat.le_of_ble_eq_true rfl, Nat.le_of_ble_eq_true rfl⟩ hl.1 rfl (Nat.le_of_ble_eq_true rfl) dL_octet_5 ⟨Nat.zero_le _, Nat.zero_le _⟩ (fun H locs hP hS _ hk => ?_)
  refine W.eq (g2 := F0 m 8 ls [.int r, .int 0, .ref o]) rfl ?_
  refine lv_i2l hx hb dL_octet_8 rfl ?_
  refine p_lastore C ho hP (pOe_call ho hG hk) (va_S_w hS (fun _ h => Or.inl h)) dL_octet_9 (fun H1 locs1 hP1 hG1 hS1 => ?_)
  refine lv_goto (tgt := 17) hx hb dL_octet_10 (by decide) ?_
  refine lv_iconst (v := 0) hx hb dL_octet_17 (by decide) ?_
  exact p_hret C hr hlk rfl hP1 hG1 hS1 (by decide) (by decide) dL_octet_18
set_option maxHeartbeats 4000000 in
set_option maxRecDepth 100000 in
theorem hA_octet {l : Launch} (hlt : l.stackTraces = false) {E : pE} (hE : pInj E) {o : Nat} (ho : pOut E o) {g : Nat → Int64} {β : pSt} {a0 : Int32} {a1 : Int32} {α α' : pSt} {r : Unit} (hf : tA_X9_octet a0 a1 α = some (r, α')) : pH l E o yL_octet cL_octet 5 [(0, 10, 13, 13)] 8 [.ref (pL E 0), .int a0, .int a1, .ref o] α β g 1 α' β g := by
  refine pH.ofW hE (by decide) ?_ (Nat.le_of_ble_eq_true rfl)
  intro p e s m below meth c ls C htab hr hlk hP hG hZ hl
  have C : pCx p s m c cL_octet 5 E RL := C
  have hS : va_S (pA E s.heap.size) s.heap s.heap [] := va_S.rf
  have hZ1 : pXs (pA E s.heap.size) s s.heap := hZ.narrow (fun _ h => Or.inl h)
  have hx := C.1
  have hb := C.2.1
  have hT := C.2.2.2.2.1
  have hl : lv_has ls 5 [(0, .ref (pL E 0)), (1, .int a0), (2, .int a1), (3, .ref o)] := hl
  refine lv_aload_n hx hb dL_octet_0 rfl (lv_at hl 3 rfl) ?_
  refine lv_iconst (v := 0) hx hb dL_octet_1 (by decide) ?_
  refine lv_aload_n hx hb dL_octet_2 rfl (lv_at hl 0 rfl) ?_
  refine lv_iload_n hx hb dL_octet_3 rfl (lv_at hl 1 rfl) ?_
  refine lv_iload_n hx hb dL_octet_4 rfl (lv_at hl 2 rfl) ?_
  refine p_callX (n := 2) (As := [.int a0, .int a1]) (rest := [.int 0, .ref o]) C hP hS hZ1 (wv_L_7 C.2.2.2.2.1 _) (cA_X9_octet hlt hE hf) (e_X9) rfl rfl hd_X9_octet rfl ⟨Nat.le_of_ble_eq_true rfl, Nat.le_of_ble_eq_true rfl⟩ hl.1 rfl (Nat.le_of_ble_eq_true rfl) dL_octet_5 (by decide) (fun H locs q ce hP hS _ hk hce hcv hcl => ?_)
  refine vx_catch (own := RL) (name := pxA) (E := pxA) C.2.2.2.1 [] ⟨0, 10, 13, 13⟩ [] (by rw [htab]; rfl) (fun z hz => nomatch hz) (by decide) (by decide) (hT.1 _ (by decide +kernel : Cond.classLink RL 13 pxA ∈ lw_tbl) rfl _) (va_Nw.use rfl (hZ1.2.2.2.1 _ (by decide +kernel : Cond.castable pxA pxA ∈ pNg))) hce hcv hcl ?_
  refine lv_astore (lv' := [(4, .ref q), (0, .ref (pL E 0)), (1, .int a0), (2, .int a1), (3, .ref o)]) hx hb dL_octet_13 hl (by decide) rfl (fun ls hl => ?_)
  refine lv_iconst (v := 1) hx hb dL_octet_15 (by decide) ?_
  exact p_hret C hr hlk rfl hP (pOe_call ho hG hk) (va_S_w hS (fun _ h => Or.inl h)) (by decide) (by decide) dL_octet_16
theorem hdL_cell : yL_cell.cls ≠ "java/lang/invoke/MethodHandle" ∧ yL_cell.cls ≠ "java/lang/invoke/VarHandle" ∧ (parseMethodDescriptor yL_cell.desc).map (fun d => d.parameters.length) = some 3 := by decide +kernel
set_option maxRecDepth 20000 in
theorem whL_cell {s : State} (h : pTab s) (a : Array Value) : pWH RL 105 yL_cell cL_cell 4 [(0, 9, 12, 13), (0, 9, 15, 19)] s a := ⟨h.1 _ (by decide +kernel) rfl _, h.1 _ (by decide +kernel) rfl _, h.1 _ (by decide +kernel) rfl _, fun a' U hW => (h.warm hW).1 _ (by decide +kernel) rfl a'⟩
set_option maxHeartbeats 4000000 in
set_option maxRecDepth 100000 in
theorem hR_cell {l : Launch} (hlt : l.stackTraces = false) {E : pE} (hE : pInj E) {o : Nat} (ho : pOut E o) {g : Nat → Int64} {β : pSt} {a0 : Int32} {α α' : pSt} {r : Int32} (hf : f_X9_cell a0 α = some (r, α')) : pH l E o yL_cell cL_cell 4 [(0, 9, 12, 13), (0, 9, 15, 19)] 8 [.ref (pL E 0), .int a0, .ref o] α β g 0 α' β (vp_updL g 0 r.toInt64) := by
  refine pH.ofW hE (by decide) ?_ (Nat.le_of_ble_eq_true rfl)
  intro p e s m below meth c ls C htab hr hlk hP hG hZ hl
  have C : pCx p s m c cL_cell 4 E RL := C
  have hS : va_S (pA E s.heap.size) s.heap s.heap [] := va_S.rf
  have hZ1 : pXs (pA E s.heap.size) s s.heap := hZ.narrow (fun _ h => Or.inl h)
  have hx := C.1
  have hb := C.2.1
  have hT := C.2.2.2.2.1
  have hl : lv_has ls 4 [(0, .ref (pL E 0)), (1, .int a0), (2, .ref o)] := hl
  refine lv_aload_n hx hb dL_cell_0 rfl (lv_at hl 2 rfl) ?_
  refine lv_iconst (v := 0) hx hb dL_cell_1 (by decide) ?_
  refine lv_aload_n hx hb dL_cell_2 rfl (lv_at hl 0 rfl) ?_
  refine lv_iload_n hx hb dL_cell_3 rfl (lv_at hl 1 rfl) ?_
  refine p_callV (n := 1) (As := [.int a0]) (rest := [.int 0, .ref o]) C hP hS (wv_L_15 C.2.2.2.2.1 _) (c_X9_cell l hE hf) (e_X9) rfl rfl hd_X9_cell rfl ⟨Nat.le_of_ble_eq_true rfl, Nat.le_of_ble_eq_true rfl⟩ hl.1 rfl (Nat.le_of_ble_eq_true rfl) dL_cell_4 ⟨Nat.zero_le _, Nat.zero_le _⟩ (fun H locs hP hS _ hk => ?_)
  refine W.eq (g2 := F0 m 7 ls [.int r, .int 0, .ref o]) rfl ?_
  refine lv_i2l hx hb dL_cell_7 rfl ?_
  refine p_lastore C ho hP (pOe_call ho hG hk) (va_S_w hS (fun _ h => Or.inl h)) dL_cell_8 (fun H1 locs1 hP1 hG1 hS1 => ?_)
  refine lv_goto (tgt := 18) hx hb dL_cell_9 (by decide) ?_
  refine lv_iconst (v := 0) hx hb dL_cell_18 (by decide) ?_
  exact p_hret C hr hlk rfl hP1 hG1 hS1 (by decide) (by decide) dL_cell_19
set_option maxHeartbeats 4000000 in
set_option maxRecDepth 100000 in
theorem hA_cell {l : Launch} (hlt : l.stackTraces = false) {E : pE} (hE : pInj E) {o : Nat} (ho : pOut E o) {g : Nat → Int64} {β : pSt} {a0 : Int32} {α α' : pSt} {r : Unit} (hf : tA_X9_cell a0 α = some (r, α')) : pH l E o yL_cell cL_cell 4 [(0, 9, 12, 13), (0, 9, 15, 19)] 8 [.ref (pL E 0), .int a0, .ref o] α β g 1 α' β g := by
  refine pH.ofW hE (by decide) ?_ (Nat.le_of_ble_eq_true rfl)
  intro p e s m below meth c ls C htab hr hlk hP hG hZ hl
  have C : pCx p s m c cL_cell 4 E RL := C
  have hS : va_S (pA E s.heap.size) s.heap s.heap [] := va_S.rf
  have hZ1 : pXs (pA E s.heap.size) s s.heap := hZ.narrow (fun _ h => Or.inl h)
  have hx := C.1
  have hb := C.2.1
  have hT := C.2.2.2.2.1
  have hl : lv_has ls 4 [(0, .ref (pL E 0)), (1, .int a0), (2, .ref o)] := hl
  refine lv_aload_n hx hb dL_cell_0 rfl (lv_at hl 2 rfl) ?_
  refine lv_iconst (v := 0) hx hb dL_cell_1 (by decide) ?_
  refine lv_aload_n hx hb dL_cell_2 rfl (lv_at hl 0 rfl) ?_
  refine lv_iload_n hx hb dL_cell_3 rfl (lv_at hl 1 rfl) ?_
  refine p_callX (n := 1) (As := [.int a0]) (rest := [.int 0, .ref o]) C hP hS hZ1 (wv_L_15 C.2.2.2.2.1 _) (cA_X9_cell hlt hE hf) (e_X9) rfl rfl hd_X9_cell rfl ⟨Nat.le_of_ble_eq_true rfl, Nat.le_of_ble_eq_true rfl⟩ hl.1 rfl (Nat.le_of_ble_eq_true rfl) dL_cell_4 (by decide) (fun H locs q ce hP hS _ hk hce hcv hcl => ?_)
  refine vx_catch (own := RL) (name := pxA) (E := pxA) C.2.2.2.1 [] ⟨0, 9, 12, 13⟩ [⟨0, 9, 15, 19⟩] (by rw [htab]; rfl) (fun z hz => nomatch hz) (by decide) (by decide) (hT.1 _ (by decide +kernel : Cond.classLink RL 13 pxA ∈ lw_tbl) rfl _) (va_Nw.use rfl (hZ1.2.2.2.1 _ (by decide +kernel : Cond.castable pxA pxA ∈ pNg))) hce hcv hcl ?_
  refine lv_astore_n (lv' := [(3, .ref q), (0, .ref (pL E 0)), (1, .int a0), (2, .ref o)]) hx hb dL_cell_12 rfl hl (by decide) rfl (fun ls hl => ?_)
  refine lv_iconst (v := 1) hx hb dL_cell_13 (by decide) ?_
  exact p_hret C hr hlk rfl hP (pOe_call ho hG hk) (va_S_w hS (fun _ h => Or.inl h)) (by decide) (by decide) dL_cell_14
set_option maxHeartbeats 4000000 in
set_option maxRecDepth 100000 in
theorem hN_cell {l : Launch} (hlt : l.stackTraces = false) {E : pE} (hE : pInj E) {o : Nat} (ho : pOut E o) {g : Nat → Int64} {β : pSt} {a0 : Int32} {α α' : pSt} {r : Unit} (hf : tN_X9_cell a0 α = some (r, α')) : pH l E o yL_cell cL_cell 4 [(0, 9, 12, 13), (0, 9, 15, 19)] 8 [.ref (pL E 0), .int a0, .ref o] α β g 2 α' β g := by
  refine pH.ofW hE (by decide) ?_ (Nat.le_of_ble_eq_true rfl)
  intro p e s m below meth c ls C htab hr hlk hP hG hZ hl
  have C : pCx p s m c cL_cell 4 E RL := C
  have hS : va_S (pA E s.heap.size) s.heap s.heap [] := va_S.rf
  have hZ1 : pXs (pA E s.heap.size) s s.heap := hZ.narrow (fun _ h => Or.inl h)
  have hx := C.1
  have hb := C.2.1
  have hT := C.2.2.2.2.1
  have hl : lv_has ls 4 [(0, .ref (pL E 0)), (1, .int a0), (2, .ref o)] := hl
  refine lv_aload_n hx hb dL_cell_0 rfl (lv_at hl 2 rfl) ?_
  refine lv_iconst (v := 0) hx hb dL_cell_1 (by decide) ?_
  refine lv_aload_n hx hb dL_cell_2 rfl (lv_at hl 0 rfl) ?_
  refine lv_iload_n hx hb dL_cell_3 rfl (lv_at hl 1 rfl) ?_
  refine p_callX (n := 1) (As := [.int a0]) (rest := [.int 0, .ref o]) C hP hS hZ1 (wv_L_15 C.2.2.2.2.1 _) (cN_X9_cell hlt hE hf) (e_X9) rfl rfl hd_X9_cell rfl ⟨Nat.le_of_ble_eq_true rfl, Nat.le_of_ble_eq_true rfl⟩ hl.1 rfl (Nat.le_of_ble_eq_true rfl) dL_cell_4 (by decide) (fun H locs q ce hP hS _ hk hce hcv hcl => ?_)
  refine vx_catch (own := RL) (name := Bundle.nN) (E := Bundle.nN) C.2.2.2.1 [⟨0, 9, 12, 13⟩] ⟨0, 9, 15, 19⟩ [] (by rw [htab]; rfl) (fun z hz => by rw [List.mem_singleton.mp hz]; exact Or.inr ⟨by decide, pxA, (hT.1 _ (by decide +kernel : Cond.classLink RL 13 pxA ∈ lw_tbl) rfl _), hZ1.2.2.2.2⟩) (by decide) (by decide) (hT.1 _ (by decide +kernel : Cond.classLink RL 19 Bundle.nN ∈ lw_tbl) rfl _) (va_Nw.use rfl (hZ1.2.2.2.1 _ (by decide +kernel : Cond.castable Bundle.nN Bundle.nN ∈ pNg))) hce hcv hcl ?_
  refine lv_astore_n (lv' := [(3, .ref q), (0, .ref (pL E 0)), (1, .int a0), (2, .ref o)]) hx hb dL_cell_15 rfl hl (by decide) rfl (fun ls hl => ?_)
  refine lv_iconst (v := 2) hx hb dL_cell_16 (by decide) ?_
  exact p_hret C hr hlk rfl hP (pOe_call ho hG hk) (va_S_w hS (fun _ h => Or.inl h)) (by decide) (by decide) dL_cell_17
theorem hdL_resource : yL_resource.cls ≠ "java/lang/invoke/MethodHandle" ∧ yL_resource.cls ≠ "java/lang/invoke/VarHandle" ∧ (parseMethodDescriptor yL_resource.desc).map (fun d => d.parameters.length) = some 4 := by decide +kernel
set_option maxRecDepth 20000 in
theorem whL_resource {s : State} (h : pTab s) (a : Array Value) : pWH RL 109 yL_resource cL_resource 5 [(0, 10, 13, 13)] s a := ⟨h.1 _ (by decide +kernel) rfl _, h.1 _ (by decide +kernel) rfl _, h.1 _ (by decide +kernel) rfl _, fun a' U hW => (h.warm hW).1 _ (by decide +kernel) rfl a'⟩
set_option maxHeartbeats 4000000 in
set_option maxRecDepth 100000 in
theorem hR_resource {l : Launch} (hlt : l.stackTraces = false) {E : pE} (hE : pInj E) {o : Nat} (ho : pOut E o) {g : Nat → Int64} {β : pSt} {a0 : Int32} {a1 : Int32} {α α' : pSt} {r : Int32} (hf : f_X9_resource a0 a1 α = some (r, α')) : pH l E o yL_resource cL_resource 5 [(0, 10, 13, 13)] 8 [.ref (pL E 0), .int a0, .int a1, .ref o] α β g 0 α' β (vp_updL g 0 r.toInt64) := by
  refine pH.ofW hE (by decide) ?_ (Nat.le_of_ble_eq_true rfl)
  intro p e s m below meth c ls C htab hr hlk hP hG hZ hl
  have C : pCx p s m c cL_resource 5 E RL := C
  have hS : va_S (pA E s.heap.size) s.heap s.heap [] := va_S.rf
  have hZ1 : pXs (pA E s.heap.size) s s.heap := hZ.narrow (fun _ h => Or.inl h)
  have hx := C.1
  have hb := C.2.1
  have hT := C.2.2.2.2.1
  have hl : lv_has ls 5 [(0, .ref (pL E 0)), (1, .int a0), (2, .int a1), (3, .ref o)] := hl
  refine lv_aload_n hx hb dL_resource_0 rfl (lv_at hl 3 rfl) ?_
  refine lv_iconst (v := 0) hx hb dL_resource_1 (by decide) ?_
  refine lv_aload_n hx hb dL_resource_2 rfl (lv_at hl 0 rfl) ?_
  refine lv_iload_n hx hb dL_resource_3 rfl (lv_at hl 1 rfl) ?_
  refine lv_iload_n hx hb dL_resource_4 rfl (lv_at hl 2 rfl) ?_
  refine p_callV (n := 2) (As := [.int a0, .int a1]) (rest := [.int 0, .ref o]) C hP hS (wv_L_21 C.2.2.2.2.1 _) (c_X9_resource l hE hf) (e_X9) rfl rfl hd_X9_resource rfl ⟨Nat.le_of_ble_eq_true rfl, Nat.le_of_ble_eq_true rfl⟩ hl.1 rfl (Nat.le_of_ble_eq_true rfl) dL_resource_5 ⟨Nat.zero_le _, Nat.zero_le _⟩ (fun H locs hP hS _ hk => ?_)
  refine W.eq (g2 := F0 m 8 ls [.int r, .int 0, .ref o]) rfl ?_
  refine lv_i2l hx hb dL_resource_8 rfl ?_
  refine p_lastore C ho hP (pOe_call ho hG hk) (va_S_w hS (fun _ h => Or.inl h)) dL_resource_9 (fun H1 locs1 hP1 hG1 hS1 => ?_)
  refine lv_goto (tgt := 17) hx hb dL_resource_10 (by decide) ?_
  refine lv_iconst (v := 0) hx hb dL_resource_17 (by decide) ?_
  exact p_hret C hr hlk rfl hP1 hG1 hS1 (by decide) (by decide) dL_resource_18
set_option maxHeartbeats 4000000 in
set_option maxRecDepth 100000 in
theorem hA_resource {l : Launch} (hlt : l.stackTraces = false) {E : pE} (hE : pInj E) {o : Nat} (ho : pOut E o) {g : Nat → Int64} {β : pSt} {a0 : Int32} {a1 : Int32} {α α' : pSt} {r : Unit} (hf : tA_X9_resource a0 a1 α = some (r, α')) : pH l E o yL_resource cL_resource 5 [(0, 10, 13, 13)] 8 [.ref (pL E 0), .int a0, .int a1, .ref o] α β g 1 α' β g := by
  refine pH.ofW hE (by decide) ?_ (Nat.le_of_ble_eq_true rfl)
  intro p e s m below meth c ls C htab hr hlk hP hG hZ hl
  have C : pCx p s m c cL_resource 5 E RL := C
  have hS : va_S (pA E s.heap.size) s.heap s.heap [] := va_S.rf
  have hZ1 : pXs (pA E s.heap.size) s s.heap := hZ.narrow (fun _ h => Or.inl h)
  have hx := C.1
  have hb := C.2.1
  have hT := C.2.2.2.2.1
  have hl : lv_has ls 5 [(0, .ref (pL E 0)), (1, .int a0), (2, .int a1), (3, .ref o)] := hl
  refine lv_aload_n hx hb dL_resource_0 rfl (lv_at hl 3 rfl) ?_
  refine lv_iconst (v := 0) hx hb dL_resource_1 (by decide) ?_
  refine lv_aload_n hx hb dL_resource_2 rfl (lv_at hl 0 rfl) ?_
  refine lv_iload_n hx hb dL_resource_3 rfl (lv_at hl 1 rfl) ?_
  refine lv_iload_n hx hb dL_resource_4 rfl (lv_at hl 2 rfl) ?_
  refine p_callX (n := 2) (As := [.int a0, .int a1]) (rest := [.int 0, .ref o]) C hP hS hZ1 (wv_L_21 C.2.2.2.2.1 _) (cA_X9_resource hlt hE hf) (e_X9) rfl rfl hd_X9_resource rfl ⟨Nat.le_of_ble_eq_true rfl, Nat.le_of_ble_eq_true rfl⟩ hl.1 rfl (Nat.le_of_ble_eq_true rfl) dL_resource_5 (by decide) (fun H locs q ce hP hS _ hk hce hcv hcl => ?_)
  refine vx_catch (own := RL) (name := pxA) (E := pxA) C.2.2.2.1 [] ⟨0, 10, 13, 13⟩ [] (by rw [htab]; rfl) (fun z hz => nomatch hz) (by decide) (by decide) (hT.1 _ (by decide +kernel : Cond.classLink RL 13 pxA ∈ lw_tbl) rfl _) (va_Nw.use rfl (hZ1.2.2.2.1 _ (by decide +kernel : Cond.castable pxA pxA ∈ pNg))) hce hcv hcl ?_
  refine lv_astore (lv' := [(4, .ref q), (0, .ref (pL E 0)), (1, .int a0), (2, .int a1), (3, .ref o)]) hx hb dL_resource_13 hl (by decide) rfl (fun ls hl => ?_)
  refine lv_iconst (v := 1) hx hb dL_resource_15 (by decide) ?_
  exact p_hret C hr hlk rfl hP (pOe_call ho hG hk) (va_S_w hS (fun _ h => Or.inl h)) (by decide) (by decide) dL_resource_16
