/-! the start of the law -/
theorem px_tab {s : State} {a : Array Value} (hts : ∀ w ∈ lw_tbl, w.before a s = true) : pTab s :=
  ⟨fun w hw hg a' => word_at (State.WarmedH.refl s) (good_of_word hg) (hts w hw), fun _ _ _ _ _ _ hm => va_Nw.of rfl (hts _ hm), fun _ _ _ _ hm => va_Nw.of rfl (hts _ hm)⟩
theorem px_arr {s : State} {a : Array Value} {ty : FieldType} (h : (Cond.arrayClass ty).before a s = true) : ∃ c, ArrOfT s c ty ∧ s.vm.findClass ("[" ++ ty.toString) = some c := by
  obtain ⟨c, k, comp, h1, h2, h3⟩ := Cond.arrayClass_spec h
  exact ⟨c, fun n z => ⟨fun k h => (by cases h), k, h2, comp, h3⟩, h1⟩
theorem px_arrO {s : State} {a : Array Value} {n : String} (h : (Cond.arrayOver (.object n)).before a s = true) : ∃ c, ArrOfT s c (.object n) ∧ va_RA s c (.object n) := by
  obtain ⟨comp, c, k, h1, h2, h3, h4, h5⟩ := Cond.arrayOver_spec h
  exact ⟨c, fun n z => ⟨fun k h => (by cases h), k, h3, comp, h4⟩, k, comp, h3, h4, h1, h5⟩
theorem px_kn {s : State} {a : Array Value} (hts : ∀ w ∈ lw_tbl, w.before a s = true) : ∀ q ∈ vwCl, ∃ d : ClassId × (Nat → Nat), u_Kn s q.1 q.2.1 q.2.2 d.1 d.2 := by
  simp only [List.forall_mem_cons]
  have k0 : ∃ d : ClassId × (Nat → Nat), u_Kn s RJ0 TJ0 2 d.1 d.2 := by
    obtain ⟨cC, iS, h⟩ := u_known (C := RJ0) (T := TJ0) (N := 2) (n := 4) hts (by decide +kernel) (hts _ (by decide +kernel))
    exact ⟨(cC, iS), h⟩
  have k1 : ∃ d : ClassId × (Nat → Nat), u_Kn s RJx00060 TJx00060 6 d.1 d.2 := by
    obtain ⟨cC, iS, h⟩ := u_known (C := RJx00060) (T := TJx00060) (N := 6) (n := 6) hts (by decide +kernel) (hts _ (by decide +kernel))
    exact ⟨(cC, iS), h⟩
  have k2 : ∃ d : ClassId × (Nat → Nat), u_Kn s RJx5d777 TJx5d777 8 d.1 d.2 := by
    obtain ⟨cC, iS, h⟩ := u_known (C := RJx5d777) (T := TJx5d777) (N := 8) (n := 8) hts (by decide +kernel) (hts _ (by decide +kernel))
    exact ⟨(cC, iS), h⟩
  have k3 : ∃ d : ClassId × (Nat → Nat), u_Kn s RX1 TX1 2 d.1 d.2 := by
    obtain ⟨cC, iS, h⟩ := u_known (C := RX1) (T := TX1) (N := 2) (n := 2) hts (by decide +kernel) (hts _ (by decide +kernel))
    exact ⟨(cC, iS), h⟩
  have k4 : ∃ d : ClassId × (Nat → Nat), u_Kn s RX2 TX2 3 d.1 d.2 := by
    obtain ⟨cC, iS, h⟩ := u_known (C := RX2) (T := TX2) (N := 3) (n := 3) hts (by decide +kernel) (hts _ (by decide +kernel))
    exact ⟨(cC, iS), h⟩
  have k5 : ∃ d : ClassId × (Nat → Nat), u_Kn s RX3 TX3 7 d.1 d.2 := by
    obtain ⟨cC, iS, h⟩ := u_known (C := RX3) (T := TX3) (N := 7) (n := 7) hts (by decide +kernel) (hts _ (by decide +kernel))
    exact ⟨(cC, iS), h⟩
  have k6 : ∃ d : ClassId × (Nat → Nat), u_Kn s RX4 TX4 2 d.1 d.2 := by
    obtain ⟨cC, iS, h⟩ := u_known (C := RX4) (T := TX4) (N := 2) (n := 2) hts (by decide +kernel) (hts _ (by decide +kernel))
    exact ⟨(cC, iS), h⟩
  have k7 : ∃ d : ClassId × (Nat → Nat), u_Kn s RX5 TX5 1 d.1 d.2 := by
    obtain ⟨cC, iS, h⟩ := u_known (C := RX5) (T := TX5) (N := 1) (n := 1) hts (by decide +kernel) (hts _ (by decide +kernel))
    exact ⟨(cC, iS), h⟩
  have k8 : ∃ d : ClassId × (Nat → Nat), u_Kn s RX6 TX6 3 d.1 d.2 := by
    obtain ⟨cC, iS, h⟩ := u_known (C := RX6) (T := TX6) (N := 3) (n := 3) hts (by decide +kernel) (hts _ (by decide +kernel))
    exact ⟨(cC, iS), h⟩
  have k9 : ∃ d : ClassId × (Nat → Nat), u_Kn s RX7 TX7 15 d.1 d.2 := by
    obtain ⟨cC, iS, h⟩ := u_known (C := RX7) (T := TX7) (N := 15) (n := 15) hts (by decide +kernel) (hts _ (by decide +kernel))
    exact ⟨(cC, iS), h⟩
  have k10 : ∃ d : ClassId × (Nat → Nat), u_Kn s RX8 TX8 6 d.1 d.2 := by
    obtain ⟨cC, iS, h⟩ := u_known (C := RX8) (T := TX8) (N := 6) (n := 6) hts (by decide +kernel) (hts _ (by decide +kernel))
    exact ⟨(cC, iS), h⟩
  have k11 : ∃ d : ClassId × (Nat → Nat), u_Kn s RX9 TX9 9 d.1 d.2 := by
    obtain ⟨cC, iS, h⟩ := u_known (C := RX9) (T := TX9) (N := 9) (n := 9) hts (by decide +kernel) (hts _ (by decide +kernel))
    exact ⟨(cC, iS), h⟩
  have k12 : ∃ d : ClassId × (Nat → Nat), u_Kn s RX10 TX10 36 d.1 d.2 := by
    obtain ⟨cC, iS, h⟩ := u_known (C := RX10) (T := TX10) (N := 36) (n := 36) hts (by decide +kernel) (hts _ (by decide +kernel))
    exact ⟨(cC, iS), h⟩
  exact ⟨k0, k1, k2, k3, k4, k5, k6, k7, k8, k9, k10, k11, k12, fun _ h => nomatch h⟩
theorem px_K {s : State} {a : Array Value} (hts : ∀ w ∈ lw_tbl, w.before a s = true) : ∃ (D : va_G) (Cc : Nat → ClassId), ∀ N0 : Nat, va_K D vwCl (pT (pE0 D Cc N0)) s := by
  have h : ∀ c : Nat, ∃ d : ClassId × (Nat → Nat), ∀ q, vwCl[c]? = some q → u_Kn s q.1 q.2.1 q.2.2 d.1 d.2 := fun c => by
    cases hc : vwCl[c]? with
    | none => exact ⟨(0, fun _ => 0), fun q h => nomatch h⟩
    | some q =>
      obtain ⟨d, hd⟩ := px_kn hts q (List.mem_of_getElem? hc)
      exact ⟨d, fun q' h => by cases h; exact hd⟩
  obtain ⟨f, hf⟩ := Classical.axiomOfChoice h
  obtain ⟨c0, a0, r0⟩ := px_arr (ty := .int) (hts _ (by decide +kernel))
  obtain ⟨c1, a1, r1⟩ := px_arr (ty := .boolean) (hts _ (by decide +kernel))
  obtain ⟨c2, a2, r2⟩ := px_arr (ty := .long) (hts _ (by decide +kernel))
  obtain ⟨c3, a3, r3⟩ := px_arrO (n := "PlugRounds$PlugFile") (hts _ (by decide +kernel))
  obtain ⟨c4, a4, r4⟩ := px_arrO (n := "PlugRounds$Processor") (hts _ (by decide +kernel))
  obtain ⟨c5, a5, r5⟩ := px_arrO (n := "PlugRounds$Row") (hts _ (by decide +kernel))
  refine ⟨(fun c => (f c).1, fun c => (f c).2), fun k => [c0, c1, c2, c3, c4, c5][k]?.getD c0, fun N0 => ⟨fun c q hq => hf c q hq, fun k q hk => ?_⟩⟩
  have hall : ∀ q ∈ [(c0, FieldType.int), (c1, .boolean), (c2, .long), (c3, .object "PlugRounds$PlugFile"), (c4, .object "PlugRounds$Processor"), (c5, .object "PlugRounds$Row")], ArrOfT s q.1 q.2 ∧ va_RA s q.1 q.2 := by
    simp only [List.forall_mem_cons]
    exact ⟨⟨a0, r0⟩, ⟨a1, r1⟩, ⟨a2, r2⟩, ⟨a3, r3⟩, ⟨a4, r4⟩, ⟨a5, r5⟩, fun _ h => nomatch h⟩
  exact hall q (List.mem_of_getElem? hk)
theorem px_str {s : State} {a : Array Value} {own tx : String} {k : Nat} (h1 : (Cond.stringRef own k tx).before a s = true) (h2 : (Cond.exactly (.string own k) "java/lang/String").before a s = true) : ∃ q, vk_R own k tx q s := by
  obtain ⟨q, c, cell, kk, e1, -⟩ := Cond.exactly_spec h2
  exact ⟨q, vk_R.of h1 e1⟩
set_option maxHeartbeats 4000000 in
theorem px_Xs {s : State} {a : Array Value} {A : Nat → Prop} (hts : ∀ w ∈ lw_tbl, w.before a s = true) (hgv : (Jvm.Cond.and given_1 narrow_1).before a s = true) (hA : ∀ q : Nat, q < s.heap.size → ¬ A q) : pXs A s s.heap := by
  have hfl := flat_of_before _ hgv
  refine ⟨vx_Zqof (hts _ (by decide +kernel)) (hts _ (by decide +kernel)) (hfl _ (by decide +kernel)) hA, vx_Zqof (hts _ (by decide +kernel)) (hts _ (by decide +kernel)) (hfl _ (by decide +kernel)) hA, ⟨px_str (hts _ (by decide +kernel)) (hfl _ (by decide +kernel)), px_str (hts _ (by decide +kernel)) (hfl _ (by decide +kernel)), px_str (hts _ (by decide +kernel)) (hfl _ (by decide +kernel)), px_str (hts _ (by decide +kernel)) (hfl _ (by decide +kernel)), px_str (hts _ (by decide +kernel)) (hfl _ (by decide +kernel))⟩, fun w hw => va_Nw.of ((by decide +kernel : ∀ w ∈ pNg, w.onTables = true) w hw) (hts w ((by decide +kernel : ∀ w ∈ pNg, w ∈ lw_tbl) w hw)), va_Nc.of (hfl _ (by decide +kernel))⟩
set_option maxRecDepth 20000 in
theorem wi_L_25 {U : State} (h : pTab U) (a : Array Value) : pWI RL 25 yX9_init cX9_init 2 U a := ⟨h.1 _ (by decide +kernel) rfl a, h.1 _ (by decide +kernel) rfl a, h.1 _ (by decide +kernel) rfl a, h.1 _ (by decide +kernel) rfl a⟩
set_option maxRecDepth 20000 in
theorem wi_L_28 {U : State} (h : pTab U) (a : Array Value) : pWI RL 28 yX10_init cX10_init 1 U a := ⟨h.1 _ (by decide +kernel) rfl a, h.1 _ (by decide +kernel) rfl a, h.1 _ (by decide +kernel) rfl a, h.1 _ (by decide +kernel) rfl a⟩
set_option maxHeartbeats 4000000 in
set_option maxRecDepth 100000 in
theorem whole_start {p : Program} {e : Env} {s : State} {m : MethodId} {below : List Frame} {meth : Method} {c : Code} (l : Launch) (hlt : l.stackTraces = false) {b L : Nat} {xs : Nat → Int32} (hL : L ≤ 2048) (C0 : lw_At p s m meth c b L xs) : W p l e room_1 s m #[Value.ref b] below meth c s.heap [] 0 0 (lw_Z below #[Value.ref b] s) (entryFrame m ([Value.ref b] : List Value).toArray 7) := by
  obtain ⟨hx, hb, hr, hml, hown, hts, hX, hbl, hlk, hgv⟩ := C0
  have hb : c.code = cL_law := hb
  have hown : s.vm.findClass RL = some m.cls := hown
  have hTab : pTab s := px_tab hts
  obtain ⟨D, Cc, hKK⟩ := px_K hts
  have hK := hKK s.heap.size
  have hAO : pAO s := ⟨va_AO.of (hts _ (by decide +kernel)), va_AO.of (hts _ (by decide +kernel)), va_AO.of (hts _ (by decide +kernel))⟩
  obtain ⟨N0, hN0⟩ : ∃ N0, N0 = s.heap.size := ⟨_, rfl⟩
  rw [← hN0] at hK
  have C : zCx p s m meth c cL_law 7 (pE0 D Cc N0) RL N0 := ⟨hx, hb, hml, hown, hTab, hK, hAO, Nat.le_of_eq hN0⟩
  have hl := lv_entry [Value.ref b] (n := 7) (Nat.le_of_ble_eq_true rfl)
  have hl : lv_has _ 7 [(0, .ref b)] := hl
  rw [lg_entry_eq]
  refine z_new (n := 0) (G := fun _ => .inr (0, [])) (Cn := RX9) (T := TX9) (N := 9) (ci := 11) (fs := [.null, .null, .null, .null, .null, .null, .null, .null, .int 0]) C (fun k q hk => nomatch hk) hN0.symm va_S.rf (u_X9 hTab _) tyX9 tyX9_ok (hTab.1 _ (by decide +kernel) rfl _) (hTab.1 _ (by decide +kernel) rfl _) (hTab.1 _ (by decide +kernel) rfl _) rfl (fun j hj => by rcases (show j = 0 ∨ j = 1 ∨ j = 2 ∨ j = 3 ∨ j = 4 ∨ j = 5 ∨ j = 6 ∨ j = 7 ∨ j = 8 by omega) with rfl | rfl | rfl | rfl | rfl | rfl | rfl | rfl | rfl <;> rfl) (Nat.le_of_ble_eq_true rfl) (Nat.le_of_ble_eq_true rfl) dL_law_0 (fun H hP hz hS => ?_)
  refine W.widen (k := 1) (n := 9) (Nat.le_of_ble_eq_true rfl) (Nat.le_of_ble_eq_true rfl) ?_
  refine lv_dup hx hb dL_law_3 rfl ?_
  refine z_call (j := 0) (k := 0) (As := []) (rest := [.ref (N0 + 0)]) C hP hz hS (wi_L_25 hTab _) (c_X9_init l (E := pE0 D Cc N0) (N0 := N0) rfl) rfl hdi_9 rfl ⟨(Nat.le_of_ble_eq_true rfl), (Nat.le_of_ble_eq_true rfl)⟩ hl.1 rfl (Nat.le_of_ble_eq_true rfl) dL_law_4 ⟨(Nat.le_of_ble_eq_true rfl), (Nat.le_of_ble_eq_true rfl)⟩ (fun H locs hP hz hS => ?_)
  refine W.widen (k := 57) (n := 2092) (Nat.le_of_ble_eq_true rfl) (Nat.le_of_ble_eq_true rfl) ?_
  refine lv_astore_n (lv' := [(1, .ref (N0 + 0)), (0, .ref b)]) hx hb dL_law_7 rfl hl (by decide) rfl (fun ls hl => ?_)
  refine z_new (n := 57) (Cn := RX10) (T := TX10) (N := 36) (ci := 12) (fs := [.int 0, .int 0, .null, .null, .null, .null, .null, .int 0, .null, .null, .null, .null, .null, .null, .null, .int 0, .null, .null, .null, .null, .null, .null, .int 0, .null, .null, .null, .int 0, .null, .int 0, .int 0, .int 0, .int 0, .int 0, .int 0, .int 0, .null]) C hP hz hS (u_X10 hTab _) tyX10 tyX10_ok (hTab.1 _ (by decide +kernel) rfl _) (hTab.1 _ (by decide +kernel) rfl _) (hTab.1 _ (by decide +kernel) rfl _) rfl (fun j hj => by rcases (show j = 0 ∨ j = 1 ∨ j = 2 ∨ j = 3 ∨ j = 4 ∨ j = 5 ∨ j = 6 ∨ j = 7 ∨ j = 8 ∨ j = 9 ∨ j = 10 ∨ j = 11 ∨ j = 12 ∨ j = 13 ∨ j = 14 ∨ j = 15 ∨ j = 16 ∨ j = 17 ∨ j = 18 ∨ j = 19 ∨ j = 20 ∨ j = 21 ∨ j = 22 ∨ j = 23 ∨ j = 24 ∨ j = 25 ∨ j = 26 ∨ j = 27 ∨ j = 28 ∨ j = 29 ∨ j = 30 ∨ j = 31 ∨ j = 32 ∨ j = 33 ∨ j = 34 ∨ j = 35 by omega) with rfl | rfl | rfl | rfl | rfl | rfl | rfl | rfl | rfl | rfl | rfl | rfl | rfl | rfl | rfl | rfl | rfl | rfl | rfl | rfl | rfl | rfl | rfl | rfl | rfl | rfl | rfl | rfl | rfl | rfl | rfl | rfl | rfl | rfl | rfl | rfl <;> rfl) (Nat.le_of_ble_eq_true rfl) (Nat.le_of_ble_eq_true rfl) dL_law_8 (fun H hP hz hS => ?_)
  refine W.widen (k := 58) (n := 2128) (Nat.le_of_ble_eq_true rfl) (Nat.le_of_ble_eq_true rfl) ?_
  refine lv_dup hx hb dL_law_11 rfl ?_
  refine z_call (j := 57) (k := 0) (As := []) (rest := [.ref (N0 + 57)]) C hP hz hS (wi_L_28 hTab _) (c_X10_init l (E := pE0 D Cc N0) (N0 := N0) (va_up_self _ _ _)) rfl hdi_10 rfl ⟨(Nat.le_of_ble_eq_true rfl), (Nat.le_of_ble_eq_true rfl)⟩ hl.1 rfl (Nat.le_of_ble_eq_true rfl) dL_law_12 ⟨(Nat.le_of_ble_eq_true rfl), (Nat.le_of_ble_eq_true rfl)⟩ (fun H locs hP hz hS => ?_)
  refine W.widen (k := 81) (n := 4138) (Nat.le_of_ble_eq_true rfl) (Nat.le_of_ble_eq_true rfl) ?_
  refine lv_astore_n (lv' := [(2, .ref (N0 + 57)), (1, .ref (N0 + 0)), (0, .ref b)]) hx hb dL_law_15 rfl hl (by decide) rfl (fun ls hl => ?_)
  refine lv_iconst (v := 1) hx hb dL_law_16 (by decide) ?_
  refine z_newa (atype := .long) (N := 1) (t0 := 2) (cA0 := Cc 2) (a0 := (1, .inr (.inl (fun _ => 0)))) C hP hz hS (hTab.1 _ (by decide +kernel) rfl _) rfl (fun _ _ h => h) (fun _ => rfl) (by decide) (by decide) (by decide) (Nat.le_of_ble_eq_true rfl) (Nat.le_of_ble_eq_true rfl) dL_law_17 (fun H hP hz hS => ?_)
  refine W.widen (k := 82) (n := 4139) (Nat.le_of_ble_eq_true rfl) (Nat.le_of_ble_eq_true rfl) ?_
  refine lv_astore_n (lv' := [(3, .ref (N0 + 81)), (2, .ref (N0 + 57)), (1, .ref (N0 + 0)), (0, .ref b)]) hx hb dL_law_19 rfl hl (by decide) rfl (fun ls hl => ?_)
  refine lv_iconst (v := 0) hx hb dL_law_20 (by decide) ?_
  refine lv_istore (lv' := [(4, .int 0), (3, .ref (N0 + 81)), (2, .ref (N0 + 57)), (1, .ref (N0 + 0)), (0, .ref b)]) hx hb dL_law_21 hl (by decide) rfl (fun ls hl => ?_)
  obtain ⟨hPw, hG⟩ := pw_start hP
  have hnew : ∀ k, k < 81 → s.heap.size ≤ pL (pE0 D Cc N0) k := fun k _ => by rw [← hN0]; exact Nat.le_add_right _ _
  have hnA : ∀ q : Nat, q < s.heap.size → ¬ pA (pE0 D Cc N0) s.heap.size q := fun q hq h => by
    rcases h with ⟨k, hk, rfl⟩ | h
    · exact absurd (hnew k hk) (Nat.not_le.mpr hq)
    · exact absurd h (Nat.not_le.mpr hq)
  have hS1 : va_S (pA (pE0 D Cc N0) s.heap.size) s.heap H locs := va_S_w hS (fun q h => Or.inr (by rw [← hN0]; exact h))
  exact lw_loop (c0 := 82) (s0 := 4139) (by decide) (by decide) hlt ⟨hx, hb, hml, hown, hTab, hK, pE0_inj⟩ hr hlk pE0_out (by rw [← hN0]; exact Nat.le_add_right _ _) hnew (px_Xs hts hgv hnA) hX hbl (hnA b hbl) hL 513 0 H locs ls pZ0 pZ0 _ (by decide) (by decide) hPw hG rA_zero hS1 (lv_sub hl [4, 3, 2, 1, 0] rfl)
