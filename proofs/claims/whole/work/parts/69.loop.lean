/-! the law's loop -/
theorem lw_lt4 {L t : Nat} (hL : L ≤ 2048) (ht : 4 * t ≤ 2048) : (Int32.ofNat L - 4 < nI (4 * t)) ↔ L < 4 * t + 4 := by
  by_cases h : L < 4
  · have h0 : ¬ nI (4 * t) < 0 := nI_n0 (by omega)
    have h1 : Int32.ofNat L - 4 < 0 := by
      rcases (show L = 0 ∨ L = 1 ∨ L = 2 ∨ L = 3 by omega) with rfl | rfl | rfl | rfl <;> decide
    have e : (0 : Int32).toInt = 0 := by decide
    rw [Int32.lt_iff_toInt_lt] at h0 h1 ⊢
    omega
  · obtain ⟨k, rfl⟩ : ∃ k, L = k + 4 := ⟨L - 4, by omega⟩
    have e1 : Int32.ofNat (k + 4) - 4 = nI k := by
      show nI (k + 4) - nI 4 = nI k
      rw [← nI_add]
      exact Int32.add_sub_cancel _ _
    rw [e1, lt_nI (by omega) (by omega)]
    omega
theorem lw_in {L t : Nat} (hL : L ≤ 2048) (h : 4 * t + 4 ≤ L) {k : Nat} (hk : k < 4) : vp_in (nI (4 * t) + nI k) L := by
  rw [nI_add]
  rintro (h1 | h1)
  · exact nI_n0 (by omega) h1
  · rw [cl_nI (by omega)] at h1
    omega
section LWL
variable {p : Program} {l : Launch} {e : Env} {s : State} {m : MethodId} {below : List Frame} {meth : Method} {c : Code} {E : pE} {o b L : Nat} {xs : Nat → Int32}
theorem p_forget {R : Room} {args : Array Value} {H : Heap} {locs : List Loc} {cells slots : Nat} {Q : State → Prop} {f : JFrame} (h : ∀ y ∈ locs, s.heap.size ≤ y.base) (kk : W p l e R s m args below meth c H [] cells slots Q f) : W p l e R s m args below meth c H locs cells slots Q f := fun T hT X =>
  kk T hT (Stand.forget (locs := []) (extra := locs) X h)
set_option maxHeartbeats 4000000 in
set_option maxRecDepth 100000 in
theorem lw_case {cells slots t : Nat} {α β : pSt} {g : Nat → Int64} {H : Heap} {locs : List Loc} {ls : Array Slot} {args : Array Value} {Q : State → Prop} (hcs : cells + 1 ≤ room_1.cells ∧ slots + 8 ≤ room_1.slots) (hlt : l.stackTraces = false) (C : pCx p s m c cL_law 7 E RL) (ho : pOut E o) (hoA : s.heap.size ≤ o) (hZ : pXs (pA E s.heap.size) s s.heap) (hX : va_X b L xs s s.heap) (hbl : b < s.heap.size) (hbA : ¬ pA E s.heap.size b) (hL : L ≤ 2048) (ht : 4 * t + 4 ≤ L)
    (hP : va_P (pD E) vwCl (pw E α β) H) (hG : va_P (pD E) vwCl (pOe E o g) H) (hR : rA α β) (hS : va_S (pA E s.heap.size) s.heap H locs) (hl : lv_has ls 7 [(0, .ref b), (1, .ref (pL E 0)), (2, .ref (pL E 57)), (3, .ref o), (4, .int (nI (4 * t)))])
    (kk : lw_K p l e s m args below meth c (cells + 1) (slots + 8) Q E b o (nI (4 * t))) : W p l e room_1 s m args below meth c H locs cells slots Q (F0 m 32 ls []) := by
  have hx := C.1
  have hb := C.2.1
  have hin : ∀ k : Int32, k = 1 ∨ k = 2 ∨ k = 3 → vp_in (nI (4 * t) + k) L := by
    rintro k (rfl | rfl | rfl)
    · exact lw_in hL ht (k := 1) (by decide)
    · exact lw_in hL ht (k := 2) (by decide)
    · exact lw_in hL ht (k := 3) (by decide)
  have hin0 : vp_in (nI (4 * t)) L := by
    have h0 := lw_in hL ht (k := 0) (by decide)
    rw [nI_add] at h0
    exact h0
  refine lv_aload_n hx hb dL_law_32 rfl (lv_at hl 0 rfl) ?_
  refine lv_iload hx hb dL_law_33 (lv_at hl 4 rfl) ?_
  refine va_sld hx hb hX hbl hbA hS hin0 dL_law_35 ?_
  refine lv_bipush (v := 31) hx hb dL_law_36 (by decide) ?_
  refine lv_iand hx hb dL_law_38 ?_
  generalize xs (nI (4 * t)).toNatClampNeg &&& 31 = x
  by_cases h0 : x = 0
  · refine lv_tableIn (tgt := 132) (off := 93) hx hb dL_law_39 (by rw [h0]; decide) (by rw [h0]; decide) (by rw [h0]; decide) (by decide) ?_
    exact lc_0 hcs hlt C ho hoA hZ hX hbl hbA hin hP hG hR hS hl kk
  by_cases h1 : x = 1
  · refine lv_tableIn (tgt := 201) (off := 162) hx hb dL_law_39 (by rw [h1]; decide) (by rw [h1]; decide) (by rw [h1]; decide) (by decide) ?_
    exact lc_1 hcs hlt C ho hoA hZ hX hbl hbA hin hP hG hR hS hl kk
  by_cases h2 : x = 2
  · refine lv_tableIn (tgt := 226) (off := 187) hx hb dL_law_39 (by rw [h2]; decide) (by rw [h2]; decide) (by rw [h2]; decide) (by decide) ?_
    exact lc_2 hcs hlt C ho hoA hZ hX hbl hbA hin hP hG hR hS hl kk
  by_cases h3 : x = 3
  · refine lv_tableIn (tgt := 294) (off := 255) hx hb dL_law_39 (by rw [h3]; decide) (by rw [h3]; decide) (by rw [h3]; decide) (by decide) ?_
    exact lc_3 hcs hlt C ho hoA hZ hX hbl hbA hin hP hG hR hS hl kk
  by_cases h4 : x = 4
  · refine lv_tableIn (tgt := 343) (off := 304) hx hb dL_law_39 (by rw [h4]; decide) (by rw [h4]; decide) (by rw [h4]; decide) (by decide) ?_
    exact lc_4 hcs hlt C ho hoA hZ hX hbl hbA hin hP hG hR hS hl kk
  by_cases h5 : x = 5
  · refine lv_tableIn (tgt := 396) (off := 357) hx hb dL_law_39 (by rw [h5]; decide) (by rw [h5]; decide) (by rw [h5]; decide) (by decide) ?_
    exact lc_5 hcs hlt C ho hoA hZ hX hbl hbA hin hP hG hR hS hl kk
  by_cases h6 : x = 6
  · refine lv_tableIn (tgt := 421) (off := 382) hx hb dL_law_39 (by rw [h6]; decide) (by rw [h6]; decide) (by rw [h6]; decide) (by decide) ?_
    exact lc_6 hcs hlt C ho hoA hZ hX hbl hbA hin hP hG hR hS hl kk
  by_cases h7 : x = 7
  · refine lv_tableIn (tgt := 446) (off := 407) hx hb dL_law_39 (by rw [h7]; decide) (by rw [h7]; decide) (by rw [h7]; decide) (by decide) ?_
    exact lc_7 hcs hlt C ho hoA hZ hX hbl hbA hin hP hG hR hS hl kk
  by_cases h8 : x = 8
  · refine lv_tableIn (tgt := 483) (off := 444) hx hb dL_law_39 (by rw [h8]; decide) (by rw [h8]; decide) (by rw [h8]; decide) (by decide) ?_
    exact lc_8 hcs hlt C ho hoA hZ hX hbl hbA hin hP hG hR hS hl kk
  by_cases h9 : x = 9
  · refine lv_tableIn (tgt := 520) (off := 481) hx hb dL_law_39 (by rw [h9]; decide) (by rw [h9]; decide) (by rw [h9]; decide) (by decide) ?_
    exact lc_9 hcs hlt C ho hoA hZ hX hbl hbA hin hP hG hR hS hl kk
  by_cases h10 : x = 10
  · refine lv_tableIn (tgt := 533) (off := 494) hx hb dL_law_39 (by rw [h10]; decide) (by rw [h10]; decide) (by rw [h10]; decide) (by decide) ?_
    exact lc_10 hcs hlt C ho hoA hZ hX hbl hbA hin hP hG hR hS hl kk
  by_cases h11 : x = 11
  · refine lv_tableIn (tgt := 570) (off := 531) hx hb dL_law_39 (by rw [h11]; decide) (by rw [h11]; decide) (by rw [h11]; decide) (by decide) ?_
    exact lc_11 hcs hlt C ho hoA hZ hX hbl hbA hin hP hG hR hS hl kk
  by_cases h12 : x = 12
  · refine lv_tableIn (tgt := 611) (off := 572) hx hb dL_law_39 (by rw [h12]; decide) (by rw [h12]; decide) (by rw [h12]; decide) (by decide) ?_
    exact lc_12 hcs hlt C ho hoA hZ hX hbl hbA hin hP hG hR hS hl kk
  by_cases h13 : x = 13
  · refine lv_tableIn (tgt := 636) (off := 597) hx hb dL_law_39 (by rw [h13]; decide) (by rw [h13]; decide) (by rw [h13]; decide) (by decide) ?_
    exact lc_13 hcs hlt C ho hoA hZ hX hbl hbA hin hP hG hR hS hl kk
  by_cases h14 : x = 14
  · refine lv_tableIn (tgt := 673) (off := 634) hx hb dL_law_39 (by rw [h14]; decide) (by rw [h14]; decide) (by rw [h14]; decide) (by decide) ?_
    exact lc_14 hcs hlt C ho hoA hZ hX hbl hbA hin hP hG hR hS hl kk
  by_cases h15 : x = 15
  · refine lv_tableIn (tgt := 710) (off := 671) hx hb dL_law_39 (by rw [h15]; decide) (by rw [h15]; decide) (by rw [h15]; decide) (by decide) ?_
    exact lc_15 hcs hlt C ho hoA hZ hX hbl hbA hin hP hG hR hS hl kk
  by_cases h16 : x = 16
  · refine lv_tableIn (tgt := 747) (off := 708) hx hb dL_law_39 (by rw [h16]; decide) (by rw [h16]; decide) (by rw [h16]; decide) (by decide) ?_
    exact lc_16 hcs hlt C ho hoA hZ hX hbl hbA hin hP hG hR hS hl kk
  by_cases h17 : x = 17
  · refine lv_tableIn (tgt := 803) (off := 764) hx hb dL_law_39 (by rw [h17]; decide) (by rw [h17]; decide) (by rw [h17]; decide) (by decide) ?_
    exact lc_17 hcs hlt C ho hoA hZ hX hbl hbA hin hP hG hR hS hl kk
  by_cases h18 : x = 18
  · refine lv_tableIn (tgt := 871) (off := 832) hx hb dL_law_39 (by rw [h18]; decide) (by rw [h18]; decide) (by rw [h18]; decide) (by decide) ?_
    exact lc_18 hcs hlt C ho hoA hZ hX hbl hbA hin hP hG hR hS hl kk
  by_cases h19 : x = 19
  · refine lv_tableIn (tgt := 896) (off := 857) hx hb dL_law_39 (by rw [h19]; decide) (by rw [h19]; decide) (by rw [h19]; decide) (by decide) ?_
    exact lc_19 hcs hlt C ho hoA hZ hX hbl hbA hin hP hG hR hS hl kk
  refine lv_tableOut (tgt := 909) hx hb dL_law_39 (by have z0 := lv_neT (a := 0) h0 rfl; have z1 := lv_neT (a := 1) h1 rfl; have z2 := lv_neT (a := 2) h2 rfl; have z3 := lv_neT (a := 3) h3 rfl; have z4 := lv_neT (a := 4) h4 rfl; have z5 := lv_neT (a := 5) h5 rfl; have z6 := lv_neT (a := 6) h6 rfl; have z7 := lv_neT (a := 7) h7 rfl; have z8 := lv_neT (a := 8) h8 rfl; have z9 := lv_neT (a := 9) h9 rfl; have z10 := lv_neT (a := 10) h10 rfl; have z11 := lv_neT (a := 11) h11 rfl; have z12 := lv_neT (a := 12) h12 rfl; have z13 := lv_neT (a := 13) h13 rfl; have z14 := lv_neT (a := 14) h14 rfl; have z15 := lv_neT (a := 15) h15 rfl; have z16 := lv_neT (a := 16) h16 rfl; have z17 := lv_neT (a := 17) h17 rfl; have z18 := lv_neT (a := 18) h18 rfl; have z19 := lv_neT (a := 19) h19 rfl; omega) (by decide) ?_
  exact p_widen (Nat.le_add_right _ _) (Nat.le_add_right _ _) (kk H locs ls _ _ _ hP hG hR hS hl)
set_option maxHeartbeats 4000000 in
set_option maxRecDepth 100000 in
theorem lw_loop {c0 s0 : Nat} (hc0 : c0 ≤ 1000) (hs0 : s0 ≤ 10000) (hlt : l.stackTraces = false) (C : pCx p s m c cL_law 7 E RL) (hr : meth.sig.returnType = ret) (hlk : meth.locks = false) (ho : pOut E o) (hoA : s.heap.size ≤ o) (hnew : ∀ k, k < 81 → s.heap.size ≤ pL E k) (hZ : pXs (pA E s.heap.size) s s.heap) (hX : va_X b L xs s s.heap) (hbl : b < s.heap.size) (hbA : ¬ pA E s.heap.size b) (hL : L ≤ 2048) :
    ∀ (n t : Nat) (H : Heap) (locs : List Loc) (ls : Array Slot) (α β : pSt) (g : Nat → Int64), 513 ≤ t + n → 4 * t ≤ 2048 → va_P (pD E) vwCl (pw E α β) H → va_P (pD E) vwCl (pOe E o g) H → rA α β → va_S (pA E s.heap.size) s.heap H locs → lv_has ls 7 [(0, .ref b), (1, .ref (pL E 0)), (2, .ref (pL E 57)), (3, .ref o), (4, .int (nI (4 * t)))] →
      W p l e room_1 s m #[Value.ref b] below meth c H locs (c0 + t) (s0 + 8 * t) (lw_Z below #[Value.ref b] s) (F0 m 23 ls []) := by
  have hx := C.1
  have hb := C.2.1
  intro n
  induction n with
  | zero => intro t H locs ls α β g h1 h2; omega
  | succ n ih =>
    intro t H locs ls α β g h1 h2 hP hG hR hS hl
    refine lv_iload hx hb dL_law_23 (lv_at hl 4 rfl) ?_
    refine lv_aload_n hx hb dL_law_25 rfl (lv_at hl 0 rfl) ?_
    refine va_slen hx hb hX hbl hbA hS dL_law_26 ?_
    refine lv_iconst (v := 4) hx hb dL_law_27 (by decide) ?_
    refine lv_isub hx hb dL_law_28 ?_
    refine lv_icmp_gt (tgt := 915) hx hb dL_law_29 (by decide) (fun h => ?_) (fun h => ?_)
    · refine lv_iconst (v := 1) hx hb dL_law_915 (by decide) ?_
      refine p_widen (k := 603072) (n := 7202922) (by omega) (by omega) (p_forget (fun y hy => ?_) (lw_ret hx hb hr hlk dL_law_916))
      rcases hS.2.2 y hy with ⟨k, hk, e⟩ | h9
      · rw [e]; exact hnew k hk
      · exact h9
    · rw [lw_lt4 hL h2] at h
      have ht : 4 * t + 4 ≤ L := by omega
      have hcs : c0 + t + 1 ≤ room_1.cells ∧ s0 + 8 * t + 8 ≤ room_1.slots := by
        show c0 + t + 1 ≤ 603072 ∧ s0 + 8 * t + 8 ≤ 7202922
        omega
      refine lw_case hcs hlt C ho hoA hZ hX hbl hbA hL ht hP hG hR hS hl ?_
      intro H1 locs1 ls1 α1 β1 g1 hP1 hG1 hR1 hS1 hl1
      refine lv_iinc (v := nI (4 * (t + 1))) (lv' := [(4, .int (nI (4 * (t + 1)))), (0, .ref b), (1, .ref (pL E 0)), (2, .ref (pL E 57)), (3, .ref o)]) hx hb dL_law_909 hl1 (k := 4) rfl ?_ (by decide) rfl (fun ls2 hl2 => ?_)
      · show nI (4 * t) + nI 4 = nI (4 * (t + 1))
        rw [nI_add]
        rfl
      · refine lv_goto (tgt := 23) hx hb dL_law_912 (by decide) ?_
        exact ih (t + 1) H1 locs1 ls2 α1 β1 g1 (by omega) (by omega) hP1 hG1 hR1 hS1 (lv_sub hl2 [1, 2, 3, 4, 0] rfl)
end LWL
