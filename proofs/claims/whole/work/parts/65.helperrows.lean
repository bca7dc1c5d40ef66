/-! the law's helpers: the array out, contracts, calls -/
def pAo (E : pE) (o sz : Nat) : Nat → Prop := fun q => pA E sz q ∨ q = o
abbrev pOe (E : pE) (o : Nat) (g : Nat → Int64) : va_W := [(o, .inl (pC E 2, 1, .inr (.inl g)))]
def pOut (E : pE) (o : Nat) : Prop := ∀ k : Nat, k < 81 → ¬ o = pL E k
theorem pOe_lt {E : pE} {o : Nat} {g : Nat → Int64} {H : Heap} (hG : va_P (pD E) vwCl (pOe E o g) H) : o < H.size := vx_lt hG (k := 0) (q := (o, .inl (pC E 2, 1, .inr (.inl g)))) rfl
theorem pOe_kept {E : pE} {o : Nat} {g : Nat → Int64} {H H1 : Heap} (hG : va_P (pD E) vwCl (pOe E o g) H) (hq : H1[o]? = H[o]?) : va_P (pD E) vwCl (pOe E o g) H1 := va_P.kept hG (fun k q hk => by
  have h1 : q ∈ pOe E o g := List.mem_of_getElem? hk
  rw [List.mem_singleton.mp h1]
  exact hq)
theorem pOe_call {E : pE} {o : Nat} {g : Nat → Int64} {H H1 : Heap} (ho : pOut E o) (hG : va_P (pD E) vwCl (pOe E o g) H) (hk : ∀ q : Nat, q < H.size → ¬ pA E H.size q → H1[q]? = H[q]?) : va_P (pD E) vwCl (pOe E o g) H1 := by
  have hlt := pOe_lt hG
  refine pOe_kept hG (hk o hlt ?_)
  rintro (⟨k, h1, h2⟩ | h)
  · exact ho k h1 h2
  · omega
theorem pw_len {E : pE} {α β : pSt} : (pw E α β).length = 81 := by simp [pw]
theorem va_P_l {D : va_G} {cl : List vw_C} {w1 w2 : va_W} {H : Heap} (h : va_P D cl (w1 ++ w2) H) : va_P D cl w1 H := fun k q hk => h k q (by rw [List.getElem?_append_left (List.getElem?_eq_some_iff.mp hk).1]; exact hk)
theorem va_P_r {D : va_G} {cl : List vw_C} {w1 w2 : va_W} {H : Heap} (h : va_P D cl (w1 ++ w2) H) : va_P D cl w2 H := fun k q hk => h (w1.length + k) q (by rw [List.getElem?_append_right (Nat.le_add_right _ _), Nat.add_sub_cancel_left]; exact hk)
theorem va_S_w {A B : Nat → Prop} {H0 H : Heap} {locs : List Loc} (h : va_S A H0 H locs) (hAB : ∀ q, A q → B q) : va_S B H0 H locs := ⟨h.1, fun q h1 h2 => h.2.1 q h1 (fun h3 => h2 (hAB q h3)), fun l hl => hAB _ (h.2.2 l hl)⟩
theorem vp_in01 : vp_in (0 : Int32) 1 := by unfold vp_in; decide
section PHO
variable {p : Program} {l : Launch} {e : Env} {R : Room} {s : State} {m : MethodId} {args : Array Value} {below : List Frame} {meth : Method} {c : Code} {H : Heap} {locs : List Loc} {cells slots : Nat} {Q : State → Prop} {cc : ByteArray} {pc nL : Nat} {ls : Array Slot} {rest : List Value} {E : pE} {α β α' β' : pSt} {own : String} {o : Nat} {g g' : Nat → Int64}
theorem p_widen {f : JFrame} {k n : Nat} (h1 : cells ≤ k) (h2 : slots ≤ n) (kk : W p l e R s m args below meth c H locs k n Q f) : W p l e R s m args below meth c H locs cells slots Q f := fun T hT X => kk T hT (stand_widen X h1 h2)
theorem p_lastore {x : Int64} (C : pCx p s m c cc nL E own) (ho : pOut E o) (hP : va_P (pD E) vwCl (pw E α β) H) (hG : va_P (pD E) vwCl (pOe E o g) H) (hS : va_S (pAo E o s.heap.size) s.heap H locs) (hdg : decode cc pc = .ok (.lastore, 1))
    (kk : ∀ (H1 : Heap) (locs1 : List Loc), va_P (pD E) vwCl (pw E α β) H1 → va_P (pD E) vwCl (pOe E o (vp_updL g 0 x)) H1 → va_S (pAo E o s.heap.size) s.heap H1 locs1 → W p l e R s m args below meth c H1 locs1 cells slots Q (F0 m (pc + 1) ls rest)) : W p l e R s m args below meth c H locs cells slots Q (F0 m pc ls (.long x :: .int 0 :: .ref o :: rest)) := by
  obtain ⟨hx, hb, hml, hown, hT, hK, hE⟩ := C
  have hD : va_D (pAo E o s.heap.size) (pw E α β ++ pOe E o g) := by
    refine va_D.app ((pw_D hE).weaken (fun _ _ _ h => Or.inl h)) ⟨fun i j p q hi hj _ => ?_, fun k q hk => ?_⟩ (fun i j p q hi hj => ?_)
    · have h1 := (List.getElem?_eq_some_iff.mp hi).1
      have h2 := (List.getElem?_eq_some_iff.mp hj).1
      simp at h1 h2
      omega
    · rw [List.mem_singleton.mp (List.mem_of_getElem? hk)]
      exact Or.inr rfl
    · obtain ⟨h1, rfl⟩ := pw_lt hi
      rw [List.mem_singleton.mp (List.mem_of_getElem? hj)]
      exact fun h => ho i h1 h.symm
  have hs : ∀ y : Nat × va_E, (pw E α β ++ pOe E o g).set 81 y = pw E α β ++ [y] := fun y => by
    rw [List.set_append_right _ _ (by rw [pw_len]; exact Nat.le_refl _), pw_len]
    rfl
  refine va_last hx hb hK (va_P.app hP hG) hD hS 81 2 (a := o) (cA := pC E 2) (n := 1) (f := g) ?_ rfl vp_in01 hdg (fun H1 locs1 hP1 hD1 hS1 => ?_)
  · rw [List.getElem?_append_right (by rw [pw_len]; exact Nat.le_refl _), pw_len]
    rfl
  · rw [hs] at hP1
    exact kk H1 locs1 (va_P_l hP1) (va_P_r hP1) hS1
end PHO
/-- a helper's contract -/
def pH (l : Launch) (E : pE) (o : Nat) (y : MethodName) (cc : ByteArray) (maxL : Nat) (hh : List (Nat × Nat × Nat × Nat)) (ms : Nat) (av : List Value) (α β : pSt) (g : Nat → Int64) (k : Int32) (α' β' : pSt) (g' : Nat → Int64) : Prop :=
  ∀ sz : Nat, Met l y [.codeWith y cc maxL (some .int) hh] (pRx 8 ms) (va_Pc av (fun U => pTab U ∧ U.heap.size = sz ∧ va_P (pD E) vwCl (pw E α β) U.heap ∧ va_K (pD E) vwCl (pT E) U ∧ pXs (pAo E o sz) U U.heap ∧ va_P (pD E) vwCl (pOe E o g) U.heap)) (fun _ st oc t => oc = .returned (some (.int k)) ∧ va_P (pD E) vwCl (pw E α' β') t.heap ∧ va_P (pD E) vwCl (pOe E o g') t.heap ∧ va_F (pAo E o sz) st t) 1 ms (pAo E o sz)
abbrev pQh (below : List Frame) (E : pE) (o : Nat) (s : State) (args : Array Value) (ms : Nat) (k : Int32) (α' β' : pSt) (g' : Nat → Int64) : State → Prop :=
  MQ below (fun _ st oc t => oc = .returned (some (.int k)) ∧ va_P (pD E) vwCl (pw E α' β') t.heap ∧ va_P (pD E) vwCl (pOe E o g') t.heap ∧ va_F (pAo E o s.heap.size) st t) args s 1 ms (pAo E o s.heap.size)
theorem pH.ofW {l : Launch} {E : pE} {o : Nat} {y : MethodName} {cc : ByteArray} {maxL : Nat} {hh : List (Nat × Nat × Nat × Nat)} {ms : Nat} {av : List Value} {α β α' β' : pSt} {g g' : Nat → Int64} {k : Int32} (hE : pInj E) (hy : plainName y.cls = true)
    (body : ∀ (p : Program) (e : Env) (s : State) (m : MethodId) (below : List Frame) (meth : Method) (c : Code) (ls : Array Slot), pCx p s m c cc maxL E y.cls → c.exceptionTable.toList = tableOf hh → meth.sig.returnType = some .int → meth.locks = false → va_P (pD E) vwCl (pw E α β) s.heap → va_P (pD E) vwCl (pOe E o g) s.heap → pXs (pAo E o s.heap.size) s s.heap → lv_has ls maxL (lv_args 0 av) →
      W p l e (pRx 8 ms) s m av.toArray below meth c s.heap [] 0 0 (pQh below E o s av.toArray ms k α' β' g') (F0 m 0 ls []))
    (hlen : (lg_sl av).length ≤ maxL) : pH l E o y cc maxL hh ms av α β g k α' β' g' := by
  intro sz
  refine va_MetW (cc := cc) (maxL := maxL) (ret := some .int) (hh := hh) hy rfl ?_
  intro p e s m args below meth c s₁ B hml hv
  obtain ⟨rfl, hT, rfl, hP, hK, hZ, hG⟩ := hv
  have hl := lv_entry av (n := maxL) hlen
  have hcw := atoms_spec (ws := [.codeWith y cc maxL (some .int) hh]) B.pre _ List.mem_cons_self
  rw [lg_entry_eq]
  exact body p e s m below meth c _ ⟨B.exec, B.bytes, hml, findClass_of_methodNamed B.named, hT, hK, hE⟩ (vx_table (x := y) B hcw) B.returns B.notSynchronized hP hG hZ hl
section PHC
variable {p : Program} {l : Launch} {e : Env} {R : Room} {s : State} {m : MethodId} {args : Array Value} {below : List Frame} {meth : Method} {c : Code} {H : Heap} {locs : List Loc} {cells slots : Nat} {Q : State → Prop} {cc : ByteArray} {pc nL : Nat} {ls : Array Slot} {rest : List Value} {E : pE} {α β α' β' : pSt} {own : String} {o : Nat} {g g' : Nat → Int64} {ms : Nat} {k : Int32}
theorem p_hret {x : Int32} (C : pCx p s m c cc nL E own) (hr : meth.sig.returnType = some .int) (hlk : meth.locks = false) (h1 : x = k) (hP : va_P (pD E) vwCl (pw E α' β') H) (hG : va_P (pD E) vwCl (pOe E o g') H) (hS : va_S (pAo E o s.heap.size) s.heap H locs) (hc : cells ≤ 1) (hs : slots ≤ ms) (hdg : decode cc pc = .ok (.ireturn, 1)) : W p l e R s m args below meth c H locs cells slots (pQh below E o s args ms k α' β' g') (F0 m pc ls [.int x]) := by
  subst h1
  exact p_widen hc hs (W.iret C.1 C.2.1 hr (fun t ht _ => ⟨rfl, by rw [ht]; exact hP, by rw [ht]; exact hG, hS.F ht⟩) hS.2.2 hdg hlk)
variable {y : MethodName} {bytes : ByteArray} {maxL n index : Nat} {As st : List Value} {hh : List (Nat × Nat × Nat × Nat)}
theorem ph_blind {av : List Value} {sz : Nat} {A : Nat → Prop} : FrameBlind (va_Pc av (fun U => pTab U ∧ U.heap.size = sz ∧ va_P (pD E) vwCl (pw E α β) U.heap ∧ va_K (pD E) vwCl (pT E) U ∧ pXs A U U.heap ∧ va_P (pD E) vwCl (pOe E o g) U.heap)) := fun a U f mk q => by
  obtain ⟨q0, q1, q2, qP, qK, qZ, qG⟩ := q
  exact ⟨q0, q1.calling, q2, qP, va_K.moved (u := U) (U := U.calling f mk a) (Vm.Alike.refl U.vm) qK, qZ.calling, qG⟩
def pWH (own : String) (index : Nat) (y : MethodName) (bytes : ByteArray) (maxL : Nat) (hh : List (Nat × Nat × Nat × Nat)) (s : State) (args : Array Value) : Prop :=
  (Cond.methodLink own index y).before args s = true ∧ (Cond.static y).before args s = true ∧ (Cond.initialized y.cls).before args s = true ∧ ∀ (a' : Array Value) (U : State), s.WarmedH U.vm → (Cond.codeWith y bytes maxL (some .int) hh).before a' U = true
theorem p_callH (C : pCx p s m c cc nL E own) (hP : va_P (pD E) vwCl (pw E α β) H) (hG : va_P (pD E) vwCl (pOe E o g) H) (hoA : s.heap.size ≤ o) (hS : va_S (pA E s.heap.size) s.heap H locs) (hZ : pXs (pA E s.heap.size) s s.heap) (hw : pWH own index y bytes maxL hh s args) (hM : pH l E o y bytes maxL hh ms As α β g k α' β' g')
    (hd : y.cls ≠ "java/lang/invoke/MethodHandle" ∧ y.cls ≠ "java/lang/invoke/VarHandle" ∧ (parseMethodDescriptor y.desc).map (fun d => d.parameters.length) = some n) (hn : As.length = n) (hR : 9 ≤ R.frames ∧ 8 + (maxL + 11) + 320 ≤ R.locals) (hsz : ls.size = nL) (hst : st = As.reverse ++ rest) (hrm : (rest.map fun v => v.category).sum ≤ 8) (hdg : decode cc pc = .ok (.invokestatic index, 3)) (hcs : cells + 1 ≤ R.cells ∧ slots + ms ≤ R.slots)
    (kk : ∀ (H1 : Heap) (locs1 : List Loc), va_P (pD E) vwCl (pw E α' β') H1 → va_P (pD E) vwCl (pOe E o g') H1 → va_S (pA E s.heap.size) s.heap H1 locs1 → W p l e R s m args below meth c H1 locs1 (cells + 1) (slots + ms) Q (F0 m (pc + 3) ls (.int k :: rest))) : W p l e R s m args below meth c H locs cells slots Q (F0 m pc ls st) := by
  obtain ⟨hl, hstt, hini, hcode⟩ := hw
  obtain ⟨hx, hb, hml, hown, hT, hK, hE⟩ := C
  have hA : ∀ q, pAo E o H.size q → pA E s.heap.size q := fun q h => by
    rcases h with (h | h) | h
    · exact Or.inl h
    · exact Or.inr (Nat.le_trans hS.1 h)
    · rw [h]; exact Or.inr hoA
  have hZ1 : pXs (pAo E o H.size) s H := (hZ.kept hS.2.1).narrow hA
  have hr : va_Run p l e R s m args below meth c H locs cells slots 1 ms (F0 m pc ls st) rest _ _ := vx_runSW (Ts := []) (n := n) (hh := hh) (bytes := bytes) (maxL := maxL) (ret := some .int) ⟨hx, hb, hml, hown, fun w h => by cases h⟩ (hM H.size)
    ⟨⟨rfl, rfl, hR.1, hR.2, fun w hw a' U hW => by rw [List.mem_singleton.mp hw]; exact hcode a' U hW, List.mem_cons_self⟩, hcode _ _ (State.WarmedH.refl s), hini, ⟨hd.1, hd.2.1⟩, fun sig h => by
      have h2 := hd.2.2
      rw [h] at h2
      exact (Option.some.inj h2).symm, hl, hstt⟩ ⟨ph_blind, fun U hU hW => ⟨rfl, hT.warm hW, by rw [hU], by rw [hU]; exact hP, va_K.moved hW.alike hK, by rw [hU]; exact hZ1.warm hW, by rw [hU]; exact hG⟩⟩ rfl hn hsz hst (lv_room hrm) hdg hcs
  intro T hT1 X
  obtain ⟨v', st₀, t, T', L, h0, X', hL, e1, e2, ⟨hv, hP1, hG1, hz, hk⟩, stp⟩ := hr T hT1 X
  cases hv
  rw [h0] at hz hk
  obtain ⟨t2, a1, b1⟩ := kk T'.heap (locs ++ L) (by rw [e1]; exact hP1) (by rw [e1]; exact hG1)
    ⟨Nat.le_trans hS.1 (by rw [e1]; exact hz), fun q h1 h2 => by rw [e1, hk q (Nat.lt_of_lt_of_le h1 hS.1) (fun z => h2 (hA q z))]; exact hS.2.1 q h1 h2, fun q hq => by
      rcases List.mem_append.mp hq with h | h
      · exact hS.2.2 q h
      · exact hA _ (hL q h)⟩ T' rfl X'
  exact ⟨t2, stp t2 a1, b1⟩
end PHC
