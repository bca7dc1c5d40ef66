/-! methods that throw: the rows of 'throw new ..', contracts of a method that throws, the call of one -/
section PxEnds
variable {p : Program} {l : Launch} {e : Env} {R : Room} {s : State} {m : MethodId} {args : Array Value} {below : List Frame} {meth : Method} {c : Code} {H : Heap} {locs : List Loc} {cells slots : Nat} {Q : State → Prop}
variable {mc ms : Nat} {free : Addr → Prop} {ls : Array Slot} {rest : List Value}
variable {Qc : Array Value → State → Outcome → State → Prop} {XC : String → State → State → Prop}
def px_atNo (own : String) (ic : Nat) : List Cond := (px_atN own ic).filter vx_no
set_option maxHeartbeats 4000000 in
/-- 'throw new NullPointerException("text")': new; dup; ldc; invokespecial; athrow -/
theorem px_throwN {cc : ByteArray} {pc : Nat} (hexec : p.tables.exec = Jvm.exec) (hb : c.code = cc) (hl : l.stackTraces = false) {own text : String} {ik is ic mc ms sa : Nat} {A : Nat → Prop}
    (hown : s.vm.findClass own = some m.cls)
    (hk : (Cond.classLink own ik Bundle.nN).before args s = true) (hini : (Cond.initialized Bundle.nN).before args s = true) (hstr : vk_R own is text sa s) (hat : ∀ w ∈ px_atNo own ic, w.before args s = true)
    (hgood : ∀ w ∈ Cond.classLink own ik Bundle.nN :: Cond.initialized Bundle.nN :: px_atNo own ic, vx_ot w = true)
    (hU : vx_Zq Bundle.tN "UNASSIGNED_STACK" Bundle.steD A s s.heap) (hN : vx_Zq Bundle.tN "SUPPRESSED_SENTINEL" Bundle.listD A s s.heap) (hS : va_S A s.heap H locs) (hsize : ls.size = c.maxLocals)
    (d0 : decode cc pc = .ok (.new ik, 3)) (d3 : decode cc (pc + 3) = .ok (.dup, 1)) (d4 : decode cc (pc + 4) = .ok (.ldc is, 2)) (d6 : decode cc (pc + 6) = .ok (.invokespecial ic, 3)) (d9 : decode cc (pc + 9) = .ok (.athrow, 1))
    (hout : ∀ x ∈ c.exceptionTable.toList, covers x (pc + 9) = false)
    (hRframes : 6 < R.frames) (hRlocals : (rest.map fun v => v.category).sum + 96 ≤ R.locals) (hRcells : cells + 1 ≤ R.cells) (hRslots : slots + 8 ≤ R.slots) (hlocks : meth.locks = false)
    (hx : ∀ t : State, s.vm.Alike t.vm → H.size ≤ t.heap.size → (∀ q : Nat, q < H.size → t.heap[q]? = H[q]?) → XC Bundle.nN s t)
    (hf : ∀ z ∈ locs, free z.base) (hc : cells + 1 ≤ mc) (hs : slots + 8 ≤ ms) :
    W p l e R s m args below meth c H locs cells slots (vx_MQ below Qc XC args s mc ms free) (F0 m pc ls rest) := by
  intro T hT X
  have htr : e.platform.stackTraces = false := (show e.platform.stackTraces = l.stackTraces by rw [X.admits.platform]).trans hl
  have Y := vx_rebase X (R' := { frames := R.frames, locals := R.locals, cells := 1, slots := 8 }) (Nat.le_refl _) (Nat.le_refl _) hRcells hRslots
  obtain ⟨s', hA⟩ : ∃ z, z = (T.setVm s.vm).setFrames (.invoking m args :: below) := ⟨_, rfl⟩
  rw [← hA] at Y
  have hvm : s'.vm = s.vm := by rw [hA]; rfl
  have hhp : s'.heap = H := by rw [hA]; exact hT
  have hW0 : s.WarmedH s'.vm := by rw [hvm]; exact State.WarmedH.refl s
  have hat' : ∀ w ∈ px_atNo own ic, w.before args s' = true := fun w hw => vx_ot_at hW0 hvm.symm (hgood w (List.mem_cons_of_mem _ (List.mem_cons_of_mem _ hw))) (hat w hw)
  have hk' : (Cond.classLink own ik Bundle.nN).before args s' = true := vx_ot_at hW0 hvm.symm (hgood _ List.mem_cons_self) hk
  have hini' : (Cond.initialized Bundle.nN).before args s' = true := vx_ot_at hW0 hvm.symm (hgood _ (List.mem_cons_of_mem _ List.mem_cons_self)) hini
  have hU' : vx_Zq Bundle.tN "UNASSIGNED_STACK" Bundle.steD A s' s'.heap := by rw [hhp]; exact vx_Zq.moved hW0.alike (hU.kept hS.2.1)
  have hN' : vx_Zq Bundle.tN "SUPPRESSED_SENTINEL" Bundle.listD A s' s'.heap := by rw [hhp]; exact vx_Zq.moved hW0.alike (hN.kept hS.2.1)
  have h : ∀ w ∈ px_atN own ic, w.before args s' = true := vx_own hat' (vx_isRefq hU'.1) (vx_isRefq hN'.1) hU'.2.word hN'.2.word
  have hown' : s'.vm.findClass own = some m.cls := by rw [hvm]; exact hown
  have hins : (Cond.instantiable Bundle.nN 8).before args s' = true := h _ (by simp [px_atN])
  obtain ⟨vm₁, cX, kX, hfX, hkX, -, -, X₁, st1⟩ := Y.newCold hexec (own := own) (C := Bundle.nN) (index := ik) (n := 8) hown' hk' hins hini'
    (g := F0 m pc ls rest) rfl (by rw [hb]; exact d0) (Nat.le_refl _) (Nat.le_refl _)
  generalize hT1 : (T.setVm vm₁).pushCell { cls := cX, slots := kX.instanceTypes.map defaultValue, vm := .none } = T1 at X₁ st1
  have hcat : (Value.ref T.heap.size).category = 1 := rfl
  have hcellA : T1.heap[T.heap.size]? = some (freshCell cX kX) := by rw [← hT1]; exact State.heap_pushCell_size _ _
  have d3' : decode c.code (pc + 3) = .ok (.dup, 1) := by rw [hb]; exact d3
  have d4' : decode c.code (pc + 4) = .ok (.ldc is, 2) := by rw [hb]; exact d4
  have hstr' : vk_R own is text sa s' := vk_R.warm hW0 hstr
  obtain ⟨U, hsteps, hrun, hend, hW, hsame, ce, hce, hO1, hO2⟩ := px_ctorThrowN X₁ hexec htr (own := own) (ic := ic) hown' h (fun x hx => nomatch hx) hfX hkX hcellA (by rw [hhp, hT]; exact Nat.le_refl _) (msg := .ref sa) rfl
    (g := { method := m, pc := pc + 6, locals := ls, stack := .ref sa :: .ref T.heap.size :: .ref T.heap.size :: rest, locked := none }) rfl hsize rfl rfl (rest := rest) rfl
    (by rw [hb]; exact d6) (by rw [hb]; exact d9) hout hRframes (by simp only [List.map_cons, List.sum_cons, hcat]; omega) hlocks
  obtain ⟨f1, f2⟩ := vx_frame hsame
  rw [hhp] at f1 f2
  have hWs : s.WarmedH U.vm := State.WarmedH.trans hW0 hW
  have hcl : s.vm.findClass Bundle.nN = some ce.cls := by
    rw [hO1, ← hvm]
    exact hfX
  have hall : s.sameButNew ({ U with vm := s.vm } : State) locs mc ms := by
    subst hA
    obtain ⟨e1, e2⟩ := hsame
    rw [State.setFrames_setFrames] at e1
    have h2 : (T.setVm s.vm).sameButNew ({ U with vm := s.vm } : State) [] (0 + 1) (0 + 8) := ⟨e1, e2⟩
    have h3 := X.same.trans h2
    rw [List.append_nil] at h3
    exact h3.mono hc hs
  refine ⟨U, ?_, .threw T.heap.size, hrun, hend, Or.inr ⟨T.heap.size, rfl, Bundle.nN, ce, locs, hx U hWs.alike f1 (fun q hq => f2 q hq (fun z hz => nomatch hz)), hce, hO2, hcl, hWs, hall, hf⟩⟩
  refine st1 _ ?_
  show Steps p.tables e below (T1.setTop { method := m, pc := pc + 3, locals := ls, stack := .ref T.heap.size :: rest, locked := none }) _
  jvm_step X₁.here [X₁.here.top, hexec, d3', Value.category]
  exact X₁.ldcString hexec (own := own) (text := text) (index := is) (a := sa) hown' hstr'.1 hstr'.2
    (g := { method := m, pc := pc + 4, locals := ls, stack := .ref T.heap.size :: .ref T.heap.size :: rest, locked := none }) rfl d4' _ hsteps
end PxEnds
/-! what a throw needs of the start, beside the tables' good words -/
def pxA : String := "java/lang/ArrayIndexOutOfBoundsException"
def pxNames : List String := ["java/lang/IndexOutOfBoundsException", "java/lang/RuntimeException", "java/lang/Exception"]
def pNg : List Cond := [.declares ⟨"java/lang/IndexOutOfBoundsException", "<init>", "(Ljava/lang/String;)V"⟩, .declares ⟨"java/lang/RuntimeException", "<init>", "(Ljava/lang/String;)V"⟩, .declares ⟨"java/lang/Exception", "<init>", "(Ljava/lang/String;)V"⟩, .declares ⟨"java/lang/Throwable", "<init>", "(Ljava/lang/String;)V"⟩,
  .castable "java/lang/ArrayIndexOutOfBoundsException" "java/lang/ArrayIndexOutOfBoundsException", .castable "java/lang/NullPointerException" "java/lang/NullPointerException", .castable "java/lang/RuntimeException" "java/lang/Throwable"]
def pStr (U : State) : Prop := (∃ a, vk_R "PlugRounds" 88 "no such FILE" a U) ∧ (∃ a, vk_R "PlugRounds" 96 "no such byte" a U) ∧ (∃ a, vk_R "PlugRounds" 183 "not 0 .. 5" a U) ∧ (∃ a, vk_R "PlugRounds" 187 "no such PROCESSOR" a U) ∧ (∃ a, vk_R "PlugRounds" 199 "no such RESOURCE" a U)
theorem pStr.warm {s U : State} (hW : s.WarmedH U.vm) (h : pStr s) : pStr U := by
  obtain ⟨⟨a1, h1⟩, ⟨a2, h2⟩, ⟨a3, h3⟩, ⟨a4, h4⟩, ⟨a5, h5⟩⟩ := h
  exact ⟨⟨a1, vk_R.warm hW h1⟩, ⟨a2, vk_R.warm hW h2⟩, ⟨a3, vk_R.warm hW h3⟩, ⟨a4, vk_R.warm hW h4⟩, ⟨a5, vk_R.warm hW h5⟩⟩
def pNgs (U : State) : Prop := (∀ w ∈ pNg, va_Nw w U) ∧ va_Nc "java/lang/NullPointerException" "java/lang/ArrayIndexOutOfBoundsException" U
theorem pNgs.warm {s U : State} (hW : s.WarmedH U.vm) (h : pNgs s) : pNgs U := by
  refine ⟨?_, va_Nc.moved hW.alike h.2⟩
  have h1 := h.1
  unfold pNg at h1 ⊢
  simp only [List.forall_mem_cons] at h1 ⊢
  obtain ⟨q1, q2, q3, q4, q5, q6, q7, -⟩ := h1
  exact ⟨va_Nw.warmD hW q1, va_Nw.warmD hW q2, va_Nw.warmD hW q3, va_Nw.warmD hW q4, va_Nw.warmC hW q5, va_Nw.warmC hW q6, va_Nw.warmC hW q7, fun _ h => nomatch h⟩
def pXs (A : Nat → Prop) (U : State) (H : Heap) : Prop := vx_Zq Bundle.tN "UNASSIGNED_STACK" Bundle.steD A U H ∧ vx_Zq Bundle.tN "SUPPRESSED_SENTINEL" Bundle.listD A U H ∧ pStr U ∧ pNgs U
theorem pXs.warm {A : Nat → Prop} {s U : State} {H : Heap} (hW : s.WarmedH U.vm) (h : pXs A s H) : pXs A U H := ⟨vx_Zq.moved hW.alike h.1, vx_Zq.moved hW.alike h.2.1, pStr.warm hW h.2.2.1, pNgs.warm hW h.2.2.2⟩
theorem pXs.kept {A : Nat → Prop} {U : State} {H H1 : Heap} (h : pXs A U H) (hq : ∀ a : Nat, a < H.size → ¬ A a → H1[a]? = H[a]?) : pXs A U H1 := ⟨h.1.kept hq, h.2.1.kept hq, h.2.2⟩
theorem pXs.narrow {A B : Nat → Prop} {U : State} {H : Heap} (h : pXs A U H) (hAB : ∀ q, B q → A q) : pXs B U H := ⟨h.1.narrow hAB, h.2.1.narrow hAB, h.2.2⟩
theorem pXs.calling {A : Nat → Prop} {U : State} {H : Heap} {g : JFrame} {mk : MethodId} {a : Array Value} (h : pXs A U H) : pXs A (U.calling g mk a) H := pXs.warm (U := U.calling g mk a) (State.WarmedH.refl U) h
/-- a contract: from the state (α, β) the method throws an object of the class X, with the state (α', β') -/
def pX (l : Launch) (E : pE) (y : MethodName) (cc : ByteArray) (maxL : Nat) (ret : Option FieldType) (d ms : Nat) (av : List Value) (α β : pSt) (X : String) (α' β' : pSt) : Prop :=
  ∀ sz : Nat, vx_Met l y [.code y cc maxL ret] ({ frames := d, cells := 1, slots := ms, locals := 40 * d }) (va_Pc av (fun U => pTab U ∧ U.heap.size = sz ∧ va_P (pD E) vwCl (pw E α β) U.heap ∧ va_K (pD E) vwCl (pT E) U ∧ pXs (pA E sz) U U.heap)) (fun _ _ _ _ => False) (fun N st t => N = X ∧ va_P (pD E) vwCl (pw E α' β') t.heap ∧ va_F (pA E sz) st t) 1 ms (pA E sz)
abbrev pRx (d ms : Nat) : Room := { frames := d, cells := 1, slots := ms, locals := 40 * d }
abbrev pQx (below : List Frame) (E : pE) (s : State) (args : Array Value) (X : String) (ms : Nat) (α' β' : pSt) : State → Prop :=
  vx_MQ below (fun _ _ _ _ => False) (fun N st t => N = X ∧ va_P (pD E) vwCl (pw E α' β') t.heap ∧ va_F (pA E s.heap.size) st t) args s 1 ms (pA E s.heap.size)
theorem pX.ofW {l : Launch} {E : pE} {y : MethodName} {cc : ByteArray} {maxL : Nat} {ret : Option FieldType} {d ms : Nat} {av : List Value} {α β α' β' : pSt} {X : String} (hE : pInj E) (hy : plainName y.cls = true)
    (body : ∀ (p : Program) (e : Env) (s : State) (m : MethodId) (below : List Frame) (meth : Method) (c : Code) (ls : Array Slot), pCx p s m c cc maxL E y.cls → (∀ x ∈ c.exceptionTable.toList, False) → meth.locks = false → va_P (pD E) vwCl (pw E α β) s.heap → lv_has ls maxL (lv_args 0 av) → pXs (pA E s.heap.size) s s.heap →
      W p l e (pRx d ms) s m av.toArray below meth c s.heap [] 0 0 (pQx below E s av.toArray X ms α' β') (F0 m 0 ls []))
    (hlen : (lg_sl av).length ≤ maxL) : pX l E y cc maxL ret d ms av α β X α' β' := by
  intro sz
  refine vx_ofW (cc := cc) (maxL := maxL) (ret := ret) hy rfl ?_
  intro p e s m args below meth c s₁ B hml htab hv
  obtain ⟨rfl, hT, rfl, hP, hK, hZ⟩ := hv
  have hl := lv_entry av (n := maxL) hlen
  rw [lg_entry_eq]
  exact body p e s m below meth c _ ⟨B.exec, B.bytes, hml, findClass_of_methodNamed B.named, hT, hK, hE⟩ htab B.notSynchronized hP hl hZ
section PXC
variable {p : Program} {l : Launch} {e : Env} {R : Room} {s : State} {m : MethodId} {args : Array Value} {below : List Frame} {meth : Method} {c : Code} {H : Heap} {locs : List Loc} {cells slots : Nat} {Q : State → Prop} {cc : ByteArray} {pc nL : Nat} {ls : Array Slot} {rest : List Value} {E : pE} {α β α' β' : pSt} {own : String}
theorem px_wA {U : State} (h : pTab U) (hN : pNgs U) (a : Array Value) : ∀ w ∈ vx_atS "PlugRounds" 90 pxA pxNames, w.before a U = true :=
  vx_hat (B := pNg) (fun w hw => h.1 w ((by decide +kernel : ∀ w ∈ (vx_atS "PlugRounds" 90 pxA pxNames).filter goodWord, w ∈ lw_tbl) w hw) (List.mem_filter.mp hw).2 a) (by decide +kernel) (fun w hw => va_Nw.use ((by decide +kernel : ∀ w ∈ pNg, w.onTables = true) w hw) (hN.1 w hw))
theorem px_wN {U : State} (h : pTab U) (hN : pNgs U) (a : Array Value) : ∀ w ∈ px_atNo "PlugRounds" 189, w.before a U = true :=
  vx_hat (B := pNg) (fun w hw => h.1 w ((by decide +kernel : ∀ w ∈ (px_atNo "PlugRounds" 189).filter goodWord, w ∈ lw_tbl) w hw) (List.mem_filter.mp hw).2 a) (by decide +kernel) (fun w hw => va_Nw.use ((by decide +kernel : ∀ w ∈ pNg, w.onTables = true) w hw) (hN.1 w hw))
theorem px_keep {A : Nat → Prop} (hP : va_P (pD E) vwCl (pw E α β) H) (hS : va_S A s.heap H locs) {t : State} (h1 : H.size ≤ t.heap.size) (h2 : ∀ q : Nat, q < H.size → t.heap[q]? = H[q]?) : va_P (pD E) vwCl (pw E α β) t.heap ∧ va_F A s t := by
  refine ⟨va_P.kept hP (fun k q hk => h2 _ (vx_lt hP hk)), Nat.le_trans hS.1 h1, fun q h3 h4 => ?_⟩
  rw [h2 q (Nat.lt_of_lt_of_le h3 hS.1)]
  exact hS.2.1 q h3 h4
theorem p_throwA {is : Nat} {text : String} {lv : List (Nat × Value)} (C : pCx p s m c cc nL E "PlugRounds") (hlt : l.stackTraces = false) (hZ : pXs (pA E s.heap.size) s s.heap) (htab : ∀ x ∈ c.exceptionTable.toList, False) (hlk : meth.locks = false) (hP : va_P (pD E) vwCl (pw E α β) H) (hS : va_S (pA E s.heap.size) s.heap H locs) (hl : lv_has ls nL lv)
    (hstr : ∃ a, vk_R "PlugRounds" is text a s) (h2 : pw E α β = pw E α' β')
    (d0 : decode cc pc = .ok (.new 86, 3)) (d3 : decode cc (pc + 3) = .ok (.dup, 1)) (d4 : decode cc (pc + 4) = .ok (.ldc is, 2)) (d6 : decode cc (pc + 6) = .ok (.invokespecial 90, 3)) (d9 : decode cc (pc + 9) = .ok (.athrow, 1)) :
    W p l e (pRx 7 6) s m args below meth c H locs 0 0 (pQx below E s args pxA 6 α' β') (F0 m pc ls []) := by
  obtain ⟨sa, hsa⟩ := hstr
  obtain ⟨hx, hb, hml, hown, hT, hK, hE⟩ := C
  rw [h2] at hP
  exact vx_throwS (own := "PlugRounds") (cls := pxA) (names := pxNames) (ik := 86) (ic := 90) (A := pA E s.heap.size) hx hb hlt hown (by decide) (by decide) (hT.1 _ (by decide +kernel) rfl _) (hT.1 _ (by decide +kernel) rfl _) hsa (px_wA hT hZ.2.2.2 _) (by decide +kernel) hZ.1 hZ.2.1 hS (hl.1.trans hml.symm)
    d0 d3 d4 d6 d9 (fun x hx' => (htab x hx').elim) (by decide) (by decide) (by decide) (by decide) hlk (fun t _ h1 h2 => ⟨rfl, px_keep hP hS h1 h2⟩) hS.2.2 (by decide) (by decide)
theorem p_throwN {is : Nat} {text : String} {lv : List (Nat × Value)} (C : pCx p s m c cc nL E "PlugRounds") (hlt : l.stackTraces = false) (hZ : pXs (pA E s.heap.size) s s.heap) (htab : ∀ x ∈ c.exceptionTable.toList, False) (hlk : meth.locks = false) (hP : va_P (pD E) vwCl (pw E α β) H) (hS : va_S (pA E s.heap.size) s.heap H locs) (hl : lv_has ls nL lv)
    (hstr : ∃ a, vk_R "PlugRounds" is text a s) (h2 : pw E α β = pw E α' β')
    (d0 : decode cc pc = .ok (.new 185, 3)) (d3 : decode cc (pc + 3) = .ok (.dup, 1)) (d4 : decode cc (pc + 4) = .ok (.ldc is, 2)) (d6 : decode cc (pc + 6) = .ok (.invokespecial 189, 3)) (d9 : decode cc (pc + 9) = .ok (.athrow, 1)) :
    W p l e (pRx 7 8) s m args below meth c H locs 0 0 (pQx below E s args Bundle.nN 8 α' β') (F0 m pc ls []) := by
  obtain ⟨sa, hsa⟩ := hstr
  obtain ⟨hx, hb, hml, hown, hT, hK, hE⟩ := C
  rw [h2] at hP
  exact px_throwN (own := "PlugRounds") (ik := 185) (ic := 189) (A := pA E s.heap.size) hx hb hlt hown (hT.1 _ (by decide +kernel) rfl _) (hT.1 _ (by decide +kernel) rfl _) hsa (px_wN hT hZ.2.2.2 _) (by decide +kernel) hZ.1 hZ.2.1 hS (hl.1.trans hml.symm)
    d0 d3 d4 d6 d9 (fun x hx' => (htab x hx').elim) (by decide) (by decide) (by decide) (by decide) hlk (fun t _ h1 h2 => ⟨rfl, px_keep hP hS h1 h2⟩) hS.2.2 (by decide) (by decide)
variable {y : MethodName} {bytes : ByteArray} {maxL d n index ms : Nat} {ret : Option FieldType} {b : Nat} {As st : List Value} {X : String} {A : Nat → Prop}
theorem px_blind {av : List Value} {sz : Nat} : FrameBlind (va_Pc av (fun U => pTab U ∧ U.heap.size = sz ∧ va_P (pD E) vwCl (pw E α β) U.heap ∧ va_K (pD E) vwCl (pT E) U ∧ pXs A U U.heap)) := fun a U g mk q => by
  obtain ⟨q0, q1, q2, qP, qK, qZ⟩ := q
  exact ⟨q0, q1.calling, q2, qP, va_K.moved (u := U) (U := U.calling g mk a) (Vm.Alike.refl U.vm) qK, qZ.calling⟩
theorem p_goX {mc : Nat} (hr : vx_Run p l e R s m args below meth c H locs cells slots mc ms (F0 m pc ls st) rest (fun _ _ _ => False) (fun N st0 t => N = X ∧ va_P (pD E) vwCl (pw E α' β') t.heap ∧ va_F (pA E H.size) st0 t) (pA E H.size)) (hS : va_S (pA E s.heap.size) s.heap H locs)
    (kk : ∀ (H1 : Heap) (locs1 : List Loc) (q : Addr) (ce : Cell), va_P (pD E) vwCl (pw E α' β') H1 → va_S (pA E s.heap.size) s.heap H1 locs1 → H.size ≤ H1.size → (∀ q : Nat, q < H.size → ¬ pA E H.size q → H1[q]? = H[q]?) → H1[q]? = some ce → ce.vm = .none → s.vm.findClass X = some ce.cls →
      vx_W p l e R s m args below meth c H1 locs1 (cells + mc) (slots + ms) Q (F0 m pc ls rest) q) : W p l e R s m args below meth c H locs cells slots Q (F0 m pc ls st) := by
  intro T hT Xs
  rcases hr T hT Xs with ⟨v', st₀, t, T', L, h0, X', hL, e1, e2, hF, stp⟩ | ⟨q, st₀, t, T', L, N, ce, h0, X', hL, e1, e2, ⟨rfl, hP, hz, hk⟩, hce, hcv, hcl, stp⟩
  · exact hF.elim
  rw [h0] at hz hk
  have hA : ∀ q, pA E H.size q → pA E s.heap.size q := fun q h => by
    rcases h with h | h
    · exact Or.inl h
    · exact Or.inr (Nat.le_trans hS.1 h)
  obtain ⟨t2, a1, b1⟩ := kk T'.heap (locs ++ L) q ce (by rw [e1]; exact hP)
    ⟨Nat.le_trans hS.1 (by rw [e1]; exact hz), fun q h1 h2 => by rw [e1, hk q (Nat.lt_of_lt_of_le h1 hS.1) (fun z => h2 (hA q z))]; exact hS.2.1 q h1 h2, fun q hq => by
      rcases List.mem_append.mp hq with h | h
      · exact hS.2.2 q h
      · exact hA _ (hL q h)⟩ (by rw [e1]; exact hz) (fun q h1 h2 => by rw [e1]; exact hk q h1 h2) (by rw [e1]; exact hce) hcv hcl T' rfl X'
  exact ⟨t2, stp.trans a1, b1⟩
theorem p_callX {q0 ci : Nat} {q : vw_C} {fs : List Value} (C : pCx p s m c cc nL E own) (hP : va_P (pD E) vwCl (pw E α β) H) (hS : va_S (pA E s.heap.size) s.heap H locs) (hZ : pXs (pA E s.heap.size) s H) (hw : pWV own index y bytes maxL ret s args) (hM : pX l E y bytes maxL ret d ms (.ref b :: As) α β X α' β')
    (he : (pw E α β)[q0]? = some (b, .inr (ci, fs))) (hc : vwCl[ci]? = some q) (hq : q.1 = y.cls) (hd : y.cls ≠ "java/lang/invoke/MethodHandle" ∧ y.cls ≠ "java/lang/invoke/VarHandle" ∧ (parseMethodDescriptor y.desc).map (fun d => d.parameters.length) = some n) (hn : As.length = n) (hR : d + 1 ≤ R.frames ∧ 8 + (maxL + 11) + 40 * d ≤ R.locals) (hsz : ls.size = nL) (hst : st = As.reverse ++ .ref b :: rest) (hrm : (rest.map fun v => v.category).sum ≤ 8) (hdg : decode cc pc = .ok (.invokevirtual index, 3)) (hcs : cells + 1 ≤ R.cells ∧ slots + ms ≤ R.slots)
    (kk : ∀ (H1 : Heap) (locs1 : List Loc) (q : Addr) (ce : Cell), va_P (pD E) vwCl (pw E α' β') H1 → va_S (pA E s.heap.size) s.heap H1 locs1 → H.size ≤ H1.size → (∀ q : Nat, q < H.size → ¬ pA E H.size q → H1[q]? = H[q]?) → H1[q]? = some ce → ce.vm = .none → s.vm.findClass X = some ce.cls →
      vx_W p l e R s m args below meth c H1 locs1 (cells + 1) (slots + ms) Q (F0 m pc ls rest) q) : W p l e R s m args below meth c H locs cells slots Q (F0 m pc ls st) := by
  obtain ⟨hl, hin, hse, hini, hcode⟩ := hw
  obtain ⟨hx, hb, hml, hown, hT, hK, hE⟩ := C
  have hA : ∀ q, pA E H.size q → pA E s.heap.size q := fun q h => by
    rcases h with h | h
    · exact Or.inl h
    · exact Or.inr (Nat.le_trans hS.1 h)
  refine p_goX (vx_runV (Ts := []) (C := y.cls) (n := n) ⟨hx, hb, hml, hown, fun w h => by cases h⟩ (hM H.size) ⟨⟨rfl, rfl, hR.1, hR.2, p_code_warm hcode, List.mem_cons_self, hcode, hini, ⟨hd.1, hd.2.1⟩, fun sig h => ?_, hl⟩, hin, hse⟩ ⟨px_blind, ?_, fun U hU hW => ⟨rfl, hT.warm hW, by rw [hU], by rw [hU]; exact hP, va_K.moved hW.alike hK, by rw [hU]; exact (hZ.narrow hA).warm hW⟩⟩ rfl hn hsz hst (lv_room hrm) hdg hcs) hS kk
  · have h2 := hd.2.2
    rw [h] at h2
    exact (Option.some.inj h2).symm
  · obtain ⟨cell, g1, g2, g3⟩ := va_recv hK hP hc he
    exact ⟨cell, g1, g2, by rw [← hq]; exact g3⟩
end PXC
