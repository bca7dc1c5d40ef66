/-! rooms, ends, calls -/
abbrev pR (d : Nat) : Room := { frames := d, cells := 0, slots := 0, locals := 40 * d }
abbrev pQ (below : List Frame) (E : pE) (s : State) (args : Array Value) (v : Option Value) (α' β' : pSt) : State → Prop :=
  MQ below (fun _ st oc t => oc = .returned v ∧ va_P (pD E) vwCl (pw E α' β') t.heap ∧ va_F (pA E s.heap.size) st t) args s 0 0 (pA E s.heap.size)
/-- a state gets a name -/
def pl {τ : Type} (x : pSt) (f : pSt → τ) : τ := f x
theorem pl_ok {τ : Type} {x : pSt} {f : pSt → Option τ} {y : τ} (h : pl x f = some y) : ∃ z, z = x ∧ f z = some y := ⟨x, rfl, h⟩
/-- a call's answer and state -/
def pb {ρ τ : Type} (x : Option (ρ × pSt)) (f : ρ → pSt → Option τ) : Option τ := match x with
  | none => none
  | some z => f z.1 z.2
theorem pb2_ok {ρ τ : Type} {x : Option (ρ × pSt)} {f : ρ → pSt → Option τ} {y : τ} (h : pb x f = some y) : ∃ r α, x = some (r, α) ∧ f r α = some y := by
  cases x with
  | none => cases h
  | some z => exact ⟨z.1, z.2, rfl, h⟩
theorem pO_n {τ : Type} {a : Option τ} {b : Nat → Option τ} {y : τ} (h : pO none a b = some y) : a = some y := h
theorem pO_s {τ : Type} {a : Option τ} {b : Nat → Option τ} {y : τ} {i : Nat} (h : pO (some i) a b = some y) : b i = some y := h
theorem pr1 {k : Nat} (h : k < 6) : 1 + k < 11 := by omega
theorem pr7 {k : Nat} (h : k < 4) : 7 + k < 11 := by omega
def pF : Nat := 128
section PCL
variable {p : Program} {l : Launch} {e : Env} {R : Room} {s : State} {m : MethodId} {args : Array Value} {below : List Frame} {meth : Method} {c : Code} {H : Heap} {locs : List Loc} {cells slots : Nat} {Q : State → Prop} {cc : ByteArray} {pc nL : Nat} {ls : Array Slot} {rest : List Value} {E : pE} {α β α' β' : pSt} {own : String}
theorem p_iret {x r : Int32} (C : pCx p s m c cc nL E own) (hr : meth.sig.returnType = some .int) (hlk : meth.locks = false) (h1 : x = r) (h2 : pw E α β = pw E α' β') (hP : va_P (pD E) vwCl (pw E α β) H) (hS : va_S (pA E s.heap.size) s.heap H locs) (hdg : decode cc pc = .ok (.ireturn, 1)) : W p l e R s m args below meth c H locs 0 0 (pQ below E s args (some (.int r)) α' β') (F0 m pc ls [.int x]) := by
  subst h1
  rw [h2] at hP
  exact W.iret C.1 C.2.1 hr (fun t ht _ => ⟨rfl, by rw [ht]; exact hP, hS.F ht⟩) hS.2.2 hdg hlk
theorem p_zret {x r : Int32} (C : pCx p s m c cc nL E own) (hr : meth.sig.returnType = some .boolean) (hlk : meth.locks = false) (hz : x = 0 ∨ x = 1) (h1 : x = r) (h2 : pw E α β = pw E α' β') (hP : va_P (pD E) vwCl (pw E α β) H) (hS : va_S (pA E s.heap.size) s.heap H locs) (hdg : decode cc pc = .ok (.ireturn, 1)) : W p l e R s m args below meth c H locs 0 0 (pQ below E s args (some (.int r)) α' β') (F0 m pc ls [.int x]) := by
  subst h1
  rw [h2] at hP
  exact W.zret C.1 C.2.1 hr (pz_n hz) (fun t ht _ => ⟨rfl, by rw [ht]; exact hP, hS.F ht⟩) hS.2.2 hdg hlk
theorem p_bret {x r : Int32} (C : pCx p s m c cc nL E own) (hr : meth.sig.returnType = some .byte) (hlk : meth.locks = false) (hz : narrow .byte (.int x) = .int x) (h1 : x = r) (h2 : pw E α β = pw E α' β') (hP : va_P (pD E) vwCl (pw E α β) H) (hS : va_S (pA E s.heap.size) s.heap H locs) (hdg : decode cc pc = .ok (.ireturn, 1)) : W p l e R s m args below meth c H locs 0 0 (pQ below E s args (some (.int r)) α' β') (F0 m pc ls [.int x]) := by
  subst h1
  rw [h2] at hP
  exact W.zret C.1 C.2.1 hr hz (fun t ht _ => ⟨rfl, by rw [ht]; exact hP, hS.F ht⟩) hS.2.2 hdg hlk
theorem p_vret (C : pCx p s m c cc nL E own) (hr : meth.sig.returnType = none) (hlk : meth.locks = false) (h2 : pw E α β = pw E α' β') (hP : va_P (pD E) vwCl (pw E α β) H) (hS : va_S (pA E s.heap.size) s.heap H locs) (hdg : decode cc pc = .ok (.return_, 1)) : W p l e R s m args below meth c H locs 0 0 (pQ below E s args none α' β') (F0 m pc ls []) := by
  rw [h2] at hP
  exact W.vret C.1 C.2.1 hr (fun t ht _ => ⟨rfl, by rw [ht]; exact hP, hS.F ht⟩) hS.2.2 hdg hlk
theorem p_aret {x : Value} {r : Option Nat} {f : Nat → Nat} {rt : String} (C : pCx p s m c cc nL E own) (hr : meth.sig.returnType = some (.object rt)) (hlk : meth.locks = false) (h1 : x = va_rf (r.map f)) (h2 : pw E α β = pw E α' β') (hP : va_P (pD E) vwCl (pw E α β) H) (hS : va_S (pA E s.heap.size) s.heap H locs) (hdg : decode cc pc = .ok (.areturn, 1)) : W p l e R s m args below meth c H locs 0 0 (pQ below E s args (some (va_rf (r.map f))) α' β') (F0 m pc ls [x]) := by
  subst h1
  rw [h2] at hP
  exact W.aret C.1 C.2.1 hr (Or.inl ⟨_, rfl⟩) (va_rf_or _) (fun t ht _ => ⟨rfl, by rw [ht]; exact hP, hS.F ht⟩) hS.2.2 hdg hlk
/-- the words of a call -/
def pWV (own : String) (index : Nat) (y : MethodName) (bytes : ByteArray) (maxL : Nat) (ret : Option FieldType) (s : State) (args : Array Value) : Prop :=
  (Cond.methodLink own index y).before args s = true ∧ (Cond.instanceMethod y).before args s = true ∧ (Cond.selects y.cls y y).before args s = true ∧ (Cond.initialized y.cls).before args s = true ∧ (Cond.code y bytes maxL ret).before args s = true
def pWS (own : String) (index : Nat) (y : MethodName) (bytes : ByteArray) (maxL : Nat) (ret : Option FieldType) (s : State) (args : Array Value) : Prop :=
  (Cond.methodLink own index y).before args s = true ∧ (Cond.static y).before args s = true ∧ (Cond.initialized y.cls).before args s = true ∧ (Cond.code y bytes maxL ret).before args s = true
def pWN (own : String) (index : Nat) (y : MethodName) (host : String) (bytes : ByteArray) (maxL : Nat) (ret : Option FieldType) (s : State) (args : Array Value) : Prop :=
  (Cond.methodLinkNest own index y host).before args s = true ∧ (Cond.static y).before args s = true ∧ (Cond.initialized y.cls).before args s = true ∧ (Cond.code y bytes maxL ret).before args s = true
variable {y : MethodName} {bytes : ByteArray} {maxL d n index : Nat} {ret : Option FieldType} {b : Nat} {As st : List Value} {v : Option Value} {host : String}
theorem p_code_warm (h : (Cond.code y bytes maxL ret).before args s = true) : ∀ w ∈ [Cond.code y bytes maxL ret], ∀ (a' : Array Value) (U : State), s.WarmedH U.vm → w.before a' U = true := by
  intro w hw a' U hW
  rw [List.mem_singleton.mp hw]
  exact word_at hW (Or.inl (by first | rfl | simp [Cond.onTables, Cond.keeps, Cond.steady])) h
theorem p_go (hr : va_Run p l e R s m args below meth c H locs cells slots 0 0 (F0 m pc ls st) rest (fun st0 oc t => oc = .returned v ∧ va_P (pD E) vwCl (pw E α' β') t.heap ∧ va_F (pA E H.size) st0 t) (pA E H.size)) (hS : va_S (pA E s.heap.size) s.heap H locs)
    (kk : ∀ (H1 : Heap) (locs1 : List Loc), va_P (pD E) vwCl (pw E α' β') H1 → va_S (pA E s.heap.size) s.heap H1 locs1 → H.size ≤ H1.size → (∀ q : Nat, q < H.size → ¬ pA E H.size q → H1[q]? = H[q]?) → W p l e R s m args below meth c H1 locs1 cells slots Q (F0 m (pc + 3) ls (v.toList ++ rest))) : W p l e R s m args below meth c H locs cells slots Q (F0 m pc ls st) := by
  intro T hT X
  obtain ⟨v', st₀, t, T', L, h0, X', hL, e1, e2, ⟨hv, hP, hz, hk⟩, stp⟩ := hr T hT X
  cases hv
  rw [h0] at hz hk
  have hA : ∀ q, pA E H.size q → pA E s.heap.size q := fun q h => by
    rcases h with h | h
    · exact Or.inl h
    · exact Or.inr (Nat.le_trans hS.1 h)
  obtain ⟨t2, a1, b1⟩ := kk T'.heap (locs ++ L) (by rw [e1]; exact hP)
    ⟨Nat.le_trans hS.1 (by rw [e1]; exact hz), fun q h1 h2 => by rw [e1, hk q (Nat.lt_of_lt_of_le h1 hS.1) (fun z => h2 (hA q z))]; exact hS.2.1 q h1 h2, fun q hq => by
      rcases List.mem_append.mp hq with h | h
      · exact hS.2.2 q h
      · exact hA _ (hL q h)⟩ (by rw [e1]; exact hz) (fun q h1 h2 => by rw [e1]; exact hk q h1 h2) T' rfl X'
  exact ⟨t2, stp t2 a1, b1⟩
theorem p_blind {av : List Value} {sz : Nat} : FrameBlind (va_Pc av (fun U => pTab U ∧ U.heap.size = sz ∧ va_P (pD E) vwCl (pw E α β) U.heap ∧ va_K (pD E) vwCl (pT E) U)) := fun a U g mk q => by
  obtain ⟨q0, q1, q2, qP, qK⟩ := q
  exact ⟨q0, q1.calling, q2, qP, va_K.moved (u := U) (U := U.calling g mk a) (Vm.Alike.refl U.vm) qK⟩
theorem p_callV {q0 ci : Nat} {q : vw_C} {fs : List Value} (C : pCx p s m c cc nL E own) (hP : va_P (pD E) vwCl (pw E α β) H) (hS : va_S (pA E s.heap.size) s.heap H locs) (hw : pWV own index y bytes maxL ret s args) (hM : pM l E y bytes maxL ret d (.ref b :: As) α β v α' β')
    (he : (pw E α β)[q0]? = some (b, .inr (ci, fs))) (hc : vwCl[ci]? = some q) (hq : q.1 = y.cls) (hd : y.cls ≠ "java/lang/invoke/MethodHandle" ∧ y.cls ≠ "java/lang/invoke/VarHandle" ∧ (parseMethodDescriptor y.desc).map (fun d => d.parameters.length) = some n) (hn : As.length = n) (hR : d + 1 ≤ R.frames ∧ 8 + (maxL + 11) + 40 * d ≤ R.locals) (hsz : ls.size = nL) (hst : st = As.reverse ++ .ref b :: rest) (hrm : (rest.map fun v => v.category).sum ≤ 8) (hdg : decode cc pc = .ok (.invokevirtual index, 3)) (hcs : cells ≤ R.cells ∧ slots ≤ R.slots)
    (kk : ∀ (H1 : Heap) (locs1 : List Loc), va_P (pD E) vwCl (pw E α' β') H1 → va_S (pA E s.heap.size) s.heap H1 locs1 → H.size ≤ H1.size → (∀ q : Nat, q < H.size → ¬ pA E H.size q → H1[q]? = H[q]?) → W p l e R s m args below meth c H1 locs1 cells slots Q (F0 m (pc + 3) ls (v.toList ++ rest))) : W p l e R s m args below meth c H locs cells slots Q (F0 m pc ls st) := by
  obtain ⟨hl, hin, hse, hini, hcode⟩ := hw
  obtain ⟨hx, hb, hml, hown, hT, hK, hE⟩ := C
  refine p_go (va_runV (Ts := []) (C := y.cls) (n := n) ⟨hx, hb, hml, hown, fun w h => by cases h⟩ (hM H.size) ⟨⟨rfl, rfl, hR.1, hR.2, p_code_warm hcode, List.mem_cons_self, hcode, hini, ⟨hd.1, hd.2.1⟩, fun sig h => ?_, hl⟩, hin, hse⟩ ⟨p_blind, ?_, fun U hU hW => ⟨rfl, hT.warm hW, by rw [hU], by rw [hU]; exact hP, va_K.moved hW.alike hK⟩⟩ rfl hn hsz hst (lv_room hrm) hdg hcs) hS kk
  · have h2 := hd.2.2
    rw [h] at h2
    exact (Option.some.inj h2).symm
  · obtain ⟨cell, g1, g2, g3⟩ := va_recv hK hP hc he
    exact ⟨cell, g1, g2, by rw [← hq]; exact g3⟩
theorem p_callS (C : pCx p s m c cc nL E own) (hP : va_P (pD E) vwCl (pw E α β) H) (hS : va_S (pA E s.heap.size) s.heap H locs) (hw : pWS own index y bytes maxL ret s args) (hM : pM l E y bytes maxL ret d As α β v α' β')
    (hd : y.cls ≠ "java/lang/invoke/MethodHandle" ∧ y.cls ≠ "java/lang/invoke/VarHandle" ∧ (parseMethodDescriptor y.desc).map (fun d => d.parameters.length) = some n) (hn : As.length = n) (hR : d + 1 ≤ R.frames ∧ 8 + (maxL + 11) + 40 * d ≤ R.locals) (hsz : ls.size = nL) (hst : st = As.reverse ++ rest) (hrm : (rest.map fun v => v.category).sum ≤ 8) (hdg : decode cc pc = .ok (.invokestatic index, 3)) (hcs : cells ≤ R.cells ∧ slots ≤ R.slots)
    (kk : ∀ (H1 : Heap) (locs1 : List Loc), va_P (pD E) vwCl (pw E α' β') H1 → va_S (pA E s.heap.size) s.heap H1 locs1 → H.size ≤ H1.size → (∀ q : Nat, q < H.size → ¬ pA E H.size q → H1[q]? = H[q]?) → W p l e R s m args below meth c H1 locs1 cells slots Q (F0 m (pc + 3) ls (v.toList ++ rest))) : W p l e R s m args below meth c H locs cells slots Q (F0 m pc ls st) := by
  obtain ⟨hl, hstt, hini, hcode⟩ := hw
  obtain ⟨hx, hb, hml, hown, hT, hK, hE⟩ := C
  refine p_go (va_runS (Ts := []) (n := n) ⟨hx, hb, hml, hown, fun w h => by cases h⟩ (hM H.size) ⟨⟨rfl, rfl, hR.1, hR.2, p_code_warm hcode, List.mem_cons_self, hcode, hini, ⟨hd.1, hd.2.1⟩, fun sig h => ?_, hl⟩, hstt⟩ ⟨p_blind, fun U hU hW => ⟨rfl, hT.warm hW, by rw [hU], by rw [hU]; exact hP, va_K.moved hW.alike hK⟩⟩ rfl hn hsz hst (lv_room hrm) hdg hcs) hS kk
  have h2 := hd.2.2
  rw [h] at h2
  exact (Option.some.inj h2).symm
theorem p_callN (C : pCx p s m c cc nL E own) (hP : va_P (pD E) vwCl (pw E α β) H) (hS : va_S (pA E s.heap.size) s.heap H locs) (hw : pWN own index y host bytes maxL ret s args) (hM : pM l E y bytes maxL ret d As α β v α' β')
    (hd : y.cls ≠ "java/lang/invoke/MethodHandle" ∧ y.cls ≠ "java/lang/invoke/VarHandle" ∧ (parseMethodDescriptor y.desc).map (fun d => d.parameters.length) = some n) (hn : As.length = n) (hR : d + 1 ≤ R.frames ∧ 8 + (maxL + 11) + 40 * d ≤ R.locals) (hsz : ls.size = nL) (hst : st = As.reverse ++ rest) (hrm : (rest.map fun v => v.category).sum ≤ 8) (hdg : decode cc pc = .ok (.invokestatic index, 3)) (hcs : cells ≤ R.cells ∧ slots ≤ R.slots)
    (kk : ∀ (H1 : Heap) (locs1 : List Loc), va_P (pD E) vwCl (pw E α' β') H1 → va_S (pA E s.heap.size) s.heap H1 locs1 → H.size ≤ H1.size → (∀ q : Nat, q < H.size → ¬ pA E H.size q → H1[q]? = H[q]?) → W p l e R s m args below meth c H1 locs1 cells slots Q (F0 m (pc + 3) ls (v.toList ++ rest))) : W p l e R s m args below meth c H locs cells slots Q (F0 m pc ls st) := by
  obtain ⟨hl, hstt, hini, hcode⟩ := hw
  obtain ⟨hx, hb, hml, hown, hT, hK, hE⟩ := C
  refine p_go (va_runSN (Ts := []) (n := n) (host := host) ⟨hx, hb, hml, hown, fun w h => by cases h⟩ (hM H.size) ⟨⟨⟨rfl, rfl, hR.1, hR.2, p_code_warm hcode, List.mem_cons_self⟩, hcode, hini, ⟨hd.1, hd.2.1⟩, fun sig h => ?_, hl⟩, hstt, trivial⟩ ⟨p_blind, fun U hU hW => ⟨rfl, hT.warm hW, by rw [hU], by rw [hU]; exact hP, va_K.moved hW.alike hK⟩⟩ rfl hn hsz hst (lv_room hrm) hdg hcs) hS kk
  have h2 := hd.2.2
  rw [h] at h2
  exact (Option.some.inj h2).symm
end PCL
