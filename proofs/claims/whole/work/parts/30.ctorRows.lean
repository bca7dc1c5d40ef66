/-! constructors: the cells lie side by side from N0 on -/
def pz (N0 n : Nat) (G : Nat → va_E) : va_W := (List.range n).map (fun j => (N0 + j, G j))
theorem pz_at {N0 n : Nat} {G : Nat → va_E} {j : Nat} (h : j < n) : (pz N0 n G)[j]? = some (N0 + j, G j) := by simp [pz, h]
theorem pz_lt {N0 n : Nat} {G : Nat → va_E} {j : Nat} {q : Nat × va_E} (h : (pz N0 n G)[j]? = some q) : j < n ∧ q = (N0 + j, G j) := by
  have h1 : j < n := by
    rcases Nat.lt_or_ge j n with h1 | h1
    · exact h1
    · rw [List.getElem?_eq_none (by simp [pz]; exact h1)] at h; cases h
  rw [pz_at h1] at h
  exact ⟨h1, (Option.some.inj h).symm⟩
theorem pz_is {N0 n : Nat} {G : Nat → va_E} {j : Nat} {e : va_E} (h : j < n) (he : G j = e) : (pz N0 n G)[j]? = some (N0 + j, e) := by rw [pz_at h, he]
theorem pz_congr {N0 n : Nat} {G G' : Nat → va_E} (h : ∀ j, j < n → G j = G' j) : pz N0 n G = pz N0 n G' := by
  apply List.ext_getElem?
  intro j
  rcases Nat.lt_or_ge j n with h1 | h1
  · rw [pz_at h1, pz_at h1, h j h1]
  · rw [List.getElem?_eq_none (by simp [pz]; exact h1), List.getElem?_eq_none (by simp [pz]; exact h1)]
theorem pz_set {N0 n : Nat} {G : Nat → va_E} {j : Nat} {e : va_E} : (pz N0 n G).set j (N0 + j, e) = pz N0 n (va_up G j e) := by
  apply List.ext_getElem?
  intro i
  rw [List.getElem?_set]
  rcases Nat.lt_or_ge i n with h1 | h1
  · by_cases hij : j = i
    · subst hij
      rw [if_pos rfl, if_pos (by simp [pz]; exact h1), pz_at h1, va_up_self]
    · rw [if_neg hij, pz_at h1, pz_at h1, va_up_ne _ _ (fun h => hij h.symm)]
  · have e1 : ∀ G', (pz N0 n G')[i]? = none := fun G' => List.getElem?_eq_none (by simp [pz]; exact h1)
    by_cases hij : j = i
    · subst hij
      rw [if_pos rfl, if_neg (by simp [pz]; omega), e1]
    · rw [if_neg hij, e1, e1]
theorem pz_push {N0 n : Nat} {G : Nat → va_E} {e : va_E} : pz N0 n G ++ [(N0 + n, e)] = pz N0 (n + 1) (va_up G n e) := by
  simp only [pz, List.range_succ, List.map_append, List.map_cons, List.map_nil, va_up_self]
  congr 1
  apply List.map_congr_left
  intro j hj
  rw [va_up_ne _ _ (Nat.ne_of_lt (List.mem_range.mp hj))]
theorem pz_D {N0 n : Nat} {G : Nat → va_E} : va_D (fun q => N0 ≤ q) (pz N0 n G) := by
  refine ⟨fun i j p q hi hj hpq => ?_, fun k q hk => ?_⟩
  · obtain ⟨h1, rfl⟩ := pz_lt hi
    obtain ⟨h2, rfl⟩ := pz_lt hj
    have h3 : N0 + i = N0 + j := hpq
    omega
  · obtain ⟨h1, rfl⟩ := pz_lt hk
    exact Nat.le_add_right N0 k
def pAO (U : State) : Prop := va_AO "PlugRounds$PlugFile" U ∧ va_AO "PlugRounds$Processor" U ∧ va_AO "PlugRounds$Row" U
theorem pAO.moved {u U : State} (hvm : u.vm.Alike U.vm) (h : pAO u) : pAO U := ⟨h.1.moved hvm, h.2.1.moved hvm, h.2.2.moved hvm⟩
def pIP (E : pE) (N0 n : Nat) (G : Nat → va_E) : State → Prop := fun U => pTab U ∧ pAO U ∧ U.heap.size = N0 + n ∧ va_P (pD E) vwCl (pz N0 n G) U.heap ∧ va_K (pD E) vwCl (pT E) U
def pIQ (E : pE) (N0 n : Nat) (G : Nat → va_E) : Array Value → State → Outcome → State → Prop := fun _ st oc t => oc = .returned none ∧ t.heap.size = N0 + n ∧ va_P (pD E) vwCl (pz N0 n G) t.heap ∧ va_F (fun q => N0 ≤ q) st t
/-- a constructor: from n cells G to n' cells G' -/
def pI (l : Launch) (E : pE) (N0 : Nat) (y : MethodName) (cc : ByteArray) (maxL d mc ms : Nat) (av : List Value) (n : Nat) (G : Nat → va_E) (n' : Nat) (G' : Nat → va_E) : Prop :=
  Met l y [.code y cc maxL none] ({ frames := d, cells := mc, slots := ms, locals := 40 * d }) (va_Pc av (pIP E N0 n G)) (pIQ E N0 n' G') mc ms (fun q => N0 ≤ q)
def zCx (p : Program) (s : State) (m : MethodId) (meth : Method) (c : Code) (cc : ByteArray) (nL : Nat) (E : pE) (own : String) (N0 : Nat) : Prop :=
  p.tables.exec = Jvm.exec ∧ c.code = cc ∧ c.maxLocals = nL ∧ s.vm.findClass own = some m.cls ∧ pTab s ∧ va_K (pD E) vwCl (pT E) s ∧ pAO s ∧ N0 ≤ s.heap.size
theorem pI.ofW {l : Launch} {E : pE} {N0 : Nat} {y : MethodName} {cc : ByteArray} {maxL d mc ms n n' : Nat} {av : List Value} {G G' : Nat → va_E} (hy : plainName y.cls = true) (hyn : y.name = "<init>")
    (body : ∀ (p : Program) (e : Env) (s : State) (m : MethodId) (below : List Frame) (meth : Method) (c : Code) (ls : Array Slot), zCx p s m meth c cc maxL E y.cls N0 → meth.name = "<init>" → meth.sig.returnType = none → meth.locks = false → va_P (pD E) vwCl (pz N0 n G) s.heap → s.heap.size = N0 + n → lv_has ls maxL (lv_args 0 av) →
      W p l e ({ frames := d, cells := mc, slots := ms, locals := 40 * d } : Room) s m av.toArray below meth c s.heap [] 0 0 (MQ below (pIQ E N0 n' G') av.toArray s mc ms (fun q => N0 ≤ q)) (F0 m 0 ls []))
    (hlen : (lg_sl av).length ≤ maxL) : pI l E N0 y cc maxL d mc ms av n G n' G' := by
  refine Met.ofW (cc := cc) (maxL := maxL) (ret := none) hy rfl ?_
  intro p e s m args below meth c s₁ B hml hv
  obtain ⟨rfl, hT, hAO, hz, hP, hK⟩ := hv
  have hl := lv_entry av (n := maxL) hlen
  rw [lg_entry_eq]
  exact body p e s m below meth c _ ⟨B.exec, B.bytes, hml, findClass_of_methodNamed B.named, hT, hK, hAO, by rw [hz]; exact Nat.le_add_right _ _⟩ (by rw [← hyn]; exact (name_of_methodNamed B.named B.method).1) B.returns B.notSynchronized hP hz hl
section PZR
variable {p : Program} {l : Launch} {e : Env} {R : Room} {s : State} {m : MethodId} {args : Array Value} {below : List Frame} {meth : Method} {c : Code} {H : Heap} {locs : List Loc} {cells slots : Nat} {Q : State → Prop} {cc : ByteArray} {pc nL : Nat} {ls : Array Slot} {rest : List Value} {E : pE} {own : String} {N0 n : Nat} {G : Nat → va_E}
theorem z_S (hS : va_S (fun q => N0 ≤ q) s.heap H locs) {H1 : Heap} (z : H1.size = H.size + 1) (o : ∀ q, q < H.size → H1[q]? = H[q]?) : va_S (fun q => N0 ≤ q) s.heap H1 locs :=
  ⟨Nat.le_trans hS.1 (by omega), fun x h1 h2 => (o x (Nat.lt_of_lt_of_le h1 hS.1)).trans (hS.2.1 x h1 h2), hS.2.2⟩
theorem z_P {en : va_E} (hP : va_P (pD E) vwCl (pz N0 n G) H) (hz : H.size = N0 + n) {H1 : Heap} (o : ∀ q, q < H.size → H1[q]? = H[q]?) (hn : va_at (pD E) vwCl (N0 + n, en) H1) : va_P (pD E) vwCl (pz N0 (n + 1) (va_up G n en)) H1 := by
  rw [← pz_push]
  refine va_P.app (hP.kept (fun k q hk => o q.1 ((hP k q hk).lt))) (fun k q hk => ?_)
  have hk0 : k < 1 := (List.getElem?_eq_some_iff.mp hk).1
  rw [show k = 0 by omega] at hk
  cases hk
  exact hn
theorem z_new {Cn : String} {T : u_T} {N ci index : Nat} {fs : List Value} (C : zCx p s m meth c cc nL E own N0) (hP : va_P (pD E) vwCl (pz N0 n G) H) (hz : H.size = N0 + n) (hS : va_S (fun q => N0 ≤ q) s.heap H locs) (hu : ∀ w ∈ u_ws Cn T N, w.before args s = true) (ty : Nat → FieldType) (hty : ∀ k, k < N → parseFieldDescriptor (T k).2.2.1 = some (ty k))
    (hcl : (Cond.classLink own index Cn).before args s = true) (hinst : (Cond.instantiable Cn N).before args s = true) (hini : (Cond.initialized Cn).before args s = true) (hc : vwCl[ci]? = some (Cn, T, N)) (hfs : ∀ j, j < N → defaultValue (ty j) = vp_V fs j) (hcells : cells + 1 ≤ R.cells) (hslots : slots + N ≤ R.slots) (hdg : decode cc pc = .ok (.new index, 3))
    (kk : ∀ H1 : Heap, va_P (pD E) vwCl (pz N0 (n + 1) (va_up G n (.inr (ci, fs)))) H1 → H1.size = N0 + (n + 1) → va_S (fun q => N0 ≤ q) s.heap H1 locs → W p l e R s m args below meth c H1 locs (cells + 1) (slots + N) Q (F0 m (pc + 3) ls (.ref (N0 + n) :: rest))) : W p l e R s m args below meth c H locs cells slots Q (F0 m pc ls rest) := by
  have hK := C.2.2.2.2.2.1
  have hKn := hK.1 ci _ hc
  refine W.newcK C.1 C.2.1 C.2.2.2.1 hcl hinst hini rfl hdg hcells hslots hKn.2.1 hz fun H1 kC hkC e1 z1 o1 => ?_
  have o2 : ∀ q, q < H.size → H1[q]? = H[q]? := fun q hq => o1 q (by rw [← hz]; exact hq)
  refine kk H1 (z_P hP hz o2 ⟨_, hc, (u_born ty hu (fun _ h => h) hKn hkC e1 hty).to hfs⟩) z1 (z_S hS (by rw [z1, hz]) o2)
theorem z_newa {atype : ArrayType} {x : Int32} {N t0 : Nat} {a0 : vp_A} (C : zCx p s m meth c cc nL E own N0) (hP : va_P (pD E) vwCl (pz N0 n G) H) (hz : H.size = N0 + n) (hS : va_S (fun q => N0 ≤ q) s.heap H locs) (harr : (Cond.arrayClass (newarray.typeOf atype)).before args s = true) {cA0 : ClassId} (ht : (pT E)[t0]? = some (cA0, newarray.typeOf atype)) (hra : ∀ U cA, va_RA U cA (newarray.typeOf atype) → U.vm.findClass ("[" ++ (newarray.typeOf atype).toString) = some cA)
    (ha : ∀ cA : ClassId, vp_cell cA a0 = arrV cA N (fun _ => defaultValue (newarray.typeOf atype))) (hn : ¬ x < 0) (hN : x.toNatClampNeg = N) (hbytes : N * componentBytes (newarray.typeOf atype) ≤ 536870912) (hcells : cells + 1 ≤ R.cells) (hslots : slots + N ≤ R.slots) (hdg : decode cc pc = .ok (.newarray atype, 2))
    (kk : ∀ H1 : Heap, va_P (pD E) vwCl (pz N0 (n + 1) (va_up G n (.inl (cA0, a0)))) H1 → H1.size = N0 + (n + 1) → va_S (fun q => N0 ≤ q) s.heap H1 locs → W p l e R s m args below meth c H1 locs (cells + 1) (slots + N) Q (F0 m (pc + 2) ls (.ref (N0 + n) :: rest))) : W p l e R s m args below meth c H locs cells slots Q (F0 m pc ls (.int x :: rest)) := by
  have hK := C.2.2.2.2.2.1
  refine va_newaK C.1 C.2.1 harr rfl hdg rfl hn hN hbytes hcells hslots hz fun H1 cA e1 z1 o1 hAr hNm => ?_
  have o2 : ∀ q, q < H.size → H1[q]? = H[q]? := fun q hq => o1 q (by rw [← hz]; exact hq)
  have hcA : cA = cA0 := Option.some.inj (hNm.symm.trans (hra _ _ (hK.2 t0 _ ht).2))
  subst hcA
  refine kk H1 (z_P hP hz o2 ?_) z1 (z_S hS (by rw [z1, hz]) o2)
  show H1[N0 + n]? = some (vp_cell _ _)
  rw [ha]
  exact e1
theorem z_newq {Cn : String} {index : Nat} {x : Int32} {N t0 : Nat} (C : zCx p s m meth c cc nL E own N0) (hP : va_P (pD E) vwCl (pz N0 n G) H) (hz : H.size = N0 + n) (hS : va_S (fun q => N0 ≤ q) s.heap H locs) (hcl : (Cond.classLink own index Cn).before args s = true) (hao : va_AO Cn s) {cA0 : ClassId} (ht : (pT E)[t0]? = some (cA0, .object Cn))
    (hn : ¬ x < 0) (hN : x.toNatClampNeg = N) (hbytes : N * 4 ≤ 536870912) (hcells : cells + 1 ≤ R.cells) (hslots : slots + N ≤ R.slots) (hdg : decode cc pc = .ok (.anewarray index, 3))
    (kk : ∀ H1 : Heap, va_P (pD E) vwCl (pz N0 (n + 1) (va_up G n (.inl (cA0, N, .inr (.inr (.inr (.inr (fun _ => none)))))))) H1 → H1.size = N0 + (n + 1) → va_S (fun q => N0 ≤ q) s.heap H1 locs → W p l e R s m args below meth c H1 locs (cells + 1) (slots + N) Q (F0 m (pc + 3) ls (.ref (N0 + n) :: rest))) : W p l e R s m args below meth c H locs cells slots Q (F0 m pc ls (.int x :: rest)) := by
  have hK := C.2.2.2.2.2.1
  subst hN
  refine W.anew C.1 C.2.1 C.2.2.2.1 hcl (va_AO.use hao) rfl hdg rfl hn hbytes hcells hslots fun cA kA comp f1 f2 f3 f4 => ?_
  obtain ⟨kA0, comp0, g1, g2, g3, g4⟩ := (hK.2 t0 _ ht).2
  have hcA : cA = cA0 := Option.some.inj (f1.symm.trans g4)
  subst hcA
  generalize hH1 : H.push ({ cls := cA, slots := Array.replicate x.toNatClampNeg .null, vm := .none } : Cell) = H1
  have z1 : H1.size = H.size + 1 := by rw [← hH1, Array.size_push]
  have e1 : H1[H.size]? = some (arrV cA x.toNatClampNeg (fun _ => .null)) := by rw [← hH1, Array.getElem?_push_size, ← arrV_new]
  have o1 : ∀ q : Nat, q < H.size → H1[q]? = H[q]? := fun q hq => by rw [← hH1, Array.getElem?_push, if_neg (Nat.ne_of_lt hq)]
  have hk := kk H1 (z_P hP hz o1 (by
    show H1[N0 + n]? = some (vp_cell _ _)
    rw [vp_cell_q, ← hz]
    exact e1)) (by rw [z1, hz]; rfl) (z_S hS z1 o1)
  rw [← hz] at hk
  exact hk
theorem z_putF {Cn : String} {T : u_T} {N ci index k j : Nat} {fs : List Value} {ty : FieldType} {v : Value} (C : zCx p s m meth c cc nL E own N0) (hin : meth.name = "<init>") (hP : va_P (pD E) vwCl (pz N0 n G) H) (hz : H.size = N0 + n) (hS : va_S (fun q => N0 ≤ q) s.heap H locs) (hu : ∀ w ∈ u_ws Cn T N, w.before args s = true) (ty0 : Nat → FieldType) (hty : ∀ k, k < N → parseFieldDescriptor (T k).2.2.1 = some (ty0 k)) (hnm : ∀ a, a < N → ∀ b, b < N → a ≠ b → (T a).2.1 ≠ (T b).2.1)
    (hj : j < n) (hG : G j = .inr (ci, fs)) (hc : vwCl[ci]? = some (Cn, T, N)) (hk : k < N) (hlink : (Cond.fieldLink own index (T k).1 (T k).2.1 (T k).2.2.1).before args s = true) (hfin : (T k).2.2.2 = true) (hdecl : (T k).1 = own) (hd : parseFieldDescriptor (T k).2.2.1 = some ty) (hn : narrow ty v = v) (hfit : fits ty v = true) (hl : k < fs.length) (hdg : decode cc pc = .ok (.putfield index, 3))
    (kk : ∀ (H1 : Heap) (locs1 : List Loc), va_P (pD E) vwCl (pz N0 n (va_up G j (.inr (ci, fs.set k v)))) H1 → H1.size = N0 + n → va_S (fun q => N0 ≤ q) s.heap H1 locs1 → W p l e R s m args below meth c H1 locs1 cells slots Q (F0 m (pc + 3) ls rest)) : W p l e R s m args below meth c H locs cells slots Q (F0 m pc ls (v :: .ref (N0 + j) :: rest)) := by
  have hK := C.2.2.2.2.2.1
  have hapx := va_apart (own := own) hu (fun _ h => h) ty0 hty hnm hK hc
  obtain ⟨r, h1, cell, q1, q2, q3, q4⟩ := hP j _ (pz_is hj hG)
  have hr : r = (Cn, T, N) := Option.some.inj (h1.symm.trans hc)
  subst hr
  obtain ⟨hSl, hfc, kC, hkC, hkind⟩ := hK.1 ci _ hc
  obtain ⟨cf, kf, fi, f, hi, hsl⟩ := hSl k hk
  have hlay := hu _ (u_in_lay hk)
  unfold u_lay at hlay
  rw [if_pos hfin] at hlay
  have hst := (u_facts hfc hkC (u_lays hu (fun _ h => h) hk) hi).1
  have hcf : m.cls = cf := by
    obtain ⟨_, _, c', _, _, _, -, -, hf', -, -, -, hown2, -⟩ := Cond.laysFinal_spec hlay
    have e1 : c' = cf := by have := hi.symm.trans hf'; simp at this; exact this.1.symm
    rw [hdecl] at hown2
    rw [← e1]; exact Option.some.inj (C.2.2.2.1.symm.trans hown2)
  have h6 := u_fits hfc hkC hkind (Or.inr hlay) hi hd hn hfit
  refine W.putFinK C.1 C.2.1 C.2.2.2.1 hlink hi hst hcf hin (by rw [q2]; exact h6) q1 q3 (by rw [hsl]; exact k2_hasslot (q4 k hk)) rfl rfl hdg fun H' e1 e2 e3 => ?_
  rw [hsl] at e1 ⊢
  refine kk H' _ ?_ (by rw [e2, hz]) (hS.put e2 e3 (Nat.le_add_right N0 j))
  rw [← pz_set]
  exact hP.set pz_D (pz_is hj hG) ⟨_, hc, t_OB.to (V := updV (vp_V fs) k v) ⟨_, e1, q2, q3, t_set q4 hapx hk v⟩ (fun j _ => vp_updV_set hl v j)⟩ e3
theorem z_put {Cn : String} {T : u_T} {N ci index k j : Nat} {fs : List Value} {ty : FieldType} {v : Value} (C : zCx p s m meth c cc nL E own N0) (hP : va_P (pD E) vwCl (pz N0 n G) H) (hz : H.size = N0 + n) (hS : va_S (fun q => N0 ≤ q) s.heap H locs) (hu : ∀ w ∈ u_ws Cn T N, w.before args s = true) (ty0 : Nat → FieldType) (hty : ∀ k, k < N → parseFieldDescriptor (T k).2.2.1 = some (ty0 k)) (hnm : ∀ a, a < N → ∀ b, b < N → a ≠ b → (T a).2.1 ≠ (T b).2.1)
    (hj : j < n) (hG : G j = .inr (ci, fs)) (hc : vwCl[ci]? = some (Cn, T, N)) (hk : k < N) (hlink : (Cond.fieldLink own index (T k).1 (T k).2.1 (T k).2.2.1).before args s = true) (hfin : (T k).2.2.2 = false) (hd : parseFieldDescriptor (T k).2.2.1 = some ty) (hn : narrow ty v = v) (hfit : fits ty v = true) (hl : k < fs.length) (hdg : decode cc pc = .ok (.putfield index, 3))
    (kk : ∀ (H1 : Heap) (locs1 : List Loc), va_P (pD E) vwCl (pz N0 n (va_up G j (.inr (ci, fs.set k v)))) H1 → H1.size = N0 + n → va_S (fun q => N0 ≤ q) s.heap H1 locs1 → W p l e R s m args below meth c H1 locs1 cells slots Q (F0 m (pc + 3) ls rest)) : W p l e R s m args below meth c H locs cells slots Q (F0 m pc ls (v :: .ref (N0 + j) :: rest)) := by
  have hK := C.2.2.2.2.2.1
  have hapx := va_apart (own := own) hu (fun _ h => h) ty0 hty hnm hK hc
  obtain ⟨r, h1, cell, q1, q2, q3, q4⟩ := hP j _ (pz_is hj hG)
  have hr : r = (Cn, T, N) := Option.some.inj (h1.symm.trans hc)
  subst hr
  obtain ⟨hSl, hfc, kC, hkC, hkind⟩ := hK.1 ci _ hc
  obtain ⟨cf, kf, fi, f, hi, hsl⟩ := hSl k hk
  have hlay := hu _ (u_in_lay hk)
  unfold u_lay at hlay
  rw [if_neg (by rw [hfin]; decide)] at hlay
  have hst := (u_facts hfc hkC (u_lays hu (fun _ h => h) hk) hi).1
  have h6 := u_store hfc hkC hkind hlay hi hd hn hfit
  refine W.putK C.1 C.2.1 (f := f) ⟨C.2.2.2.1, hlink, ⟨_, _, _, hi⟩, hst⟩ (by rw [q2]; exact h6) q1 q3 (by rw [hsl]; exact k2_hasslot (q4 k hk)) rfl rfl hdg fun H' e1 e2 e3 => ?_
  rw [hsl] at e1 ⊢
  refine kk H' _ ?_ (by rw [e2, hz]) (hS.put e2 e3 (Nat.le_add_right N0 j))
  rw [← pz_set]
  exact hP.set pz_D (pz_is hj hG) ⟨_, hc, t_OB.to (V := updV (vp_V fs) k v) ⟨_, e1, q2, q3, t_set q4 hapx hk v⟩ (fun j _ => vp_updV_set hl v j)⟩ e3
theorem z_get {Cn : String} {T : u_T} {N ci index j : Nat} {fs : List Value} {v : Value} (C : zCx p s m meth c cc nL E own N0) (hP : va_P (pD E) vwCl (pz N0 n G) H) (hu : ∀ w ∈ u_ws Cn T N, w.before args s = true) (hj : j < n) (hG : G j = .inr (ci, fs)) (hc : vwCl[ci]? = some (Cn, T, N)) (k : Nat) (hk : k < N) (hlink : (Cond.fieldLink own index (T k).1 (T k).2.1 (T k).2.2.1).before args s = true) (hv : fs[k]? = some v) (hdg : decode cc pc = .ok (.getfield index, 3))
    (kk : W p l e R s m args below meth c H locs cells slots Q (F0 m (pc + 3) ls (v :: rest))) : W p l e R s m args below meth c H locs cells slots Q (F0 m pc ls (.ref (N0 + j) :: rest)) :=
  va_get C.1 C.2.1 hu (fun _ h => h) C.2.2.2.1 C.2.2.2.2.2.1 hP j (pz_is hj hG) hc k hk hlink (fun _ h => h) hv hdg kk
theorem z_getN {Cn host : String} {T : u_T} {N ci index j : Nat} {fs : List Value} {v : Value} (C : zCx p s m meth c cc nL E own N0) (hP : va_P (pD E) vwCl (pz N0 n G) H) (hu : ∀ w ∈ u_ws Cn T N, w.before args s = true) (hj : j < n) (hG : G j = .inr (ci, fs)) (hc : vwCl[ci]? = some (Cn, T, N)) (k : Nat) (hk : k < N) (hlink : (Cond.fieldLinkNest own index (T k).1 (T k).2.1 (T k).2.2.1 host).before args s = true) (hv : fs[k]? = some v) (hdg : decode cc pc = .ok (.getfield index, 3))
    (kk : W p l e R s m args below meth c H locs cells slots Q (F0 m (pc + 3) ls (v :: rest))) : W p l e R s m args below meth c H locs cells slots Q (F0 m pc ls (.ref (N0 + j) :: rest)) :=
  va_getN C.1 C.2.1 hu (fun _ h => h) C.2.2.2.1 C.2.2.2.2.2.1 hP j (pz_is hj hG) hc k hk hlink (fun _ h => h) hv hdg kk
theorem z_alen {cA : ClassId} {x : vp_A} {t0 j : Nat} {ty : FieldType} {v : Int32} (C : zCx p s m meth c cc nL E own N0) (hP : va_P (pD E) vwCl (pz N0 n G) H) (hj : j < n) (hG : G j = .inl (cA, x)) (ht : (pT E)[t0]? = some (cA, ty)) (hv : Int32.ofNat x.1 = v) (hdg : decode cc pc = .ok (.arraylength, 1))
    (kk : W p l e R s m args below meth c H locs cells slots Q (F0 m (pc + 1) ls (.int v :: rest))) : W p l e R s m args below meth c H locs cells slots Q (F0 m pc ls (.ref (N0 + j) :: rest)) :=
  va_alen C.1 C.2.1 C.2.2.2.2.2.1 hP j t0 (pz_is hj hG) ht hv hdg kk
theorem z_aast {cA : ClassId} {r : vw_C} {t0 ci j jv N : Nat} {vs : List Value} {f : Nat → Option Nat} {i : Int32} (C : zCx p s m meth c cc nL E own N0) (hP : va_P (pD E) vwCl (pz N0 n G) H) (hz : H.size = N0 + n) (hS : va_S (fun q => N0 ≤ q) s.heap H locs) (hj : j < n) (hG : G j = .inl (cA, N, .inr (.inr (.inr (.inr f))))) (ht : (pT E)[t0]? = some (cA, .object r.1)) (hjv : jv < n) (hGv : G jv = .inr (ci, vs)) (hc : vwCl[ci]? = some r) (hin : vp_in i N) (hdg : decode cc pc = .ok (.aastore, 1))
    (kk : ∀ (H1 : Heap) (locs1 : List Loc), va_P (pD E) vwCl (pz N0 n (va_up G j (.inl (cA, N, .inr (.inr (.inr (.inr (va_up f i.toNatClampNeg (some (N0 + jv)))))))))) H1 → H1.size = N0 + n → va_S (fun q => N0 ≤ q) s.heap H1 locs1 → W p l e R s m args below meth c H1 locs1 cells slots Q (F0 m (pc + 1) ls rest)) : W p l e R s m args below meth c H locs cells slots Q (F0 m pc ls (.ref (N0 + jv) :: .int i :: .ref (N0 + j) :: rest)) := by
  have hK := C.2.2.2.2.2.1
  have hlt : i.toNatClampNeg < N := Nat.not_le.mp fun q => hin (Or.inr q)
  have h0 : ¬ i < 0 := fun q => hin (Or.inl q)
  obtain ⟨r', hr', cellV, g1, g2, g3, -⟩ := hP jv _ (pz_is hjv hGv)
  have hcls := (hK.1 ci r hc).2
  obtain ⟨kA, comp, k1, k2, k3, -⟩ := (hK.2 t0 _ ht).2
  have hcomp : comp = (pD E).1 ci := Option.some.inj (k3.symm.trans hcls.1)
  subst hcomp
  obtain ⟨kC, hkC, -⟩ := hcls.2
  refine W.aast C.1 C.2.1 (hP j _ (pz_is hj hG)) (fun q h => by cases h) (fun h => by cases h) k1 k2 rfl hkC ⟨h0, by show _ < (arrV _ _ _).slots.size; rw [arrV_size]; exact hlt⟩ g1 (fun q h => by rw [g3] at h; cases h) (by rw [g2]; exact hkC) (by rw [g2]; exact va_assign hcls) rfl rfl hdg fun H1 e z oq => ?_
  refine kk H1 _ ?_ (by rw [z, hz]) (hS.put z oq (Nat.le_add_right N0 j))
  rw [← pz_set]
  refine hP.set pz_D (pz_is hj hG) ?_ oq
  show H1[N0 + j]? = some (vp_cell _ _)
  rw [e]
  rw [vp_cell_q, vp_cell_q, arrV_store]
  congr 2
  funext q
  by_cases hq : q = i.toNatClampNeg
  · subst hq
    simp [updV, va_up, va_rf]
  · simp [updV, va_up, hq]
/-- the words of a constructor's call -/
def pWI (own : String) (index : Nat) (y : MethodName) (bytes : ByteArray) (maxL : Nat) (s : State) (args : Array Value) : Prop :=
  (Cond.methodLink own index y).before args s = true ∧ (Cond.instanceMethod y).before args s = true ∧ (Cond.initialized y.cls).before args s = true ∧ (Cond.code y bytes maxL none).before args s = true
variable {y : MethodName} {bytes : ByteArray} {maxL d k index mc ms j n' : Nat} {As st : List Value} {G' : Nat → va_E}
theorem z_call (C : zCx p s m meth c cc nL E own N0) (hP : va_P (pD E) vwCl (pz N0 n G) H) (hz : H.size = N0 + n) (hS : va_S (fun q => N0 ≤ q) s.heap H locs) (hw : pWI own index y bytes maxL s args) (hM : pI l E N0 y bytes maxL d mc ms (.ref (N0 + j) :: As) n G n' G') (hy : y.name = "<init>")
    (hd : y.cls ≠ "java/lang/invoke/MethodHandle" ∧ y.cls ≠ "java/lang/invoke/VarHandle" ∧ (parseMethodDescriptor y.desc).map (fun d => d.parameters.length) = some k) (hn : As.length = k) (hR : d + 1 ≤ R.frames ∧ 8 + (maxL + 11) + 40 * d ≤ R.locals) (hsz : ls.size = nL) (hst : st = As.reverse ++ .ref (N0 + j) :: rest) (hrm : (rest.map fun v => v.category).sum ≤ 8) (hdg : decode cc pc = .ok (.invokespecial index, 3)) (hcs : cells + mc ≤ R.cells ∧ slots + ms ≤ R.slots)
    (kk : ∀ (H1 : Heap) (locs1 : List Loc), va_P (pD E) vwCl (pz N0 n' G') H1 → H1.size = N0 + n' → va_S (fun q => N0 ≤ q) s.heap H1 locs1 → W p l e R s m args below meth c H1 locs1 (cells + mc) (slots + ms) Q (F0 m (pc + 3) ls rest)) : W p l e R s m args below meth c H locs cells slots Q (F0 m pc ls st) := by
  obtain ⟨hl, hin, hini, hcode⟩ := hw
  obtain ⟨hx, hb, hml, hown, hT, hK, hAO, hN0⟩ := C
  have hr := va_runI (Ts := []) (n := k) (b := N0 + j) (As := As) (rest := rest) (g := F0 m pc ls st) (cells := cells) (slots := slots) (locs := locs) (below := below) (e := e) (H := H) (meth := meth) ⟨hx, hb, hml, hown, fun w h => by cases h⟩ hM ⟨⟨rfl, rfl, hR.1, hR.2, p_code_warm hcode, List.mem_cons_self, hcode, hini, ⟨hd.1, hd.2.1⟩, fun sig h => by
      have h2 := hd.2.2
      rw [h] at h2
      exact (Option.some.inj h2).symm, hl⟩, hy, hin⟩ ⟨fun a U g mk q => by
      obtain ⟨q0, q1, q2, q3, qP, qK⟩ := q
      exact ⟨q0, q1.calling, q2.moved (u := U) (U := U.calling g mk a) (Vm.Alike.refl U.vm), q3, qP, va_K.moved (u := U) (U := U.calling g mk a) (Vm.Alike.refl U.vm) qK⟩, fun U hU hW => ⟨rfl, hT.warm hW, hAO.moved hW.alike, by rw [hU]; exact hz, by rw [hU]; exact hP, va_K.moved hW.alike hK⟩⟩ rfl hn hsz hst (lv_room hrm) hdg hcs
  intro T hTT X
  obtain ⟨v', st₀, t, T', L, h0, X', hL, e1, e2, ⟨hv, hz', hP', hzz, hk'⟩, stp⟩ := hr T hTT X
  cases hv
  rw [h0] at hzz hk'
  obtain ⟨t2, a1, b1⟩ := kk T'.heap (locs ++ L) (by rw [e1]; exact hP') (by rw [e1]; exact hz')
    ⟨Nat.le_trans hS.1 (by rw [e1]; exact hzz), fun q h1 h2 => by rw [e1, hk' q (Nat.lt_of_lt_of_le h1 hS.1) h2]; exact hS.2.1 q h1 h2, fun q hq => by
      rcases List.mem_append.mp hq with h | h
      · exact hS.2.2 q h
      · exact hL q h⟩ T' rfl X'
  exact ⟨t2, stp t2 a1, b1⟩
theorem z_vret {mc ms : Nat} (C : zCx p s m meth c cc nL E own N0) (hr : meth.sig.returnType = none) (hlk : meth.locks = false) (hP : va_P (pD E) vwCl (pz N0 n G) H) (hz : H.size = N0 + n) (hS : va_S (fun q => N0 ≤ q) s.heap H locs) (hG : ∀ j, j < n → G j = G' j) (hdg : decode cc pc = .ok (.return_, 1)) : W p l e R s m args below meth c H locs mc ms (MQ below (pIQ E N0 n G') args s mc ms (fun q => N0 ≤ q)) (F0 m pc ls []) := by
  rw [pz_congr hG] at hP
  exact W.vret C.1 C.2.1 hr (fun t ht _ => ⟨rfl, by rw [ht]; exact hz, by rw [ht]; exact hP, hS.F ht⟩) hS.2.2 hdg hlk
end PZR
