/-! the world: every object and array of the class and of the reference, at fixed places, as a function of two states of ints -/
abbrev pSt : Type := Nat → Nat → Int32
def up2 (α : pSt) (v i : Nat) (x : Int32) : pSt := fun a => if a = v then upd (α a) i x else α a
theorem up2_ne {α : pSt} {v i a : Nat} {x : Int32} (h : ¬ a = v) : up2 α v i x a = α a := by simp [up2, h]
theorem up2_v {α : pSt} {v i : Nat} {x : Int32} : up2 α v i x v = upd (α v) i x := by simp [up2]
theorem up2_vv {α : pSt} {v i : Nat} {x : Int32} : up2 α v i x v i = x := by simp [up2, upd]
theorem up2_vn {α : pSt} {v i j : Nat} {x : Int32} (h : ¬ j = i) : up2 α v i x v j = α v j := by simp [up2, upd, h]
abbrev pE : Type := va_G × (Nat → ClassId) × (Nat → Nat)
abbrev pD (E : pE) : va_G := E.1
abbrev pC (E : pE) (k : Nat) : ClassId := E.2.1 k
abbrev pL (E : pE) (k : Nat) : Nat := E.2.2 k
abbrev pT (E : pE) : List (ClassId × FieldType) := [(pC E 0, .int), (pC E 1, .boolean), (pC E 2, .long), (pC E 3, .object "PlugRounds$PlugFile"), (pC E 4, .object "PlugRounds$Processor"), (pC E 5, .object "PlugRounds$Row")]
def pcap (r : Nat) : Nat := if r < 7 then 64 else 100
def pcl (E : pE) (α : pSt) (k : Nat) : va_E :=
  if k = 0 then .inr (11, [.ref (pL E 22), .ref (pL E 1), .ref (pL E 2), .ref (pL E 8), .ref (pL E 3), .ref (pL E 5), .ref (pL E 6), .ref (pL E 7), .int (α 22 0)])
  else if k = 1 then .inl (pC E 3, 6, .inr (.inr (.inr (.inr (fun i => some (pL E (10 + i)))))))
  else if k = 2 then .inr (9, [.ref (pL E 3), .ref (pL E 5), .ref (pL E 6), .ref (pL E 7), .ref (pL E 8), .ref (pL E 9), .int (α 13 0), .int (α 14 0), .int (α 15 0), .int (α 16 0), .int (α 17 0), .int (α 18 0), .int (α 19 0), .int (α 20 0), .int (α 21 0)])
  else if k = 3 then .inr (6, [.ref (pL E 4), .int (α 10 0)])
  else if k = 4 then .inl (pC E 4, 6, .inr (.inr (.inr (.inr (fun i => some (pL E (16 + i)))))))
  else if k = 5 then .inr (10, [.ref (pL E 50), .ref (pL E 51), .ref (pL E 52), .ref (pL E 53), .ref (pL E 54), .int (α 11 0)])
  else if k = 6 then .inr (3, [.ref (pL E 55), .int (α 12 0)])
  else if k = 7 then .inr (7, [.ref (pL E 56)])
  else if k = 8 then .inl (pC E 0, 4, .inl (α 23))
  else if k = 9 then .inl (pC E 0, 8, .inl (α 24))
  else if k < 16 then .inr (4, [.ref (pL E (22 + (1 + (k - 10)))), .int (α 2 (k - 10)), .int (α 3 (k - 10))])
  else if k < 22 then .inr (5, [.ref (pL E (44 + (k - 16))), .int (α 4 (k - 16)), .int (α 5 (k - 16)), .int (α 6 (k - 16)), .int (α 7 (k - 16)), .int (α 8 (k - 16)), .int (α 9 (k - 16))])
  else if k < 33 then .inr (8, [.ref (pL E (33 + (k - 22))), .int (α 0 (k - 22)), .int (α 1 (k - 22))])
  else if k < 44 then .inl (pC E 0, pcap (k - 33), .inl (α (40 + (k - 33))))
  else if k < 50 then .inl (pC E 0, 48, .inl (α (60 + (k - 44))))
  else if k = 50 then .inl (pC E 0, 40, .inl (α 25))
  else if k = 51 then .inl (pC E 0, 40, .inl (α 26))
  else if k = 52 then .inl (pC E 1, 40, .inl (α 27))
  else if k = 53 then .inl (pC E 0, 40, .inl (α 28))
  else if k = 54 then .inl (pC E 0, 40, .inl (α 29))
  else if k = 55 then .inl (pC E 0, 600, .inl (α 30))
  else .inl (pC E 5, 4, .inr (.inr (.inr (.inr (fun i => some (pL E (22 + (7 + i))))))))
def pml (E : pE) (β : pSt) (k : Nat) : va_E :=
  if k = 57 then .inr (12, [.int (β 0 0), .int (β 1 0), .ref (pL E 58), .ref (pL E 59), .ref (pL E 60), .ref (pL E 61), .ref (pL E 62), .int (β 7 0), .ref (pL E 63), .ref (pL E 64), .ref (pL E 65), .ref (pL E 66), .ref (pL E 67), .ref (pL E 68), .ref (pL E 69), .int (β 15 0), .ref (pL E 70), .ref (pL E 71), .ref (pL E 72), .ref (pL E 73), .ref (pL E 74), .ref (pL E 75), .int (β 22 0), .ref (pL E 76), .ref (pL E 77), .ref (pL E 78), .int (β 26 0), .ref (pL E 79), .int (β 28 0), .int (β 29 0), .int (β 30 0), .int (β 31 0), .int (β 32 0), .int (β 33 0), .int (β 34 0), .ref (pL E 80)])
  else if k = 58 then .inl (pC E 0, 64, .inl (β 2))
  else if k = 59 then .inl (pC E 0, 6, .inl (β 3))
  else if k = 60 then .inl (pC E 0, 384, .inl (β 4))
  else if k = 61 then .inl (pC E 1, 6, .inl (β 5))
  else if k = 62 then .inl (pC E 1, 6, .inl (β 6))
  else if k = 63 then .inl (pC E 0, 6, .inl (β 8))
  else if k = 64 then .inl (pC E 0, 6, .inl (β 9))
  else if k = 65 then .inl (pC E 0, 288, .inl (β 10))
  else if k = 66 then .inl (pC E 0, 6, .inl (β 11))
  else if k = 67 then .inl (pC E 0, 6, .inl (β 12))
  else if k = 68 then .inl (pC E 1, 6, .inl (β 13))
  else if k = 69 then .inl (pC E 0, 6, .inl (β 14))
  else if k = 70 then .inl (pC E 0, 40, .inl (β 16))
  else if k = 71 then .inl (pC E 0, 40, .inl (β 17))
  else if k = 72 then .inl (pC E 1, 40, .inl (β 18))
  else if k = 73 then .inl (pC E 0, 40, .inl (β 19))
  else if k = 74 then .inl (pC E 0, 40, .inl (β 20))
  else if k = 75 then .inl (pC E 0, 4, .inl (β 21))
  else if k = 76 then .inl (pC E 0, 4, .inl (β 23))
  else if k = 77 then .inl (pC E 0, 4, .inl (β 24))
  else if k = 78 then .inl (pC E 0, 400, .inl (β 25))
  else if k = 79 then .inl (pC E 0, 600, .inl (β 27))
  else .inl (pC E 0, 8, .inl (β 35))
def pe (E : pE) (α β : pSt) (k : Nat) : va_E := if k < 57 then pcl E α k else pml E β k
def pw (E : pE) (α β : pSt) : va_W := (List.range 81).map (fun k => (pL E k, pe E α β k))
theorem pw_at {E : pE} {α β : pSt} {k : Nat} (h : k < 81) : (pw E α β)[k]? = some (pL E k, pe E α β k) := by simp [pw, h]
theorem pw_lt {E : pE} {α β : pSt} {k : Nat} {q : Nat × va_E} (h : (pw E α β)[k]? = some q) : k < 81 ∧ q = (pL E k, pe E α β k) := by
  have h1 : k < 81 := by
    rcases Nat.lt_or_ge k 81 with h1 | h1
    · exact h1
    · rw [List.getElem?_eq_none (by simp [pw]; exact h1)] at h; cases h
  rw [pw_at h1] at h
  exact ⟨h1, (Option.some.inj h).symm⟩
theorem pw_is {E : pE} {α β : pSt} {k : Nat} {e : va_E} (h : k < 81) (he : pe E α β k = e) : (pw E α β)[k]? = some (pL E k, e) := by rw [pw_at h, he]
theorem pw_set {E : pE} {α β α' β' : pSt} {k : Nat} {e : va_E} (he : pe E α' β' k = e) (ho : ∀ j, j < 81 → ¬ j = k → pe E α' β' j = pe E α β j) : (pw E α β).set k (pL E k, e) = pw E α' β' := by
  apply List.ext_getElem?
  intro j
  rw [List.getElem?_set]
  rcases Nat.lt_or_ge j 81 with h1 | h1
  · by_cases hjk : k = j
    · subst hjk
      rw [if_pos rfl, if_pos (by simp [pw]; exact h1), pw_at h1, he]
    · rw [if_neg hjk, pw_at h1, pw_at h1, ho j h1 (fun h => hjk h.symm)]
  · have e1 : (pw E α' β')[j]? = none := List.getElem?_eq_none (by simp [pw]; exact h1)
    have e2 : (pw E α β)[j]? = none := List.getElem?_eq_none (by simp [pw]; exact h1)
    by_cases hjk : k = j
    · subst hjk
      rw [if_pos rfl, if_neg (by simp [pw]; omega), e1]
    · rw [if_neg hjk, e2, e1]
theorem pif {a b a' b' : va_E} {c : Prop} [Decidable c] (h1 : c → a = a') (h2 : ¬ c → b = b') : (if c then a else b) = (if c then a' else b') := by
  by_cases h : c
  · rw [if_pos h, if_pos h]; exact h1 h
  · rw [if_neg h, if_neg h]; exact h2 h
/-- the places are apart -/
def pInj (E : pE) : Prop := ∀ i j : Nat, i < 81 → j < 81 → pL E i = pL E j → i = j
/-- what a method may change: the world, and what is new -/
def pA (E : pE) (sz : Nat) : Nat → Prop := fun q => (∃ k, k < 81 ∧ q = pL E k) ∨ sz ≤ q
theorem pw_D {E : pE} {α β : pSt} {sz : Nat} (h : pInj E) : va_D (pA E sz) (pw E α β) := by
  refine ⟨fun i j p q hi hj hpq => ?_, fun k q hk => ?_⟩
  · obtain ⟨h1, rfl⟩ := pw_lt hi
    obtain ⟨h2, rfl⟩ := pw_lt hj
    exact h i j h1 h2 hpq
  · obtain ⟨h1, rfl⟩ := pw_lt hk
    exact Or.inl ⟨k, h1, rfl⟩
/-- the tables' words that a call keeps -/
def pTab (U : State) : Prop := (∀ w ∈ lw_tbl, goodWord w = true → ∀ a : Array Value, w.before a U = true) ∧ (∀ a i b n d h, Cond.fieldLinkNest a i b n d h ∈ lw_tbl → va_Nw (.fieldLinkNest a i b n d h) U) ∧ (∀ a i x h, Cond.methodLinkNest a i x h ∈ lw_tbl → va_Nw (.methodLinkNest a i x h) U)
theorem pTab.warm {s U : State} (hW : s.WarmedH U.vm) (h : pTab s) : pTab U :=
  ⟨fun w hw hg a => word_at hW (good_of_word hg) (h.1 w hw hg #[]), fun a i b n d h' hm => va_Nw.warmF hW (h.2.1 a i b n d h' hm), fun a i x h' hm => va_Nw.warmM hW (h.2.2 a i x h' hm)⟩
theorem pTab.calling {U : State} {g : JFrame} {mk : MethodId} {a : Array Value} (h : pTab U) : pTab (U.calling g mk a) :=
  ⟨fun w hw hg a' => word_at (U := U.calling g mk a) (State.WarmedH.refl U) (good_of_word hg) (h.1 w hw hg #[]), fun a1 i b n d h' hm => va_Nw.same rfl rfl (h.2.1 a1 i b n d h' hm), fun a1 i x h' hm => va_Nw.same rfl rfl (h.2.2 a1 i x h' hm)⟩
/-- a contract: from the state (α, β) the method returns v with the state (α', β') -/
def pM (l : Launch) (E : pE) (y : MethodName) (cc : ByteArray) (maxL : Nat) (ret : Option FieldType) (d : Nat) (av : List Value) (α β : pSt) (v : Option Value) (α' β' : pSt) : Prop :=
  ∀ sz : Nat, Met l y [.code y cc maxL ret] ({ frames := d, cells := 0, slots := 0, locals := 40 * d }) (va_Pc av (fun U => pTab U ∧ U.heap.size = sz ∧ va_P (pD E) vwCl (pw E α β) U.heap ∧ va_K (pD E) vwCl (pT E) U)) (fun _ st oc t => oc = .returned v ∧ va_P (pD E) vwCl (pw E α' β') t.heap ∧ va_F (pA E sz) st t) 0 0 (pA E sz)
/-- what holds all through a body -/
def pCx (p : Program) (s : State) (m : MethodId) (c : Code) (cc : ByteArray) (nL : Nat) (E : pE) (own : String) : Prop :=
  p.tables.exec = Jvm.exec ∧ c.code = cc ∧ c.maxLocals = nL ∧ s.vm.findClass own = some m.cls ∧ pTab s ∧ va_K (pD E) vwCl (pT E) s ∧ pInj E
theorem pM.ofW {l : Launch} {E : pE} {y : MethodName} {cc : ByteArray} {maxL : Nat} {ret : Option FieldType} {d : Nat} {av : List Value} {α β α' β' : pSt} {v : Option Value} (hE : pInj E) (hy : plainName y.cls = true)
    (body : ∀ (p : Program) (e : Env) (s : State) (m : MethodId) (below : List Frame) (meth : Method) (c : Code) (ls : Array Slot), pCx p s m c cc maxL E y.cls → meth.sig.returnType = ret → meth.locks = false → va_P (pD E) vwCl (pw E α β) s.heap → lv_has ls maxL (lv_args 0 av) →
      W p l e ({ frames := d, cells := 0, slots := 0, locals := 40 * d } : Room) s m av.toArray below meth c s.heap [] 0 0 (MQ below (fun _ st oc t => oc = .returned v ∧ va_P (pD E) vwCl (pw E α' β') t.heap ∧ va_F (pA E s.heap.size) st t) av.toArray s 0 0 (pA E s.heap.size)) (F0 m 0 ls []))
    (hlen : (lg_sl av).length ≤ maxL) : pM l E y cc maxL ret d av α β v α' β' := by
  intro sz
  refine Met.ofW (cc := cc) (maxL := maxL) (ret := ret) hy rfl ?_
  intro p e s m args below meth c s₁ B hml hv
  obtain ⟨rfl, hT, rfl, hP, hK⟩ := hv
  have hl := lv_entry av (n := maxL) hlen
  rw [lg_entry_eq]
  exact body p e s m below meth c _ ⟨B.exec, B.bytes, hml, findClass_of_methodNamed B.named, hT, hK, hE⟩ B.returns B.notSynchronized hP hl
