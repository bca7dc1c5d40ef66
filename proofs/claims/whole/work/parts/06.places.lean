/-! what each place of the world holds; a write; a row for each kind of access -/
def pin (i : Int32) (n : Nat) : Bool := decide (0 ≤ i) && decide (i.toNatClampNeg < n)
theorem pin_ok {i : Int32} {n : Nat} (h : pin i n = true) : vp_in i n := by
  simp only [pin, Bool.and_eq_true, decide_eq_true_eq] at h
  rintro (h1 | h1)
  · have h2 := h.1
    rw [Int32.le_iff_toInt_le] at h2
    rw [Int32.lt_iff_toInt_lt] at h1
    omega
  · omega
theorem pin_lt {i : Int32} {n : Nat} (h : pin i n = true) : i.toNatClampNeg < n := by
  simp only [pin, Bool.and_eq_true, decide_eq_true_eq] at h
  exact h.2
/-- a guard: what the machine would not do is none -/
def pg {τ : Type} (b : Bool) (x : Option τ) : Option τ := if b = true then x else none
theorem pg_ok {τ : Type} {b : Bool} {x : Option τ} {y : τ} (h : pg b x = some y) : b = true ∧ x = some y := by
  unfold pg at h
  by_cases hb : b = true
  · rw [if_pos hb] at h; exact ⟨hb, h⟩
  · rw [if_neg hb] at h; cases h
theorem pb_ok {σ τ : Type} {x : Option σ} {f : σ → Option τ} {y : τ} (h : x.bind f = some y) : ∃ z, x = some z ∧ f z = some y := by
  cases x with
  | none => cases h
  | some z => exact ⟨z, rfl, h⟩
theorem pif_t {τ : Type} {c : Prop} [Decidable c] {a b : Option τ} {y : τ} (h : (if c then a else b) = some y) (hc : c) : a = some y := by rw [if_pos hc] at h; exact h
theorem pif_f {τ : Type} {c : Prop} [Decidable c] {a b : Option τ} {y : τ} (h : (if c then a else b) = some y) (hc : ¬ c) : b = some y := by rw [if_neg hc] at h; exact h
def pO {τ : Type} (r : Option Nat) (a : τ) (b : Nat → τ) : τ := match r with
  | none => a
  | some i => b i
/-- 0 or 1 -/
def pbl (x : Int32) : Bool := decide (x = 0) || decide (x = 1)
theorem pbl_ok {x : Int32} (h : pbl x = true) : x = 0 ∨ x = 1 := by
  simp only [pbl, Bool.or_eq_true, decide_eq_true_eq] at h
  exact h
theorem pz_n {x : Int32} (h : x = 0 ∨ x = 1) : narrow .boolean (.int x) = .int x := by rcases h with rfl | rfl <;> decide
theorem pz_f {x : Int32} (h : x = 0 ∨ x = 1) : fits .boolean (.int x) = true := by rcases h with rfl | rfl <;> decide
theorem pz_v {x : Int32} (h : x = 0 ∨ x = 1) : vp_nar .boolean x = x := by rcases h with rfl | rfl <;> decide

theorem e_X9 {E : pE} {α β : pSt} : (pw E α β)[0]? = some (pL E 0, .inr (11, [.ref (pL E (22 + 0)), .ref (pL E 1), .ref (pL E 2), .ref (pL E 8), .ref (pL E 3), .ref (pL E 5), .ref (pL E 6), .ref (pL E 7), .int (α 22 0)])) := pw_is (by decide) rfl
theorem e_X7 {E : pE} {α β : pSt} : (pw E α β)[2]? = some (pL E 2, .inr (9, [.ref (pL E 3), .ref (pL E 5), .ref (pL E 6), .ref (pL E 7), .ref (pL E 8), .ref (pL E 9), .int (α 13 0), .int (α 14 0), .int (α 15 0), .int (α 16 0), .int (α 17 0), .int (α 18 0), .int (α 19 0), .int (α 20 0), .int (α 21 0)])) := pw_is (by decide) rfl
theorem e_X4 {E : pE} {α β : pSt} : (pw E α β)[3]? = some (pL E 3, .inr (6, [.ref (pL E 4), .int (α 10 0)])) := pw_is (by decide) rfl
theorem e_X8 {E : pE} {α β : pSt} : (pw E α β)[5]? = some (pL E 5, .inr (10, [.ref (pL E 50), .ref (pL E 51), .ref (pL E 52), .ref (pL E 53), .ref (pL E 54), .int (α 11 0)])) := pw_is (by decide) rfl
theorem e_X1 {E : pE} {α β : pSt} : (pw E α β)[6]? = some (pL E 6, .inr (3, [.ref (pL E 55), .int (α 12 0)])) := pw_is (by decide) rfl
theorem e_X5 {E : pE} {α β : pSt} : (pw E α β)[7]? = some (pL E 7, .inr (7, [.ref (pL E 56)])) := pw_is (by decide) rfl
theorem e_X2 {E : pE} {α β : pSt} {k : Nat} (hk : k < 6) : (pw E α β)[(10 + k)]? = some (pL E (10 + k), .inr (4, [.ref (pL E (22 + (1 + k))), .int (α 2 k), .int (α 3 k)])) := pw_is (by omega) (by simp (disch := omega) only [pe, pcl, pml, if_pos, if_neg, Nat.add_sub_cancel_left])
theorem e_X3 {E : pE} {α β : pSt} {k : Nat} (hk : k < 6) : (pw E α β)[(16 + k)]? = some (pL E (16 + k), .inr (5, [.ref (pL E (44 + k)), .int (α 4 k), .int (α 5 k), .int (α 6 k), .int (α 7 k), .int (α 8 k), .int (α 9 k)])) := pw_is (by omega) (by simp (disch := omega) only [pe, pcl, pml, if_pos, if_neg, Nat.add_sub_cancel_left])
theorem e_X6 {E : pE} {α β : pSt} {k : Nat} (hk : k < 11) : (pw E α β)[(22 + k)]? = some (pL E (22 + k), .inr (8, [.ref (pL E (33 + k)), .int (α 0 k), .int (α 1 k)])) := pw_is (by omega) (by simp (disch := omega) only [pe, pcl, pml, if_pos, if_neg, Nat.add_sub_cancel_left])
theorem e_X10 {E : pE} {α β : pSt} : (pw E α β)[57]? = some (pL E 57, .inr (12, [.int (β 0 0), .int (β 1 0), .ref (pL E 58), .ref (pL E 59), .ref (pL E 60), .ref (pL E 61), .ref (pL E 62), .int (β 7 0), .ref (pL E 63), .ref (pL E 64), .ref (pL E 65), .ref (pL E 66), .ref (pL E 67), .ref (pL E 68), .ref (pL E 69), .int (β 15 0), .ref (pL E 70), .ref (pL E 71), .ref (pL E 72), .ref (pL E 73), .ref (pL E 74), .ref (pL E 75), .int (β 22 0), .ref (pL E 76), .ref (pL E 77), .ref (pL E 78), .int (β 26 0), .ref (pL E 79), .int (β 28 0), .int (β 29 0), .int (β 30 0), .int (β 31 0), .int (β 32 0), .int (β 33 0), .int (β 34 0), .ref (pL E 80)])) := pw_is (by decide) rfl
theorem e_files {E : pE} {α β : pSt} : (pw E α β)[1]? = some (pL E 1, .inl (pC E 3, 6, .inr (.inr (.inr (.inr (fun i => some (pL E (10 + i)))))))) := pw_is (by decide) rfl
theorem e_all {E : pE} {α β : pSt} : (pw E α β)[4]? = some (pL E 4, .inl (pC E 4, 6, .inr (.inr (.inr (.inr (fun i => some (pL E (16 + i)))))))) := pw_is (by decide) rfl
theorem e_rows {E : pE} {α β : pSt} : (pw E α β)[56]? = some (pL E 56, .inl (pC E 5, 4, .inr (.inr (.inr (.inr (fun i => some (pL E (22 + (7 + i))))))))) := pw_is (by decide) rfl
theorem e_options {E : pE} {α β : pSt} : (pw E α β)[8]? = some (pL E 8, .inl (pC E 0, 4, .inl (α 23))) := pw_is (by decide) rfl
theorem e_claimants {E : pE} {α β : pSt} : (pw E α β)[9]? = some (pL E 9, .inl (pC E 0, 8, .inl (α 24))) := pw_is (by decide) rfl
theorem e_names {E : pE} {α β : pSt} : (pw E α β)[50]? = some (pL E 50, .inl (pC E 0, 40, .inl (α 25))) := pw_is (by decide) rfl
theorem e_markSets {E : pE} {α β : pSt} : (pw E α β)[51]? = some (pL E 51, .inl (pC E 0, 40, .inl (α 26))) := pw_is (by decide) rfl
theorem e_fresh {E : pE} {α β : pSt} : (pw E α β)[52]? = some (pL E 52, .inl (pC E 1, 40, .inl (α 27))) := pw_is (by decide) rfl
theorem e_makers {E : pE} {α β : pSt} : (pw E α β)[53]? = some (pL E 53, .inl (pC E 0, 40, .inl (α 28))) := pw_is (by decide) rfl
theorem e_madeIn {E : pE} {α β : pSt} : (pw E α β)[54]? = some (pL E 54, .inl (pC E 0, 40, .inl (α 29))) := pw_is (by decide) rfl
theorem e_mparts {E : pE} {α β : pSt} : (pw E α β)[55]? = some (pL E 55, .inl (pC E 0, 600, .inl (α 30))) := pw_is (by decide) rfl
theorem e_bytes {E : pE} {α β : pSt} {k : Nat} (hk : k < 11) : (pw E α β)[(33 + k)]? = some (pL E (33 + k), .inl (pC E 0, pcap k, .inl (α (40 + k)))) := pw_is (by omega) (by simp (disch := omega) only [pe, pcl, pml, if_pos, if_neg, Nat.add_sub_cancel_left])
theorem e_parts {E : pE} {α β : pSt} {k : Nat} (hk : k < 6) : (pw E α β)[(44 + k)]? = some (pL E (44 + k), .inl (pC E 0, 48, .inl (α (60 + k)))) := pw_is (by omega) (by simp (disch := omega) only [pe, pcl, pml, if_pos, if_neg, Nat.add_sub_cancel_left])
theorem e_m_tape {E : pE} {α β : pSt} : (pw E α β)[58]? = some (pL E 58, .inl (pC E 0, 64, .inl (β 2))) := pw_is (by decide) rfl
theorem e_m_size {E : pE} {α β : pSt} : (pw E α β)[59]? = some (pL E 59, .inl (pC E 0, 6, .inl (β 3))) := pw_is (by decide) rfl
theorem e_m_file {E : pE} {α β : pSt} : (pw E α β)[60]? = some (pL E 60, .inl (pC E 0, 384, .inl (β 4))) := pw_is (by decide) rfl
theorem e_m_fails {E : pE} {α β : pSt} : (pw E α β)[61]? = some (pL E 61, .inl (pC E 1, 6, .inl (β 5))) := pw_is (by decide) rfl
theorem e_m_failed {E : pE} {α β : pSt} : (pw E α β)[62]? = some (pL E 62, .inl (pC E 1, 6, .inl (β 6))) := pw_is (by decide) rfl
theorem e_m_fileOf {E : pE} {α β : pSt} : (pw E α β)[63]? = some (pL E 63, .inl (pC E 0, 6, .inl (β 8))) := pw_is (by decide) rfl
theorem e_m_rules {E : pE} {α β : pSt} : (pw E α β)[64]? = some (pL E 64, .inl (pC E 0, 6, .inl (β 9))) := pw_is (by decide) rfl
theorem e_m_rule {E : pE} {α β : pSt} : (pw E α β)[65]? = some (pL E 65, .inl (pC E 0, 288, .inl (β 10))) := pw_is (by decide) rfl
theorem e_m_cells {E : pE} {α β : pSt} : (pw E α β)[66]? = some (pL E 66, .inl (pC E 0, 6, .inl (β 11))) := pw_is (by decide) rfl
theorem e_m_cellWas {E : pE} {α β : pSt} : (pw E α β)[67]? = some (pL E 67, .inl (pC E 0, 6, .inl (β 12))) := pw_is (by decide) rfl
theorem e_m_stopped {E : pE} {α β : pSt} : (pw E α β)[68]? = some (pL E 68, .inl (pC E 1, 6, .inl (β 13))) := pw_is (by decide) rfl
theorem e_m_took {E : pE} {α β : pSt} : (pw E α β)[69]? = some (pL E 69, .inl (pC E 0, 6, .inl (β 14))) := pw_is (by decide) rfl
theorem e_m_name {E : pE} {α β : pSt} : (pw E α β)[70]? = some (pL E 70, .inl (pC E 0, 40, .inl (β 16))) := pw_is (by decide) rfl
theorem e_m_marks {E : pE} {α β : pSt} : (pw E α β)[71]? = some (pL E 71, .inl (pC E 0, 40, .inl (β 17))) := pw_is (by decide) rfl
theorem e_m_isNew {E : pE} {α β : pSt} : (pw E α β)[72]? = some (pL E 72, .inl (pC E 1, 40, .inl (β 18))) := pw_is (by decide) rfl
theorem e_m_maker {E : pE} {α β : pSt} : (pw E α β)[73]? = some (pL E 73, .inl (pC E 0, 40, .inl (β 19))) := pw_is (by decide) rfl
theorem e_m_madeIn {E : pE} {α β : pSt} : (pw E α β)[74]? = some (pL E 74, .inl (pC E 0, 40, .inl (β 20))) := pw_is (by decide) rfl
theorem e_m_options {E : pE} {α β : pSt} : (pw E α β)[75]? = some (pL E 75, .inl (pC E 0, 4, .inl (β 21))) := pw_is (by decide) rfl
theorem e_m_written {E : pE} {α β : pSt} : (pw E α β)[76]? = some (pL E 76, .inl (pC E 0, 4, .inl (β 23))) := pw_is (by decide) rfl
theorem e_m_writtenWas {E : pE} {α β : pSt} : (pw E α β)[77]? = some (pL E 77, .inl (pC E 0, 4, .inl (β 24))) := pw_is (by decide) rfl
theorem e_m_resource {E : pE} {α β : pSt} : (pw E α β)[78]? = some (pL E 78, .inl (pC E 0, 400, .inl (β 25))) := pw_is (by decide) rfl
theorem e_m_message {E : pE} {α β : pSt} : (pw E α β)[79]? = some (pL E 79, .inl (pC E 0, 600, .inl (β 27))) := pw_is (by decide) rfl
theorem e_m_claimer {E : pE} {α β : pSt} : (pw E α β)[80]? = some (pL E 80, .inl (pC E 0, 8, .inl (β 35))) := pw_is (by decide) rfl
theorem t_X9_passes {E : pE} {α β : pSt} (v : Int32) : (pw E α β).set 0 (pL E 0, .inr (11, [.ref (pL E (22 + 0)), .ref (pL E 1), .ref (pL E 2), .ref (pL E 8), .ref (pL E 3), .ref (pL E 5), .ref (pL E 6), .ref (pL E 7), .int v])) = pw E (up2 α 22 0 v) β := by
  refine pw_set ?_ (fun j hj hne => ?_)
  · first | rfl | (simp (disch := omega) only [pe, pcl, pml, if_pos, if_neg, Nat.add_sub_cancel_left, up2_vv, up2_v, up2_vn, up2_ne])
  · unfold pe; refine pif (fun h1 => ?_) (fun _ => rfl); unfold pcl; repeat' refine pif (fun _ => ?_) (fun _ => ?_)
    all_goals first | rfl | (exfalso; omega) | (simp (disch := omega) only [up2_ne, up2_vn])
theorem t_X7_passes {E : pE} {α β : pSt} (v : Int32) : (pw E α β).set 2 (pL E 2, .inr (9, [.ref (pL E 3), .ref (pL E 5), .ref (pL E 6), .ref (pL E 7), .ref (pL E 8), .ref (pL E 9), .int v, .int (α 14 0), .int (α 15 0), .int (α 16 0), .int (α 17 0), .int (α 18 0), .int (α 19 0), .int (α 20 0), .int (α 21 0)])) = pw E (up2 α 13 0 v) β := by
  refine pw_set ?_ (fun j hj hne => ?_)
  · first | rfl | (simp (disch := omega) only [pe, pcl, pml, if_pos, if_neg, Nat.add_sub_cancel_left, up2_vv, up2_v, up2_vn, up2_ne])
  · unfold pe; refine pif (fun h1 => ?_) (fun _ => rfl); unfold pcl; repeat' refine pif (fun _ => ?_) (fun _ => ?_)
    all_goals first | rfl | (exfalso; omega) | (simp (disch := omega) only [up2_ne, up2_vn])
theorem t_X7_limit {E : pE} {α β : pSt} (v : Int32) : (pw E α β).set 2 (pL E 2, .inr (9, [.ref (pL E 3), .ref (pL E 5), .ref (pL E 6), .ref (pL E 7), .ref (pL E 8), .ref (pL E 9), .int (α 13 0), .int v, .int (α 15 0), .int (α 16 0), .int (α 17 0), .int (α 18 0), .int (α 19 0), .int (α 20 0), .int (α 21 0)])) = pw E (up2 α 14 0 v) β := by
  refine pw_set ?_ (fun j hj hne => ?_)
  · first | rfl | (simp (disch := omega) only [pe, pcl, pml, if_pos, if_neg, Nat.add_sub_cancel_left, up2_vv, up2_v, up2_vn, up2_ne])
  · unfold pe; refine pif (fun h1 => ?_) (fun _ => rfl); unfold pcl; repeat' refine pif (fun _ => ?_) (fun _ => ?_)
    all_goals first | rfl | (exfalso; omega) | (simp (disch := omega) only [up2_ne, up2_vn])
theorem t_X7_state {E : pE} {α β : pSt} (v : Int32) : (pw E α β).set 2 (pL E 2, .inr (9, [.ref (pL E 3), .ref (pL E 5), .ref (pL E 6), .ref (pL E 7), .ref (pL E 8), .ref (pL E 9), .int (α 13 0), .int (α 14 0), .int v, .int (α 16 0), .int (α 17 0), .int (α 18 0), .int (α 19 0), .int (α 20 0), .int (α 21 0)])) = pw E (up2 α 15 0 v) β := by
  refine pw_set ?_ (fun j hj hne => ?_)
  · first | rfl | (simp (disch := omega) only [pe, pcl, pml, if_pos, if_neg, Nat.add_sub_cancel_left, up2_vv, up2_v, up2_vn, up2_ne])
  · unfold pe; refine pif (fun h1 => ?_) (fun _ => rfl); unfold pcl; repeat' refine pif (fun _ => ?_) (fun _ => ?_)
    all_goals first | rfl | (exfalso; omega) | (simp (disch := omega) only [up2_ne, up2_vn])
theorem t_X7_steps {E : pE} {α β : pSt} (v : Int32) : (pw E α β).set 2 (pL E 2, .inr (9, [.ref (pL E 3), .ref (pL E 5), .ref (pL E 6), .ref (pL E 7), .ref (pL E 8), .ref (pL E 9), .int (α 13 0), .int (α 14 0), .int (α 15 0), .int v, .int (α 17 0), .int (α 18 0), .int (α 19 0), .int (α 20 0), .int (α 21 0)])) = pw E (up2 α 16 0 v) β := by
  refine pw_set ?_ (fun j hj hne => ?_)
  · first | rfl | (simp (disch := omega) only [pe, pcl, pml, if_pos, if_neg, Nat.add_sub_cancel_left, up2_vv, up2_v, up2_vn, up2_ne])
  · unfold pe; refine pif (fun h1 => ?_) (fun _ => rfl); unfold pcl; repeat' refine pif (fun _ => ?_) (fun _ => ?_)
    all_goals first | rfl | (exfalso; omega) | (simp (disch := omega) only [up2_ne, up2_vn])
theorem t_X7_rounds {E : pE} {α β : pSt} (v : Int32) : (pw E α β).set 2 (pL E 2, .inr (9, [.ref (pL E 3), .ref (pL E 5), .ref (pL E 6), .ref (pL E 7), .ref (pL E 8), .ref (pL E 9), .int (α 13 0), .int (α 14 0), .int (α 15 0), .int (α 16 0), .int v, .int (α 18 0), .int (α 19 0), .int (α 20 0), .int (α 21 0)])) = pw E (up2 α 17 0 v) β := by
  refine pw_set ?_ (fun j hj hne => ?_)
  · first | rfl | (simp (disch := omega) only [pe, pcl, pml, if_pos, if_neg, Nat.add_sub_cancel_left, up2_vv, up2_v, up2_vn, up2_ne])
  · unfold pe; refine pif (fun h1 => ?_) (fun _ => rfl); unfold pcl; repeat' refine pif (fun _ => ?_) (fun _ => ?_)
    all_goals first | rfl | (exfalso; omega) | (simp (disch := omega) only [up2_ne, up2_vn])
theorem t_X7_made {E : pE} {α β : pSt} (v : Int32) : (pw E α β).set 2 (pL E 2, .inr (9, [.ref (pL E 3), .ref (pL E 5), .ref (pL E 6), .ref (pL E 7), .ref (pL E 8), .ref (pL E 9), .int (α 13 0), .int (α 14 0), .int (α 15 0), .int (α 16 0), .int (α 17 0), .int v, .int (α 19 0), .int (α 20 0), .int (α 21 0)])) = pw E (up2 α 18 0 v) β := by
  refine pw_set ?_ (fun j hj hne => ?_)
  · first | rfl | (simp (disch := omega) only [pe, pcl, pml, if_pos, if_neg, Nat.add_sub_cancel_left, up2_vv, up2_v, up2_vn, up2_ne])
  · unfold pe; refine pif (fun h1 => ?_) (fun _ => rfl); unfold pcl; repeat' refine pif (fun _ => ?_) (fun _ => ?_)
    all_goals first | rfl | (exfalso; omega) | (simp (disch := omega) only [up2_ne, up2_vn])
theorem t_X7_doer {E : pE} {α β : pSt} (v : Int32) : (pw E α β).set 2 (pL E 2, .inr (9, [.ref (pL E 3), .ref (pL E 5), .ref (pL E 6), .ref (pL E 7), .ref (pL E 8), .ref (pL E 9), .int (α 13 0), .int (α 14 0), .int (α 15 0), .int (α 16 0), .int (α 17 0), .int (α 18 0), .int v, .int (α 20 0), .int (α 21 0)])) = pw E (up2 α 19 0 v) β := by
  refine pw_set ?_ (fun j hj hne => ?_)
  · first | rfl | (simp (disch := omega) only [pe, pcl, pml, if_pos, if_neg, Nat.add_sub_cancel_left, up2_vv, up2_v, up2_vn, up2_ne])
  · unfold pe; refine pif (fun h1 => ?_) (fun _ => rfl); unfold pcl; repeat' refine pif (fun _ => ?_) (fun _ => ?_)
    all_goals first | rfl | (exfalso; omega) | (simp (disch := omega) only [up2_ne, up2_vn])
theorem t_X7_met {E : pE} {α β : pSt} (v : Int32) : (pw E α β).set 2 (pL E 2, .inr (9, [.ref (pL E 3), .ref (pL E 5), .ref (pL E 6), .ref (pL E 7), .ref (pL E 8), .ref (pL E 9), .int (α 13 0), .int (α 14 0), .int (α 15 0), .int (α 16 0), .int (α 17 0), .int (α 18 0), .int (α 19 0), .int v, .int (α 21 0)])) = pw E (up2 α 20 0 v) β := by
  refine pw_set ?_ (fun j hj hne => ?_)
  · first | rfl | (simp (disch := omega) only [pe, pcl, pml, if_pos, if_neg, Nat.add_sub_cancel_left, up2_vv, up2_v, up2_vn, up2_ne])
  · unfold pe; refine pif (fun h1 => ?_) (fun _ => rfl); unfold pcl; repeat' refine pif (fun _ => ?_) (fun _ => ?_)
    all_goals first | rfl | (exfalso; omega) | (simp (disch := omega) only [up2_ne, up2_vn])
theorem t_X7_round {E : pE} {α β : pSt} (v : Int32) : (pw E α β).set 2 (pL E 2, .inr (9, [.ref (pL E 3), .ref (pL E 5), .ref (pL E 6), .ref (pL E 7), .ref (pL E 8), .ref (pL E 9), .int (α 13 0), .int (α 14 0), .int (α 15 0), .int (α 16 0), .int (α 17 0), .int (α 18 0), .int (α 19 0), .int (α 20 0), .int v])) = pw E (up2 α 21 0 v) β := by
  refine pw_set ?_ (fun j hj hne => ?_)
  · first | rfl | (simp (disch := omega) only [pe, pcl, pml, if_pos, if_neg, Nat.add_sub_cancel_left, up2_vv, up2_v, up2_vn, up2_ne])
  · unfold pe; refine pif (fun h1 => ?_) (fun _ => rfl); unfold pcl; repeat' refine pif (fun _ => ?_) (fun _ => ?_)
    all_goals first | rfl | (exfalso; omega) | (simp (disch := omega) only [up2_ne, up2_vn])
theorem t_X4_count {E : pE} {α β : pSt} (v : Int32) : (pw E α β).set 3 (pL E 3, .inr (6, [.ref (pL E 4), .int v])) = pw E (up2 α 10 0 v) β := by
  refine pw_set ?_ (fun j hj hne => ?_)
  · first | rfl | (simp (disch := omega) only [pe, pcl, pml, if_pos, if_neg, Nat.add_sub_cancel_left, up2_vv, up2_v, up2_vn, up2_ne])
  · unfold pe; refine pif (fun h1 => ?_) (fun _ => rfl); unfold pcl; repeat' refine pif (fun _ => ?_) (fun _ => ?_)
    all_goals first | rfl | (exfalso; omega) | (simp (disch := omega) only [up2_ne, up2_vn])
theorem t_X8_count {E : pE} {α β : pSt} (v : Int32) : (pw E α β).set 5 (pL E 5, .inr (10, [.ref (pL E 50), .ref (pL E 51), .ref (pL E 52), .ref (pL E 53), .ref (pL E 54), .int v])) = pw E (up2 α 11 0 v) β := by
  refine pw_set ?_ (fun j hj hne => ?_)
  · first | rfl | (simp (disch := omega) only [pe, pcl, pml, if_pos, if_neg, Nat.add_sub_cancel_left, up2_vv, up2_v, up2_vn, up2_ne])
  · unfold pe; refine pif (fun h1 => ?_) (fun _ => rfl); unfold pcl; repeat' refine pif (fun _ => ?_) (fun _ => ?_)
    all_goals first | rfl | (exfalso; omega) | (simp (disch := omega) only [up2_ne, up2_vn])
theorem t_X1_count {E : pE} {α β : pSt} (v : Int32) : (pw E α β).set 6 (pL E 6, .inr (3, [.ref (pL E 55), .int v])) = pw E (up2 α 12 0 v) β := by
  refine pw_set ?_ (fun j hj hne => ?_)
  · first | rfl | (simp (disch := omega) only [pe, pcl, pml, if_pos, if_neg, Nat.add_sub_cancel_left, up2_vv, up2_v, up2_vn, up2_ne])
  · unfold pe; refine pif (fun h1 => ?_) (fun _ => rfl); unfold pcl; repeat' refine pif (fun _ => ?_) (fun _ => ?_)
    all_goals first | rfl | (exfalso; omega) | (simp (disch := omega) only [up2_ne, up2_vn])
theorem t_X2_startFails {E : pE} {α β : pSt} {k : Nat} (hk : k < 6) (v : Int32) : (pw E α β).set (10 + k) (pL E (10 + k), .inr (4, [.ref (pL E (22 + (1 + k))), .int v, .int (α 3 k)])) = pw E (up2 α 2 k v) β := by
  refine pw_set ?_ (fun j hj hne => ?_)
  · first | rfl | (simp (disch := omega) only [pe, pcl, pml, if_pos, if_neg, Nat.add_sub_cancel_left, up2_vv, up2_v, up2_vn, up2_ne])
  · unfold pe; refine pif (fun h1 => ?_) (fun _ => rfl); unfold pcl; repeat' refine pif (fun _ => ?_) (fun _ => ?_)
    all_goals first | rfl | (exfalso; omega) | (simp (disch := omega) only [up2_ne, up2_vn])
theorem t_X2_hasFailed {E : pE} {α β : pSt} {k : Nat} (hk : k < 6) (v : Int32) : (pw E α β).set (10 + k) (pL E (10 + k), .inr (4, [.ref (pL E (22 + (1 + k))), .int (α 2 k), .int v])) = pw E (up2 α 3 k v) β := by
  refine pw_set ?_ (fun j hj hne => ?_)
  · first | rfl | (simp (disch := omega) only [pe, pcl, pml, if_pos, if_neg, Nat.add_sub_cancel_left, up2_vv, up2_v, up2_vn, up2_ne])
  · unfold pe; refine pif (fun h1 => ?_) (fun _ => rfl); unfold pcl; repeat' refine pif (fun _ => ?_) (fun _ => ?_)
    all_goals first | rfl | (exfalso; omega) | (simp (disch := omega) only [up2_ne, up2_vn])
theorem t_X3_file {E : pE} {α β : pSt} {k : Nat} (hk : k < 6) (v : Int32) : (pw E α β).set (16 + k) (pL E (16 + k), .inr (5, [.ref (pL E (44 + k)), .int v, .int (α 5 k), .int (α 6 k), .int (α 7 k), .int (α 8 k), .int (α 9 k)])) = pw E (up2 α 4 k v) β := by
  refine pw_set ?_ (fun j hj hne => ?_)
  · first | rfl | (simp (disch := omega) only [pe, pcl, pml, if_pos, if_neg, Nat.add_sub_cancel_left, up2_vv, up2_v, up2_vn, up2_ne])
  · unfold pe; refine pif (fun h1 => ?_) (fun _ => rfl); unfold pcl; repeat' refine pif (fun _ => ?_) (fun _ => ?_)
    all_goals first | rfl | (exfalso; omega) | (simp (disch := omega) only [up2_ne, up2_vn])
theorem t_X3_rules {E : pE} {α β : pSt} {k : Nat} (hk : k < 6) (v : Int32) : (pw E α β).set (16 + k) (pL E (16 + k), .inr (5, [.ref (pL E (44 + k)), .int (α 4 k), .int v, .int (α 6 k), .int (α 7 k), .int (α 8 k), .int (α 9 k)])) = pw E (up2 α 5 k v) β := by
  refine pw_set ?_ (fun j hj hne => ?_)
  · first | rfl | (simp (disch := omega) only [pe, pcl, pml, if_pos, if_neg, Nat.add_sub_cancel_left, up2_vv, up2_v, up2_vn, up2_ne])
  · unfold pe; refine pif (fun h1 => ?_) (fun _ => rfl); unfold pcl; repeat' refine pif (fun _ => ?_) (fun _ => ?_)
    all_goals first | rfl | (exfalso; omega) | (simp (disch := omega) only [up2_ne, up2_vn])
theorem t_X3_value {E : pE} {α β : pSt} {k : Nat} (hk : k < 6) (v : Int32) : (pw E α β).set (16 + k) (pL E (16 + k), .inr (5, [.ref (pL E (44 + k)), .int (α 4 k), .int (α 5 k), .int v, .int (α 7 k), .int (α 8 k), .int (α 9 k)])) = pw E (up2 α 6 k v) β := by
  refine pw_set ?_ (fun j hj hne => ?_)
  · first | rfl | (simp (disch := omega) only [pe, pcl, pml, if_pos, if_neg, Nat.add_sub_cancel_left, up2_vv, up2_v, up2_vn, up2_ne])
  · unfold pe; refine pif (fun h1 => ?_) (fun _ => rfl); unfold pcl; repeat' refine pif (fun _ => ?_) (fun _ => ?_)
    all_goals first | rfl | (exfalso; omega) | (simp (disch := omega) only [up2_ne, up2_vn])
theorem t_X3_keptValue {E : pE} {α β : pSt} {k : Nat} (hk : k < 6) (v : Int32) : (pw E α β).set (16 + k) (pL E (16 + k), .inr (5, [.ref (pL E (44 + k)), .int (α 4 k), .int (α 5 k), .int (α 6 k), .int v, .int (α 8 k), .int (α 9 k)])) = pw E (up2 α 7 k v) β := by
  refine pw_set ?_ (fun j hj hne => ?_)
  · first | rfl | (simp (disch := omega) only [pe, pcl, pml, if_pos, if_neg, Nat.add_sub_cancel_left, up2_vv, up2_v, up2_vn, up2_ne])
  · unfold pe; refine pif (fun h1 => ?_) (fun _ => rfl); unfold pcl; repeat' refine pif (fun _ => ?_) (fun _ => ?_)
    all_goals first | rfl | (exfalso; omega) | (simp (disch := omega) only [up2_ne, up2_vn])
theorem t_X3_stopped {E : pE} {α β : pSt} {k : Nat} (hk : k < 6) (v : Int32) : (pw E α β).set (16 + k) (pL E (16 + k), .inr (5, [.ref (pL E (44 + k)), .int (α 4 k), .int (α 5 k), .int (α 6 k), .int (α 7 k), .int v, .int (α 9 k)])) = pw E (up2 α 8 k v) β := by
  refine pw_set ?_ (fun j hj hne => ?_)
  · first | rfl | (simp (disch := omega) only [pe, pcl, pml, if_pos, if_neg, Nat.add_sub_cancel_left, up2_vv, up2_v, up2_vn, up2_ne])
  · unfold pe; refine pif (fun h1 => ?_) (fun _ => rfl); unfold pcl; repeat' refine pif (fun _ => ?_) (fun _ => ?_)
    all_goals first | rfl | (exfalso; omega) | (simp (disch := omega) only [up2_ne, up2_vn])
theorem t_X3_steps {E : pE} {α β : pSt} {k : Nat} (hk : k < 6) (v : Int32) : (pw E α β).set (16 + k) (pL E (16 + k), .inr (5, [.ref (pL E (44 + k)), .int (α 4 k), .int (α 5 k), .int (α 6 k), .int (α 7 k), .int (α 8 k), .int v])) = pw E (up2 α 9 k v) β := by
  refine pw_set ?_ (fun j hj hne => ?_)
  · first | rfl | (simp (disch := omega) only [pe, pcl, pml, if_pos, if_neg, Nat.add_sub_cancel_left, up2_vv, up2_v, up2_vn, up2_ne])
  · unfold pe; refine pif (fun h1 => ?_) (fun _ => rfl); unfold pcl; repeat' refine pif (fun _ => ?_) (fun _ => ?_)
    all_goals first | rfl | (exfalso; omega) | (simp (disch := omega) only [up2_ne, up2_vn])
theorem t_X6_length {E : pE} {α β : pSt} {k : Nat} (hk : k < 11) (v : Int32) : (pw E α β).set (22 + k) (pL E (22 + k), .inr (8, [.ref (pL E (33 + k)), .int v, .int (α 1 k)])) = pw E (up2 α 0 k v) β := by
  refine pw_set ?_ (fun j hj hne => ?_)
  · first | rfl | (simp (disch := omega) only [pe, pcl, pml, if_pos, if_neg, Nat.add_sub_cancel_left, up2_vv, up2_v, up2_vn, up2_ne])
  · unfold pe; refine pif (fun h1 => ?_) (fun _ => rfl); unfold pcl; repeat' refine pif (fun _ => ?_) (fun _ => ?_)
    all_goals first | rfl | (exfalso; omega) | (simp (disch := omega) only [up2_ne, up2_vn])
theorem t_X6_kept {E : pE} {α β : pSt} {k : Nat} (hk : k < 11) (v : Int32) : (pw E α β).set (22 + k) (pL E (22 + k), .inr (8, [.ref (pL E (33 + k)), .int (α 0 k), .int v])) = pw E (up2 α 1 k v) β := by
  refine pw_set ?_ (fun j hj hne => ?_)
  · first | rfl | (simp (disch := omega) only [pe, pcl, pml, if_pos, if_neg, Nat.add_sub_cancel_left, up2_vv, up2_v, up2_vn, up2_ne])
  · unfold pe; refine pif (fun h1 => ?_) (fun _ => rfl); unfold pcl; repeat' refine pif (fun _ => ?_) (fun _ => ?_)
    all_goals first | rfl | (exfalso; omega) | (simp (disch := omega) only [up2_ne, up2_vn])
theorem t_X10_thrown {E : pE} {α β : pSt} (v : Int32) : (pw E α β).set 57 (pL E 57, .inr (12, [.int v, .int (β 1 0), .ref (pL E 58), .ref (pL E 59), .ref (pL E 60), .ref (pL E 61), .ref (pL E 62), .int (β 7 0), .ref (pL E 63), .ref (pL E 64), .ref (pL E 65), .ref (pL E 66), .ref (pL E 67), .ref (pL E 68), .ref (pL E 69), .int (β 15 0), .ref (pL E 70), .ref (pL E 71), .ref (pL E 72), .ref (pL E 73), .ref (pL E 74), .ref (pL E 75), .int (β 22 0), .ref (pL E 76), .ref (pL E 77), .ref (pL E 78), .int (β 26 0), .ref (pL E 79), .int (β 28 0), .int (β 29 0), .int (β 30 0), .int (β 31 0), .int (β 32 0), .int (β 33 0), .int (β 34 0), .ref (pL E 80)])) = pw E α (up2 β 0 0 v) := by
  refine pw_set ?_ (fun j hj hne => ?_)
  · first | rfl | (simp (disch := omega) only [pe, pcl, pml, if_pos, if_neg, Nat.add_sub_cancel_left, up2_vv, up2_v, up2_vn, up2_ne])
  · unfold pe; refine pif (fun _ => rfl) (fun h1 => ?_); unfold pml; repeat' refine pif (fun _ => ?_) (fun _ => ?_)
    all_goals first | rfl | (exfalso; omega) | (simp (disch := omega) only [up2_ne, up2_vn])
theorem t_X10_taped {E : pE} {α β : pSt} (v : Int32) : (pw E α β).set 57 (pL E 57, .inr (12, [.int (β 0 0), .int v, .ref (pL E 58), .ref (pL E 59), .ref (pL E 60), .ref (pL E 61), .ref (pL E 62), .int (β 7 0), .ref (pL E 63), .ref (pL E 64), .ref (pL E 65), .ref (pL E 66), .ref (pL E 67), .ref (pL E 68), .ref (pL E 69), .int (β 15 0), .ref (pL E 70), .ref (pL E 71), .ref (pL E 72), .ref (pL E 73), .ref (pL E 74), .ref (pL E 75), .int (β 22 0), .ref (pL E 76), .ref (pL E 77), .ref (pL E 78), .int (β 26 0), .ref (pL E 79), .int (β 28 0), .int (β 29 0), .int (β 30 0), .int (β 31 0), .int (β 32 0), .int (β 33 0), .int (β 34 0), .ref (pL E 80)])) = pw E α (up2 β 1 0 v) := by
  refine pw_set ?_ (fun j hj hne => ?_)
  · first | rfl | (simp (disch := omega) only [pe, pcl, pml, if_pos, if_neg, Nat.add_sub_cancel_left, up2_vv, up2_v, up2_vn, up2_ne])
  · unfold pe; refine pif (fun _ => rfl) (fun h1 => ?_); unfold pml; repeat' refine pif (fun _ => ?_) (fun _ => ?_)
    all_goals first | rfl | (exfalso; omega) | (simp (disch := omega) only [up2_ne, up2_vn])
theorem t_X10_processors {E : pE} {α β : pSt} (v : Int32) : (pw E α β).set 57 (pL E 57, .inr (12, [.int (β 0 0), .int (β 1 0), .ref (pL E 58), .ref (pL E 59), .ref (pL E 60), .ref (pL E 61), .ref (pL E 62), .int v, .ref (pL E 63), .ref (pL E 64), .ref (pL E 65), .ref (pL E 66), .ref (pL E 67), .ref (pL E 68), .ref (pL E 69), .int (β 15 0), .ref (pL E 70), .ref (pL E 71), .ref (pL E 72), .ref (pL E 73), .ref (pL E 74), .ref (pL E 75), .int (β 22 0), .ref (pL E 76), .ref (pL E 77), .ref (pL E 78), .int (β 26 0), .ref (pL E 79), .int (β 28 0), .int (β 29 0), .int (β 30 0), .int (β 31 0), .int (β 32 0), .int (β 33 0), .int (β 34 0), .ref (pL E 80)])) = pw E α (up2 β 7 0 v) := by
  refine pw_set ?_ (fun j hj hne => ?_)
  · first | rfl | (simp (disch := omega) only [pe, pcl, pml, if_pos, if_neg, Nat.add_sub_cancel_left, up2_vv, up2_v, up2_vn, up2_ne])
  · unfold pe; refine pif (fun _ => rfl) (fun h1 => ?_); unfold pml; repeat' refine pif (fun _ => ?_) (fun _ => ?_)
    all_goals first | rfl | (exfalso; omega) | (simp (disch := omega) only [up2_ne, up2_vn])
theorem t_X10_units {E : pE} {α β : pSt} (v : Int32) : (pw E α β).set 57 (pL E 57, .inr (12, [.int (β 0 0), .int (β 1 0), .ref (pL E 58), .ref (pL E 59), .ref (pL E 60), .ref (pL E 61), .ref (pL E 62), .int (β 7 0), .ref (pL E 63), .ref (pL E 64), .ref (pL E 65), .ref (pL E 66), .ref (pL E 67), .ref (pL E 68), .ref (pL E 69), .int v, .ref (pL E 70), .ref (pL E 71), .ref (pL E 72), .ref (pL E 73), .ref (pL E 74), .ref (pL E 75), .int (β 22 0), .ref (pL E 76), .ref (pL E 77), .ref (pL E 78), .int (β 26 0), .ref (pL E 79), .int (β 28 0), .int (β 29 0), .int (β 30 0), .int (β 31 0), .int (β 32 0), .int (β 33 0), .int (β 34 0), .ref (pL E 80)])) = pw E α (up2 β 15 0 v) := by
  refine pw_set ?_ (fun j hj hne => ?_)
  · first | rfl | (simp (disch := omega) only [pe, pcl, pml, if_pos, if_neg, Nat.add_sub_cancel_left, up2_vv, up2_v, up2_vn, up2_ne])
  · unfold pe; refine pif (fun _ => rfl) (fun h1 => ?_); unfold pml; repeat' refine pif (fun _ => ?_) (fun _ => ?_)
    all_goals first | rfl | (exfalso; omega) | (simp (disch := omega) only [up2_ne, up2_vn])
theorem t_X10_passes {E : pE} {α β : pSt} (v : Int32) : (pw E α β).set 57 (pL E 57, .inr (12, [.int (β 0 0), .int (β 1 0), .ref (pL E 58), .ref (pL E 59), .ref (pL E 60), .ref (pL E 61), .ref (pL E 62), .int (β 7 0), .ref (pL E 63), .ref (pL E 64), .ref (pL E 65), .ref (pL E 66), .ref (pL E 67), .ref (pL E 68), .ref (pL E 69), .int (β 15 0), .ref (pL E 70), .ref (pL E 71), .ref (pL E 72), .ref (pL E 73), .ref (pL E 74), .ref (pL E 75), .int v, .ref (pL E 76), .ref (pL E 77), .ref (pL E 78), .int (β 26 0), .ref (pL E 79), .int (β 28 0), .int (β 29 0), .int (β 30 0), .int (β 31 0), .int (β 32 0), .int (β 33 0), .int (β 34 0), .ref (pL E 80)])) = pw E α (up2 β 22 0 v) := by
  refine pw_set ?_ (fun j hj hne => ?_)
  · first | rfl | (simp (disch := omega) only [pe, pcl, pml, if_pos, if_neg, Nat.add_sub_cancel_left, up2_vv, up2_v, up2_vn, up2_ne])
  · unfold pe; refine pif (fun _ => rfl) (fun h1 => ?_); unfold pml; repeat' refine pif (fun _ => ?_) (fun _ => ?_)
    all_goals first | rfl | (exfalso; omega) | (simp (disch := omega) only [up2_ne, up2_vn])
theorem t_X10_messages {E : pE} {α β : pSt} (v : Int32) : (pw E α β).set 57 (pL E 57, .inr (12, [.int (β 0 0), .int (β 1 0), .ref (pL E 58), .ref (pL E 59), .ref (pL E 60), .ref (pL E 61), .ref (pL E 62), .int (β 7 0), .ref (pL E 63), .ref (pL E 64), .ref (pL E 65), .ref (pL E 66), .ref (pL E 67), .ref (pL E 68), .ref (pL E 69), .int (β 15 0), .ref (pL E 70), .ref (pL E 71), .ref (pL E 72), .ref (pL E 73), .ref (pL E 74), .ref (pL E 75), .int (β 22 0), .ref (pL E 76), .ref (pL E 77), .ref (pL E 78), .int v, .ref (pL E 79), .int (β 28 0), .int (β 29 0), .int (β 30 0), .int (β 31 0), .int (β 32 0), .int (β 33 0), .int (β 34 0), .ref (pL E 80)])) = pw E α (up2 β 26 0 v) := by
  refine pw_set ?_ (fun j hj hne => ?_)
  · first | rfl | (simp (disch := omega) only [pe, pcl, pml, if_pos, if_neg, Nat.add_sub_cancel_left, up2_vv, up2_v, up2_vn, up2_ne])
  · unfold pe; refine pif (fun _ => rfl) (fun h1 => ?_); unfold pml; repeat' refine pif (fun _ => ?_) (fun _ => ?_)
    all_goals first | rfl | (exfalso; omega) | (simp (disch := omega) only [up2_ne, up2_vn])
theorem t_X10_steps {E : pE} {α β : pSt} (v : Int32) : (pw E α β).set 57 (pL E 57, .inr (12, [.int (β 0 0), .int (β 1 0), .ref (pL E 58), .ref (pL E 59), .ref (pL E 60), .ref (pL E 61), .ref (pL E 62), .int (β 7 0), .ref (pL E 63), .ref (pL E 64), .ref (pL E 65), .ref (pL E 66), .ref (pL E 67), .ref (pL E 68), .ref (pL E 69), .int (β 15 0), .ref (pL E 70), .ref (pL E 71), .ref (pL E 72), .ref (pL E 73), .ref (pL E 74), .ref (pL E 75), .int (β 22 0), .ref (pL E 76), .ref (pL E 77), .ref (pL E 78), .int (β 26 0), .ref (pL E 79), .int v, .int (β 29 0), .int (β 30 0), .int (β 31 0), .int (β 32 0), .int (β 33 0), .int (β 34 0), .ref (pL E 80)])) = pw E α (up2 β 28 0 v) := by
  refine pw_set ?_ (fun j hj hne => ?_)
  · first | rfl | (simp (disch := omega) only [pe, pcl, pml, if_pos, if_neg, Nat.add_sub_cancel_left, up2_vv, up2_v, up2_vn, up2_ne])
  · unfold pe; refine pif (fun _ => rfl) (fun h1 => ?_); unfold pml; repeat' refine pif (fun _ => ?_) (fun _ => ?_)
    all_goals first | rfl | (exfalso; omega) | (simp (disch := omega) only [up2_ne, up2_vn])
theorem t_X10_left {E : pE} {α β : pSt} (v : Int32) : (pw E α β).set 57 (pL E 57, .inr (12, [.int (β 0 0), .int (β 1 0), .ref (pL E 58), .ref (pL E 59), .ref (pL E 60), .ref (pL E 61), .ref (pL E 62), .int (β 7 0), .ref (pL E 63), .ref (pL E 64), .ref (pL E 65), .ref (pL E 66), .ref (pL E 67), .ref (pL E 68), .ref (pL E 69), .int (β 15 0), .ref (pL E 70), .ref (pL E 71), .ref (pL E 72), .ref (pL E 73), .ref (pL E 74), .ref (pL E 75), .int (β 22 0), .ref (pL E 76), .ref (pL E 77), .ref (pL E 78), .int (β 26 0), .ref (pL E 79), .int (β 28 0), .int v, .int (β 30 0), .int (β 31 0), .int (β 32 0), .int (β 33 0), .int (β 34 0), .ref (pL E 80)])) = pw E α (up2 β 29 0 v) := by
  refine pw_set ?_ (fun j hj hne => ?_)
  · first | rfl | (simp (disch := omega) only [pe, pcl, pml, if_pos, if_neg, Nat.add_sub_cancel_left, up2_vv, up2_v, up2_vn, up2_ne])
  · unfold pe; refine pif (fun _ => rfl) (fun h1 => ?_); unfold pml; repeat' refine pif (fun _ => ?_) (fun _ => ?_)
    all_goals first | rfl | (exfalso; omega) | (simp (disch := omega) only [up2_ne, up2_vn])
theorem t_X10_rounds {E : pE} {α β : pSt} (v : Int32) : (pw E α β).set 57 (pL E 57, .inr (12, [.int (β 0 0), .int (β 1 0), .ref (pL E 58), .ref (pL E 59), .ref (pL E 60), .ref (pL E 61), .ref (pL E 62), .int (β 7 0), .ref (pL E 63), .ref (pL E 64), .ref (pL E 65), .ref (pL E 66), .ref (pL E 67), .ref (pL E 68), .ref (pL E 69), .int (β 15 0), .ref (pL E 70), .ref (pL E 71), .ref (pL E 72), .ref (pL E 73), .ref (pL E 74), .ref (pL E 75), .int (β 22 0), .ref (pL E 76), .ref (pL E 77), .ref (pL E 78), .int (β 26 0), .ref (pL E 79), .int (β 28 0), .int (β 29 0), .int v, .int (β 31 0), .int (β 32 0), .int (β 33 0), .int (β 34 0), .ref (pL E 80)])) = pw E α (up2 β 30 0 v) := by
  refine pw_set ?_ (fun j hj hne => ?_)
  · first | rfl | (simp (disch := omega) only [pe, pcl, pml, if_pos, if_neg, Nat.add_sub_cancel_left, up2_vv, up2_v, up2_vn, up2_ne])
  · unfold pe; refine pif (fun _ => rfl) (fun h1 => ?_); unfold pml; repeat' refine pif (fun _ => ?_) (fun _ => ?_)
    all_goals first | rfl | (exfalso; omega) | (simp (disch := omega) only [up2_ne, up2_vn])
theorem t_X10_made {E : pE} {α β : pSt} (v : Int32) : (pw E α β).set 57 (pL E 57, .inr (12, [.int (β 0 0), .int (β 1 0), .ref (pL E 58), .ref (pL E 59), .ref (pL E 60), .ref (pL E 61), .ref (pL E 62), .int (β 7 0), .ref (pL E 63), .ref (pL E 64), .ref (pL E 65), .ref (pL E 66), .ref (pL E 67), .ref (pL E 68), .ref (pL E 69), .int (β 15 0), .ref (pL E 70), .ref (pL E 71), .ref (pL E 72), .ref (pL E 73), .ref (pL E 74), .ref (pL E 75), .int (β 22 0), .ref (pL E 76), .ref (pL E 77), .ref (pL E 78), .int (β 26 0), .ref (pL E 79), .int (β 28 0), .int (β 29 0), .int (β 30 0), .int v, .int (β 32 0), .int (β 33 0), .int (β 34 0), .ref (pL E 80)])) = pw E α (up2 β 31 0 v) := by
  refine pw_set ?_ (fun j hj hne => ?_)
  · first | rfl | (simp (disch := omega) only [pe, pcl, pml, if_pos, if_neg, Nat.add_sub_cancel_left, up2_vv, up2_v, up2_vn, up2_ne])
  · unfold pe; refine pif (fun _ => rfl) (fun h1 => ?_); unfold pml; repeat' refine pif (fun _ => ?_) (fun _ => ?_)
    all_goals first | rfl | (exfalso; omega) | (simp (disch := omega) only [up2_ne, up2_vn])
theorem t_X10_way {E : pE} {α β : pSt} (v : Int32) : (pw E α β).set 57 (pL E 57, .inr (12, [.int (β 0 0), .int (β 1 0), .ref (pL E 58), .ref (pL E 59), .ref (pL E 60), .ref (pL E 61), .ref (pL E 62), .int (β 7 0), .ref (pL E 63), .ref (pL E 64), .ref (pL E 65), .ref (pL E 66), .ref (pL E 67), .ref (pL E 68), .ref (pL E 69), .int (β 15 0), .ref (pL E 70), .ref (pL E 71), .ref (pL E 72), .ref (pL E 73), .ref (pL E 74), .ref (pL E 75), .int (β 22 0), .ref (pL E 76), .ref (pL E 77), .ref (pL E 78), .int (β 26 0), .ref (pL E 79), .int (β 28 0), .int (β 29 0), .int (β 30 0), .int (β 31 0), .int v, .int (β 33 0), .int (β 34 0), .ref (pL E 80)])) = pw E α (up2 β 32 0 v) := by
  refine pw_set ?_ (fun j hj hne => ?_)
  · first | rfl | (simp (disch := omega) only [pe, pcl, pml, if_pos, if_neg, Nat.add_sub_cancel_left, up2_vv, up2_v, up2_vn, up2_ne])
  · unfold pe; refine pif (fun _ => rfl) (fun h1 => ?_); unfold pml; repeat' refine pif (fun _ => ?_) (fun _ => ?_)
    all_goals first | rfl | (exfalso; omega) | (simp (disch := omega) only [up2_ne, up2_vn])
theorem t_X10_round {E : pE} {α β : pSt} (v : Int32) : (pw E α β).set 57 (pL E 57, .inr (12, [.int (β 0 0), .int (β 1 0), .ref (pL E 58), .ref (pL E 59), .ref (pL E 60), .ref (pL E 61), .ref (pL E 62), .int (β 7 0), .ref (pL E 63), .ref (pL E 64), .ref (pL E 65), .ref (pL E 66), .ref (pL E 67), .ref (pL E 68), .ref (pL E 69), .int (β 15 0), .ref (pL E 70), .ref (pL E 71), .ref (pL E 72), .ref (pL E 73), .ref (pL E 74), .ref (pL E 75), .int (β 22 0), .ref (pL E 76), .ref (pL E 77), .ref (pL E 78), .int (β 26 0), .ref (pL E 79), .int (β 28 0), .int (β 29 0), .int (β 30 0), .int (β 31 0), .int (β 32 0), .int v, .int (β 34 0), .ref (pL E 80)])) = pw E α (up2 β 33 0 v) := by
  refine pw_set ?_ (fun j hj hne => ?_)
  · first | rfl | (simp (disch := omega) only [pe, pcl, pml, if_pos, if_neg, Nat.add_sub_cancel_left, up2_vv, up2_v, up2_vn, up2_ne])
  · unfold pe; refine pif (fun _ => rfl) (fun h1 => ?_); unfold pml; repeat' refine pif (fun _ => ?_) (fun _ => ?_)
    all_goals first | rfl | (exfalso; omega) | (simp (disch := omega) only [up2_ne, up2_vn])
theorem t_X10_ends {E : pE} {α β : pSt} (v : Int32) : (pw E α β).set 57 (pL E 57, .inr (12, [.int (β 0 0), .int (β 1 0), .ref (pL E 58), .ref (pL E 59), .ref (pL E 60), .ref (pL E 61), .ref (pL E 62), .int (β 7 0), .ref (pL E 63), .ref (pL E 64), .ref (pL E 65), .ref (pL E 66), .ref (pL E 67), .ref (pL E 68), .ref (pL E 69), .int (β 15 0), .ref (pL E 70), .ref (pL E 71), .ref (pL E 72), .ref (pL E 73), .ref (pL E 74), .ref (pL E 75), .int (β 22 0), .ref (pL E 76), .ref (pL E 77), .ref (pL E 78), .int (β 26 0), .ref (pL E 79), .int (β 28 0), .int (β 29 0), .int (β 30 0), .int (β 31 0), .int (β 32 0), .int (β 33 0), .int v, .ref (pL E 80)])) = pw E α (up2 β 34 0 v) := by
  refine pw_set ?_ (fun j hj hne => ?_)
  · first | rfl | (simp (disch := omega) only [pe, pcl, pml, if_pos, if_neg, Nat.add_sub_cancel_left, up2_vv, up2_v, up2_vn, up2_ne])
  · unfold pe; refine pif (fun _ => rfl) (fun h1 => ?_); unfold pml; repeat' refine pif (fun _ => ?_) (fun _ => ?_)
    all_goals first | rfl | (exfalso; omega) | (simp (disch := omega) only [up2_ne, up2_vn])
theorem t_options {E : pE} {α β : pSt} (i : Nat) (v : Int32) : (pw E α β).set 8 (pL E 8, .inl (pC E 0, 4, .inl (upd (α 23) i v))) = pw E (up2 α 23 i v) β := by
  refine pw_set ?_ (fun j hj hne => ?_)
  · first | rfl | (simp (disch := omega) only [pe, pcl, pml, if_pos, if_neg, Nat.add_sub_cancel_left, up2_vv, up2_v, up2_vn, up2_ne])
  · unfold pe; refine pif (fun h1 => ?_) (fun _ => rfl); unfold pcl; repeat' refine pif (fun _ => ?_) (fun _ => ?_)
    all_goals first | rfl | (exfalso; omega) | (simp (disch := omega) only [up2_ne, up2_vn])
theorem t_claimants {E : pE} {α β : pSt} (i : Nat) (v : Int32) : (pw E α β).set 9 (pL E 9, .inl (pC E 0, 8, .inl (upd (α 24) i v))) = pw E (up2 α 24 i v) β := by
  refine pw_set ?_ (fun j hj hne => ?_)
  · first | rfl | (simp (disch := omega) only [pe, pcl, pml, if_pos, if_neg, Nat.add_sub_cancel_left, up2_vv, up2_v, up2_vn, up2_ne])
  · unfold pe; refine pif (fun h1 => ?_) (fun _ => rfl); unfold pcl; repeat' refine pif (fun _ => ?_) (fun _ => ?_)
    all_goals first | rfl | (exfalso; omega) | (simp (disch := omega) only [up2_ne, up2_vn])
theorem t_names {E : pE} {α β : pSt} (i : Nat) (v : Int32) : (pw E α β).set 50 (pL E 50, .inl (pC E 0, 40, .inl (upd (α 25) i v))) = pw E (up2 α 25 i v) β := by
  refine pw_set ?_ (fun j hj hne => ?_)
  · first | rfl | (simp (disch := omega) only [pe, pcl, pml, if_pos, if_neg, Nat.add_sub_cancel_left, up2_vv, up2_v, up2_vn, up2_ne])
  · unfold pe; refine pif (fun h1 => ?_) (fun _ => rfl); unfold pcl; repeat' refine pif (fun _ => ?_) (fun _ => ?_)
    all_goals first | rfl | (exfalso; omega) | (simp (disch := omega) only [up2_ne, up2_vn])
theorem t_markSets {E : pE} {α β : pSt} (i : Nat) (v : Int32) : (pw E α β).set 51 (pL E 51, .inl (pC E 0, 40, .inl (upd (α 26) i v))) = pw E (up2 α 26 i v) β := by
  refine pw_set ?_ (fun j hj hne => ?_)
  · first | rfl | (simp (disch := omega) only [pe, pcl, pml, if_pos, if_neg, Nat.add_sub_cancel_left, up2_vv, up2_v, up2_vn, up2_ne])
  · unfold pe; refine pif (fun h1 => ?_) (fun _ => rfl); unfold pcl; repeat' refine pif (fun _ => ?_) (fun _ => ?_)
    all_goals first | rfl | (exfalso; omega) | (simp (disch := omega) only [up2_ne, up2_vn])
theorem t_fresh {E : pE} {α β : pSt} (i : Nat) (v : Int32) : (pw E α β).set 52 (pL E 52, .inl (pC E 1, 40, .inl (upd (α 27) i v))) = pw E (up2 α 27 i v) β := by
  refine pw_set ?_ (fun j hj hne => ?_)
  · first | rfl | (simp (disch := omega) only [pe, pcl, pml, if_pos, if_neg, Nat.add_sub_cancel_left, up2_vv, up2_v, up2_vn, up2_ne])
  · unfold pe; refine pif (fun h1 => ?_) (fun _ => rfl); unfold pcl; repeat' refine pif (fun _ => ?_) (fun _ => ?_)
    all_goals first | rfl | (exfalso; omega) | (simp (disch := omega) only [up2_ne, up2_vn])
theorem t_makers {E : pE} {α β : pSt} (i : Nat) (v : Int32) : (pw E α β).set 53 (pL E 53, .inl (pC E 0, 40, .inl (upd (α 28) i v))) = pw E (up2 α 28 i v) β := by
  refine pw_set ?_ (fun j hj hne => ?_)
  · first | rfl | (simp (disch := omega) only [pe, pcl, pml, if_pos, if_neg, Nat.add_sub_cancel_left, up2_vv, up2_v, up2_vn, up2_ne])
  · unfold pe; refine pif (fun h1 => ?_) (fun _ => rfl); unfold pcl; repeat' refine pif (fun _ => ?_) (fun _ => ?_)
    all_goals first | rfl | (exfalso; omega) | (simp (disch := omega) only [up2_ne, up2_vn])
theorem t_madeIn {E : pE} {α β : pSt} (i : Nat) (v : Int32) : (pw E α β).set 54 (pL E 54, .inl (pC E 0, 40, .inl (upd (α 29) i v))) = pw E (up2 α 29 i v) β := by
  refine pw_set ?_ (fun j hj hne => ?_)
  · first | rfl | (simp (disch := omega) only [pe, pcl, pml, if_pos, if_neg, Nat.add_sub_cancel_left, up2_vv, up2_v, up2_vn, up2_ne])
  · unfold pe; refine pif (fun h1 => ?_) (fun _ => rfl); unfold pcl; repeat' refine pif (fun _ => ?_) (fun _ => ?_)
    all_goals first | rfl | (exfalso; omega) | (simp (disch := omega) only [up2_ne, up2_vn])
theorem t_mparts {E : pE} {α β : pSt} (i : Nat) (v : Int32) : (pw E α β).set 55 (pL E 55, .inl (pC E 0, 600, .inl (upd (α 30) i v))) = pw E (up2 α 30 i v) β := by
  refine pw_set ?_ (fun j hj hne => ?_)
  · first | rfl | (simp (disch := omega) only [pe, pcl, pml, if_pos, if_neg, Nat.add_sub_cancel_left, up2_vv, up2_v, up2_vn, up2_ne])
  · unfold pe; refine pif (fun h1 => ?_) (fun _ => rfl); unfold pcl; repeat' refine pif (fun _ => ?_) (fun _ => ?_)
    all_goals first | rfl | (exfalso; omega) | (simp (disch := omega) only [up2_ne, up2_vn])
theorem t_bytes {E : pE} {α β : pSt} {k : Nat} (hk : k < 11) (i : Nat) (v : Int32) : (pw E α β).set (33 + k) (pL E (33 + k), .inl (pC E 0, pcap k, .inl (upd (α (40 + k)) i v))) = pw E (up2 α (40 + k) i v) β := by
  refine pw_set ?_ (fun j hj hne => ?_)
  · first | rfl | (simp (disch := omega) only [pe, pcl, pml, if_pos, if_neg, Nat.add_sub_cancel_left, up2_vv, up2_v, up2_vn, up2_ne])
  · unfold pe; refine pif (fun h1 => ?_) (fun _ => rfl); unfold pcl; repeat' refine pif (fun _ => ?_) (fun _ => ?_)
    all_goals first | rfl | (exfalso; omega) | (simp (disch := omega) only [up2_ne, up2_vn])
theorem t_parts {E : pE} {α β : pSt} {k : Nat} (hk : k < 6) (i : Nat) (v : Int32) : (pw E α β).set (44 + k) (pL E (44 + k), .inl (pC E 0, 48, .inl (upd (α (60 + k)) i v))) = pw E (up2 α (60 + k) i v) β := by
  refine pw_set ?_ (fun j hj hne => ?_)
  · first | rfl | (simp (disch := omega) only [pe, pcl, pml, if_pos, if_neg, Nat.add_sub_cancel_left, up2_vv, up2_v, up2_vn, up2_ne])
  · unfold pe; refine pif (fun h1 => ?_) (fun _ => rfl); unfold pcl; repeat' refine pif (fun _ => ?_) (fun _ => ?_)
    all_goals first | rfl | (exfalso; omega) | (simp (disch := omega) only [up2_ne, up2_vn])
theorem t_m_tape {E : pE} {α β : pSt} (i : Nat) (v : Int32) : (pw E α β).set 58 (pL E 58, .inl (pC E 0, 64, .inl (upd (β 2) i v))) = pw E α (up2 β 2 i v) := by
  refine pw_set ?_ (fun j hj hne => ?_)
  · first | rfl | (simp (disch := omega) only [pe, pcl, pml, if_pos, if_neg, Nat.add_sub_cancel_left, up2_vv, up2_v, up2_vn, up2_ne])
  · unfold pe; refine pif (fun _ => rfl) (fun h1 => ?_); unfold pml; repeat' refine pif (fun _ => ?_) (fun _ => ?_)
    all_goals first | rfl | (exfalso; omega) | (simp (disch := omega) only [up2_ne, up2_vn])
theorem t_m_size {E : pE} {α β : pSt} (i : Nat) (v : Int32) : (pw E α β).set 59 (pL E 59, .inl (pC E 0, 6, .inl (upd (β 3) i v))) = pw E α (up2 β 3 i v) := by
  refine pw_set ?_ (fun j hj hne => ?_)
  · first | rfl | (simp (disch := omega) only [pe, pcl, pml, if_pos, if_neg, Nat.add_sub_cancel_left, up2_vv, up2_v, up2_vn, up2_ne])
  · unfold pe; refine pif (fun _ => rfl) (fun h1 => ?_); unfold pml; repeat' refine pif (fun _ => ?_) (fun _ => ?_)
    all_goals first | rfl | (exfalso; omega) | (simp (disch := omega) only [up2_ne, up2_vn])
theorem t_m_file {E : pE} {α β : pSt} (i : Nat) (v : Int32) : (pw E α β).set 60 (pL E 60, .inl (pC E 0, 384, .inl (upd (β 4) i v))) = pw E α (up2 β 4 i v) := by
  refine pw_set ?_ (fun j hj hne => ?_)
  · first | rfl | (simp (disch := omega) only [pe, pcl, pml, if_pos, if_neg, Nat.add_sub_cancel_left, up2_vv, up2_v, up2_vn, up2_ne])
  · unfold pe; refine pif (fun _ => rfl) (fun h1 => ?_); unfold pml; repeat' refine pif (fun _ => ?_) (fun _ => ?_)
    all_goals first | rfl | (exfalso; omega) | (simp (disch := omega) only [up2_ne, up2_vn])
theorem t_m_fails {E : pE} {α β : pSt} (i : Nat) (v : Int32) : (pw E α β).set 61 (pL E 61, .inl (pC E 1, 6, .inl (upd (β 5) i v))) = pw E α (up2 β 5 i v) := by
  refine pw_set ?_ (fun j hj hne => ?_)
  · first | rfl | (simp (disch := omega) only [pe, pcl, pml, if_pos, if_neg, Nat.add_sub_cancel_left, up2_vv, up2_v, up2_vn, up2_ne])
  · unfold pe; refine pif (fun _ => rfl) (fun h1 => ?_); unfold pml; repeat' refine pif (fun _ => ?_) (fun _ => ?_)
    all_goals first | rfl | (exfalso; omega) | (simp (disch := omega) only [up2_ne, up2_vn])
theorem t_m_failed {E : pE} {α β : pSt} (i : Nat) (v : Int32) : (pw E α β).set 62 (pL E 62, .inl (pC E 1, 6, .inl (upd (β 6) i v))) = pw E α (up2 β 6 i v) := by
  refine pw_set ?_ (fun j hj hne => ?_)
  · first | rfl | (simp (disch := omega) only [pe, pcl, pml, if_pos, if_neg, Nat.add_sub_cancel_left, up2_vv, up2_v, up2_vn, up2_ne])
  · unfold pe; refine pif (fun _ => rfl) (fun h1 => ?_); unfold pml; repeat' refine pif (fun _ => ?_) (fun _ => ?_)
    all_goals first | rfl | (exfalso; omega) | (simp (disch := omega) only [up2_ne, up2_vn])
theorem t_m_fileOf {E : pE} {α β : pSt} (i : Nat) (v : Int32) : (pw E α β).set 63 (pL E 63, .inl (pC E 0, 6, .inl (upd (β 8) i v))) = pw E α (up2 β 8 i v) := by
  refine pw_set ?_ (fun j hj hne => ?_)
  · first | rfl | (simp (disch := omega) only [pe, pcl, pml, if_pos, if_neg, Nat.add_sub_cancel_left, up2_vv, up2_v, up2_vn, up2_ne])
  · unfold pe; refine pif (fun _ => rfl) (fun h1 => ?_); unfold pml; repeat' refine pif (fun _ => ?_) (fun _ => ?_)
    all_goals first | rfl | (exfalso; omega) | (simp (disch := omega) only [up2_ne, up2_vn])
theorem t_m_rules {E : pE} {α β : pSt} (i : Nat) (v : Int32) : (pw E α β).set 64 (pL E 64, .inl (pC E 0, 6, .inl (upd (β 9) i v))) = pw E α (up2 β 9 i v) := by
  refine pw_set ?_ (fun j hj hne => ?_)
  · first | rfl | (simp (disch := omega) only [pe, pcl, pml, if_pos, if_neg, Nat.add_sub_cancel_left, up2_vv, up2_v, up2_vn, up2_ne])
  · unfold pe; refine pif (fun _ => rfl) (fun h1 => ?_); unfold pml; repeat' refine pif (fun _ => ?_) (fun _ => ?_)
    all_goals first | rfl | (exfalso; omega) | (simp (disch := omega) only [up2_ne, up2_vn])
theorem t_m_rule {E : pE} {α β : pSt} (i : Nat) (v : Int32) : (pw E α β).set 65 (pL E 65, .inl (pC E 0, 288, .inl (upd (β 10) i v))) = pw E α (up2 β 10 i v) := by
  refine pw_set ?_ (fun j hj hne => ?_)
  · first | rfl | (simp (disch := omega) only [pe, pcl, pml, if_pos, if_neg, Nat.add_sub_cancel_left, up2_vv, up2_v, up2_vn, up2_ne])
  · unfold pe; refine pif (fun _ => rfl) (fun h1 => ?_); unfold pml; repeat' refine pif (fun _ => ?_) (fun _ => ?_)
    all_goals first | rfl | (exfalso; omega) | (simp (disch := omega) only [up2_ne, up2_vn])
theorem t_m_cells {E : pE} {α β : pSt} (i : Nat) (v : Int32) : (pw E α β).set 66 (pL E 66, .inl (pC E 0, 6, .inl (upd (β 11) i v))) = pw E α (up2 β 11 i v) := by
  refine pw_set ?_ (fun j hj hne => ?_)
  · first | rfl | (simp (disch := omega) only [pe, pcl, pml, if_pos, if_neg, Nat.add_sub_cancel_left, up2_vv, up2_v, up2_vn, up2_ne])
  · unfold pe; refine pif (fun _ => rfl) (fun h1 => ?_); unfold pml; repeat' refine pif (fun _ => ?_) (fun _ => ?_)
    all_goals first | rfl | (exfalso; omega) | (simp (disch := omega) only [up2_ne, up2_vn])
theorem t_m_cellWas {E : pE} {α β : pSt} (i : Nat) (v : Int32) : (pw E α β).set 67 (pL E 67, .inl (pC E 0, 6, .inl (upd (β 12) i v))) = pw E α (up2 β 12 i v) := by
  refine pw_set ?_ (fun j hj hne => ?_)
  · first | rfl | (simp (disch := omega) only [pe, pcl, pml, if_pos, if_neg, Nat.add_sub_cancel_left, up2_vv, up2_v, up2_vn, up2_ne])
  · unfold pe; refine pif (fun _ => rfl) (fun h1 => ?_); unfold pml; repeat' refine pif (fun _ => ?_) (fun _ => ?_)
    all_goals first | rfl | (exfalso; omega) | (simp (disch := omega) only [up2_ne, up2_vn])
theorem t_m_stopped {E : pE} {α β : pSt} (i : Nat) (v : Int32) : (pw E α β).set 68 (pL E 68, .inl (pC E 1, 6, .inl (upd (β 13) i v))) = pw E α (up2 β 13 i v) := by
  refine pw_set ?_ (fun j hj hne => ?_)
  · first | rfl | (simp (disch := omega) only [pe, pcl, pml, if_pos, if_neg, Nat.add_sub_cancel_left, up2_vv, up2_v, up2_vn, up2_ne])
  · unfold pe; refine pif (fun _ => rfl) (fun h1 => ?_); unfold pml; repeat' refine pif (fun _ => ?_) (fun _ => ?_)
    all_goals first | rfl | (exfalso; omega) | (simp (disch := omega) only [up2_ne, up2_vn])
theorem t_m_took {E : pE} {α β : pSt} (i : Nat) (v : Int32) : (pw E α β).set 69 (pL E 69, .inl (pC E 0, 6, .inl (upd (β 14) i v))) = pw E α (up2 β 14 i v) := by
  refine pw_set ?_ (fun j hj hne => ?_)
  · first | rfl | (simp (disch := omega) only [pe, pcl, pml, if_pos, if_neg, Nat.add_sub_cancel_left, up2_vv, up2_v, up2_vn, up2_ne])
  · unfold pe; refine pif (fun _ => rfl) (fun h1 => ?_); unfold pml; repeat' refine pif (fun _ => ?_) (fun _ => ?_)
    all_goals first | rfl | (exfalso; omega) | (simp (disch := omega) only [up2_ne, up2_vn])
theorem t_m_name {E : pE} {α β : pSt} (i : Nat) (v : Int32) : (pw E α β).set 70 (pL E 70, .inl (pC E 0, 40, .inl (upd (β 16) i v))) = pw E α (up2 β 16 i v) := by
  refine pw_set ?_ (fun j hj hne => ?_)
  · first | rfl | (simp (disch := omega) only [pe, pcl, pml, if_pos, if_neg, Nat.add_sub_cancel_left, up2_vv, up2_v, up2_vn, up2_ne])
  · unfold pe; refine pif (fun _ => rfl) (fun h1 => ?_); unfold pml; repeat' refine pif (fun _ => ?_) (fun _ => ?_)
    all_goals first | rfl | (exfalso; omega) | (simp (disch := omega) only [up2_ne, up2_vn])
theorem t_m_marks {E : pE} {α β : pSt} (i : Nat) (v : Int32) : (pw E α β).set 71 (pL E 71, .inl (pC E 0, 40, .inl (upd (β 17) i v))) = pw E α (up2 β 17 i v) := by
  refine pw_set ?_ (fun j hj hne => ?_)
  · first | rfl | (simp (disch := omega) only [pe, pcl, pml, if_pos, if_neg, Nat.add_sub_cancel_left, up2_vv, up2_v, up2_vn, up2_ne])
  · unfold pe; refine pif (fun _ => rfl) (fun h1 => ?_); unfold pml; repeat' refine pif (fun _ => ?_) (fun _ => ?_)
    all_goals first | rfl | (exfalso; omega) | (simp (disch := omega) only [up2_ne, up2_vn])
theorem t_m_isNew {E : pE} {α β : pSt} (i : Nat) (v : Int32) : (pw E α β).set 72 (pL E 72, .inl (pC E 1, 40, .inl (upd (β 18) i v))) = pw E α (up2 β 18 i v) := by
  refine pw_set ?_ (fun j hj hne => ?_)
  · first | rfl | (simp (disch := omega) only [pe, pcl, pml, if_pos, if_neg, Nat.add_sub_cancel_left, up2_vv, up2_v, up2_vn, up2_ne])
  · unfold pe; refine pif (fun _ => rfl) (fun h1 => ?_); unfold pml; repeat' refine pif (fun _ => ?_) (fun _ => ?_)
    all_goals first | rfl | (exfalso; omega) | (simp (disch := omega) only [up2_ne, up2_vn])
theorem t_m_maker {E : pE} {α β : pSt} (i : Nat) (v : Int32) : (pw E α β).set 73 (pL E 73, .inl (pC E 0, 40, .inl (upd (β 19) i v))) = pw E α (up2 β 19 i v) := by
  refine pw_set ?_ (fun j hj hne => ?_)
  · first | rfl | (simp (disch := omega) only [pe, pcl, pml, if_pos, if_neg, Nat.add_sub_cancel_left, up2_vv, up2_v, up2_vn, up2_ne])
  · unfold pe; refine pif (fun _ => rfl) (fun h1 => ?_); unfold pml; repeat' refine pif (fun _ => ?_) (fun _ => ?_)
    all_goals first | rfl | (exfalso; omega) | (simp (disch := omega) only [up2_ne, up2_vn])
theorem t_m_madeIn {E : pE} {α β : pSt} (i : Nat) (v : Int32) : (pw E α β).set 74 (pL E 74, .inl (pC E 0, 40, .inl (upd (β 20) i v))) = pw E α (up2 β 20 i v) := by
  refine pw_set ?_ (fun j hj hne => ?_)
  · first | rfl | (simp (disch := omega) only [pe, pcl, pml, if_pos, if_neg, Nat.add_sub_cancel_left, up2_vv, up2_v, up2_vn, up2_ne])
  · unfold pe; refine pif (fun _ => rfl) (fun h1 => ?_); unfold pml; repeat' refine pif (fun _ => ?_) (fun _ => ?_)
    all_goals first | rfl | (exfalso; omega) | (simp (disch := omega) only [up2_ne, up2_vn])
theorem t_m_options {E : pE} {α β : pSt} (i : Nat) (v : Int32) : (pw E α β).set 75 (pL E 75, .inl (pC E 0, 4, .inl (upd (β 21) i v))) = pw E α (up2 β 21 i v) := by
  refine pw_set ?_ (fun j hj hne => ?_)
  · first | rfl | (simp (disch := omega) only [pe, pcl, pml, if_pos, if_neg, Nat.add_sub_cancel_left, up2_vv, up2_v, up2_vn, up2_ne])
  · unfold pe; refine pif (fun _ => rfl) (fun h1 => ?_); unfold pml; repeat' refine pif (fun _ => ?_) (fun _ => ?_)
    all_goals first | rfl | (exfalso; omega) | (simp (disch := omega) only [up2_ne, up2_vn])
theorem t_m_written {E : pE} {α β : pSt} (i : Nat) (v : Int32) : (pw E α β).set 76 (pL E 76, .inl (pC E 0, 4, .inl (upd (β 23) i v))) = pw E α (up2 β 23 i v) := by
  refine pw_set ?_ (fun j hj hne => ?_)
  · first | rfl | (simp (disch := omega) only [pe, pcl, pml, if_pos, if_neg, Nat.add_sub_cancel_left, up2_vv, up2_v, up2_vn, up2_ne])
  · unfold pe; refine pif (fun _ => rfl) (fun h1 => ?_); unfold pml; repeat' refine pif (fun _ => ?_) (fun _ => ?_)
    all_goals first | rfl | (exfalso; omega) | (simp (disch := omega) only [up2_ne, up2_vn])
theorem t_m_writtenWas {E : pE} {α β : pSt} (i : Nat) (v : Int32) : (pw E α β).set 77 (pL E 77, .inl (pC E 0, 4, .inl (upd (β 24) i v))) = pw E α (up2 β 24 i v) := by
  refine pw_set ?_ (fun j hj hne => ?_)
  · first | rfl | (simp (disch := omega) only [pe, pcl, pml, if_pos, if_neg, Nat.add_sub_cancel_left, up2_vv, up2_v, up2_vn, up2_ne])
  · unfold pe; refine pif (fun _ => rfl) (fun h1 => ?_); unfold pml; repeat' refine pif (fun _ => ?_) (fun _ => ?_)
    all_goals first | rfl | (exfalso; omega) | (simp (disch := omega) only [up2_ne, up2_vn])
theorem t_m_resource {E : pE} {α β : pSt} (i : Nat) (v : Int32) : (pw E α β).set 78 (pL E 78, .inl (pC E 0, 400, .inl (upd (β 25) i v))) = pw E α (up2 β 25 i v) := by
  refine pw_set ?_ (fun j hj hne => ?_)
  · first | rfl | (simp (disch := omega) only [pe, pcl, pml, if_pos, if_neg, Nat.add_sub_cancel_left, up2_vv, up2_v, up2_vn, up2_ne])
  · unfold pe; refine pif (fun _ => rfl) (fun h1 => ?_); unfold pml; repeat' refine pif (fun _ => ?_) (fun _ => ?_)
    all_goals first | rfl | (exfalso; omega) | (simp (disch := omega) only [up2_ne, up2_vn])
theorem t_m_message {E : pE} {α β : pSt} (i : Nat) (v : Int32) : (pw E α β).set 79 (pL E 79, .inl (pC E 0, 600, .inl (upd (β 27) i v))) = pw E α (up2 β 27 i v) := by
  refine pw_set ?_ (fun j hj hne => ?_)
  · first | rfl | (simp (disch := omega) only [pe, pcl, pml, if_pos, if_neg, Nat.add_sub_cancel_left, up2_vv, up2_v, up2_vn, up2_ne])
  · unfold pe; refine pif (fun _ => rfl) (fun h1 => ?_); unfold pml; repeat' refine pif (fun _ => ?_) (fun _ => ?_)
    all_goals first | rfl | (exfalso; omega) | (simp (disch := omega) only [up2_ne, up2_vn])
theorem t_m_claimer {E : pE} {α β : pSt} (i : Nat) (v : Int32) : (pw E α β).set 80 (pL E 80, .inl (pC E 0, 8, .inl (upd (β 35) i v))) = pw E α (up2 β 35 i v) := by
  refine pw_set ?_ (fun j hj hne => ?_)
  · first | rfl | (simp (disch := omega) only [pe, pcl, pml, if_pos, if_neg, Nat.add_sub_cancel_left, up2_vv, up2_v, up2_vn, up2_ne])
  · unfold pe; refine pif (fun _ => rfl) (fun h1 => ?_); unfold pml; repeat' refine pif (fun _ => ?_) (fun _ => ?_)
    all_goals first | rfl | (exfalso; omega) | (simp (disch := omega) only [up2_ne, up2_vn])
