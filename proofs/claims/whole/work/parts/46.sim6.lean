/-! feed and lay -/
theorem b255_32 : ∀ i, i < 32 → (255#32).getLsbD i = decide (i < 8) := by decide +kernel
theorem b255_64 : ∀ i, i < 64 → (255#64).getLsbD i = decide (i < 8) := by decide +kernel
theorem sh_u : ∀ k, k < 64 → ((nI k).toInt64.toUInt64 &&& Int64.toUInt64 63) = UInt64.ofNat k := by decide +kernel
theorem sh_s : ∀ k, k < 64 → (((nI k).toInt64 &&& 63).toBitVec.smod 64).toNat = k := by decide +kernel
theorem byte_eq (w : Int64) {k : Nat} (hk : k < 8) : ((w.toUInt64 >>> (((8 * nI k) : Int32).toInt64.toUInt64 &&& Int64.toUInt64 63)).toInt64.toInt32) &&& 255 = ((w >>> (((8 * nI k) : Int32).toInt64 &&& 63)) &&& 255).toInt32 := by
  rw [show (8 : Int32) * nI k = nI (8 * k) by rw [show (8 : Int32) = nI 8 from rfl, pk_mul]]
  have e1 : (w.toUInt64 >>> ((nI (8 * k)).toInt64.toUInt64 &&& Int64.toUInt64 63)).toInt64.toBitVec = w.toBitVec >>> (8 * k) := by
    rw [sh_u (8 * k) (by omega)]
    apply BitVec.eq_of_toNat_eq
    show (w.toUInt64 >>> UInt64.ofNat (8 * k)).toNat = _
    have h1 : (UInt64.ofNat (8 * k)).toNat = 8 * k := by
      show (BitVec.ofNat 64 (8 * k)).toNat = 8 * k
      rw [BitVec.toNat_ofNat, Nat.mod_eq_of_lt (by omega)]
    rw [UInt64.toNat_shiftRight, h1, Nat.mod_eq_of_lt (by omega), BitVec.toNat_ushiftRight]
    rfl
  have e2 : (w >>> ((nI (8 * k)).toInt64 &&& 63)).toBitVec = w.toBitVec.sshiftRight (8 * k) := by
    rw [Int64.toBitVec_shiftRight]
    unfold BitVec.sshiftRight'
    rw [sh_s (8 * k) (by omega)]
  apply Int32.toBitVec_inj.1
  rw [Int32.toBitVec_and, Int64.toBitVec_toInt32, Int64.toBitVec_toInt32, Int64.toBitVec_and, e1, e2]
  apply BitVec.eq_of_getLsbD_eq
  intro i hi
  rw [BitVec.getLsbD_and, BitVec.getLsbD_signExtend, BitVec.getLsbD_signExtend, if_pos (by omega), if_pos (by omega), BitVec.getLsbD_and, BitVec.getLsbD_ushiftRight, BitVec.getLsbD_sshiftRight]
  rw [show (Int32.toBitVec 255).getLsbD i = decide (i < 8) from b255_32 i hi, show (Int64.toBitVec 255).getLsbD i = decide (i < 8) from b255_64 i (by omega)]
  by_cases h8 : i < 8
  · have h9 : 8 * k + i < 64 := by omega
    have h10 : ¬ 64 ≤ i := by omega
    simp [h8, hi, h9, h10]
  · simp [h8]
theorem byte_by (w : Int64) {k : Nat} (hk : k < 8) : pby (((w >>> (((8 * nI k) : Int32).toInt64 &&& 63)) &&& 255).toInt32) := by
  rw [← byte_eq w hk]
  obtain ⟨j, h1, h2⟩ := pk_andE ((w.toUInt64 >>> (((8 * nI k) : Int32).toInt64.toUInt64 &&& Int64.toUInt64 63)).toInt64.toInt32) (m := 255) 8 (by decide)
  exact ⟨j, h1, h2⟩
theorem pred_lt {m : Nat} (hm : m ≤ 8) : (nI m - 1 < 0) ↔ m = 0 := by
  rcases Nat.eq_zero_or_pos m with h | h
  · subst h; simp; decide
  · obtain ⟨k, hk⟩ : ∃ k, m = k + 1 := ⟨m - 1, by omega⟩
    subst hk
    rw [nI_pred]
    simp [nI_n0 (show k ≤ 1000000 by omega)]
theorem feed_L {w : Int64} : ∀ (f m t : Nat) (α β : pSt), m ≤ 8 → m < f → t + m ≤ 64 → α 0 0 = nI t → β 1 0 = nI t → (∀ i, i < t → α 40 i = β 2 i) → (∀ i, i < t → pby (α 40 i)) →
    ∃ α' β', f_X9_feed_L33 w f (nI m - 1) α = some (nI (t + m), α') ∧ f_X10_feed_L34 w f (nI m - 1) β = some (nI (t + m), β') ∧ rT α' β' ∧ (∀ d, ¬ d = 0 → ¬ d = 40 → α' d = α d) ∧ (∀ i, ¬ i = 0 → α' 0 i = α 0 i) ∧ (∀ d, ¬ d = 1 → ¬ d = 2 → β' d = β d) := by
  intro f
  induction f with
  | zero => intro m t α β h1 h2; omega
  | succ f ih =>
    intro m t α β h1 h2 h3 ha hb h4 h5
    rw [f_X9_feed_L33, f_X10_feed_L34]
    rcases Nat.eq_zero_or_pos m with hm | hm
    · subst hm
      refine ⟨α, β, ?_, ?_, ⟨t, by omega, ha, hb, h4, h5⟩, fun _ _ _ => rfl, fun _ _ => rfl, fun _ _ _ => rfl⟩
      · rw [if_pos ((pred_lt (by decide)).mpr rfl), size6, pb_s, ha]; rfl
      · rw [if_pos ((pred_lt (by decide)).mpr rfl), hb]; rfl
    · obtain ⟨k, hk⟩ : ∃ k, m = k + 1 := ⟨m - 1, by omega⟩
      subst hk
      have hk8 : k < 8 := by omega
      rw [if_neg (fun h => by have := (pred_lt h1).mp h; omega), if_neg (fun h => by have := (pred_lt h1).mp h; omega), nI_pred, byte_eq w hk8]
      have hby := byte_by w hk8
      have hband := pby_and hby
      generalize ((w >>> (((8 * nI k) : Int32).toInt64 &&& 63)) &&& 255).toInt32 = x at hby hband ⊢
      rw [append6_ok (k := 0) (n := t) (by show t < 64; omega) ha, pb_s, hband, hb, pg_t (pin_nI (by omega) (by decide)), cl_nI (by omega), pl_s, up2_ne (show ¬ 1 = 2 by decide), hb, nI_1, pl_s]
      have e1 : nI k + -1 = nI k - 1 := by rw [Int32.sub_eq_add_neg]
      rw [e1]
      obtain ⟨α', β', q1, q2, q3, q4, q5, q6⟩ := ih k (t + 1) (up2 (up2 α (40 + 0) t x) 0 0 (nI (t + 1))) (up2 (up2 β 2 t x) 1 0 (nI (t + 1))) (by omega) (by omega) (by omega) (by rw [up2_vv]) (by rw [up2_vv]) (fun i hi => by
        show up2 α 40 t x 40 i = up2 β 2 t x 2 i
        by_cases hit : i = t
        · subst hit; rw [up2_vv, up2_vv]
        · rw [up2_vn hit, up2_vn hit]; exact h4 i (by omega)) (fun i hi => by
        show pby (up2 α 40 t x 40 i)
        by_cases hit : i = t
        · subst hit; rw [up2_vv]; exact hby
        · rw [up2_vn hit]; exact h5 i (by omega))
      refine ⟨α', β', ?_, ?_, q3, fun d d0 d1 => ?_, fun i hi => ?_, fun d d0 d1 => ?_⟩
      · rw [show t + (k + 1) = t + 1 + k by omega]; exact q1
      · rw [show t + (k + 1) = t + 1 + k by omega]; exact q2
      · rw [q4 d d0 d1, up2_ne d0, up2_ne d1]
      · rw [q5 i hi, up2_vn hi]; rfl
      · rw [q6 d d0 d1, up2_ne d0, up2_ne d1]
theorem sm_feed {α β : pSt} (hR : rA α β) (a0 : Int32) (a1 : Int64) : pS (f_X9_feed a0 a1 α) (f_X10_feed a0 a1 β) := by
  obtain ⟨⟨t, t1, t2, t3, t4, t5⟩, rf, rpp, ruu, ro, rss, rm, rn⟩ := id hR
  have bad : (a0 < 1 ∨ ¬ a0 ≤ 8) → pS (f_X9_feed a0 a1 α) (f_X10_feed a0 a1 β) := by
    intro h
    refine pS_same (r := -102) hR ?_ ?_
    · unfold f_X9_feed
      by_cases h0 : a0 < 1
      · rw [if_pos h0]
      · rw [if_neg h0, if_neg (h.resolve_left h0)]
    · unfold f_X10_feed
      rw [qlit1, qlit8, in_i]
      by_cases h0 : a0 < 1
      · rw [if_pos h0]; rfl
      · rw [if_neg h0, if_pos]
        · rfl
        · have h2 := h.resolve_left h0
          rw [Int32.le_iff_toInt_le] at h2
          rw [Int32.lt_iff_toInt_lt]
          omega
  rcases ix a0 (n := 9) (by decide) with h | ⟨j, hj, rfl⟩
  · refine bad ?_
    rcases h with h | h
    · left
      have e1 : (1 : Int32).toInt = 1 := by decide
      have e0 : (0 : Int32).toInt = 0 := by decide
      rw [Int32.lt_iff_toInt_lt] at h ⊢
      omega
    · right
      have e8 : (8 : Int32).toInt = 8 := by decide
      have e9 : (nI 9).toInt = 9 := by decide
      rw [Int32.le_iff_toInt_le] at h ⊢
      omega
  · rcases Nat.eq_zero_or_pos j with h0 | h0
    · subst h0; exact bad (Or.inl (by decide))
    · have k1 : ¬ nI j < 1 := by rw [show (1 : Int32) = nI 1 from rfl, lt_nI (by omega) (by omega)]; omega
      have k8 : nI j ≤ 8 := by rw [show (8 : Int32) = nI 8 from rfl, le_nI (by omega) (by omega)]; omega
      have kin : f_X10_in (nI j).toInt64 1 8 β = some (1, β) := by
        rw [qlit1, qlit8, in_i, if_neg k1, if_neg]
        rw [show (8 : Int32) = nI 8 from rfl, lt_nI (by omega) (by omega)]; omega
      have room : f_X6_room 0 α = some (nI (64 - t), α) := by
        show some (nI 64 - α 0 0, α) = _
        rw [t2, pk_sub t1]
      by_cases hfit : t + j ≤ 64
      · obtain ⟨α', β', q1, q2, q3, q4, q5, q6⟩ := feed_L (w := a1) pF j t α β (by omega) (by show j < 128; omega) hfit t2 t3 t4 t5
        refine ⟨nI (t + j), α', β', ?_, ?_, ?_⟩
        · unfold f_X9_feed
          rw [if_neg k1, if_pos k8, room, pb_s, if_pos (by rw [le_nI (by omega) (by omega)]; omega)]
          exact q1
        · unfold f_X10_feed
          rw [kin, pb_s, if_neg (by decide), t3, nI_add, if_pos (by rw [show (64 : Int32) = nI 64 from rfl, le_nI (by omega) (by omega)]; omega)]
          exact q2
        · refine ⟨q3, fun f hf => (rf f hf).c (q5 _ (by omega)) (q4 _ (by omega) (by omega)) (by rw [q4 2 (by decide) (by decide)]) (by rw [q4 3 (by decide) (by decide)]) (by rw [q6 3 (by decide) (by decide)]) (fun i _ => by rw [q6 4 (by decide) (by decide)]) (by rw [q6 5 (by decide) (by decide)]) (by rw [q6 6 (by decide) (by decide)]), ?_, ?_, ?_, fun r hr => (rss r hr).c (q5 _ (by omega)) (q4 _ (by omega) (by omega)) (by rw [q6 23 (by decide) (by decide)]) (fun i _ => by rw [q6 25 (by decide) (by decide)]), ?_, ?_⟩
          · obtain ⟨m, z1, z2, z3, z4⟩ := rpp
            exact ⟨m, z1, by rw [q4 10 (by decide) (by decide)]; exact z2, by rw [q6 7 (by decide) (by decide)]; exact z3, fun p hp => (z4 p hp).c (by rw [q4 4 (by decide) (by decide)]) (by rw [q4 5 (by decide) (by decide)]) (by rw [q4 6 (by decide) (by decide)]) (by rw [q4 8 (by decide) (by decide)]) (by rw [q4 9 (by decide) (by decide)]) (q4 _ (by omega) (by omega)) (by rw [q6 8 (by decide) (by decide)]) (by rw [q6 9 (by decide) (by decide)]) (fun i _ => by rw [q6 10 (by decide) (by decide)]) (by rw [q6 11 (by decide) (by decide)]) (by rw [q6 13 (by decide) (by decide)]) (by rw [q6 14 (by decide) (by decide)])⟩
          · unfold rU ru; rw [q4 11 (by decide) (by decide), q6 15 (by decide) (by decide), q4 25 (by decide) (by decide), q6 16 (by decide) (by decide), q4 26 (by decide) (by decide), q6 17 (by decide) (by decide), q4 27 (by decide) (by decide), q6 18 (by decide) (by decide), q4 28 (by decide) (by decide), q6 19 (by decide) (by decide), q4 29 (by decide) (by decide), q6 20 (by decide) (by decide)]; exact ruu
          · unfold rO; rw [q4 23 (by decide) (by decide), q6 21 (by decide) (by decide), q4 22 (by decide) (by decide), q6 22 (by decide) (by decide)]; exact ro
          · unfold rM; rw [q4 12 (by decide) (by decide), q6 26 (by decide) (by decide), q4 30 (by decide) (by decide), q6 27 (by decide) (by decide)]; exact rm
          · unfold rN; rw [q4 16 (by decide) (by decide), q6 28 (by decide) (by decide), q4 17 (by decide) (by decide), q6 30 (by decide) (by decide), q4 18 (by decide) (by decide), q6 31 (by decide) (by decide)]; exact rn
      · refine pS_same (r := -104) hR ?_ ?_
        · unfold f_X9_feed
          rw [if_neg k1, if_pos k8, room, pb_s, if_neg (by rw [le_nI (by omega) (by omega)]; omega)]
        · unfold f_X10_feed
          rw [kin, pb_s, if_neg (by decide), t3, nI_add, if_neg (by rw [show (64 : Int32) = nI 64 from rfl, le_nI (by omega) (by omega)]; omega)]
theorem become_L {j t : Nat} (hj : j < 6) (ht : t ≤ 64) : ∀ (f i : Nat) (α : pSt), i ≤ t → t < i + f → α 0 0 = nI t → α 0 (1 + j) = nI i → (∀ q, q < t → pby (α 40 q)) →
    ∃ α', f_X6_become_L6 (1 + j) 0 f (nI i) α = some ((), α') ∧ α' 0 (1 + j) = nI t ∧ (∀ q, q < i → α' (40 + (1 + j)) q = α (40 + (1 + j)) q) ∧ (∀ q, i ≤ q → q < t → α' (40 + (1 + j)) q = α 40 q) ∧ (∀ d, ¬ d = 0 → ¬ d = 40 + (1 + j) → α' d = α d) ∧ (∀ z, ¬ z = 1 + j → α' 0 z = α 0 z) := by
  intro f
  induction f with
  | zero => intro i α h1 h2; omega
  | succ f ih =>
    intro i α h1 h2 h0 hi hb
    rw [f_X6_become_L6, size6, pb_s, h0]
    by_cases hit : i = t
    · subst hit
      rw [if_pos ((le_nI (by omega) (by omega)).mpr (Nat.le_refl _))]
      exact ⟨α, rfl, hi, fun _ _ => rfl, fun q q1 q2 => by omega, fun _ _ _ => rfl, fun _ _ => rfl⟩
    · rw [if_neg (by rw [le_nI (by omega) (by omega)]; omega), at6_ok (k := 0) (n := t) ht h0 (by omega), pb_s, append6_ok (k := 1 + j) (n := i) (by unfold pcap; rw [if_pos (by omega)]; omega) hi, pb_s, nI_1]
      have hby := hb i (by omega)
      rw [show (40 + 0 : Nat) = 40 from rfl, pby_and hby]
      obtain ⟨α', q1, q2, q3, q4, q5, q6⟩ := ih (i + 1) (up2 (up2 α (40 + (1 + j)) i (α 40 i)) 0 (1 + j) (nI (i + 1))) (by omega) (by omega) (by rw [up2_vn (by omega), up2_ne (by omega)]; exact h0) (by rw [up2_vv]) (fun q hq => by rw [up2_ne (by decide), up2_ne (by omega)]; exact hb q hq)
      refine ⟨α', q1, q2, fun q hq => ?_, fun q z1 z2 => ?_, fun d d0 d1 => ?_, fun z hz => ?_⟩
      · rw [q3 q (by omega), up2_ne (by omega), up2_vn (by omega)]
      · by_cases hqi : q = i
        · subst hqi; rw [q3 q (by omega), up2_ne (by omega), up2_vv]
        · rw [q4 q (by omega) z2, up2_ne (by decide), up2_ne (by omega)]
      · rw [q5 d d0 d1, up2_ne d0, up2_ne d1]
      · rw [q6 z hz, up2_vn hz, up2_ne (by omega)]
theorem layM_L {j t : Nat} (hj : j < 6) (ht : t ≤ 64) : ∀ (f i : Nat) (β : pSt), i ≤ t → t < i + f → β 1 0 = nI t →
    ∃ β1, f_X10_lay_L12 (nI j) f (nI i) β = some (nI t, up2 (up2 (up2 (up2 β1 3 j (nI t)) 1 0 0) 5 j 0) 6 j 0) ∧ (∀ q, i ≤ q → q < t → β1 4 (64 * j + q) = β 2 q) ∧ (∀ z, z < 64 * j + i ∨ 64 * j + t ≤ z → β1 4 z = β 4 z) ∧ (∀ d, ¬ d = 4 → β1 d = β d) := by
  intro f
  induction f with
  | zero => intro i β h1 h2; omega
  | succ f ih =>
    intro i β h1 h2 hb
    have hp : pin (nI j) 6 = true := pin_nI hj (by decide)
    have hc : (nI j).toNatClampNeg = j := cl_nI (by omega)
    rw [f_X10_lay_L12, hb]
    by_cases hit : i = t
    · subst hit
      rw [if_pos ((le_nI (by omega) (by omega)).mpr (Nat.le_refl _)), pg_t hp, hc, pl_s, pl_s, pg_t hp, pl_s, pg_t hp, pl_s, pg_t hp]
      refine ⟨β, ?_, fun q q1 q2 => by omega, fun _ _ => rfl, fun _ _ => rfl⟩
      have e : up2 (up2 (up2 (up2 β 3 j (nI i)) 1 0 0) 5 j 0) 6 j 0 3 j = nI i := by
        show up2 β 3 j (nI i) 3 j = _
        rw [up2_vv]
      rw [e]
    · have e0 : 64 * nI j + nI i = nI (64 * j + i) := by rw [show (64 : Int32) = nI 64 from rfl, pk_mul, nI_add]
      rw [if_neg (by rw [le_nI (by omega) (by omega)]; omega), pg_t (pin_nI (by omega) (by decide)), e0, pg_t (pin_nI (by omega) (by decide)), cl_nI (by omega), cl_nI (by omega), pl_s, nI_1]
      obtain ⟨β1, q1, q2, q3, q4⟩ := ih (i + 1) (up2 β 4 (64 * j + i) (β 2 i)) (by omega) (by omega) (by rw [up2_ne (by decide)]; exact hb)
      refine ⟨β1, q1, fun q z1 z2 => ?_, fun z hz => ?_, fun d hd => ?_⟩
      · by_cases hqi : q = i
        · subst hqi; rw [q3 _ (Or.inl (by omega)), up2_vv]
        · rw [q2 q (by omega) z2, up2_ne (by decide)]
      · rw [q3 z (by omega), up2_vn (by omega)]
      · rw [q4 d hd, up2_ne hd]
theorem sm_lay {α β : pSt} (hR : rA α β) (a0 : Int32) : pS (f_X9_lay a0 α) (f_X10_lay a0 β) := by
  rcases ix a0 (n := 6) (by decide) with h | ⟨j, hj, rfl⟩
  · obtain ⟨h1, h2⟩ := file_bad (α := α) (β := β) h
    refine pS_same (r := -101) hR ?_ ?_
    · unfold f_X9_lay; rw [h1]; rfl
    · unfold f_X10_lay; rw [h2]; rfl
  · obtain ⟨h1, h2⟩ := file_ok (α := α) (β := β) hj
    obtain ⟨⟨t, t1, t2, t3, t4, t5⟩, rf, rpp, ruu, ro, rss, rm, rn⟩ := id hR
    have hd : decide (j < 6) = true := decide_eq_true hj
    obtain ⟨α1, q1, q2, q3, q4, q5, q6⟩ := become_L hj t1 pF 0 (up2 α 0 (1 + j) 0) (Nat.zero_le _) (by show t < 0 + 128; omega) (by rw [up2_vn (by omega)]; exact t2) (by rw [up2_vv]; rfl) (fun q hq => by rw [up2_ne (by decide)]; exact t5 q hq)
    obtain ⟨β1, w1, w2, w3, w4⟩ := layM_L hj t1 pF 0 β (Nat.zero_le _) (by show t < 0 + 128; omega) t3
    rw [nI_0] at q1 w1
    refine ⟨nI t, up2 (up2 (up2 α1 2 j 0) 3 j 0) 0 0 0, up2 (up2 (up2 (up2 β1 3 j (nI t)) 1 0 0) 5 j 0) 6 j 0, ?_, ?_, ?_⟩
    · unfold f_X9_lay
      have e1 : f_X6_become (1 + j) 0 α = some ((), α1) := by
        unfold f_X6_become f_X6_empty
        rw [pl_s, pb_s]
        exact q1
      have e2 : f_X2_startBecomes j 0 α1 = some ((), up2 (up2 α1 2 j 0) 3 j 0) := rfl
      have e3 : ∀ a : pSt, f_X6_empty 0 a = some ((), up2 a 0 0 0) := fun _ => rfl
      rw [h1, pb_s, pO_1, pg_t hd, e1, pb_s, e2, pb_s, e3, pb_s, size6, pb_s, up2_vn (by omega), up2_ne (by decide), up2_ne (by decide), q2]
    · unfold f_X10_lay
      rw [h2, pb_s, if_neg (by decide)]
      exact w1
    · obtain ⟨α2, hα2⟩ : ∃ z, up2 (up2 (up2 α1 2 j 0) 3 j 0) 0 0 0 = z := ⟨_, rfl⟩
      obtain ⟨β2, hβ2⟩ : ∃ z, up2 (up2 (up2 (up2 β1 3 j (nI t)) 1 0 0) 5 j 0) 6 j 0 = z := ⟨_, rfl⟩
      rw [hα2, hβ2]
      have fa : ∀ d, ¬ d = 0 → ¬ d = 2 → ¬ d = 3 → ¬ d = 40 + (1 + j) → α2 d = α d := fun d d0 d2 d3 d4 => by
        rw [← hα2, up2_ne d0, up2_ne d3, up2_ne d2, q5 d d0 d4, up2_ne d0]
      have f0 : ∀ z, ¬ z = 0 → ¬ z = 1 + j → α2 0 z = α 0 z := fun z z0 z1 => by
        rw [← hα2, up2_vn z0, up2_ne (by decide), up2_ne (by decide), q6 z z1, up2_vn z1]
      have fb : ∀ d, ¬ d = 1 → ¬ d = 3 → ¬ d = 4 → ¬ d = 5 → ¬ d = 6 → β2 d = β d := fun d d1 d3 d4 d5 d6 => by
        rw [← hβ2, up2_ne d6, up2_ne d5, up2_ne d1, up2_ne d3, w4 d d4]
      have D : ∀ d, 7 ≤ d → β2 d = β d := fun d hd => fb d (by omega) (by omega) (by omega) (by omega) (by omega)
      refine ⟨⟨0, by decide, ?_, ?_, fun i hi => by omega, fun i hi => by omega⟩, fun f hf => ?_, ?_, ?_, ?_, fun r hr => (rss r hr).c (f0 _ (by omega) (by omega)) (fa _ (by omega) (by omega) (by omega) (by omega)) (by rw [D 23 (by decide)]) (fun i _ => by rw [D 25 (by decide)]), ?_, ?_⟩
      · rw [← hα2, up2_vv]; rfl
      · rw [← hβ2, up2_ne (by decide), up2_ne (by decide), up2_vv]; rfl
      · have g3 : ∀ z, β2 4 z = β1 4 z := fun z => by rw [← hβ2, up2_ne (by decide), up2_ne (by decide), up2_ne (by decide), up2_ne (by decide)]
        by_cases hfj : f = j
        · subst hfj
          have a2 : α2 2 f = 0 := by rw [← hα2, up2_ne (by decide), up2_ne (by decide), up2_vv]
          have a3 : α2 3 f = 0 := by rw [← hα2, up2_ne (by decide), up2_vv]
          have b5 : β2 5 f = 0 := by rw [← hβ2, up2_ne (by decide), up2_vv]
          have b6 : β2 6 f = 0 := by rw [← hβ2, up2_vv]
          have ab : α2 (40 + (1 + f)) = α1 (40 + (1 + f)) := by rw [← hα2, up2_ne (by omega), up2_ne (by omega), up2_ne (by omega)]
          refine ⟨⟨t, t1, ?_, ?_, fun q hq => ?_, fun q hq => ?_⟩, by rw [a2, b5], by rw [a3, b6], by rw [a2]; rfl, by rw [a3]; rfl⟩
          · rw [← hα2, up2_vn (by omega), up2_ne (by decide), up2_ne (by decide)]; exact q2
          · rw [← hβ2, up2_ne (by decide), up2_ne (by decide), up2_ne (by decide), up2_vv]
          · rw [ab, q4 q (Nat.zero_le _) hq, g3, w2 q (Nat.zero_le _) hq, up2_ne (by decide)]; exact t4 q hq
          · rw [ab, q4 q (Nat.zero_le _) hq, up2_ne (by decide)]; exact t5 q hq
        · refine (rf f hf).c (f0 _ (by omega) (by omega)) (fa _ (by omega) (by omega) (by omega) (by omega)) ?_ ?_ ?_ (fun q hq => ?_) ?_ ?_
          · rw [← hα2, up2_ne (by decide), up2_ne (by decide), up2_vn hfj, q5 2 (by decide) (by omega), up2_ne (by decide)]
          · rw [← hα2, up2_ne (by decide), up2_vn hfj, up2_ne (by decide), q5 3 (by decide) (by omega), up2_ne (by decide)]
          · rw [← hβ2, up2_ne (by decide), up2_ne (by decide), up2_ne (by decide), up2_vn hfj, w4 3 (by decide)]
          · rw [g3, w3 _ (by omega)]
          · rw [← hβ2, up2_ne (by decide), up2_vn hfj, up2_ne (by decide), up2_ne (by decide), w4 5 (by decide)]
          · rw [← hβ2, up2_vn hfj, up2_ne (by decide), up2_ne (by decide), up2_ne (by decide), w4 6 (by decide)]
      · obtain ⟨m, z1, z2, z3, z4⟩ := rpp
        have A : ∀ d, 4 ≤ d → d < 40 → α2 d = α d := fun d h4 h5 => fa d (by omega) (by omega) (by omega) (by omega)
        exact ⟨m, z1, by rw [A 10 (by decide) (by decide)]; exact z2, by rw [D 7 (by decide)]; exact z3, fun p hp => (z4 p hp).c (by rw [A 4 (by decide) (by decide)]) (by rw [A 5 (by decide) (by decide)]) (by rw [A 6 (by decide) (by decide)]) (by rw [A 8 (by decide) (by decide)]) (by rw [A 9 (by decide) (by decide)]) (fa _ (by omega) (by omega) (by omega) (by omega)) (by rw [D 8 (by decide)]) (by rw [D 9 (by decide)]) (fun i _ => by rw [D 10 (by decide)]) (by rw [D 11 (by decide)]) (by rw [D 13 (by decide)]) (by rw [D 14 (by decide)])⟩
      · have A : ∀ d, 4 ≤ d → d < 40 → α2 d = α d := fun d h4 h5 => fa d (by omega) (by omega) (by omega) (by omega)
        unfold rU ru; rw [A 11 (by decide) (by decide), D 15 (by decide), A 25 (by decide) (by decide), D 16 (by decide), A 26 (by decide) (by decide), D 17 (by decide), A 27 (by decide) (by decide), D 18 (by decide), A 28 (by decide) (by decide), D 19 (by decide), A 29 (by decide) (by decide), D 20 (by decide)]; exact ruu
      · have A : ∀ d, 4 ≤ d → d < 40 → α2 d = α d := fun d h4 h5 => fa d (by omega) (by omega) (by omega) (by omega)
        unfold rO; rw [A 23 (by decide) (by decide), D 21 (by decide), A 22 (by decide) (by decide), D 22 (by decide)]; exact ro
      · have A : ∀ d, 4 ≤ d → d < 40 → α2 d = α d := fun d h4 h5 => fa d (by omega) (by omega) (by omega) (by omega)
        unfold rM; rw [A 12 (by decide) (by decide), D 26 (by decide), A 30 (by decide) (by decide), D 27 (by decide)]; exact rm
      · have A : ∀ d, 4 ≤ d → d < 40 → α2 d = α d := fun d h4 h5 => fa d (by omega) (by omega) (by omega) (by omega)
        unfold rN; rw [A 16 (by decide) (by decide), D 28 (by decide), A 17 (by decide) (by decide), D 30 (by decide), A 18 (by decide) (by decide), D 31 (by decide)]; exact rn
