/-! define -/
theorem at6_any {i n k : Nat} {α : pSt} (hn : n ≤ pcap k) (ha : α 0 k = nI n) (hi : i ≤ 1000) : f_X6_at k (nI i) α = some (if i < n then α (40 + k) i else 0, α) := by
  by_cases h : i < n
  · rw [at6_ok hn ha h, if_pos h]
  · have hc := pcap_le k
    unfold f_X6_at
    rw [if_neg (nI_n0 (by omega)), ha, if_pos (by rw [le_nI (by omega) (by omega)]; omega), if_neg h]
theorem becomeP_L {n j N : Nat} (hn : n < 6) (hj : j < 6) (hN : N ≤ 64) : ∀ (f i : Nat) (α : pSt), i ≤ 48 → 48 < i + f → α 0 (1 + j) = nI N →
    ∃ α', f_X3_become_L21 n (1 + j) f (nI i) α = some ((), up2 (up2 (up2 α' 6 n 0) 8 n 0) 9 n 0) ∧ (∀ q, q < i → α' (60 + n) q = α (60 + n) q) ∧ (∀ q, i ≤ q → q < 48 → α' (60 + n) q = if 3 + q < N then α (40 + (1 + j)) (3 + q) else 0) ∧ (∀ d, ¬ d = 60 + n → α' d = α d) := by
  intro f
  have hcap : N ≤ pcap (1 + j) := by unfold pcap; rw [if_pos (by omega)]; exact hN
  induction f with
  | zero => intro i α h1 h2; omega
  | succ f ih =>
    intro i α h1 h2 h0
    rw [f_X3_become_L21]
    by_cases hi : i = 48
    · subst hi
      rw [if_pos (by decide)]
      exact ⟨α, rfl, fun _ _ => rfl, fun q q1 q2 => by omega, fun _ _ => rfl⟩
    · have q0 : 3 + nI i = nI (3 + i) := by rw [n3, nI_add]
      rw [if_neg (by rw [n48, le_nI (by omega) (by omega)]; omega), q0, at6_any hcap h0 (by omega), pb_s, pg_t (pin_nI (by omega) (by decide)), cl_nI (by omega), pl_s, nI_1]
      obtain ⟨α', w1, w2, w3, w4⟩ := ih (i + 1) (up2 α (60 + n) i (if 3 + i < N then α (40 + (1 + j)) (3 + i) else 0)) (by omega) (by omega) (by rw [up2_ne (by omega)]; exact h0)
      refine ⟨α', w1, fun q hq => ?_, fun q z1 z2 => ?_, fun d hd => ?_⟩
      · rw [w2 q (by omega), up2_vn (by omega)]
      · by_cases hqi : q = i
        · subst hqi; rw [w2 q (by omega), up2_vv]
        · rw [w3 q (by omega) z2, up2_ne (by omega)]
      · rw [w4 d hd, up2_ne hd]
theorem defM_L {n j m : Nat} (hn : n < 6) (hj : j < 6) (hm : m ≤ 12) : ∀ (f i : Nat) (β : pSt), i ≤ 4 * m → 4 * m < i + f → β 9 n = nI m → β 7 0 = nI n →
    ∃ β', f_X10_define_L104 (nI n) (nI j) f (nI i) β = some (nI n, up2 (up2 (up2 (up2 β' 11 n 0) 13 n 0) 14 n 0) 7 0 (nI (n + 1))) ∧ (∀ q, i ≤ q → q < 4 * m → β' 10 (48 * n + q) = β 4 (64 * j + (3 + q))) ∧ (∀ z, z < 48 * n + i ∨ 48 * n + 4 * m ≤ z → β' 10 z = β 10 z) ∧ (∀ d, ¬ d = 10 → β' d = β d) := by
  intro f
  have hp : pin (nI n) 6 = true := pin_nI hn (by decide)
  have hc : (nI n).toNatClampNeg = n := cl_nI (by omega)
  induction f with
  | zero => intro i β h1 h2; omega
  | succ f ih =>
    intro i β h1 h2 h9 h7
    have e4 : 4 * nI m = nI (4 * m) := by rw [n4, pk_mul]
    rw [f_X10_define_L104, pg_t hp, hc, h9, e4]
    by_cases hi : i = 4 * m
    · subst hi
      rw [if_pos ((le_nI (by omega) (by omega)).mpr (Nat.le_refl _)), pg_t hp, pl_s, pg_t hp, pl_s, pg_t hp, pl_s]
      have e7 : up2 (up2 (up2 β 11 n 0) 13 n 0) 14 n 0 7 0 = nI n := h7
      rw [e7, nI_1]
      exact ⟨β, rfl, fun q q1 q2 => by omega, fun _ _ => rfl, fun _ _ => rfl⟩
    · have q0 : 64 * nI j + 3 + nI i = nI (64 * j + (3 + i)) := by rw [n64, n3, pk_mul, nI_add, nI_add, Nat.add_assoc]
      have q1 : 48 * nI n + nI i = nI (48 * n + i) := by rw [n48, pk_mul, nI_add]
      rw [if_neg (by rw [le_nI (by omega) (by omega)]; omega), q0, q1, pg_t (pin_nI (by omega) (by decide)), pg_t (pin_nI (by omega) (by decide)), cl_nI (by omega), cl_nI (by omega), pl_s, nI_1]
      obtain ⟨β', w1, w2, w3, w4⟩ := ih (i + 1) (up2 β 10 (48 * n + i) (β 4 (64 * j + (3 + i)))) (by omega) (by omega) (by rw [up2_ne (by decide)]; exact h9) (by rw [up2_ne (by decide)]; exact h7)
      refine ⟨β', w1, fun q z1 z2 => ?_, fun z hz => ?_, fun d hd => ?_⟩
      · by_cases hqi : q = i
        · subst hqi; rw [w3 _ (Or.inl (by omega)), up2_vv]
        · rw [w2 q (by omega) z2, up2_ne (by decide)]
      · rw [w3 z (by omega), up2_vn (by omega)]
      · rw [w4 d hd, up2_ne hd]
theorem isFull4_1 {α : pSt} (ha : α 10 0 = nI 6) : f_X4_isFull α = some (1, α) := by
  unfold f_X4_isFull
  rw [ha, if_neg (by decide)]
theorem isFull4_0 {α : pSt} {n : Nat} (hn : n < 6) (ha : α 10 0 = nI n) : f_X4_isFull α = some (0, α) := by
  unfold f_X4_isFull
  rw [ha, if_pos (by rw [n6, lt_nI (by omega) (by omega)]; exact hn)]
theorem sm_define {α β : pSt} (hR : rA α β) (a0 : Int32) : pS (f_X9_define a0 α) (f_X10_define a0 β) := by
  rcases ix a0 (n := 6) (by decide) with h | ⟨j, hj, rfl⟩
  · obtain ⟨h1, h2⟩ := file_bad (α := α) (β := β) h
    refine pS_same (r := -101) hR ?_ ?_
    · unfold f_X9_define; rw [h1]; rfl
    · unfold f_X10_define; rw [h2]; rfl
  · obtain ⟨h1, h2⟩ := file_ok (α := α) (β := β) hj
    obtain ⟨c, c6, c1, c2, c3⟩ := clause_eq hj (hR.2.1 j hj)
    have hd : decide (j < 6) = true := decide_eq_true hj
    have hpj : pin (nI j) 6 = true := pin_nI hj (by decide)
    have hcj : (nI j).toNatClampNeg = j := cl_nI (by omega)
    by_cases hc0 : c = 0
    · obtain ⟨m, b, m1, m12, mN, mB, m2, mS⟩ := c3 hc0
      subst hc0
      obtain ⟨rt, rf, ⟨n, hn, ha, hb, hp⟩, ruu, ro, rss, rm, rn⟩ := id hR
      obtain ⟨-, f2, f3, f4, f5⟩ := rf j hj
      by_cases h6 : n = 6
      · subst h6
        refine pS_same (r := -104) hR ?_ ?_
        · unfold f_X9_define; rw [h1, pb_s, pO_1, pg_t hd, c1, pb_s, if_pos nI_0, isFull4_1 ha]; rfl
        · unfold f_X10_define; rw [h2, pb_s, if_neg (by decide), c2, pb_s, if_pos (by decide), hb, if_pos (by decide)]
      · have hn6 : n < 6 := by omega
        have hne6 : ¬ β 7 0 = 6 := by rw [hb, n6, eq_nI (by omega) (by omega)]; exact h6
        rcases pbl_ok f4 with hs | hs
        · -- the START does not fail
          obtain ⟨αx, w1, w2, w3, w4⟩ := becomeP_L hn6 hj (N := 4 * m + 4) (by omega) pF 0 (up2 (up2 α 4 n (nI j)) 5 n (nI m)) (Nat.zero_le _) (by decide) (by rw [up2_ne (by decide), up2_ne (by decide)]; exact mN)
          obtain ⟨βx, v1, v2, v3, v4⟩ := defM_L hn6 hj m12 pF 0 (up2 (up2 β 8 n (nI j)) 9 n (nI m)) (Nat.zero_le _) (by show 4 * m < 0 + 128; omega) (by rw [up2_vv]) (by rw [up2_ne (by decide), up2_ne (by decide)]; exact hb)
          rw [nI_0] at w1 v1
          have hpn : pin (nI n) 6 = true := pin_nI hn6 (by decide)
          have hcn : (nI n).toNatClampNeg = n := cl_nI (by omega)
          refine ⟨nI n, up2 (up2 (up2 (up2 αx 6 n 0) 8 n 0) 9 n 0) 10 0 (nI (n + 1)), up2 (up2 (up2 (up2 βx 11 n 0) 13 n 0) 14 n 0) 7 0 (nI (n + 1)), ?_, ?_, ?_⟩
          · have e1 : f_X3_become n (nI j) (1 + j) α = some ((), up2 (up2 (up2 αx 6 n 0) 8 n 0) 9 n 0) := by
              unfold f_X3_become
              have ea : up2 α 4 n (nI j) 0 (1 + j) = nI (4 * m + 4) := mN
              have eb : up2 α 4 n (nI j) (40 + (1 + j)) 2 = nI m := by rw [up2_ne (by omega), (mB 2 (by omega)).1, m2]
              rw [pl_s, show (2 : Int32) = nI 2 from rfl, at6_ok (n := 4 * m + 4) (by unfold pcap; rw [if_pos (by omega)]; omega) ea (by omega), pb_s, eb, if_neg (by rw [n12, lt_nI (by omega) (by omega)]; omega), pl_s]
              exact w1
            have e10 : up2 (up2 (up2 αx 6 n 0) 8 n 0) 9 n 0 10 0 = nI n := by
              rw [up2_ne (by decide), up2_ne (by decide), up2_ne (by decide), w4 10 (by omega), up2_ne (by decide), up2_ne (by decide)]; exact ha
            unfold f_X9_define f_X4_enlist
            rw [h1, pb_s, pO_1, pg_t hd, c1, pb_s, if_pos nI_0, isFull4_0 hn6 ha, pb_s, if_pos rfl, if_pos hs, if_neg (by rw [ha, n6, le_nI (by omega) (by omega)]; omega), ha, pg_t hpn, hcn, e1, pb_s, e10, nI_1, pl_s, up2_vv, nI_pred]
            rfl
          · unfold f_X10_define
            have ex : up2 β 8 n (nI j) 4 (64 * j + 2) = nI m := by rw [up2_ne (by decide), (mB 2 (by omega)).2.1, m2]
            have e642 : 64 * nI j + 2 = nI (64 * j + 2) := by rw [n64, n2, pk_mul, nI_add]
            rw [h2, pb_s, if_neg (by decide), c2, pb_s, if_pos (by decide), if_neg hne6, pg_t hpj, hcj, ← f2, if_pos hs, hb, pg_t hpn, hcn, pl_s, e642, pg_t (pin_nI (by omega) (by decide)), pg_t hpn, cl_nI (by omega), ex, pl_s]
            exact v1
          · obtain ⟨α2, hα2⟩ : ∃ z, up2 (up2 (up2 (up2 αx 6 n 0) 8 n 0) 9 n 0) 10 0 (nI (n + 1)) = z := ⟨_, rfl⟩
            obtain ⟨β2, hβ2⟩ : ∃ z, up2 (up2 (up2 (up2 βx 11 n 0) 13 n 0) 14 n 0) 7 0 (nI (n + 1)) = z := ⟨_, rfl⟩
            rw [hα2, hβ2]
            have fa : ∀ d, ¬ (4 ≤ d ∧ d ≤ 10) → ¬ d = 60 + n → α2 d = α d := fun d h1 h2 => by
              rw [← hα2, up2_ne (by omega), up2_ne (by omega), up2_ne (by omega), up2_ne (by omega), w4 d h2, up2_ne (by omega), up2_ne (by omega)]
            have fb : ∀ d, ¬ (7 ≤ d ∧ d ≤ 14) → β2 d = β d := fun d h1 => by
              rw [← hβ2, up2_ne (by omega), up2_ne (by omega), up2_ne (by omega), up2_ne (by omega), v4 d (by omega), up2_ne (by omega), up2_ne (by omega)]
            refine ⟨rt.c (by rw [fa 0 (by omega) (by omega)]) (fa 40 (by omega) (by omega)) (fb 1 (by omega)) (fb 2 (by omega)), fun f hf => (rf f hf).c (by rw [fa 0 (by omega) (by omega)]) (fa _ (by omega) (by omega)) (by rw [fa 2 (by omega) (by omega)]) (by rw [fa 3 (by omega) (by omega)]) (by rw [fb 3 (by omega)]) (fun i _ => by rw [fb 4 (by omega)]) (by rw [fb 5 (by omega)]) (by rw [fb 6 (by omega)]), ⟨n + 1, by omega, by rw [← hα2, up2_vv], by rw [← hβ2, up2_vv], fun p hp' => ?_⟩, ?_, ?_, fun r hr => (rss r hr).c (by rw [fa 0 (by omega) (by omega)]) (fa _ (by omega) (by omega)) (by rw [fb 23 (by omega)]) (fun i _ => by rw [fb 25 (by omega)]), ?_, ?_⟩
            · by_cases hpn' : p = n
              · subst hpn'
                have a4 : α2 4 p = nI j := by rw [← hα2, up2_ne (by decide), up2_ne (by decide), up2_ne (by decide), up2_ne (by decide), w4 4 (by omega), up2_ne (by decide), up2_vv]
                have a5 : α2 5 p = nI m := by rw [← hα2, up2_ne (by decide), up2_ne (by decide), up2_ne (by decide), up2_ne (by decide), w4 5 (by omega), up2_vv]
                have a6 : α2 6 p = 0 := by rw [← hα2, up2_ne (by decide), up2_ne (by decide), up2_ne (by decide), up2_vv]
                have a8 : α2 8 p = 0 := by rw [← hα2, up2_ne (by decide), up2_ne (by decide), up2_vv]
                have a9 : α2 9 p = 0 := by rw [← hα2, up2_ne (by decide), up2_vv]
                have b8 : β2 8 p = nI j := by rw [← hβ2, up2_ne (by decide), up2_ne (by decide), up2_ne (by decide), up2_ne (by decide), v4 8 (by decide), up2_ne (by decide), up2_vv]
                have b9 : β2 9 p = nI m := by rw [← hβ2, up2_ne (by decide), up2_ne (by decide), up2_ne (by decide), up2_ne (by decide), v4 9 (by decide), up2_vv]
                have b11 : β2 11 p = 0 := by rw [← hβ2, up2_ne (by decide), up2_ne (by decide), up2_ne (by decide), up2_vv]
                have b13 : β2 13 p = 0 := by rw [← hβ2, up2_ne (by decide), up2_ne (by decide), up2_vv]
                have b14 : β2 14 p = 0 := by rw [← hβ2, up2_ne (by decide), up2_vv]
                have ap : ∀ q, q < 4 * m → α2 (60 + p) q = nI (b (3 + q)) := fun q hq => by
                  rw [← hα2, up2_ne (by omega), up2_ne (by omega), up2_ne (by omega), up2_ne (by omega), w3 q (Nat.zero_le _) (by omega), if_pos (by omega), up2_ne (by omega), up2_ne (by omega), (mB (3 + q) (by omega)).1]
                have bp : ∀ q, q < 4 * m → β2 10 (48 * p + q) = nI (b (3 + q)) := fun q hq => by
                  rw [← hβ2, up2_ne (by decide), up2_ne (by decide), up2_ne (by decide), up2_ne (by decide), v2 q (Nat.zero_le _) hq, up2_ne (by decide), up2_ne (by decide), (mB (3 + q) (by omega)).2.1]
                refine ⟨by rw [a4, b8], ⟨m, m1, m12, a5, b9, fun q hq => by rw [ap q hq, bp q hq], fun r hr => ?_⟩, by rw [a6, b11], by rw [a8, b13], by rw [a8]; rfl, by rw [a9, b14]⟩
                obtain ⟨s1, s2, s3, s4, s5⟩ := mS r hr
                exact ⟨b (3 + 4 * r), b (3 + 4 * r + 1), b (3 + 4 * r + 2), b (3 + 4 * r + 3), ap (4 * r) (by omega), ap (4 * r + 1) (by omega), ap (4 * r + 2) (by omega), ap (4 * r + 3) (by omega), s1, s2, (mB (3 + 4 * r + 2) (by omega)).2.2, (mB (3 + 4 * r + 3) (by omega)).2.2, s3, s4, s5⟩
              · have hpl : p < n := by omega
                refine (hp p hpl).c ?_ ?_ ?_ ?_ ?_ ?_ ?_ ?_ (fun i hi => ?_) ?_ ?_ ?_
                · rw [← hα2, up2_ne (by decide), up2_ne (by decide), up2_ne (by decide), up2_ne (by decide), w4 4 (by omega), up2_ne (by decide), up2_vn hpn']
                · rw [← hα2, up2_ne (by decide), up2_ne (by decide), up2_ne (by decide), up2_ne (by decide), w4 5 (by omega), up2_vn hpn', up2_ne (by decide)]
                · rw [← hα2, up2_ne (by decide), up2_ne (by decide), up2_ne (by decide), up2_vn hpn', w4 6 (by omega), up2_ne (by decide), up2_ne (by decide)]
                · rw [← hα2, up2_ne (by decide), up2_ne (by decide), up2_vn hpn', up2_ne (by decide), w4 8 (by omega), up2_ne (by decide), up2_ne (by decide)]
                · rw [← hα2, up2_ne (by decide), up2_vn hpn', up2_ne (by decide), up2_ne (by decide), w4 9 (by omega), up2_ne (by decide), up2_ne (by decide)]
                · rw [fa (60 + p) (by omega) (by omega)]
                · rw [← hβ2, up2_ne (by decide), up2_ne (by decide), up2_ne (by decide), up2_ne (by decide), v4 8 (by decide), up2_ne (by decide), up2_vn hpn']
                · rw [← hβ2, up2_ne (by decide), up2_ne (by decide), up2_ne (by decide), up2_ne (by decide), v4 9 (by decide), up2_vn hpn', up2_ne (by decide)]
                · rw [← hβ2, up2_ne (by decide), up2_ne (by decide), up2_ne (by decide), up2_ne (by decide), v3 _ (by omega), up2_ne (by decide), up2_ne (by decide)]
                · rw [← hβ2, up2_ne (by decide), up2_ne (by decide), up2_ne (by decide), up2_vn hpn', v4 11 (by decide), up2_ne (by decide), up2_ne (by decide)]
                · rw [← hβ2, up2_ne (by decide), up2_ne (by decide), up2_vn hpn', up2_ne (by decide), v4 13 (by decide), up2_ne (by decide), up2_ne (by decide)]
                · rw [← hβ2, up2_ne (by decide), up2_vn hpn', up2_ne (by decide), up2_ne (by decide), v4 14 (by decide), up2_ne (by decide), up2_ne (by decide)]
            · unfold rU ru; rw [fa 11 (by omega) (by omega), fb 15 (by omega), fa 25 (by omega) (by omega), fb 16 (by omega), fa 26 (by omega) (by omega), fb 17 (by omega), fa 27 (by omega) (by omega), fb 18 (by omega), fa 28 (by omega) (by omega), fb 19 (by omega), fa 29 (by omega) (by omega), fb 20 (by omega)]; exact ruu
            · unfold rO; rw [fa 23 (by omega) (by omega), fb 21 (by omega), fa 22 (by omega) (by omega), fb 22 (by omega)]; exact ro
            · unfold rM; rw [fa 12 (by omega) (by omega), fb 26 (by omega), fa 30 (by omega) (by omega), fb 27 (by omega)]; exact rm
            · unfold rN; rw [fa 16 (by omega) (by omega), fb 28 (by omega), fa 17 (by omega) (by omega), fb 30 (by omega), fa 18 (by omega) (by omega), fb 31 (by omega)]; exact rn
        · -- it fails
          have hs' : ¬ α 2 j = 0 := by rw [hs]; decide
          have hfin : rA (up2 α 3 j 1) (up2 β 6 j 1) := by
            refine ⟨rt, fun f hf => ?_, rP_k ⟨n, hn, ha, hb, hp⟩ (by intro c hc; simp (disch := omega) only [up2_ne]) ⟨rfl, rfl, rfl, rfl, rfl, rfl⟩ ⟨rfl, rfl, rfl, rfl, rfl, rfl, rfl⟩, ruu, ro, rs_k rss (by intro c hc; simp (disch := omega) only [up2_ne]) rfl ⟨rfl, rfl⟩, rm, rn⟩
            obtain ⟨⟨z, z1, z2, z3, z4, z5⟩, g2, g3, g4, g5⟩ := rf f hf
            have e0 : up2 α 3 j 1 (40 + (1 + f)) = α (40 + (1 + f)) := up2_ne (by omega)
            refine ⟨⟨z, z1, z2, z3, by rw [e0]; exact z4, by rw [e0]; exact z5⟩, g2, ?_, g4, ?_⟩
            · by_cases hfj : f = j
              · subst hfj; rw [up2_vv, up2_vv]
              · rw [up2_vn hfj, up2_vn hfj]; exact g3
            · by_cases hfj : f = j
              · subst hfj; rw [up2_vv]; rfl
              · rw [up2_vn hfj]; exact g5
          rcases pbl_ok f5 with hf' | hf'
          · refine ⟨-31, up2 α 3 j 1, up2 β 6 j 1, ?_, ?_, hfin⟩
            · unfold f_X9_define f_X2_failToStart; rw [h1, pb_s, pO_1, pg_t hd, c1, pb_s, if_pos nI_0, isFull4_0 hn6 ha, pb_s, if_pos rfl, if_neg hs', if_pos hf']; rfl
            · unfold f_X10_define; rw [h2, pb_s, if_neg (by decide), c2, pb_s, if_pos (by decide), if_neg hne6, pg_t hpj, hcj, ← f2, if_neg hs', pg_t hpj, ← f3, if_pos hf', pg_t hpj]; rfl
          · have hf'' : ¬ α 3 j = 0 := by rw [hf']; decide
            refine ⟨-32, up2 α 3 j 1, up2 β 6 j 1, ?_, ?_, hfin⟩
            · unfold f_X9_define f_X2_failToStart; rw [h1, pb_s, pO_1, pg_t hd, c1, pb_s, if_pos nI_0, isFull4_0 hn6 ha, pb_s, if_pos rfl, if_neg hs', if_neg hf'']; rfl
            · unfold f_X10_define; rw [h2, pb_s, if_neg (by decide), c2, pb_s, if_pos (by decide), if_neg hne6, pg_t hpj, hcj, ← f2, if_neg hs', pg_t hpj, ← f3, if_neg hf'', pg_t hpj]; rfl
    · have q1 : ¬ nI c = 0 := by rw [n0, eq_nI (by omega) (by omega)]; exact hc0
      have q2 : ¬ nI c ≤ 0 := by rw [n0, le_nI (by omega) (by omega)]; omega
      refine pS_same (r := (-10) - nI c) hR ?_ ?_
      · unfold f_X9_define; rw [h1, pb_s, pO_1, pg_t hd, c1, pb_s, if_neg q1]
      · unfold f_X10_define; rw [h2, pb_s, if_neg (by decide), c2, pb_s, if_neg q2]
