/-! again -/
def chN : Nat → Nat → Nat
  | _, 0 => 1
  | 0, _ + 1 => 0
  | n + 1, k + 1 => chN n k + chN n (k + 1)
theorem ch_big : ∀ n k, n < k → chN n k = 0
  | 0, 0, h => by omega
  | 0, k + 1, _ => rfl
  | n + 1, 0, h => by omega
  | n + 1, k + 1, h => by rw [chN, ch_big n k (by omega), ch_big n (k + 1) (by omega)]
/-- in how many ways i of n runs are right -/
def wvN (r w : Nat) : Nat → Nat → Nat
  | 0, i => if i = 0 then 1 else 0
  | n + 1, i => wvN r w n i * w + (if i = 0 then 0 else wvN r w n (i - 1) * r)
theorem wv_eq (r w : Nat) : ∀ n i, wvN r w n i = chN n i * r ^ i * w ^ (n - i)
  | 0, 0 => rfl
  | 0, i + 1 => by show 0 = 0 * _ * _; rw [Nat.zero_mul, Nat.zero_mul]
  | n + 1, 0 => by
    rw [wvN, wv_eq r w n 0, if_pos rfl, Nat.add_zero]
    have c1 : chN n 0 = 1 := by cases n <;> rfl
    have c2 : chN (n + 1) 0 = 1 := rfl
    rw [c1, c2, Nat.sub_zero, Nat.sub_zero, Nat.pow_zero, Nat.one_mul, Nat.one_mul, Nat.pow_succ]
  | n + 1, i + 1 => by
    rw [wvN, if_neg (by omega), wv_eq r w n (i + 1), Nat.add_sub_cancel, wv_eq r w n i, chN, show n + 1 - (i + 1) = n - i by omega, Nat.add_mul, Nat.add_mul, Nat.add_comm (chN n i * _ * _)]
    congr 1
    · by_cases c : i + 1 ≤ n
      · rw [Nat.mul_assoc, ← Nat.pow_succ, show (n - (i + 1)).succ = n - i by omega]
      · rw [ch_big n (i + 1) (by omega), Nat.zero_mul, Nat.zero_mul, Nat.zero_mul, Nat.zero_mul]
    · rw [Nat.pow_succ]
      rw [Nat.mul_assoc, Nat.mul_comm _ r, ← Nat.mul_assoc, Nat.mul_assoc _ _ r]
def mjN (n r w : Nat) : Nat := fb_sm (fun t => wvN r w n (n / 2 + 1 + t)) (n - n / 2)
theorem mj_eq (n r w : Nat) : mjN n r w = fb_sm (fun t => chN n (n / 2 + 1 + t) * r ^ (n / 2 + 1 + t) * w ^ (n - (n / 2 + 1 + t))) (n - n / 2) := fb_sm_cong (fun t _ => wv_eq r w n _)
theorem ch_le : ∀ n, n < 8 → ∀ k, k < 8 → chN n k ≤ 35 := by decide +kernel
theorem mj_le {n r w : Nat} (hn : n ≤ 7) (hr : r ≤ 64) (hw : w ≤ 64) : mjN n r w ≤ 4398046511104000 := by
  rw [mj_eq]
  have e3 : 64 ^ 7 = 4398046511104 := by decide
  have b := fb_sm_bound (f := fun t => chN n (n / 2 + 1 + t) * r ^ (n / 2 + 1 + t) * w ^ (n - (n / 2 + 1 + t))) (c := 35 * 4398046511104) (n := n - n / 2) (fun t ht => by
    have a1 := ch_le n (by omega) (n / 2 + 1 + t) (by omega)
    have a2 : r ^ (n / 2 + 1 + t) ≤ 64 ^ (n / 2 + 1 + t) := Nat.pow_le_pow_left hr _
    have a3 : w ^ (n - (n / 2 + 1 + t)) ≤ 64 ^ (n - (n / 2 + 1 + t)) := Nat.pow_le_pow_left hw _
    have a4 : 64 ^ (n / 2 + 1 + t) * 64 ^ (n - (n / 2 + 1 + t)) = 64 ^ n := by rw [← Nat.pow_add]; congr 1; omega
    have a5 : 64 ^ n ≤ 64 ^ 7 := Nat.pow_le_pow_right (by decide) hn
    rw [Nat.mul_assoc]
    refine Nat.mul_le_mul a1 (Nat.le_trans (Nat.mul_le_mul a2 a3) ?_)
    omega)
  have : (n - n / 2) * (35 * 4398046511104) ≤ 4 * (35 * 4398046511104) := Nat.mul_le_mul_right _ (by omega)
  omega
theorem mj1 (r w : Nat) : mjN 1 r w = r := by
  rw [mj_eq]
  show 0 + 1 * r ^ 1 * w ^ 0 = r
  rw [Nat.pow_one, Nat.pow_zero]
  omega
theorem mj3 (r w : Nat) : mjN 3 r w = 3 * r ^ 2 * w + r ^ 3 := by
  rw [mj_eq]
  show 0 + 3 * r ^ 2 * w ^ 1 + 1 * r ^ 3 * w ^ 0 = _
  rw [Nat.pow_one, Nat.pow_zero, Nat.mul_one, Nat.one_mul, Nat.zero_add]
theorem mj5 (r w : Nat) : mjN 5 r w = 10 * r ^ 3 * w ^ 2 + 5 * r ^ 4 * w + r ^ 5 := by
  rw [mj_eq]
  show 0 + 10 * r ^ 3 * w ^ 2 + 5 * r ^ 4 * w ^ 1 + 1 * r ^ 5 * w ^ 0 = _
  rw [Nat.pow_one, Nat.pow_zero, Nat.mul_one, Nat.one_mul, Nat.zero_add]
theorem mj7 (r w : Nat) : mjN 7 r w = 35 * r ^ 4 * w ^ 3 + 21 * r ^ 5 * w ^ 2 + 7 * r ^ 6 * w + r ^ 7 := by
  rw [mj_eq]
  show 0 + 35 * r ^ 4 * w ^ 3 + 21 * r ^ 5 * w ^ 2 + 7 * r ^ 6 * w ^ 1 + 1 * r ^ 7 * w ^ 0 = _
  rw [Nat.pow_one, Nat.pow_zero, Nat.mul_one, Nat.one_mul, Nat.zero_add]
theorem mo3 : ∀ R, R < 65 → ∀ r, r < R → 3 * r ^ 2 * (R - r) + r ^ 3 ≤ 3 * (r + 1) ^ 2 * (R - (r + 1)) + (r + 1) ^ 3 := by decide +kernel
theorem mo5 : ∀ R, R < 65 → ∀ r, r < R → 10 * r ^ 3 * (R - r) ^ 2 + 5 * r ^ 4 * (R - r) + r ^ 5 ≤ 10 * (r + 1) ^ 3 * (R - (r + 1)) ^ 2 + 5 * (r + 1) ^ 4 * (R - (r + 1)) + (r + 1) ^ 5 := by decide +kernel
theorem mo7 : ∀ R, R < 65 → ∀ r, r < R → 35 * r ^ 4 * (R - r) ^ 3 + 21 * r ^ 5 * (R - r) ^ 2 + 7 * r ^ 6 * (R - r) + r ^ 7 ≤ 35 * (r + 1) ^ 4 * (R - (r + 1)) ^ 3 + 21 * (r + 1) ^ 5 * (R - (r + 1)) ^ 2 + 7 * (r + 1) ^ 6 * (R - (r + 1)) + (r + 1) ^ 7 := by decide +kernel
theorem mo_1 {n R r : Nat} (hn : n = 1 ∨ n = 3 ∨ n = 5 ∨ n = 7) (hR : R ≤ 64) (hr : r < R) : mjN n r (R - r) ≤ mjN n (r + 1) (R - (r + 1)) := by
  rcases hn with rfl | rfl | rfl | rfl
  · rw [mj1, mj1]; omega
  · rw [mj3, mj3]; exact mo3 R (by omega) r hr
  · rw [mj5, mj5]; exact mo5 R (by omega) r hr
  · rw [mj7, mj7]; exact mo7 R (by omega) r hr
theorem mo_all {n R : Nat} (hn : n = 1 ∨ n = 3 ∨ n = 5 ∨ n = 7) (hR : R ≤ 64) {r : Nat} : ∀ d, r + d ≤ R → mjN n r (R - r) ≤ mjN n (r + d) (R - (r + d))
  | 0, _ => Nat.le_refl _
  | d + 1, h => Nat.le_trans (mo_all hn hR d (by omega)) (mo_1 hn hR (by omega))
theorem ch10 : ∀ n, n < 8 → ∀ k, k ≤ n → f_X10_choose (nI n) (nI k) = some (lN (chN n k)) := by decide +kernel
def okA (R r a b n : Nat) : Bool := decide (n % 2 = 1) && decide (a * R ^ n ≤ mjN n r (R - r) * b)
theorem okA_eq {c : Nat → Nat} {R a b n k : Nat} (hc : ∀ i, c i ≤ R) (hR : R ≤ 64) (hn : n = 1 ∨ n = 3 ∨ n = 5 ∨ n = 7) : alN (fun i => decide (R ^ n * a ≤ mjN n (c i) (R - c i) * b)) (k + 1) = okA R (c (wsN c k)) a b n := by
  have w := ws_lt c k
  have o : decide (n % 2 = 1) = true := decide_eq_true (by omega)
  rw [Bool.eq_iff_iff, al_iff]
  unfold okA
  rw [o, Bool.true_and, decide_eq_true_iff, Nat.mul_comm a]
  constructor
  · intro h
    exact of_decide_eq_true (h (wsN c k) (by omega))
  · intro h i hi
    have m := ws_min c k i (by omega)
    have q := mo_all hn hR (r := c (wsN c k)) (c i - c (wsN c k)) (by have := hc i; omega)
    rw [show c (wsN c k) + (c i - c (wsN c k)) = c i by omega] at q
    have q2 := Nat.mul_le_mul_right b q
    exact decide_eq_true (by omega)
section TRS5
variable {S P M : PS} {nd rw wd : Nat} {dz : Nat → Nat} {rt : Nat → Nat → Nat}
theorem ar7 {R r : Nat} {U : PS} {v : Nat → Nat} (hR : R ≤ 64) (hr : r ≤ R) (h9 : P.1 5 = nI R) (hU : ∀ i, i < 8 → U.2.2 7 i = lN (v i)) : ∃ U2, f_X7_addRun U P (nI r) = some U2 ∧ SX [] [] [7] U U2 ∧ ∀ i, i < 8 → U2.2.2 7 i = lN (v i * (R - r) + (if i = 0 then 0 else v (i - 1) * r)) := by
  have key : ∃ U2, L_X7_addRun_13 (nI r) (nI (R - r)) FU 7 U = some U2 ∧ (SX [] [] [7] U U2 ∧ (∀ i, 0 < i → i < 8 → U2.2.2 7 i = lN (v i * (R - r) + v (i - 1) * r)) ∧ U2.2.2 7 0 = lN (v 0)) := by
    unfold L_X7_addRun_13
    refine loopF_inv (fun t x => x.1 = nI (7 - t) ∧ SX [] [] [7] U x.2 ∧ (∀ i, 7 - t < i → i < 8 → x.2.2.2 7 i = lN (v i * (R - r) + v (i - 1) * r)) ∧ ∀ i, i ≤ 7 - t → x.2.2.2 7 i = lN (v i)) _ 7 ?_ ?_ 7 0 (7, U) FU (by omega) (FU_lt (by omega)) ⟨rfl, SX.rf, fun i h1 h2 => by omega, fun i hi => hU i (by omega)⟩
    · rintro t ht ⟨u, W⟩ ⟨k1, k2, k3, k4⟩
      dsimp only at k1 k2 k3 k4
      subst k1
      left
      unfold B_X7_addRun_13
      dsimp only
      rw [if_neg (nI_nle (by omega) (by omega)), rdL_nI (by omega) (by decide), nI_m1 (by omega), rdL_nI (by omega) (by decide), k4 _ (Nat.le_refl _), k4 (7 - t - 1) (by omega)]
      simp only [b1_some]
      rw [nI_l (by omega), nI_l (by omega), lN_mul, lN_mul, lN_add, wL_nI (by omega) (by decide)]
      simp only [b1_some, bn]
      have e : nI (7 - t) + (-1) = nI (7 - (t + 1)) := by
        rw [show 7 - t = (7 - (t + 1)) + 1 by omega, pk_m1]
      rw [e]
      refine ⟨_, rfl, rfl, k2.sL _ (by decide), fun i h1 h2 => ?_, fun i hi => ?_⟩
      · show vp_updL (W.2.2 7) (7 - t) _ i = _
        rw [vp_s]
        by_cases z : i = 7 - t
        · rw [if_pos z, z]
        · rw [if_neg z]; exact k3 i (by omega) h2
      · show vp_updL (W.2.2 7) (7 - t) _ i = _
        rw [vp_s, if_neg (by omega)]
        exact k4 i (by omega)
    · rintro ⟨u, W⟩ ⟨k1, k2, k3, k4⟩
      dsimp only at k1 k2 k3 k4
      subst k1
      refine ⟨W, ?_, k2, fun i h1 h2 => k3 i (by omega) h2, k4 0 (by omega)⟩
      unfold B_X7_addRun_13
      dsimp only
      rw [if_pos (show nI (7 - 7) ≤ 0 by decide)]
  obtain ⟨U2, y1, y2, y3, y4⟩ := key
  refine ⟨sL U2 7 (vp_updL (U2.2.2 7) 0 (lN (v 0 * (R - r)))), ?_, y2.sL _ (by decide), fun i hi => ?_⟩
  · unfold f_X7_addRun
    simp only [bn]
    rw [h9, pk_sub hr, y1]
    simp only [b1_some]
    rw [rdL_0 (by decide) (by decide), y4]
    simp only [b1_some]
    rw [nI_l (by omega), lN_mul, show (0 : Int32) = nI 0 from rfl, wL_nI (by decide) (by decide)]
    rfl
  · show vp_updL (U2.2.2 7) 0 _ i = _
    rw [vp_s]
    by_cases z : i = 0
    · rw [if_pos z, if_pos z, z, Nat.add_zero]
    · rw [if_neg z, if_neg z]; exact y3 i (by omega) hi
theorem mw7 {U : PS} {v : Nat → Nat} {n : Nat} (hn : n ≤ 7) (hU : ∀ i, i < 8 → U.2.2 7 i = lN (v i)) : f_X7_majorityWays U (nI n) = some (lN (fb_sm (fun t => v (n / 2 + 1 + t)) (n - n / 2))) := by
  have key : L_X7_majorityWays_9 U (nI n) FU 0 (nI (n / 2 + 1)) = some (lN (fb_sm (fun t => v (n / 2 + 1 + t)) (n - n / 2))) := by
    unfold L_X7_majorityWays_9
    refine loopF_seq0 (fun j => (lN (fb_sm (fun t => v (n / 2 + 1 + t)) j), nI (n / 2 + 1 + j))) (n - n / 2) _ rfl (fun j hj => ?_) ?_ (FU_lt (by omega))
    · unfold B_X7_majorityWays_9
      dsimp only
      rw [if_neg (nI_nlt (by omega) (by omega)), rdL_nI (by omega) (by decide), hU _ (by omega)]
      simp only [b1_some, bn, nI_1, lN_add]
      rfl
    · unfold B_X7_majorityWays_9
      dsimp only
      rw [if_pos (nI_lt (by omega) (by omega))]
  unfold f_X7_majorityWays
  simp only [bn]
  rw [show (2 : Int32) = nI 2 from rfl, pk_div (by omega) (by decide) (by decide), nI_1, key]
  rfl
theorem agL {R r a b : Nat} {U : PS} (hR : R ≤ 64) (hr : r ≤ R) (h9 : P.1 5 = nI R) (ha : a ≤ 100) (hb : b ≤ 100) (hU : ∀ i, i < 8 → U.2.2 7 i = lN (wvN r (R - r) 0 i)) : ∃ U2, L_X7_runsForMajority_30 P (nI a) (nI b) (nI r) FU 1 1 U = some (ffI (okA R r a b) 7, U2) ∧ SX [] [] [7] U U2 := by
  have key : ∃ x, L_X7_runsForMajority_30 P (nI a) (nI b) (nI r) FU 1 1 U = some x ∧ (x.1 = ffI (okA R r a b) 7 ∧ SX [] [] [7] U x.2) := by
    unfold L_X7_runsForMajority_30
    refine loopF_inv (fun j x => x.1 = lN (R ^ j) ∧ x.2.1 = nI (j + 1) ∧ SX [] [] [7] U x.2.2 ∧ (∀ i, i < 8 → x.2.2.2.2 7 i = lN (wvN r (R - r) j i)) ∧ ffI (okA R r a b) 7 = ffI (okA R r a b) (7 - j)) _ 7 ?_ ?_ 7 0 (1, 1, U) FU (by omega) (FU_lt (by omega)) ⟨rfl, rfl, SX.rf, hU, rfl⟩
    · rintro j hj ⟨u1, u2, W⟩ ⟨k1, k2, k3, k4, k5⟩
      dsimp only at k1 k2 k3 k4 k5
      subst k1 k2
      obtain ⟨W2, y1, y2, y3⟩ := ar7 hR hr h9 k4
      have y4 : ∀ i, i < 8 → W2.2.2 7 i = lN (wvN r (R - r) (j + 1) i) := fun i hi => by rw [y3 i hi, wvN]
      have m1 : lN (R ^ j) * lN R = lN (R ^ (j + 1)) := by rw [lN_mul, Nat.pow_succ]
      have mw := mw7 (n := j + 1) (by omega) y4
      change f_X7_majorityWays W2 (nI (j + 1)) = some (lN (mjN (j + 1) r (R - r))) at mw
      rw [ff_s hj] at k5
      unfold B_X7_runsForMajority_30
      dsimp only
      rw [if_neg (show ¬ (7 : Int32) < nI (j + 1) from nI_nlt (a := 7) (by omega) (by decide)), y1]
      simp only [b1_some, bn]
      rw [h9, nI_l (by omega), nI_l (by omega), nI_l (by omega), m1, and1 (by omega), mw]
      simp only [b1_some]
      rw [lN_mul, lN_mul]
      have e1 := pow_le (x := R) (n := j + 1) hR (by omega)
      have e2 := mj_le (n := j + 1) (r := r) (w := R - r) (by omega) (by omega) (by omega)
      have e3 := mul_100 (x := mjN (j + 1) r (R - r)) (b := b) (by omega) hb
      have e4 := mul_100 (x := R ^ (j + 1)) (b := a) (by omega) ha
      rw [Nat.mul_comm] at e4
      have cc : lg_cmp (lN (mjN (j + 1) r (R - r) * b)) (lN (a * R ^ (j + 1))) < 0 ↔ mjN (j + 1) r (R - r) * b < a * R ^ (j + 1) := by rw [cmp_lt, pk_lLT e3 e4]
      by_cases od : (j + 1) % 2 = 1
      · rw [if_pos (show nI ((j + 1) % 2) = 1 by rw [od]; rfl)]
        by_cases z : a * R ^ (j + 1) ≤ mjN (j + 1) r (R - r) * b
        · right
          have o : okA R r a b (j + 1) = true := by unfold okA; rw [decide_eq_true od, decide_eq_true z]; rfl
          rw [if_pos o] at k5
          rw [if_neg (fun k => by rw [cc] at k; omega)]
          exact ⟨_, rfl, k5.symm, k3.tr y2⟩
        · left
          have o : ¬ okA R r a b (j + 1) = true := by
            unfold okA
            intro k
            rw [Bool.and_eq_true] at k
            exact z (of_decide_eq_true k.2)
          rw [if_neg o] at k5
          rw [if_pos (cc.mpr (by omega)), nI_1]
          exact ⟨_, rfl, rfl, rfl, k3.tr y2, y4, k5⟩
      · left
        have o : ¬ okA R r a b (j + 1) = true := by
          unfold okA
          intro k
          rw [Bool.and_eq_true] at k
          exact od (of_decide_eq_true k.1)
        rw [if_neg o] at k5
        rw [if_neg (show ¬ nI ((j + 1) % 2) = 1 by rw [show (j + 1) % 2 = 0 by omega]; decide), nI_1]
        exact ⟨_, rfl, rfl, rfl, k3.tr y2, y4, k5⟩
    · rintro ⟨u1, u2, W⟩ ⟨k1, k2, k3, k4, k5⟩
      dsimp only at k1 k2 k3 k4 k5
      subst k1 k2
      refine ⟨(-1, W), ?_, by rw [k5]; rfl, k3⟩
      unfold B_X7_runsForMajority_30
      dsimp only
      rw [if_pos (show (7 : Int32) < nI (7 + 1) by decide)]
  obtain ⟨⟨x, U2⟩, k1, k2, k3⟩ := key
  dsimp only at k2 k3
  exact ⟨U2, by rw [k1, k2], k3⟩
theorem ag7 (h : TR S P M nd rw wd dz rt) {a b : Nat} (ha : a ≤ 100) (hb : b ≤ 100) : ∃ U2, f_X7_runsForMajority S P (nI a) (nI b) = some (ffI (okA rw (fb_sm (rt (wsN (fun i => fb_sm (rt i) rw) (2 ^ wd - 1))) rw) a b) 7, U2) ∧ SX [] [6] [7] S U2 := by
  obtain ⟨h1, h2, h3, h4, h5, h6, h7, h8, h9, h10, h11, h12, hD, hL, hI, hG⟩ := id h
  have p := Nat.two_pow_pos wd
  have wl := ws_lt (fun i => fb_sm (rt i) rw) (2 ^ wd - 1)
  obtain ⟨f, f1, f2⟩ := fillL (S.2.2 7)
  unfold f_X7_runsForMajority
  rw [ws7 h]
  simp only [b1_some]
  rw [rc7 h (by omega)]
  simp only [b1_some]
  rw [f1]
  simp only [b1_some, bn]
  rw [show (0 : Int32) = nI 0 from rfl, wL_nI (by decide) (by decide)]
  simp only [b1_some]
  obtain ⟨U2, y1, y2⟩ := agL (P := P) (R := rw) (r := fb_sm (rt (wsN (fun i => fb_sm (rt i) rw) (2 ^ wd - 1))) rw) (a := a) (b := b) (U := sL (sL S 7 f) 7 (vp_updL ((sL S 7 f).2.2 7) 0 1)) h4 (rc_rw h _) h9 ha hb (fun i hi => by
    show vp_updL f 0 1 i = lN (if i = 0 then 1 else 0)
    rw [vp_s]
    by_cases z : i = 0
    · rw [if_pos z, if_pos z]; rfl
    · rw [if_neg z, if_neg z, f2 i hi]; rfl)
  exact ⟨U2, y1, (((SX.rf (is := []) (as := [6]) (ls := [7]) (M := S)).sL _ (by decide)).sL _ (by decide)).tr (y2.mono (fun _ h => h) (by simp) (fun _ h => h))⟩
theorem agA10 {R r n : Nat} {N : PS} (hR : R ≤ 64) (hr : r ≤ R) (h12 : N.1 11 = nI R) (hn : n ≤ 7) : L_X10_again_63 N (nI n) (nI r) FU 0 (nI (n / 2 + 1)) = some (lN (mjN n r (R - r))) := by
  rw [mj_eq]
  unfold L_X10_again_63
  refine loopF_seq0 (fun j => (lN (fb_sm (fun t => chN n (n / 2 + 1 + t) * r ^ (n / 2 + 1 + t) * (R - r) ^ (n - (n / 2 + 1 + t))) j), nI (n / 2 + 1 + j))) (n - n / 2) _ rfl (fun j hj => ?_) ?_ (FU_lt (by omega))
  · unfold B_X10_again_63
    dsimp only
    rw [if_neg (nI_nlt (by omega) (by omega)), ch10 n (by omega) _ (by omega), h12, pk_sub hr, nI_l (by omega), nI_l (by omega), powL _ (by omega), pk_sub (by omega), powL _ (by omega)]
    simp only [b1_some, bn, nI_1, lN_mul, lN_add]
    rfl
  · unfold B_X10_again_63
    dsimp only
    rw [if_pos (nI_lt (by omega) (by omega))]
theorem agI10 (h : TR S P M nd rw wd dz rt) {a b n : Nat} (ha : a ≤ 100) (hb : b ≤ 100) (hn : n ≤ 7) : L_X10_again_29 (nI a) (nI b) M (nI n) FU 1 0 = some (if alN (fun i => decide (rw ^ n * a ≤ mjN n (fb_sm (rt i) rw) (rw - fb_sm (rt i) rw) * b)) (2 ^ wd) then 1 else 0) := by
  obtain ⟨h1, h2, h3, h4, h5, h6, h7, h8, h9, h10, h11, h12, hD, hL, hI, hG⟩ := id h
  have l := pw5 h1
  unfold L_X10_again_29
  refine loopF_seq0 (fun j => (if alN (fun i => decide (rw ^ n * a ≤ mjN n (fb_sm (rt i) rw) (rw - fb_sm (rt i) rw) * b)) j then 1 else 0, nI j)) (2 ^ wd) _ rfl (fun j hj => ?_) ?_ (FU_lt (by omega))
  · have rb := rc_rw h j
    unfold B_X10_again_29
    dsimp only
    rw [h10, shl1 (by omega), if_neg (nI_ge hj (by omega)), h12, rf10a h hj]
    simp only [b1_some, bn]
    rw [show (2 : Int32) = nI 2 from rfl, pk_div (by omega) (by decide) (by decide), nI_1, agA10 h4 rb h12 hn]
    simp only [b1_some]
    rw [nI_l (by omega), powL _ hn]
    simp only [b1_some]
    rw [nI_l (by omega), nI_l (by omega), lN_mul, lN_mul, nI_1, alN]
    have e1 := pow_le (x := rw) (n := n) h4 hn
    have e2 := mj_le (n := n) (r := fb_sm (rt j) rw) (w := rw - fb_sm (rt j) rw) hn (by omega) (by omega)
    have e3 := mul_100 (x := mjN n (fb_sm (rt j) rw) (rw - fb_sm (rt j) rw)) (b := b) (by omega) hb
    have e4 := mul_100 (x := rw ^ n) (b := a) (by omega) ha
    have cc : lg_cmp (lN (mjN n (fb_sm (rt j) rw) (rw - fb_sm (rt j) rw) * b)) (lN (rw ^ n * a)) < 0 ↔ mjN n (fb_sm (rt j) rw) (rw - fb_sm (rt j) rw) * b < rw ^ n * a := by rw [cmp_lt, pk_lLT e3 e4]
    by_cases z : alN (fun i => decide (rw ^ n * a ≤ mjN n (fb_sm (rt i) rw) (rw - fb_sm (rt i) rw) * b)) j = true
    · rw [if_pos z, if_neg one_ne0]
      by_cases y : rw ^ n * a ≤ mjN n (fb_sm (rt j) rw) (rw - fb_sm (rt j) rw) * b
      · rw [if_neg (fun k => by rw [cc] at k; omega), if_pos (by rw [Bool.and_eq_true]; exact ⟨z, decide_eq_true y⟩)]
        rfl
      · rw [if_pos (cc.mpr (by omega)), if_neg (fun k => by rw [Bool.and_eq_true] at k; exact y (of_decide_eq_true k.2))]
        rfl
    · rw [if_neg z, if_pos rfl, if_neg (fun k => z (by rw [Bool.and_eq_true] at k; exact k.1))]
      rfl
  · unfold B_X10_again_29
    dsimp only
    rw [h10, shl1 (by omega), if_pos (nI_le (by omega) (by omega))]
theorem ag10 (h : TR S P M nd rw wd dz rt) {a b : Nat} (ha : a ≤ 100) (hb : b ≤ 100) : L_X10_again_17 (nI a) (nI b) M FU 1 = some (ffI (okA rw (fb_sm (rt (wsN (fun i => fb_sm (rt i) rw) (2 ^ wd - 1))) rw) a b) 7, M) := by
  have p := Nat.two_pow_pos wd
  have hev : ∀ n, n % 2 = 0 → okA rw (fb_sm (rt (wsN (fun i => fb_sm (rt i) rw) (2 ^ wd - 1))) rw) a b n = false := by
    intro n hn
    unfold okA
    rw [decide_eq_false (by omega)]
    rfl
  have I : ∀ n, n = 1 ∨ n = 3 ∨ n = 5 ∨ n = 7 → L_X10_again_29 (nI a) (nI b) M (nI n) FU 1 0 = some (if okA rw (fb_sm (rt (wsN (fun i => fb_sm (rt i) rw) (2 ^ wd - 1))) rw) a b n then 1 else 0) := by
    intro n hn
    rw [agI10 h ha hb (by omega), ← okA_eq (c := fun i => fb_sm (rt i) rw) (fun i => rc_rw h i) h.2.2.2.1 hn, show 2 ^ wd - 1 + 1 = 2 ^ wd by omega]
  generalize okA rw (fb_sm (rt (wsN (fun i => fb_sm (rt i) rw) (2 ^ wd - 1))) rw) a b = ok at hev I
  have key : ∃ x, L_X10_again_17 (nI a) (nI b) M FU 1 = some x ∧ x = (ffI ok 7, M) := by
    unfold L_X10_again_17
    refine loopF_inv (fun j x => x = nI (2 * j + 1) ∧ ffI ok 7 = ffI ok (7 - 2 * j)) _ 4 ?_ ?_ 4 0 1 FU (by omega) (FU_lt (by omega)) ⟨rfl, rfl⟩
    · rintro j hj x ⟨k1, k2⟩
      subst k1
      unfold B_X10_again_17
      rw [if_neg (show ¬ (8 : Int32) ≤ nI (2 * j + 1) from nI_ge (b := 8) (by omega) (by decide)), I (2 * j + 1) (by omega)]
      simp only [b1_some]
      rw [ff_s (by omega)] at k2
      by_cases z : ok (2 * j + 1) = true
      · right
        rw [if_pos z] at k2
        rw [if_pos z, if_neg one_ne0]
        exact ⟨_, rfl, by rw [k2]⟩
      · left
        rw [if_neg z] at k2
        rw [if_neg z, if_pos rfl]
        simp only [bn]
        refine ⟨_, rfl, ?_, ?_⟩
        · rw [show (2 : Int32) = nI 2 from rfl, nI_add]; congr 1
        · rw [k2]
          by_cases y : 2 * j + 1 < 7
          · rw [ff_s y, if_neg (by rw [hev _ (by omega)]; decide)]
            rfl
          · rw [show 7 - (2 * j + 1) = 0 by omega, show 7 - 2 * (j + 1) = 0 by omega]
    · rintro x ⟨k1, k2⟩
      subst k1
      refine ⟨(-1, M), ?_, by rw [k2]; rfl⟩
      unfold B_X10_again_17
      rw [if_pos (show (8 : Int32) ≤ nI (2 * 4 + 1) by decide)]
  obtain ⟨x, k1, k2⟩ := key
  rw [k1, k2]
end TRS5
theorem g_again {P S M : PS} (hR : RP P S M) (p1 p2 : Int32) : OWE P S M (f_X9_again S P p1 p2) (f_X10_again M p1 p2) := by
  obtain ⟨nl, nd, rw, wd, kd, ce, aa, ab, ac, dn, dz, h⟩ := id hR
  unfold f_X9_again f_X10_again
  rw [ratio9, bound10]
  simp only [b1_some]
  by_cases c1 : (0 ≤ p1.toInt ∧ p1.toInt ≤ 100) ∧ (1 ≤ p2.toInt ∧ p2.toInt ≤ 100)
  · obtain ⟨a, ha, rfl⟩ := nI_four (N := 101) (x := p1) (by omega)
    obtain ⟨b, hb, rfl⟩ := nI_four (N := 101) (x := p2) (by omega)
    rw [if_pos c1, if_neg one_ne0, if_neg one_ne0]
    obtain ⟨S2, P2, M2, rt, x1, x2, x3, x4, x5⟩ := fresh_ok h
    obtain ⟨U2, y1, y2⟩ := ag7 x5 (a := a) (b := b) (by omega) (by omega)
    rw [x1, x2]
    simp only [b1_some, b2_some]
    rw [y1, ag10 x5 (by omega) (by omega)]
    exact ⟨_, U2, P2, M2, rfl, rfl, ⟨nl, nd, rw, wd, kd, ce, aa, ab, ac, dn, dz, x3.frS y2⟩, x4.mono (by simp) (by simp) (by simp)⟩
  · rw [if_neg c1, if_pos rfl, if_pos rfl]; exact owe0 hR _
