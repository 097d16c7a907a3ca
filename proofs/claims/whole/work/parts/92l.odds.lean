/-! odds, worst, mean -/
section TRS
variable {S P M : PS} {nd rw wd : Nat} {dz : Nat → Nat} {rt : Nat → Nat → Nat}
theorem rc7 (h : TR S P M nd rw wd dz rt) {i : Nat} (hi : i < 2 ^ wd) : f_X7_rightCount S (nI i) = some (nI (fb_sm (rt i) rw)) := by
  obtain ⟨h1, h2, h3, h4, h5, h6, h7, h8, h9, h10, h11, h12, hD, hL, hI, hG⟩ := h
  have l := pw5 h1
  have b : fb_sm (fun r => rt i r * 2 ^ r) rw < 2 ^ rw := bits_lt (fun k => h6 i k) rw
  have l2 : 2 ^ rw ≤ 2 ^ 64 := Nat.pow_le_pow_right (by decide) h4
  unfold f_X7_rightCount
  rw [rdL_nI (by omega) (by decide), hL i hi]
  simp only [b1_some]
  rw [bitCountL_ok _ (by omega), pop_bits (fun k => h6 i k) h4]
  rfl
theorem rc_le (h : TR S P M nd rw wd dz rt) (i a m : Nat) : fb_sm (fun r => rt i (a + r)) m ≤ m := by
  have := fb_sm_bound (f := fun r => rt i (a + r)) (c := 1) (n := m) (fun k _ => h.2.2.2.2.2.1 i (a + k))
  omega
theorem rf10 (h : TR S P M nd rw wd dz rt) {i a m : Nat} (hi : i < 2 ^ wd) (ha : a + m ≤ rw) {N : PS} (hN : N.2.1 34 = M.2.1 34) : f_X10_rightFrom N (nI i) (nI a) (nI m) = some (nI (fb_sm (fun r => rt i (a + r)) m)) := by
  obtain ⟨h1, h2, h3, h4, h5, h6, h7, h8, h9, h10, h11, h12, hD, hL, hI, hG⟩ := id h
  have l := pw5 h1
  have key : L_X10_rightFrom_6 N (nI i) (nI a) (nI m) FU 0 (nI a) = some (nI (fb_sm (fun r => rt i (a + r)) m)) := by
    unfold L_X10_rightFrom_6
    refine loopF_seq0 (fun j => (nI (fb_sm (fun r => rt i (a + r)) j), nI (a + j))) m _ rfl (fun j hj => ?_) ?_ (FU_lt (by omega))
    · unfold B_X10_rightFrom_6
      dsimp only
      rw [nI_add, if_neg (nI_ge (by omega) (by omega)), show (64 : Int32) = nI 64 from rfl, pk_mul, nI_add, rdI_nI (by omega) (by decide), hN, hG i hi (a + j) (by omega)]
      simp only [b1_some, bn, nI_1, nI_add]
      rfl
    · unfold B_X10_rightFrom_6
      dsimp only
      rw [nI_add, if_pos (nI_le (by omega) (by omega))]
  unfold f_X10_rightFrom
  rw [key]
  rfl
theorem rf10a (h : TR S P M nd rw wd dz rt) {i : Nat} (hi : i < 2 ^ wd) : f_X10_rightFrom M (nI i) 0 (nI rw) = some (nI (fb_sm (rt i) rw)) := by
  have := rf10 h (i := i) (a := 0) (m := rw) hi (by omega) (N := M) rfl
  rw [show (0 : Int32) = nI 0 from rfl, this]
  congr 2
  exact fb_sm_cong (fun k _ => by rw [Nat.zero_add])
/-- the first of the least -/
def wsN (c : Nat → Nat) : Nat → Nat
  | 0 => 0
  | k + 1 => if c (wsN c k) ≤ c (k + 1) then wsN c k else k + 1
theorem ws_lt (c : Nat → Nat) : ∀ k, wsN c k ≤ k
  | 0 => Nat.le_refl _
  | k + 1 => by
    rw [wsN]
    split
    · exact Nat.le_trans (ws_lt c k) (Nat.le_succ _)
    · exact Nat.le_refl _
theorem ws_min (c : Nat → Nat) : ∀ k i, i ≤ k → c (wsN c k) ≤ c i
  | 0, i, h => by rw [show i = 0 by omega]; exact Nat.le_refl _
  | k + 1, i, h => by
    rw [wsN]
    by_cases e : i = k + 1
    · subst e
      split
      · assumption
      · exact Nat.le_refl _
    · have ih := ws_min c k i (by omega)
      split
      · exact ih
      · omega
theorem rc_le0 (h : TR S P M nd rw wd dz rt) (i : Nat) : fb_sm (rt i) rw ≤ 64 := by
  have := fb_sm_bound (f := rt i) (c := 1) (n := rw) (fun k _ => h.2.2.2.2.2.1 i k)
  have := h.2.2.2.1
  omega
theorem ws7 (h : TR S P M nd rw wd dz rt) : f_X7_worstInput S = some (nI (wsN (fun i => fb_sm (rt i) rw) (2 ^ wd - 1))) := by
  obtain ⟨h1, h2, h3, h4, h5, h6, h7, h8, h9, h10, h11, h12, hD, hL, hI, hG⟩ := id h
  have l := pw5 h1
  have p := Nat.two_pow_pos wd
  have key : L_X7_worstInput_4 S FU 0 1 = some (nI (wsN (fun i => fb_sm (rt i) rw) (2 ^ wd - 1))) := by
    unfold L_X7_worstInput_4
    refine loopF_seq0 (fun j => (nI (wsN (fun i => fb_sm (rt i) rw) j), nI (j + 1))) (2 ^ wd - 1) _ rfl (fun j hj => ?_) ?_ (FU_lt (by omega))
    · have w := ws_lt (fun i => fb_sm (rt i) rw) j
      have b1 := rc_le0 h (j + 1)
      have b2 := rc_le0 h (wsN (fun i => fb_sm (rt i) rw) j)
      unfold B_X7_worstInput_4 f_X7_inputCount
      dsimp only
      rw [h7, shl1 (by omega)]
      simp only [b1_some]
      rw [if_neg (nI_ge (by omega) (by omega)), rc7 h (by omega), rc7 h (by omega)]
      simp only [b1_some]
      rw [wsN]
      by_cases z : fb_sm (rt (wsN (fun i => fb_sm (rt i) rw) j)) rw ≤ fb_sm (rt (j + 1)) rw
      · rw [if_pos (nI_le z (by omega)), if_pos z]
        simp only [b1_some, bn, nI_1]
      · rw [if_neg (nI_ge (by omega) (by omega)), if_neg z]
        simp only [b1_some, bn, nI_1]
    · unfold B_X7_worstInput_4 f_X7_inputCount
      dsimp only
      rw [h7, shl1 (by omega)]
      simp only [b1_some]
      rw [if_pos (nI_le (by omega) (by omega))]
  unfold f_X7_worstInput
  rw [key]
  rfl
theorem ws10 (h : TR S P M nd rw wd dz rt) : L_X10_worst_23 M FU 0 1 = some (nI (wsN (fun i => fb_sm (rt i) rw) (2 ^ wd - 1))) := by
  obtain ⟨h1, h2, h3, h4, h5, h6, h7, h8, h9, h10, h11, h12, hD, hL, hI, hG⟩ := id h
  have l := pw5 h1
  have p := Nat.two_pow_pos wd
  unfold L_X10_worst_23
  refine loopF_seq0 (fun j => (nI (wsN (fun i => fb_sm (rt i) rw) j), nI (j + 1))) (2 ^ wd - 1) _ rfl (fun j hj => ?_) ?_ (FU_lt (by omega))
  · have w := ws_lt (fun i => fb_sm (rt i) rw) j
    have b1 := rc_le0 h (j + 1)
    have b2 := rc_le0 h (wsN (fun i => fb_sm (rt i) rw) j)
    unfold B_X10_worst_23
    dsimp only
    rw [h10, shl1 (by omega), if_neg (nI_ge (by omega) (by omega)), h12, rf10a h (by omega), rf10a h (by omega)]
    simp only [b1_some]
    rw [wsN]
    by_cases z : fb_sm (rt (wsN (fun i => fb_sm (rt i) rw) j)) rw ≤ fb_sm (rt (j + 1)) rw
    · rw [if_pos (nI_le z (by omega)), if_pos z]
      simp only [b1_some, bn, nI_1]
    · rw [if_neg (nI_ge (by omega) (by omega)), if_neg z]
      simp only [b1_some, bn, nI_1]
  · unfold B_X10_worst_23
    dsimp only
    rw [h10, shl1 (by omega), if_pos (nI_le (by omega) (by omega))]
/-- how many are right, of many rows from one on, over all inputs -/
def afN (rt : Nat → Nat → Nat) (wd a m : Nat) : Nat := fb_sm (fun i => fb_sm (fun r => rt i (a + r)) m) (2 ^ wd)
theorem af_le (h : TR S P M nd rw wd dz rt) {a m : Nat} (hm : m ≤ 64) : afN rt wd a m ≤ 2048 := by
  have l := pw5 h.1
  have := fb_sm_bound (f := fun i => fb_sm (fun r => rt i (a + r)) m) (c := 64) (n := 2 ^ wd) (fun k _ => Nat.le_trans (rc_le h k a m) hm)
  unfold afN
  omega
theorem ri_lt (h : TR S P M nd rw wd dz rt) (r : Nat) : fb_sm (fun i => rt i r * 2 ^ i) (2 ^ wd) < 4294967296 := by
  have l := pw5 h.1
  have b : fb_sm (fun i => rt i r * 2 ^ i) (2 ^ wd) < 2 ^ (2 ^ wd) := bits_lt (fun k => h.2.2.2.2.2.1 k r) (2 ^ wd)
  have l2 : 2 ^ (2 ^ wd) ≤ 2 ^ 32 := Nat.pow_le_pow_right (by decide) l
  omega
theorem riw7 (h : TR S P M nd rw wd dz rt) {a m : Nat} (ha : a + m ≤ rw) : f_X7_rightInputsWithin S (nI a) (nI m) = some (nI (afN rt wd a m)) := by
  obtain ⟨h1, h2, h3, h4, h5, h6, h7, h8, h9, h10, h11, h12, hD, hL, hI, hG⟩ := id h
  have l := pw5 h1
  have key : L_X7_rightInputsWithin_5 S (nI a) (nI m) FU 0 (nI a) = some (nI (fb_sm (fun r => fb_sm (fun i => rt i (a + r)) (2 ^ wd)) m)) := by
    unfold L_X7_rightInputsWithin_5
    refine loopF_seq0 (fun j => (nI (fb_sm (fun r => fb_sm (fun i => rt i (a + r)) (2 ^ wd)) j), nI (a + j))) m _ rfl (fun j hj => ?_) ?_ (FU_lt (by omega))
    · unfold B_X7_rightInputsWithin_5
      dsimp only
      rw [nI_add, if_neg (nI_ge (by omega) (by omega)), rdI_nI (by omega) (by decide), hI (a + j) (by omega)]
      simp only [b1_some]
      rw [bitCount_ok _ (ri_lt h _), pop_bits (fun k => h6 k (a + j)) l]
      simp only [b1_some, bn, nI_1, nI_add]
      rfl
    · unfold B_X7_rightInputsWithin_5
      dsimp only
      rw [nI_add, if_pos (nI_le (by omega) (by omega))]
  unfold f_X7_rightInputsWithin
  rw [key]
  simp only [b1_some]
  congr 2
  exact sm_swap (fun i r => rt i (a + r)) (2 ^ wd) m
theorem af10 (h : TR S P M nd rw wd dz rt) {a m : Nat} (ha : a + m ≤ rw) : f_X10_allFrom M (nI a) (nI m) = some (nI (afN rt wd a m)) := by
  obtain ⟨h1, h2, h3, h4, h5, h6, h7, h8, h9, h10, h11, h12, hD, hL, hI, hG⟩ := id h
  have l := pw5 h1
  have key : L_X10_allFrom_5 M (nI a) (nI m) FU 0 0 = some (nI (afN rt wd a m)) := by
    unfold L_X10_allFrom_5
    refine loopF_seq0 (fun j => (nI (fb_sm (fun i => fb_sm (fun r => rt i (a + r)) m) j), nI j)) (2 ^ wd) _ rfl (fun j hj => ?_) ?_ (FU_lt (by omega))
    · unfold B_X10_allFrom_5
      dsimp only
      rw [h10, shl1 (by omega), if_neg (nI_ge (by omega) (by omega)), rf10 h hj ha rfl]
      simp only [b1_some, bn, nI_1, nI_add]
      rfl
    · unfold B_X10_allFrom_5
      dsimp only
      rw [h10, shl1 (by omega), if_pos (nI_le (by omega) (by omega))]
      rfl
  unfold f_X10_allFrom
  rw [key]
  rfl
end TRS
/-- what a call on odds owes -/
abbrev OWE (P S M : PS) (f : Option (Int32 × PS × PS)) (g : Option (Int32 × PS)) : Prop := ∃ (r : Int32) (S' P' M' : PS), f = some (r, S', P') ∧ g = some (r, M') ∧ RP P' S' M' ∧ SX [] [33, 34, 35, 36] [] M M'
theorem owe0 {P S M : PS} (hR : RP P S M) (r : Int32) : OWE P S M (some (r, S, P)) (some (r, M)) := ⟨r, S, P, M, rfl, rfl, hR, SX.rf⟩
theorem g_odds {P S M : PS} (hR : RP P S M) (p1 p2 : Int32) : OWE P S M (f_X9_odds S P p1 p2) (f_X10_odds M p1 p2) := by
  obtain ⟨nl, nd, rw, wd, kd, ce, aa, ab, ac, dn, dz, h⟩ := id hR
  have l := pw5 h.2.1
  unfold f_X9_odds f_X10_odds
  rw [hasIn9 h, hasIn10 h, part9, part10]
  simp only [b1_some]
  by_cases c1 : 0 ≤ p1.toInt ∧ p1.toInt < (2 ^ wd : Nat)
  · rw [if_pos c1, if_neg one_ne0, if_neg one_ne0]
    by_cases c2 : 0 ≤ p2.toInt ∧ p2.toInt ≤ 1
    · rw [if_pos c2, if_neg one_ne0, if_neg one_ne0]
      obtain ⟨i, hi, rfl⟩ := nI_four c1
      obtain ⟨w, rfl, hw⟩ := ch_ex c2
      obtain ⟨S2, P2, M2, rt, x1, x2, x3, x4, x5⟩ := fresh_ok h
      have b := rc_le0 x5 i
      obtain ⟨h1, h2, h3, h4, h5, h6, h7, h8, h9, h10, h11, h12, hD, hL, hI, hG⟩ := id x5
      rw [x1, x2]
      simp only [b1_some, b2_some]
      rw [rc7 x5 hi, h9, h12, rf10a x5 hi]
      simp only [b1_some]
      rw [nI_l (by omega), nI_l (by omega), low9 (by omega) (by omega) (by omega) hw, part_ok (by omega) (by omega) (by omega) hw]
      exact ⟨_, S2, P2, M2, rfl, rfl, ⟨nl, nd, rw, wd, kd, ce, aa, ab, ac, dn, dz, x3⟩, x4.mono (by simp) (by simp) (by simp)⟩
    · rw [if_neg c2, if_pos rfl, if_pos rfl]; exact owe0 hR _
  · rw [if_neg c1, if_pos rfl, if_pos rfl]; exact owe0 hR _
theorem g_worst {P S M : PS} (hR : RP P S M) (p1 : Int32) : OWE P S M (f_X9_worst S P p1) (f_X10_worst M p1) := by
  obtain ⟨nl, nd, rw, wd, kd, ce, aa, ab, ac, dn, dz, h⟩ := id hR
  have l := pw5 h.2.1
  have p := Nat.two_pow_pos wd
  unfold f_X9_worst f_X10_worst
  rw [in_32 p1 0 2 0 2 rfl rfl]
  simp only [b1_some]
  by_cases c1 : 0 ≤ p1.toInt ∧ p1.toInt ≤ 2
  · obtain ⟨w, hw, rfl⟩ := nI_four (N := 3) (x := p1) (by omega)
    rw [if_pos c1, if_neg one_ne0, if_neg (nI_pos (by omega)), if_pos (show nI w ≤ 2 from nI_le (b := 2) (by omega) (by decide))]
    obtain ⟨S2, P2, M2, rt, x1, x2, x3, x4, x5⟩ := fresh_ok h
    obtain ⟨h1, h2, h3, h4, h5, h6, h7, h8, h9, h10, h11, h12, hD, hL, hI, hG⟩ := id x5
    have wl := ws_lt (fun i => fb_sm (rt i) rw) (2 ^ wd - 1)
    have b := rc_le0 x5 (wsN (fun i => fb_sm (rt i) rw) (2 ^ wd - 1))
    rw [x1, x2]
    simp only [b1_some, b2_some]
    rw [ws7 x5, ws10 x5]
    simp only [b1_some]
    have fin : RP P2 S2 M2 := ⟨nl, nd, rw, wd, kd, ce, aa, ab, ac, dn, dz, x3⟩
    by_cases c2 : nI w = 2
    · rw [if_pos c2, if_pos c2]
      exact ⟨_, S2, P2, M2, rfl, rfl, fin, x4.mono (by simp) (by simp) (by simp)⟩
    · rw [if_neg c2, if_neg c2]
      have w1 : w ≤ 1 := by
        by_cases z : w = 2
        · exact absurd (by rw [z]; rfl) c2
        · omega
      rw [rc7 x5 (by omega), h9, h12, rf10a x5 (by omega)]
      simp only [b1_some]
      rw [nI_l (by omega), nI_l (by omega), low9 (by omega) (by omega) (by omega) w1, part_ok (by omega) (by omega) (by omega) w1]
      exact ⟨_, S2, P2, M2, rfl, rfl, fin, x4.mono (by simp) (by simp) (by simp)⟩
  · rw [if_neg c1, if_pos (show (0 : Int32) = 0 from rfl)]
    have : (if p1 < 0 then some ((-3 : Int32), S, P) else if p1 ≤ 2 then (b2 (f_X9_fresh S P) fun S3 P4 => b1 (f_X7_worstInput S3) fun v5 => b1 (if p1 = 2 then some v5 else b1 (f_X7_rightCount S3 v5) fun v8 => b1 (f_X9_lowest v8 (P4.1 5) p1) fun v9 => some v9) fun v6 => some (v6, S3, P4)) else some (-3, S, P)) = some (-3, S, P) := by
      by_cases z : p1 < 0
      · rw [if_pos z]
      · rw [if_neg z, if_neg]
        rw [ltL p1 0 0 rfl] at z
        rw [leL p1 2 2 rfl]
        omega
    rw [this]
    exact owe0 hR _
theorem g_mean {P S M : PS} (hR : RP P S M) (p1 : Int32) : OWE P S M (f_X9_mean S P p1) (f_X10_mean M p1) := by
  obtain ⟨nl, nd, rw, wd, kd, ce, aa, ab, ac, dn, dz, h⟩ := id hR
  have l0 : wd ≤ 5 := h.2.1
  have l := pw5 h.2.1
  have p := Nat.two_pow_pos wd
  have p5 : P.1 5 = nI rw := h.1.2.2.2.2.2.2.2.2.1
  unfold f_X9_mean f_X10_mean
  rw [part9, part10]
  simp only [b1_some]
  by_cases c1 : 0 ≤ p1.toInt ∧ p1.toInt ≤ 1
  · obtain ⟨w, rfl, hw⟩ := ch_ex c1
    rw [if_pos c1, if_neg one_ne0, if_neg one_ne0]
    obtain ⟨S2, P2, M2, rt, x1, x2, x3, x4, x5⟩ := fresh_ok h
    obtain ⟨h1, h2, h3, h4, h5, h6, h7, h8, h9, h10, h11, h12, hD, hL, hI, hG⟩ := id x5
    have b := af_le x5 (a := 0) h4
    have m1 : rw * 2 ^ wd ≤ 64 * 32 := Nat.mul_le_mul h4 l
    have m2 : 0 < rw * 2 ^ wd := Nat.mul_pos h3 p
    rw [x1, x2, p5]
    simp only [b1_some, b2_some, bn]
    unfold f_X7_inputCount
    rw [h12, h10, h7, shl1 (by omega), show (0 : Int32) = nI 0 from rfl, riw7 x5 (by omega), af10 x5 (by omega)]
    simp only [b1_some]
    rw [pk_mul, nI_l (by omega), nI_l (by omega), wb_shl _ (by omega), low9 m2 (by omega) (by omega) hw, part_ok m2 (by omega) (by omega) hw]
    exact ⟨_, S2, P2, M2, rfl, rfl, ⟨nl, nd, rw, wd, kd, ce, aa, ab, ac, dn, dz, x3⟩, x4.mono (by simp) (by simp) (by simp)⟩
  · rw [if_neg c1, if_pos rfl, if_pos rfl]; exact owe0 hR _
