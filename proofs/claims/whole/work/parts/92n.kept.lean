/-! kept, good -/
section TRS3
variable {S P M : PS} {nd rw wd : Nat} {dz : Nat → Nat} {rt : Nat → Nat → Nat}
theorem kw7 (h : TR S P M nd rw wd dz rt) {a m s : Nat} (hs : 1 ≤ s) (hs2 : s ≤ 8) (ha : a + s * m ≤ rw) : f_X7_keptWithin S (nI a) (nI m) (nI s) = some (nI (a + bsN (fun v => afN rt wd (a + v * m) m) (s - 1) * m)) := by
  obtain ⟨h1, h2, h3, h4, h5, h6, h7, h8, h9, h10, h11, h12, hD, hL, hI, hG⟩ := id h
  have q : ∀ v, v < s → v * m + m ≤ s * m := fun v hv => sp_in hv rfl
  have q0 := q 0 hs
  rw [Nat.zero_mul] at q0
  have key : L_X7_keptWithin_14 S (nI a) (nI m) (nI s) FU (nI a) (nI (afN rt wd a m)) 1 = some (nI (a + bsN (fun v => afN rt wd (a + v * m) m) (s - 1) * m)) := by
    unfold L_X7_keptWithin_14
    refine loopF_seq0 (fun j => (nI (a + bsN (fun v => afN rt wd (a + v * m) m) j * m), nI (afN rt wd (a + bsN (fun v => afN rt wd (a + v * m) m) j * m) m), nI (j + 1))) (s - 1) _ (by show _ = (nI (a + 0 * m), nI (afN rt wd (a + 0 * m) m), nI 1); rw [Nat.zero_mul]; rfl) (fun j hj => ?_) ?_ (FU_lt (by omega))
    · have q1 := q (j + 1) (by omega)
      have b := bs_le (fun v => afN rt wd (a + v * m) m) j
      have m8 : m ≤ 64 := by omega
      have c1 := af_le h (a := a + (j + 1) * m) m8
      have c2 := af_le h (a := a + bsN (fun v => afN rt wd (a + v * m) m) j * m) m8
      unfold B_X7_keptWithin_14
      dsimp only
      rw [if_neg (nI_ge (by omega) (by omega)), pk_mul, nI_add, riw7 h (by omega)]
      simp only [b1_some]
      rw [bsN]
      by_cases z : afN rt wd (a + (j + 1) * m) m ≤ afN rt wd (a + bsN (fun v => afN rt wd (a + v * m) m) j * m) m
      · rw [if_pos (nI_le z (by omega)), if_pos z]
        simp only [b2_some, bn, nI_1]
      · rw [if_neg (nI_ge (by omega) (by omega)), if_neg z]
        simp only [b2_some, bn, nI_1]
    · unfold B_X7_keptWithin_14
      dsimp only
      rw [if_pos (nI_le (by omega) (by omega))]
  unfold f_X7_keptWithin
  rw [riw7 h (by omega)]
  simp only [b1_some]
  rw [key]
  rfl
theorem kw10 (h : TR S P M nd rw wd dz rt) {a m d : Nat} (hd : d < nd) (ha : a + dz d * m ≤ rw) : L_X10_kept_52 M (nI a) (nI d) (nI m) FU 0 1 = some (nI (bsN (fun v => afN rt wd (a + v * m) m) (dz d - 1))) := by
  obtain ⟨h1, h2, h3, h4, h5, h6, h7, h8, h9, h10, h11, h12, hD, hL, hI, hG⟩ := id h
  obtain ⟨d1, d2, d3, d4⟩ := hD d hd
  have q : ∀ v, v < dz d → v * m + m ≤ dz d * m := fun v hv => sp_in hv rfl
  have q0 := q 0 (by omega)
  rw [Nat.zero_mul] at q0
  unfold L_X10_kept_52
  refine loopF_seq0 (fun j => (nI (bsN (fun v => afN rt wd (a + v * m) m) j), nI (j + 1))) (dz d - 1) _ rfl (fun j hj => ?_) ?_ (FU_lt (by omega))
  · have q1 := q (j + 1) (by omega)
    have b := bs_le (fun v => afN rt wd (a + v * m) m) j
    have q2 := q (bsN (fun v => afN rt wd (a + v * m) m) j) (by omega)
    have m8 : m ≤ 64 := by omega
    have c1 := af_le h (a := a + (j + 1) * m) m8
    have c2 := af_le h (a := a + bsN (fun v => afN rt wd (a + v * m) m) j * m) m8
    unfold B_X10_kept_52
    dsimp only
    rw [rdI_nI (by omega) (by decide), d2]
    simp only [b1_some]
    rw [if_neg (nI_ge (by omega) (by omega)), pk_mul, nI_add, af10 h (by omega), pk_mul, nI_add, af10 h (by omega)]
    simp only [b1_some]
    rw [bsN]
    by_cases z : afN rt wd (a + (j + 1) * m) m ≤ afN rt wd (a + bsN (fun v => afN rt wd (a + v * m) m) j * m) m
    · rw [if_pos (nI_le z (by omega)), if_pos z]
      simp only [b1_some, bn, nI_1]
    · rw [if_neg (nI_ge (by omega) (by omega)), if_neg z]
      simp only [b1_some, bn, nI_1]
  · unfold B_X10_kept_52
    dsimp only
    rw [rdI_nI (by omega) (by decide), d2]
    simp only [b1_some]
    rw [if_pos (nI_le (by omega) (by omega))]
/-- the row kept, draw by draw -/
def kpN (rt : Nat → Nat → Nat) (wd nd : Nat) (dz : Nat → Nat) : Nat → Nat
  | 0 => 0
  | d + 1 => kpN rt wd nd dz d + bsN (fun v => afN rt wd (kpN rt wd nd dz d + v * wyN dz nd (d + 1)) (wyN dz nd (d + 1))) (dz d - 1) * wyN dz nd (d + 1)
theorem kp_in (h : TR S P M nd rw wd dz rt) : ∀ d, d ≤ nd → kpN rt wd nd dz d + wyN dz nd d ≤ rw
  | 0, _ => by rw [wy_0, ← h.2.2.2.2.1]; show 0 + rw ≤ rw; omega
  | d + 1, hd => by
    have ih := kp_in h d (by omega)
    obtain ⟨d1, d2, d3, d4⟩ := h.2.2.2.2.2.2.2.2.2.2.2.2.1 d (by omega)
    rw [wy_s (by omega : d < nd)] at ih
    rw [kpN]
    generalize kpN rt wd nd dz d = a at *
    generalize wyN dz nd (d + 1) = m at *
    have b := bs_le (fun v => afN rt wd (a + v * m) m) (dz d - 1)
    generalize bsN (fun v => afN rt wd (a + v * m) m) (dz d - 1) = v at *
    have := sp_in (i := v) (m := m) (n := dz d) (by omega) rfl
    omega
theorem kp7 (h : TR S P M nd rw wd dz rt) : f_X7_keptRow S P = some (nI (kpN rt wd nd dz nd)) := by
  obtain ⟨h1, h2, h3, h4, h5, h6, h7, h8, h9, h10, h11, h12, hD, hL, hI, hG⟩ := id h
  have key : L_X7_keptRow_4 S P FU 0 0 = some (nI (kpN rt wd nd dz nd)) := by
    unfold L_X7_keptRow_4
    refine loopF_seq0 (fun j => (nI (kpN rt wd nd dz j), nI j)) nd _ rfl (fun j hj => ?_) ?_ (FU_lt (by omega))
    · obtain ⟨d1, d2, d3, d4⟩ := hD j hj
      have q := kp_in h j (by omega)
      rw [wy_s hj] at q
      unfold B_X7_keptRow_4
      dsimp only
      rw [h8, if_neg (nI_ge hj (by omega)), nI_1, wo7w h (by omega), rdI_nI (by omega) (by decide), d1]
      simp only [b1_some]
      rw [kw7 h (by omega) d4 q]
      simp only [b1_some, bn]
      rfl
    · unfold B_X7_keptRow_4
      dsimp only
      rw [h8, if_pos (nI_le (by omega) (by omega))]
  unfold f_X7_keptRow
  rw [key]
  rfl
theorem kp10 (h : TR S P M nd rw wd dz rt) : L_X10_kept_27 M FU 0 (nI rw) 0 = some (nI (kpN rt wd nd dz nd)) := by
  obtain ⟨h1, h2, h3, h4, h5, h6, h7, h8, h9, h10, h11, h12, hD, hL, hI, hG⟩ := id h
  unfold L_X10_kept_27
  refine loopF_seq0 (fun j => (nI (kpN rt wd nd dz j), nI (wyN dz nd j), nI j)) nd _ (by show _ = (nI 0, nI (wyN dz nd 0), nI 0); rw [wy_0, ← h5]; rfl) (fun j hj => ?_) ?_ (FU_lt (by omega))
  · obtain ⟨d1, d2, d3, d4⟩ := hD j hj
    obtain ⟨e1, e2, e3, e4, e5⟩ := pr_le h (a := j) (by omega)
    have q := kp_in h j (by omega)
    have qq := q
    rw [wy_s hj] at q
    unfold B_X10_kept_27
    dsimp only
    rw [h11, if_neg (nI_ge hj (by omega)), rdI_nI (by omega) (by decide), d2]
    simp only [b1_some]
    rw [dvI_nI (by omega) (by omega) (by omega)]
    simp only [b1_some]
    rw [wy_s hj, Nat.mul_div_cancel_left _ (by omega), kw10 h hj q]
    simp only [b1_some, bn, nI_1, pk_mul, nI_add]
    rfl
  · unfold B_X10_kept_27
    dsimp only
    rw [h11, if_pos (nI_le (by omega) (by omega))]
/-- by how many inputs a row is right -/
abbrev icN (rt : Nat → Nat → Nat) (wd r : Nat) : Nat := fb_sm (fun i => rt i r) (2 ^ wd)
theorem af_1 (rt : Nat → Nat → Nat) (wd r : Nat) : afN rt wd r 1 = icN rt wd r := by
  unfold afN icN
  refine fb_sm_cong (fun i _ => ?_)
  show 0 + rt i (r + 0) = _
  rw [Nat.zero_add, Nat.add_zero]
theorem ic_le (h : TR S P M nd rw wd dz rt) (r : Nat) : icN rt wd r ≤ 32 := by
  have l := pw5 h.1
  have := fb_sm_bound (f := fun i => rt i r) (c := 1) (n := 2 ^ wd) (fun k _ => h.2.2.2.2.2.1 k r)
  show fb_sm (fun i => rt i r) (2 ^ wd) ≤ 32
  omega
theorem ig7 (h : TR S P M nd rw wd dz rt) {r : Nat} (hr : r < rw) : f_X7_isGood S (nI r) = some (if icN rt wd r = 2 ^ wd then 1 else 0) := by
  obtain ⟨h1, h2, h3, h4, h5, h6, h7, h8, h9, h10, h11, h12, hD, hL, hI, hG⟩ := id h
  have l := pw5 h1
  have b := ic_le h r
  unfold f_X7_isGood f_X7_inputCount
  rw [rdI_nI (by omega) (by decide), hI r hr]
  simp only [b1_some]
  rw [bitCount_ok _ (ri_lt h _), pop_bits (fun k => h6 k r) l, h7, shl1 (by omega)]
  simp only [b1_some]
  change b1 (if nI (icN rt wd r) = nI (2 ^ wd) then _ else _) _ = _
  by_cases z : icN rt wd r = 2 ^ wd
  · rw [if_pos z, if_pos (by rw [z])]; rfl
  · rw [if_neg z, if_neg (fun k => z ((nI_eq (by omega) (by omega)).mp k))]; rfl
def gcN (rt : Nat → Nat → Nat) (wd a n : Nat) : Nat := fb_sm (fun r => if icN rt wd (a + r) = 2 ^ wd then 1 else 0) n
theorem gc_front (rt : Nat → Nat → Nat) (wd a n : Nat) : gcN rt wd a (n + 1) = gcN rt wd (a + 1) n + (if icN rt wd a = 2 ^ wd then 1 else 0) := by
  unfold gcN
  rw [Nat.add_comm n 1, fb_sm_split]
  have : ∀ k, a + (1 + k) = a + 1 + k := fun k => by omega
  simp only [this]
  show 0 + (if icN rt wd (a + 0) = 2 ^ wd then 1 else 0) + _ = _
  rw [Nat.add_zero]
  omega
/-- the least good row, from row rw - j on -/
def lgI (rt : Nat → Nat → Nat) (wd rw : Nat) : Nat → Int32
  | 0 => -1
  | j + 1 => if icN rt wd (rw - 1 - j) = 2 ^ wd then nI (rw - 1 - j) else lgI rt wd rw j
theorem gc7 (h : TR S P M nd rw wd dz rt) : f_X7_goodCount S P = some (nI (gcN rt wd 0 rw)) := by
  obtain ⟨h1, h2, h3, h4, h5, h6, h7, h8, h9, h10, h11, h12, hD, hL, hI, hG⟩ := id h
  have key : L_X7_goodCount_4 S P FU 0 0 = some (nI (gcN rt wd 0 rw)) := by
    unfold L_X7_goodCount_4
    refine loopF_seq0 (fun j => (nI (gcN rt wd 0 j), nI j)) rw _ rfl (fun j hj => ?_) ?_ (FU_lt (by omega))
    · unfold B_X7_goodCount_4
      dsimp only
      rw [h9, if_neg (nI_ge hj (by omega)), ig7 h hj]
      simp only [b1_some]
      have e : gcN rt wd 0 (j + 1) = gcN rt wd 0 j + (if icN rt wd j = 2 ^ wd then 1 else 0) := by
        unfold gcN
        rw [fb_sm_succ, Nat.zero_add]
      rw [e]
      by_cases z : icN rt wd j = 2 ^ wd
      · rw [if_pos z, if_neg one_ne0, if_pos z]
        simp only [b1_some, bn, nI_1]
      · rw [if_neg z, if_pos rfl, if_neg z]
        simp only [b1_some, bn, nI_1, Nat.add_zero]
    · unfold B_X7_goodCount_4
      dsimp only
      rw [h9, if_pos (nI_le (by omega) (by omega))]
  unfold f_X7_goodCount
  rw [key]
  rfl
theorem lg7 (h : TR S P M nd rw wd dz rt) : f_X7_leastGood S P = some (lgI rt wd rw rw) := by
  obtain ⟨h1, h2, h3, h4, h5, h6, h7, h8, h9, h10, h11, h12, hD, hL, hI, hG⟩ := id h
  have key : ∃ r, L_X7_leastGood_2 S P FU 0 = some r ∧ r = lgI rt wd rw rw := by
    unfold L_X7_leastGood_2
    refine loopF_inv (fun j x => x = nI j ∧ lgI rt wd rw rw = lgI rt wd rw (rw - j)) _ rw ?_ ?_ rw 0 0 FU (by omega) (FU_lt (by omega)) ⟨rfl, rfl⟩
    · rintro j hj x ⟨k1, k2⟩
      subst k1
      unfold B_X7_leastGood_2
      rw [h9, if_neg (nI_ge hj (by omega)), ig7 h hj]
      simp only [b1_some]
      rw [show rw - j = (rw - (j + 1)) + 1 by omega, lgI, show rw - 1 - (rw - (j + 1)) = j by omega] at k2
      by_cases z : icN rt wd j = 2 ^ wd
      · right
        rw [if_pos z] at k2
        rw [if_pos z, if_neg one_ne0]
        exact ⟨_, rfl, k2.symm⟩
      · left
        rw [if_neg z] at k2
        rw [if_neg z, if_pos rfl]
        simp only [bn, nI_1]
        exact ⟨_, rfl, rfl, k2⟩
    · rintro x ⟨k1, k2⟩
      subst k1
      refine ⟨-1, ?_, ?_⟩
      · unfold B_X7_leastGood_2
        rw [h9, if_pos (nI_le (by omega) (by omega))]
      · rw [k2, Nat.sub_self]; rfl
  obtain ⟨r, k1, k2⟩ := key
  unfold f_X7_leastGood
  rw [k1, k2]
theorem go10 (h : TR S P M nd rw wd dz rt) : L_X10_good_29 M FU 0 (-1) (nI (rw - 1)) = some (nI (gcN rt wd 0 rw), lgI rt wd rw rw) := by
  obtain ⟨h1, h2, h3, h4, h5, h6, h7, h8, h9, h10, h11, h12, hD, hL, hI, hG⟩ := id h
  have l := pw5 h1
  unfold L_X10_good_29
  refine loopF_seq0 (fun j => (nI (gcN rt wd (rw - j) j), lgI rt wd rw j, zI ((rw : Int) - 1 - j))) rw _ ?_ (fun j hj => ?_) ?_ (FU_lt (by omega))
  · show _ = (nI 0, (-1 : Int32), zI ((rw : Int) - 1 - (0 : Nat)))
    rw [show ((rw : Int) - 1 - (0 : Nat)) = ((rw - 1 : Nat) : Int) by omega, zI_nat]
    rfl
  · have b := ic_le h (rw - 1 - j)
    have e : zI ((rw : Int) - 1 - j) = nI (rw - 1 - j) := by rw [← zI_nat]; congr 1; omega
    have e1 : nI (rw - 1 - j) + (-1) = zI ((rw : Int) - 1 - (j + 1 : Nat)) := by
      rw [← zI_nat, show (-1 : Int32) = zI (-1) from rfl, zI_add]; congr 1; omega
    unfold B_X10_good_29
    dsimp only
    rw [e, if_neg (nI_pos (by omega)), show (1 : Int32) = nI 1 from rfl, af10 h (by omega), af_1, h10]
    simp only [b1_some]
    rw [show nI 1 = (1 : Int32) from rfl, shl1 (by omega), lgI]
    have g := gc_front rt wd (rw - (j + 1)) j
    rw [show rw - (j + 1) + 1 = rw - j by omega, show rw - (j + 1) = rw - 1 - j by omega] at g
    rw [show rw - (j + 1) = rw - 1 - j by omega, g]
    by_cases z : icN rt wd (rw - 1 - j) = 2 ^ wd
    · rw [if_pos z, if_pos z, if_pos (by rw [z])]
      simp only [b1_some]
      rw [if_neg one_ne0]
      simp only [b1_some]
      rw [if_neg one_ne0]
      simp only [b1_some, bn, nI_1, e1]
    · rw [if_neg z, if_neg z, if_neg (fun k => z ((nI_eq (by omega) (by omega)).mp k))]
      simp only [b1_some]
      rw [if_pos trivial]
      simp only [b1_some]
      rw [if_pos trivial]
      simp only [b1_some, bn, e1]
      rw [show (0 : Int32) = nI 0 from rfl, nI_add]
  · unfold B_X10_good_29
    dsimp only
    rw [show ((rw : Int) - 1 - (rw : Nat)) = -1 by omega, if_pos (show zI (-1) < 0 by decide), Nat.sub_self]
end TRS3
theorem g_kept {P S M : PS} (hR : RP P S M) (p1 : Int32) : OWE P S M (f_X9_kept S P p1) (f_X10_kept M p1) := by
  obtain ⟨nl, nd, rw, wd, kd, ce, aa, ab, ac, dn, dz, h⟩ := id hR
  unfold f_X9_kept f_X10_kept
  rw [choice9, in_32 p1 0 1 0 1 rfl rfl]
  simp only [b1_some]
  by_cases c1 : 0 ≤ p1.toInt ∧ p1.toInt ≤ 1
  · obtain ⟨w, rfl, hw⟩ := ch_ex c1
    rw [if_pos c1, if_neg one_ne0, if_neg one_ne0]
    obtain ⟨S2, P2, M2, rt, x1, x2, x3, x4, x5⟩ := fresh_ok h
    obtain ⟨h1, h2, h3, h4, h5, h6, h7, h8, h9, h10, h11, h12, hD, hL, hI, hG⟩ := id x5
    have q := kp_in x5 nd (Nat.le_refl _)
    rw [wy_n] at q
    have fin : RP P2 S2 M2 := ⟨nl, nd, rw, wd, kd, ce, aa, ab, ac, dn, dz, x3⟩
    rw [x1, x2]
    simp only [b1_some, b2_some, bn]
    rw [kp7 x5, h12, kp10 x5]
    simp only [b1_some]
    have e1 : f_X7_rightInputsWithin S2 (nI (kpN rt wd nd dz nd)) 1 = some (nI (afN rt wd (kpN rt wd nd dz nd) 1)) := riw7 x5 (m := 1) q
    have e2 : f_X10_allFrom M2 (nI (kpN rt wd nd dz nd)) 1 = some (nI (afN rt wd (kpN rt wd nd dz nd) 1)) := af10 x5 (m := 1) q
    rw [e1, e2]
    by_cases z : w = 0
    · subst z
      rw [if_pos (show nI 0 = 0 from rfl), if_neg (show ¬ nI 0 = 1 by decide)]
      exact ⟨_, S2, P2, M2, rfl, rfl, fin, x4.mono (by simp) (by simp) (by simp)⟩
    · obtain rfl : w = 1 := by omega
      rw [if_neg (show ¬ nI 1 = 0 by decide), if_pos (show nI 1 = 1 from rfl)]
      exact ⟨_, S2, P2, M2, rfl, rfl, fin, x4.mono (by simp) (by simp) (by simp)⟩
  · rw [if_neg c1, if_pos rfl, if_pos rfl]; exact owe0 hR _
theorem g_good {P S M : PS} (hR : RP P S M) (p1 : Int32) : OWE P S M (f_X9_good S P p1) (f_X10_good M p1) := by
  obtain ⟨nl, nd, rw, wd, kd, ce, aa, ab, ac, dn, dz, h⟩ := id hR
  unfold f_X9_good f_X10_good
  rw [choice9, in_32 p1 0 1 0 1 rfl rfl]
  simp only [b1_some]
  by_cases c1 : 0 ≤ p1.toInt ∧ p1.toInt ≤ 1
  · obtain ⟨w, rfl, hw⟩ := ch_ex c1
    rw [if_pos c1, if_neg one_ne0, if_neg one_ne0]
    obtain ⟨S2, P2, M2, rt, x1, x2, x3, x4, x5⟩ := fresh_ok h
    obtain ⟨h1, h2, h3, h4, h5, h6, h7, h8, h9, h10, h11, h12, hD, hL, hI, hG⟩ := id x5
    have fin : RP P2 S2 M2 := ⟨nl, nd, rw, wd, kd, ce, aa, ab, ac, dn, dz, x3⟩
    rw [x1, x2]
    simp only [b1_some, b2_some, bn]
    rw [h12, nI_m1 h3, go10 x5, gc7 x5, lg7 x5]
    simp only [b1_some, b2_some]
    by_cases z : nI w = 0
    · rw [if_pos z, if_pos z]
      exact ⟨_, S2, P2, M2, rfl, rfl, fin, x4.mono (by simp) (by simp) (by simp)⟩
    · rw [if_neg z, if_neg z]
      exact ⟨_, S2, P2, M2, rfl, rfl, fin, x4.mono (by simp) (by simp) (by simp)⟩
  · rw [if_neg c1, if_pos rfl, if_pos rfl]; exact owe0 hR _
