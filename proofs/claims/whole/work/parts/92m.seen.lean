/-! seen, kept, good -/
/-- the product of the sizes of the draws from d on -/
def wyN (dz : Nat → Nat) (nd d : Nat) : Nat := prN (fun j => dz (d + j)) (nd - d)
theorem prN_front (f : Nat → Nat) : ∀ n, prN f (n + 1) = f 0 * prN (fun j => f (j + 1)) n
  | 0 => by show 1 * f 0 = f 0 * 1; omega
  | n + 1 => by
    show prN f (n + 1) * f (n + 1) = f 0 * (prN (fun j => f (j + 1)) n * f (n + 1))
    rw [prN_front f n, Nat.mul_assoc]
theorem wy_s {dz : Nat → Nat} {nd d : Nat} (h : d < nd) : wyN dz nd d = dz d * wyN dz nd (d + 1) := by
  unfold wyN
  rw [show nd - d = (nd - (d + 1)) + 1 by omega, prN_front]
  congr 2
  funext j
  rw [show d + (j + 1) = d + 1 + j by omega]
theorem wy_0 (dz : Nat → Nat) (nd : Nat) : wyN dz nd 0 = prN dz nd := by
  unfold wyN
  congr 1
  funext j
  rw [Nat.zero_add]
theorem wy_n (dz : Nat → Nat) (nd : Nat) : wyN dz nd nd = 1 := by
  unfold wyN
  rw [Nat.sub_self]
  rfl
theorem pr_wy (dz : Nat → Nat) {nd : Nat} : ∀ k, k ≤ nd → prN dz k * wyN dz nd k = prN dz nd
  | 0, _ => by rw [wy_0]; show 1 * _ = _; rw [Nat.one_mul]
  | k + 1, h => by
    have ih := pr_wy dz (nd := nd) k (by omega)
    rw [wy_s (show k < nd by omega)] at ih
    rw [← ih]
    show prN dz k * dz k * _ = _
    rw [Nat.mul_assoc]
/-- the first of the greatest -/
def bsN (c : Nat → Nat) : Nat → Nat
  | 0 => 0
  | k + 1 => if c (k + 1) ≤ c (bsN c k) then bsN c k else k + 1
theorem bs_le (c : Nat → Nat) : ∀ k, bsN c k ≤ k
  | 0 => Nat.le_refl _
  | k + 1 => by
    rw [bsN]
    split
    · exact Nat.le_trans (bs_le c k) (Nat.le_succ _)
    · exact Nat.le_refl _
theorem bs_max (c : Nat → Nat) : ∀ k i, i ≤ k → c i ≤ c (bsN c k)
  | 0, i, h => by rw [show i = 0 by omega]; exact Nat.le_refl _
  | k + 1, i, h => by
    rw [bsN]
    by_cases e : i = k + 1
    · subst e
      split
      · assumption
      · exact Nat.le_refl _
    · have ih := bs_max c k i (by omega)
      split
      · exact ih
      · omega
/-- the least of a beginning and the first numbers -/
def mnN (b : Nat) (f : Nat → Nat) : Nat → Nat
  | 0 => b
  | k + 1 => if f k < mnN b f k then f k else mnN b f k
theorem mn_le (b : Nat) (f : Nat → Nat) : ∀ k, mnN b f k ≤ b
  | 0 => Nat.le_refl _
  | k + 1 => by
    have := mn_le b f k
    rw [mnN]
    split <;> omega
theorem mn_two {b c : Nat} {f : Nat → Nat} (hb : ∀ i, f i ≤ b) (hc : ∀ i, f i ≤ c) : ∀ k, mnN b f (k + 1) = mnN c f (k + 1)
  | 0 => by
    show (if f 0 < b then f 0 else b) = if f 0 < c then f 0 else c
    have := hb 0
    have := hc 0
    split <;> split <;> omega
  | k + 1 => by
    have ih := mn_two hb hc k
    show (if f (k + 1) < mnN b f (k + 1) then f (k + 1) else mnN b f (k + 1)) = if f (k + 1) < mnN c f (k + 1) then f (k + 1) else mnN c f (k + 1)
    rw [ih]
section TRS2
variable {S P M : PS} {nd rw wd : Nat} {dz : Nat → Nat} {rt : Nat → Nat → Nat}
theorem pr_le (h : TR S P M nd rw wd dz rt) {a : Nat} (ha : a ≤ nd) : 1 ≤ prN dz a ∧ 1 ≤ wyN dz nd a ∧ prN dz a * wyN dz nd a = rw ∧ prN dz a ≤ rw ∧ wyN dz nd a ≤ rw := by
  have e := pr_wy dz a ha
  have z := h.2.2.2.2.1
  have q := h.2.2.1
  rw [← z] at e
  have p1 : prN dz a ≠ 0 := by intro k; rw [k, Nat.zero_mul] at e; omega
  have p2 : wyN dz nd a ≠ 0 := by intro k; rw [k, Nat.mul_zero] at e; omega
  have m1 : prN dz a * 1 ≤ prN dz a * wyN dz nd a := Nat.mul_le_mul_left _ (by omega)
  have m2 : 1 * wyN dz nd a ≤ prN dz a * wyN dz nd a := Nat.mul_le_mul_right _ (by omega)
  omega
theorem wo7 (h : TR S P M nd rw wd dz rt) {a n : Nat} (hn : a + n ≤ nd) : f_X7_waysOf S P (nI a) (nI (a + n)) = some (nI (prN (fun j => dz (a + j)) n)) := by
  obtain ⟨h1, h2, h3, h4, h5, h6, h7, h8, h9, h10, h11, h12, hD, hL, hI, hG⟩ := id h
  have key : L_X7_waysOf_5 P (nI (a + n)) FU 1 (nI a) = some (nI (prN (fun j => dz (a + j)) n)) := by
    unfold L_X7_waysOf_5
    refine loopF_seq0 (fun j => (nI (prN (fun j => dz (a + j)) j), nI (a + j))) n _ rfl (fun j hj => ?_) ?_ (FU_lt (by omega))
    · unfold B_X7_waysOf_5
      dsimp only
      rw [if_neg (nI_ge (by omega) (by omega)), rdI_nI (by omega) (by decide), (hD (a + j) (by omega)).1]
      simp only [b1_some, bn, nI_1, pk_mul]
      rfl
    · unfold B_X7_waysOf_5
      dsimp only
      rw [if_pos (nI_le (by omega) (by omega))]
  unfold f_X7_waysOf
  rw [key]
  rfl
theorem wo7w (h : TR S P M nd rw wd dz rt) {a : Nat} (ha : a ≤ nd) : f_X7_waysOf S P (nI a) (nI nd) = some (nI (wyN dz nd a)) := by
  have := wo7 h (a := a) (n := nd - a) (by omega)
  rw [show a + (nd - a) = nd by omega] at this
  exact this
theorem wo7p (h : TR S P M nd rw wd dz rt) {a : Nat} (ha : a ≤ nd) : f_X7_waysOf S P 0 (nI a) = some (nI (prN dz a)) := by
  have := wo7 h (a := 0) (n := a) (by omega)
  rw [Nat.zero_add] at this
  rw [show (0 : Int32) = nI 0 from rfl, this]
  congr 3
  funext j
  rw [Nat.zero_add]
/-- the reference divides step by step -/
theorem ea10 (h : TR S P M nd rw wd dz rt) {k : Nat} (hk : k ≤ nd) : L_X10_seen_39 (nI k) M FU (nI rw) 0 = some (nI (wyN dz nd k)) := by
  obtain ⟨h1, h2, h3, h4, h5, h6, h7, h8, h9, h10, h11, h12, hD, hL, hI, hG⟩ := id h
  unfold L_X10_seen_39
  refine loopF_seq0 (fun j => (nI (wyN dz nd j), nI j)) k _ (by show _ = (nI (wyN dz nd 0), nI 0); rw [wy_0, ← h5]; rfl) (fun j hj => ?_) ?_ (FU_lt (by omega))
  · obtain ⟨d1, d2, d3, d4⟩ := hD j (by omega)
    obtain ⟨e1, e2, e3, e4, e5⟩ := pr_le h (a := j) (by omega)
    unfold B_X10_seen_39
    dsimp only
    rw [if_neg (nI_ge (by omega) (by omega)), rdI_nI (by omega) (by decide), d2]
    simp only [b1_some]
    rw [dvI_nI (by omega) (by omega) (by omega)]
    simp only [b1_some, bn, nI_1]
    rw [wy_s (by omega : j < nd), Nat.mul_div_cancel_left _ (by omega)]
  · unfold B_X10_seen_39
    dsimp only
    rw [if_pos (nI_le (by omega) (by omega))]
/-- the least over all inputs, within a span of rows -/
def leN (rt : Nat → Nat → Nat) (wd a m : Nat) : Nat := mnN 64 (fun i => fb_sm (fun r => rt i (a + r)) m) (2 ^ wd)
theorem lw7 (h : TR S P M nd rw wd dz rt) {a m : Nat} (hm : 1 ≤ m) (ha : a + m ≤ rw) : f_X7_leastWithin S (lN ((2 ^ m - 1) * 2 ^ a)) = some (nI (leN rt wd a m)) := by
  obtain ⟨h1, h2, h3, h4, h5, h6, h7, h8, h9, h10, h11, h12, hD, hL, hI, hG⟩ := id h
  have l := pw5 h1
  have key : L_X7_leastWithin_6 S (lN ((2 ^ m - 1) * 2 ^ a)) FU 64 0 = some (nI (leN rt wd a m)) := by
    unfold L_X7_leastWithin_6
    refine loopF_seq0 (fun j => (nI (mnN 64 (fun i => fb_sm (fun r => rt i (a + r)) m) j), nI j)) (2 ^ wd) _ rfl (fun j hj => ?_) ?_ (FU_lt (by omega))
    · have b1 := mn_le 64 (fun i => fb_sm (fun r => rt i (a + r)) m) j
      have b2 := rc_le h j a m
      have b : fb_sm (fun r => rt j r * 2 ^ r) rw < 2 ^ rw := bits_lt (fun k => h6 j k) rw
      have l2 : 2 ^ rw ≤ 2 ^ 64 := Nat.pow_le_pow_right (by decide) h4
      have al : fb_sm (fun r => rt j r * 2 ^ r) rw &&& (2 ^ m - 1) * 2 ^ a < 2 ^ 64 := Nat.lt_of_le_of_lt Nat.and_le_left (by omega)
      unfold B_X7_leastWithin_6 f_X7_inputCount
      dsimp only
      rw [h7, shl1 (by omega)]
      simp only [b1_some]
      rw [if_neg (nI_ge (by omega) (by omega)), rdL_nI (by omega) (by decide), hL j hj]
      simp only [b1_some]
      rw [fb_andL, bitCountL_ok _ al, pop_span (fun k => h6 j k) ha h4]
      simp only [b1_some, bn, nI_1]
      rw [mnN]
      by_cases z : fb_sm (fun r => rt j (a + r)) m < mnN 64 (fun i => fb_sm (fun r => rt i (a + r)) m) j
      · rw [if_pos (nI_lt z (by omega)), if_pos z]
      · rw [if_neg (nI_nlt (by omega) (by omega)), if_neg z]
    · unfold B_X7_leastWithin_6 f_X7_inputCount
      dsimp only
      rw [h7, shl1 (by omega)]
      simp only [b1_some]
      rw [if_pos (nI_le (by omega) (by omega))]
      rfl
  unfold f_X7_leastWithin
  rw [key]
  rfl
theorem le10 (h : TR S P M nd rw wd dz rt) {a m : Nat} (ha : a + m ≤ rw) : L_X10_seen_83 M (nI m) (nI a) FU 268435456 0 = some (nI (leN rt wd a m)) := by
  obtain ⟨h1, h2, h3, h4, h5, h6, h7, h8, h9, h10, h11, h12, hD, hL, hI, hG⟩ := id h
  have l := pw5 h1
  have p := Nat.two_pow_pos wd
  have b2 := fun i => rc_le h i a m
  have e : leN rt wd a m = mnN 268435456 (fun i => fb_sm (fun r => rt i (a + r)) m) (2 ^ wd) := by
    unfold leN
    rw [show 2 ^ wd = (2 ^ wd - 1) + 1 by omega]
    exact mn_two (fun i => by have := b2 i; omega) (fun i => by have := b2 i; omega) _
  rw [e]
  unfold L_X10_seen_83
  refine loopF_seq0 (fun j => (nI (mnN 268435456 (fun i => fb_sm (fun r => rt i (a + r)) m) j), nI j)) (2 ^ wd) _ rfl (fun j hj => ?_) ?_ (FU_lt (by omega))
  · have b1 := mn_le 268435456 (fun i => fb_sm (fun r => rt i (a + r)) m) j
    have b3 := b2 j
    unfold B_X10_seen_83
    dsimp only
    rw [h10, shl1 (by omega), if_neg (nI_ge (by omega) (by omega)), rf10 h hj ha rfl]
    simp only [b1_some]
    rw [mnN]
    by_cases z : fb_sm (fun r => rt j (a + r)) m < mnN 268435456 (fun i => fb_sm (fun r => rt i (a + r)) m) j
    · rw [if_neg (nI_ge z (by omega)), if_pos z]
      simp only [b1_some, bn, nI_1]
    · rw [if_pos (nI_le (by omega) (by omega)), if_neg z]
      simp only [b1_some, bn, nI_1]
  · unfold B_X10_seen_83
    dsimp only
    rw [h10, shl1 (by omega), if_pos (nI_le (by omega) (by omega))]
theorem le_le (rt : Nat → Nat → Nat) (wd a m : Nat) : leN rt wd a m ≤ 64 := mn_le _ _ _
def seN (rt : Nat → Nat → Nat) (wd m n : Nat) : Nat := fb_sm (fun i => leN rt wd (i * m) m) n
theorem se_le (rt : Nat → Nat → Nat) (wd m n : Nat) : seN rt wd m n ≤ n * 64 := fb_sm_bound (fun k _ => le_le _ _ _ _)
theorem sp_in {i m n rw : Nat} (hi : i < n) (e : n * m = rw) : i * m + m ≤ rw := by
  rw [← e, ← Nat.succ_mul]
  exact Nat.mul_le_mul_right _ hi
theorem be7 (h : TR S P M nd rw wd dz rt) {k : Nat} (hk : k ≤ nd) : f_X7_rightBeforeEnemy S P (nI k) = some (nI (seN rt wd (wyN dz nd k) (prN dz k))) := by
  obtain ⟨h1, h2, h3, h4, h5, h6, h7, h8, h9, h10, h11, h12, hD, hL, hI, hG⟩ := id h
  obtain ⟨e1, e2, e3, e4, e5⟩ := pr_le h (a := k) hk
  have key : L_X7_rightBeforeEnemy_26 S (nI (prN dz k)) (nI (wyN dz nd k)) FU 0 0 = some (nI (seN rt wd (wyN dz nd k) (prN dz k))) := by
    unfold L_X7_rightBeforeEnemy_26
    refine loopF_seq0 (fun j => (nI (seN rt wd (wyN dz nd k) j), nI j)) (prN dz k) _ rfl (fun j hj => ?_) ?_ (FU_lt (by omega))
    · have q := sp_in hj e3
      unfold B_X7_rightBeforeEnemy_26
      dsimp only
      rw [if_neg (nI_ge (by omega) (by omega)), pk_mul, span_any e2 (by omega)]
      simp only [b1_some]
      rw [lw7 h e2 q]
      simp only [b1_some, bn, nI_1, nI_add]
      rfl
    · unfold B_X7_rightBeforeEnemy_26
      dsimp only
      rw [if_pos (nI_le (by omega) (by omega))]
  unfold f_X7_rightBeforeEnemy
  rw [wo7p h hk, h8, wo7w h hk]
  simp only [b1_some]
  rw [key]
  rfl
theorem se10 (h : TR S P M nd rw wd dz rt) {k : Nat} (hk : k ≤ nd) : L_X10_seen_67 M (nI (wyN dz nd k)) FU 0 0 = some (nI (seN rt wd (wyN dz nd k) (prN dz k))) := by
  obtain ⟨h1, h2, h3, h4, h5, h6, h7, h8, h9, h10, h11, h12, hD, hL, hI, hG⟩ := id h
  obtain ⟨e1, e2, e3, e4, e5⟩ := pr_le h (a := k) hk
  unfold L_X10_seen_67
  refine loopF_seq0 (fun j => (nI (seN rt wd (wyN dz nd k) j), nI (j * wyN dz nd k))) (prN dz k) _ (by show _ = (nI 0, nI (0 * _)); rw [Nat.zero_mul]; rfl) (fun j hj => ?_) ?_ (FU_lt (by omega))
  · have q := sp_in hj e3
    unfold B_X10_seen_67
    dsimp only
    rw [h12, if_neg (nI_ge (by omega) (by omega))]
    simp only [bn]
    rw [le10 h q]
    simp only [b1_some, bn, nI_add]
    rw [← Nat.succ_mul]
    rfl
  · unfold B_X10_seen_67
    dsimp only
    rw [h12, e3, if_pos (nI_le (by omega) (by omega))]
end TRS2
theorem g_seen {P S M : PS} (hR : RP P S M) (p1 p2 : Int32) : OWE P S M (f_X9_seen S P p1 p2) (f_X10_seen M p1 p2) := by
  obtain ⟨nl, nd, rw, wd, kd, ce, aa, ab, ac, dn, dz, h⟩ := id hR
  obtain ⟨⟨a1, a2, a3, a4, a5, a6, a7, a8, a9, a10, aD, aK, aN, aS⟩, b, c, d, e, f, g⟩ := id h
  unfold f_X9_seen f_X10_seen
  rw [a7, a8, part9, part10, in_32 p1 0 (nI nd).toInt64 0 nd rfl (toI_lN (by omega))]
  simp only [b1_some]
  by_cases c1 : 0 ≤ p1.toInt ∧ p1.toInt ≤ nd
  · obtain ⟨k, hk, rfl⟩ := nI_four (N := nd + 1) (x := p1) (by omega)
    rw [if_pos c1, if_neg one_ne0, if_neg (nI_pos (by omega)), if_pos (nI_le (by omega) (by omega))]
    by_cases c2 : 0 ≤ p2.toInt ∧ p2.toInt ≤ 1
    · rw [if_pos c2, if_neg one_ne0, if_neg one_ne0]
      obtain ⟨w, rfl, hw⟩ := ch_ex c2
      obtain ⟨S2, P2, M2, rt, x1, x2, x3, x4, x5⟩ := fresh_ok h
      obtain ⟨h1, h2, h3, h4, h5, h6, h7, h8, h9, h10, h11, h12, hD, hL, hI, hG⟩ := id x5
      obtain ⟨e1, e2, e3, e4, e5⟩ := pr_le x5 (a := k) (by omega)
      have b := se_le rt wd (wyN dz nd k) (prN dz k)
      rw [x1, x2]
      simp only [b1_some, b2_some, bn]
      rw [be7 x5 (by omega), h9, h12, ea10 x5 (by omega)]
      simp only [b1_some]
      rw [se10 x5 (by omega)]
      simp only [b1_some]
      rw [nI_l (by omega), nI_l (by omega), low9 (by omega) (by omega) (by omega) hw, part_ok (by omega) (by omega) (by omega) hw]
      exact ⟨_, S2, P2, M2, rfl, rfl, ⟨nl, nd, rw, wd, kd, ce, aa, ab, ac, dn, dz, x3⟩, x4.mono (by simp) (by simp) (by simp)⟩
    · rw [if_neg c2, if_pos rfl, if_pos rfl]; exact owe0 hR _
  · rw [if_neg c1, if_pos (show (0 : Int32) = 0 from rfl)]
    by_cases z : p1 < 0
    · rw [if_pos z]; exact owe0 hR _
    · rw [if_neg z, if_neg]
      · exact owe0 hR _
      · rw [ltL p1 0 0 rfl] at z
        rw [leL p1 _ nd (nI_toInt (by omega))]
        omega
