/-! expect and byMeans -/
section WEB8
variable {V Hp M : PS} {n e c h : Nat} {ea eb ew ce hr : Nat → Nat}
theorem xor_m1 (F : Nat) : nI F ^^^ (-1 : Int32) = nI (F ^^^ 4294967295) := by
  rw [show (-1 : Int32) = nI 4294967295 from by decide, fb_xorI]
def abvN (ea eb ew ce : Nat → Nat) (e c w F s : Nat) : Nat := if w = 0 then fb_sm (fun k => ecN F s (ea k) (eb k) (ew k)) e else fb_sm (fun k => ocN F s (ce k)) c
def blwN (w : Nat) : Nat := if w = 0 then 2 else 256
theorem ec_le {F s a b w : Nat} (h : w ≤ 99) : ecN F s a b w ≤ 198 := by
  unfold ecN
  split
  · split <;> omega
  · omega
theorem oc_le (F s m : Nat) : ocN F s m ≤ 512 := by
  unfold ocN
  have h1 : (if s &&& m = 0 then 1 else 0) + (if s &&& m = m &&& F then 1 else 0) ≤ 2 := by
    split <;> split <;> omega
  have h2 : 2 ^ (8 - pop 8 (outN m F)) ≤ 2 ^ 8 := Nat.pow_le_pow_right (by decide) (by omega)
  exact Nat.mul_le_mul h1 h2
theorem cutMean8 (hW : WS V Hp M n e c h ea eb ew ce hr) {F s : Nat} (hF : F < 2 ^ n) (hs : s < 2 ^ n) : f_X8_cutMean V (nI F) (nI s) = some (nI (fb_sm (fun k => ecN F s (ea k) (eb k) (ew k)) e)) := by
  obtain ⟨w1, w2, w3, w4, w5, w6, w7, w8, w9, w10, w11, w12, w13, wE, wC, wH⟩ := id hW
  have hs2 : s < 256 := Nat.lt_of_lt_of_le hs (pw8 w2)
  have hF2 : F < 256 := Nat.lt_of_lt_of_le hF (pw8 w2)
  have key : L_X8_cutMean_5 V (nI F) (nI s) FU 0 0 = some (nI (fb_sm (fun k => ecN F s (ea k) (eb k) (ew k)) e)) := by
    unfold L_X8_cutMean_5
    refine loopF_seq0 (fun i => (nI (fb_sm (fun k => ecN F s (ea k) (eb k) (ew k)) i), nI i)) e _ rfl (fun i hi => ?_) ?_ (FU_lt (by omega))
    · obtain ⟨q1, q2, q3, q4, q5, q6, q7, q8, q9, q10, q11⟩ := wE i hi
      have m0 := ed_lt (ea i) (by omega) (eb i) (by omega)
      unfold B_X8_cutMean_5
      dsimp only
      rw [w8, if_neg (nI_ge hi (by omega))]
      simp only [rdI_nI (show i < 16 by omega) (show 16 < 2 ^ 31 by decide), b1_some, q1, q3, q5, bn]
      rw [shl1 (by omega), shl1 (by omega)]
      have eo : nI (2 ^ ea i) ||| nI (2 ^ eb i) = nI (2 ^ ea i + 2 ^ eb i) := by rw [fa_or, ed_or _ (by omega) _ (by omega) q9]
      rw [eo, fa_and, fa_and, fb_sm_succ]
      unfold ecN
      generalize 2 ^ ea i + 2 ^ eb i = m at *
      have d1 : nI (m &&& F) = nI m ↔ m &&& F = m := nI_eq (Nat.lt_of_le_of_lt Nat.and_le_left (by omega)) (by omega)
      have d2 : nI (m &&& s) = 0 ↔ s &&& m = 0 := by rw [Nat.and_comm]; exact nI_eq (b := 0) (Nat.lt_of_le_of_lt Nat.and_le_right (by omega)) (by decide)
      have d3 : nI (m &&& s) = nI m ↔ s &&& m = m := by rw [Nat.and_comm s m]; exact nI_eq (Nat.lt_of_le_of_lt Nat.and_le_left (by omega)) (by omega)
      by_cases g : m &&& F = m
      · rw [if_pos (d1.mpr g), if_pos g]
        by_cases g0 : s &&& m = 0
        · rw [if_pos (d2.mpr g0), if_pos (Or.inl g0)]
          simp only [b1_some, nI_1, Nat.add_zero]
        · rw [if_neg (fun k => g0 (d2.mp k))]
          by_cases g1 : s &&& m = m
          · rw [if_pos (d3.mpr g1), if_pos (Or.inr g1)]
            simp only [b1_some, nI_1, Nat.add_zero]
          · rw [if_neg (fun k => g1 (d3.mp k)), if_neg (fun k => by rcases k with k | k; exact g0 k; exact g1 k)]
            simp only [b1_some, nI_1]
            rw [show (2 : Int32) = nI 2 from rfl, pk_mul, nI_add]
      · rw [if_neg (fun k => g (d1.mp k)), if_neg g]
        simp only [b1_some, nI_1, nI_add]
    · unfold B_X8_cutMean_5
      dsimp only
      rw [w8, if_pos (nI_le (Nat.le_refl e) (by omega))]
  unfold f_X8_cutMean
  rw [key]; rfl
theorem oneMean8 (hW : WS V Hp M n e c h ea eb ew ce hr) {F s : Nat} (hF : F < 2 ^ n) (hs : s < 2 ^ n) : f_X8_oneSidedMean V (nI F) (nI s) = some (nI (fb_sm (fun k => ocN F s (ce k)) c)) := by
  obtain ⟨w1, w2, w3, w4, w5, w6, w7, w8, w9, w10, w11, w12, w13, wE, wC, wH⟩ := id hW
  have hs2 : s < 256 := Nat.lt_of_lt_of_le hs (pw8 w2)
  have hF2 : F < 256 := Nat.lt_of_lt_of_le hF (pw8 w2)
  have key : L_X8_oneSidedMean_5 V (nI F) (nI s) FU 0 0 = some (nI (fb_sm (fun k => ocN F s (ce k)) c)) := by
    unfold L_X8_oneSidedMean_5
    refine loopF_seq0 (fun i => (nI (fb_sm (fun k => ocN F s (ce k)) i), nI i)) c _ rfl (fun i hi => ?_) ?_ (FU_lt (by omega))
    · obtain ⟨q1, q2, q3, q4⟩ := wC i hi
      have q5 : ce i < 256 := Nat.lt_of_lt_of_le q3 (pw8 w2)
      have l1 : outN (ce i) F < 256 := Nat.lt_of_le_of_lt Nat.and_le_left q5
      have l2 := pop8_le _ l1
      unfold B_X8_oneSidedMean_5
      dsimp only
      rw [w10, if_neg (nI_ge hi (by omega))]
      simp only [rdI_nI (show i < 10 by omega) (show 10 < 2 ^ 31 by decide), b1_some, q1, bn, fa_and, xor_m1]
      rw [show ce i &&& (F ^^^ 4294967295) = outN (ce i) F from rfl, bitCount_ok _ (by omega), pop32_8 l1]
      simp only [b1_some]
      rw [show (8 : Int32) = nI 8 from rfl, pk_sub l2, shl1 (by omega), fb_sm_succ]
      unfold ocN
      have d2 : nI (ce i &&& s) = 0 ↔ s &&& ce i = 0 := by rw [Nat.and_comm]; exact nI_eq (b := 0) (Nat.lt_of_le_of_lt Nat.and_le_right (by omega)) (by decide)
      have d3 : nI (ce i &&& s) = nI (ce i &&& F) ↔ s &&& ce i = ce i &&& F := by rw [Nat.and_comm s]; exact nI_eq (Nat.lt_of_le_of_lt Nat.and_le_left (by omega)) (Nat.lt_of_le_of_lt Nat.and_le_left (by omega))
      by_cases g0 : s &&& ce i = 0
      · rw [if_pos (d2.mpr g0), if_pos g0]
        simp only [b1_some, nI_add]
        by_cases g1 : s &&& ce i = ce i &&& F
        · rw [if_pos (d3.mpr g1), if_pos g1]
          simp only [b1_some, nI_add, nI_1]
          rw [show (1 + 1) * 2 ^ (8 - pop 8 (outN (ce i) F)) = 2 ^ (8 - pop 8 (outN (ce i) F)) + 2 ^ (8 - pop 8 (outN (ce i) F)) by omega, Nat.add_assoc]
        · rw [if_neg (fun k => g1 (d3.mp k)), if_neg g1]
          simp only [b1_some, nI_1, Nat.add_zero, Nat.one_mul]
      · rw [if_neg (fun k => g0 (d2.mp k)), if_neg g0]
        simp only [b1_some]
        by_cases g1 : s &&& ce i = ce i &&& F
        · rw [if_pos (d3.mpr g1), if_pos g1]
          simp only [b1_some, nI_add, nI_1, Nat.zero_add, Nat.one_mul]
        · rw [if_neg (fun k => g1 (d3.mp k)), if_neg g1]
          simp only [b1_some, nI_1, Nat.add_zero, Nat.zero_mul]
    · unfold B_X8_oneSidedMean_5
      dsimp only
      rw [w10, if_pos (nI_le (Nat.le_refl c) (by omega))]
  unfold f_X8_oneSidedMean
  rw [key]; rfl
theorem above8 (hW : WS V Hp M n e c h ea eb ew ce hr) {w F s : Nat} (hw : w ≤ 1) (hF : F < 2 ^ n) (hs : s < 2 ^ n) : f_X8_meanAbove V (nI w) (nI F) (nI s) = some (nI (abvN ea eb ew ce e c w F s)) := by
  unfold f_X8_meanAbove abvN
  have hw2 : w = 0 ∨ w = 1 := by omega
  rcases hw2 with rfl | rfl
  · rw [if_pos (show nI 0 = 0 from rfl), if_pos rfl, cutMean8 hW hF hs]; rfl
  · rw [if_neg (show ¬ nI 1 = 0 from one_ne0), if_neg (by decide), oneMean8 hW hF hs]; rfl
theorem abv_le (hW : WS V Hp M n e c h ea eb ew ce hr) (w F s : Nat) : abvN ea eb ew ce e c w F s ≤ 10000 := by
  obtain ⟨w1, w2, w3, w4, w5, w6, w7, w8, w9, w10, w11, w12, w13, wE, wC, wH⟩ := id hW
  unfold abvN
  split
  · have : fb_sm (fun k => ecN F s (ea k) (eb k) (ew k)) e ≤ e * 198 := fb_sm_bound (fun k hk => ec_le (wE k hk).2.2.2.2.2.2.2.2.2.2)
    omega
  · have : fb_sm (fun k => ocN F s (ce k)) c ≤ c * 512 := fb_sm_bound (fun k hk => oc_le _ _ _)
    omega
def sumN (n F s : Nat) (f : Nat → Nat) : Nat := fb_sm (fun v => if v &&& F = s then f v else 0) (2 ^ n)
theorem mean_eq (hW : WS V Hp M n e c h ea eb ew ce hr) {w F s : Nat} (hF : F < 2 ^ n) (hs : s &&& F = s) : blwN w * sumN n F s (measN ea eb ew ce e c w) = abvN ea eb ew ce e c w F s * cntF n F s := by
  obtain ⟨w1, w2, w3, w4, w5, w6, w7, w8, w9, w10, w11, w12, w13, wE, wC, wH⟩ := id hW
  unfold blwN sumN abvN measN
  by_cases g : w = 0
  · rw [if_pos g, if_pos g]
    have : fb_sm (fun v => if v &&& F = s then (if w = 0 then cutN ea eb ew e v else oneN ce c v) else 0) (2 ^ n) = fb_sm (fun v => fb_sm (fun k => if v &&& F = s then (if v / 2 ^ ea k % 2 = v / 2 ^ eb k % 2 then 0 else ew k) else 0) e) (2 ^ n) := by
      refine fb_sm_cong (fun v _ => ?_)
      by_cases q : v &&& F = s
      · rw [if_pos q, if_pos g]
        unfold cutN
        exact fb_sm_cong (fun k _ => by rw [if_pos q])
      · rw [if_neg q, fb_sm_cong (g := fun _ => 0) (fun k _ => by rw [if_neg q]), fb_sm_const, Nat.mul_zero]
    rw [this, sm_swap, ← sm_mul, Nat.mul_comm, ← sm_mul]
    refine fb_sm_cong (fun k hk => ?_)
    obtain ⟨q1, q2, q3, q4, q5, q6, q7, q8, q9, q10, q11⟩ := wE k hk
    rw [edge_mean (ew k) w2 hF q7 q8 q9 hs, Nat.mul_comm]
  · rw [if_neg g, if_neg g]
    have : fb_sm (fun v => if v &&& F = s then (if w = 0 then cutN ea eb ew e v else oneN ce c v) else 0) (2 ^ n) = fb_sm (fun v => fb_sm (fun k => if v &&& F = s then (if v &&& ce k = 0 ∨ v &&& ce k = ce k then 1 else 0) else 0) c) (2 ^ n) := by
      refine fb_sm_cong (fun v _ => ?_)
      by_cases q : v &&& F = s
      · rw [if_pos q, if_neg g]
        unfold oneN
        exact fb_sm_cong (fun k _ => by rw [if_pos q])
      · rw [if_neg q, fb_sm_cong (g := fun _ => 0) (fun k _ => by rw [if_neg q]), fb_sm_const, Nat.mul_zero]
    rw [this, sm_swap, ← sm_mul, Nat.mul_comm, ← sm_mul]
    refine fb_sm_cong (fun k hk => ?_)
    obtain ⟨q1, q2, q3, q4⟩ := wC k hk
    have m0 : 0 < ce k := by
      rcases Nat.eq_zero_or_pos (ce k) with z | z
      · rw [z, pop_0] at q4; omega
      · exact z
    rw [cord_mean w2 hF q3 m0 hs, Nat.mul_comm]
theorem sum_le (hW : WS V Hp M n e c h ea eb ew ce hr) (w F s i : Nat) : fb_sm (fun v => if v &&& F = s then measN ea eb ew ce e c w v else 0) i ≤ i * 2000 := fb_sm_bound (fun v _ => by
  have := meas_lt hW w v
  split <;> omega)
theorem sumOf10 (hW : WS V Hp M n e c h ea eb ew ce hr) {w F s : Nat} (hw : w ≤ 1) (hF : F < 2 ^ n) (hs : s < 2 ^ n) : f_X10_sumOf M (nI w) (nI F) (nI s) = some (nI (sumN n F s (measN ea eb ew ce e c w))) := by
  obtain ⟨w1, w2, w3, w4, w5, w6, w7, w8, w9, w10, w11, w12, w13, wE, wC, wH⟩ := id hW
  have l256 := pw8 w2
  have key : L_X10_sumOf_6 M (nI w) (nI F) (nI s) FU 0 0 = some (nI (sumN n F s (measN ea eb ew ce e c w))) := by
    unfold L_X10_sumOf_6
    refine loopF_seq0 (fun i => (nI (fb_sm (fun v => if v &&& F = s then measN ea eb ew ce e c w v else 0) i), nI i)) (2 ^ n) _ rfl (fun i hi => ?_) ?_ (FU_lt (by omega))
    · unfold B_X10_sumOf_6
      dsimp only
      rw [w7, shl1 (by omega), if_neg (nI_ge hi (by omega)), fa_and, fb_sm_succ]
      have d : nI (i &&& F) = nI s ↔ i &&& F = s := nI_eq (Nat.lt_of_le_of_lt Nat.and_le_left (by omega)) (by omega)
      by_cases g : i &&& F = s
      · rw [if_pos (d.mpr g), if_pos g, meas10 hW hw hi]
        simp only [b1_some, bn, nI_1, nI_add]
      · rw [if_neg (fun k => g (d.mp k)), if_neg g]
        simp only [b1_some, bn, nI_1, Int32.add_zero, Nat.add_zero]
    · unfold B_X10_sumOf_6
      dsimp only
      rw [w7, shl1 (by omega), if_pos (nI_le (Nat.le_refl _) (by omega))]
      rfl
  unfold f_X10_sumOf
  rw [key]; rfl
end WEB8
