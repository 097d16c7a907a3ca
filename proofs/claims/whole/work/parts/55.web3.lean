def btr (w a b : Nat) : Prop := if w = 0 then b < a else a < b
theorem btr_dec (w a b : Nat) : btr w a b ∨ ¬ btr w a b := by
  unfold btr
  by_cases h : w = 0
  · rw [if_pos h]; omega
  · rw [if_neg h]; omega
noncomputable def btd (w a b : Nat) : Nat := if w = 0 then (if b < a then 1 else 0) else if a < b then 1 else 0
theorem bet8 {w a b : Nat} (hw : w ≤ 1) (ha : a < 2 ^ 31) (hb : b < 2 ^ 31) : f_X8_isBetter (nI w) (nI a) (nI b) = some (nI (btd w a b)) := by
  unfold f_X8_isBetter btd
  by_cases h0 : w = 0
  · subst h0
    rw [if_pos nI_0, if_pos rfl]
    by_cases g : b < a
    · rw [if_neg (nI_ge g ha), if_pos g]; rfl
    · rw [if_pos (nI_le (by omega) hb), if_neg g]; rfl
  · rw [if_neg (nI_ne0 (by omega) (by omega)), if_neg h0]
    by_cases g : a < b
    · rw [if_neg (nI_ge g hb), if_pos g]; rfl
    · rw [if_pos (nI_le (by omega) ha), if_neg g]; rfl
theorem btd_01 (w a b : Nat) : btd w a b = 0 ∨ btd w a b = 1 := by
  unfold btd
  split <;> split <;> omega
/-- the first best of f 0 .. f i -/
noncomputable def bsf (w : Nat) (m f : Nat → Nat) : Nat → Nat
  | 0 => f 0
  | i + 1 => if btd w (m (f (i + 1))) (m (bsf w m f i)) = 0 then bsf w m f i else f (i + 1)
theorem bsf_in (w : Nat) (m f : Nat → Nat) : ∀ i, ∃ j, j ≤ i ∧ bsf w m f i = f j := by
  intro i
  induction i with
  | zero => exact ⟨0, Nat.le_refl 0, rfl⟩
  | succ i ih =>
    obtain ⟨j, h1, h2⟩ := ih
    unfold bsf
    split
    · exact ⟨j, by omega, h2⟩
    · exact ⟨i + 1, Nat.le_refl _, rfl⟩
theorem nI01 {x : Nat} (h : x = 0 ∨ x = 1) : nI x = 0 ↔ x = 0 := by
  rcases h with rfl | rfl <;> decide
section WEB3
variable {V Hp M : PS} {n e c h : Nat} {ea eb ew ce hr : Nat → Nat}
theorem meas_lt (hW : WS V Hp M n e c h ea eb ew ce hr) (w s : Nat) : measN ea eb ew ce e c w s < 2000 := by
  unfold measN
  have h1 := cut_le hW s e (Nat.le_refl e)
  have h2 := one_le (ce := ce) s c
  have := hW.2.2.1
  have := hW.2.2.2.1
  split <;> omega
theorem bet10 (hW : WS V Hp M n e c h ea eb ew ce hr) {w a b : Nat} (hw : w ≤ 1) (ha : a < 2 ^ n) (hb : b < 2 ^ n) : f_X10_isBetter M (nI w) (nI a) (nI b) = some (nI (btd w (measN ea eb ew ce e c w a) (measN ea eb ew ce e c w b))) := by
  unfold f_X10_isBetter btd
  have l1 := meas_lt hW w a
  have l2 := meas_lt hW w b
  by_cases h0 : w = 0
  · subst h0
    have q1 := meas10 hW (w := 0) (by omega) ha
    have q2 := meas10 hW (w := 0) (by omega) hb
    rw [show nI 0 = 0 from rfl] at q1 q2
    rw [if_pos nI_0, if_pos rfl, q1, q2]
    simp only [b1_some]
    by_cases g : measN ea eb ew ce e c 0 b < measN ea eb ew ce e c 0 a
    · rw [if_neg (nI_ge g (by omega)), if_pos g]; rfl
    · rw [if_pos (nI_le (by omega) (by omega)), if_neg g]; rfl
  · have h1 : w = 1 := by omega
    subst h1
    have q1 := meas10 hW (w := 1) (by omega) ha
    have q2 := meas10 hW (w := 1) (by omega) hb
    rw [show nI 1 = 1 from rfl] at q1 q2
    rw [if_neg (nI_ne0 (by omega) (by omega)), if_neg h0, q1, q2]
    simp only [b1_some]
    by_cases g : measN ea eb ew ce e c 1 a < measN ea eb ew ce e c 1 b
    · rw [if_neg (nI_ge g (by omega)), if_pos g]; rfl
    · rw [if_pos (nI_le (by omega) (by omega)), if_neg g]; rfl
theorem best8 (hW : WS V Hp M n e c h ea eb ew ce hr) {w : Nat} (hw : w ≤ 1) : f_X8_bestSides V (nI w) = some (nI (bsf w (measN ea eb ew ce e c w) id (2 ^ n - 1))) := by
  obtain ⟨w1, w2, w3, w4, w5, w6, w7, w8, w9, w10, w11, w12, w13, wE, wC, wH⟩ := id hW
  have hp := pw8 w2
  have hpos : 1 ≤ 2 ^ n := Nat.one_le_two_pow
  have q0 := meas8 hW hw (s := 0) (by omega)
  rw [show nI 0 = 0 from rfl] at q0
  unfold f_X8_bestSides L_X8_bestSides_12
  rw [q0]
  simp only [b1_some]
  have hh : loopF (fun x : Int32 × Int32 × Int32 => B_X8_bestSides_12 V (nI w) x.1 x.2.1 x.2.2) FU (0, nI (measN ea eb ew ce e c w 0), 1) = some (nI (bsf w (measN ea eb ew ce e c w) id (2 ^ n - 1))) := by
    refine loopF_seq (fun i => (nI (bsf w (measN ea eb ew ce e c w) id i), nI (measN ea eb ew ce e c w (bsf w (measN ea eb ew ce e c w) id i)), nI (i + 1))) (2 ^ n - 1) _ ?_ ?_ (FU_lt (by omega))
    · intro i hi
      unfold B_X8_bestSides_12
      dsimp only
      have l1 := meas_lt hW w (i + 1)
      have l2 := meas_lt hW w (bsf w (measN ea eb ew ce e c w) id i)
      rw [w6, shl1 (by omega), if_neg (nI_ge (by omega) (by omega)), meas8 hW hw (by omega)]
      simp only [b1_some]
      rw [bet8 hw (by omega) (by omega)]
      simp only [b1_some, bn, nI_1]
      have z := nI01 (btd_01 w (measN ea eb ew ce e c w (i + 1)) (measN ea eb ew ce e c w (bsf w (measN ea eb ew ce e c w) id i)))
      by_cases g : btd w (measN ea eb ew ce e c w (i + 1)) (measN ea eb ew ce e c w (bsf w (measN ea eb ew ce e c w) id i)) = 0
      · rw [if_pos (z.mpr g)]
        simp only [b2_some]
        have e1 : bsf w (measN ea eb ew ce e c w) id (i + 1) = bsf w (measN ea eb ew ce e c w) id i := by
          rw [bsf, if_pos (by simpa using g)]
        rw [e1]
      · rw [if_neg (fun q => g (z.mp q))]
        simp only [b2_some]
        have e1 : bsf w (measN ea eb ew ce e c w) id (i + 1) = i + 1 := by
          rw [bsf, if_neg (by simpa using g)]; rfl
        rw [e1]
    · unfold B_X8_bestSides_12
      dsimp only
      rw [w6, shl1 (by omega), if_pos (nI_le (by omega) (by omega))]
  rw [hh]
  rfl
theorem best10 (hW : WS V Hp M n e c h ea eb ew ce hr) {w : Nat} (hw : w ≤ 1) : L_X10_best_17 M (nI w) FU 0 1 = some (nI (bsf w (measN ea eb ew ce e c w) id (2 ^ n - 1))) := by
  obtain ⟨w1, w2, w3, w4, w5, w6, w7, w8, w9, w10, w11, w12, w13, wE, wC, wH⟩ := id hW
  have hp := pw8 w2
  have hpos : 1 ≤ 2 ^ n := Nat.one_le_two_pow
  unfold L_X10_best_17
  refine loopF_seq (fun i => (nI (bsf w (measN ea eb ew ce e c w) id i), nI (i + 1))) (2 ^ n - 1) _ ?_ ?_ (FU_lt (by omega))
  · intro i hi
    unfold B_X10_best_17
    dsimp only
    obtain ⟨j, hj1, hj2⟩ := bsf_in w (measN ea eb ew ce e c w) id i
    have hj3 : bsf w (measN ea eb ew ce e c w) id i = j := hj2
    rw [w7, shl1 (by omega), if_neg (nI_ge (by omega) (by omega)), bet10 hW hw (by omega) (by omega)]
    simp only [b1_some, bn, nI_1]
    have z := nI01 (btd_01 w (measN ea eb ew ce e c w (i + 1)) (measN ea eb ew ce e c w (bsf w (measN ea eb ew ce e c w) id i)))
    by_cases g : btd w (measN ea eb ew ce e c w (i + 1)) (measN ea eb ew ce e c w (bsf w (measN ea eb ew ce e c w) id i)) = 0
    · rw [if_pos (z.mpr g)]
      simp only [b1_some]
      have e1 : bsf w (measN ea eb ew ce e c w) id (i + 1) = bsf w (measN ea eb ew ce e c w) id i := by
        rw [bsf, if_pos (by simpa using g)]
      rw [e1]
    · rw [if_neg (fun q => g (z.mp q))]
      simp only [b1_some]
      have e1 : bsf w (measN ea eb ew ce e c w) id (i + 1) = i + 1 := by
        rw [bsf, if_neg (by simpa using g)]; rfl
      rw [e1]
  · unfold B_X10_best_17
    dsimp only
    rw [w7, shl1 (by omega), if_pos (nI_le (by omega) (by omega))]
theorem of8 (hW : WS V Hp M n e c h ea eb ew ce hr) {w : Nat} (hw : w ≤ 1) (hh : 0 < h) : f_X0_bestBy Hp V (nI w) = some (nI (bsf w (measN ea eb ew ce e c w) hr (h - 1))) := by
  obtain ⟨w1, w2, w3, w4, w5, w6, w7, w8, w9, w10, w11, w12, w13, wE, wC, wH⟩ := id hW
  have hp := pw8 w2
  unfold f_X0_bestBy L_X0_bestBy_19
  have r0 : rdI 32 (Hp.2.1 0) 0 = some (Hp.2.1 0 0) := rdI_nI (i := 0) (by decide) (by decide)
  rw [w12, if_neg (nI_ne0 hh (by omega)), r0]
  simp only [b1_some]
  rw [(wH 0 hh).1]
  have hq : loopF (fun x : Int32 × Int32 => B_X0_bestBy_19 Hp V (nI w) x.1 x.2) FU (nI (hr 0), 1) = some (nI (bsf w (measN ea eb ew ce e c w) hr (h - 1))) := by
    refine loopF_seq (fun i => (nI (bsf w (measN ea eb ew ce e c w) hr i), nI (i + 1))) (h - 1) _ ?_ ?_ (FU_lt (by omega))
    · intro i hi
      unfold B_X0_bestBy_19
      dsimp only
      obtain ⟨j, hj1, hj2⟩ := bsf_in w (measN ea eb ew ce e c w) hr i
      obtain ⟨t1, t2, t3⟩ := wH (i + 1) (by omega)
      have t4 := (wH j (by omega)).2.2
      have l1 := meas_lt hW w (hr (i + 1))
      have l2 := meas_lt hW w (bsf w (measN ea eb ew ce e c w) hr i)
      rw [w12, if_neg (nI_ge (by omega) (by omega)), rdI_nI (by omega) (by decide), t1]
      simp only [b1_some]
      rw [meas8 hW hw t3, meas8 hW hw (by rw [hj2]; exact t4)]
      simp only [b1_some]
      rw [bet8 hw (by omega) (by omega)]
      simp only [b1_some, bn, nI_1]
      have z := nI01 (btd_01 w (measN ea eb ew ce e c w (hr (i + 1))) (measN ea eb ew ce e c w (bsf w (measN ea eb ew ce e c w) hr i)))
      by_cases g : btd w (measN ea eb ew ce e c w (hr (i + 1))) (measN ea eb ew ce e c w (bsf w (measN ea eb ew ce e c w) hr i)) = 0
      · rw [if_pos (z.mpr g)]
        simp only [b1_some]
        rw [bsf, if_pos g]
      · rw [if_neg (fun q => g (z.mp q))]
        simp only [b1_some]
        rw [bsf, if_neg g]
    · unfold B_X0_bestBy_19
      dsimp only
      rw [w12, if_pos (nI_le (by omega) (by omega))]
  rw [hq]
  rfl
theorem of10 (hW : WS V Hp M n e c h ea eb ew ce hr) {w : Nat} (hw : w ≤ 1) (hh : 0 < h) : L_X10_of_31 M (nI w) FU (nI (hr 0)) 1 = some (nI (bsf w (measN ea eb ew ce e c w) hr (h - 1))) := by
  obtain ⟨w1, w2, w3, w4, w5, w6, w7, w8, w9, w10, w11, w12, w13, wE, wC, wH⟩ := id hW
  have hp := pw8 w2
  unfold L_X10_of_31
  refine loopF_seq (fun i => (nI (bsf w (measN ea eb ew ce e c w) hr i), nI (i + 1))) (h - 1) _ ?_ ?_ (FU_lt (by omega))
  · intro i hi
    unfold B_X10_of_31
    dsimp only
    obtain ⟨j, hj1, hj2⟩ := bsf_in w (measN ea eb ew ce e c w) hr i
    obtain ⟨t1, t2, t3⟩ := wH (i + 1) (by omega)
    have t4 := (wH j (by omega)).2.2
    rw [w13, if_neg (nI_ge (by omega) (by omega)), rdI_nI (by omega) (by decide), t2]
    simp only [b1_some]
    rw [bet10 hW hw t3 (by rw [hj2]; exact t4)]
    simp only [b1_some, bn, nI_1]
    have z := nI01 (btd_01 w (measN ea eb ew ce e c w (hr (i + 1))) (measN ea eb ew ce e c w (bsf w (measN ea eb ew ce e c w) hr i)))
    by_cases g : btd w (measN ea eb ew ce e c w (hr (i + 1))) (measN ea eb ew ce e c w (bsf w (measN ea eb ew ce e c w) hr i)) = 0
    · rw [if_pos (z.mpr g)]
      simp only [b1_some]
      rw [bsf, if_pos g]
    · rw [if_neg (fun q => g (z.mp q))]
      simp only [b1_some]
      rw [bsf, if_neg g]
  · unfold B_X10_of_31
    dsimp only
    rw [w13, if_pos (nI_le (by omega) (by omega))]
end WEB3
theorem g_best {V Hp M : PS} (hR : RWeb V Hp M) (p1 : Int32) : ∃ r : Int32, f_X9_best V p1 = some r ∧ f_X10_best M p1 = some r := by
  obtain ⟨n, e, c, h, ea, eb, ew, ce, hr, hW⟩ := id hR
  unfold f_X9_best f_X10_best
  rw [choice9, in_32 p1 0 1 0 1 rfl rfl]
  simp only [b1_some]
  by_cases g1 : 0 ≤ p1.toInt ∧ p1.toInt ≤ 1
  · rw [if_pos g1, if_neg one_ne0, if_neg one_ne0]
    obtain ⟨w, rfl, hw⟩ := ch_ex g1
    rw [best8 hW hw, best10 hW hw]
    exact ⟨_, rfl, rfl⟩
  · rw [if_neg g1, if_pos rfl, if_pos rfl]
    exact ⟨_, rfl, rfl⟩
theorem g_of {V Hp M : PS} (hR : RWeb V Hp M) (p1 : Int32) : ∃ r : Int32, f_X9_of V Hp p1 = some r ∧ f_X10_of M p1 = some r := by
  obtain ⟨n, e, c, h, ea, eb, ew, ce, hr, hW⟩ := id hR
  obtain ⟨w1, w2, w3, w4, w5, w6, w7, w8, w9, w10, w11, w12, w13, wE, wC, wH⟩ := id hW
  unfold f_X9_of f_X10_of
  rw [choice9, in_32 p1 0 1 0 1 rfl rfl]
  simp only [b1_some]
  by_cases g1 : 0 ≤ p1.toInt ∧ p1.toInt ≤ 1
  · rw [if_pos g1, if_neg one_ne0, if_neg one_ne0]
    obtain ⟨w, rfl, hw⟩ := ch_ex g1
    by_cases hh : 0 < h
    · have r0 : rdI 32 (M.2.1 21) 0 = some (M.2.1 21 0) := rdI_nI (i := 0) (by decide) (by decide)
      rw [of8 hW hw hh, w13, if_neg (nI_ne0 hh (by omega)), r0]
      simp only [b1_some]
      rw [(wH 0 hh).2.1, of10 hW hw hh]
      exact ⟨_, rfl, rfl⟩
    · have : h = 0 := by omega
      subst this
      unfold f_X0_bestBy
      rw [w12, w13, if_pos nI_0, if_pos nI_0]
      exact ⟨_, rfl, rfl⟩
  · rw [if_neg g1, if_pos rfl, if_pos rfl]
    exact ⟨_, rfl, rfl⟩
