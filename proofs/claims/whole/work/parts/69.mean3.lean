/-! expect, byMeans: both sides -/
theorem nI_bv (x : Int32) : x = nI x.toBitVec.toNat := by
  apply Int32.toBitVec_inj.mp
  show x.toBitVec = BitVec.ofNat 32 x.toBitVec.toNat
  simp
theorem nI_zero {y : Nat} (hy : y < 2 ^ 32) (h : nI y = 0) : y = 0 := by
  have := congrArg (fun z => z.toBitVec.toNat) h
  change (BitVec.ofNat 32 y).toNat = 0 at this
  rw [BitVec.toNat_ofNat, Nat.mod_eq_of_lt hy] at this
  exact this
theorem sub_ok {F : Nat} {p : Int32} (h : p &&& (nI F ^^^ (-1)) = 0) : ∃ s, p = nI s ∧ s &&& F = s := by
  refine ⟨p.toBitVec.toNat, nI_bv p, ?_⟩
  have hx : p.toBitVec.toNat < 2 ^ 32 := p.toBitVec.isLt
  rw [nI_bv p, xor_m1, fa_and] at h
  generalize p.toBitVec.toNat = x at *
  have k0 := nI_zero (Nat.lt_of_le_of_lt Nat.and_le_left hx) h
  apply Nat.eq_of_testBit_eq
  intro i
  have k := congrArg (fun x => x.testBit i) k0
  by_cases hi : i < 32
  · have o : (4294967295 : Nat).testBit i = true := by rw [show (4294967295 : Nat) = 2 ^ 32 - 1 from rfl, Nat.testBit_two_pow_sub_one]; simp [hi]
    simp only [Nat.testBit_and, Nat.testBit_xor, Nat.zero_testBit, o] at k ⊢
    revert k
    cases x.testBit i <;> cases F.testBit i <;> decide
  · have : x.testBit i = false := Nat.testBit_lt_two_pow (Nat.lt_of_lt_of_le hx (Nat.pow_le_pow_right (n := 2) (i := 32) (j := i) (by decide) (show 32 ≤ i by omega)))
    simp only [Nat.testBit_and, this, Bool.false_and]
theorem shL : ∀ k, k < 9 → (1 : Int64) <<< ((nI k).toInt64 &&& 63) = lN (2 ^ k) := by decide +kernel
theorem cnt_pow {n F s : Nat} (hF : F < 2 ^ n) (hs : s &&& F = s) : cntF n F s = 2 ^ (n - pop n F) := by
  have c0 := cnt_ok n F s hF hs
  have l := pop_le n F
  have e : 2 ^ n = 2 ^ (n - pop n F) * 2 ^ pop n F := by rw [← Nat.pow_add, Nat.sub_add_cancel l]
  rw [e] at c0
  exact Nat.eq_of_mul_eq_mul_right (Nat.two_pow_pos _) c0
theorem pop32_n {n F : Nat} (hn : n ≤ 8) (hF : F < 2 ^ n) : pop 32 F = pop n F := by
  have := pop_big hF (32 - n)
  rw [show n + (32 - n) = 32 by omega] at this
  exact this
theorem g_expect {V Hp M : PS} (hR : RWeb V Hp M) (p1 p2 p3 p4 : Int32) : ∃ r : Int32, f_X9_expect V p1 p2 p3 p4 = some r ∧ f_X10_expect M p1 p2 p3 p4 = some r := by
  obtain ⟨n, e, c, h, ea, eb, ew, ce, hr, hW⟩ := hR
  obtain ⟨w1, w2, w3, w4, w5, w6, w7, w8, w9, w10, w11, w12, w13, wE, wC, wH⟩ := id hW
  unfold f_X9_expect f_X10_expect
  rw [choice9, part9, part10, kno8 hW, kno10 hW, kno10 hW, in_32 p1 0 1 0 1 rfl rfl]
  simp only [b1_some]
  have l256 := pw8 w2
  by_cases c1 : 0 ≤ p1.toInt ∧ p1.toInt ≤ 1
  · rw [if_pos c1, if_neg one_ne0, if_neg one_ne0]
    by_cases c2 : 0 ≤ p2.toInt ∧ p2.toInt < (2 ^ n : Nat)
    · rw [if_pos c2, if_neg one_ne0, if_neg one_ne0]
      obtain ⟨F, rfl, hF⟩ := kno_ex c2
      obtain ⟨w, rfl, hw⟩ := ch_ex c1
      by_cases c3 : p3 &&& (nI F ^^^ (-1)) = 0
      · rw [if_pos c3, if_pos c3]
        obtain ⟨s, rfl, hs⟩ := sub_ok c3
        have hs2 : s < 2 ^ n := Nat.lt_of_le_of_lt (by rw [← hs]; exact Nat.and_le_right) hF
        have c5 : 0 ≤ (nI s).toInt ∧ (nI s).toInt < (2 ^ n : Nat) := by rw [nI_toInt (by omega)]; omega
        rw [if_pos c5, if_neg one_ne0]
        by_cases c4 : 0 ≤ p4.toInt ∧ p4.toInt ≤ 1
        · rw [if_pos c4, if_neg one_ne0, if_neg one_ne0]
          obtain ⟨q, rfl, hq⟩ := ch_ex c4
          have lp := pop_le n F
          have hb : f_X8_meanBelow (nI w) = some (nI (blwN w)) := by
            have : w = 0 ∨ w = 1 := by omega
            rcases this with rfl | rfl <;> rfl
          have b0 : 0 < blwN w ∧ blwN w < 2 ^ 31 := by unfold blwN; split <;> decide
          have la := abv_le hW w F s
          have ls : sumN n F s (measN ea eb ew ce e c w) ≤ 2 ^ n * 2000 := sum_le hW w F s (2 ^ n)
          have me := mean_eq (w := w) hW hF hs
          have cp := cnt_pow hF hs
          rw [above8 hW hw hF hs2, hb, sumOf10 hW hw hF hs2, bits10 (by omega), pop32_n w2 hF, w7]
          simp only [b1_some]
          rw [low9 b0.1 (by omega) b0.2 hq, pk_sub lp, shL _ (by omega), nI_l (by omega), part_ok (Nat.two_pow_pos _) (by omega) (Nat.lt_of_le_of_lt (Nat.pow_le_pow_right (n := 2) (by decide) (show n - pop n F ≤ 8 by omega)) (by decide)) hq]
          simp only [b1_some]
          refine ⟨_, rfl, ?_⟩
          rw [low_eq b0.1 (Nat.two_pow_pos (n - pop n F)) (c := sumN n F s (measN ea eb ew ce e c w)) (by rw [← cp, ← me, Nat.mul_comm]) q]
        · rw [if_neg c4, if_pos rfl, if_pos rfl]; exact ⟨_, rfl, rfl⟩
      · rw [if_neg c3, if_neg c3]
        refine ⟨-3, ?_, ?_⟩
        · split <;> rfl
        · split <;> rfl
    · rw [if_neg c2, if_pos (show (0 : Int32) = 0 from rfl), if_pos (show (0 : Int32) = 0 from rfl)]
      refine ⟨-3, ?_, rfl⟩
      split <;> rfl
  · rw [if_neg c1, if_pos rfl, if_pos rfl]; exact ⟨_, rfl, rfl⟩
section WEB9
variable {V Hp M : PS} {n e c h : Nat} {ea eb ew ce hr : Nat → Nat}
noncomputable def bmN (w : Nat) (ab : Nat → Nat → Nat) : Nat → Nat
  | 0 => 0
  | i + 1 => if btd w (ab (2 ^ (i + 1) - 1) (bmN w ab i + 2 ^ i)) (ab (2 ^ (i + 1) - 1) (bmN w ab i)) = 0 then bmN w ab i else bmN w ab i + 2 ^ i
theorem bm_lt (w : Nat) (ab : Nat → Nat → Nat) : ∀ i, bmN w ab i < 2 ^ i
  | 0 => Nat.one_pos
  | i + 1 => by
    have := bm_lt w ab i
    rw [bmN, Nat.pow_succ]
    split <;> omega
theorem btd_iff {w a b a' b' : Nat} (h1 : b < a ↔ b' < a') (h2 : a < b ↔ a' < b') : btd w a b = btd w a' b' := by
  unfold btd
  simp only [h1, h2]
theorem mask_le {i n : Nat} (hi : i < n) : 2 ^ (i + 1) - 1 < 2 ^ n := by
  have : 2 ^ (i + 1) ≤ 2 ^ n := Nat.pow_le_pow_right (by decide) hi
  have := Nat.two_pow_pos (i + 1)
  omega
theorem mask_and {x i : Nat} (h : x < 2 ^ (i + 1)) : x &&& (2 ^ (i + 1) - 1) = x := by rw [Nat.and_two_pow_sub_one_eq_mod, Nat.mod_eq_of_lt h]
theorem bm8 (hW : WS V Hp M n e c h ea eb ew ce hr) {w : Nat} (hw : w ≤ 1) : f_X8_sidesByMeans V (nI w) = some (nI (bmN w (abvN ea eb ew ce e c w) n)) := by
  obtain ⟨w1, w2, w3, w4, w5, w6, w7, w8, w9, w10, w11, w12, w13, wE, wC, wH⟩ := id hW
  have key : L_X8_sidesByMeans_7 V (nI w) FU 0 0 0 = some (nI (bmN w (abvN ea eb ew ce e c w) n)) := by
    unfold L_X8_sidesByMeans_7
    refine loopF_seq0 (fun i => (nI (2 ^ i - 1), nI (bmN w (abvN ea eb ew ce e c w) i), nI i)) n _ rfl (fun i hi => ?_) ?_ (FU_lt (by omega))
    · have bl := bm_lt w (abvN ea eb ew ce e c w) i
      have p0 := Nat.two_pow_pos i
      have ps : 2 ^ (i + 1) = 2 ^ i + 2 ^ i := by rw [Nat.pow_succ]; omega
      have pn : 2 ^ (i + 1) ≤ 2 ^ n := Nat.pow_le_pow_right (by decide) hi
      have o1 : nI (2 ^ i - 1) ||| ((1 : Int32) <<< (nI i &&& 31)) = nI (2 ^ (i + 1) - 1) := by
        have := or_bit (a := 2 ^ i - 1) (i := i) (t := 1) (by omega) (by decide) (by omega)
        rw [Nat.one_mul, show 2 ^ i - 1 + 2 ^ i = 2 ^ (i + 1) - 1 by omega] at this
        exact this
      have o2 : nI (bmN w (abvN ea eb ew ce e c w) i) ||| ((1 : Int32) <<< (nI i &&& 31)) = nI (bmN w (abvN ea eb ew ce e c w) i + 2 ^ i) := by
        have := or_bit (a := bmN w (abvN ea eb ew ce e c w) i) (i := i) (t := 1) bl (by decide) (by omega)
        rw [Nat.one_mul] at this
        exact this
      unfold B_X8_sidesByMeans_7
      dsimp only
      rw [w6, if_neg (nI_ge hi (by omega)), o1, o2]
      simp only [bn]
      have m1 := abv_le hW w (2 ^ (i + 1) - 1) (bmN w (abvN ea eb ew ce e c w) i + 2 ^ i)
      have m2 := abv_le hW w (2 ^ (i + 1) - 1) (bmN w (abvN ea eb ew ce e c w) i)
      rw [above8 hW hw (mask_le hi) (by omega), above8 hW hw (mask_le hi) (by omega)]
      simp only [b1_some]
      rw [bet8 hw (by omega) (by omega), bmN]
      simp only [b1_some, nI_1]
      by_cases g : btd w (abvN ea eb ew ce e c w (2 ^ (i + 1) - 1) (bmN w (abvN ea eb ew ce e c w) i + 2 ^ i)) (abvN ea eb ew ce e c w (2 ^ (i + 1) - 1) (bmN w (abvN ea eb ew ce e c w) i)) = 0
      · rw [if_pos ((nI01 (btd_01 _ _ _)).mpr g), if_pos g]; rfl
      · rw [if_neg (fun k => g ((nI01 (btd_01 _ _ _)).mp k)), if_neg g]; rfl
    · unfold B_X8_sidesByMeans_7
      dsimp only
      rw [w6, if_pos (nI_le (Nat.le_refl n) (by omega))]
  unfold f_X8_sidesByMeans
  rw [key]; rfl
theorem bm10 (hW : WS V Hp M n e c h ea eb ew ce hr) {w : Nat} (hw : w ≤ 1) : L_X10_byMeans_17 M (nI w) FU 0 0 = some (nI (bmN w (abvN ea eb ew ce e c w) n)) := by
  obtain ⟨w1, w2, w3, w4, w5, w6, w7, w8, w9, w10, w11, w12, w13, wE, wC, wH⟩ := id hW
  have l256 := pw8 w2
  unfold L_X10_byMeans_17
  refine loopF_seq0 (fun i => (nI (bmN w (abvN ea eb ew ce e c w) i), nI i)) n _ rfl (fun i hi => ?_) ?_ (FU_lt (by omega))
  · have bl := bm_lt w (abvN ea eb ew ce e c w) i
    generalize hB : bmN w (abvN ea eb ew ce e c w) i = B at *
    have p0 := Nat.two_pow_pos i
    have ps : 2 ^ (i + 1) = 2 ^ i + 2 ^ i := by rw [Nat.pow_succ]; omega
    have pn : 2 ^ (i + 1) ≤ 2 ^ n := Nat.pow_le_pow_right (by decide) hi
    have o2 : nI B ||| ((1 : Int32) <<< (nI i &&& 31)) = nI (B + 2 ^ i) := by
      have := or_bit (a := B) (i := i) (t := 1) bl (by decide) (by omega)
      rw [Nat.one_mul] at this
      exact this
    have o1 : ((2 : Int32) <<< (nI i &&& 31)) - 1 = nI (2 ^ (i + 1) - 1) := by
      have : ∀ j, j < 8 → ((2 : Int32) <<< (nI j &&& 31)) - 1 = nI (2 ^ (j + 1) - 1) := by decide +kernel
      exact this i (by omega)
    unfold B_X10_byMeans_17
    dsimp only
    rw [w7, if_neg (nI_ge hi (by omega)), o1, o2]
    simp only [bn]
    have sB := mask_and (x := B) (i := i) (by omega)
    have sB2 := mask_and (x := B + 2 ^ i) (i := i) (by omega)
    have me1 := mean_eq (w := w) hW (mask_le hi) sB
    have me2 := mean_eq (w := w) hW (mask_le hi) sB2
    rw [cnt_pow (mask_le hi) sB] at me1
    rw [cnt_pow (mask_le hi) sB2] at me2
    have l1 : sumN n (2 ^ (i + 1) - 1) B (measN ea eb ew ce e c w) ≤ 2 ^ n * 2000 := sum_le hW w _ _ (2 ^ n)
    have l2 : sumN n (2 ^ (i + 1) - 1) (B + 2 ^ i) (measN ea eb ew ce e c w) ≤ 2 ^ n * 2000 := sum_le hW w _ _ (2 ^ n)
    rw [sumOf10 hW hw (mask_le hi) (by omega), sumOf10 hW hw (mask_le hi) (by omega), bmN, hB]
    simp only [b1_some, nI_1]
    generalize sumN n (2 ^ (i + 1) - 1) B (measN ea eb ew ce e c w) = S0 at *
    generalize sumN n (2 ^ (i + 1) - 1) (B + 2 ^ i) (measN ea eb ew ce e c w) = S1 at *
    generalize abvN ea eb ew ce e c w (2 ^ (i + 1) - 1) B = A0 at *
    generalize abvN ea eb ew ce e c w (2 ^ (i + 1) - 1) (B + 2 ^ i) = A1 at *
    have C0 := Nat.two_pow_pos (n - pop n (2 ^ (i + 1) - 1))
    generalize 2 ^ (n - pop n (2 ^ (i + 1) - 1)) = C at *
    have b0 : 0 < blwN w := by unfold blwN; split <;> decide
    have i1 : A0 < A1 ↔ S0 < S1 := by
      rw [← Nat.mul_lt_mul_right C0 (b := A0), ← me1, ← me2, Nat.mul_lt_mul_left b0]
    have i2 : A1 < A0 ↔ S1 < S0 := by
      rw [← Nat.mul_lt_mul_right C0 (b := A1), ← me1, ← me2, Nat.mul_lt_mul_left b0]
    rw [btd_iff i1 i2]
    have z0 : ∀ x : Int32, x ||| 0 = x := fun x => Int32.or_zero
    have hw2 : w = 0 ∨ w = 1 := by omega
    rcases hw2 with rfl | rfl
    · rw [if_pos (show nI 0 = 0 from rfl)]
      unfold btd
      by_cases g : S0 < S1
      · rw [if_neg (nI_ge g (by omega)), if_neg (by simp [g])]
        simp only [b1_some]
        rw [o2]
      · rw [if_pos (nI_le (show S1 ≤ S0 by omega) (by omega)), if_pos (by simp [g])]
        simp only [b1_some, z0]
    · rw [if_neg (show ¬ nI 1 = 0 from one_ne0)]
      unfold btd
      by_cases g : S1 < S0
      · rw [if_neg (nI_ge g (by omega)), if_neg (by simp [g])]
        simp only [b1_some]
        rw [o2]
      · rw [if_pos (nI_le (show S0 ≤ S1 by omega) (by omega)), if_pos (by simp [g])]
        simp only [b1_some, z0]
  · unfold B_X10_byMeans_17
    dsimp only
    rw [w7, if_pos (nI_le (Nat.le_refl n) (by omega))]
end WEB9
theorem g_byMeans {V Hp M : PS} (hR : RWeb V Hp M) (p1 : Int32) : ∃ r : Int32, f_X9_byMeans V p1 = some r ∧ f_X10_byMeans M p1 = some r := by
  obtain ⟨n, e, c, h, ea, eb, ew, ce, hr, hW⟩ := hR
  unfold f_X9_byMeans f_X10_byMeans
  rw [choice9, in_32 p1 0 1 0 1 rfl rfl]
  simp only [b1_some]
  by_cases c1 : 0 ≤ p1.toInt ∧ p1.toInt ≤ 1
  · rw [if_pos c1, if_neg one_ne0, if_neg one_ne0]
    obtain ⟨w, rfl, hw⟩ := ch_ex c1
    rw [bm8 hW hw, bm10 hW hw]
    exact ⟨_, rfl, rfl⟩
  · rw [if_neg c1, if_pos rfl, if_pos rfl]; exact ⟨_, rfl, rfl⟩
