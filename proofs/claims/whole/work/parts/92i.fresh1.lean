/-! which rows and inputs are right, made up -/
theorem span_any {a m : Nat} (h1 : 1 ≤ m) (h : a + m ≤ 64) : f_X7_span (nI a) (nI m) = some (lN ((2 ^ m - 1) * 2 ^ a)) := by
  have h0 : ∀ n, n < 65 → 1 ≤ n → ((((-1) : Int64).toUInt64 >>> ((64 - nI n).toInt64.toUInt64 &&& Int64.toUInt64 63)).toInt64) = lN (2 ^ n - 1) := by decide +kernel
  unfold f_X7_span
  rw [h0 m (by omega) h1, wb_shl _ (by omega)]
theorem bit64 {x k : Nat} (hk : k < 64) : (lN x >>> ((nI k).toInt64 &&& 63)) &&& 1 = lN (x / 2 ^ k % 2) := by
  apply Int64.toBitVec_inj.mp
  rw [Int64.toBitVec_and, Int64.toBitVec_shiftRight, wb_c k hk, wb_tb, wb_tb, wb_tb, wb_sm k hk]
  apply BitVec.eq_of_getLsbD_eq
  intro i hi
  rw [BitVec.getLsbD_and]
  by_cases z : i = 0
  · subst z
    rw [BitVec.sshiftRight_eq', BitVec.getLsbD_sshiftRight]
    rw [BitVec.toNat_ofNat, Nat.mod_eq_of_lt (by omega : k < 2 ^ 64)]
    have e1 : (1 : Int64).toBitVec.getLsbD 0 = true := by decide
    rw [e1, Bool.and_true, if_pos (by omega), BitVec.getLsbD_ofNat, BitVec.getLsbD_ofNat]
    have : (x / 2 ^ k % 2).testBit 0 = x.testBit k := by
      rw [Nat.testBit_eq_decide_div_mod_eq, Nat.testBit_eq_decide_div_mod_eq]
      simp
    rw [this]
    simp
    omega
  · have e1 : (1 : Int64).toBitVec.getLsbD i = false := by
      show (1#64).getLsbD i = false
      rw [BitVec.getLsbD_one]; simp; omega
    rw [e1, Bool.and_false, BitVec.getLsbD_ofNat]
    have : (x / 2 ^ k % 2).testBit i = false := by
      apply Nat.testBit_lt_two_pow
      have : 2 ^ 1 ≤ 2 ^ i := Nat.pow_le_pow_right (by decide) (by omega)
      omega
    rw [this, Bool.and_false]
theorem or_bit32 {a i t : Nat} (ha : a < 2 ^ i) (ht : t < 2) (hi : i < 32) : nI a ||| (nI t <<< (nI i &&& 31)) = nI (a + t * 2 ^ i) := by
  have l : 2 ^ i ≤ 2 ^ 31 := Nat.pow_le_pow_right (by decide) (by omega)
  have l2 : t * 2 ^ i ≤ 1 * 2 ^ i := Nat.mul_le_mul_right _ (by omega)
  rw [pk_shlN _ i (s_l i hi) (by omega), fa_or]
  congr 1
  rw [Nat.or_comm, Nat.mul_comm, ← Nat.two_pow_add_eq_or_of_lt ha, Nat.add_comm]
theorem not_lN {n : Nat} (h : n < 2 ^ 64) : lN n ^^^ (-1) = lN (2 ^ 64 - 1 - n) := by
  apply Int64.toBitVec_inj.mp
  rw [Int64.toBitVec_xor, wb_tb, wb_tb, show (-1 : Int64).toBitVec = BitVec.allOnes 64 from rfl, BitVec.xor_allOnes]
  apply BitVec.eq_of_toNat_eq
  rw [BitVec.toNat_not, BitVec.toNat_ofNat, BitVec.toNat_ofNat, Nat.mod_eq_of_lt h, Nat.mod_eq_of_lt (by omega)]
theorem bits_not {f : Nat → Nat} (hf : ∀ k, f k ≤ 1) : ∀ n, fb_sm (fun k => (1 - f k) * 2 ^ k) n + fb_sm (fun k => f k * 2 ^ k) n = 2 ^ n - 1
  | 0 => rfl
  | n + 1 => by
    have ih := bits_not hf n
    have h1 := hf n
    have p := Nat.two_pow_pos n
    rw [fb_sm_succ, fb_sm_succ, Nat.pow_succ]
    have : (1 - f n) * 2 ^ n + f n * 2 ^ n = 2 ^ n := by rw [← Nat.add_mul, Nat.sub_add_cancel h1, Nat.one_mul]
    omega
theorem and_not {n x : Nat} (hn : n ≤ 64) (hx : x < 2 ^ n) : lN (2 ^ n - 1) &&& (lN x ^^^ (-1)) = lN (2 ^ n - 1 - x) := by
  have l : 2 ^ n ≤ 2 ^ 64 := Nat.pow_le_pow_right (by decide) hn
  rw [not_lN (by omega), fb_andL, Nat.and_comm, Nat.and_two_pow_sub_one_eq_mod]
  congr 1
  have e : 2 ^ 64 = 2 ^ n * 2 ^ (64 - n) := by rw [← Nat.pow_add]; congr 1; omega
  have p := Nat.two_pow_pos (64 - n)
  rw [show 2 ^ 64 - 1 - x = (2 ^ n - 1 - x) + 2 ^ n * (2 ^ (64 - n) - 1) by
    rw [Nat.mul_sub, ← e, Nat.mul_one]; omega]
  rw [Nat.add_mul_mod_self_left, Nat.mod_eq_of_lt (by omega)]
theorem fill64 (g : Nat → Int32) : ∃ f, f_J7_fill_53178 64 g 0 = some f ∧ ∀ x, x < 64 → f x = 0 := by
  have key : ∃ f, L_J7_fill_53178_5 64 0 64 FU 0 g = some f ∧ ∀ x, x < 64 → f x = 0 := by
    unfold L_J7_fill_53178_5
    refine loopF_inv (fun j x => x.1 = nI j ∧ ∀ y, y < j → x.2 y = 0) _ 64 ?_ ?_ 64 0 (0, g) FU (by omega) (FU_lt (by omega)) ⟨rfl, fun y hy => by omega⟩
    · rintro j hj ⟨u, U⟩ ⟨k1, k2⟩
      dsimp only at k1 k2
      subst k1
      left
      unfold B_J7_fill_53178_5
      dsimp only
      rw [if_neg (show ¬ (64 : Int32) ≤ nI j from nI_ge (b := 64) hj (by decide)), wrI_nI hj (by decide)]
      simp only [b1_some, bn, nI_1]
      refine ⟨_, rfl, rfl, fun y hy => ?_⟩
      dsimp only
      rw [up_s]
      by_cases z : y = j
      · rw [if_pos z]
      · rw [if_neg z]; exact k2 y (by omega)
    · rintro ⟨u, U⟩ ⟨k1, k2⟩
      dsimp only at k1 k2
      subst k1
      refine ⟨U, ?_, k2⟩
      unfold B_J7_fill_53178_5
      dsimp only
      rw [if_pos (show (64 : Int32) ≤ nI 64 from nI_le (a := 64) (by decide) (by decide))]
  obtain ⟨f, h1, h2⟩ := key
  refine ⟨f, ?_, h2⟩
  unfold f_J7_fill_53178
  simp only [bn]
  rw [show Int32.ofNat 64 = 64 from rfl, h1]
  rfl
