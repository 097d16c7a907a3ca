/-! one bit of 32 -/
theorem bit32 {x k : Nat} (hx : x < 2 ^ 32) (hk : k < 32) : (nI x >>> (nI k &&& 31)) &&& 1 = nI (x / 2 ^ k % 2) := by
  rw [pk_and (m := 1) _ 1 rfl]
  congr 1
  have h1 := pk_shr (nI x) (nI k &&& 31) k (s_l k hk)
  rw [Int.shiftRight_eq_div_pow] at h1
  generalize (nI x >>> (nI k &&& 31)) = y at h1 ⊢
  have h2 : y.toInt = y.toBitVec.toInt := rfl
  rw [BitVec.toInt_eq_toNat_cond] at h2
  have h3 : (nI x).toInt = if 2 * x < 2 ^ 32 then (x : Int) else (x : Int) - 2 ^ 32 := by
    show (BitVec.ofNat 32 x).toInt = _
    rw [BitVec.toInt_eq_toNat_cond, BitVec.toNat_ofNat, Nat.mod_eq_of_lt hx]
    rfl
  have e : (2 : Int) ^ 32 = 2 ^ k * (2 * 2 ^ (31 - k)) := by
    rw [← Int.mul_assoc, Int.mul_comm (2 ^ k) 2, Int.mul_assoc, ← Int.pow_add, show k + (31 - k) = 31 by omega]; rfl
  have pk : (2 : Int) ^ k ≠ 0 := by
    have : (0 : Int) < 2 ^ k := Int.pow_pos (by decide)
    omega
  have h4 : ((x : Int) - 2 ^ 32) / ((2 ^ k : Nat) : Int) = (x : Int) / ((2 ^ k : Nat) : Int) - 2 * 2 ^ (31 - k) := by
    rw [show ((2 ^ k : Nat) : Int) = (2 : Int) ^ k by simp, e, Int.sub_eq_add_neg, ← Int.mul_neg, Int.add_mul_ediv_left _ _ pk]
    rfl
  have h5 : (x : Int) / ((2 ^ k : Nat) : Int) = ((x / 2 ^ k : Nat) : Int) := by simp
  generalize (2 : Int) ^ (31 - k) = z at *
  generalize x / 2 ^ k = w at *
  rw [h3] at h1
  by_cases c : 2 * x < 2 ^ 32
  · rw [if_pos c, h5] at h1
    split at h2 <;> omega
  · rw [if_neg c, h4, h5] at h1
    split at h2 <;> omega
