/-! numbers of one size: the next one -/
theorem ls_ge : ∀ m x, x < 2 ^ m → 2 ^ pop m x - 1 ≤ x
  | 0, x, _ => by show 2 ^ 0 - 1 ≤ x; omega
  | m + 1, x, h => by
    rw [pop_low]
    have hx : x / 2 < 2 ^ m := by rw [Nat.pow_succ] at h; omega
    have ih := ls_ge m (x / 2) hx
    have p := Nat.two_pow_pos (pop m (x / 2))
    rcases (show x % 2 = 0 ∨ x % 2 = 1 by omega) with e | e
    · rw [e, Nat.zero_add]; omega
    · rw [e, Nat.add_comm, Nat.pow_succ]; omega
theorem ls_pop {a q r : Nat} (m : Nat) (hr : r < 2 ^ a) : pop (a + m) (2 ^ a * q + r) = pop a r + pop m q := by
  have p := Nat.two_pow_pos a
  rw [pop_split]
  congr 1
  · rw [← pop_mod (2 ^ a * q + r) a a (Nat.le_refl _), Nat.mul_add_mod, Nat.mod_eq_of_lt hr]
  · rw [Nat.mul_add_div p, Nat.div_eq_of_lt hr, Nat.add_zero]
theorem ls_ones : ∀ o m, o ≤ m → pop m (2 ^ o - 1) = o
  | 0, m, _ => pop_0 m
  | o + 1, 0, h => by omega
  | o + 1, m + 1, h => by
    have ih := ls_ones o m (by omega)
    have p := Nat.two_pow_pos o
    rw [pop_low, Nat.pow_succ, show (2 ^ o * 2 - 1) % 2 = 1 by omega, show (2 ^ o * 2 - 1) / 2 = 2 ^ o - 1 by omega, ih]
    omega
theorem ls_odd : ∀ n x, x < n → x % 2 = 1 → ∃ o q, 1 ≤ o ∧ x = (2 ^ o - 1) + 2 ^ (o + 1) * q
  | 0, x, h, _ => by omega
  | n + 1, x, h, e => by
    by_cases c : x / 2 % 2 = 1
    · obtain ⟨o, q, h1, h2⟩ := ls_odd n (x / 2) (by omega) c
      refine ⟨o + 1, q, by omega, ?_⟩
      have p := Nat.two_pow_pos o
      have e1 : 2 ^ (o + 1) = 2 ^ o * 2 := Nat.pow_succ ..
      have e2 : 2 ^ (o + 1 + 1) * q = 2 * (2 ^ (o + 1) * q) := by rw [Nat.pow_succ, Nat.mul_comm (2 ^ (o + 1)), Nat.mul_assoc]
      rw [e2]
      omega
    · exact ⟨1, x / 4, Nat.le_refl _, by show x = (2 - 1) + 4 * (x / 4); omega⟩
theorem ls_dec : ∀ n x, x < n → 0 < x → ∃ z o q, 1 ≤ o ∧ x = 2 ^ z * (2 ^ o - 1) + 2 ^ (z + o + 1) * q
  | 0, x, h, _ => by omega
  | n + 1, x, h, p => by
    by_cases c : x % 2 = 1
    · obtain ⟨o, q, h1, h2⟩ := ls_odd (x + 1) x (by omega) c
      refine ⟨0, o, q, h1, ?_⟩
      rw [Nat.pow_zero, Nat.one_mul, Nat.zero_add]
      exact h2
    · obtain ⟨z, o, q, h1, h2⟩ := ls_dec n (x / 2) (by omega) (by omega)
      refine ⟨z + 1, o, q, h1, ?_⟩
      have e1 : 2 ^ (z + 1) * (2 ^ o - 1) = 2 * (2 ^ z * (2 ^ o - 1)) := by rw [Nat.pow_succ, Nat.mul_comm (2 ^ z), Nat.mul_assoc]
      have e2 : 2 ^ (z + 1 + o + 1) * q = 2 * (2 ^ (z + o + 1) * q) := by rw [show z + 1 + o + 1 = (z + o + 1) + 1 by omega, Nat.pow_succ, Nat.mul_comm (2 ^ (z + o + 1)), Nat.mul_assoc]
      rw [e1, e2]
      omega
theorem ls_and0 (m e : Nat) (h : m < 2 ^ e) : m &&& (2 ^ e - 1 - m) = 0 := by
  apply Nat.eq_of_testBit_eq
  intro i
  rw [Nat.testBit_and, show 2 ^ e - 1 - m = 2 ^ e - (m + 1) by omega, Nat.testBit_two_pow_sub_succ h, Nat.zero_testBit]
  cases m.testBit i <;> simp
theorem ls_low : ∀ z e m, 2 ^ z * (2 * m + 1) < 2 ^ e → (2 ^ z * (2 * m + 1)) &&& (2 ^ e - 2 ^ z * (2 * m + 1)) = 2 ^ z
  | 0, 0, m, h => by rw [Nat.pow_zero] at h; omega
  | 0, e + 1, m, h => by
    rw [Nat.pow_zero, Nat.one_mul] at *
    rw [Nat.pow_succ] at *
    have a := and2 m (2 ^ e * 2 - (2 * m + 1)) (b := 1) (by decide)
    rw [a, show (2 ^ e * 2 - (2 * m + 1)) / 2 = 2 ^ e - 1 - m by omega, show (2 ^ e * 2 - (2 * m + 1)) % 2 = 1 by omega, ls_and0 m e (by omega)]
  | z + 1, 0, m, h => by
    have : 0 < 2 ^ (z + 1) * (2 * m + 1) := Nat.mul_pos (Nat.two_pow_pos _) (by omega)
    rw [Nat.pow_zero] at h
    omega
  | z + 1, e + 1, m, h => by
    have e1 : 2 ^ (z + 1) * (2 * m + 1) = 2 * (2 ^ z * (2 * m + 1)) := by rw [Nat.pow_succ, Nat.mul_comm (2 ^ z), Nat.mul_assoc]
    rw [e1] at h ⊢
    rw [Nat.pow_succ 2 e] at h ⊢
    have ih := ls_low z e m (by omega)
    generalize 2 ^ z * (2 * m + 1) = x at *
    have a := and2 x (2 ^ e * 2 - 2 * x) (b := 0) (by decide)
    rw [Nat.add_zero, Nat.zero_mul, Nat.add_zero] at a
    rw [a, show (2 ^ e * 2 - 2 * x) / 2 = 2 ^ e - x by omega, ih, Nat.pow_succ]
    omega
theorem ls_xor {t q a b : Nat} (ha : a < 2 ^ t) (hb : b < 2 ^ t) : (2 ^ t * q + a) ^^^ (2 ^ t * q + b) = a ^^^ b := by
  apply Nat.eq_of_testBit_eq
  intro i
  rw [Nat.testBit_xor, Nat.testBit_xor, Nat.testBit_two_pow_mul_add q ha, Nat.testBit_two_pow_mul_add q hb]
  by_cases c : i < t
  · rw [if_pos c, if_pos c]
  · have l : 2 ^ t ≤ 2 ^ i := Nat.pow_le_pow_right (by decide) (by omega)
    rw [if_neg c, if_neg c, Bool.xor_self, Nat.testBit_lt_two_pow (by omega), Nat.testBit_lt_two_pow (by omega)]
    rfl
theorem ls_xor2 {t r : Nat} (hr : r < 2 ^ t) : 2 ^ t ^^^ r = 2 ^ t + r := by
  have h1 := Nat.two_pow_add_eq_or_of_lt hr 1
  rw [Nat.mul_one] at h1
  rw [h1]
  apply Nat.eq_of_testBit_eq
  intro i
  rw [Nat.testBit_xor, Nat.testBit_or, Nat.testBit_two_pow]
  by_cases c : t = i
  · subst c
    rw [Nat.testBit_lt_two_pow hr]
    simp
  · simp [c]
theorem neg_nI {x : Nat} (h : x < 2 ^ 32) : -nI x = nI (2 ^ 32 - x) := by
  apply Int32.toBitVec_inj.mp
  rw [Int32.toBitVec_neg]
  apply BitVec.eq_of_toNat_eq
  show (-(BitVec.ofNat 32 x)).toNat = (BitVec.ofNat 32 (2 ^ 32 - x)).toNat
  rw [BitVec.toNat_neg, BitVec.toNat_ofNat, BitVec.toNat_ofNat, Nat.mod_eq_of_lt h]
theorem ls_next {x : Nat} (h0 : 0 < x) (hx : x < 65536) : ∃ y, f_X4_nextOfSize (nI x) = some (nI y) ∧ x < y ∧ y ≤ 4 * x ∧ pop 32 y = pop 32 x ∧ ∀ w, x < w → w < y → pop 32 w ≠ pop 32 x := by
  obtain ⟨z, o, q, ho, e⟩ := ls_dec (x + 1) x (by omega) h0
  have pz := Nat.two_pow_pos z
  have po := Nat.two_pow_pos o
  have hoo : 2 ≤ 2 ^ o := Nat.pow_le_pow_right (n := 2) (i := 1) (by decide) ho
  have eo : 2 ^ o = 2 * 2 ^ (o - 1) := by rw [← Nat.pow_succ']; congr 1; omega
  have po1 := Nat.two_pow_pos (o - 1)
  have T1 : 2 ^ (z + o + 1) = 2 * 2 ^ (z + o) := by rw [Nat.pow_succ']
  have T2 : 2 ^ (z + o) = 2 ^ z * 2 ^ o := Nat.pow_add ..
  have T3 : 2 ^ z * (2 ^ o - 1) + 2 ^ z = 2 ^ (z + o) := by rw [T2, ← Nat.mul_succ]; congr 1; omega
  have T4 : 2 ^ z ≤ 2 ^ z * (2 ^ o - 1) := by
    have := Nat.mul_le_mul_left (2 ^ z) (show 1 ≤ 2 ^ o - 1 by omega)
    rw [Nat.mul_one] at this
    exact this
  have T5 : 2 ^ (o - 1) ≤ 2 ^ z * (2 ^ o - 1) := by
    have := Nat.mul_le_mul pz (show 2 ^ (o - 1) ≤ 2 ^ o - 1 by omega)
    rw [Nat.one_mul] at this
    exact this
  obtain ⟨r, hr⟩ : ∃ r, r = 2 ^ z * (2 ^ o - 1) := ⟨_, rfl⟩
  obtain ⟨Q, hQ⟩ : ∃ Q, Q = 2 ^ (z + o + 1) * q := ⟨_, rfl⟩
  rw [← hr] at T3 T4 T5 e
  rw [← hQ] at e
  have zo : z + o < 17 := by
    by_cases c : z + o < 17
    · exact c
    · have : 2 ^ 17 ≤ 2 ^ (z + o) := Nat.pow_le_pow_right (by decide) (by omega)
      omega
  have px : pop 32 x = o + pop (31 - z - o) q := by
    have e1 := ls_pop (a := z + o + 1) (q := q) (r := r) (31 - z - o) (by omega)
    rw [show z + o + 1 + (31 - z - o) = 32 by omega, ← hQ, show Q + r = x by omega] at e1
    have e2 := ls_pop (a := z) (q := 2 ^ o - 1) (r := 0) (o + 1) pz
    rw [Nat.add_zero (2 ^ z * (2 ^ o - 1)), ← hr, pop_0, Nat.zero_add, ls_ones o (o + 1) (by omega), show z + (o + 1) = z + o + 1 by omega] at e2
    rw [e1, e2]
  obtain ⟨y, hy⟩ : ∃ y, y = Q + (2 ^ (z + o) + (2 ^ (o - 1) - 1)) := ⟨_, rfl⟩
  have yd : 2 ^ (o - 1) - 1 < 2 ^ (z + o) := by omega
  have py : pop 32 y = o + pop (31 - z - o) q := by
    have e1 := ls_pop (a := z + o + 1) (q := q) (r := 2 ^ (z + o) + (2 ^ (o - 1) - 1)) (31 - z - o) (by omega)
    rw [show z + o + 1 + (31 - z - o) = 32 by omega, ← hQ, ← hy] at e1
    have e2 := ls_pop (a := z + o) (q := 1) (r := 2 ^ (o - 1) - 1) 1 yd
    rw [Nat.mul_one, ls_ones (o - 1) (z + o) (by omega), show pop 1 1 = 1 from rfl] at e2
    rw [e1, e2]
    omega
  refine ⟨y, ?_, by omega, by omega, by rw [px, py], fun w h1 h2 h3 => ?_⟩
  · have f1 : nI x &&& -nI x = nI (2 ^ z) := by
      have m1 : ∃ m, x = 2 ^ z * (2 * m + 1) := by
        refine ⟨2 ^ (o - 1) - 1 + 2 ^ o * q, ?_⟩
        rw [e, hr, hQ, show z + o + 1 = z + (o + 1) by omega, Nat.pow_add, Nat.mul_assoc, ← Nat.mul_add]
        congr 1
        rw [Nat.pow_succ, Nat.mul_comm (2 ^ o) 2, Nat.mul_assoc]
        omega
      obtain ⟨m, m1⟩ := m1
      rw [neg_nI (by omega), fa_and]
      congr 1
      rw [m1]
      exact ls_low z 32 m (by omega)
    have z30 : 2 ^ z < 2 ^ 31 := Nat.pow_lt_pow_right (by decide) (by omega)
    have f2 : (x + 2 ^ z) ^^^ x = 2 ^ (z + o) + r := by
      rw [show x + 2 ^ z = 2 ^ (z + o + 1) * q + 2 ^ (z + o) by omega, show x = 2 ^ (z + o + 1) * q + r by omega, ls_xor (by omega) (by omega), ls_xor2 (by omega)]
    have f3 : (2 ^ (z + o) + r) / 4 / 2 ^ z = 2 ^ (o - 1) - 1 := by
      rw [Nat.div_div_eq_div_mul, Nat.mul_comm 4, ← Nat.div_div_eq_div_mul, show 2 ^ (z + o) + r = 2 ^ z * (2 ^ o + (2 ^ o - 1)) by rw [Nat.mul_add, ← T2, ← hr], Nat.mul_div_cancel_left _ pz]
      omega
    have f4 : (x + 2 ^ z) ||| (2 ^ (o - 1) - 1) = y := by
      have e1 : x + 2 ^ z = 2 ^ (z + o) * (2 * q + 1) := by
        rw [Nat.mul_add, Nat.mul_one, ← Nat.mul_assoc, Nat.mul_comm (2 ^ (z + o)) 2, ← T1]
        omega
      rw [e1, ← Nat.two_pow_add_eq_or_of_lt yd, ← e1]
      omega
    have f5 : ((nI (2 ^ (z + o) + r)).toUInt32 >>> ((2 : Int32).toUInt32 &&& Int32.toUInt32 31)).toInt32 = nI ((2 ^ (z + o) + r) / 4) := pk_ushrN (by omega) 2 2 rfl
    unfold f_X4_nextOfSize
    simp only [bn]
    rw [f1, if_neg (nI_ne0 pz z30), nI_add, fb_xorI, f2, f5, dvI_nI (by omega) pz z30]
    simp only [b1_some]
    rw [f3, fa_or, f4]
  · rw [px] at h3
    obtain ⟨v, hv⟩ : ∃ v, v = w - Q := ⟨_, rfl⟩
    have e1 := ls_pop (a := z + o + 1) (q := q) (r := v) (31 - z - o) (by omega)
    rw [show z + o + 1 + (31 - z - o) = 32 by omega, ← hQ, show Q + v = w by omega, h3] at e1
    by_cases c : v < 2 ^ (z + o)
    · have e2 := ls_pop (a := z) (q := 2 ^ o - 1) (r := v - r) (o + 1) (by omega)
      rw [← hr, show r + (v - r) = v by omega, ls_ones o (o + 1) (by omega), show z + (o + 1) = z + o + 1 by omega] at e2
      have := pop_pos z (x := v - r) (by omega) (by omega)
      omega
    · have e2 := ls_pop (a := z + o) (q := 1) (r := v - 2 ^ (z + o)) 1 (by omega)
      rw [Nat.mul_one, show 2 ^ (z + o) + (v - 2 ^ (z + o)) = v by omega, show pop 1 1 = 1 from rfl] at e2
      have g := ls_ge (z + o) (v - 2 ^ (z + o)) (by omega)
      rw [show pop (z + o) (v - 2 ^ (z + o)) = o - 1 by omega] at g
      omega
