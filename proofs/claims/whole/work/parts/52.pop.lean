/-! counting bits: the JDK's bitCount is the sum of the bits -/
def pop (k x : Nat) : Nat := fb_sm (fun i => x / 2 ^ i % 2) k
theorem and256 {a m : Nat} (ha : a < 256) (hm : m < 256) (b n : Nat) : (a + 256 * b) &&& (m + 256 * n) = (a &&& m) + 256 * (b &&& n) := by
  have h1 := Nat.and_mod_two_pow (a := a + 256 * b) (b := m + 256 * n) (n := 8)
  have h2 := Nat.and_div_two_pow (a := a + 256 * b) (b := m + 256 * n) (n := 8)
  have e1 : (a + 256 * b) % 2 ^ 8 = a := by omega
  have e2 : (m + 256 * n) % 2 ^ 8 = m := by omega
  have e3 : (a + 256 * b) / 2 ^ 8 = b := by omega
  have e4 : (m + 256 * n) / 2 ^ 8 = n := by omega
  rw [e1, e2] at h1
  rw [e3, e4] at h2
  have := Nat.mod_add_div ((a + 256 * b) &&& (m + 256 * n)) (2 ^ 8)
  rw [h1, h2] at this
  omega
def bc1 (y : Nat) : Nat := y - (y / 2 &&& 85)
def bc2 (y : Nat) : Nat := (bc1 y &&& 51) + (bc1 y / 4 &&& 51)
def bc3 (y : Nat) : Nat := (bc2 y + bc2 y / 16) &&& 15
theorem bc_a : ∀ y, y < 256 → ∀ t, t < 2 → ((y / 2 + 128 * t) &&& 85) = (y / 2 &&& 85) ∧ (y / 2 &&& 85) ≤ y ∧ bc1 y < 256 := by decide +kernel
theorem bc_b : ∀ y, y < 256 → ∀ t, t < 4 → ((bc1 y / 4 + 64 * t) &&& 51) = (bc1 y / 4 &&& 51) ∧ (bc1 y &&& 51) ≤ 51 ∧ (bc1 y / 4 &&& 51) ≤ 51 ∧ bc2 y ≤ 68 ∧ bc2 y % 16 ≤ 4 := by decide +kernel
theorem bc_c : ∀ y, y < 256 → ∀ t, t < 5 → ((bc2 y + bc2 y / 16 + 16 * t) &&& 15) = bc3 y ∧ bc3 y = pop 8 y ∧ bc3 y ≤ 8 := by decide +kernel
/-- four bytes; t1, t2, t3: what comes in from above -/
theorem bc_32 (a b c d t1 t2 t3 : Nat) (ha : a < 256) (hb : b < 256) (hc : c < 256) (hd : d < 256) (ht1 : t1 < 2) (ht2 : t2 < 4) (ht3 : t3 < 5) (x v1 v2 v3 : Nat) (hx : x = a + 256 * (b + 256 * (c + 256 * d)))
    (h1 : v1 = x - ((x / 2 + 2147483648 * t1) &&& 1431655765)) (h2 : v2 = (v1 &&& 858993459) + ((v1 / 4 + 1073741824 * t2) &&& 858993459)) (h3 : v3 = (v2 + v2 / 16 + 268435456 * t3) &&& 252645135) :
    ((x / 2 + 2147483648 * t1) &&& 1431655765) ≤ x ∧ v1 < 4294967296 ∧ v2 < 1157627905 ∧ v2 % 16 < 5 ∧ (v1 &&& 858993459) < 858993460 ∧ ((v1 / 4 + 1073741824 * t2) &&& 858993459) < 858993460 ∧ v3 = pop 8 a + 256 * (pop 8 b + 256 * (pop 8 c + 256 * pop 8 d)) := by
  have A := bc_a a ha (b % 2) (by omega)
  have B := bc_a b hb (c % 2) (by omega)
  have C := bc_a c hc (d % 2) (by omega)
  have D := bc_a d hd t1 ht1
  have e1 : (x / 2 + 2147483648 * t1) &&& 1431655765 = (a / 2 &&& 85) + 256 * ((b / 2 &&& 85) + 256 * ((c / 2 &&& 85) + 256 * (d / 2 &&& 85))) := by
    have q : x / 2 + 2147483648 * t1 = (a / 2 + 128 * (b % 2)) + 256 * ((b / 2 + 128 * (c % 2)) + 256 * ((c / 2 + 128 * (d % 2)) + 256 * (d / 2 + 128 * t1))) := by omega
    rw [q, show (1431655765 : Nat) = 85 + 256 * (85 + 256 * (85 + 256 * 85)) by decide, and256 (by omega) (by decide), and256 (by omega) (by decide), and256 (by omega) (by decide), A.1, B.1, C.1, D.1]
  have e2 : v1 = bc1 a + 256 * (bc1 b + 256 * (bc1 c + 256 * bc1 d)) := by
    rw [h1, e1, hx]
    unfold bc1
    have := A.2.1; have := B.2.1; have := C.2.1; have := D.2.1
    omega
  have A2 := bc_b a ha (bc1 b % 4) (by omega)
  have B2 := bc_b b hb (bc1 c % 4) (by omega)
  have C2 := bc_b c hc (bc1 d % 4) (by omega)
  have D2 := bc_b d hd t2 ht2
  have e3 : v1 &&& 858993459 = (bc1 a &&& 51) + 256 * ((bc1 b &&& 51) + 256 * ((bc1 c &&& 51) + 256 * (bc1 d &&& 51))) := by
    rw [e2, show (858993459 : Nat) = 51 + 256 * (51 + 256 * (51 + 256 * 51)) by decide, and256 A.2.2 (by decide), and256 B.2.2 (by decide), and256 C.2.2 (by decide)]
  have e4 : (v1 / 4 + 1073741824 * t2) &&& 858993459 = (bc1 a / 4 &&& 51) + 256 * ((bc1 b / 4 &&& 51) + 256 * ((bc1 c / 4 &&& 51) + 256 * (bc1 d / 4 &&& 51))) := by
    have q : v1 / 4 + 1073741824 * t2 = (bc1 a / 4 + 64 * (bc1 b % 4)) + 256 * ((bc1 b / 4 + 64 * (bc1 c % 4)) + 256 * ((bc1 c / 4 + 64 * (bc1 d % 4)) + 256 * (bc1 d / 4 + 64 * t2))) := by
      have := A.2.2; have := B.2.2; have := C.2.2
      omega
    have := A.2.2; have := B.2.2; have := C.2.2; have := D.2.2
    rw [q, show (858993459 : Nat) = 51 + 256 * (51 + 256 * (51 + 256 * 51)) by decide, and256 (by omega) (by decide), and256 (by omega) (by decide), and256 (by omega) (by decide), A2.1, B2.1, C2.1, D2.1]
  have e5 : v2 = bc2 a + 256 * (bc2 b + 256 * (bc2 c + 256 * bc2 d)) := by
    rw [h2, e3, e4]
    unfold bc2
    omega
  have A3 := bc_c a ha (bc2 b % 16) (by omega)
  have B3 := bc_c b hb (bc2 c % 16) (by omega)
  have C3 := bc_c c hc (bc2 d % 16) (by omega)
  have D3 := bc_c d hd t3 ht3
  have l1 := A2.2.2.2; have l2 := B2.2.2.2; have l3 := C2.2.2.2; have l4 := D2.2.2.2
  have m1 := A2.2.1; have m2 := B2.2.1; have m3 := C2.2.1; have m4 := D2.2.1
  have n1 := A2.2.2.1; have n2 := B2.2.2.1; have n3 := C2.2.2.1; have n4 := D2.2.2.1
  have o1 := A.2.2; have o2 := B.2.2; have o3 := C.2.2; have o4 := D.2.2
  refine ⟨by rw [e1, hx]; have := A.2.1; have := B.2.1; have := C.2.1; have := D.2.1; omega, by omega, by omega, by omega, by omega, by omega, ?_⟩
  have q : v2 + v2 / 16 + 268435456 * t3 = (bc2 a + bc2 a / 16 + 16 * (bc2 b % 16)) + 256 * ((bc2 b + bc2 b / 16 + 16 * (bc2 c % 16)) + 256 * ((bc2 c + bc2 c / 16 + 16 * (bc2 d % 16)) + 256 * (bc2 d + bc2 d / 16 + 16 * t3))) := by omega
  rw [h3, q, show (252645135 : Nat) = 15 + 256 * (15 + 256 * (15 + 256 * 15)) by decide, and256 (by omega) (by decide), and256 (by omega) (by decide), and256 (by omega) (by decide), A3.1, B3.1, C3.1, D3.1, A3.2.1, B3.2.1, C3.2.1, D3.2.1]
theorem pop_split (x j : Nat) : ∀ k, pop (j + k) x = pop j x + pop k (x / 2 ^ j) := by
  intro k
  induction k with
  | zero => rfl
  | succ k ih =>
    show fb_sm _ (j + k + 1) = _
    rw [fb_sm_succ]
    have h1 : fb_sm (fun i => x / 2 ^ i % 2) (j + k) = pop (j + k) x := rfl
    rw [h1, ih]
    have h2 : pop (k + 1) (x / 2 ^ j) = pop k (x / 2 ^ j) + x / 2 ^ j / 2 ^ k % 2 := rfl
    rw [h2, Nat.div_div_eq_div_mul, ← Nat.pow_add]
    omega
theorem pop_mod (x j : Nat) : ∀ k, k ≤ j → pop k (x % 2 ^ j) = pop k x := by
  intro k hk
  unfold pop
  apply fb_sm_cong
  intro i hi
  have h : x % 2 ^ j / 2 ^ i % 2 = x / 2 ^ i % 2 := by
    rw [← Nat.mod_mul_right_div_self, ← Nat.pow_succ, Nat.mod_mod_of_dvd _ (Nat.pow_dvd_pow 2 (by omega)), Nat.pow_succ, Nat.mod_mul_right_div_self]
  exact h
theorem pop_32 (x : Nat) (h : x < 4294967296) : pop 32 x = pop 8 (x % 256) + pop 8 (x / 256 % 256) + pop 8 (x / 65536 % 256) + pop 8 (x / 16777216) := by
  have h1 := pop_split x 8 24
  have h2 := pop_split (x / 2 ^ 8) 8 16
  have h3 := pop_split (x / 2 ^ 8 / 2 ^ 8) 8 8
  rw [Nat.div_div_eq_div_mul, ← Nat.pow_add] at h2 h3
  rw [Nat.div_div_eq_div_mul, ← Nat.pow_add] at h3
  have e1 := pop_mod x 8 8 (Nat.le_refl 8)
  have e2 := pop_mod (x / 256) 8 8 (Nat.le_refl 8)
  have e3 := pop_mod (x / 65536) 8 8 (Nat.le_refl 8)
  simp only [show (2 : Nat) ^ 8 = 256 from rfl, show 8 + 24 = 32 from rfl, show 8 + 16 = 24 from rfl, show 8 + 8 = 16 from rfl, show (2 : Nat) ^ 16 = 65536 from rfl, show (2 : Nat) ^ (16 + 8) = 16777216 from rfl, show (2 : Nat) ^ (8 + 8) = 65536 from rfl, show (2 : Nat) ^ (8 + (8 + 8)) = 16777216 from rfl, show (2 : Nat) ^ 24 = 16777216 from rfl] at h1 h2 h3 e1 e2 e3
  omega
theorem pop8_le (y : Nat) (h : y < 256) : pop 8 y ≤ 8 := by
  have := bc_c y h 0 (by decide)
  omega
theorem bytes4 (x : Nat) : x = x % 256 + 256 * (x / 256 % 256 + 256 * (x / 65536 % 256 + 256 * (x / 16777216))) := by omega
theorem bc_sum (p q r s v : Nat) (hp : p ≤ 8) (hq : q ≤ 8) (hr : r ≤ 8) (hs : s ≤ 8) (h : v = p + 256 * (q + 256 * (r + 256 * s))) : (v + v / 256 + (v + v / 256) / 65536) % 64 = p + q + r + s := by
  have e1 : v / 256 = q + 256 * (r + 256 * s) := by omega
  have e2 : (v + v / 256) / 65536 = (r + s) + 256 * s := by rw [e1]; omega
  rw [e2, e1]
  omega
theorem bitCount_ok (n : Nat) (h : n < 4294967296) : f_J6_bitCount_0f7a4 (nI n) = some (nI (pop 32 n)) := by
  obtain ⟨v1, h1⟩ : ∃ v, v = n - ((n / 2 + 2147483648 * 0) &&& 1431655765) := ⟨_, rfl⟩
  obtain ⟨v2, h2⟩ : ∃ v, v = (v1 &&& 858993459) + ((v1 / 4 + 1073741824 * 0) &&& 858993459) := ⟨_, rfl⟩
  obtain ⟨v3, h3⟩ : ∃ v, v = (v2 + v2 / 16 + 268435456 * 0) &&& 252645135 := ⟨_, rfl⟩
  obtain ⟨c1, c2, c3, c4, -, -, c5⟩ := bc_32 (n % 256) (n / 256 % 256) (n / 65536 % 256) (n / 16777216) 0 0 0 (by omega) (by omega) (by omega) (by omega) (by omega) (by omega) (by omega) n v1 v2 v3 (bytes4 n) h1 h2 h3
  simp only [Nat.mul_zero, Nat.add_zero] at h1 h2 h3 c1
  have p0 := pop8_le (n % 256) (by omega)
  have p1 := pop8_le (n / 256 % 256) (by omega)
  have p2 := pop8_le (n / 65536 % 256) (by omega)
  have p3 := pop8_le (n / 16777216) (by omega)
  unfold f_J6_bitCount_0f7a4
  simp only [bn]
  have s1 : ((nI n).toUInt32 >>> ((1 : Int32).toUInt32 &&& Int32.toUInt32 31)).toInt32 = nI (n / 2) := pk_ushrN h 1 1 rfl
  have s2 : ((nI v1).toUInt32 >>> ((2 : Int32).toUInt32 &&& Int32.toUInt32 31)).toInt32 = nI (v1 / 4) := pk_ushrN c2 2 2 rfl
  have s3 : ((nI v2).toUInt32 >>> ((4 : Int32).toUInt32 &&& Int32.toUInt32 31)).toInt32 = nI (v2 / 16) := pk_ushrN (by omega) 4 4 rfl
  have l3 : v3 < 4294967296 := by omega
  have s4 : ((nI v3).toUInt32 >>> ((8 : Int32).toUInt32 &&& Int32.toUInt32 31)).toInt32 = nI (v3 / 256) := pk_ushrN l3 8 8 rfl
  have s5 : ((nI (v3 + v3 / 256)).toUInt32 >>> ((16 : Int32).toUInt32 &&& Int32.toUInt32 31)).toInt32 = nI ((v3 + v3 / 256) / 65536) := pk_ushrN (by omega) 16 16 rfl
  have f1 : nI n - (nI (n / 2) &&& 1431655765) = nI v1 := by
    rw [i_lit 1431655765, fa_and, pk_sub c1, h1]
  have f2 : (nI v1 &&& 858993459) + (nI (v1 / 4) &&& 858993459) = nI v2 := by
    rw [i_lit 858993459, fa_and, fa_and, nI_add, h2]
  have f3 : (nI v2 + nI (v2 / 16)) &&& 252645135 = nI v3 := by
    rw [i_lit 252645135, nI_add, fa_and, h3]
  have f6 : nI (v3 + v3 / 256 + (v3 + v3 / 256) / 65536) &&& 63 = nI ((v3 + v3 / 256 + (v3 + v3 / 256) / 65536) % 64) := pk_andN (by omega) (m := 63) 6 rfl
  rw [s1, f1, s2, f2, s3, f3, s4, nI_add, s5, nI_add, f6, pop_32 n h, bc_sum _ _ _ _ v3 p0 p1 p2 p3 c5]
