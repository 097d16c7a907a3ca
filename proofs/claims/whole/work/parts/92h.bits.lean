/-! counting bits of 64; rows of bits as sums -/
theorem and_2_32 {a m : Nat} (ha : a < 4294967296) (hm : m < 4294967296) (b n : Nat) : (a + 4294967296 * b) &&& (m + 4294967296 * n) = (a &&& m) + 4294967296 * (b &&& n) := by
  have h1 := Nat.and_mod_two_pow (a := a + 4294967296 * b) (b := m + 4294967296 * n) (n := 32)
  have h2 := Nat.and_div_two_pow (a := a + 4294967296 * b) (b := m + 4294967296 * n) (n := 32)
  have e1 : (a + 4294967296 * b) % 2 ^ 32 = a := by omega
  have e2 : (m + 4294967296 * n) % 2 ^ 32 = m := by omega
  have e3 : (a + 4294967296 * b) / 2 ^ 32 = b := by omega
  have e4 : (m + 4294967296 * n) / 2 ^ 32 = n := by omega
  rw [e1, e2] at h1
  rw [e3, e4] at h2
  have := Nat.mod_add_div ((a + 4294967296 * b) &&& (m + 4294967296 * n)) (2 ^ 32)
  rw [h1, h2] at this
  omega
theorem bc_div {a r b q : Nat} (h : a = r + b * q) (hr : r < b) : a / b = q := by rw [h, Nat.add_mul_div_left _ _ (by omega), Nat.div_eq_of_lt hr, Nat.zero_add]
def N4 (a b c d : Nat) : Nat := a + 256 * (b + 256 * (c + 256 * d))
def N8 (a b c d e f g h : Nat) : Nat := a + 256 * (b + 256 * (c + 256 * (d + 256 * (e + 256 * (f + 256 * (g + 256 * h))))))
theorem N8_4 (a b c d e f g h : Nat) : N4 a b c d + 4294967296 * N4 e f g h = N8 a b c d e f g h := by unfold N4 N8; omega
theorem N8_add (a b c d e f g h a' b' c' d' e' f' g' h' : Nat) : N8 a b c d e f g h + N8 a' b' c' d' e' f' g' h' = N8 (a + a') (b + b') (c + c') (d + d') (e + e') (f + f') (g + g') (h + h') := by unfold N8; omega
theorem N8_1 {a b c d e f g h : Nat} (ha : a < 256) : N8 a b c d e f g h / 256 = N8 b c d e f g h 0 := by
  rw [show N8 a b c d e f g h = a + 256 * N8 b c d e f g h 0 by unfold N8; omega]
  exact bc_div rfl ha
theorem N8_2 {a b c d e f g h : Nat} (ha : a < 256) (hb : b < 256) : N8 a b c d e f g h / 65536 = N8 c d e f g h 0 0 := by
  rw [show 65536 = 256 * 256 from rfl, ← Nat.div_div_eq_div_mul, N8_1 ha, N8_1 hb]
theorem N8_3 {a b c d e f g h : Nat} (ha : a < 256) (hb : b < 256) (hc : c < 256) (hd : d < 256) : N8 a b c d e f g h / 4294967296 = N8 e f g h 0 0 0 0 := by
  rw [show 4294967296 = 65536 * 65536 from rfl, ← Nat.div_div_eq_div_mul, N8_2 ha hb, N8_2 hc hd]
theorem N8_lt {a b c d e f g h k : Nat} (h0 : a ≤ k) (h1 : b ≤ k) (h2 : c ≤ k) (h3 : d ≤ k) (h4 : e ≤ k) (h5 : f ≤ k) (h6 : g ≤ k) (h7 : h ≤ k) (hk : k < 256) : N8 a b c d e f g h < 2 ^ 64 := by unfold N8; omega
theorem N8_m {a b c d e f g h : Nat} (ha : a < 128) : N8 a b c d e f g h % 128 = a := by
  rw [show N8 a b c d e f g h = a + 128 * (2 * N8 b c d e f g h 0) by unfold N8; omega, Nat.add_mul_mod_self_left, Nat.mod_eq_of_lt ha]
theorem pop_64 (x : Nat) : pop 64 x = pop 32 (x % 4294967296) + pop 32 (x / 4294967296) := by
  have h1 := pop_split x 32 32
  have e1 := pop_mod x 32 32 (Nat.le_refl 32)
  simp only [show (2 : Nat) ^ 32 = 4294967296 from rfl, show 32 + 32 = 64 from rfl] at h1 e1
  omega
theorem bl_1 {lo hi m1 m2 : Nat} (h : lo < 4294967296) (h2 : hi < 4294967296) (e1 : (lo / 2 + 2147483648 * (hi % 2)) &&& 1431655765 = m1) (e2 : hi / 2 &&& 1431655765 = m2) (l1 : m1 ≤ lo) (l2 : m2 ≤ hi) : lN (lo + 4294967296 * hi) - (((lN (lo + 4294967296 * hi)).toUInt64 >>> ((1 : Int32).toInt64.toUInt64 &&& Int64.toUInt64 63)).toInt64 &&& 6148914691236517205) = lN ((lo - m1) + 4294967296 * (hi - m2)) := by
  have s1 : ((lN (lo + 4294967296 * hi)).toUInt64 >>> ((1 : Int32).toInt64.toUInt64 &&& Int64.toUInt64 63)).toInt64 = lN ((lo + 4294967296 * hi) / 2 ^ 1) := wb_shr (k := 1) (by omega) (by decide)
  have q : (lo + 4294967296 * hi) / 2 ^ 1 = (lo / 2 + 2147483648 * (hi % 2)) + 4294967296 * (hi / 2) := by clear e1 e2 l1 l2 s1; omega
  have q2 : lo / 2 + 2147483648 * (hi % 2) < 4294967296 := by clear e1 e2 l1 l2 s1 q; omega
  rw [s1, q, l_lit 6148914691236517205, fb_andL, show (6148914691236517205 : Nat) = 1431655765 + 4294967296 * 1431655765 by decide, and_2_32 q2 (by decide), e1, e2]
  clear e1 e2 q q2 s1
  rw [lN_sub (by omega)]
  congr 1
  omega
theorem bl_2 {lo hi a1 a2 b1 b2 : Nat} (h : lo < 4294967296) (h2 : hi < 4294967296) (e1 : lo &&& 858993459 = a1) (e2 : hi &&& 858993459 = a2) (e3 : (lo / 4 + 1073741824 * (hi % 4)) &&& 858993459 = b1) (e4 : hi / 4 &&& 858993459 = b2) : (lN (lo + 4294967296 * hi) &&& 3689348814741910323) + (((lN (lo + 4294967296 * hi)).toUInt64 >>> ((2 : Int32).toInt64.toUInt64 &&& Int64.toUInt64 63)).toInt64 &&& 3689348814741910323) = lN ((a1 + b1) + 4294967296 * (a2 + b2)) := by
  have s1 : ((lN (lo + 4294967296 * hi)).toUInt64 >>> ((2 : Int32).toInt64.toUInt64 &&& Int64.toUInt64 63)).toInt64 = lN ((lo + 4294967296 * hi) / 2 ^ 2) := wb_shr (k := 2) (by omega) (by decide)
  have q : (lo + 4294967296 * hi) / 2 ^ 2 = (lo / 4 + 1073741824 * (hi % 4)) + 4294967296 * (hi / 4) := by clear e1 e2 e3 e4 s1; omega
  have q2 : lo / 4 + 1073741824 * (hi % 4) < 4294967296 := by clear e1 e2 e3 e4 s1 q; omega
  rw [s1, q, l_lit 3689348814741910323, fb_andL, fb_andL, show (3689348814741910323 : Nat) = 858993459 + 4294967296 * 858993459 by decide, and_2_32 h (by decide), and_2_32 q2 (by decide), e1, e2, e3, e4, lN_add]
  clear e1 e2 e3 e4 q q2 s1
  congr 1
  omega
theorem bl_3 {lo hi a1 a2 : Nat} (h : lo < 1157627905) (h2 : hi < 1157627905) (h5 : hi % 16 < 5) (e1 : (lo + lo / 16 + 268435456 * (hi % 16)) &&& 252645135 = a1) (e2 : hi + hi / 16 &&& 252645135 = a2) : (lN (lo + 4294967296 * hi) + ((lN (lo + 4294967296 * hi)).toUInt64 >>> ((4 : Int32).toInt64.toUInt64 &&& Int64.toUInt64 63)).toInt64) &&& 1085102592571150095 = lN (a1 + 4294967296 * a2) := by
  have s1 : ((lN (lo + 4294967296 * hi)).toUInt64 >>> ((4 : Int32).toInt64.toUInt64 &&& Int64.toUInt64 63)).toInt64 = lN ((lo + 4294967296 * hi) / 2 ^ 4) := wb_shr (k := 4) (by omega) (by decide)
  have q : lo + 4294967296 * hi + (lo + 4294967296 * hi) / 2 ^ 4 = (lo + lo / 16 + 268435456 * (hi % 16)) + 4294967296 * (hi + hi / 16) := by clear e1 e2 s1; omega
  have q2 : lo + lo / 16 + 268435456 * (hi % 16) < 4294967296 := by clear e1 e2 s1 q; omega
  rw [s1, lN_add, q, l_lit 1085102592571150095, fb_andL, show (1085102592571150095 : Nat) = 252645135 + 4294967296 * 252645135 by decide, and_2_32 q2 (by decide), e1, e2]
theorem bitCountL_ok (n : Nat) (h : n < 18446744073709551616) : f_J13_bitCount_95d88 (lN n) = some (nI (pop 64 n)) := by
  obtain ⟨lo, hlo⟩ : ∃ v, v = n % 4294967296 := ⟨_, rfl⟩
  obtain ⟨hi, hhi⟩ : ∃ v, v = n / 4294967296 := ⟨_, rfl⟩
  have hn : n = lo + 4294967296 * hi := by omega
  have l1 : lo < 4294967296 := by omega
  have l2 : hi < 4294967296 := by omega
  rw [pop_64, ← hlo, ← hhi, pop_32 lo l1, pop_32 hi l2]
  rw [hn]
  clear hlo hhi hn h
  obtain ⟨u1, g1⟩ : ∃ v, v = hi - ((hi / 2 + 2147483648 * 0) &&& 1431655765) := ⟨_, rfl⟩
  obtain ⟨u2, g2⟩ : ∃ v, v = (u1 &&& 858993459) + ((u1 / 4 + 1073741824 * 0) &&& 858993459) := ⟨_, rfl⟩
  obtain ⟨u3, g3⟩ : ∃ v, v = (u2 + u2 / 16 + 268435456 * 0) &&& 252645135 := ⟨_, rfl⟩
  obtain ⟨d1, d2, d3, d4, d6, d7, d5⟩ := bc_32 (hi % 256) (hi / 256 % 256) (hi / 65536 % 256) (hi / 16777216) 0 0 0 (Nat.mod_lt _ (by decide)) (Nat.mod_lt _ (by decide)) (Nat.mod_lt _ (by decide)) (by clear g1 g2 g3; omega) (by decide) (by decide) (by decide) hi u1 u2 u3 (bytes4 hi) g1 g2 g3
  obtain ⟨w1, k1⟩ : ∃ v, v = lo - ((lo / 2 + 2147483648 * (hi % 2)) &&& 1431655765) := ⟨_, rfl⟩
  obtain ⟨w2, k2⟩ : ∃ v, v = (w1 &&& 858993459) + ((w1 / 4 + 1073741824 * (u1 % 4)) &&& 858993459) := ⟨_, rfl⟩
  obtain ⟨w3, k3⟩ : ∃ v, v = (w2 + w2 / 16 + 268435456 * (u2 % 16)) &&& 252645135 := ⟨_, rfl⟩
  obtain ⟨c1, c2, c3, c4, c6, c7, c5⟩ := bc_32 (lo % 256) (lo / 256 % 256) (lo / 65536 % 256) (lo / 16777216) (hi % 2) (u1 % 4) (u2 % 16) (Nat.mod_lt _ (by decide)) (Nat.mod_lt _ (by decide)) (Nat.mod_lt _ (by decide)) (by clear g1 g2 g3 k1 k2 k3 d1 d2 d3 d4 d5 d6 d7; omega) (Nat.mod_lt _ (by decide)) (Nat.mod_lt _ (by decide)) d4 lo w1 w2 w3 (bytes4 lo) k1 k2 k3
  simp only [Nat.mul_zero, Nat.add_zero] at g1 g2 g3 d1 d7
  have p0 := pop8_le (lo % 256) (Nat.mod_lt _ (by decide))
  have p1 := pop8_le (lo / 256 % 256) (Nat.mod_lt _ (by decide))
  have p2 := pop8_le (lo / 65536 % 256) (Nat.mod_lt _ (by decide))
  have p3 := pop8_le (lo / 16777216) (by clear g1 g2 g3 k1 k2 k3 d1 d2 d3 d4 d5 d6 d7 c1 c2 c3 c4 c5 c6 c7; omega)
  have p4 := pop8_le (hi % 256) (Nat.mod_lt _ (by decide))
  have p5 := pop8_le (hi / 256 % 256) (Nat.mod_lt _ (by decide))
  have p6 := pop8_le (hi / 65536 % 256) (Nat.mod_lt _ (by decide))
  have p7 := pop8_le (hi / 16777216) (by clear g1 g2 g3 k1 k2 k3 d1 d2 d3 d4 d5 d6 d7 c1 c2 c3 c4 c5 c6 c7; omega)
  have f1 := bl_1 l1 l2 rfl rfl c1 d1
  rw [← k1, ← g1] at f1
  have f2 := bl_2 c2 d2 rfl rfl rfl rfl
  rw [← k2, ← g2] at f2
  have f3 := bl_3 c3 d3 d4 rfl rfl
  rw [← k3, ← g3, c5, d5] at f3
  change _ = lN (N4 _ _ _ _ + 4294967296 * N4 _ _ _ _) at f3
  rw [N8_4] at f3
  unfold f_J13_bitCount_95d88
  simp only [bn]
  rw [f1, f2, f3]
  clear f1 f2 f3 g1 g2 g3 k1 k2 k3 d1 d2 d3 d4 d5 d6 d7 c1 c2 c3 c4 c5 c6 c7 l1 l2
  generalize pop 8 (lo % 256) = q0 at *
  generalize pop 8 (lo / 256 % 256) = q1 at *
  generalize pop 8 (lo / 65536 % 256) = q2 at *
  generalize pop 8 (lo / 16777216) = q3 at *
  generalize pop 8 (hi % 256) = q4 at *
  generalize pop 8 (hi / 256 % 256) = q5 at *
  generalize pop 8 (hi / 65536 % 256) = q6 at *
  generalize pop 8 (hi / 16777216) = q7 at *
  have s4 : ∀ x, x < 2 ^ 64 → ((lN x).toUInt64 >>> ((8 : Int32).toInt64.toUInt64 &&& Int64.toUInt64 63)).toInt64 = lN (x / 256) := fun x hx => wb_shr (k := 8) hx (by decide)
  have s5 : ∀ x, x < 2 ^ 64 → ((lN x).toUInt64 >>> ((16 : Int32).toInt64.toUInt64 &&& Int64.toUInt64 63)).toInt64 = lN (x / 65536) := fun x hx => wb_shr (k := 16) hx (by decide)
  have s6 : ∀ x, x < 2 ^ 64 → ((lN x).toUInt64 >>> ((32 : Int32).toInt64.toUInt64 &&& Int64.toUInt64 63)).toInt64 = lN (x / 4294967296) := fun x hx => wb_shr (k := 32) hx (by decide)
  have f7 : ∀ x, nI x &&& 127 = nI (x % 128) := fun x => by
    rw [pk_and (m := 127) _ 7 rfl]
    congr 1
    show x % 2 ^ 32 % 2 ^ 7 = _
    omega
  rw [s4 _ (N8_lt (k := 8) p0 p1 p2 p3 p4 p5 p6 p7 (by decide)), N8_1 (by omega), lN_add, N8_add]
  rw [s5 _ (N8_lt (k := 16) (by omega) (by omega) (by omega) (by omega) (by omega) (by omega) (by omega) (by omega) (by decide)), N8_2 (by omega) (by omega), lN_add, N8_add]
  rw [s6 _ (N8_lt (k := 32) (by omega) (by omega) (by omega) (by omega) (by omega) (by omega) (by omega) (by omega) (by decide)), N8_3 (by omega) (by omega) (by omega) (by omega), lN_add, N8_add]
  rw [lN_i, f7, N8_m (by omega)]
  congr 2
  omega
theorem bits_at {f : Nat → Nat} (hf : ∀ k, f k ≤ 1) : ∀ n k, k < n → fb_sm (fun k => f k * 2 ^ k) n / 2 ^ k % 2 = f k
  | 0, k, h => by omega
  | n + 1, k, h => by
    rw [fb_sm_succ]
    have hb := bits_lt hf n
    have h1 := hf k
    by_cases e : k = n
    · subst e
      rw [Nat.add_mul_div_right _ _ (Nat.two_pow_pos k), Nat.div_eq_of_lt hb]
      omega
    · have ih := bits_at hf n k (by omega)
      have q : f n * 2 ^ n = (f n * 2 ^ (n - k - 1) * 2) * 2 ^ k := by
        rw [Nat.mul_assoc, Nat.mul_assoc, ← Nat.pow_succ', ← Nat.pow_add, show (n - k - 1 + (k + 1)) = n by omega]
      rw [q, Nat.add_mul_div_right _ _ (Nat.two_pow_pos k)]
      omega
theorem pop_bits {f : Nat → Nat} (hf : ∀ k, f k ≤ 1) {n m : Nat} (h : n ≤ m) : pop m (fb_sm (fun k => f k * 2 ^ k) n) = fb_sm f n := by
  have := pop_big (bits_lt hf n) (m - n)
  rw [show n + (m - n) = m by omega] at this
  rw [this]
  exact fb_sm_cong (fun k hk => bits_at hf n k hk)
theorem sm_zero (n : Nat) {f : Nat → Nat} (h : ∀ k, k < n → f k = 0) : fb_sm f n = 0 := by
  rw [fb_sm_cong (g := fun _ => 0) h, fb_sm_const]
  omega
theorem mask_bit {a m b : Nat} : (2 ^ m - 1) * 2 ^ a / 2 ^ b % 2 = if a ≤ b ∧ b < a + m then 1 else 0 := by
  have hm := Nat.two_pow_pos m
  by_cases c : a ≤ b
  · have e : 2 ^ b = 2 ^ (b - a) * 2 ^ a := by rw [← Nat.pow_add]; congr 1; omega
    rw [e, Nat.mul_comm (2 ^ (b - a)), ← Nat.div_div_eq_div_mul, Nat.mul_div_cancel _ (Nat.two_pow_pos a)]
    have t := Nat.testBit_two_pow_sub_one m (b - a)
    rw [Nat.testBit_eq_decide_div_mod_eq] at t
    by_cases d : b - a < m
    · rw [if_pos (by omega)]
      simp [d] at t
      exact t
    · rw [if_neg (by omega)]
      simp [d] at t
      omega
  · rw [if_neg (by omega)]
    have e : 2 ^ a = 2 ^ (a - b - 1) * 2 * 2 ^ b := by rw [← Nat.pow_succ, ← Nat.pow_add]; congr 1; omega
    rw [e, ← Nat.mul_assoc, Nat.mul_div_cancel _ (Nat.two_pow_pos b), ← Nat.mul_assoc]
    omega
/-- the bits of a row of bits that lie in a span -/
theorem pop_span {f : Nat → Nat} (hf : ∀ k, f k ≤ 1) {n a m : Nat} (h : a + m ≤ n) (hn : n ≤ 64) : pop 64 (fb_sm (fun k => f k * 2 ^ k) n &&& (2 ^ m - 1) * 2 ^ a) = fb_sm (fun k => f (a + k)) m := by
  have e1 : pop 64 (fb_sm (fun k => f k * 2 ^ k) n &&& (2 ^ m - 1) * 2 ^ a) = fb_sm (fun b => (fb_sm (fun k => f k * 2 ^ k) n / 2 ^ b % 2) * (if a ≤ b ∧ b < a + m then 1 else 0)) (a + m + (64 - a - m)) := by
    rw [show a + m + (64 - a - m) = 64 by omega]
    exact fb_sm_cong (fun b _ => by show (_ &&& _) / 2 ^ b % 2 = _; rw [and_bitN, mask_bit])
  rw [e1, fb_sm_split, fb_sm_split]
  rw [sm_zero a (fun k hk => by rw [if_neg (by omega), Nat.mul_zero])]
  rw [sm_zero (64 - a - m) (fun k hk => by rw [if_neg (by omega), Nat.mul_zero])]
  rw [Nat.zero_add, Nat.add_zero]
  exact fb_sm_cong (fun k hk => by rw [if_pos (by omega), bits_at hf n (a + k) (by omega), Nat.mul_one])
