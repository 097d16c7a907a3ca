/-! means -/
theorem sm_swap (g : Nat → Nat → Nat) (e : Nat) : ∀ N, fb_sm (fun v => fb_sm (fun k => g k v) e) N = fb_sm (fun k => fb_sm (fun v => g k v) N) e
  | 0 => by
    have : fb_sm (fun k => fb_sm (fun v => g k v) 0) e = fb_sm (fun _ => 0) e := rfl
    rw [this, fb_sm_const]
    rfl
  | N + 1 => by
    rw [fb_sm_succ, sm_swap g e N, ← fb_sm_add]
    exact fb_sm_cong (fun k _ => by rw [fb_sm_succ])
theorem ed_bits : ∀ a, a < 8 → ∀ b, b < 8 → a ≠ b → ∀ v, v < 256 → (if v / 2 ^ a % 2 = v / 2 ^ b % 2 then 1 else 0) = (if v &&& (2 ^ a + 2 ^ b) = 0 then 1 else 0) + (if v &&& (2 ^ a + 2 ^ b) = 2 ^ a + 2 ^ b then 1 else 0) := by decide +kernel
def edc (a b f g : Nat) : Bool := !(g &&& f == g) || ((if g = 0 then 1 else 0) + (if g = f then 1 else 0)) * 2 == 2 ^ pop 8 (outN (2 ^ a + 2 ^ b) f)
def edd (a b f : Nat) : Bool := a == b || !(f &&& (2 ^ a + 2 ^ b) == f) || f == 2 ^ a + 2 ^ b || (List.range 256).all (edc a b f)
theorem ed_all : ∀ a, a < 8 → ∀ b, b < 8 → ∀ f, f < 256 → edd a b f = true := by decide +kernel
theorem ed_two (a : Nat) (ha : a < 8) (b : Nat) (hb : b < 8) (hab : a ≠ b) (f : Nat) (hf : f < 256) (h1 : f &&& (2 ^ a + 2 ^ b) = f) (h2 : ¬ f = 2 ^ a + 2 ^ b) (g : Nat) (hg : g < 256) (h3 : g &&& f = g) : ((if g = 0 then 1 else 0) + (if g = f then 1 else 0)) * 2 = 2 ^ pop 8 (outN (2 ^ a + 2 ^ b) f) := by
  have h := ed_all a ha b hb f hf
  unfold edd at h
  rw [Bool.or_eq_true, Bool.or_eq_true, Bool.or_eq_true] at h
  rcases h with ((h | h) | h) | h
  · exact absurd (eq_of_beq h) hab
  · rw [h1] at h; simp at h
  · exact absurd (eq_of_beq h) h2
  · have k := List.all_eq_true.mp h g (List.mem_range.mpr hg)
    unfold edc at k
    rw [Bool.or_eq_true] at k
    rcases k with k | k
    · rw [h3] at k; simp at k
    · exact eq_of_beq k
theorem ed_lt : ∀ a, a < 8 → ∀ b, b < 8 → 0 < 2 ^ a + 2 ^ b ∧ 2 ^ a + 2 ^ b < 512 := by decide
theorem ed_or : ∀ a, a < 8 → ∀ b, b < 8 → a ≠ b → 2 ^ a ||| 2 ^ b = 2 ^ a + 2 ^ b := by decide
theorem ed_n : ∀ n, n < 9 → ∀ a, a < n → ∀ b, b < n → a ≠ b → 2 ^ a + 2 ^ b < 2 ^ n := by decide
theorem out_and (m F : Nat) : outN m (F &&& m) = outN m F := by
  unfold outN
  apply Nat.eq_of_testBit_eq
  intro i
  simp only [Nat.testBit_and, Nat.testBit_xor]
  cases m.testBit i <;> cases F.testBit i <;> cases (4294967295 : Nat).testBit i <;> rfl
theorem out_sub {m F : Nat} (h : m < 4294967296) (hF : m &&& F = m) : outN m F = 0 := by
  unfold outN
  apply Nat.eq_of_testBit_eq
  intro i
  have k := congrArg (fun x => x.testBit i) hF
  by_cases hi : i < 32
  · have o : (4294967295 : Nat).testBit i = true := by rw [show (4294967295 : Nat) = 2 ^ 32 - 1 from rfl, Nat.testBit_two_pow_sub_one]; simp [hi]
    simp only [Nat.testBit_and, Nat.testBit_xor, Nat.zero_testBit, o] at k ⊢
    revert k
    cases m.testBit i <;> cases F.testBit i <;> decide
  · have : m.testBit i = false := Nat.testBit_lt_two_pow (Nat.lt_of_lt_of_le h (Nat.pow_le_pow_right (n := 2) (i := 32) (j := i) (by decide) (show 32 ≤ i by omega)))
    simp only [Nat.testBit_and, this, Nat.zero_testBit, Bool.false_and]
theorem pop_0 : ∀ n, pop n 0 = 0
  | 0 => rfl
  | n + 1 => by
    show pop n 0 + 0 / 2 ^ n % 2 = 0
    rw [pop_0 n]; simp
theorem pop_n8 {n x : Nat} (hn : n ≤ 8) (hx : x < 2 ^ n) : pop 8 x = pop n x := by
  have := pop_big hx (8 - n)
  rw [show n + (8 - n) = 8 by omega] at this
  exact this
theorem one_cnt {n F s m : Nat} (hn : n ≤ 8) (hF : F < 2 ^ n) (hm : m < 2 ^ n) (h0 : 0 < m) (hs : s &&& F = s) : fb_sm (fun v => if v &&& F = s then (if v &&& m = 0 ∨ v &&& m = m then 1 else 0) else 0) (2 ^ n) = cnt2 n F s m 0 + cnt2 n F s m m := by
  unfold cnt2
  rw [← fb_sm_add]
  refine fb_sm_cong (fun v _ => ?_)
  by_cases g : v &&& F = s
  · rw [if_pos g]
    by_cases g0 : v &&& m = 0
    · rw [if_pos (Or.inl g0), if_pos ⟨g, g0⟩, if_neg (fun k => by omega)]
    · by_cases g1 : v &&& m = m
      · rw [if_pos (Or.inr g1), if_neg (fun k => g0 k.2), if_pos ⟨g, g1⟩]
      · rw [if_neg (fun k => by rcases k with k | k; exact g0 k; exact g1 k), if_neg (fun k => g0 k.2), if_neg (fun k => g1 k.2)]
  · rw [if_neg g, if_neg (fun k => g k.1), if_neg (fun k => g k.1)]
/-- what the class adds for a cord, and for an edge -/
def ocN (F s m : Nat) : Nat := ((if s &&& m = 0 then 1 else 0) + (if s &&& m = m &&& F then 1 else 0)) * 2 ^ (8 - pop 8 (outN m F))
def ecN (F s a b w : Nat) : Nat := if (2 ^ a + 2 ^ b) &&& F = 2 ^ a + 2 ^ b then (if s &&& (2 ^ a + 2 ^ b) = 0 ∨ s &&& (2 ^ a + 2 ^ b) = 2 ^ a + 2 ^ b then 0 else 2 * w) else w
theorem cord_mean {n F s m : Nat} (hn : n ≤ 8) (hF : F < 2 ^ n) (hm : m < 2 ^ n) (h0 : 0 < m) (hs : s &&& F = s) : 256 * fb_sm (fun v => if v &&& F = s then (if v &&& m = 0 ∨ v &&& m = m then 1 else 0) else 0) (2 ^ n) = ocN F s m * cntF n F s := by
  rw [one_cnt hn hF hm h0 hs]
  have z := cnt2_ok (r := 0) hn hF hm hs (Nat.zero_and m)
  have o := cnt2_ok (r := m) hn hF hm hs (Nat.and_self m)
  rw [Nat.zero_and] at z
  unfold ocN
  have l1 : outN m F < 2 ^ n := Nat.lt_of_le_of_lt Nat.and_le_left hm
  rw [pop_n8 hn l1]
  have l2 := pop_le n (outN m F)
  have e : 256 = 2 ^ (pop n (outN m F)) * 2 ^ (8 - pop n (outN m F)) := by rw [← Nat.pow_add, show pop n (outN m F) + (8 - pop n (outN m F)) = 8 by omega]
  have e2 : (cnt2 n F s m 0 + cnt2 n F s m m) * 2 ^ pop n (outN m F) = ((if s &&& m = 0 then 1 else 0) + (if s &&& m = m &&& F then 1 else 0)) * cntF n F s := by
    rw [Nat.add_mul, z, o, Nat.add_mul]
    congr 1
    · split <;> simp
    · split <;> simp
  conv => lhs; rw [e]
  rw [Nat.mul_comm, ← Nat.mul_assoc, e2, Nat.mul_right_comm]
theorem edge_mean {n F s a b : Nat} (w : Nat) (hn : n ≤ 8) (hF : F < 2 ^ n) (ha : a < n) (hb : b < n) (hab : a ≠ b) (hs : s &&& F = s) : 2 * fb_sm (fun v => if v &&& F = s then (if v / 2 ^ a % 2 = v / 2 ^ b % 2 then 0 else w) else 0) (2 ^ n) = ecN F s a b w * cntF n F s := by
  have hm := ed_n n (by omega) a ha b hb hab
  have m0 := (ed_lt a (by omega) b (by omega)).1
  have oc := one_cnt hn hF hm m0 hs
  have z := cnt2_ok (r := 0) hn hF hm hs (Nat.zero_and _)
  have o := cnt2_ok (r := 2 ^ a + 2 ^ b) hn hF hm hs (Nat.and_self _)
  have ee : ∀ v, v < 256 → _ := fun v hv => ed_bits a (by omega) b (by omega) hab v hv
  have two : ∀ f, f < 256 → _ := fun f hf => ed_two a (by omega) b (by omega) hab f hf
  have l256 : 2 ^ n ≤ 256 := pw8 hn
  unfold ecN
  generalize 2 ^ a + 2 ^ b = m at *
  rw [Nat.zero_and] at z
  -- cut and one-sided together are all
  have all : fb_sm (fun v => if v &&& F = s then (if v / 2 ^ a % 2 = v / 2 ^ b % 2 then 0 else 1) else 0) (2 ^ n) + (cnt2 n F s m 0 + cnt2 n F s m m) = cntF n F s := by
    rw [← oc, ← fb_sm_add]
    unfold cntF
    refine fb_sm_cong (fun v hv => ?_)
    have k := ee v (by omega)
    by_cases g : v &&& F = s
    · rw [if_pos g, if_pos g, if_pos g]
      by_cases q : v / 2 ^ a % 2 = v / 2 ^ b % 2
      · rw [if_pos q] at k ⊢
        rw [if_pos]
        by_cases g0 : v &&& m = 0
        · exact Or.inl g0
        · by_cases g1 : v &&& m = m
          · exact Or.inr g1
          · rw [if_neg g0, if_neg g1] at k; omega
      · rw [if_neg q] at k ⊢
        rw [if_neg]
        rintro (g0 | g1)
        · rw [if_pos g0] at k; omega
        · rw [if_pos g1] at k; omega
    · rw [if_neg g, if_neg g, if_neg g]
  have wm : fb_sm (fun v => if v &&& F = s then (if v / 2 ^ a % 2 = v / 2 ^ b % 2 then 0 else w) else 0) (2 ^ n) = w * fb_sm (fun v => if v &&& F = s then (if v / 2 ^ a % 2 = v / 2 ^ b % 2 then 0 else 1) else 0) (2 ^ n) := by
    rw [← sm_mul]
    refine fb_sm_cong (fun v _ => ?_)
    by_cases g : v &&& F = s
    · rw [if_pos g, if_pos g]
      by_cases q : v / 2 ^ a % 2 = v / 2 ^ b % 2
      · rw [if_pos q, if_pos q, Nat.mul_zero]
      · rw [if_neg q, if_neg q, Nat.mul_one]
    · rw [if_neg g, if_neg g, Nat.mul_zero]
  rw [wm]
  generalize fb_sm (fun v => if v &&& F = s then (if v / 2 ^ a % 2 = v / 2 ^ b % 2 then 0 else 1) else 0) (2 ^ n) = K at *
  generalize cntF n F s = C at *
  have lm : m < 256 := by omega
  by_cases g : m &&& F = m
  · rw [if_pos g]
    rw [out_sub (by omega) g, pop_0, Nat.pow_zero, Nat.mul_one] at z o
    rw [g] at o
    rw [z, o] at all
    by_cases g0 : s &&& m = 0
    · rw [if_pos g0, if_neg (by omega)] at all
      rw [if_pos (Or.inl g0)]
      obtain rfl : K = 0 := by omega
      simp
    · by_cases g1 : s &&& m = m
      · rw [if_neg g0, if_pos g1] at all
        rw [if_pos (Or.inr g1)]
        obtain rfl : K = 0 := by omega
        simp
      · rw [if_neg g0, if_neg g1] at all
        rw [if_neg (fun k => by rcases k with k | k; exact g0 k; exact g1 k)]
        obtain rfl : K = C := by omega
        rw [Nat.mul_assoc]
  · rw [if_neg g]
    have fm : (F &&& m) &&& m = F &&& m := by rw [Nat.and_assoc, Nat.and_self]
    have sf : (s &&& m) &&& (F &&& m) = s &&& m := by
      apply Nat.eq_of_testBit_eq
      intro i
      have k3 := congrArg (fun x => x.testBit i) hs
      simp only [Nat.testBit_and] at k3 ⊢
      revert k3
      cases F.testBit i <;> cases s.testBit i <;> cases m.testBit i <;> decide
    have lf : F &&& m < 256 := Nat.lt_of_le_of_lt Nat.and_le_right lm
    have t := two (F &&& m) lf fm (fun k => g (by rw [Nat.and_comm]; exact k)) (s &&& m) (Nat.lt_of_le_of_lt Nat.and_le_right lm) sf
    have l1 : outN m F < 2 ^ n := Nat.lt_of_le_of_lt Nat.and_le_left hm
    rw [out_and, pop_n8 hn l1] at t
    have e2 : (cnt2 n F s m 0 + cnt2 n F s m m) * 2 ^ pop n (outN m F) = ((if s &&& m = 0 then 1 else 0) + (if s &&& m = F &&& m then 1 else 0)) * C := by
      rw [Nat.add_mul, z, o, Nat.add_mul, Nat.and_comm m F]
      congr 1
      · split <;> simp
      · split <;> simp
    have e3 : 2 ^ pop n (outN m F) * (2 * (cnt2 n F s m 0 + cnt2 n F s m m)) = 2 ^ pop n (outN m F) * C := by
      rw [Nat.mul_left_comm, Nat.mul_comm (2 ^ _), e2, ← Nat.mul_assoc, Nat.mul_comm 2, t]
    have e4 := Nat.eq_of_mul_eq_mul_left (Nat.two_pow_pos _) e3
    have e5 : 2 * K = C := by omega
    rw [Nat.mul_left_comm, e5]
