/-! parities: signs and sums over parts of a set -/
def par : Nat → Nat → Int
  | 0, _ => 1
  | n + 1, x => (1 - 2 * ((x % 2 : Nat) : Int)) * par n (x / 2)
theorem par_pop : ∀ n x, par n x = 1 - 2 * ((pop n x % 2 : Nat) : Int) := by
  intro n
  induction n with
  | zero => intro x; rfl
  | succ n ih =>
    intro x
    rw [par, ih, pop_low]
    have h1 : x % 2 = 0 ∨ x % 2 = 1 := by omega
    have h2 : pop n (x / 2) % 2 = 0 ∨ pop n (x / 2) % 2 = 1 := by omega
    rcases h1 with h1 | h1 <;> rcases h2 with h2 | h2
    · rw [h1, h2, show (0 + pop n (x / 2)) % 2 = 0 by omega]; rfl
    · rw [h1, h2, show (0 + pop n (x / 2)) % 2 = 1 by omega]; rfl
    · rw [h1, h2, show (1 + pop n (x / 2)) % 2 = 1 by omega]; rfl
    · rw [h1, h2, show (1 + pop n (x / 2)) % 2 = 0 by omega]; rfl
theorem and_low (x U : Nat) : (x &&& U) % 2 = (x % 2) * (U % 2) ∧ (x &&& U) / 2 = x / 2 &&& U / 2 := by
  have h := and2 (x / 2) U (b := x % 2) (Nat.mod_lt _ (by decide))
  rw [show 2 * (x / 2) + x % 2 = x by omega] at h
  have hx : x % 2 = 0 ∨ x % 2 = 1 := by omega
  have hu : U % 2 = 0 ∨ U % 2 = 1 := by omega
  rcases hx with hx | hx <;> rcases hu with hu | hu <;> rw [hx, hu] at h <;> rw [hx, hu] <;> omega
theorem xor_low (x a : Nat) : (x ^^^ a) % 2 = (x % 2 + a % 2) % 2 ∧ (x ^^^ a) / 2 = x / 2 ^^^ a / 2 := by
  have h1 := Nat.xor_mod_two_pow (a := x) (b := a) (n := 1)
  have h2 := Nat.xor_div_two_pow (a := x) (b := a) (n := 1)
  have hx : x % 2 = 0 ∨ x % 2 = 1 := by omega
  have hu : a % 2 = 0 ∨ a % 2 = 1 := by omega
  rw [show (2 : Nat) ^ 1 = 2 from rfl] at h1 h2
  refine ⟨?_, h2⟩
  rw [h1]
  rcases hx with hx | hx <;> rcases hu with hu | hu <;> rw [hx, hu] <;> rfl
theorem par_xor : ∀ n x a U, par n ((x ^^^ a) &&& U) = par n (x &&& U) * par n (a &&& U) := by
  intro n
  induction n with
  | zero => intro x a U; rfl
  | succ n ih =>
    intro x a U
    rw [par, par, par, (and_low (x ^^^ a) U).1, (and_low (x ^^^ a) U).2, (and_low x U).1, (and_low x U).2, (and_low a U).1, (and_low a U).2, (xor_low x a).1, (xor_low x a).2, ih]
    generalize par n (x / 2 &&& U / 2) = P
    generalize par n (a / 2 &&& U / 2) = Q
    have hx : x % 2 = 0 ∨ x % 2 = 1 := by omega
    have ha : a % 2 = 0 ∨ a % 2 = 1 := by omega
    have hu : U % 2 = 0 ∨ U % 2 = 1 := by omega
    rcases hx with hx | hx <;> rcases ha with ha | ha <;> rcases hu with hu | hu <;> rw [hx, ha, hu] <;> simp [Int.neg_mul, Int.mul_neg]
theorem par_0 : ∀ n, par n 0 = 1
  | 0 => rfl
  | n + 1 => by rw [par, show 0 / 2 = 0 from rfl, par_0 n]; rfl
theorem si_dbl (f : Nat → Int) : ∀ N, fb_si f (2 * N) = fb_si (fun v => f (2 * v) + f (2 * v + 1)) N
  | 0 => rfl
  | N + 1 => by
    rw [show 2 * (N + 1) = 2 * N + 1 + 1 by omega, fb_si_succ, fb_si_succ, si_dbl f N, fb_si_succ, Int.add_assoc]
def EW (n W y : Nat) : Int := fb_si (fun U => if U &&& W = U then par n (U &&& y) else 0) (2 ^ n)
theorem EW_ok : ∀ n W y, W < 2 ^ n → EW n W y = if y &&& W = 0 then ((2 ^ pop n W : Nat) : Int) else 0 := by
  intro n
  induction n with
  | zero =>
    intro W y hW
    obtain rfl : W = 0 := by omega
    rw [Nat.and_zero, if_pos rfl]
    rfl
  | succ n ih =>
    intro W y hW
    rw [Nat.pow_succ] at hW
    have ih2 := ih (W / 2) (y / 2) (by omega)
    have yw := and_low y W
    unfold EW at ih2 ⊢
    rw [Nat.pow_succ 2 n, Nat.mul_comm (2 ^ n) 2, si_dbl, pop_low]
    have e0 : ∀ v, (if 2 * v &&& W = 2 * v then par (n + 1) (2 * v &&& y) else 0) = if v &&& W / 2 = v then par n (v &&& y / 2) else 0 := by
      intro v
      have a1 := and_low (2 * v) W
      have a2 := and_low (2 * v) y
      rw [show 2 * v % 2 = 0 by omega, show 2 * v / 2 = v by omega, Nat.zero_mul] at a1 a2
      rw [par, a2.1, a2.2]
      by_cases q : v &&& W / 2 = v
      · rw [if_pos q, if_pos (by omega)]; simp
      · rw [if_neg q, if_neg (by omega)]
    have e1 : ∀ v, (if 2 * v + 1 &&& W = 2 * v + 1 then par (n + 1) (2 * v + 1 &&& y) else 0) = (if W % 2 = 1 then (1 - 2 * ((y % 2 : Nat) : Int)) else 0) * if v &&& W / 2 = v then par n (v &&& y / 2) else 0 := by
      intro v
      have a1 := and_low (2 * v + 1) W
      have a2 := and_low (2 * v + 1) y
      rw [show (2 * v + 1) % 2 = 1 by omega, show (2 * v + 1) / 2 = v by omega, Nat.one_mul] at a1 a2
      rw [par, a2.1, a2.2]
      by_cases w : W % 2 = 1
      · rw [if_pos w]
        by_cases q : v &&& W / 2 = v
        · rw [if_pos q, if_pos (by omega)]
        · rw [if_neg q, if_neg (by omega)]; simp
      · rw [if_neg w, if_neg (by omega)]; simp
    rw [fb_si_cong (g := fun v => (if v &&& W / 2 = v then par n (v &&& y / 2) else 0) + (if W % 2 = 1 then (1 - 2 * ((y % 2 : Nat) : Int)) else 0) * if v &&& W / 2 = v then par n (v &&& y / 2) else 0) (fun v _ => by rw [e0, e1]), fb_si_add, fb_si_mul, ih2]
    have hw : W % 2 = 0 ∨ W % 2 = 1 := by omega
    have hy : y % 2 = 0 ∨ y % 2 = 1 := by omega
    have pp : ((2 ^ (1 + pop n (W / 2)) : Nat) : Int) = ((2 ^ pop n (W / 2) : Nat) : Int) + ((2 ^ pop n (W / 2) : Nat) : Int) := by
      rw [Nat.pow_add, Nat.pow_one]; omega
    rcases hw with hw | hw
    · rw [hw, if_neg (show ¬ (0 : Nat) = 1 by decide), Nat.zero_add]
      rw [hw, Nat.mul_zero] at yw
      by_cases q : y / 2 &&& W / 2 = 0
      · rw [if_pos q, if_pos (by omega)]; simp
      · rw [if_neg q, if_neg (by omega)]; simp
    · rw [hw, if_pos rfl]
      rw [hw, Nat.mul_one] at yw
      rcases hy with hy | hy
      · rw [hy]
        by_cases q : y / 2 &&& W / 2 = 0
        · rw [if_pos q, if_pos (by omega), pp]; simp
        · rw [if_neg q, if_neg (by omega)]; simp
      · rw [hy, if_neg (show ¬ y &&& W = 0 by omega)]
        by_cases q : y / 2 &&& W / 2 = 0
        · rw [if_pos q]; simp; omega
        · rw [if_neg q]; simp
