/-! counting sides that hold some knots fast -/
theorem sm_dbl (f : Nat → Nat) : ∀ N, fb_sm f (2 * N) = fb_sm (fun v => f (2 * v) + f (2 * v + 1)) N
  | 0 => rfl
  | N + 1 => by
    rw [show 2 * (N + 1) = 2 * N + 1 + 1 by omega, fb_sm_succ, fb_sm_succ, sm_dbl f N, fb_sm_succ, Nat.add_assoc]
theorem bAnd2 : ∀ b, b < 2 → ∀ f, f < 2 → b &&& f = b * f := by decide
theorem and2 (v F : Nat) {b : Nat} (hb : b < 2) : (2 * v + b) &&& F = 2 * (v &&& (F / 2)) + b * (F % 2) := by
  have h1 := Nat.and_mod_two_pow (a := 2 * v + b) (b := F) (n := 1)
  have h2 := Nat.and_div_two_pow (a := 2 * v + b) (b := F) (n := 1)
  rw [show (2 * v + b) % 2 ^ 1 = b by omega, show F % 2 ^ 1 = F % 2 by omega, bAnd2 b hb _ (Nat.mod_lt _ (by decide))] at h1
  rw [show (2 * v + b) / 2 ^ 1 = v by omega, show F / 2 ^ 1 = F / 2 by omega] at h2
  generalize (2 * v + b) &&& F = x at *
  generalize v &&& (F / 2) = y at *
  generalize b * (F % 2) = z at *
  omega
def cntF (n F s : Nat) : Nat := fb_sm (fun v => if v &&& F = s then 1 else 0) (2 ^ n)
theorem pop_low (n x : Nat) : pop (n + 1) x = x % 2 + pop n (x / 2) := by
  rw [Nat.add_comm n 1, pop_split, show pop 1 x = 0 + x / 2 ^ 0 % 2 from rfl]
  simp
theorem cnt_ok : ∀ n F s, F < 2 ^ n → s &&& F = s → cntF n F s * 2 ^ pop n F = 2 ^ n := by
  intro n
  induction n with
  | zero =>
    intro F s hF hs
    obtain rfl : F = 0 := by omega
    rw [Nat.and_zero] at hs
    subst hs
    rfl
  | succ n ih =>
    intro F s hF hs
    rw [Nat.pow_succ] at hF
    have hs2 := and2 (s / 2) F (b := s % 2) (Nat.mod_lt _ (by decide))
    rw [show 2 * (s / 2) + s % 2 = s by omega, hs] at hs2
    have f2 : F % 2 = 0 ∨ F % 2 = 1 := by omega
    have ss : s / 2 &&& F / 2 = s / 2 := by
      rcases f2 with g | g
      · rw [g, Nat.mul_zero] at hs2; omega
      · rw [g, Nat.mul_one] at hs2; omega
    have ih2 := ih (F / 2) (s / 2) (by omega) ss
    rw [pop_low]
    unfold cntF at ih2 ⊢
    rw [Nat.pow_succ 2 n, Nat.mul_comm (2 ^ n) 2, sm_dbl]
    have e0 : ∀ v, (2 * v) &&& F = 2 * (v &&& (F / 2)) := fun v => by have := and2 v F (b := 0) (by decide); rw [Nat.zero_mul] at this; exact this
    have e1 : ∀ v, (2 * v + 1) &&& F = 2 * (v &&& (F / 2)) + F % 2 := fun v => by have := and2 v F (b := 1) (by decide); rw [Nat.one_mul] at this; exact this
    rcases f2 with g | g
    · rw [g, Nat.mul_zero] at hs2
      rw [g, Nat.zero_add]
      have : fb_sm (fun v => (if 2 * v &&& F = s then 1 else 0) + if 2 * v + 1 &&& F = s then 1 else 0) (2 ^ n) = 2 * fb_sm (fun v => if v &&& F / 2 = s / 2 then 1 else 0) (2 ^ n) := by
        rw [← sm_mul]
        refine fb_sm_cong (fun v _ => ?_)
        rw [e0, e1, g]
        by_cases q : v &&& F / 2 = s / 2
        · rw [if_pos q, if_pos (by omega), if_pos (by omega)]
        · rw [if_neg q, if_neg (by omega), if_neg (by omega)]
      rw [this, Nat.mul_assoc, ih2]
    · rw [g, Nat.mul_one] at hs2
      have : fb_sm (fun v => (if 2 * v &&& F = s then 1 else 0) + if 2 * v + 1 &&& F = s then 1 else 0) (2 ^ n) = fb_sm (fun v => if v &&& F / 2 = s / 2 then 1 else 0) (2 ^ n) := by
        refine fb_sm_cong (fun v _ => ?_)
        rw [e0, e1, g]
        by_cases q : v &&& F / 2 = s / 2
        · rw [if_pos q]
          by_cases t : s % 2 = 0
          · rw [if_pos (by omega), if_neg (by omega)]
          · rw [if_neg (by omega), if_pos (by omega)]
        · rw [if_neg q, if_neg (by omega), if_neg (by omega)]
      rw [this, g, Nat.pow_add, Nat.pow_one, Nat.mul_left_comm, ih2]
theorem two_mask {v F s m r : Nat} (hs : s &&& F = s) (hr : r &&& m = r) : (v &&& F = s ∧ v &&& m = r) ↔ (s &&& m = r &&& F ∧ v &&& (F ||| m) = s ||| r) := by
  constructor
  · rintro ⟨h1, h2⟩
    refine ⟨?_, ?_⟩
    · rw [← h1, ← h2, Nat.and_assoc, Nat.and_assoc, Nat.and_comm F m]
    · rw [Nat.and_or_distrib_left, h1, h2]
  · rintro ⟨h1, h2⟩
    have bt : ∀ i, v.testBit i = true → (F.testBit i = true → s.testBit i = true ∨ r.testBit i = true) := by
      intro i a b
      have := congrArg (fun x => x.testBit i) h2
      simp only [Nat.testBit_and, Nat.testBit_or, a, b, Bool.true_or, Bool.and_true] at this
      simpa using this.symm
    refine ⟨?_, ?_⟩
    · apply Nat.eq_of_testBit_eq
      intro i
      have k1 := congrArg (fun x => x.testBit i) h1
      have k2 := congrArg (fun x => x.testBit i) h2
      have k3 := congrArg (fun x => x.testBit i) hs
      have k4 := congrArg (fun x => x.testBit i) hr
      simp only [Nat.testBit_and, Nat.testBit_or] at k1 k2 k3 k4 ⊢
      revert k1 k2 k3 k4
      cases v.testBit i <;> cases F.testBit i <;> cases s.testBit i <;> cases m.testBit i <;> cases r.testBit i <;> decide
    · apply Nat.eq_of_testBit_eq
      intro i
      have k1 := congrArg (fun x => x.testBit i) h1
      have k2 := congrArg (fun x => x.testBit i) h2
      have k3 := congrArg (fun x => x.testBit i) hs
      have k4 := congrArg (fun x => x.testBit i) hr
      simp only [Nat.testBit_and, Nat.testBit_or] at k1 k2 k3 k4 ⊢
      revert k1 k2 k3 k4
      cases v.testBit i <;> cases F.testBit i <;> cases s.testBit i <;> cases m.testBit i <;> cases r.testBit i <;> decide
def cnt2 (n F s m r : Nat) : Nat := fb_sm (fun v => if v &&& F = s ∧ v &&& m = r then 1 else 0) (2 ^ n)
def outN (m F : Nat) : Nat := m &&& (F ^^^ 4294967295)
theorem or_out {m F i : Nat} (hi : i < 32) : (F ||| m) / 2 ^ i % 2 = F / 2 ^ i % 2 + outN m F / 2 ^ i % 2 := by
  have h1 : (F ||| m).testBit i = (F.testBit i || m.testBit i) := Nat.testBit_or F m i
  have h2 : (outN m F).testBit i = (m.testBit i && (F.testBit i ^^ true)) := by
    unfold outN
    rw [Nat.testBit_and, Nat.testBit_xor, show (4294967295 : Nat) = 2 ^ 32 - 1 from rfl, Nat.testBit_two_pow_sub_one]
    simp [hi]
  simp only [Nat.testBit_eq_decide_div_mod_eq] at h1 h2
  have hx : F / 2 ^ i % 2 < 2 := Nat.mod_lt _ (by decide)
  have hy : m / 2 ^ i % 2 < 2 := Nat.mod_lt _ (by decide)
  have hz : (F ||| m) / 2 ^ i % 2 < 2 := Nat.mod_lt _ (by decide)
  have hw : outN m F / 2 ^ i % 2 < 2 := Nat.mod_lt _ (by decide)
  generalize F / 2 ^ i % 2 = a at *
  generalize m / 2 ^ i % 2 = b at *
  generalize (F ||| m) / 2 ^ i % 2 = c at *
  generalize outN m F / 2 ^ i % 2 = d at *
  have ha : a = 0 ∨ a = 1 := by omega
  have hb : b = 0 ∨ b = 1 := by omega
  have hc : c = 0 ∨ c = 1 := by omega
  have hd : d = 0 ∨ d = 1 := by omega
  rcases ha with rfl | rfl <;> rcases hb with rfl | rfl <;> rcases hc with rfl | rfl <;> rcases hd with rfl | rfl <;> simp_all
theorem pop_or {m F n : Nat} (hn : n ≤ 32) : pop n (F ||| m) = pop n F + pop n (outN m F) := by
  unfold pop
  rw [← fb_sm_add]
  exact fb_sm_cong (fun i hi => or_out (by omega))
theorem cnt2_ok {n F s m r : Nat} (hn : n ≤ 8) (hF : F < 2 ^ n) (hm : m < 2 ^ n) (hs : s &&& F = s) (hr : r &&& m = r) : cnt2 n F s m r * 2 ^ pop n (outN m F) = if s &&& m = r &&& F then cntF n F s else 0 := by
  have c0 := cnt_ok n F s hF hs
  by_cases g : s &&& m = r &&& F
  · rw [if_pos g]
    have e : cnt2 n F s m r = cntF n (F ||| m) (s ||| r) := by
      unfold cnt2 cntF
      refine fb_sm_cong (fun v _ => ?_)
      by_cases q : v &&& (F ||| m) = s ||| r
      · rw [if_pos q, if_pos ((two_mask hs hr).mpr ⟨g, q⟩)]
      · rw [if_neg q, if_neg (fun k => q ((two_mask hs hr).mp k).2)]
    have so : (s ||| r) &&& (F ||| m) = s ||| r := by
      apply Nat.eq_of_testBit_eq
      intro i
      have k3 := congrArg (fun x => x.testBit i) hs
      have k4 := congrArg (fun x => x.testBit i) hr
      simp only [Nat.testBit_and, Nat.testBit_or] at k3 k4 ⊢
      revert k3 k4
      cases F.testBit i <;> cases s.testBit i <;> cases m.testBit i <;> cases r.testBit i <;> decide
    have c1 := cnt_ok n (F ||| m) (s ||| r) (Nat.or_lt_two_pow hF hm) so
    rw [pop_or (by omega), Nat.pow_add, ← c0, Nat.mul_comm (2 ^ pop n F), ← Nat.mul_assoc] at c1
    rw [e]
    exact Nat.eq_of_mul_eq_mul_right (Nat.two_pow_pos _) c1
  · rw [if_neg g]
    have : cnt2 n F s m r = fb_sm (fun _ => 0) (2 ^ n) := by
      unfold cnt2
      exact fb_sm_cong (fun v _ => if_neg (fun k => g ((two_mask hs hr).mp k).1))
    rw [this, fb_sm_const]
    simp
