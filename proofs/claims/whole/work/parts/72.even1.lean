/-! even: the mathematics -/
theorem si_swap (g : Nat → Nat → Int) (e : Nat) : ∀ N, fb_si (fun v => fb_si (fun k => g k v) e) N = fb_si (fun k => fb_si (fun v => g k v) N) e
  | 0 => by
    have : fb_si (fun k => fb_si (fun v => g k v) 0) e = fb_si (fun _ => (0 : Int) * 0) e := rfl
    rw [this, fb_si_mul]
    simp [fb_si]
  | N + 1 => by
    rw [fb_si_succ, si_swap g e N, ← fb_si_add]
    exact fb_si_cong (fun k _ => by rw [fb_si_succ])
theorem si_zero : ∀ N, fb_si (fun _ => 0) N = 0
  | 0 => rfl
  | N + 1 => by rw [fb_si_succ, si_zero N]; rfl
theorem si_one (g : Nat → Int) {x : Nat} : ∀ N, x < N → fb_si (fun a => if a = x then g a else 0) N = g x := by
  intro N hx
  have := fb_si_upd (fun _ => (0 : Int)) (g x) hx
  rw [si_zero] at this
  rw [fb_si_cong (g := fun k => if k = x then g x else 0) (fun k _ => by
    by_cases e : k = x
    · rw [if_pos e, if_pos e, e]
    · rw [if_neg e, if_neg e]), this]
  omega
def chi (n : Nat) (hr : Nat → Nat) (h U : Nat) : Int := fb_si (fun k => par n (hr k &&& U)) h
def cW (hr : Nat → Nat) (h W a : Nat) : Nat := fb_sm (fun k => if hr k &&& W = a then 1 else 0) h
theorem chi_odd {n : Nat} {hr : Nat → Nat} {h : Nat} (hn : n ≤ 8) (hh : ∀ k, k < h → hr k < 2 ^ n) (U : Nat) : chi n hr h U = (h : Int) - 2 * (oddN hr h U : Int) := by
  unfold chi oddN
  rw [← fb_si_nat, ← fb_si_mul]
  have e1 : (h : Int) = fb_si (fun _ => ((1 : Nat) : Int)) h := by
    rw [fb_si_nat, fb_sm_const, Nat.mul_one]
  rw [e1, ← fb_si_sub]
  have e2 : ((fb_si (fun _ => ((1 : Nat) : Int)) h)) = h := e1.symm
  refine fb_si_cong (fun k hk => ?_)
  rw [par_pop, pop_n8 hn (Nat.lt_of_le_of_lt Nat.and_le_left (hh k hk))]
  rfl
theorem lean_chi {n : Nat} {hr : Nat → Nat} {h : Nat} (hn : n ≤ 8) (hh : ∀ k, k < h → hr k < 2 ^ n) (U : Nat) : leanN hr h U = 0 ↔ chi n hr h U = 0 := by
  rw [chi_odd hn hh]
  unfold leanN
  split <;> omega
theorem xor_in {x a W : Nat} (ha : a &&& W = a) : (x ^^^ a) &&& W = 0 ↔ x &&& W = a := by
  constructor
  · intro h
    apply Nat.eq_of_testBit_eq
    intro i
    have k1 := congrArg (fun x => x.testBit i) h
    have k2 := congrArg (fun x => x.testBit i) ha
    simp only [Nat.testBit_and, Nat.testBit_xor, Nat.zero_testBit] at k1 k2 ⊢
    revert k1 k2
    cases x.testBit i <;> cases a.testBit i <;> cases W.testBit i <;> decide
  · intro h
    apply Nat.eq_of_testBit_eq
    intro i
    have k1 := congrArg (fun x => x.testBit i) h
    have k2 := congrArg (fun x => x.testBit i) ha
    simp only [Nat.testBit_and, Nat.testBit_xor, Nat.zero_testBit] at k1 k2 ⊢
    revert k1 k2
    cases x.testBit i <;> cases a.testBit i <;> cases W.testBit i <;> decide
theorem inv_chi {n : Nat} {hr : Nat → Nat} {h W a : Nat} (hW : W < 2 ^ n) (ha : a &&& W = a) : fb_si (fun U => if U &&& W = U then par n (a &&& U) * chi n hr h U else 0) (2 ^ n) = ((2 ^ pop n W * cW hr h W a : Nat) : Int) := by
  have e1 : fb_si (fun U => if U &&& W = U then par n (a &&& U) * chi n hr h U else 0) (2 ^ n) = fb_si (fun U => fb_si (fun k => if U &&& W = U then par n (U &&& (hr k ^^^ a)) else 0) h) (2 ^ n) := by
    refine fb_si_cong (fun U _ => ?_)
    by_cases q : U &&& W = U
    · rw [if_pos q]
      unfold chi
      rw [← fb_si_mul]
      refine fb_si_cong (fun k _ => ?_)
      rw [if_pos q, Nat.and_comm U, par_xor, Int.mul_comm]
    · rw [if_neg q, fb_si_cong (g := fun _ => 0) (fun k _ => by rw [if_neg q]), si_zero]
  rw [e1, si_swap]
  unfold cW
  rw [← sm_mul, ← fb_si_nat]
  refine fb_si_cong (fun k _ => ?_)
  have := EW_ok n W (hr k ^^^ a) hW
  unfold EW at this
  rw [this]
  by_cases q : hr k &&& W = a
  · rw [if_pos ((xor_in ha).mpr q), if_pos q, Nat.mul_one]
  · rw [if_neg (fun k => q ((xor_in ha).mp k)), if_neg q, Nat.mul_zero]; rfl
theorem even_fwd {n : Nat} {hr : Nat → Nat} {h W a : Nat} (hW : W < 2 ^ n) (ha : a &&& W = a) (hz : ∀ U, 0 < U → U < 2 ^ n → U &&& W = U → chi n hr h U = 0) : cW hr h W a * 2 ^ pop n W = h := by
  have i := inv_chi (hr := hr) (h := h) hW ha
  have e : fb_si (fun U => if U &&& W = U then par n (a &&& U) * chi n hr h U else 0) (2 ^ n) = fb_si (fun U => if U = 0 then ((h : Nat) : Int) else 0) (2 ^ n) := by
    refine fb_si_cong (fun U hU => ?_)
    by_cases z : U = 0
    · subst z
      rw [if_pos (Nat.zero_and W), if_pos rfl, Nat.and_zero, par_0, Int.one_mul]
      unfold chi
      rw [fb_si_cong (g := fun _ => ((1 : Nat) : Int)) (fun k _ => by rw [Nat.and_zero, par_0]; rfl), fb_si_nat, fb_sm_const, Nat.mul_one]
    · rw [if_neg z]
      by_cases q : U &&& W = U
      · rw [if_pos q, hz U (by omega) hU q, Int.mul_zero]
      · rw [if_neg q]
  rw [e, si_one (fun _ => ((h : Nat) : Int)) _ (Nat.two_pow_pos n)] at i
  rw [Nat.mul_comm]
  omega
theorem even_bwd {n : Nat} {hr : Nat → Nat} {h W U : Nat} (hW : W < 2 ^ n) (hU0 : 0 < U) (hU : U &&& W = U) (hh : ∀ k, k < h → hr k < 2 ^ n) (hg : ∀ a, a < 2 ^ n → a &&& W = a → cW hr h W a * 2 ^ pop n W = h) : chi n hr h U = 0 := by
  have e1 : chi n hr h U = fb_si (fun a => if a &&& W = a then par n (a &&& U) * (cW hr h W a : Int) else 0) (2 ^ n) := by
    have : fb_si (fun a => if a &&& W = a then par n (a &&& U) * (cW hr h W a : Int) else 0) (2 ^ n) = fb_si (fun a => fb_si (fun k => if a = hr k &&& W then par n (a &&& U) else 0) h) (2 ^ n) := by
      refine fb_si_cong (fun a _ => ?_)
      by_cases q : a &&& W = a
      · rw [if_pos q]
        unfold cW
        rw [← fb_si_nat, ← fb_si_mul]
        refine fb_si_cong (fun k _ => ?_)
        by_cases z : hr k &&& W = a
        · rw [if_pos z, if_pos z.symm]; simp
        · rw [if_neg z, if_neg (fun k => z k.symm)]; simp
      · rw [if_neg q, fb_si_cong (g := fun _ => 0) (fun k _ => by
          rw [if_neg]
          intro z
          apply q
          rw [z, Nat.and_assoc, Nat.and_self]), si_zero]
    rw [this, si_swap]
    unfold chi
    refine fb_si_cong (fun k hk => ?_)
    rw [si_one (fun a => par n (a &&& U)) _ (Nat.lt_of_le_of_lt Nat.and_le_left (hh k hk)), Nat.and_assoc, Nat.and_comm W U, hU]
  have e2 : ((2 ^ pop n W : Nat) : Int) * chi n hr h U = (h : Int) * EW n W U := by
    rw [e1, ← fb_si_mul]
    unfold EW
    rw [← fb_si_mul]
    refine fb_si_cong (fun a ha => ?_)
    by_cases q : a &&& W = a
    · rw [if_pos q, if_pos q]
      have g := hg a ha q
      rw [← Int.mul_assoc, Int.mul_right_comm, ← Int.natCast_mul, Nat.mul_comm, g]
    · rw [if_neg q, if_neg q, Int.mul_zero, Int.mul_zero]
  rw [EW_ok n W U hW, hU, if_neg (by omega), Int.mul_zero] at e2
  rcases Int.mul_eq_zero.mp e2 with z | z
  · exfalso
    have := Nat.two_pow_pos (pop n W)
    omega
  · exact z
theorem ext_set : ∀ n U d, U < 2 ^ n → pop n U + d ≤ n → ∃ W, W < 2 ^ n ∧ U &&& W = U ∧ pop n W = pop n U + d := by
  intro n
  induction n with
  | zero =>
    intro U d hU hd
    obtain rfl : d = 0 := by omega
    exact ⟨U, hU, Nat.and_self U, rfl⟩
  | succ n ih =>
    intro U d hU hd
    rw [Nat.pow_succ] at hU
    rw [pop_low] at hd
    have fin : ∀ W' w, w < 2 → U % 2 ≤ w → W' < 2 ^ n → U / 2 &&& W' = U / 2 → U &&& (2 * W' + w) = U := by
      intro W' w hw hu hW' q
      have a := and_low U (2 * W' + w)
      rw [show (2 * W' + w) % 2 = w by omega, show (2 * W' + w) / 2 = W' by omega, q] at a
      have u2 : U % 2 = 0 ∨ U % 2 = 1 := by omega
      rcases u2 with u2 | u2
      · rw [u2, Nat.zero_mul] at a; omega
      · obtain rfl : w = 1 := by omega
        rw [u2] at a; omega
    by_cases g : pop n (U / 2) + d ≤ n
    · obtain ⟨W', a1, a2, a3⟩ := ih (U / 2) d (by omega) g
      refine ⟨2 * W' + U % 2, by rw [Nat.pow_succ]; omega, fin W' (U % 2) (by omega) (Nat.le_refl _) a1 a2, ?_⟩
      rw [pop_low, pop_low, show (2 * W' + U % 2) % 2 = U % 2 by omega, show (2 * W' + U % 2) / 2 = W' by omega, a3]
      omega
    · have hu : U % 2 = 0 := by omega
      obtain ⟨d, rfl⟩ : ∃ d', d = d' + 1 := ⟨d - 1, by have := pop_le n (U / 2); omega⟩
      obtain ⟨W', a1, a2, a3⟩ := ih (U / 2) d (by omega) (by omega)
      refine ⟨2 * W' + 1, by rw [Nat.pow_succ]; omega, fin W' 1 (by decide) (by omega) a1 a2, ?_⟩
      rw [pop_low, pop_low, show (2 * W' + 1) % 2 = 1 by omega, show (2 * W' + 1) / 2 = W' by omega, a3]
      omega
theorem pop_sub {U W : Nat} (h : U &&& W = U) : ∀ n, pop n U ≤ pop n W := by
  intro n
  unfold pop
  refine fb_sm_le (fun k _ => ?_)
  have := and_bitN U W k
  rw [h] at this
  have h1 : U / 2 ^ k % 2 = 0 ∨ U / 2 ^ k % 2 = 1 := by omega
  have h2 : W / 2 ^ k % 2 = 0 ∨ W / 2 ^ k % 2 = 1 := by omega
  rcases h1 with h1 | h1 <;> rcases h2 with h2 | h2 <;> rw [h1, h2] at this <;> rw [h1, h2] <;> omega
/-- uniform on all sets of t just when no parity of at most t leans -/
theorem even_iff {n t : Nat} {hr : Nat → Nat} {h : Nat} (hn : n ≤ 8) (ht : t ≤ n) (hh : ∀ k, k < h → hr k < 2 ^ n) : (∀ U, 0 < U → U < 2 ^ n → pop 8 U ≤ t → leanN hr h U = 0) ↔ (∀ W, 0 < W → W < 2 ^ n → pop 8 W = t → ∀ a, a < 2 ^ n → a &&& W = a → cW hr h W a * 2 ^ t = h) := by
  constructor
  · intro H W _ hW hp a _ ha
    have : pop n W = t := by rw [← pop_n8 hn hW]; exact hp
    rw [← this]
    refine even_fwd hW ha (fun U h0 h1 h2 => (lean_chi hn hh U).mp (H U h0 h1 ?_))
    rw [← hp]; exact pop_sub h2 8
  · intro H U h0 hU hp
    rw [lean_chi hn hh]
    have hp2 : pop n U ≤ t := by rw [← pop_n8 hn hU]; exact hp
    obtain ⟨W, a1, a2, a3⟩ := ext_set n U (t - pop n U) hU (by omega)
    have p3 : pop n W = t := by omega
    have W0 : 0 < W := by
      rcases Nat.eq_zero_or_pos W with z | z
      · rw [z, Nat.and_zero] at a2; omega
      · exact z
    refine even_bwd a1 h0 a2 hh (fun a ha q => ?_)
    rw [p3]
    exact H W W0 a1 (by rw [pop_n8 hn a1]; exact p3) a ha q
