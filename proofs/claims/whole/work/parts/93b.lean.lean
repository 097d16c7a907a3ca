/-! heaps of small sets: how many of a size; leans -/
theorem ch_m0 (m : Nat) : chN m 0 = 1 := by cases m <;> rfl
theorem ls_cnt : ∀ m s, fb_sm (fun x => if pop m x = s then 1 else 0) (2 ^ m) = chN m s
  | 0, 0 => rfl
  | 0, s + 1 => by
    show 0 + (if pop 0 0 = s + 1 then 1 else 0) = 0
    rw [if_neg (by rw [pop_0]; omega)]
  | m + 1, s => by
    rw [Nat.pow_succ', sm_dbl]
    have e1 : ∀ v, pop (m + 1) (2 * v) = pop m v := fun v => by rw [pop_low, show 2 * v % 2 = 0 by omega, show 2 * v / 2 = v by omega, Nat.zero_add]
    have e2 : ∀ v, pop (m + 1) (2 * v + 1) = pop m v + 1 := fun v => by rw [pop_low, show (2 * v + 1) % 2 = 1 by omega, show (2 * v + 1) / 2 = v by omega, Nat.add_comm]
    simp only [e1, e2]
    rw [fb_sm_add, ls_cnt m s]
    cases s with
    | zero =>
      rw [sm_zero (f := fun k => if pop m k + 1 = 0 then 1 else 0) (2 ^ m) (fun k _ => if_neg (by omega)), ch_m0, ch_m0]
    | succ s =>
      have : ∀ k, (if pop m k + 1 = s + 1 then 1 else 0) = if pop m k = s then 1 else 0 := fun k => by
        by_cases c : pop m k = s
        · rw [if_pos c, if_pos (by omega)]
        · rw [if_neg c, if_neg (by omega)]
      simp only [this]
      rw [ls_cnt m s, chN, Nat.add_comm]
theorem ch16 : ∀ s, s < 17 → chN 16 s ≤ 12870 := by decide +kernel
/-- how many numbers below y have s bits -/
def cSN (s y : Nat) : Nat := fb_sm (fun x => if pop 32 x = s then 1 else 0) y
theorem cS_all (s : Nat) : cSN s 65536 ≤ 12870 := by
  have e : cSN s 65536 = chN 16 s := by
    rw [← ls_cnt 16 s]
    exact fb_sm_cong (fun x hx => by rw [pop16 hx])
  rw [e]
  by_cases c : s < 17
  · exact ch16 s c
  · rw [ch_big 16 s (by omega)]; omega
theorem cS_lt {s y : Nat} (hy : y < 65536) (h : pop 32 y = s) : cSN s y < 12870 := by
  have a := fb_sm_part (fun x => if pop 32 x = s then 1 else 0) hy
  have b := cS_all s
  rw [if_pos h] at a
  unfold cSN at b ⊢
  omega
theorem cS_s {s y w : Nat} (h : pop 32 y = s) (hw : y < w) : cSN s y + 1 ≤ cSN s w := by
  have a := fb_sm_part (fun x => if pop 32 x = s then 1 else 0) hw
  rw [if_pos h] at a
  exact a
/-- how many rows of x have an odd number of bits in u; how far odd and even are apart -/
def lsO (x u : Nat) : Nat := fb_sm (fun r => (x / 2 ^ r % 2) * odN u r) 16
def lsD (x u : Nat) : Nat := ((pop 32 x : Int) - 2 * (lsO x u : Int)).natAbs
theorem odN_c (a b : Nat) : odN a b = odN b a := by unfold odN; rw [Nat.and_comm]
theorem lsO_le {x : Nat} (hx : x < 65536) (u : Nat) : lsO x u ≤ pop 32 x := by
  rw [pop16 hx]
  refine fb_sm_le (fun r _ => ?_)
  have := odN_lt u r
  have h2 : (x / 2 ^ r % 2) * odN u r ≤ (x / 2 ^ r % 2) * 1 := Nat.mul_le_mul_left _ (by omega)
  omega
theorem pop_16 {x : Nat} (hx : x < 65536) : pop 32 x ≤ 16 := by
  rw [pop16 hx]
  exact pop_le 16 x
theorem lsD_le {x : Nat} (hx : x < 65536) (u : Nat) : lsD x u ≤ 16 := by
  have a := lsO_le hx u
  have b := pop_16 hx
  unfold lsD
  omega
theorem bit_hi {x m r : Nat} (hx : x < 2 ^ m) (hr : m ≤ r) : x / 2 ^ r % 2 = 0 := by
  have l : 2 ^ m ≤ 2 ^ r := Nat.pow_le_pow_right (by decide) hr
  rw [Nat.div_eq_of_lt (by omega)]
theorem sm_cut {f : Nat → Nat} {m n : Nat} (h : m ≤ n) (hz : ∀ r, m ≤ r → f r = 0) : fb_sm f n = fb_sm f m := by
  obtain ⟨d, rfl⟩ : ∃ d, n = m + d := ⟨n - m, by omega⟩
  rw [fb_sm_split, sm_zero d (fun k _ => hz (m + k) (by omega)), Nat.add_zero]
theorem lsO_cut {x m : Nat} (hm : m ≤ 16) (hx : x < 2 ^ m) (u : Nat) : lsO x u = fb_sm (fun r => (x / 2 ^ r % 2) * odN u r) m :=
  sm_cut hm (fun r hr => by rw [bit_hi hx hr, Nat.zero_mul])
theorem pop_cut {x m : Nat} (hm : m ≤ 16) (hx : x < 2 ^ m) : pop 32 x = fb_sm (fun r => x / 2 ^ r % 2) m := by
  have l : 2 ^ m ≤ 2 ^ 16 := Nat.pow_le_pow_right (by decide) hm
  rw [pop16 (by omega)]
  exact sm_cut hm (fun r hr => bit_hi hx hr)
theorem k4 {k : Nat} (h : k ≤ 4) : 2 ^ k ≤ 16 ∧ 2 ^ 2 ^ k ≤ 65536 := by
  have a : 2 ^ k ≤ 2 ^ 4 := Nat.pow_le_pow_right (by decide) h
  have b : 2 ^ 2 ^ k ≤ 2 ^ 16 := Nat.pow_le_pow_right (by decide) a
  omega
/-- the leans of a heap, as the class looks at them -/
theorem lean4 {Sm : PS} (hS : RSm Sm) {k t L x : Nat} (hk : k ≤ 4) (ht : t ≤ 4) (hL : L ≤ 2000) (hx : x < 65536) : ∃ r, f_X4_leansSoLittle Sm (nI x) (nI (2 ^ k)) (nI t) (nI L) = some r ∧ (r = 0 ∨ r = 1) ∧ (r = 1 ↔ ∀ u, 0 < u → u < 2 ^ k → pop 32 u ≤ t → lsD x u ≤ L) := by
  have l := (k4 hk).1
  have p := Nat.two_pow_pos k
  have px := pop_16 hx
  have key : ∃ r, L_X4_leansSoLittle_9 Sm (nI x) (nI (2 ^ k)) (nI t) (nI L) (nI (pop 32 x)) FU 1 = some r ∧ ((r = 0 ∨ r = 1) ∧ (r = 1 ↔ ∀ u, 0 < u → u < 2 ^ k → pop 32 u ≤ t → lsD x u ≤ L)) := by
    unfold L_X4_leansSoLittle_9
    refine loopF_inv (fun j v => v = nI (j + 1) ∧ ∀ u, 0 < u → u < j + 1 → pop 32 u ≤ t → lsD x u ≤ L) _ (2 ^ k - 1) ?_ ?_ (2 ^ k - 1) 0 1 FU (by omega) (FU_lt (by omega)) ⟨rfl, fun u h1 h2 => by omega⟩
    · rintro j hj v ⟨k1, k2⟩
      subst k1
      have pj := pop_le 32 (j + 1)
      unfold B_X4_leansSoLittle_9
      rw [if_neg (nI_ge (by omega) (by omega)), bitCount_ok _ (by omega), b1_some]
      by_cases c : pop 32 (j + 1) ≤ t
      · rw [if_neg (nI_nlt c (by omega)), rdI_nI (by omega) (by decide), hS (j + 1) (by omega), b1_some, fa_and, bitCount_ok _ (Nat.lt_of_le_of_lt Nat.and_le_left (by omega)), b1_some, pop_om hx (by omega)]
        have o1 := lsO_le hx (j + 1)
        have e : nI (pop 32 x) - 2 * nI (fb_sm (fun b => (x / 2 ^ b % 2) * odN (j + 1) b) 16) = zI ((pop 32 x : Int) - 2 * (lsO x (j + 1) : Int)) := by
          rw [show (2 : Int32) = nI 2 from rfl, pk_mul, ← zI_nat, ← zI_nat]
          unfold zI
          rw [← Int32.ofInt_sub]
          rfl
        rw [e, abs32 (by omega) (by omega)]
        change (∃ s2, (if nI (lsD x (j + 1)) ≤ nI L then _ else _) = _ ∧ _) ∨ ∃ r, (if nI (lsD x (j + 1)) ≤ nI L then _ else _) = _ ∧ _
        have dl := lsD_le hx (j + 1)
        by_cases z : lsD x (j + 1) ≤ L
        · left
          rw [if_pos (nI_le z (by omega)), bn_rw, nI_1]
          refine ⟨_, rfl, rfl, fun u h1 h2 h3 => ?_⟩
          by_cases q : u = j + 1
          · rw [q]; exact z
          · exact k2 u h1 (by omega) h3
        · right
          rw [if_neg (nI_ge (by omega) (by omega))]
          exact ⟨0, rfl, Or.inl rfl, fun y => absurd y (by decide), fun y => absurd (y (j + 1) (by omega) (by omega) c) z⟩
      · left
        rw [if_pos (nI_lt (by omega) (by omega)), bn_rw, nI_1]
        refine ⟨_, rfl, rfl, fun u h1 h2 h3 => ?_⟩
        by_cases q : u = j + 1
        · rw [q] at h3; omega
        · exact k2 u h1 (by omega) h3
    · rintro v ⟨k1, k2⟩
      subst k1
      refine ⟨1, ?_, Or.inr rfl, fun _ u h1 h2 h3 => k2 u h1 (by omega) h3, fun _ => rfl⟩
      unfold B_X4_leansSoLittle_9
      rw [if_pos (nI_le (by omega) (by omega))]
  unfold f_X4_leansSoLittle
  rw [bitCount_ok _ (by omega), b1_some]
  exact key
def lsW (k t a b x : Nat) : Prop := ∀ u, 0 < u → u < 2 ^ k → pop 32 u ≤ t → lsD x u * b ≤ a * pop 32 x
def dlI (x u r : Nat) : Int := if x / 2 ^ r % 2 = 0 then 0 else if odN r u = 1 then 1 else -1
theorem dl_sum (x u : Nat) : ∀ m, fb_si (dlI x u) m = 2 * ((fb_sm (fun r => (x / 2 ^ r % 2) * odN u r) m : Nat) : Int) - ((fb_sm (fun r => x / 2 ^ r % 2) m : Nat) : Int)
  | 0 => rfl
  | m + 1 => by
    rw [fb_si_succ, fb_sm_succ, fb_sm_succ, dl_sum x u m]
    have h1 := odN_lt m u
    unfold dlI
    rw [odN_c u m]
    rcases (show x / 2 ^ m % 2 = 0 ∨ x / 2 ^ m % 2 = 1 by omega) with e | e
    · rw [e, if_pos rfl]; omega
    · rw [e, if_neg (by omega)]
      rcases (show odN m u = 0 ∨ odN m u = 1 by omega) with f | f
      · rw [f, if_neg (by omega)]; omega
      · rw [f, if_pos rfl]; omega
theorem wiI {k x u : Nat} (hk : k ≤ 4) (hx : x < 2 ^ 2 ^ k) (hu : u < 16) : L_X10_isWithin_26 (nI k) (nI x) (nI u) FU 0 0 = some (zI (2 * (lsO x u : Int) - (pop 32 x : Int))) := by
  have l := k4 hk
  rw [lsO_cut l.1 hx, pop_cut l.1 hx, ← dl_sum]
  unfold L_X10_isWithin_26
  refine loopF_seq0 (fun j => (zI (fb_si (dlI x u) j), nI j)) (2 ^ k) _ rfl (fun j hj => ?_) ?_ (FU_lt (by omega))
  · have pj := pop_le 32 (j &&& u)
    unfold B_X10_isWithin_26
    dsimp only
    rw [shl1 (by omega), if_neg (nI_ge hj (by omega)), bitI (by omega) (by omega), fa_and, bits10 (Nat.lt_of_le_of_lt Nat.and_le_left (by omega)), b1_some, rem2 (by omega)]
    rw [fb_si_succ, ← zI_add]
    unfold dlI
    have h1 := odN_lt j u
    rcases (show x / 2 ^ j % 2 = 0 ∨ x / 2 ^ j % 2 = 1 by omega) with e | e
    · rw [e, if_pos rfl, if_pos (show nI 0 = 0 from rfl), b1_some, bn_rw, bn_rw, nI_1]; rfl
    · rw [e, if_neg (by omega : ¬ (1 : Nat) = 0), if_neg (show ¬ nI 1 = 0 by decide)]
      rcases (show odN j u = 0 ∨ odN j u = 1 by omega) with f | f
      · rw [f, if_neg (by omega : ¬ (0 : Nat) = 1)]
        unfold odN at f
        rw [f, if_neg (show ¬ nI 0 = 1 by decide), b1_some, bn_rw, bn_rw, nI_1]; rfl
      · rw [f, if_pos rfl]
        unfold odN at f
        rw [f, if_pos (show nI 1 = 1 from rfl), b1_some, bn_rw, bn_rw, nI_1]; rfl
  · unfold B_X10_isWithin_26
    dsimp only
    rw [shl1 (by omega), if_pos (nI_le (by omega) (by omega))]
theorem within10 {k t a b x : Nat} (hk : k ≤ 4) (ht : t ≤ 4) (ha : a ≤ 100) (hb : b ≤ 100) (hx : x < 2 ^ 2 ^ k) : ∃ r, f_X10_isWithin (nI k) (nI t) (nI x) (nI (pop 32 x)) (nI a) (nI b) = some r ∧ (r = 0 ∨ r = 1) ∧ (r = 1 ↔ lsW k t a b x) := by
  have l := k4 hk
  have p := Nat.two_pow_pos k
  have px := pop_16 (x := x) (by omega)
  have key : ∃ r, L_X10_isWithin_3 (nI k) (nI t) (nI x) (nI (pop 32 x)) (nI a) (nI b) FU 1 = some r ∧ ((r = 0 ∨ r = 1) ∧ (r = 1 ↔ lsW k t a b x)) := by
    unfold L_X10_isWithin_3
    refine loopF_inv (fun j v => v = nI (j + 1) ∧ ∀ u, 0 < u → u < j + 1 → pop 32 u ≤ t → lsD x u * b ≤ a * pop 32 x) _ (2 ^ k - 1) ?_ ?_ (2 ^ k - 1) 0 1 FU (by omega) (FU_lt (by omega)) ⟨rfl, fun u h1 h2 => by omega⟩
    · rintro j hj v ⟨k1, k2⟩
      subst k1
      have pj := pop_le 32 (j + 1)
      unfold B_X10_isWithin_3
      rw [shl1 (by omega), if_neg (nI_ge (by omega) (by omega)), bits10 (by omega), b1_some]
      by_cases c : pop 32 (j + 1) ≤ t
      · have o1 := lsO_le (x := x) (by omega) (j + 1)
        have ab : (if 0 ≤ zI (2 * (lsO x (j + 1) : Int) - (pop 32 x : Int)) then some (zI (2 * (lsO x (j + 1) : Int) - (pop 32 x : Int))) else some (-zI (2 * (lsO x (j + 1) : Int) - (pop 32 x : Int)))) = some (nI (lsD x (j + 1))) := by
          have hd : lsD x (j + 1) = (2 * (lsO x (j + 1) : Int) - (pop 32 x : Int)).natAbs := by unfold lsD; omega
          rw [hd]
          by_cases z : 0 ≤ 2 * (lsO x (j + 1) : Int) - (pop 32 x : Int)
          · rw [if_pos (by rw [geL _ 0 0 rfl, zI_toInt (by omega) (by omega)]; exact z), ← zI_nat]
            congr 2
            omega
          · rw [if_neg (by rw [geL _ 0 0 rfl, zI_toInt (by omega) (by omega)]; exact z), zI_neg, ← zI_nat]
            congr 2
            omega
        rw [if_neg (nI_nlt c (by omega)), wiI hk hx (by omega), b1_some, ab, b1_some, pk_mul, pk_mul]
        have dl := lsD_le (x := x) (by omega) (j + 1)
        have m1 : lsD x (j + 1) * b ≤ 16 * 100 := Nat.mul_le_mul dl hb
        have m2 : a * pop 32 x ≤ 100 * 16 := Nat.mul_le_mul ha px
        by_cases z : lsD x (j + 1) * b ≤ a * pop 32 x
        · left
          rw [if_pos (nI_le z (by omega)), bn_rw, nI_1]
          refine ⟨_, rfl, rfl, fun u h1 h2 h3 => ?_⟩
          by_cases q : u = j + 1
          · rw [q]; exact z
          · exact k2 u h1 (by omega) h3
        · right
          rw [if_neg (nI_ge (by omega) (by omega))]
          exact ⟨0, rfl, Or.inl rfl, fun y => absurd y (by decide), fun y => absurd (y (j + 1) (by omega) (by omega) c) z⟩
      · left
        rw [if_pos (nI_lt (by omega) (by omega)), bn_rw, nI_1]
        refine ⟨_, rfl, rfl, fun u h1 h2 h3 => ?_⟩
        by_cases q : u = j + 1
        · rw [q] at h3; omega
        · exact k2 u h1 (by omega) h3
    · rintro v ⟨k1, k2⟩
      subst k1
      refine ⟨1, ?_, Or.inr rfl, fun _ u h1 h2 h3 => k2 u h1 (by omega) h3, fun _ => rfl⟩
      unfold B_X10_isWithin_3
      rw [shl1 (by omega), if_pos (nI_le (by omega) (by omega))]
  exact key
