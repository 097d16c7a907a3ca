/-! lowest terms -/
def lowN (a b p : Nat) : Nat := if p = 0 then a / Nat.gcd a b else b / Nat.gcd a b
theorem eu_step {c r : Nat} (h : r < c) (h0 : 0 < r) : 2 * (r * (c % r)) ≤ c * r := by
  have h1 : c % r < r := Nat.mod_lt _ h0
  have h2 : 2 * (c % r) ≤ c := by
    have := Nat.div_add_mod c r
    have h3 : 1 ≤ c / r := (Nat.one_le_div_iff h0).mpr (by omega)
    have h4 : r * 1 ≤ r * (c / r) := Nat.mul_le_mul_left r h3
    omega
  have h5 : r * (2 * (c % r)) ≤ r * c := Nat.mul_le_mul_left r h2
  have h6 : r * (2 * (c % r)) = 2 * (r * (c % r)) := Nat.mul_left_comm r 2 (c % r)
  have h7 : r * c = c * r := Nat.mul_comm r c
  omega
/-- Euclid's steps: behind i of them -/
def EU (a b i c r : Nat) : Prop := 0 < c ∧ c < 2 ^ 31 ∧ r < 2 ^ 31 ∧ Nat.gcd c r = Nat.gcd a b ∧ (i = 0 ∨ (r < c ∧ c * r * 2 ^ (i - 1) ≤ 2 ^ 62))
theorem EU_0 {a b : Nat} (hb : 0 < b) (ha : a < 2 ^ 31) (hb2 : b < 2 ^ 31) : EU a b 0 b a := ⟨hb, hb2, ha, Nat.gcd_comm b a, Or.inl rfl⟩
theorem EU_s {a b i c r : Nat} (h : EU a b i c r) (hr : 0 < r) : EU a b (i + 1) r (c % r) := by
  obtain ⟨h1, h2, h3, h4, h5⟩ := h
  have hm : c % r < r := Nat.mod_lt _ hr
  refine ⟨hr, h3, by omega, by rw [← h4, Nat.gcd_comm c r, Nat.gcd_rec r c, Nat.gcd_comm], Or.inr ⟨hm, ?_⟩⟩
  have big : r * (c % r) * 2 ^ 0 ≤ 2 ^ 62 := by
    have : r * (c % r) ≤ 2 ^ 31 * 2 ^ 31 := Nat.mul_le_mul (by omega) (by omega)
    omega
  rcases h5 with rfl | ⟨h6, h7⟩
  · exact big
  · cases i with
    | zero => exact big
    | succ i =>
      have e := eu_step h6 hr
      have e2 : 2 * (r * (c % r)) * 2 ^ i ≤ c * r * 2 ^ i := Nat.mul_le_mul_right _ e
      have e3 : r * (c % r) * 2 ^ (i + 1) = 2 * (r * (c % r)) * 2 ^ i := by rw [Nat.pow_succ, Nat.mul_comm (2 ^ i) 2, ← Nat.mul_assoc, Nat.mul_comm (r * (c % r)) 2]
      show r * (c % r) * 2 ^ (i + 1) ≤ 2 ^ 62
      rw [e3]
      exact Nat.le_trans e2 h7
theorem EU_x {a b i c r : Nat} (h : EU a b i c r) (hi : 65 ≤ i) : r = 0 := by
  obtain ⟨h1, h2, h3, h4, h5⟩ := h
  rcases h5 with rfl | ⟨h6, h7⟩
  · omega
  · have e : 2 ^ 64 ≤ 2 ^ (i - 1) := Nat.pow_le_pow_right (by decide) (by omega)
    have e2 : c * r * 2 ^ 64 ≤ c * r * 2 ^ (i - 1) := Nat.mul_le_mul_left _ e
    have e3 : c * r = 0 := by
      rcases Nat.eq_zero_or_pos (c * r) with z | z
      · exact z
      · have : 1 * 2 ^ 64 ≤ c * r * 2 ^ 64 := Nat.mul_le_mul_right _ z
        omega
    rcases Nat.mul_eq_zero.mp e3 with z | z
    · omega
    · exact z
theorem gcd9 {a b : Nat} (hb : 0 < b) (ha : a < 2 ^ 31) (hb2 : b < 2 ^ 31) : L_X9_lowest_8 FU (nI b) (nI a) 0 = some (nI (Nat.gcd a b)) := by
  unfold L_X9_lowest_8
  have key : ∃ r, loopF (fun x : Int32 × Int32 × Int32 => B_X9_lowest_8 x.1 x.2.1 x.2.2) FU (nI b, nI a, 0) = some r ∧ r = nI (Nat.gcd a b) := by
   refine loopF_inv (B := fun x : Int32 × Int32 × Int32 => B_X9_lowest_8 x.1 x.2.1 x.2.2) (fun i x => ∃ c r, x = (nI c, nI r, nI i) ∧ EU a b i c r) (fun q => q = nI (Nat.gcd a b)) 100 ?_ ?_ 100 0 (nI b, nI a, 0) FU (by omega) (FU_lt (by decide)) ⟨b, a, rfl, EU_0 hb ha hb2⟩
   · rintro i hi x ⟨c, r, rfl, hE⟩
     obtain ⟨k1, k2, k3, k4, -⟩ := id hE
     unfold B_X9_lowest_8
     dsimp only
     rw [if_neg (show ¬ (100 : Int32) ≤ nI i from nI_ge hi (by decide))]
     by_cases hr : r = 0
     · subst hr
       rw [if_pos nI_0]
       right
       exact ⟨_, rfl, by rw [← k4, Nat.gcd_zero_right]⟩
     · rw [if_neg (nI_ne0 (by omega) k3)]
       left
       refine ⟨(nI r, nI (c % r), nI (i + 1)), ?_, r, c % r, rfl, EU_s hE (by omega)⟩
       have e : rmI (nI c) (nI r) = some (nI (c % r)) := by
         unfold rmI
         rw [if_neg (nI_ne0 (by omega) k3), pk_rem k2 (by omega) k3]
       rw [e]
       simp only [b1_some, bn, nI_1]
   · rintro x ⟨c, r, rfl, hE⟩
     have hr := EU_x hE (by decide)
     subst hr
     obtain ⟨k1, k2, k3, k4, -⟩ := id hE
     unfold B_X9_lowest_8
     dsimp only
     rw [if_pos (show (100 : Int32) ≤ nI 100 from nI_le (Nat.le_refl 100) (by decide))]
     exact ⟨_, rfl, by rw [← k4, Nat.gcd_zero_right]⟩
  obtain ⟨r, h1, h2⟩ := key
  rw [h1, h2]
theorem lN0 : lN 0 = 0 := rfl
theorem gcd10 {a b : Nat} (hb : 0 < b) (ha : a < 2 ^ 31) (hb2 : b < 2 ^ 31) : L_X10_divisor_6 FU (lN a) (lN b) = some (lN (Nat.gcd a b)) := by
  unfold L_X10_divisor_6
  have first : B_X10_divisor_6 (lN a) (lN b) = some (.inl (lN b, lN (a % b))) := by
    unfold B_X10_divisor_6
    have hne : ¬ lN b = 0 := fun z => by have := (pk_lEQ (b := 0) (by omega) (by decide)).mp z; omega
    rw [if_neg (fun z => hne ((cmp_eq _ _).mp z))]
    unfold rmL
    rw [if_neg hne, pk_lRem (by omega) hb (by omega)]
    rfl
  have hE1 : EU a b 1 b (a % b) := by
    have hm : a % b < b := Nat.mod_lt _ hb
    refine ⟨hb, hb2, by omega, by rw [Nat.gcd_comm a b, Nat.gcd_rec b a, Nat.gcd_comm], Or.inr ⟨hm, ?_⟩⟩
    have : b * (a % b) ≤ 2 ^ 31 * 2 ^ 31 := Nat.mul_le_mul (by omega) (by omega)
    show b * (a % b) * 2 ^ 0 ≤ 2 ^ 62
    omega
  show loopF _ (99999 + 1) _ = _
  rw [loopF_in (s2 := (lN b, lN (a % b))) first]
  have key : ∃ r, loopF (fun x : Int64 × Int64 => B_X10_divisor_6 x.1 x.2) 99999 (lN b, lN (a % b)) = some r ∧ r = lN (Nat.gcd a b) := by
   refine loopF_inv (B := fun x : Int64 × Int64 => B_X10_divisor_6 x.1 x.2) (fun i x => ∃ c r, x = (lN c, lN r) ∧ EU a b (i + 1) c r) (fun q => q = lN (Nat.gcd a b)) 100 ?_ ?_ 100 0 (lN b, lN (a % b)) 99999 (by omega) (by decide) ⟨b, a % b, rfl, hE1⟩
   · rintro i hi x ⟨c, r, rfl, hE⟩
     obtain ⟨k1, k2, k3, k4, -⟩ := id hE
     unfold B_X10_divisor_6
     dsimp only
     by_cases hr : r = 0
     · subst hr
       rw [if_pos ((cmp_eq _ _).mpr lN0)]
       right
       exact ⟨_, rfl, by rw [← k4, Nat.gcd_zero_right]⟩
     · have hne : ¬ lN r = 0 := fun z => by have := (pk_lEQ (b := 0) (by omega) (by decide)).mp z; omega
       rw [if_neg (fun z => hne ((cmp_eq _ _).mp z))]
       left
       refine ⟨(lN r, lN (c % r)), ?_, r, c % r, rfl, EU_s hE (by omega)⟩
       unfold rmL
       rw [if_neg hne, pk_lRem (by omega) (by omega) (by omega)]
       rfl
   · rintro x ⟨c, r, rfl, hE⟩
     have hr := EU_x hE (by decide)
     subst hr
     obtain ⟨k1, k2, k3, k4, -⟩ := id hE
     unfold B_X10_divisor_6
     dsimp only
     rw [if_pos ((cmp_eq _ _).mpr lN0)]
     exact ⟨_, rfl, by rw [← k4, Nat.gcd_zero_right]⟩
  obtain ⟨r, h1, h2⟩ := key
  rw [h1, h2]
theorem low9 {a b p : Nat} (hb : 0 < b) (ha : a < 2 ^ 31) (hb2 : b < 2 ^ 31) (hp : p ≤ 1) : f_X9_lowest (nI a) (nI b) (nI p) = some (nI (lowN a b p)) := by
  have hg : 0 < Nat.gcd a b := Nat.gcd_pos_of_pos_right a hb
  have hg2 : Nat.gcd a b ≤ b := Nat.le_of_dvd hb (Nat.gcd_dvd_right a b)
  unfold f_X9_lowest lowN
  rw [gcd9 hb ha hb2]
  simp only [b1_some]
  have hne : ¬ nI (Nat.gcd a b) = 0 := nI_ne0 hg (by omega)
  rw [if_neg hne]
  unfold dvI
  rw [if_neg hne, if_neg hne, pk_div ha hg (by omega), pk_div hb2 hg (by omega)]
  by_cases h0 : p = 0
  · subst h0; rw [if_pos nI_0, if_pos rfl]; rfl
  · rw [if_neg (nI_ne0 (by omega) (by omega)), if_neg h0]; rfl
theorem part_ok {a b p : Nat} (hb : 0 < b) (ha : a < 2 ^ 31) (hb2 : b < 2 ^ 31) (hp : p ≤ 1) : f_X10_partOf (lN a) (lN b) (nI p) = some (nI (lowN a b p)) := by
  have hg : 0 < Nat.gcd a b := Nat.gcd_pos_of_pos_right a hb
  have hg2 : Nat.gcd a b ≤ b := Nat.le_of_dvd hb (Nat.gcd_dvd_right a b)
  unfold f_X10_partOf f_X10_divisor lowN
  rw [gcd10 hb ha hb2]
  simp only [b1_some]
  have hne : ¬ lN (Nat.gcd a b) = 0 := fun z => by have := (pk_lEQ (b := 0) (by omega) (by decide)).mp z; omega
  unfold dvL
  rw [if_neg hne, if_neg hne, pk_lDiv (by omega) hg (by omega), pk_lDiv (by omega) hg (by omega)]
  by_cases h0 : p = 0
  · subst h0; rw [if_pos nI_0, if_pos rfl]; simp only [b1_some, lN_i]
  · rw [if_neg (nI_ne0 (by omega) (by omega)), if_neg h0]; simp only [b1_some, lN_i]
theorem low_eq {a b c d : Nat} (hb : 0 < b) (hd : 0 < d) (h : a * d = c * b) (p : Nat) : lowN a b p = lowN c d p := by
  have g1 : 0 < Nat.gcd a b := Nat.gcd_pos_of_pos_right a hb
  have g2 : 0 < Nat.gcd c d := Nat.gcd_pos_of_pos_right c hd
  obtain ⟨x, hx⟩ := Nat.gcd_dvd_left a b
  obtain ⟨y, hy⟩ := Nat.gcd_dvd_right a b
  obtain ⟨z, hz⟩ := Nat.gcd_dvd_left c d
  obtain ⟨w, hw⟩ := Nat.gcd_dvd_right c d
  have c1 := Nat.coprime_div_gcd_div_gcd (m := a) (n := b) g1
  have c2 := Nat.coprime_div_gcd_div_gcd (m := c) (n := d) g2
  have ex : a / Nat.gcd a b = x := Nat.div_eq_of_eq_mul_right g1 hx
  have ey : b / Nat.gcd a b = y := Nat.div_eq_of_eq_mul_right g1 hy
  have ez : c / Nat.gcd c d = z := Nat.div_eq_of_eq_mul_right g2 hz
  have ew : d / Nat.gcd c d = w := Nat.div_eq_of_eq_mul_right g2 hw
  rw [ex, ey] at c1
  rw [ez, ew] at c2
  have key : x * w = z * y := by
    have h1 : (Nat.gcd a b * Nat.gcd c d) * (x * w) = (Nat.gcd a b * Nat.gcd c d) * (z * y) := by
      have e1 : (Nat.gcd a b * Nat.gcd c d) * (x * w) = (Nat.gcd a b * x) * (Nat.gcd c d * w) := Nat.mul_mul_mul_comm _ _ _ _
      have e2 : (Nat.gcd a b * Nat.gcd c d) * (z * y) = (Nat.gcd c d * z) * (Nat.gcd a b * y) := by
        rw [Nat.mul_comm (Nat.gcd a b) (Nat.gcd c d)]; exact Nat.mul_mul_mul_comm _ _ _ _
      rw [e1, e2, ← hx, ← hy, ← hz, ← hw]
      exact h
    exact Nat.eq_of_mul_eq_mul_left (Nat.mul_pos g1 g2) h1
  have hyx : x ∣ z := c1.dvd_of_dvd_mul_right ⟨w, by rw [← key]⟩
  have hzx : z ∣ x := c2.dvd_of_dvd_mul_right ⟨y, by rw [key]⟩
  have e1 : x = z := Nat.dvd_antisymm hyx hzx
  have hyw : y ∣ w := c1.symm.dvd_of_dvd_mul_left ⟨z, by rw [key, Nat.mul_comm]⟩
  have hwy : w ∣ y := c2.symm.dvd_of_dvd_mul_left ⟨x, by rw [← key, Nat.mul_comm]⟩
  have e2 : y = w := Nat.dvd_antisymm hyw hwy
  unfold lowN
  rw [ex, ey, ez, ew, e1, e2]
