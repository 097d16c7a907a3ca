/-! sums at points -/
def oI (z : Int) : Int64 := Int64.ofInt z
theorem oI_add (a b : Int) : oI a + oI b = oI (a + b) := (Int64.ofInt_add a b).symm
theorem oI_mul (a b : Int) : oI a * oI b = oI (a * b) := (Int64.ofInt_mul a b).symm
theorem oI_sub (a b : Int) : oI a - oI b = oI (a - b) := (Int64.ofInt_sub a b).symm
theorem oI_nat {n : Nat} (h : n < 2 ^ 31) : (nI n).toInt64 = oI n := by
  rw [← zI_nat, zI_64 (by omega) (by omega)]; rfl
def pI (m : Nat) (g : Nat → Int) (a : Int) (i : Nat) : Int := ((g (3 * m + i) * a + g (2 * m + i)) * a + g (m + i)) * a + g i
def HZ (c : Nat → Int) (X Y Z : Int) : Int := pI 1 (pI 4 (pI 16 c X) Y) Z 0
theorem pI_cong {m i : Nat} {g g' : Nat → Int} {a : Int} (h : ∀ j, j < 4 * m → g j = g' j) (hi : i < m) : pI m g a i = pI m g' a i := by
  unfold pI
  rw [h _ (by omega), h _ (by omega), h _ (by omega), h i (by omega)]
theorem pI_add (m : Nat) (f g : Nat → Int) (a : Int) (i : Nat) : pI m (fun p => f p + g p) a i = pI m f a i + pI m g a i := by
  unfold pI
  simp only [Int.add_mul]
  omega
theorem pI_sub (m : Nat) (f g : Nat → Int) (a : Int) (i : Nat) : pI m (fun p => f p - g p) a i = pI m f a i - pI m g a i := by
  unfold pI
  simp only [Int.add_mul, Int.sub_mul]
  omega
theorem pI_one {m x r i : Nat} (v a : Int) (hx : x < 4) (hr : r < m) (hi : i < m) : pI m (fun p => if m * x + r = p then v else 0) a i = if r = i then v * a ^ x else 0 := by
  unfold pI
  dsimp only
  by_cases e : r = i
  · subst e
    rw [if_pos (show r = r from rfl)]
    match x, hx with
    | 0, _ => rw [if_neg (show ¬ m * 0 + r = 3 * m + r by omega), if_neg (show ¬ m * 0 + r = 2 * m + r by omega), if_neg (show ¬ m * 0 + r = m + r by omega), if_pos (show m * 0 + r = r by omega)]; simp [Int.pow_succ, Int.mul_assoc]
    | 1, _ => rw [if_neg (show ¬ m * 1 + r = 3 * m + r by omega), if_neg (show ¬ m * 1 + r = 2 * m + r by omega), if_pos (show m * 1 + r = m + r by omega), if_neg (show ¬ m * 1 + r = r by omega)]; simp [Int.pow_succ, Int.mul_assoc]
    | 2, _ => rw [if_neg (show ¬ m * 2 + r = 3 * m + r by omega), if_pos (show m * 2 + r = 2 * m + r by omega), if_neg (show ¬ m * 2 + r = m + r by omega), if_neg (show ¬ m * 2 + r = r by omega)]; simp [Int.pow_succ, Int.mul_assoc]
    | 3, _ => rw [if_pos (show m * 3 + r = 3 * m + r by omega), if_neg (show ¬ m * 3 + r = 2 * m + r by omega), if_neg (show ¬ m * 3 + r = m + r by omega), if_neg (show ¬ m * 3 + r = r by omega)]; simp [Int.pow_succ, Int.mul_assoc]
  · rw [if_neg (show ¬ r = i from e)]
    match x, hx with
    | 0, _ => rw [if_neg (show ¬ m * 0 + r = 3 * m + i by omega), if_neg (show ¬ m * 0 + r = 2 * m + i by omega), if_neg (show ¬ m * 0 + r = m + i by omega), if_neg (show ¬ m * 0 + r = i by omega)]; simp
    | 1, _ => rw [if_neg (show ¬ m * 1 + r = 3 * m + i by omega), if_neg (show ¬ m * 1 + r = 2 * m + i by omega), if_neg (show ¬ m * 1 + r = m + i by omega), if_neg (show ¬ m * 1 + r = i by omega)]; simp
    | 2, _ => rw [if_neg (show ¬ m * 2 + r = 3 * m + i by omega), if_neg (show ¬ m * 2 + r = 2 * m + i by omega), if_neg (show ¬ m * 2 + r = m + i by omega), if_neg (show ¬ m * 2 + r = i by omega)]; simp
    | 3, _ => rw [if_neg (show ¬ m * 3 + r = 3 * m + i by omega), if_neg (show ¬ m * 3 + r = 2 * m + i by omega), if_neg (show ¬ m * 3 + r = m + i by omega), if_neg (show ¬ m * 3 + r = i by omega)]; simp
theorem HZ_cong {f g : Nat → Int} (h : ∀ p, p < 64 → f p = g p) (X Y Z : Int) : HZ f X Y Z = HZ g X Y Z := by
  unfold HZ
  exact pI_cong (fun j hj => pI_cong (fun k hk => pI_cong h (by omega)) (by omega)) (by decide)
theorem HZ_add (f g : Nat → Int) (X Y Z : Int) : HZ (fun p => f p + g p) X Y Z = HZ f X Y Z + HZ g X Y Z := by
  unfold HZ
  rw [← pI_add]
  exact pI_cong (fun j hj => by rw [← pI_add]; exact pI_cong (fun k hk => pI_add _ _ _ _ _) (by omega)) (by decide)
theorem HZ_sub (f g : Nat → Int) (X Y Z : Int) : HZ (fun p => f p - g p) X Y Z = HZ f X Y Z - HZ g X Y Z := by
  unfold HZ
  rw [← pI_sub]
  exact pI_cong (fun j hj => by rw [← pI_sub]; exact pI_cong (fun k hk => pI_sub _ _ _ _ _) (by omega)) (by decide)
theorem HZ_one {x y z : Nat} (v X Y Z : Int) (hx : x < 4) (hy : y < 4) (hz : z < 4) : HZ (fun p => if 16 * x + 4 * y + z = p then v else 0) X Y Z = v * X ^ x * Y ^ y * Z ^ z := by
  unfold HZ
  rw [pI_cong (g' := fun i => if 1 * z + 0 = i then v * X ^ x * Y ^ y else 0) (fun j hj => ?_) (by decide), pI_one _ _ hz (by decide) (by decide), if_pos rfl]
  rw [pI_cong (g' := fun i => if 4 * y + z = i then v * X ^ x else 0) (fun k hk => ?_) (by omega), pI_one _ _ hy (by omega) (by omega), show 1 * z + 0 = z by omega]
  rw [pI_cong (g' := fun i => if 16 * x + (4 * y + z) = i then v else 0) (fun l hl => by rw [Nat.add_assoc]) (by omega), pI_one _ _ hx (by omega) (by omega)]
theorem HZ_zero (X Y Z : Int) : HZ (fun _ => 0) X Y Z = 0 := by
  unfold HZ pI
  simp
def tmv (w : Nat → Int) (x y z : Nat → Nat) (X Y Z : Int) (k : Nat) : Int := w k * X ^ x k * Y ^ y k * Z ^ z k
theorem HZ_sum {w : Nat → Int} {x y z : Nat → Nat} (X Y Z : Int) : ∀ t, (∀ k, k < t → x k < 4 ∧ y k < 4 ∧ z k < 4) → HZ (cf w (plc x y z) t) X Y Z = fb_si (tmv w x y z X Y Z) t := by
  intro t
  induction t with
  | zero => intro _; exact HZ_zero X Y Z
  | succ t ih =>
    intro h
    rw [fb_si_succ, ← ih (fun k hk => h k (by omega))]
    obtain ⟨a, b, c⟩ := h t (by omega)
    unfold tmv
    rw [← HZ_one _ _ _ _ a b c, ← HZ_add]
    exact HZ_cong (fun p hp => rfl) _ _ _
theorem putIn_ok {m a : Nat} (hm : m ≤ 16) (ha : a < 2 ^ 31) {g1 g2 : Nat → Int64} {c : Nat → Int} (h : ∀ p, p < 4 * m → g1 p = oI (c p)) : ∃ f, f_X1_putIn (4 * m) g1 m g2 (nI a) = some f ∧ ∀ i, i < m → f i = oI (pI m c a i) := by
  have key : ∃ f, L_X1_putIn_15 (4 * m) g1 m (nI a) (nI m) FU 0 g2 = some f ∧ ∀ i, i < m → f i = oI (pI m c a i) := by
    unfold L_X1_putIn_15
    refine loopF_inv (fun i x => x.1 = nI i ∧ ∀ j, j < i → x.2 j = oI (pI m c a j)) _ m ?_ ?_ m 0 (0, g2) FU (by omega) (FU_lt (by omega)) ⟨rfl, fun j hj => by omega⟩
    · rintro i hi ⟨v, U⟩ ⟨k1, k2⟩
      dsimp only at k1 k2
      subst k1
      left
      have e3 : (3 : Int32) * nI m + nI i = nI (3 * m + i) := by rw [show (3 : Int32) = nI 3 from rfl, pk_mul, nI_add]
      have e2 : (2 : Int32) * nI m + nI i = nI (2 * m + i) := by rw [show (2 : Int32) = nI 2 from rfl, pk_mul, nI_add]
      refine ⟨(nI (i + 1), vp_updL U i (oI (pI m c a i))), ?_, rfl, fun j hj => ?_⟩
      · unfold B_X1_putIn_15
        dsimp only
        rw [if_neg (nI_ge hi (by omega)), e3, e2, nI_add, rdL_nI (by omega) (by omega), rdL_nI (by omega) (by omega), rdL_nI (by omega) (by omega), rdL_nI (by omega) (by omega)]
        simp only [b1_some, bn]
        rw [wrL_nI hi (by omega), h _ (by omega), h _ (by omega), h _ (by omega), h i (by omega), oI_nat ha]
        simp only [b1_some, nI_1, oI_mul, oI_add]
        rfl
      · show vp_updL U i (oI (pI m c a i)) j = _
        rw [vp_s]
        by_cases e : j = i
        · rw [if_pos e, e]
        · rw [if_neg e]; exact k2 j (by omega)
    · rintro ⟨v, U⟩ ⟨k1, k2⟩
      dsimp only at k1 k2
      subst k1
      refine ⟨U, ?_, k2⟩
      unfold B_X1_putIn_15
      dsimp only
      rw [if_pos (nI_le (Nat.le_refl m) (by omega))]
  obtain ⟨f, h1, h2⟩ := key
  refine ⟨f, ?_, h2⟩
  unfold f_X1_putIn
  simp only [bn]
  rw [show (4 : Int32) = nI 4 from rfl, show Int32.ofNat m = nI m from rfl, show Int32.ofNat (4 * m) = nI (4 * m) from rfl, pk_mul, if_pos (nI_le (Nat.le_refl _) (by omega)), h1]
  rfl
theorem valueAt_ok {Pt F : PS} {c : Nat → Int} {X Y Z : Nat} (hX : X < 2 ^ 31) (hY : Y < 2 ^ 31) (hZ : Z < 2 ^ 31) (h : ∀ p, p < 64 → F.2.2 0 p = oI (c p)) : ∃ Pt', f_X1_valueAt Pt F (nI X) (nI Y) (nI Z) = some (oI (HZ c X Y Z), Pt') := by
  unfold f_X1_valueAt
  obtain ⟨f1, a1, b1'⟩ := putIn_ok (m := 16) (g2 := Pt.2.2 1) (by decide) hX h
  rw [a1]
  simp only [b1_some, bn]
  obtain ⟨f2, a2, b2'⟩ := putIn_ok (m := 4) (a := Y) (g1 := f1) (g2 := Pt.2.2 2) (c := pI 16 c X) (by decide) hY (fun p hp => b1' p (by omega))
  rw [show (sL Pt 1 f1).2.2 1 = f1 from rfl, show (sL Pt 1 f1).2.2 2 = Pt.2.2 2 from rfl, a2]
  simp only [b1_some]
  obtain ⟨f3, a3, b3'⟩ := putIn_ok (m := 1) (a := Z) (g1 := f2) (g2 := Pt.2.2 3) (c := pI 4 (pI 16 c X) Y) (by decide) hZ (fun p hp => b2' p (by omega))
  rw [show (sL (sL Pt 1 f1) 2 f2).2.2 2 = f2 from rfl, show (sL (sL Pt 1 f1) 2 f2).2.2 3 = Pt.2.2 3 from rfl, a3]
  simp only [b1_some]
  rw [show (sL (sL (sL Pt 1 f1) 2 f2) 3 f3).2.2 3 = f3 from rfl, show (0 : Int32) = nI 0 from rfl, rdL_nI (by decide) (by decide)]
  simp only [b1_some]
  rw [b3' 0 (by decide)]
  exact ⟨_, rfl⟩
theorem power10 (B : Int) {x : Nat} (hx : x < 4) : f_X10_power (oI B) (nI x) = some (oI (B ^ x)) := by
  unfold f_X10_power
  have key : L_X10_power_5 (oI B) (nI x) FU 1 0 = some (oI (B ^ x)) := by
    unfold L_X10_power_5
    refine loopF_seq0 (fun i => (oI (B ^ i), nI i)) x _ (by rw [Int.pow_zero]; rfl) (fun i hi => ?_) ?_ (FU_lt (by omega))
    · unfold B_X10_power_5
      dsimp only
      rw [if_neg (nI_ge hi (by omega))]
      simp only [bn, nI_1, oI_mul, Int.pow_succ]
    · unfold B_X10_power_5
      dsimp only
      rw [if_pos (nI_le (Nat.le_refl _) (by omega))]
  rw [key]; rfl
theorem valueOf_ok {j : Nat} {F M : PS} {t w x y z} (hj : j ≤ 1) (h : SM j F M t w x y z) {X Y Z : Nat} (hX : X < 2 ^ 31) (hY : Y < 2 ^ 31) (hZ : Z < 2 ^ 31) : f_X10_valueOf M (nI j) (nI X) (nI Y) (nI Z) = some (oI (HZ (cf w (plc x y z) t) X Y Z)) := by
  obtain ⟨a1, a2, a3, a4, a5, a6⟩ := h
  rw [HZ_sum X Y Z t (fun k hk => (a5 k hk).2.2)]
  have e6 : (6 : Int32) * nI j = nI (6 * j) := by rw [show (6 : Int32) = nI 6 from rfl, pk_mul]
  have key : L_X10_valueOf_9 M (nI j) (nI X) (nI Y) (nI Z) FU 0 (nI (6 * j)) = some (oI (fb_si (tmv w x y z X Y Z) t)) := by
    unfold L_X10_valueOf_9
    refine loopF_seq0 (fun i => (oI (fb_si (tmv w x y z X Y Z) i), nI (6 * j + i))) t _ rfl (fun i hi => ?_) ?_ (FU_lt (by omega))
    · obtain ⟨b1', b2', b3', b4'⟩ := a4 i hi
      obtain ⟨c1, c2, c3, c4, c5⟩ := a5 i hi
      unfold B_X10_valueOf_9
      dsimp only
      rw [rdI_nI (show j < 2 by omega) (by decide), a3]
      simp only [b1_some]
      rw [e6, nI_add, if_neg (nI_ge (by omega) (by omega)), rdI_nI (show 6 * j + i < 12 by omega) (by decide), rdI_nI (show 6 * j + i < 12 by omega) (by decide), rdI_nI (show 6 * j + i < 12 by omega) (by decide), rdI_nI (show 6 * j + i < 12 by omega) (by decide), b1', b2', b3', b4']
      simp only [b1_some]
      rw [oI_nat hX, oI_nat hY, oI_nat hZ, power10 _ c3, power10 _ c4, power10 _ c5, zI_64 (by omega) (by omega)]
      simp only [b1_some, bn, nI_1]
      rw [show Int64.ofInt (w i) = oI (w i) from rfl, oI_mul, oI_mul, oI_mul, oI_add]
      rfl
    · unfold B_X10_valueOf_9
      dsimp only
      rw [rdI_nI (show j < 2 by omega) (by decide), a3]
      simp only [b1_some]
      rw [e6, nI_add, if_pos (nI_le (by omega) (by omega))]
  unfold f_X10_valueOf
  simp only [bn]
  rw [e6, key]; rfl
theorem g_value {F1 F2 M : PS} (Pt : PS) (h1 : RSum 0 F1 M) (h2 : RSum 1 F2 M) (p1 p2 p3 p4 : Int32) : ∃ (r : Int64) (Pt' : PS), f_X9_value F1 F2 Pt p1 p2 p3 p4 = some (r, Pt') ∧ f_X10_value M p1 p2 p3 p4 = some r := by
  unfold f_X9_value f_X10_value
  rw [choice_ok, isSum_ok, place_ok, place_ok, place_ok, three_ok p2 p3 p4 11 (N := 12) rfl]
  simp only [b1_some]
  by_cases c1 : 0 ≤ p1.toInt ∧ p1.toInt ≤ 1
  · rw [if_pos c1, if_neg one_ne0, if_neg one_ne0]
    by_cases T3 : (0 ≤ p2.toInt ∧ p2.toInt < 12) ∧ (0 ≤ p3.toInt ∧ p3.toInt < 12) ∧ (0 ≤ p4.toInt ∧ p4.toInt < 12)
    · rw [if_pos T3, if_pos T3.1, if_pos T3.2.1, if_pos T3.2.2, if_neg one_ne0, if_neg one_ne0, if_neg one_ne0, if_neg one_ne0]
      obtain ⟨a, ha, rfl⟩ := nI_four (N := 12) T3.1
      obtain ⟨b, hb, rfl⟩ := nI_four (N := 12) T3.2.1
      obtain ⟨c, hc, rfl⟩ := nI_four (N := 12) T3.2.2
      obtain ⟨j, hj, rfl⟩ := nI_four (N := 2) (x := p1) (by omega)
      have hj2 : j = 0 ∨ j = 1 := by omega
      rcases hj2 with rfl | rfl
      · rw [if_pos (show nI 0 = 0 from rfl)]
        obtain ⟨t, w, x, y, z, hS⟩ := h1
        obtain ⟨Pt', e⟩ := valueAt_ok (Pt := Pt) (X := a) (Y := b) (Z := c) (by omega) (by omega) (by omega) hS.2.2.2.2.2
        rw [valueOf_ok (by decide) hS (by omega) (by omega) (by omega), e]
        exact ⟨_, _, rfl, rfl⟩
      · rw [if_neg (show ¬ nI 1 = 0 from one_ne0)]
        obtain ⟨t, w, x, y, z, hS⟩ := h2
        obtain ⟨Pt', e⟩ := valueAt_ok (Pt := Pt) (X := a) (Y := b) (Z := c) (by omega) (by omega) (by omega) hS.2.2.2.2.2
        rw [valueOf_ok (by decide) hS (by omega) (by omega) (by omega), e]
        exact ⟨_, _, rfl, rfl⟩
    · rw [if_neg T3, if_pos (show (0 : Int32) = 0 from rfl)]
      refine ⟨_, Pt, ?_, rfl⟩
      by_cases c2 : 0 ≤ p2.toInt ∧ p2.toInt < 12
      · rw [if_pos c2, if_neg one_ne0]
        by_cases c3 : 0 ≤ p3.toInt ∧ p3.toInt < 12
        · rw [if_pos c3, if_neg one_ne0]
          by_cases c4 : 0 ≤ p4.toInt ∧ p4.toInt < 12
          · exact absurd ⟨c2, c3, c4⟩ T3
          · rw [if_neg c4, if_pos rfl]
        · rw [if_neg c3, if_pos rfl]
      · rw [if_neg c2, if_pos rfl]
  · rw [if_neg c1, if_pos rfl, if_pos rfl]
    exact ⟨_, _, rfl, rfl⟩
