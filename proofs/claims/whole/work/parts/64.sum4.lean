/-! same -/
theorem dvI_nI {a d : Nat} (ha : a < 2 ^ 31) (h0 : 0 < d) (hd : d < 2 ^ 31) : dvI (nI a) (nI d) = some (nI (a / d)) := by
  unfold dvI
  rw [if_neg (nI_ne0 h0 hd), pk_div ha h0 hd]
theorem rmI_nI {a d : Nat} (ha : a < 2 ^ 31) (h0 : 0 < d) (hd : d < 2 ^ 31) : rmI (nI a) (nI d) = some (nI (a % d)) := by
  unfold rmI
  rw [if_neg (nI_ne0 h0 hd), pk_rem ha h0 hd]
theorem rdL_0 {N : Nat} {f : Nat → Int64} (h : 0 < N) (hN : N < 2 ^ 31) : rdL N f 0 = some (f 0) := rdL_nI (i := 0) h hN
theorem rdI_0 {N : Nat} {f : Nat → Int32} (h : 0 < N) (hN : N < 2 ^ 31) : rdI N f 0 = some (f 0) := rdI_nI (i := 0) h hN
def sq (v : Nat → Nat → Nat → Int64) (K : Nat) : Nat → Int32 × Int32
  | 0 => (0, -1)
  | i + 1 => if v (i / (K * K)) (i / K % K) (i % K) = 0 then ((sq v K i).1 + 1, (sq v K i).2) else ((sq v K i).1, if (sq v K i).2 = -1 then nI (144 * (i / (K * K)) + 12 * (i / K % K) + i % K) else (sq v K i).2)
theorem sq_at {v : Nat → Nat → Nat → Int64} {K X Y Z : Nat} (hY : Y < K) (hZ : Z < K) : sq v K (Z + K * (Y + K * X) + 1) = if v X Y Z = 0 then ((sq v K (Z + K * (Y + K * X))).1 + 1, (sq v K (Z + K * (Y + K * X))).2) else ((sq v K (Z + K * (Y + K * X))).1, if (sq v K (Z + K * (Y + K * X))).2 = -1 then nI (144 * X + 12 * Y + Z) else (sq v K (Z + K * (Y + K * X))).2) := by
  have hK : 0 < K := by omega
  have e1 : (Z + K * (Y + K * X)) % K = Z := by rw [Nat.add_mul_mod_self_left, Nat.mod_eq_of_lt hZ]
  have e2 : (Z + K * (Y + K * X)) / K = Y + K * X := by rw [Nat.add_mul_div_left _ _ hK, Nat.div_eq_of_lt hZ, Nat.zero_add]
  have e3 : (Z + K * (Y + K * X)) / K % K = Y := by rw [e2, Nat.add_mul_mod_self_left, Nat.mod_eq_of_lt hY]
  have e4 : (Z + K * (Y + K * X)) / (K * K) = X := by rw [← Nat.div_div_eq_div_mul, e2, Nat.add_mul_div_left _ _ hK, Nat.div_eq_of_lt hY, Nat.zero_add]
  rw [sq, e1, e3, e4]
theorem oI_z (a : Int) : lg_cmp (oI a) 0 = 0 ↔ oI a = 0 := cmp_eq _ _
theorem row9 {c : Nat → Int} {v : Nat → Nat → Nat → Int64} {K X Y : Nat} (hK : K ≤ 12) (hX : X < K) (hY : Y < K) (hv : ∀ Z, Z < K → v X Y Z = oI (HZ c X Y Z)) (S : PS) (h2 : ∀ p, p < 4 → S.2.2 2 p = oI (pI 4 (pI 16 c X) Y p)) (h4 : S.1 4 = (sq v K (K * (Y + K * X))).1) (h5 : S.1 5 = (sq v K (K * (Y + K * X))).2) : ∃ S2, f_X1_compareRow S (144 * nI X + 12 * nI Y) (nI K) = some S2 ∧ SX [4, 5] [] [3] S S2 ∧ S2.1 4 = (sq v K (K * (Y + 1 + K * X))).1 ∧ S2.1 5 = (sq v K (K * (Y + 1 + K * X))).2 := by
  have key : ∃ S2, L_X1_compareRow_2 (144 * nI X + 12 * nI Y) (nI K) FU 0 S = some S2 ∧ (SX [4, 5] [] [3] S S2 ∧ S2.1 4 = (sq v K (K * (Y + 1 + K * X))).1 ∧ S2.1 5 = (sq v K (K * (Y + 1 + K * X))).2) := by
    unfold L_X1_compareRow_2
    refine loopF_inv (fun i x => x.1 = nI i ∧ SX [4, 5] [] [3] S x.2 ∧ x.2.1 4 = (sq v K (i + K * (Y + K * X))).1 ∧ x.2.1 5 = (sq v K (i + K * (Y + K * X))).2) _ K ?_ ?_ K 0 (0, S) FU (by omega) (FU_lt (by omega)) ⟨rfl, SX.rf, by rw [Nat.zero_add]; exact h4, by rw [Nat.zero_add]; exact h5⟩
    · rintro i hi ⟨u, U⟩ ⟨k1, k2, k3, k4⟩
      dsimp only at k1 k2 k3 k4
      subst k1
      left
      obtain ⟨f, a1, a2⟩ := putIn_ok (m := 1) (a := i) (g1 := U.2.2 2) (g2 := U.2.2 3) (c := pI 4 (pI 16 c X) Y) (by decide) (by omega) (fun p hp => by rw [k2.2.2 2 (by decide)]; exact h2 p (by omega))
      have a3 : f 0 = v X Y i := by rw [a2 0 (by decide), hv i hi]; rfl
      have g := sq_at (v := v) (K := K) (X := X) (Y := Y) (Z := i) hY hi
      unfold B_X1_compareRow_2
      dsimp only
      rw [if_neg (nI_ge hi (by omega)), a1]
      simp only [b1_some, bn]
      rw [show (sL U 3 f).2.2 3 = f from rfl, rdL_0 (by decide) (by decide), a3]
      simp only [b1_some]
      rw [show i + 1 + K * (Y + K * X) = i + K * (Y + K * X) + 1 by omega]
      rw [hv i hi] at g ⊢
      by_cases e : oI (HZ c X Y i) = 0
      · rw [if_pos e] at g
        rw [if_pos ((oI_z _).mpr e)]
        simp only [b1_some, nI_1]
        refine ⟨_, rfl, rfl, (k2.sL _ (by decide)).sI _ (by decide), ?_, ?_⟩
        · rw [g]
          show U.1 4 + 1 = _
          rw [k3]
        · rw [g]
          exact k4
      · rw [if_neg e] at g
        rw [if_neg (fun k => e ((oI_z _).mp k)), show (sL U 3 f).1 5 = U.1 5 from rfl, k4]
        by_cases e2 : (sq v K (i + K * (Y + K * X))).2 = -1
        · rw [if_pos e2] at g ⊢
          simp only [b1_some, nI_1]
          refine ⟨_, rfl, rfl, (k2.sL _ (by decide)).sI _ (by decide), ?_, ?_⟩
          · rw [g]
            exact k3
          · rw [g]
            show 144 * nI X + 12 * nI Y + nI i = _
            rw [show (144 : Int32) = nI 144 from rfl, show (12 : Int32) = nI 12 from rfl, pk_mul, pk_mul, nI_add, nI_add]
        · rw [if_neg e2] at g ⊢
          simp only [b1_some, nI_1]
          refine ⟨_, rfl, rfl, k2.sL _ (by decide), ?_, ?_⟩
          · rw [g]
            exact k3
          · rw [g]
            exact k4
    · rintro ⟨u, U⟩ ⟨k1, k2, k3, k4⟩
      dsimp only at k1 k2 k3 k4
      subst k1
      have e : K * (Y + 1 + K * X) = K + K * (Y + K * X) := by rw [show Y + 1 + K * X = (Y + K * X) + 1 by omega, Nat.mul_succ, Nat.add_comm]
      refine ⟨U, ?_, k2, by rw [e]; exact k3, by rw [e]; exact k4⟩
      unfold B_X1_compareRow_2
      dsimp only
      rw [if_pos (nI_le (Nat.le_refl _) (by omega))]
  obtain ⟨S2, a, b⟩ := key
  refine ⟨S2, ?_, b⟩
  unfold f_X1_compareRow
  rw [a]; rfl
theorem plane9 {c : Nat → Int} {v : Nat → Nat → Nat → Int64} {K X : Nat} (hK : K ≤ 12) (hX : X < K) (hv : ∀ Y Z, Y < K → Z < K → v X Y Z = oI (HZ c X Y Z)) (S : PS) (h1 : ∀ p, p < 16 → S.2.2 1 p = oI (pI 16 c X p)) (h4 : S.1 4 = (sq v K (K * (K * X))).1) (h5 : S.1 5 = (sq v K (K * (K * X))).2) : ∃ S2, L_X1_compare_73 (nI K) (nI X) FU 0 S = some S2 ∧ (SX [4, 5] [] [2, 3] S S2 ∧ S2.1 4 = (sq v K (K * (K * (X + 1)))).1 ∧ S2.1 5 = (sq v K (K * (K * (X + 1)))).2) := by
  unfold L_X1_compare_73
  refine loopF_inv (fun i x => x.1 = nI i ∧ SX [4, 5] [] [2, 3] S x.2 ∧ x.2.1 4 = (sq v K (K * (i + K * X))).1 ∧ x.2.1 5 = (sq v K (K * (i + K * X))).2) _ K ?_ ?_ K 0 (0, S) FU (by omega) (FU_lt (by omega)) ⟨rfl, SX.rf, by rw [Nat.zero_add]; exact h4, by rw [Nat.zero_add]; exact h5⟩
  · rintro i hi ⟨u, U⟩ ⟨k1, k2, k3, k4⟩
    dsimp only at k1 k2 k3 k4
    subst k1
    left
    obtain ⟨f, a1, a2⟩ := putIn_ok (m := 4) (a := i) (g1 := U.2.2 1) (g2 := U.2.2 2) (c := pI 16 c X) (by decide) (by omega) (fun p hp => by rw [k2.2.2 1 (by decide)]; exact h1 p (by omega))
    obtain ⟨S2, b1', b2', b3', b4'⟩ := row9 hK hX hi (fun Z hZ => hv i Z hi hZ) (sL U 2 f) a2 k3 k4
    refine ⟨(nI (i + 1), S2), ?_, rfl, (k2.sL f (by decide)).tr (b2'.mono (fun _ h => h) (fun _ h => h) (by decide)), b3', b4'⟩
    unfold B_X1_compare_73
    dsimp only
    rw [if_neg (nI_ge hi (by omega)), a1]
    simp only [b1_some, bn]
    rw [b1']
    simp only [b1_some, nI_1]
  · rintro ⟨u, U⟩ ⟨k1, k2, k3, k4⟩
    dsimp only at k1 k2 k3 k4
    subst k1
    have e : K * (X + 1) = K + K * X := by rw [Nat.mul_succ, Nat.add_comm]
    refine ⟨U, ?_, k2, by rw [e]; exact k3, by rw [e]; exact k4⟩
    unfold B_X1_compare_73
    dsimp only
    rw [if_pos (nI_le (Nat.le_refl _) (by omega))]
theorem compare9 {c : Nat → Int} {v : Nat → Nat → Nat → Int64} {K : Nat} (hK : K ≤ 12) (hv : ∀ X Y Z, X < K → Y < K → Z < K → v X Y Z = oI (HZ c X Y Z)) (Pt F1 F2 : PS) (h : ∀ p, p < 64 → F1.2.2 0 p - F2.2.2 0 p = oI (c p)) : ∃ S2, f_X1_compare Pt F1 F2 (nI K) = some S2 ∧ S2.1 4 = (sq v K (K * (K * K))).1 ∧ S2.1 5 = (sq v K (K * (K * K))).2 := by
  have k0 : ∃ S2, L_X1_compare_3 F1 F2 FU 0 Pt = some S2 ∧ ∀ j, j < 64 → S2.2.2 0 j = oI (c j) := by
    unfold L_X1_compare_3
    refine loopF_inv (fun i x => x.1 = nI i ∧ ∀ j, j < i → x.2.2.2 0 j = oI (c j)) _ 64 ?_ ?_ 64 0 (0, Pt) FU (by omega) (FU_lt (by decide)) ⟨rfl, fun j hj => by omega⟩
    · rintro i hi ⟨u, U⟩ ⟨k1, k2⟩
      dsimp only at k1 k2
      subst k1
      left
      refine ⟨(nI (i + 1), sL U 0 (vp_updL (U.2.2 0) i (oI (c i)))), ?_, rfl, fun j hj => ?_⟩
      · unfold B_X1_compare_3
        dsimp only
        rw [if_neg (show ¬ (64 : Int32) ≤ nI i from nI_ge hi (by decide)), rdL_nI hi (by decide), rdL_nI hi (by decide)]
        simp only [b1_some]
        rw [wL_nI hi (by decide), h i hi]
        simp only [b1_some, bn, nI_1]
      · show vp_updL (U.2.2 0) i (oI (c i)) j = _
        rw [vp_s]
        by_cases e : j = i
        · rw [if_pos e, e]
        · rw [if_neg e]; exact k2 j (by omega)
    · rintro ⟨u, U⟩ ⟨k1, k2⟩
      dsimp only at k1 k2
      subst k1
      exact ⟨U, rfl, k2⟩
  obtain ⟨S1, a1, a2⟩ := k0
  have k1 : ∃ S2, L_X1_compare_51 (nI K) FU 0 (sI (sI S1 4 0) 5 (-1)) = some S2 ∧ (S2.1 4 = (sq v K (K * (K * K))).1 ∧ S2.1 5 = (sq v K (K * (K * K))).2) := by
    unfold L_X1_compare_51
    refine loopF_inv (fun i x => x.1 = nI i ∧ (∀ j, j < 64 → x.2.2.2 0 j = oI (c j)) ∧ x.2.1 4 = (sq v K (K * (K * i))).1 ∧ x.2.1 5 = (sq v K (K * (K * i))).2) _ K ?_ ?_ K 0 (0, _) FU (by omega) (FU_lt (by omega)) ⟨rfl, a2, ?_, ?_⟩
    · rintro i hi ⟨u, U⟩ ⟨k1, k2, k3, k4⟩
      dsimp only at k1 k2 k3 k4
      subst k1
      left
      obtain ⟨f, b1', b2'⟩ := putIn_ok (m := 16) (a := i) (g1 := U.2.2 0) (g2 := U.2.2 1) (c := c) (by decide) (by omega) (fun p hp => k2 p (by omega))
      obtain ⟨S2, c1, c2, c3, c4⟩ := plane9 hK hi (fun Y Z hY hZ => hv i Y Z hi hY hZ) (sL U 1 f) b2' k3 k4
      refine ⟨(nI (i + 1), S2), ?_, rfl, fun j hj => ?_, c3, c4⟩
      · unfold B_X1_compare_51
        dsimp only
        rw [if_neg (nI_ge hi (by omega)), b1']
        simp only [b1_some, bn]
        rw [c1]
        simp only [b1_some, nI_1]
      · show S2.2.2 0 j = _
        rw [c2.2.2 0 (by decide)]
        exact k2 j hj
    · rintro ⟨u, U⟩ ⟨k1, k2, k3, k4⟩
      dsimp only at k1 k2 k3 k4
      subst k1
      refine ⟨U, ?_, k3, k4⟩
      unfold B_X1_compare_51
      dsimp only
      rw [if_pos (nI_le (Nat.le_refl _) (by omega))]
    · rw [Nat.mul_zero, Nat.mul_zero]; rfl
    · rw [Nat.mul_zero, Nat.mul_zero]; rfl
  obtain ⟨S2, b1', b2'⟩ := k1
  refine ⟨S2, ?_, b2'⟩
  unfold f_X1_compare
  rw [a1]
  simp only [b1_some, bn]
  rw [b1']; rfl
theorem sub64 (a b : Int64) : a - b = 0 ↔ a = b := by
  constructor
  · intro h
    have := congrArg (fun x => x + b) h
    simpa [Int64.sub_add_cancel] using this
  · intro h; rw [h, Int64.sub_self]
theorem cmp10 {F1 F2 M : PS} {t w x y z t' w' x' y' z'} (h1 : SM 0 F1 M t w x y z) (h2 : SM 1 F2 M t' w' x' y' z') {K : Nat} (hK0 : 1 ≤ K) (hK : K ≤ 12) {v : Nat → Nat → Nat → Int64} (hv : ∀ X Y Z : Nat, v X Y Z = oI (HZ (cf w (plc x y z) t) X Y Z) - oI (HZ (cf w' (plc x' y' z') t') X Y Z)) : L_X10_same_33 M (nI K) FU 0 (-1) 0 = some (sq v K (K * (K * K))) := by
  have kk : K * K ≤ 144 := Nat.mul_le_mul hK hK
  have k0 : 0 < K * K := Nat.mul_pos hK0 hK0
  have kk3 : K * (K * K) ≤ 1728 := Nat.mul_le_mul hK kk
  unfold L_X10_same_33
  refine loopF_seq0 (fun i => ((sq v K i).1, (sq v K i).2, nI i)) (K * (K * K)) _ rfl (fun i hi => ?_) ?_ (FU_lt (by omega))
  · have d1 : i / (K * K) ≤ i := Nat.div_le_self _ _
    have d2 : i / K ≤ i := Nat.div_le_self _ _
    have d3 : i / K % K ≤ i / K := Nat.mod_le _ _
    have d4 : i % K ≤ i := Nat.mod_le _ _
    unfold B_X10_same_33
    dsimp only
    rw [pk_mul, pk_mul, Nat.mul_assoc, if_neg (nI_ge hi (by omega))]
    rw [dvI_nI (by omega) k0 (by omega), dvI_nI (by omega) hK0 (by omega)]
    simp only [b1_some]
    rw [rmI_nI (by omega) hK0 (by omega), rmI_nI (by omega) hK0 (by omega)]
    simp only [b1_some]
    have q1 := valueOf_ok (X := i / (K * K)) (Y := i / K % K) (Z := i % K) (by decide) h1 (by omega) (by omega) (by omega)
    have q2 := valueOf_ok (X := i / (K * K)) (Y := i / K % K) (Z := i % K) (by decide) h2 (by omega) (by omega) (by omega)
    rw [show nI 0 = (0 : Int32) from rfl] at q1
    rw [show nI 1 = (1 : Int32) from rfl] at q2
    rw [q1, q2]
    simp only [b1_some]
    have g := hv (i / (K * K)) (i / K % K) (i % K)
    have gz := sub64 (oI (HZ (cf w (plc x y z) t) (i / (K * K) : Nat) (i / K % K : Nat) (i % K : Nat))) (oI (HZ (cf w' (plc x' y' z') t') (i / (K * K) : Nat) (i / K % K : Nat) (i % K : Nat)))
    rw [← g] at gz
    have sq1 : sq v K (i + 1) = if v (i / (K * K)) (i / K % K) (i % K) = 0 then ((sq v K i).1 + 1, (sq v K i).2) else ((sq v K i).1, if (sq v K i).2 = -1 then nI (144 * (i / (K * K)) + 12 * (i / K % K) + i % K) else (sq v K i).2) := rfl
    by_cases e : v (i / (K * K)) (i / K % K) (i % K) = 0
    · rw [if_pos e] at sq1
      rw [if_pos ((cmp_eq _ _).mpr (gz.mp e)), sq1]
      simp only [b1_some, bn]
      rw [if_neg one_ne0]
      simp only [b1_some]
      rw [if_neg one_ne0]
      simp only [b1_some, nI_1]
    · rw [if_neg e] at sq1
      rw [if_neg (fun k => e (gz.mpr ((cmp_eq _ _).mp k))), sq1]
      simp only [b1_some, bn]
      rw [if_pos trivial]
      simp only [b1_some]
      rw [if_pos trivial, show (144 : Int32) = nI 144 from rfl, show (12 : Int32) = nI 12 from rfl, pk_mul, pk_mul, nI_add, nI_add, Int32.add_zero]
      by_cases e2 : (sq v K i).2 = -1
      · rw [if_pos e2, if_pos e2]
        simp only [b1_some, nI_1]
      · rw [if_neg e2, if_neg e2]
        simp only [b1_some, nI_1]
  · unfold B_X10_same_33
    dsimp only
    rw [pk_mul, pk_mul, Nat.mul_assoc, if_pos (nI_le (Nat.le_refl _) (by omega))]
theorem g_same {F1 F2 M : PS} (Pt : PS) (h1 : RSum 0 F1 M) (h2 : RSum 1 F2 M) (p1 p2 : Int32) : ∃ (r : Int32) (Pt' : PS), f_X9_same F1 F2 Pt p1 p2 = some (r, Pt') ∧ f_X10_same M p1 p2 = some r := by
  unfold f_X9_same f_X10_same
  rw [choice_ok, in_32 p1 1 12 1 12 rfl rfl, in_32 p2 0 1 0 1 rfl rfl]
  simp only [b1_some]
  by_cases c1 : 1 ≤ p1.toInt ∧ p1.toInt ≤ 12
  · rw [if_pos c1, if_neg one_ne0, if_neg (show ¬ p1 < 1 from fun k => by rw [i_lt] at k; change p1.toInt < 1 at k; omega), if_neg (show ¬ 12 < p1 from fun k => by rw [i_lt] at k; change 12 < p1.toInt at k; omega)]
    by_cases c2 : 0 ≤ p2.toInt ∧ p2.toInt ≤ 1
    · rw [if_pos c2, if_neg one_ne0, if_neg one_ne0]
      obtain ⟨K, hK, rfl⟩ := nI_four (N := 13) (x := p1) (by omega)
      have hK0 : 1 ≤ K := by
        have := c1.1
        rw [nI_toInt (by omega)] at this
        omega
      obtain ⟨t, w, x, y, z, hS⟩ := h1
      obtain ⟨t', w', x', y', z', hS'⟩ := h2
      have e := cmp10 hS hS' hK0 (by omega) (fun X Y Z => rfl)
      obtain ⟨S2, e2, e3, e4⟩ := compare9 (c := fun p => cf w (plc x y z) t p - cf w' (plc x' y' z') t' p) (v := fun X Y Z => oI (HZ (cf w (plc x y z) t) X Y Z) - oI (HZ (cf w' (plc x' y' z') t') X Y Z)) (K := K) (by omega) (fun X Y Z _ _ _ => by rw [HZ_sub, oI_sub]) Pt F1 F2 (fun p hp => by
        rw [hS.2.2.2.2.2 p hp, hS'.2.2.2.2.2 p hp]; exact oI_sub _ _)
      simp only [bn]
      have q : ∀ (P : Int32 × Int32), (b2 (some P) fun v25 v26 => b1 (if p2 = 0 then some v25 else some v26) fun v27 => some v27) = some (if p2 = 0 then P.1 else P.2) := fun P => by
        by_cases c3 : p2 = 0
        · rw [if_pos c3]; show b1 (if p2 = 0 then some P.1 else some P.2) _ = _; rw [if_pos c3]; rfl
        · rw [if_neg c3]; show b1 (if p2 = 0 then some P.1 else some P.2) _ = _; rw [if_neg c3]; rfl
      rw [e, e2, q]
      simp only [b1_some]
      by_cases c3 : p2 = 0
      · rw [if_pos c3, if_pos c3, e3]
        exact ⟨_, _, rfl, rfl⟩
      · rw [if_neg c3, if_neg c3, e4]
        exact ⟨_, _, rfl, rfl⟩
    · rw [if_neg c2, if_pos rfl, if_pos rfl]
      exact ⟨_, _, rfl, rfl⟩
  · rw [if_neg c1, if_pos rfl]
    refine ⟨_, Pt, ?_, rfl⟩
    by_cases d : p1 < 1
    · rw [if_pos d]
    · rw [if_neg d, if_pos]
      rw [i_lt] at d ⊢
      change ¬ p1.toInt < 1 at d
      show 12 < p1.toInt
      omega
