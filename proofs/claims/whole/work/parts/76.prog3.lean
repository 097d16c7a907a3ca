/-! programs: a whole run, both sides -/
theorem fill8 (g : Nat → Int32) : ∃ f, f_J7_fill_53178 8 g 0 = some f ∧ ∀ x, x < 8 → f x = 0 := by
  have key : ∃ f, L_J7_fill_53178_5 8 0 (nI 8) FU 0 g = some f ∧ ∀ x, x < 8 → f x = 0 := by
    unfold L_J7_fill_53178_5
    refine loopF_inv (fun i x => x.1 = nI i ∧ ∀ j, j < i → x.2 j = 0) _ 8 ?_ ?_ 8 0 (0, g) FU (by omega) (FU_lt (by decide)) ⟨rfl, fun j hj => by omega⟩
    · rintro i hi ⟨v, U⟩ ⟨k1, k2⟩
      dsimp only at k1 k2
      subst k1
      left
      refine ⟨(nI (i + 1), upd U i 0), ?_, rfl, fun j hj => ?_⟩
      · unfold B_J7_fill_53178_5
        dsimp only
        rw [if_neg (nI_ge hi (by decide)), wrI_nI hi (by decide)]
        simp only [b1_some, bn, nI_1]
      · show upd U i 0 j = 0
        rw [up_s]
        by_cases z : j = i
        · rw [if_pos z]
        · rw [if_neg z]; exact k2 j (by omega)
    · rintro ⟨v, U⟩ ⟨k1, k2⟩
      dsimp only at k1 k2
      subst k1
      exact ⟨U, rfl, k2⟩
  obtain ⟨f, a, b⟩ := key
  refine ⟨f, ?_, b⟩
  unfold f_J7_fill_53178
  simp only [bn]
  rw [show Int32.ofNat 8 = nI 8 from rfl, a]; rfl
section PROG3
variable {P M : PS} {nl nd rw : Nat} {kd ce aa ab ac dn dz : Nat → Nat}
theorem out8 (hG : PG P M nl nd rw kd ce aa ab ac dn dz) {row inp : Nat} (hrow : row < 64) (hi : inp < 32) : ∃ P2, f_X2_outOf P (nI inp) (nI row) = some (nI (outP kd ce aa ab ac dn (fig dz nd row) inp nl), P2) ∧ SX [] [7, 8] [] P P2 := by
  obtain ⟨a1, a2, a3, a4, a5, a6, a7, a8, a9, a10, aD, aK, aN, aS⟩ := id hG
  obtain ⟨P1, s1, s2, s3⟩ := spread8 hG hrow
  obtain ⟨f, f1, f2⟩ := fill8 (P1.2.1 8)
  have s4 : SX [] [7, 8] [] P (sA P1 8 f) := (s2.mono (fun _ h => h) (by decide) (fun _ h => h)).sA _ (by decide)
  have key : ∃ r, L_X2_outOf_18 (nI inp) FU 0 0 (sA P1 8 f) = some r ∧ (r.1 = nI (outP kd ce aa ab ac dn (fig dz nd row) inp nl) ∧ SX [] [7, 8] [] P r.2) := by
    unfold L_X2_outOf_18
    refine loopF_inv (fun k x => x.1 = nI (outP kd ce aa ab ac dn (fig dz nd row) inp k) ∧ x.2.1 = nI k ∧ SX [] [7, 8] [] P x.2.2 ∧ (∀ i, i < nd → x.2.2.2.1 7 i = nI (fig dz nd row i)) ∧ ∀ j, j < 8 → x.2.2.2.1 8 j = nI (celP kd ce aa ab ac dn (fig dz nd row) inp k j)) _ nl ?_ ?_ nl 0 (0, 0, sA P1 8 f) FU (by omega) (FU_lt (by omega)) ⟨rfl, rfl, s4, s3, f2⟩
    · rintro k hk ⟨v, u, U⟩ ⟨k1, k2, k3, k4, k5⟩
      dsimp only at k1 k2 k3 k4 k5
      subst k1 k2
      left
      obtain ⟨b1', b2', b3', b4', b5', b6', b7', b8', b9', b10', b11', b12'⟩ := aK k hk
      have u0 : U.1 0 = nI nl := (k3.1 0 (by decide)).trans a5
      have u1 : U.2.1 1 = P.2.1 1 := k3.2.1 1 (by decide)
      have u2 : U.2.1 2 = P.2.1 2 := k3.2.1 2 (by decide)
      have u3 : U.2.1 3 = P.2.1 3 := k3.2.1 3 (by decide)
      unfold B_X2_outOf_18
      dsimp only
      rw [u0, if_neg (nI_ge hk (by omega)), u1, rdI_nI (by omega) (by decide), b1']
      simp only [b1_some]
      by_cases g : kd k = 8
      · have e3 : (3 : Int32) * nI k = nI (3 * k) := by rw [show (3 : Int32) = nI 3 from rfl, pk_mul]
        rw [g, if_pos (show nI 8 = 8 from rfl), e3, u3, rdI_nI (by omega) (by decide), b7' g]
        simp only [b1_some]
        rw [rdI_nI b5' (by decide), k5 _ b5']
        simp only [b1_some, b2_some, bn, nI_1]
        refine ⟨_, rfl, ?_, rfl, k3, k4, fun j hj => ?_⟩
        · rw [outP, if_pos g]
        · rw [celP, if_pos g]; exact k5 j hj
      · have g8 : ¬ nI (kd k) = 8 := fun q => g ((nI_eq (b := 8) (by omega) (by decide)).mp q)
        rw [if_neg g8, u2, rdI_nI (by omega) (by decide), b6' g, res8 hG hk g hi k3 k4 k5 (cel_lt hG k (by omega))]
        simp only [b1_some]
        rw [wA_nI b5' (by decide)]
        simp only [b1_some, b2_some, bn, nI_1]
        refine ⟨_, rfl, ?_, rfl, k3.sA _ (by decide), k4, fun j hj => ?_⟩
        · rw [outP, if_neg g]
        · show upd (U.2.1 8) (ce k) _ j = _
          rw [celP, if_neg g, up_s]
          by_cases z : j = ce k
          · rw [if_pos z, if_pos z]
          · rw [if_neg z, if_neg z]; exact k5 j hj
    · rintro ⟨v, u, U⟩ ⟨k1, k2, k3, k4, k5⟩
      dsimp only at k1 k2 k3 k4 k5
      subst k1 k2
      have u0 : U.1 0 = nI nl := (k3.1 0 (by decide)).trans a5
      refine ⟨(nI (outP kd ce aa ab ac dn (fig dz nd row) inp nl), U), ?_, rfl, k3⟩
      unfold B_X2_outOf_18
      dsimp only
      rw [u0, if_pos (nI_le (Nat.le_refl _) (by omega))]
  obtain ⟨⟨r, P2⟩, c1, c2, c3⟩ := key
  dsimp only at c2 c3
  refine ⟨P2, ?_, c3⟩
  unfold f_X2_outOf
  rw [s1]
  simp only [b1_some]
  rw [f1]
  simp only [b1_some, bn]
  rw [c1, c2]
  rfl
theorem zero33 (S : PS) : ∃ S2, L_X10_outOf_2 FU 0 S = some S2 ∧ SX [] [33] [] S S2 ∧ ∀ j, j < 8 → S2.2.1 33 j = 0 := by
  unfold L_X10_outOf_2
  refine loopF_inv (fun i x => x.1 = nI i ∧ SX [] [33] [] S x.2 ∧ ∀ j, j < i → x.2.2.1 33 j = 0) _ 8 ?_ ?_ 8 0 (0, S) FU (by omega) (FU_lt (by decide)) ⟨rfl, SX.rf, fun j hj => by omega⟩
  · rintro i hi ⟨v, U⟩ ⟨k1, k2, k3⟩
    dsimp only at k1 k2 k3
    subst k1
    left
    refine ⟨(nI (i + 1), sA U 33 (upd (U.2.1 33) i 0)), ?_, rfl, k2.sA _ (by decide), fun j hj => ?_⟩
    · unfold B_X10_outOf_2
      dsimp only
      rw [if_neg (show ¬ (8 : Int32) ≤ nI i from nI_ge hi (by decide)), wA_nI hi (by decide)]
      simp only [b1_some, bn, nI_1]
    · show upd (U.2.1 33) i 0 j = _
      rw [up_s]
      by_cases z : j = i
      · rw [if_pos z]
      · rw [if_neg z]; exact k3 j (by omega)
  · rintro ⟨v, U⟩ ⟨k1, k2, k3⟩
    dsimp only at k1 k2 k3
    subst k1
    exact ⟨U, rfl, k2, k3⟩
end PROG3
