section PROG4
variable {P M : PS} {nl nd rw : Nat} {kd ce aa ab ac dn dz : Nat → Nat}
theorem out10 (hG : PG P M nl nd rw kd ce aa ab ac dn dz) {row inp : Nat} (hrow : row < 64) (hi : inp < 32) : ∃ M2, f_X10_outOf M (nI inp) (nI row) = some (nI (outP kd ce aa ab ac dn (fig dz nd row) inp nl), M2) ∧ SX [] [33] [] M M2 := by
  obtain ⟨a1, a2, a3, a4, a5, a6, a7, a8, a9, a10, aD, aK, aN, aS⟩ := id hG
  obtain ⟨M1, s1, s2, s3⟩ := zero33 M
  have key : ∃ r, L_X10_outOf_29 (nI inp) (nI row) FU 0 0 0 M1 = some r ∧ (r.1 = nI (outP kd ce aa ab ac dn (fig dz nd row) inp nl) ∧ SX [] [33] [] M r.2) := by
    unfold L_X10_outOf_29
    refine loopF_inv (fun k x => x.1 = nI (outP kd ce aa ab ac dn (fig dz nd row) inp k) ∧ x.2.1 = nI (fb_sm (fun i => if kd i = 0 then 1 else 0) k) ∧ x.2.2.1 = nI k ∧ SX [] [33] [] M x.2.2.2 ∧ ∀ j, j < 8 → x.2.2.2.2.1 33 j = nI (celP kd ce aa ab ac dn (fig dz nd row) inp k j)) _ nl ?_ ?_ nl 0 (0, 0, 0, M1) FU (by omega) (FU_lt (by omega)) ⟨rfl, rfl, rfl, s2, s3⟩
    · rintro k hk ⟨v, w, u, U⟩ ⟨k1, k2, k3, k4, k5⟩
      dsimp only at k1 k2 k3 k4 k5
      subst k1 k2 k3
      left
      obtain ⟨b1', b2', b3', b4', b5', b6', b7', b8', b9', b10', b11', b12'⟩ := aK k hk
      have u0 : U.1 7 = nI nl := (k4.1 7 (by decide)).trans a6
      have u2 : U.2.1 2 = M.2.1 2 := k4.2.1 2 (by decide)
      have u3 : U.2.1 3 = M.2.1 3 := k4.2.1 3 (by decide)
      have u4 : U.2.1 4 = M.2.1 4 := k4.2.1 4 (by decide)
      have u5 : U.2.1 5 = M.2.1 5 := k4.2.1 5 (by decide)
      have u6 : U.2.1 6 = M.2.1 6 := k4.2.1 6 (by decide)
      have cl := cel_lt hG (row := row) (inp := inp) k (by omega)
      have ds : fb_sm (fun i => if kd i = 0 then 1 else 0) (k + 1) = fb_sm (fun i => if kd i = 0 then 1 else 0) k + if kd k = 0 then 1 else 0 := rfl
      have dk := aN k hk
      have r40 : ∀ f : Nat → Int32, rdI 40 f (nI k) = some (f k) := fun f => rdI_nI (by omega) (by decide)
      unfold B_X10_outOf_29
      dsimp only
      rw [u0, if_neg (nI_ge hk (by omega))]
      simp only [u2, u3, u4, u5, u6, r40, b1_some, b2', b4']
      have fin : ∀ (x : Nat), kd k ≠ 8 → x = valP kd aa ab ac (fig dz nd row (dn k)) inp k (celP kd ce aa ab ac dn (fig dz nd row) inp k) → ∀ j, j < 8 → upd (U.2.1 33) (ce k) (nI x) j = nI (celP kd ce aa ab ac dn (fig dz nd row) inp (k + 1) j) := by
        intro x g hx j hj
        rw [celP, if_neg g, up_s]
        by_cases z : j = ce k
        · rw [if_pos z, if_pos z, hx]
        · rw [if_neg z, if_neg z]; exact k5 j hj
      have q : kd k = 0 ∨ kd k = 1 ∨ kd k = 2 ∨ kd k = 3 ∨ kd k = 4 ∨ kd k = 5 ∨ kd k = 6 ∨ kd k = 7 ∨ kd k = 8 := by omega
      generalize hC : celP kd ce aa ab ac dn (fig dz nd row) inp k = C at *
      rcases q with q | q | q | q | q | q | q | q | q
      · obtain ⟨c1, c2⟩ := b8' q
        rw [q, if_pos (show nI 0 ≤ 2 by decide), if_pos (show nI 0 ≤ 2 by decide)]
        simp only [b1_some]
        rw [if_pos (show nI 0 = 0 from rfl), ← dk, drawn10 hG hrow c2 U (k4.1 10 (by decide)) (k4.2.1 9 (by decide))]
        simp only [b1_some]
        rw [wA_nI b5' (by decide)]
        simp only [b1_some, b3_some, bn, nI_1]
        refine ⟨_, rfl, ?_, ?_, rfl, k4.sA _ (by decide), fin _ (by omega) (by unfold valP; rw [if_pos q])⟩
        · rw [outP, if_neg (by omega)]
        · rw [ds, if_pos q, ← dk]
      · obtain ⟨c1, c2, c3⟩ := b9' q
        rw [q, if_pos (show nI 1 ≤ 2 by decide), if_pos (show nI 1 ≤ 2 by decide)]
        simp only [b1_some]
        rw [if_neg (show ¬ nI 1 = 0 by decide), if_pos (show nI 1 = 1 from rfl), c2, bitI (by omega) (by omega), wA_nI b5' (by decide)]
        simp only [b1_some, b3_some, bn, nI_1]
        refine ⟨_, rfl, ?_, ?_, rfl, k4.sA _ (by decide), fin _ (by omega) (by unfold valP; rw [q]; rfl)⟩
        · rw [outP, if_neg (by omega)]
        · rw [ds, if_neg (by omega)]; rfl
      · obtain ⟨c1, c2, c3⟩ := b10' q
        rw [q, if_pos (show nI 2 ≤ 2 by decide), if_pos (show nI 2 ≤ 2 by decide)]
        simp only [b1_some]
        rw [if_neg (show ¬ nI 2 = 0 by decide), if_neg (show ¬ nI 2 = 1 by decide), if_pos (show nI 2 = 2 from rfl), c2, wA_nI b5' (by decide)]
        simp only [b1_some, b3_some, bn, nI_1]
        refine ⟨_, rfl, ?_, ?_, rfl, k4.sA _ (by decide), fin _ (by omega) (by unfold valP; rw [q]; rfl)⟩
        · rw [outP, if_neg (by omega)]
        · rw [ds, if_neg (by omega)]; rfl
      · obtain ⟨c1, c2, c3, c4, c5, c6⟩ := b11' (by omega) (by omega)
        have h1 := cl (aa k)
        have h2 := cl (ab k)
        have mul1 : C (aa k) * C (ab k) ≤ 16 * 16 := Nat.mul_le_mul (by omega) (by omega)
        rw [q, if_neg (show ¬ nI 3 ≤ 2 by decide), if_neg (show ¬ nI 3 ≤ 2 by decide), if_neg (show ¬ (8 : Int32) ≤ nI 3 by decide), if_neg (show ¬ (8 : Int32) ≤ nI 3 by decide), c2, c5, rdI_nI c3 (by decide), rdI_nI c6 (by decide), k5 _ c3, k5 _ c6]
        simp only [b1_some]
        rw [if_neg (show ¬ nI 3 = 0 by decide), if_neg (show ¬ nI 3 = 1 by decide), if_neg (show ¬ nI 3 = 2 by decide), if_pos (show nI 3 = 3 from rfl)]
        rw [nI_add, show (16 : Int32) = nI 16 from rfl, pk_rem (by omega) (by decide) (by decide)]
        rw [wA_nI b5' (by decide)]
        simp only [b1_some, b3_some, bn, nI_1]
        refine ⟨_, rfl, ?_, ?_, rfl, k4.sA _ (by decide), fin _ (by omega) (by unfold valP; rw [q]; rfl)⟩
        · rw [outP, if_neg (by omega)]
        · rw [ds, if_neg (by omega)]; rfl
      · obtain ⟨c1, c2, c3, c4, c5, c6⟩ := b11' (by omega) (by omega)
        have h1 := cl (aa k)
        have h2 := cl (ab k)
        have mul1 : C (aa k) * C (ab k) ≤ 16 * 16 := Nat.mul_le_mul (by omega) (by omega)
        rw [q, if_neg (show ¬ nI 4 ≤ 2 by decide), if_neg (show ¬ nI 4 ≤ 2 by decide), if_neg (show ¬ (8 : Int32) ≤ nI 4 by decide), if_neg (show ¬ (8 : Int32) ≤ nI 4 by decide), c2, c5, rdI_nI c3 (by decide), rdI_nI c6 (by decide), k5 _ c3, k5 _ c6]
        simp only [b1_some]
        rw [if_neg (show ¬ nI 4 = 0 by decide), if_neg (show ¬ nI 4 = 1 by decide), if_neg (show ¬ nI 4 = 2 by decide), if_neg (show ¬ nI 4 = 3 by decide), if_pos (show nI 4 = 4 from rfl)]
        rw [pk_mul, show (16 : Int32) = nI 16 from rfl, pk_rem (by omega) (by decide) (by decide)]
        rw [wA_nI b5' (by decide)]
        simp only [b1_some, b3_some, bn, nI_1]
        refine ⟨_, rfl, ?_, ?_, rfl, k4.sA _ (by decide), fin _ (by omega) (by unfold valP; rw [q]; rfl)⟩
        · rw [outP, if_neg (by omega)]
        · rw [ds, if_neg (by omega)]; rfl
      · obtain ⟨c1, c2, c3, c4, c5, c6⟩ := b11' (by omega) (by omega)
        have h1 := cl (aa k)
        have h2 := cl (ab k)
        have mul1 : C (aa k) * C (ab k) ≤ 16 * 16 := Nat.mul_le_mul (by omega) (by omega)
        rw [q, if_neg (show ¬ nI 5 ≤ 2 by decide), if_neg (show ¬ nI 5 ≤ 2 by decide), if_neg (show ¬ (8 : Int32) ≤ nI 5 by decide), if_neg (show ¬ (8 : Int32) ≤ nI 5 by decide), c2, c5, rdI_nI c3 (by decide), rdI_nI c6 (by decide), k5 _ c3, k5 _ c6]
        simp only [b1_some]
        rw [if_neg (show ¬ nI 5 = 0 by decide), if_neg (show ¬ nI 5 = 1 by decide), if_neg (show ¬ nI 5 = 2 by decide), if_neg (show ¬ nI 5 = 3 by decide), if_neg (show ¬ nI 5 = 4 by decide), if_pos (show nI 5 = 5 from rfl)]
        rw [fb_xorI]
        rw [wA_nI b5' (by decide)]
        simp only [b1_some, b3_some, bn, nI_1]
        refine ⟨_, rfl, ?_, ?_, rfl, k4.sA _ (by decide), fin _ (by omega) (by unfold valP; rw [q]; rfl)⟩
        · rw [outP, if_neg (by omega)]
        · rw [ds, if_neg (by omega)]; rfl
      · obtain ⟨c1, c2, c3, c4, c5, c6⟩ := b11' (by omega) (by omega)
        have h1 := cl (aa k)
        have h2 := cl (ab k)
        have mul1 : C (aa k) * C (ab k) ≤ 16 * 16 := Nat.mul_le_mul (by omega) (by omega)
        rw [q, if_neg (show ¬ nI 6 ≤ 2 by decide), if_neg (show ¬ nI 6 ≤ 2 by decide), if_neg (show ¬ (8 : Int32) ≤ nI 6 by decide), if_neg (show ¬ (8 : Int32) ≤ nI 6 by decide), c2, c5, rdI_nI c3 (by decide), rdI_nI c6 (by decide), k5 _ c3, k5 _ c6]
        simp only [b1_some]
        rw [if_neg (show ¬ nI 6 = 0 by decide), if_neg (show ¬ nI 6 = 1 by decide), if_neg (show ¬ nI 6 = 2 by decide), if_neg (show ¬ nI 6 = 3 by decide), if_neg (show ¬ nI 6 = 4 by decide), if_neg (show ¬ nI 6 = 5 by decide), if_pos (show nI 6 = 6 from rfl)]
        by_cases g : C (ab k) ≤ C (aa k)
        · rw [if_pos (nI_le g (by omega))]
          simp only [b1_some]
          rw [show (0 : Int32) = nI 0 from rfl]
          rw [wA_nI b5' (by decide)]
          simp only [b1_some, b3_some, bn, nI_1]
          refine ⟨_, rfl, ?_, ?_, rfl, k4.sA _ (by decide), fin _ (by omega) (by unfold valP; rw [q]; exact (if_pos g).symm)⟩
          · rw [outP, if_neg (by omega)]
          · rw [ds, if_neg (by omega)]; rfl
        · rw [if_neg (nI_ge (by omega) (by omega))]
          simp only [b1_some]
          rw [show (1 : Int32) = nI 1 from rfl]
          rw [wA_nI b5' (by decide)]
          simp only [b1_some, b3_some, bn, nI_add]
          refine ⟨_, rfl, ?_, ?_, rfl, k4.sA _ (by decide), fin _ (by omega) (by unfold valP; rw [q]; exact (if_neg g).symm)⟩
          · rw [outP, if_neg (by omega)]
          · rw [ds, if_neg (by omega)]; rfl
      · obtain ⟨c1, c2, c3, c4, c5, c6⟩ := b11' (by omega) (by omega)
        have h1 := cl (aa k)
        have h2 := cl (ab k)
        have mul1 : C (aa k) * C (ab k) ≤ 16 * 16 := Nat.mul_le_mul (by omega) (by omega)
        obtain ⟨d1, d2, d3⟩ := b12' q
        rw [q, if_neg (show ¬ nI 7 ≤ 2 by decide), if_neg (show ¬ nI 7 ≤ 2 by decide), if_neg (show ¬ (8 : Int32) ≤ nI 7 by decide), if_neg (show ¬ (8 : Int32) ≤ nI 7 by decide), c2, c5, rdI_nI c3 (by decide), rdI_nI c6 (by decide), k5 _ c3, k5 _ c6]
        simp only [b1_some]
        rw [if_neg (show ¬ nI 7 = 0 by decide), if_neg (show ¬ nI 7 = 1 by decide), if_neg (show ¬ nI 7 = 2 by decide), if_neg (show ¬ nI 7 = 3 by decide), if_neg (show ¬ nI 7 = 4 by decide), if_neg (show ¬ nI 7 = 5 by decide), if_neg (show ¬ nI 7 = 6 by decide), if_pos (show nI 7 = 7 from rfl)]
        by_cases g : C (aa k) = 0
        · rw [if_pos (by rw [g]; rfl), d2, rdI_nI d3 (by decide), k5 _ d3]
          simp only [b1_some]
          rw [wA_nI b5' (by decide)]
          simp only [b1_some, b3_some, bn, nI_1]
          refine ⟨_, rfl, ?_, ?_, rfl, k4.sA _ (by decide), fin _ (by omega) (by unfold valP; rw [q]; exact (if_pos g).symm)⟩
          · rw [outP, if_neg (by omega)]
          · rw [ds, if_neg (by omega)]; rfl
        · rw [if_neg (nI_ne0 (by omega) (by omega))]
          simp only [b1_some]
          rw [wA_nI b5' (by decide)]
          simp only [b1_some, b3_some, bn, nI_1]
          refine ⟨_, rfl, ?_, ?_, rfl, k4.sA _ (by decide), fin _ (by omega) (by unfold valP; rw [q]; exact (if_neg g).symm)⟩
          · rw [outP, if_neg (by omega)]
          · rw [ds, if_neg (by omega)]; rfl
      · rw [q, if_neg (show ¬ nI 8 ≤ 2 by decide), if_neg (show ¬ nI 8 ≤ 2 by decide), if_pos (show (8 : Int32) ≤ nI 8 by decide), if_pos (show (8 : Int32) ≤ nI 8 by decide)]
        simp only [b1_some]
        rw [if_neg (show ¬ nI 8 = 0 by decide), if_neg (show ¬ nI 8 = 1 by decide), if_neg (show ¬ nI 8 = 2 by decide), if_neg (show ¬ nI 8 = 3 by decide), if_neg (show ¬ nI 8 = 4 by decide), if_neg (show ¬ nI 8 = 5 by decide), if_neg (show ¬ nI 8 = 6 by decide), if_neg (show ¬ nI 8 = 7 by decide), rdI_nI b5' (by decide), k5 _ b5']
        simp only [b1_some, b3_some, bn, nI_1]
        refine ⟨_, rfl, ?_, ?_, rfl, k4, fun j hj => ?_⟩
        · rw [outP, if_pos q, hC]
        · rw [ds, if_neg (by omega)]; rfl
        · rw [celP, if_pos q, hC]; exact k5 j hj
    · rintro ⟨v, w, u, U⟩ ⟨k1, k2, k3, k4, k5⟩
      dsimp only at k1 k2 k3 k4 k5
      subst k1 k2 k3
      have u0 : U.1 7 = nI nl := (k4.1 7 (by decide)).trans a6
      refine ⟨(nI (outP kd ce aa ab ac dn (fig dz nd row) inp nl), U), ?_, rfl, k4⟩
      unfold B_X10_outOf_29
      dsimp only
      rw [u0, if_pos (nI_le (Nat.le_refl _) (by omega))]
  obtain ⟨⟨r, M2⟩, c1, c2, c3⟩ := key
  dsimp only at c2 c3
  refine ⟨M2, ?_, c3⟩
  unfold f_X10_outOf
  rw [s1]
  simp only [b1_some]
  rw [c1, c2]
  rfl
end PROG4
