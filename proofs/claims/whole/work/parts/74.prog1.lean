/-! programs: state, rows -/
/-- nl lines, nd draws of sizes dz, rw rows; of line k the kind kd, its cell ce, operands aa ab ac, the draws before it dn -/
def PG (P M : PS) (nl nd rw : Nat) (kd ce aa ab ac dn dz : Nat → Nat) : Prop :=
  nl ≤ 20 ∧ nd ≤ 6 ∧ 1 ≤ rw ∧ rw ≤ 64 ∧ P.1 0 = nI nl ∧ M.1 7 = nI nl ∧ P.1 4 = nI nd ∧ M.1 10 = nI nd ∧ P.1 5 = nI rw ∧ M.1 11 = nI rw ∧
  (∀ i, i < nd → P.2.1 6 i = nI (dz i) ∧ M.2.1 9 i = nI (dz i) ∧ 2 ≤ dz i ∧ dz i ≤ 8) ∧
  (∀ k, k < nl → P.2.1 1 k = nI (kd k) ∧ M.2.1 2 k = nI (kd k) ∧ kd k ≤ 8 ∧ M.2.1 3 k = nI (ce k) ∧ ce k < 8 ∧ (kd k ≠ 8 → P.2.1 2 k = nI (ce k)) ∧ (kd k = 8 → P.2.1 3 (3 * k) = nI (ce k)) ∧
    (kd k = 0 → P.2.1 3 (3 * k) = nI (dn k) ∧ dn k < nd) ∧ (kd k = 1 → P.2.1 3 (3 * k) = nI (aa k) ∧ M.2.1 4 k = nI (aa k) ∧ aa k ≤ 4) ∧ (kd k = 2 → P.2.1 3 (3 * k) = nI (aa k) ∧ M.2.1 4 k = nI (aa k) ∧ aa k ≤ 15) ∧
    (3 ≤ kd k → kd k ≤ 7 → P.2.1 3 (3 * k) = nI (aa k) ∧ M.2.1 4 k = nI (aa k) ∧ aa k < 8 ∧ P.2.1 3 (3 * k + 1) = nI (ab k) ∧ M.2.1 5 k = nI (ab k) ∧ ab k < 8) ∧ (kd k = 7 → P.2.1 3 (3 * k + 2) = nI (ac k) ∧ M.2.1 6 k = nI (ac k) ∧ ac k < 8)) ∧
  (∀ k, k < nl → dn k = fb_sm (fun i => if kd i = 0 then 1 else 0) k) ∧ fb_sm (fun i => if kd i = 0 then 1 else 0) nl = nd
/-- what is left of a row behind the j last draws -/
def rst (dz : Nat → Nat) (nd row : Nat) : Nat → Nat
  | 0 => row
  | j + 1 => rst dz nd row j / dz (nd - 1 - j)
def fig (dz : Nat → Nat) (nd row i : Nat) : Nat := rst dz nd row (nd - 1 - i) % dz i
theorem rst_le (dz : Nat → Nat) (nd row : Nat) : ∀ j, rst dz nd row j ≤ row
  | 0 => Nat.le_refl _
  | j + 1 => Nat.le_trans (Nat.div_le_self _ _) (rst_le dz nd row j)
section PROG1
variable {P M : PS} {nl nd rw : Nat} {kd ce aa ab ac dn dz : Nat → Nat}
theorem spread8 (hG : PG P M nl nd rw kd ce aa ab ac dn dz) {row : Nat} (hrow : row < 64) : ∃ P2, f_X2_spreadRow P (nI row) = some P2 ∧ SX [] [7] [] P P2 ∧ ∀ i, i < nd → P2.2.1 7 i = nI (fig dz nd row i) := by
  obtain ⟨a1, a2, a3, a4, a5, a6, a7, a8, a9, a10, aD, aK, aN, aS⟩ := id hG
  have key : ∃ P2, L_X2_spreadRow_9 FU (nI row) (zI ((nd : Int) - 1)) P = some P2 ∧ (SX [] [7] [] P P2 ∧ ∀ i, i < nd → P2.2.1 7 i = nI (fig dz nd row i)) := by
    unfold L_X2_spreadRow_9
    refine loopF_inv (fun j x => x.1 = nI (rst dz nd row j) ∧ x.2.1 = zI ((nd : Int) - 1 - j) ∧ SX [] [7] [] P x.2.2 ∧ ∀ i, nd - j ≤ i → i < nd → x.2.2.2.1 7 i = nI (fig dz nd row i)) _ nd ?_ ?_ nd 0 (nI row, zI ((nd : Int) - 1), P) FU (by omega) (FU_lt (by omega)) ⟨rfl, by rw [show ((nd : Int) - 1 - (0 : Nat)) = (nd : Int) - 1 by omega], SX.rf, fun i h1 h2 => by omega⟩
    · rintro j hj ⟨v, u, U⟩ ⟨k1, k2, k3, k4⟩
      dsimp only at k1 k2 k3 k4
      subst k1
      have e : zI ((nd : Int) - 1 - j) = nI (nd - 1 - j) := by rw [← zI_nat]; congr 1; omega
      rw [e] at k2
      subst k2
      left
      obtain ⟨d1, d2, d3, d4⟩ := aD (nd - 1 - j) (by omega)
      have l1 := rst_le dz nd row j
      have d5 : U.2.1 6 (nd - 1 - j) = nI (dz (nd - 1 - j)) := by rw [k3.2.1 6 (by decide)]; exact d1
      refine ⟨(nI (rst dz nd row (j + 1)), zI ((nd : Int) - 1 - (j + 1 : Nat)), sA U 7 (upd (U.2.1 7) (nd - 1 - j) (nI (fig dz nd row (nd - 1 - j))))), ?_, rfl, rfl, k3.sA _ (by decide), fun i h1 h2 => ?_⟩
      · unfold B_X2_spreadRow_9
        dsimp only
        rw [if_neg (nI_pos (by omega)), rdI_nI (by omega) (by decide), d5]
        simp only [b1_some]
        rw [if_neg (nI_nle (by omega) (by omega)), rmI_nI (by omega) (by omega) (by omega)]
        simp only [b1_some]
        rw [wA_nI (by omega) (by decide), dvI_nI (by omega) (by omega) (by omega)]
        simp only [b1_some, b2_some, bn]
        have e1 : nI (nd - 1 - j) + (-1) = zI ((nd : Int) - 1 - (j + 1 : Nat)) := by
          rw [← zI_nat, show (-1 : Int32) = zI (-1) from rfl, zI_add]; congr 1; omega
        rw [e1]
        have e2 : fig dz nd row (nd - 1 - j) = rst dz nd row j % dz (nd - 1 - j) := by
          unfold fig; rw [show nd - 1 - (nd - 1 - j) = j by omega]
        rw [e2]
        rfl
      · show upd (U.2.1 7) (nd - 1 - j) (nI (fig dz nd row (nd - 1 - j))) i = _
        rw [up_s]
        by_cases z : i = nd - 1 - j
        · rw [if_pos z, z]
        · rw [if_neg z]; exact k4 i (by omega) h2
    · rintro ⟨v, u, U⟩ ⟨k1, k2, k3, k4⟩
      dsimp only at k1 k2 k3 k4
      rw [show ((nd : Int) - 1 - (nd : Nat)) = -1 by omega] at k2
      subst k1 k2
      refine ⟨U, ?_, k3, fun i hi => k4 i (by omega) hi⟩
      unfold B_X2_spreadRow_9
      dsimp only
      rw [if_pos (show zI (-1) < 0 by decide)]
  obtain ⟨P2, b1', b2'⟩ := key
  refine ⟨P2, ?_, b2'⟩
  unfold f_X2_spreadRow
  simp only [bn]
  have e : nI nd - 1 = zI ((nd : Int) - 1) := by
    rw [← zI_nat, show (1 : Int32) = zI 1 from rfl]
    unfold zI
    rw [← Int32.ofInt_sub]
  rw [a7, e, b1']
  rfl
theorem drawn10 (hG : PG P M nl nd rw kd ce aa ab ac dn dz) {row d : Nat} (hrow : row < 64) (hd : d < nd) (N : PS) (h10 : N.1 10 = M.1 10) (h9 : N.2.1 9 = M.2.1 9) : f_X10_drawn N (nI row) (nI d) = some (nI (fig dz nd row d)) := by
  obtain ⟨a1, a2, a3, a4, a5, a6, a7, a8, a9, a10, aD, aK, aN, aS⟩ := id hG
  have l1 := rst_le dz nd row (nd - 1 - d)
  have key : L_X10_drawn_10 N (nI d) FU (nI row) (nI (nd - 1)) = some (nI (rst dz nd row (nd - 1 - d))) := by
    unfold L_X10_drawn_10
    refine loopF_seq0 (fun j => (nI (rst dz nd row j), nI (nd - 1 - j))) (nd - 1 - d) _ rfl (fun j hj => ?_) ?_ (FU_lt (by omega))
    · obtain ⟨d1, d2, d3, d4⟩ := aD (nd - 1 - j) (by omega)
      have l2 := rst_le dz nd row j
      unfold B_X10_drawn_10
      dsimp only
      rw [if_neg (nI_ge (by omega) (by omega)), h9, rdI_nI (by omega) (by decide), d2]
      simp only [b1_some]
      rw [dvI_nI (by omega) (by omega) (by omega)]
      simp only [b1_some, bn]
      rw [show nd - 1 - j = (nd - 1 - (j + 1)) + 1 by omega, pk_m1]
      rw [show nd - 1 - (j + 1) + 1 = nd - 1 - j by omega]
      rfl
    · unfold B_X10_drawn_10
      dsimp only
      rw [if_pos (nI_le (by omega) (by omega))]
  obtain ⟨d1, d2, d3, d4⟩ := aD d hd
  unfold f_X10_drawn
  simp only [bn]
  rw [h10, a8, nI_m1 (by omega), key]
  simp only [b1_some]
  rw [h9, rdI_nI (by omega) (by decide), d2]
  simp only [b1_some]
  rw [rmI_nI (by omega) (by omega) (by omega)]
  rfl
end PROG1
