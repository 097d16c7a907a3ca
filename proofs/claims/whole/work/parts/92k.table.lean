/-! the reference's table of what is right; what the calls on odds stand on -/
/-- both sides' tables: rt inp row is 1, if it is right -/
def TR (S P M : PS) (nd rw wd : Nat) (dz : Nat → Nat) (rt : Nat → Nat → Nat) : Prop :=
  wd ≤ 5 ∧ nd ≤ 6 ∧ 1 ≤ rw ∧ rw ≤ 64 ∧ rw = prN dz nd ∧ (∀ i r, rt i r ≤ 1) ∧ S.1 1 = nI wd ∧ P.1 4 = nI nd ∧ P.1 5 = nI rw ∧ M.1 12 = nI wd ∧ M.1 10 = nI nd ∧ M.1 11 = nI rw ∧
  (∀ i, i < nd → P.2.1 6 i = nI (dz i) ∧ M.2.1 9 i = nI (dz i) ∧ 2 ≤ dz i ∧ dz i ≤ 8) ∧
  (∀ inp, inp < 2 ^ wd → S.2.2 4 inp = lN (fb_sm (fun r => rt inp r * 2 ^ r) rw)) ∧
  (∀ r, r < rw → S.2.1 5 r = nI (fb_sm (fun i => rt i r * 2 ^ i) (2 ^ wd))) ∧
  (∀ i, i < 2 ^ wd → ∀ r, r < rw → M.2.1 34 (64 * i + r) = nI (rt i r))
section PROG10
variable {P S M : PS} {nl nd rw wd : Nat} {kd ce aa ab ac dn dz : Nat → Nat}
theorem out_lt (hG : PG P M nl nd rw kd ce aa ab ac dn dz) {row inp : Nat} : outP kd ce aa ab ac dn (fig dz nd row) inp nl < 16 := by
  have hc := cel_lt hG (row := row) (inp := inp)
  have : ∀ k, k ≤ nl → outP kd ce aa ab ac dn (fig dz nd row) inp k < 16 := by
    intro k
    induction k with
    | zero => intro _; show 0 < 16; decide
    | succ k ih =>
      intro hk
      rw [outP]
      split
      · exact hc k (by omega) _
      · exact ih (by omega)
  exact this nl (Nat.le_refl _)
theorem rt10 (h : RPg P S M nl nd rw wd kd ce aa ab ac dn dz) {i r : Nat} (hi : i < 2 ^ wd) (hr : r < rw) : ∃ M2, f_X10_isRight M (nI i) (nI r) = some (nI (rtN (oN kd ce aa ab ac dn dz nl nd) (S.1 2) i r), M2) ∧ SX [] [33] [] M M2 := by
  have l := pw5 h.2.1
  have l2 : rw ≤ 64 := h.1.2.2.2.1
  obtain ⟨M2, y1, y2⟩ := out10 h.1 (row := r) (inp := i) (by omega) (by omega)
  have t13 : M2.1 13 = S.1 2 := (y2.1 13 (by simp)).trans h.2.2.2.2.1.symm
  have ob := out_lt h.1 (row := r) (inp := i)
  refine ⟨M2, ?_, y2⟩
  unfold f_X10_isRight
  rw [y1]
  simp only [b2_some, t13]
  unfold rtN
  have oo : oN kd ce aa ab ac dn dz nl nd i r = outP kd ce aa ab ac dn (fig dz nd r) i nl := rfl
  rw [oo]
  generalize outP kd ce aa ab ac dn (fig dz nd r) i nl = O at ob
  have z0 : nI O = 0 ↔ O = 0 := nI_eq (b := 0) (by omega) (by decide)
  by_cases g1 : O = 0 <;> by_cases g2 : tbit (S.1 2) i
  · rw [if_pos (z0.mpr g1), if_pos g1, if_pos g2, if_pos g2]; rfl
  · rw [if_pos (z0.mpr g1), if_pos g1, if_neg g2, if_neg g2]; rfl
  · rw [if_neg (fun k => g1 (z0.mp k)), if_neg g1, if_pos g2, if_pos g2]; rfl
  · rw [if_neg (fun k => g1 (z0.mp k)), if_neg g1, if_neg g2, if_neg g2]; rfl
theorem lay10r (h : RPg P S M nl nd rw wd kd ce aa ab ac dn dz) {i : Nat} (hi : i < 2 ^ wd) {N : PS} (hN : SX [] [33, 34] [] M N) : ∃ N2, L_X10_layGood_14 (nI i) FU 0 N = some N2 ∧ (SX [] [33, 34] [] M N2 ∧ (∀ r, r < rw → N2.2.1 34 (64 * i + r) = nI (rtN (oN kd ce aa ab ac dn dz nl nd) (S.1 2) i r)) ∧ ∀ k, k < 64 * i → N2.2.1 34 k = N.2.1 34 k) := by
  have l := pw5 h.2.1
  have l2 : rw ≤ 64 := h.1.2.2.2.1
  have m11 : M.1 11 = nI rw := h.1.2.2.2.2.2.2.2.2.2.1
  unfold L_X10_layGood_14
  have key : ∃ N2, loopF (fun x : Int32 × PS => B_X10_layGood_14 (nI i) x.1 x.2) FU (0, N) = some N2 ∧ (SX [] [33, 34] [] M N2 ∧ (∀ r, r < rw → N2.2.1 34 (64 * i + r) = nI (rtN (oN kd ce aa ab ac dn dz nl nd) (S.1 2) i r)) ∧ ∀ k, k < 64 * i → N2.2.1 34 k = N.2.1 34 k) := by
    refine loopF_inv (fun j x => x.1 = nI j ∧ SX [] [33, 34] [] M x.2 ∧ (∀ r, r < j → x.2.2.1 34 (64 * i + r) = nI (rtN (oN kd ce aa ab ac dn dz nl nd) (S.1 2) i r)) ∧ ∀ k, k < 64 * i → x.2.2.1 34 k = N.2.1 34 k) _ rw ?_ ?_ rw 0 (0, N) FU (by omega) (FU_lt (by omega)) ⟨rfl, hN, fun r h => by omega, fun k _ => rfl⟩
    · rintro j hj ⟨u, U⟩ ⟨k1, k2, k3, k4⟩
      dsimp only at k1 k2 k3 k4
      subst k1
      left
      have hU : RPg P S U nl nd rw wd kd ce aa ab ac dn dz := h.frM (fun k _ => k2.1 k (by simp)) (fun k hk => k2.2.1 k (by simp; omega))
      obtain ⟨M2, x1, x2⟩ := rt10 hU hi hj
      have u11 : U.1 11 = nI rw := (k2.1 11 (by simp)).trans m11
      have ix : 64 * nI i + nI j = nI (64 * i + j) := by rw [show (64 : Int32) = nI 64 from rfl, pk_mul, nI_add]
      refine ⟨(nI (j + 1), sA M2 34 (upd (M2.2.1 34) (64 * i + j) (nI (rtN (oN kd ce aa ab ac dn dz nl nd) (S.1 2) i j)))), ?_, rfl, ?_, fun r hr => ?_, fun k hk => ?_⟩
      · unfold B_X10_layGood_14
        dsimp only
        rw [u11, if_neg (nI_ge hj (by omega)), x1]
        simp only [b2_some]
        rw [ix, wA_nI (by omega) (by decide)]
        simp only [b1_some, bn, nI_1]
      · exact (k2.tr (x2.mono (fun _ h => h) (by simp) (fun _ h => h))).sA _ (by decide)
      · show upd (M2.2.1 34) (64 * i + j) _ (64 * i + r) = _
        rw [up_s]
        by_cases z : r = j
        · rw [if_pos (by omega), z]
        · rw [if_neg (by omega), x2.2.1 34 (by simp)]; exact k3 r (by omega)
      · show upd (M2.2.1 34) (64 * i + j) _ k = _
        rw [up_s, if_neg (by omega), x2.2.1 34 (by simp)]
        exact k4 k hk
    · rintro ⟨u, U⟩ ⟨k1, k2, k3, k4⟩
      dsimp only at k1 k2 k3 k4
      subst k1
      have u11 : U.1 11 = nI rw := (k2.1 11 (by simp)).trans m11
      refine ⟨U, ?_, k2, k3, k4⟩
      unfold B_X10_layGood_14
      dsimp only
      rw [u11, if_pos (nI_le (Nat.le_refl _) (by omega))]
  exact key
theorem lay10 (h : RPg P S M nl nd rw wd kd ce aa ab ac dn dz) : ∃ N2, f_X10_layGood M = some N2 ∧ SX [] [33, 34] [] M N2 ∧ ∀ i, i < 2 ^ wd → ∀ r, r < rw → N2.2.1 34 (64 * i + r) = nI (rtN (oN kd ce aa ab ac dn dz nl nd) (S.1 2) i r) := by
  have l0 : wd ≤ 5 := h.2.1
  have l := pw5 h.2.1
  have l2 : rw ≤ 64 := h.1.2.2.2.1
  have m12 : M.1 12 = nI wd := h.2.2.2.1
  have key : ∃ N2, L_X10_layGood_2 FU 0 M = some N2 ∧ (SX [] [33, 34] [] M N2 ∧ ∀ i, i < 2 ^ wd → ∀ r, r < rw → N2.2.1 34 (64 * i + r) = nI (rtN (oN kd ce aa ab ac dn dz nl nd) (S.1 2) i r)) := by
    unfold L_X10_layGood_2
    refine loopF_inv (fun j x => x.1 = nI j ∧ SX [] [33, 34] [] M x.2 ∧ (∀ i, i < j → ∀ r, r < rw → x.2.2.1 34 (64 * i + r) = nI (rtN (oN kd ce aa ab ac dn dz nl nd) (S.1 2) i r))) _ (2 ^ wd) ?_ ?_ (2 ^ wd) 0 (0, M) FU (by omega) (FU_lt (by omega)) ⟨rfl, SX.rf, fun r h => by omega⟩
    · rintro j hj ⟨u, U⟩ ⟨k1, k2, k3⟩
      dsimp only at k1 k2 k3
      subst k1
      left
      have u12 : U.1 12 = nI wd := (k2.1 12 (by simp)).trans m12
      obtain ⟨N2, y1, y2, y3, y4⟩ := lay10r h hj k2
      refine ⟨(nI (j + 1), N2), ?_, rfl, y2, fun i hi r hr => ?_⟩
      · unfold B_X10_layGood_2
        dsimp only
        rw [u12, shl1 (by omega), if_neg (nI_ge hj (by omega)), y1]
        simp only [b1_some, bn, nI_1]
      · show N2.2.1 34 (64 * i + r) = _
        by_cases z : i = j
        · rw [z]; exact y3 r hr
        · rw [y4 _ (by omega)]; exact k3 i (by omega) r hr
    · rintro ⟨u, U⟩ ⟨k1, k2, k3⟩
      dsimp only at k1 k2 k3
      subst k1
      have u12 : U.1 12 = nI wd := (k2.1 12 (by simp)).trans m12
      refine ⟨U, ?_, k2, k3⟩
      unfold B_X10_layGood_2
      dsimp only
      rw [u12, shl1 (by omega), if_pos (nI_le (Nat.le_refl _) (by omega))]
  obtain ⟨N2, y1, y2⟩ := key
  refine ⟨N2, ?_, y2⟩
  unfold f_X10_layGood
  rw [y1]
  rfl
/-- both sides made fresh -/
theorem fresh_ok (h : RPg P S M nl nd rw wd kd ce aa ab ac dn dz) : ∃ S2 P2 M2 rt, f_X9_fresh S P = some (S2, P2) ∧ f_X10_layGood M = some M2 ∧ RPg P2 S2 M2 nl nd rw wd kd ce aa ab ac dn dz ∧ SX [] [33, 34] [] M M2 ∧ TR S2 P2 M2 nd rw wd dz rt := by
  obtain ⟨S2, P2, x1, x2, x3⟩ := ref7 h
  obtain ⟨M2, y1, y2, y3⟩ := lay10 h
  have hN : RPg P2 S2 M2 nl nd rw wd kd ce aa ab ac dn dz := x2.frM (fun k _ => y2.1 k (by simp)) (fun k hk => y2.2.1 k (by simp; omega))
  have tt : S2.1 2 = S.1 2 := x2.2.2.2.2.1.trans h.2.2.2.2.1.symm
  refine ⟨S2, P2, M2, rtN (oN kd ce aa ab ac dn dz nl nd) (S.1 2), x1, y1, hN, y2, ?_⟩
  obtain ⟨⟨a1, a2, a3, a4, a5, a6, a7, a8, a9, a10, aD, aK, aN, aS⟩, b, c, d, e, f, q, z⟩ := hN
  obtain ⟨q1, q2⟩ := q x3
  rw [tt] at q1 q2
  exact ⟨b, a2, a3, a4, z, fun i r => rt_le _ _ _ _, c, a7, a9, d, a8, a10, aD, q1, q2, y3⟩
end PROG10
