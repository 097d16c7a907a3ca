/-! rows by bits -/
theorem shL64 : ∀ k, k < 64 → (1 : Int64) <<< ((nI k).toInt64 &&& 63) = lN (2 ^ k) := by decide +kernel
theorem lN_or (a b : Nat) : lN a ||| lN b = lN (a ||| b) := by
  apply Int64.toBitVec_inj.mp
  rw [Int64.toBitVec_or, lN_bv, lN_bv, lN_bv]
  apply BitVec.eq_of_toNat_eq
  rw [BitVec.toNat_or, BitVec.toNat_ofNat, BitVec.toNat_ofNat, BitVec.toNat_ofNat, Nat.or_mod_two_pow]
theorem or_pow {a k : Nat} (h : a < 2 ^ k) : a ||| 2 ^ k = a + 2 ^ k := by
  have := Nat.two_pow_add_eq_or_of_lt h 1
  rw [Nat.mul_one] at this
  rw [Nat.or_comm, ← this, Nat.add_comm]
theorem or_row {a k : Nat} (hk : k < 64) (h : a < 2 ^ k) : lN a ||| ((1 : Int64) <<< ((nI k).toInt64 &&& 63)) = lN (a + 2 ^ k) := by
  rw [shL64 k hk, lN_or, or_pow h]
theorem bits_lt {f : Nat → Nat} (hf : ∀ k, f k ≤ 1) : ∀ n, fb_sm (fun k => f k * 2 ^ k) n < 2 ^ n
  | 0 => Nat.one_pos
  | n + 1 => by
    have := bits_lt hf n
    have h1 : f n * 2 ^ n ≤ 1 * 2 ^ n := Nat.mul_le_mul_right _ (hf n)
    rw [fb_sm_succ, Nat.pow_succ]
    omega
section PROG7
variable {P S M : PS} {nl nd rw wd : Nat} {kd ce aa ab ac dn dz : Nat → Nat}
theorem nz8L (h : RPg P S M nl nd rw wd kd ce aa ab ac dn dz) {inp : Nat} (hi : inp < 32) : ∃ r, L_X2_notZeroRows_28 (nI inp) FU 0 0 P = some r ∧ (r.1 = lN (nzN rw (oN kd ce aa ab ac dn dz nl nd) inp) ∧ SX [] [7, 8] [] P r.2) := by
  obtain ⟨a, b, c, d, e, ⟨kn, f1, f2, f3⟩, g⟩ := id h
  have a9 : P.1 5 = nI rw := a.2.2.2.2.2.2.2.2.1
  have l2 : rw ≤ 64 := a.2.2.2.1
  have key : ∃ r, L_X2_notZeroRows_28 (nI inp) FU 0 0 P = some r ∧ (r.1 = lN (nzN rw (oN kd ce aa ab ac dn dz nl nd) inp) ∧ SX [] [7, 8] [] P r.2) := by
    unfold L_X2_notZeroRows_28
    refine loopF_inv (fun j x => x.1 = lN (fb_sm (fun row => (if oN kd ce aa ab ac dn dz nl nd inp row = 0 then 0 else 1) * 2 ^ row) j) ∧ x.2.1 = nI j ∧ SX [] [7, 8] [] P x.2.2) _ rw ?_ ?_ rw 0 (0, 0, P) FU (by omega) (FU_lt (by omega)) ⟨rfl, rfl, SX.rf⟩
    · rintro j hj ⟨v, u, U⟩ ⟨k1, k2, k3⟩
      dsimp only at k1 k2 k3
      subst k1 k2
      left
      have hU := h.frP k3
      obtain ⟨P2, x1, x2⟩ := out8 hU.1 (row := j) (inp := inp) (by omega) hi
      have u5 : U.1 5 = nI rw := (k3.1 5 (by decide)).trans a9
      have bl := bits_lt (f := fun row => if oN kd ce aa ab ac dn dz nl nd inp row = 0 then 0 else 1) (fun k => by split <;> omega) j
      have hc := cel_lt a (row := j) (inp := inp)
      have ob : outP kd ce aa ab ac dn (fig dz nd j) inp nl < 2 ^ 31 := by
        have : ∀ k, k ≤ nl → outP kd ce aa ab ac dn (fig dz nd j) inp k < 16 := by
          intro k
          induction k with
          | zero => intro _; show 0 < 16; decide
          | succ k ih =>
            intro hk
            rw [outP]
            split
            · exact hc k (by omega) _
            · exact ih (by omega)
        have := this nl (Nat.le_refl _)
        omega
      unfold B_X2_notZeroRows_28
      dsimp only
      rw [u5, if_neg (nI_ge hj (by omega)), x1]
      simp only [b2_some, bn]
      have oo : oN kd ce aa ab ac dn dz nl nd inp j = outP kd ce aa ab ac dn (fig dz nd j) inp nl := rfl
      have dz0 : nI (outP kd ce aa ab ac dn (fig dz nd j) inp nl) = 0 ↔ oN kd ce aa ab ac dn dz nl nd inp j = 0 := by rw [oo]; exact nI_eq (b := 0) ob (by decide)
      rw [or_row (by omega) bl]
      by_cases z : oN kd ce aa ab ac dn dz nl nd inp j = 0
      · rw [if_pos (dz0.mpr z)]
        simp only [b1_some, nI_1]
        refine ⟨_, rfl, ?_, rfl, k3.tr x2⟩
        rw [fb_sm_succ, if_pos z, Nat.zero_mul]
        rfl
      · rw [if_neg (fun k => z (dz0.mp k))]
        simp only [b1_some, nI_1]
        refine ⟨_, rfl, ?_, rfl, k3.tr x2⟩
        rw [fb_sm_succ, if_neg z, Nat.one_mul]
    · rintro ⟨v, u, U⟩ ⟨k1, k2, k3⟩
      dsimp only at k1 k2 k3
      subst k1 k2
      have u5 : U.1 5 = nI rw := (k3.1 5 (by decide)).trans a9
      refine ⟨(_, U), ?_, rfl, k3⟩
      unfold B_X2_notZeroRows_28
      dsimp only
      rw [u5, if_pos (nI_le (Nat.le_refl _) (by omega))]
      rfl
  exact key
end PROG7
