/-! the rows by which out is not 0, kept -/
theorem shl32 : ∀ k, k < 32 → (1 : Int32) <<< (nI k &&& 31) = nI (2 ^ k) := by decide +kernel
theorem or_bits {a k i : Nat} (h : (a ||| 2 ^ k) / 2 ^ i % 2 = 1) : i = k ∨ a / 2 ^ i % 2 = 1 := by
  have t := Nat.testBit_or a (2 ^ k) i
  rw [Nat.testBit_two_pow] at t
  simp only [Nat.testBit_eq_decide_div_mod_eq, h] at t
  by_cases e : k = i
  · exact Or.inl e.symm
  · right
    simp [e] at t
    exact t
section PROG8
variable {P S M : PS} {nl nd rw wd : Nat} {kd ce aa ab ac dn dz : Nat → Nat}
theorem nz8 (h : RPg P S M nl nd rw wd kd ce aa ab ac dn dz) {inp : Nat} (hi : inp < 32) : ∃ P2, f_X2_notZeroRows P (nI inp) = some (lN (nzN rw (oN kd ce aa ab ac dn dz nl nd) inp), P2) ∧ RPg P2 S M nl nd rw wd kd ce aa ab ac dn dz := by
  obtain ⟨a, b, c, d, e, ⟨kn, f1, f2, f3⟩, g⟩ := id h
  unfold f_X2_notZeroRows
  rw [if_neg (nI_pos (by omega)), if_pos (show nI inp < 32 from nI_lt (b := 32) hi (by decide)), f2, bit32 f1 hi]
  have q : kn / 2 ^ inp % 2 = 0 ∨ kn / 2 ^ inp % 2 = 1 := by omega
  rcases q with q | q
  · obtain ⟨⟨v, P1⟩, k1, k2, k3⟩ := nz8L h hi
    dsimp only at k2 k3
    subst k2
    have hU := h.frP k3
    rw [q, if_pos (show nI 0 = 0 from rfl), k1]
    simp only [b2_some]
    rw [wL_nI hi (by decide)]
    simp only [b1_some, bn]
    rw [rdL_nI hi (by decide)]
    have r9 : (sI (sL P1 9 (vp_updL (P1.2.2 9) inp (lN (nzN rw (oN kd ce aa ab ac dn dz nl nd) inp)))) 10 ((sL P1 9 (vp_updL (P1.2.2 9) inp (lN (nzN rw (oN kd ce aa ab ac dn dz nl nd) inp)))).1 10 ||| (1 : Int32) <<< (nI inp &&& 31))).2.2 9 = vp_updL (P1.2.2 9) inp (lN (nzN rw (oN kd ce aa ab ac dn dz nl nd) inp)) := rfl
    simp only [b1_some]
    rw [r9, vp_s, if_pos rfl]
    have u10 : P1.1 10 = nI kn := (k3.1 10 (by decide)).trans f2
    refine ⟨_, rfl, hU.1.fr (fun k hk => ?_) (fun k hk => rfl) (fun _ _ => rfl) (fun _ _ => rfl), b, c, d, e, ⟨kn ||| 2 ^ inp, Nat.or_lt_two_pow f1 (Nat.pow_lt_pow_right (by decide) hi), ?_, fun i hi2 z => ?_⟩, g⟩
    · rcases hk with rfl | rfl | rfl <;> rfl
    · show P1.1 10 ||| (1 : Int32) <<< (nI inp &&& 31) = _
      rw [u10, shl32 inp hi, fa_or]
    · rw [r9, vp_s]
      by_cases w : i = inp
      · rw [if_pos w, w]
      · rw [if_neg w, k3.2.2 9 (by decide)]
        rcases or_bits z with z | z
        · exact absurd z w
        · exact f3 i hi2 z
  · rw [q, if_neg (show ¬ nI 1 = 0 from one_ne0)]
    simp only [b1_some]
    rw [rdL_nI hi (by decide), f3 inp hi q]
    exact ⟨P, rfl, h⟩
end PROG8
