/-! programs: what a run gives out -/
def valP (kd aa ab ac : Nat → Nat) (fg inp k : Nat) (C : Nat → Nat) : Nat :=
  if kd k = 0 then fg else if kd k = 1 then inp / 2 ^ aa k % 2 else if kd k = 2 then aa k else if kd k = 3 then (C (aa k) + C (ab k)) % 16 else if kd k = 4 then (C (aa k) * C (ab k)) % 16 else if kd k = 5 then C (aa k) ^^^ C (ab k) else if kd k = 6 then (if C (ab k) ≤ C (aa k) then 0 else 1) else if C (aa k) = 0 then C (ac k) else C (ab k)
def celP (kd ce aa ab ac dn : Nat → Nat) (fg : Nat → Nat) (inp : Nat) : Nat → Nat → Nat
  | 0 => fun _ => 0
  | k + 1 => if kd k = 8 then celP kd ce aa ab ac dn fg inp k else fun x => if x = ce k then valP kd aa ab ac (fg (dn k)) inp k (celP kd ce aa ab ac dn fg inp k) else celP kd ce aa ab ac dn fg inp k x
def outP (kd ce aa ab ac dn : Nat → Nat) (fg : Nat → Nat) (inp : Nat) : Nat → Nat
  | 0 => 0
  | k + 1 => if kd k = 8 then celP kd ce aa ab ac dn fg inp k (ce k) else outP kd ce aa ab ac dn fg inp k
section PROG2
variable {P M : PS} {nl nd rw : Nat} {kd ce aa ab ac dn dz : Nat → Nat}
theorem fig_lt (hG : PG P M nl nd rw kd ce aa ab ac dn dz) {row i : Nat} (hi : i < nd) : fig dz nd row i < 16 := by
  obtain ⟨a1, a2, a3, a4, a5, a6, a7, a8, a9, a10, aD, aK, aN, aS⟩ := id hG
  obtain ⟨d1, d2, d3, d4⟩ := aD i hi
  unfold fig
  have := Nat.mod_lt (rst dz nd row (nd - 1 - i)) (show 0 < dz i by omega)
  omega
theorem val_lt (hG : PG P M nl nd rw kd ce aa ab ac dn dz) {k inp fg : Nat} (hk : k < nl) (hf : kd k = 0 → fg < 16) {C : Nat → Nat} (hC : ∀ x, C x < 16) : valP kd aa ab ac fg inp k C < 16 := by
  obtain ⟨a1, a2, a3, a4, a5, a6, a7, a8, a9, a10, aD, aK, aN, aS⟩ := id hG
  obtain ⟨b1', b2', b3', b4', b5', b6', b7', b8', b9', b10', b11', b12'⟩ := aK k hk
  unfold valP
  have h1 := hC (aa k)
  have h2 := hC (ab k)
  have h3 := hC (ac k)
  by_cases g0 : kd k = 0
  · rw [if_pos g0]; exact hf g0
  · rw [if_neg g0]
    by_cases g1 : kd k = 1
    · rw [if_pos g1]; omega
    · rw [if_neg g1]
      by_cases g2 : kd k = 2
      · rw [if_pos g2]; have := (b10' g2).2.2; omega
      · rw [if_neg g2]
        by_cases g3 : kd k = 3
        · rw [if_pos g3]; exact Nat.mod_lt _ (by decide)
        · rw [if_neg g3]
          by_cases g4 : kd k = 4
          · rw [if_pos g4]; exact Nat.mod_lt _ (by decide)
          · rw [if_neg g4]
            by_cases g5 : kd k = 5
            · rw [if_pos g5]; exact Nat.xor_lt_two_pow (n := 4) h1 h2
            · rw [if_neg g5]
              by_cases g6 : kd k = 6
              · rw [if_pos g6]; split <;> omega
              · rw [if_neg g6]; split <;> omega
theorem cel_lt (hG : PG P M nl nd rw kd ce aa ab ac dn dz) {row inp : Nat} : ∀ k, k ≤ nl → ∀ x, celP kd ce aa ab ac dn (fig dz nd row) inp k x < 16 := by
  intro k
  induction k with
  | zero => intro _ x; show 0 < 16; decide
  | succ k ih =>
    intro hk x
    obtain ⟨a1, a2, a3, a4, a5, a6, a7, a8, a9, a10, aD, aK, aN, aS⟩ := id hG
    obtain ⟨b1', b2', b3', b4', b5', b6', b7', b8', b9', b10', b11', b12'⟩ := aK k (by omega)
    rw [celP]
    by_cases g : kd k = 8
    · rw [if_pos g]; exact ih (by omega) x
    · rw [if_neg g]
      by_cases z : x = ce k
      · rw [if_pos z]; exact val_lt hG (by omega) (fun q => fig_lt hG (b8' q).2) (ih (by omega))
      · rw [if_neg z]; exact ih (by omega) x
theorem res8 (hG : PG P M nl nd rw kd ce aa ab ac dn dz) {k inp : Nat} (hk : k < nl) (h8 : kd k ≠ 8) (hi : inp < 32) {fg : Nat → Nat} {C : Nat → Nat} {U : PS} (s : SX [] [7, 8] [] P U) (hf : ∀ i, i < nd → U.2.1 7 i = nI (fg i)) (hc : ∀ x, x < 8 → U.2.1 8 x = nI (C x)) (hC : ∀ x, C x < 16) : f_X2_resultOf U (nI k) (nI inp) = some (nI (valP kd aa ab ac (fg (dn k)) inp k C)) := by
  obtain ⟨a1, a2, a3, a4, a5, a6, a7, a8, a9, a10, aD, aK, aN, aS⟩ := id hG
  obtain ⟨b1', b2', b3', b4', b5', b6', b7', b8', b9', b10', b11', b12'⟩ := aK k hk
  have u3 : U.2.1 3 = P.2.1 3 := s.2.1 3 (by decide)
  have u1 : U.2.1 1 = P.2.1 1 := s.2.1 1 (by decide)
  have e3 : (3 : Int32) * nI k = nI (3 * k) := by rw [show (3 : Int32) = nI 3 from rfl, pk_mul]
  have e1 : nI (3 * k) + 1 = nI (3 * k + 1) := nI_1 _
  have e2 : nI (3 * k) + 2 = nI (3 * k + 2) := nI_add (3 * k) 2
  have h1 := hC (aa k)
  have h2 := hC (ab k)
  have mul1 : C (aa k) * C (ab k) ≤ 16 * 16 := Nat.mul_le_mul (by omega) (by omega)
  unfold f_X2_resultOf f_X2_joined
  simp only [e3, e1, e2, u3, u1, rdI_nI (show 3 * k < 60 by omega) (show 60 < 2 ^ 31 by decide), rdI_nI (show 3 * k + 1 < 60 by omega) (show 60 < 2 ^ 31 by decide), rdI_nI (show 3 * k + 2 < 60 by omega) (show 60 < 2 ^ 31 by decide), rdI_nI (show k < 20 by omega) (show 20 < 2 ^ 31 by decide), b1_some, b1']
  have q : kd k = 0 ∨ kd k = 1 ∨ kd k = 2 ∨ kd k = 3 ∨ kd k = 4 ∨ kd k = 5 ∨ kd k = 6 ∨ kd k = 7 := by omega
  unfold valP
  rcases q with q | q | q | q | q | q | q | q
  · obtain ⟨c1, c2⟩ := b8' q
    rw [q, if_pos (show nI 0 = 0 from rfl), c1, rdI_nI (by omega) (by decide), hf _ c2]
    rfl
  · obtain ⟨c1, c2, c3⟩ := b9' q
    rw [q, if_neg (show ¬ nI 1 = 0 by decide), if_pos (show nI 1 = 1 from rfl), c1, bitI (by omega) (by omega)]
    rfl
  · obtain ⟨c1, c2, c3⟩ := b10' q
    rw [q, if_neg (show ¬ nI 2 = 0 by decide), if_neg (show ¬ nI 2 = 1 by decide), if_pos (show nI 2 = 2 from rfl), c1]
    rfl
  · obtain ⟨c1, c2, c3, c4, c5, c6⟩ := b11' (by omega) (by omega)
    rw [q, if_neg (show ¬ nI 3 = 0 by decide), if_neg (show ¬ nI 3 = 1 by decide), if_neg (show ¬ nI 3 = 2 by decide), c1, c4, rdI_nI c3 (by decide), rdI_nI c6 (by decide), hc _ c3, hc _ c6]
    simp only [b1_some]
    rw [if_pos (show nI 3 = 3 from rfl), nI_add, pk_andN (m := 15) (by omega) 4 rfl]
    rfl
  · obtain ⟨c1, c2, c3, c4, c5, c6⟩ := b11' (by omega) (by omega)
    rw [q, if_neg (show ¬ nI 4 = 0 by decide), if_neg (show ¬ nI 4 = 1 by decide), if_neg (show ¬ nI 4 = 2 by decide), c1, c4, rdI_nI c3 (by decide), rdI_nI c6 (by decide), hc _ c3, hc _ c6]
    simp only [b1_some]
    rw [if_neg (show ¬ nI 4 = 3 by decide), if_pos (show nI 4 = 4 from rfl), pk_mul, pk_andN (m := 15) (by omega) 4 rfl]
    rfl
  · obtain ⟨c1, c2, c3, c4, c5, c6⟩ := b11' (by omega) (by omega)
    rw [q, if_neg (show ¬ nI 5 = 0 by decide), if_neg (show ¬ nI 5 = 1 by decide), if_neg (show ¬ nI 5 = 2 by decide), c1, c4, rdI_nI c3 (by decide), rdI_nI c6 (by decide), hc _ c3, hc _ c6]
    simp only [b1_some]
    rw [if_neg (show ¬ nI 5 = 3 by decide), if_neg (show ¬ nI 5 = 4 by decide), if_pos (show nI 5 = 5 from rfl), fb_xorI]
    rfl
  · obtain ⟨c1, c2, c3, c4, c5, c6⟩ := b11' (by omega) (by omega)
    rw [q, if_neg (show ¬ nI 6 = 0 by decide), if_neg (show ¬ nI 6 = 1 by decide), if_neg (show ¬ nI 6 = 2 by decide), c1, c4, rdI_nI c3 (by decide), rdI_nI c6 (by decide), hc _ c3, hc _ c6]
    simp only [b1_some]
    rw [if_neg (show ¬ nI 6 = 3 by decide), if_neg (show ¬ nI 6 = 4 by decide), if_neg (show ¬ nI 6 = 5 by decide), if_pos (show nI 6 = 6 from rfl)]
    by_cases g : C (ab k) ≤ C (aa k)
    · rw [if_pos (nI_le g (by omega)), if_neg (by decide), if_neg (by decide), if_neg (by decide), if_neg (by decide), if_neg (by decide), if_neg (by decide), if_pos trivial, if_pos g]; rfl
    · rw [if_neg (nI_ge (by omega) (by omega)), if_neg (by decide), if_neg (by decide), if_neg (by decide), if_neg (by decide), if_neg (by decide), if_neg (by decide), if_pos trivial, if_neg g]; rfl
  · obtain ⟨c1, c2, c3, c4, c5, c6⟩ := b11' (by omega) (by omega)
    obtain ⟨d1, d2, d3⟩ := b12' q
    rw [q, if_neg (show ¬ nI 7 = 0 by decide), if_neg (show ¬ nI 7 = 1 by decide), if_neg (show ¬ nI 7 = 2 by decide), c1, c4, d1, rdI_nI c3 (by decide), rdI_nI c6 (by decide), rdI_nI d3 (by decide), hc _ c3, hc _ c6, hc _ d3]
    simp only [b1_some]
    rw [if_neg (show ¬ nI 7 = 3 by decide), if_neg (show ¬ nI 7 = 4 by decide), if_neg (show ¬ nI 7 = 5 by decide), if_neg (show ¬ nI 7 = 6 by decide)]
    by_cases g : C (aa k) = 0
    · rw [if_pos (by rw [g]; rfl), if_neg (by decide), if_neg (by decide), if_neg (by decide), if_neg (by decide), if_neg (by decide), if_neg (by decide), if_neg (by decide), if_pos g]; rfl
    · rw [if_neg (nI_ne0 (by omega) (by omega)), if_neg (by decide), if_neg (by decide), if_neg (by decide), if_neg (by decide), if_neg (by decide), if_neg (by decide), if_neg (by decide), if_neg g]; rfl
end PROG2
