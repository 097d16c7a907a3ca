/-! draw, inputs, run, right -/
theorem below10 (p : Int32) {n : Nat} (hn : n < 2 ^ 31) : f_X10_in p.toInt64 0 ((nI n - 1).toInt64) = some (if 0 ≤ p.toInt ∧ p.toInt < n then 1 else 0) := by
  have e : nI n - 1 = zI ((n : Int) - 1) := by
    rw [← zI_nat, show (1 : Int32) = zI 1 from rfl]
    unfold zI
    rw [← Int32.ofInt_sub]
  rw [in_32 p 0 _ 0 ((n : Int) - 1) rfl (by rw [Int32.toInt_toInt64, e, zI_toInt (by omega) (by omega)])]
  congr 1
  by_cases c : 0 ≤ p.toInt ∧ p.toInt < n
  · rw [if_pos c, if_pos (by omega)]
  · rw [if_neg c, if_neg (by omega)]
theorem below9 (p : Int32) {n : Nat} (hn : n < 2 ^ 31) : (if p < 0 then some (0 : Int32) else if nI n ≤ p then some 0 else some 1) = some (if 0 ≤ p.toInt ∧ p.toInt < n then (1 : Int32) else 0) := rng (a := 0) (b := (n : Int)) rfl (nI_toInt hn)
section PROG6
variable {P S M : PS} {nl nd rw wd : Nat} {kd ce aa ab ac dn dz : Nat → Nat}
theorem pw5 {wd : Nat} (h : wd ≤ 5) : 2 ^ wd ≤ 32 := Nat.pow_le_pow_right (n := 2) (j := 5) (by decide) h
theorem hasIn9 (h : RPg P S M nl nd rw wd kd ce aa ab ac dn dz) (p : Int32) : f_X7_hasInput S p = some (if 0 ≤ p.toInt ∧ p.toInt < (2 ^ wd : Nat) then 1 else 0) := by
  obtain ⟨a, b, c, d, e, f, g⟩ := h
  have l := pw5 b
  unfold f_X7_hasInput f_X7_inputCount
  rw [c, shl1 (by omega)]
  simp only [b1_some]
  rw [below9 p (by omega)]
  simp only [b1_some, ck_b]
theorem hasIn10 (h : RPg P S M nl nd rw wd kd ce aa ab ac dn dz) (p : Int32) : f_X10_isInput M p = some (if 0 ≤ p.toInt ∧ p.toInt < (2 ^ wd : Nat) then 1 else 0) := by
  obtain ⟨a, b, c, d, e, f, g⟩ := h
  have l := pw5 b
  unfold f_X10_isInput
  rw [d, shl1 (by omega), below10 p (by omega)]
  simp only [b1_some, ck_b]
theorem hasRow9 (h : RPg P S M nl nd rw wd kd ce aa ab ac dn dz) (p : Int32) : f_X7_hasRow S P p = some (if 0 ≤ p.toInt ∧ p.toInt < (rw : Nat) then 1 else 0) := by
  obtain ⟨⟨a1, a2, a3, a4, a5, a6, a7, a8, a9, a10, aD, aK, aN, aS⟩, b, c, d, e, f, g⟩ := h
  unfold f_X7_hasRow
  rw [a9, below9 p (by omega)]
  simp only [b1_some, ck_b]
theorem hasRow10 (h : RPg P S M nl nd rw wd kd ce aa ab ac dn dz) (p : Int32) : f_X10_isRow M p = some (if 0 ≤ p.toInt ∧ p.toInt < (rw : Nat) then 1 else 0) := by
  obtain ⟨⟨a1, a2, a3, a4, a5, a6, a7, a8, a9, a10, aD, aK, aN, aS⟩, b, c, d, e, f, g⟩ := h
  unfold f_X10_isRow
  rw [a10, below10 p (by omega)]
  simp only [b1_some, ck_b]
end PROG6
theorem g_draw {P S M : PS} (hR : RP P S M) (p1 : Int32) : ∃ r : Int32, f_X9_draw S P p1 = some r ∧ f_X10_draw M p1 = some r := by
  obtain ⟨nl, nd, rw, wd, kd, ce, aa, ab, ac, dn, dz, h⟩ := hR
  obtain ⟨⟨a1, a2, a3, a4, a5, a6, a7, a8, a9, a10, aD, aK, aN, aS⟩, b, c, d, e, f, g⟩ := h
  unfold f_X9_draw f_X10_draw
  rw [a7, a8, below10 p1 (by omega)]
  simp only [b1_some]
  by_cases q : 0 ≤ p1.toInt ∧ p1.toInt < nd
  · obtain ⟨i, hi, rfl⟩ := nI_four q
    obtain ⟨d1, d2, d3, d4⟩ := aD i hi
    rw [if_pos q, if_neg one_ne0, if_neg (nI_pos (by omega)), if_neg (nI_ge hi (by omega)), rdI_nI (by omega) (by decide), rdI_nI (by omega) (by decide), d1, d2]
    exact ⟨_, rfl, rfl⟩
  · rw [if_neg q, if_pos rfl]
    refine ⟨-2, ?_, rfl⟩
    by_cases z : p1 < 0
    · rw [if_pos z]; rfl
    · rw [if_neg z, if_pos]
      · rfl
      · rw [ltL p1 0 0 rfl] at z
        rw [i_le, nI_toInt (by omega)]
        omega
theorem g_inputs {P S M : PS} (hR : RP P S M) (p1 p2 : Int32) : ∃ (r : Int32) (S' M' : PS), f_X9_inputs S p1 p2 = some (r, S') ∧ f_X10_inputs M p1 p2 = some (r, M') ∧ RP P S' M' ∧ SX [12, 13] [] [] M M' := by
  obtain ⟨nl, nd, rw, wd, kd, ce, aa, ab, ac, dn, dz, h⟩ := id hR
  obtain ⟨a, b, c, d, e, f, g⟩ := h
  unfold f_X9_inputs f_X10_inputs
  rw [in_32 p1 0 5 0 5 rfl rfl]
  simp only [b1_some]
  by_cases q : 0 ≤ p1.toInt ∧ p1.toInt ≤ 5
  · obtain ⟨i, hi, rfl⟩ := nI_four (N := 6) (x := p1) (by omega)
    rw [if_pos q, if_neg one_ne0, if_neg (nI_pos (by omega)), if_pos (show nI i ≤ 5 from nI_le (b := 5) (by omega) (by decide))]
    refine ⟨_, _, _, rfl, rfl, ⟨nl, nd, rw, i, kd, ce, aa, ab, ac, dn, dz, a.fr (fun _ _ => rfl) (fun _ _ => rfl) (fun k hk => ?_) (fun _ _ => rfl), by omega, rfl, rfl, rfl, f, fun z => ?_, g.2⟩, (SX.rf.sI _ (by decide)).sI _ (by decide)⟩
    · rcases hk with rfl | rfl | rfl <;> rfl
    · exact absurd z one_ne0
  · rw [if_neg q, if_pos (show (0 : Int32) = 0 from rfl)]
    refine ⟨-3, S, M, ?_, rfl, hR, SX.rf⟩
    by_cases z : p1 < 0
    · rw [if_pos z]
    · rw [if_neg z, if_neg]
      rw [ltL p1 0 0 rfl] at z
      rw [leL p1 5 5 rfl]
      omega
theorem g_run {P S M : PS} (hR : RP P S M) (p1 p2 : Int32) : ∃ (r : Int32) (P' M' : PS), f_X9_run S P p1 p2 = some (r, P') ∧ f_X10_run M p1 p2 = some (r, M') ∧ RP P' S M' ∧ SX [] [33] [] M M' := by
  obtain ⟨nl, nd, rw, wd, kd, ce, aa, ab, ac, dn, dz, h⟩ := id hR
  unfold f_X9_run f_X10_run
  rw [hasIn9 h, hasIn10 h, hasRow9 h, hasRow10 h]
  simp only [b1_some]
  have l := pw5 h.2.1
  have l2 : rw ≤ 64 := h.1.2.2.2.1
  by_cases c1 : 0 ≤ p1.toInt ∧ p1.toInt < (2 ^ wd : Nat)
  · rw [if_pos c1, if_neg one_ne0, if_neg one_ne0]
    by_cases c2 : 0 ≤ p2.toInt ∧ p2.toInt < (rw : Nat)
    · rw [if_pos c2, if_neg one_ne0, if_neg one_ne0]
      obtain ⟨i, hi, rfl⟩ := nI_four c1
      obtain ⟨j, hj, rfl⟩ := nI_four c2
      obtain ⟨P2, x1, x2⟩ := out8 h.1 (row := j) (inp := i) (by omega) (by omega)
      obtain ⟨M2, y1, y2⟩ := out10 h.1 (row := j) (inp := i) (by omega) (by omega)
      rw [x1, y1]
      refine ⟨_, P2, M2, rfl, rfl, ⟨nl, nd, rw, wd, kd, ce, aa, ab, ac, dn, dz, (h.frP x2).frM (fun k hk => y2.1 k (by simp)) (fun k hk => y2.2.1 k (by simp; omega))⟩, y2⟩
    · rw [if_neg c2, if_pos rfl, if_pos rfl]; exact ⟨_, P, M, rfl, rfl, hR, SX.rf⟩
  · rw [if_neg c1, if_pos rfl, if_pos rfl]; exact ⟨_, P, M, rfl, rfl, hR, SX.rf⟩
theorem g_right {P S M : PS} (hR : RP P S M) (p1 p2 : Int32) : ∃ (r : Int32) (P' M' : PS), f_X9_right S P p1 p2 = some (r, P') ∧ f_X10_right M p1 p2 = some (r, M') ∧ RP P' S M' ∧ SX [] [33] [] M M' := by
  obtain ⟨nl, nd, rw, wd, kd, ce, aa, ab, ac, dn, dz, h⟩ := id hR
  unfold f_X9_right f_X10_right
  rw [hasIn9 h, hasIn10 h, hasRow9 h, hasRow10 h]
  simp only [b1_some]
  have l := pw5 h.2.1
  have l2 : rw ≤ 64 := h.1.2.2.2.1
  by_cases c1 : 0 ≤ p1.toInt ∧ p1.toInt < (2 ^ wd : Nat)
  · rw [if_pos c1, if_neg one_ne0, if_neg one_ne0]
    by_cases c2 : 0 ≤ p2.toInt ∧ p2.toInt < (rw : Nat)
    · rw [if_pos c2, if_neg one_ne0, if_neg one_ne0]
      obtain ⟨i, hi, rfl⟩ := nI_four c1
      obtain ⟨j, hj, rfl⟩ := nI_four c2
      obtain ⟨P2, x1, x2⟩ := out8 h.1 (row := j) (inp := i) (by omega) (by omega)
      obtain ⟨M2, y1, y2⟩ := out10 h.1 (row := j) (inp := i) (by omega) (by omega)
      have t13 : M2.1 13 = S.1 2 := (y2.1 13 (by simp)).trans h.2.2.2.2.1.symm
      unfold f_X7_isRight f_X10_isRight f_X7_isTrue
      rw [x1, y1]
      simp only [b2_some, b1_some, t13]
      generalize nI (outP kd ce aa ab ac dn (fig dz nd j) i nl) = O
      have fin : RP P2 S M2 := ⟨nl, nd, rw, wd, kd, ce, aa, ab, ac, dn, dz, (h.frP x2).frM (fun k hk => y2.1 k (by simp)) (fun k hk => y2.2.1 k (by simp; omega))⟩
      by_cases g1 : O = 0 <;> by_cases g2 : ((S.1 2 >>> (nI i &&& 31)) &&& 1) = 1
      · rw [if_pos g1, if_pos g2]; exact ⟨_, P2, M2, rfl, rfl, fin, y2⟩
      · rw [if_pos g1, if_neg g2]; exact ⟨_, P2, M2, rfl, rfl, fin, y2⟩
      · rw [if_neg g1, if_pos g2]; exact ⟨_, P2, M2, rfl, rfl, fin, y2⟩
      · rw [if_neg g1, if_neg g2]; exact ⟨_, P2, M2, rfl, rfl, fin, y2⟩
    · rw [if_neg c2, if_pos rfl, if_pos rfl]; exact ⟨_, P, M, rfl, rfl, hR, SX.rf⟩
  · rw [if_neg c1, if_pos rfl, if_pos rfl]; exact ⟨_, P, M, rfl, rfl, hR, SX.rf⟩
