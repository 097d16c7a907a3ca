/-! together: the loops -/
theorem bn_rw {α β : Type} (a : α) (k : α → Option β) : bn a k = k a := rfl
def opN (rt : Nat → Nat → Nat) (wd rw j : Nat) : Nat := fb_sm (fun i => (1 - svN rt wd rw j i) * 2 ^ i) (2 ^ wd)
/-- the row put in as the j-th; how many it serves; how many are left before it -/
abbrev brN (rt : Nat → Nat → Nat) (wd rw j : Nat) : Nat := bbN rt wd rw (svN rt wd rw j)
abbrev nrN (rt : Nat → Nat → Nat) (wd rw j : Nat) : Nat := nbN rt wd (svN rt wd rw j) (brN rt wd rw j)
abbrev lrN (rt : Nat → Nat → Nat) (wd rw j : Nat) : Nat := ltN wd (svN rt wd rw j)
section TRS7
variable {S P M : PS} {nd rw wd : Nat} {dz : Nat → Nat} {rt : Nat → Nat → Nat}
theorem op_lt (rt : Nat → Nat → Nat) {wd : Nat} (hw : wd ≤ 5) (rw j : Nat) : opN rt wd rw j < 2 ^ 32 := by
  have l := pw5 hw
  have b : opN rt wd rw j < 2 ^ (2 ^ wd) := bits_lt (f := fun i => 1 - svN rt wd rw j i) (fun k => Nat.sub_le 1 _) (2 ^ wd)
  have l2 : 2 ^ (2 ^ wd) ≤ 2 ^ 32 := Nat.pow_le_pow_right (by decide) l
  omega
theorem op_0 (rt : Nat → Nat → Nat) (wd rw : Nat) : opN rt wd rw 0 = 2 ^ (2 ^ wd) - 1 := by
  have := bits_not (f := fun _ => 0) (fun _ => by omega) (2 ^ wd)
  rw [sm_zero (f := fun k => 0 * 2 ^ k) (2 ^ wd) (fun k _ => Nat.zero_mul _), Nat.add_zero] at this
  exact this
theorem op_z (rt : Nat → Nat → Nat) {wd : Nat} (hw : wd ≤ 5) (rw j : Nat) : nI (opN rt wd rw j) = 0 ↔ lrN rt wd rw j = 0 := by
  rw [nI_z32 (op_lt rt hw rw j)]
  exact bits_0
theorem opv_s (h : TR S P M nd rw wd dz rt) (j : Nat) : nI (opN rt wd rw j) &&& (nI (fb_sm (fun i => rt i (brN rt wd rw j) * 2 ^ i) (2 ^ wd)) ^^^ (-1)) = nI (opN rt wd rw (j + 1)) := by
  have l := pw5 h.1
  rw [xor_m1, fa_and]
  congr 1
  have := out_bits (f := fun i => 1 - svN rt wd rw j i) (g := fun i => rt i (brN rt wd rw j)) (fun k => Nat.sub_le 1 _) (fun k => h.2.2.2.2.2.1 k _) l
  unfold outN at this
  unfold opN
  rw [this]
  refine fb_sm_cong (fun i _ => ?_)
  congr 1
  have h1 := sv_le h j i
  have h2 := h.2.2.2.2.2.1 i (brN rt wd rw j)
  rw [svN]
  show (1 - svN rt wd rw j i) * (1 - rt i (brN rt wd rw j)) = 1 - (if svN rt wd rw j i = 0 then rt i (brN rt wd rw j) else 1)
  rcases (show svN rt wd rw j i = 0 ∨ svN rt wd rw j i = 1 by omega) with e | e
  · rw [if_pos e, e]; omega
  · rw [if_neg (by omega), e]; omega
theorem lr_s (h : TR S P M nd rw wd dz rt) (j : Nat) : lrN rt wd rw (j + 1) + nrN rt wd rw j = lrN rt wd rw j := ltv_s h j
theorem lr_dec (h : TR S P M nd rw wd dz rt) : ∀ j, (∀ i, i < j → nrN rt wd rw i ≠ 0) → lrN rt wd rw j + j ≤ 32
  | 0, _ => ltv_le h _
  | j + 1, hn => by
    have ih := lr_dec h j (fun i hi => hn i (by omega))
    have s := lr_s h j
    have := hn j (by omega)
    omega
theorem stop_ex (h : TR S P M nd rw wd dz rt) : ∃ K, (lrN rt wd rw K = 0 ∨ nrN rt wd rw K = 0) ∧ ∀ j, j < K → ¬ (lrN rt wd rw j = 0 ∨ nrN rt wd rw j = 0) := by
  refine pk_least (fun K => lrN rt wd rw K = 0 ∨ nrN rt wd rw K = 0) ?_
  by_cases c : ∃ K, lrN rt wd rw K = 0 ∨ nrN rt wd rw K = 0
  · exact c
  · exfalso
    have := lr_dec h 33 (fun i _ z => c ⟨i, Or.inr z⟩)
    omega
theorem nr_z (h : TR S P M nd rw wd dz rt) (j : Nat) : nI (fb_sm (fun i => rt i (brN rt wd rw j) * 2 ^ i) (2 ^ wd)) &&& nI (opN rt wd rw j) = 0 ↔ nrN rt wd rw j = 0 := by
  unfold opN
  rw [nb_t2 h, nI_z32 (nb_t1 h _ _)]
  exact bits_0
theorem lr_0 (rt : Nat → Nat → Nat) (wd rw : Nat) : lrN rt wd rw 0 = 2 ^ wd := by
  show fb_sm (fun i => 1 - 0) (2 ^ wd) = _
  rw [fb_sm_const, Nat.mul_one]
theorem ga7 (h : TR S P M nd rw wd dz rt) {K : Nat} (hK : lrN rt wd rw K = 0 ∨ nrN rt wd rw K = 0) (hK2 : ∀ j, j < K → ¬ (lrN rt wd rw j = 0 ∨ nrN rt wd rw j = 0)) : ∃ U, f_X7_gatherRows S P = some (if lrN rt wd rw K = 0 then nI K else -1, U) ∧ SX [] [6] [7] S U ∧ ∀ i, i < K → U.2.1 6 i = nI (brN rt wd rw i) := by
  obtain ⟨h1, h2, h3, h4, h5, h6, h7, h8, h9, h10, h11, h12, hD, hL, hI, hG⟩ := id h
  have l := pw5 h1
  have p := Nat.two_pow_pos wd
  have dec : ∀ j, j ≤ K → lrN rt wd rw j + j ≤ 32 := fun j hj => lr_dec h j (fun i hi z => hK2 i (by omega) (Or.inr z))
  have key : ∃ r, L_X7_gatherRows_12 P FU (nI (opN rt wd rw 0)) 0 S = some r ∧ (r.1 = (if lrN rt wd rw K = 0 then nI K else -1) ∧ SX [] [6] [7] S r.2 ∧ ∀ i, i < K → r.2.2.1 6 i = nI (brN rt wd rw i)) := by
    unfold L_X7_gatherRows_12
    refine loopF_inv (fun j x => x.1 = nI (opN rt wd rw j) ∧ x.2.1 = nI j ∧ SX [] [6] [7] S x.2.2 ∧ (∀ i, i < j → x.2.2.2.1 6 i = nI (brN rt wd rw i)) ∧ 0 < lrN rt wd rw j) _ K ?_ ?_ K 0 (nI (opN rt wd rw 0), 0, S) FU (by omega) (FU_lt (by have := dec K (Nat.le_refl _); omega)) ⟨rfl, rfl, SX.rf, fun i hi => by omega, by rw [lr_0]; exact p⟩
    · rintro j hj ⟨u1, u2, U⟩ ⟨k1, k2, k3, k4, k5⟩
      dsimp only at k1 k2 k3 k4
      subst k1 k2
      have hU := h.frS k3
      have d := dec j (by omega)
      have ns := hK2 j hj
      have nz : ¬ nrN rt wd rw j = 0 := fun z => ns (Or.inr z)
      have bb : brN rt wd rw j < rw := bb_lt h (svN rt wd rw j)
      have g5 : U.2.1 5 (brN rt wd rw j) = nI (fb_sm (fun i => rt i (brN rt wd rw j) * 2 ^ i) (2 ^ wd)) := by
        rw [k3.2.1 5 (by simp)]; exact hI _ bb
      have rm : f_X7_rowForMost U P (nI (opN rt wd rw j)) = some (nI (brN rt wd rw j)) := rm7 hU (svN rt wd rw j)
      have W : ∀ i, i < j + 1 → upd (U.2.1 6) j (nI (brN rt wd rw j)) i = nI (brN rt wd rw i) := fun i hi => by
        rw [up_s]
        by_cases z : i = j
        · rw [if_pos z, z]
        · rw [if_neg z]; exact k4 i (by omega)
      have st : B_X7_gatherRows_12 P (nI (opN rt wd rw j)) (nI j) U = if nI (opN rt wd rw (j + 1)) = 0 then some (.inr (nI (j + 1), sA U 6 (upd (U.2.1 6) j (nI (brN rt wd rw j))))) else some (.inl (nI (opN rt wd rw (j + 1)), nI (j + 1), sA U 6 (upd (U.2.1 6) j (nI (brN rt wd rw j))))) := by
        unfold B_X7_gatherRows_12
        rw [if_neg (show ¬ (32 : Int32) ≤ nI j from nI_ge (b := 32) (by omega) (by decide)), rm, b1_some, rdI_nI (by omega) (by decide), g5, b1_some, if_neg (fun z => nz ((nr_z h j).mp z)), wA_nI (by omega) (by decide), b1_some, rdI_nI (by omega) (by decide)]
        have g6 : (sA U 6 (upd (U.2.1 6) j (nI (brN rt wd rw j)))).2.1 5 = U.2.1 5 := rfl
        rw [g6, g5, b1_some, opv_s h j]
        rw [bn_rw, bn_rw, nI_1]
      by_cases z : lrN rt wd rw (j + 1) = 0
      · right
        have e : j + 1 = K := by
          by_cases y : j + 1 < K
          · exact absurd (Or.inl z) (hK2 (j + 1) y)
          · omega
        refine ⟨(nI (j + 1), sA U 6 (upd (U.2.1 6) j (nI (brN rt wd rw j)))), ?_, ?_, k3.sA _ (by decide), fun i hi => W i (by omega)⟩
        · show B_X7_gatherRows_12 P (nI (opN rt wd rw j)) (nI j) U = _
          rw [st, if_pos ((op_z rt h1 rw (j + 1)).mpr z)]
        · rw [← e, if_pos z]
      · left
        refine ⟨(nI (opN rt wd rw (j + 1)), nI (j + 1), sA U 6 (upd (U.2.1 6) j (nI (brN rt wd rw j)))), ?_, rfl, rfl, k3.sA _ (by decide), W, by omega⟩
        show B_X7_gatherRows_12 P (nI (opN rt wd rw j)) (nI j) U = _
        rw [st, if_neg (fun y => z ((op_z rt h1 rw (j + 1)).mp y))]
    · rintro ⟨u1, u2, U⟩ ⟨k1, k2, k3, k4, k5⟩
      dsimp only at k1 k2 k3 k4
      subst k1 k2
      have hU := h.frS k3
      have d := dec K (by omega)
      have nz : nrN rt wd rw K = 0 := by
        rcases hK with z | z
        · omega
        · exact z
      have bb : brN rt wd rw K < rw := bb_lt h (svN rt wd rw K)
      have g5 : U.2.1 5 (brN rt wd rw K) = nI (fb_sm (fun i => rt i (brN rt wd rw K) * 2 ^ i) (2 ^ wd)) := by
        rw [k3.2.1 5 (by simp)]; exact hI _ bb
      have rm : f_X7_rowForMost U P (nI (opN rt wd rw K)) = some (nI (brN rt wd rw K)) := rm7 hU (svN rt wd rw K)
      refine ⟨(-1, U), ?_, by rw [if_neg (by omega)], k3, k4⟩
      show B_X7_gatherRows_12 P (nI (opN rt wd rw K)) (nI K) U = _
      unfold B_X7_gatherRows_12
      rw [if_neg (show ¬ (32 : Int32) ≤ nI K from nI_ge (b := 32) (by omega) (by decide)), rm, b1_some, rdI_nI (by omega) (by decide), g5, b1_some, if_pos ((nr_z h K).mpr nz)]
  obtain ⟨⟨v, U⟩, y1, y2, y3, y4⟩ := key
  dsimp only at y2 y3 y4
  refine ⟨U, ?_, y3, y4⟩
  unfold f_X7_gatherRows f_X7_inputCount
  have hs := span_any (a := 0) (m := 2 ^ wd) (by omega) (by omega)
  rw [Nat.pow_zero, Nat.mul_one] at hs
  rw [h7, shl1 (by omega), b1_some, show (0 : Int32) = nI 0 from rfl, hs, b1_some]
  rw [lN_i, ← op_0 rt wd rw, show nI 0 = (0 : Int32) from rfl]
  show L_X7_gatherRows_12 P FU (nI (opN rt wd rw 0)) 0 S = _
  rw [y1, y2]
/-- what together answers -/
def tgI (rt : Nat → Nat → Nat) (wd rw K : Nat) (p : Int32) : Int32 := if lrN rt wd rw K = 0 then (if p = -1 then nI K else if nI K ≤ p then -1 else nI (brN rt wd rw p.toNatClampNeg)) else -1
theorem ga10 (h : TR S P M nd rw wd dz rt) (p1 : Int32) (hp : -1 ≤ p1) {K : Nat} (hK : lrN rt wd rw K = 0 ∨ nrN rt wd rw K = 0) (hK2 : ∀ j, j < K → ¬ (lrN rt wd rw j = 0 ∨ nrN rt wd rw j = 0)) (h35 : ∀ i, i < 2 ^ wd → M.2.1 35 i = 0) : ∃ N, L_X10_together_42 p1 FU (nI (2 ^ wd)) 0 M = some (tgI rt wd rw K p1, N) ∧ SX [] [35, 36] [] M N := by
  obtain ⟨h1, h2, h3, h4, h5, h6, h7, h8, h9, h10, h11, h12, hD, hL, hI, hG⟩ := id h
  have l := pw5 h1
  have p := Nat.two_pow_pos wd
  have dec : ∀ j, j ≤ K → lrN rt wd rw j + j ≤ 32 := fun j hj => lr_dec h j (fun i hi z => hK2 i (by omega) (Or.inr z))
  have key : ∃ r, L_X10_together_42 p1 FU (nI (2 ^ wd)) 0 M = some r ∧ (r.1 = tgI rt wd rw K p1 ∧ SX [] [35, 36] [] M r.2) := by
    unfold L_X10_together_42
    refine loopF_inv (fun j x => x.1 = nI (lrN rt wd rw j) ∧ x.2.1 = nI j ∧ SX [] [35, 36] [] M x.2.2 ∧ (∀ i, i < 2 ^ wd → x.2.2.2.1 35 i = nI (svN rt wd rw j i)) ∧ ∀ i, i < j → x.2.2.2.1 36 i = nI (brN rt wd rw i)) _ K ?_ ?_ K 0 (nI (2 ^ wd), 0, M) FU (by omega) (FU_lt (by have := dec K (Nat.le_refl _); omega)) ⟨by rw [lr_0], rfl, SX.rf, h35, fun i hi => by omega⟩
    · rintro j hj ⟨u1, u2, U⟩ ⟨k1, k2, k3, k4, k5⟩
      dsimp only at k1 k2 k3 k4 k5
      subst k1 k2
      left
      have hU := h.frM k3
      have d := dec j (by omega)
      have ns := hK2 j hj
      have nz : ¬ nrN rt wd rw j = 0 := fun z => ns (Or.inr z)
      have lz : ¬ lrN rt wd rw j = 0 := fun z => ns (Or.inl z)
      have ls := lr_s h j
      have bb : brN rt wd rw j < rw := bb_lt h (svN rt wd rw j)
      have nb : nrN rt wd rw j ≤ 32 := nb_le h (svN rt wd rw j) (brN rt wd rw j)
      have b10 : L_X10_together_52 U FU 0 1 = some (nI (brN rt wd rw j)) := bb10 hU (sv_le h j) k4
      have n10 : f_X10_newBy U (nI (brN rt wd rw j)) = some (nI (nrN rt wd rw j)) := nb10 hU (sv_le h j) k4 bb
      obtain ⟨N, y1, y2, y3⟩ := se35 hU (sv_le h j) k4 bb
      refine ⟨(nI (lrN rt wd rw (j + 1)), nI (j + 1), sA N 36 (upd (N.2.1 36) j (nI (brN rt wd rw j)))), ?_, rfl, rfl, (k3.tr (y2.mono (fun _ h => h) (by simp) (fun _ h => h))).sA _ (by decide), fun i hi => ?_, fun i hi => ?_⟩
      · show B_X10_together_42 p1 (nI (lrN rt wd rw j)) (nI j) U = _
        unfold B_X10_together_42
        rw [if_neg (nI_nle (by omega) (by omega)), b10, b1_some, n10, b1_some, if_neg (nI_ne0 (by omega) (by omega)), b1_some]
        rw [bn_rw]
        rw [pk_sub (by omega), y1, b1_some, wA_nI (by omega) (by decide), b1_some, bn_rw, nI_1]
        rw [show lrN rt wd rw j - nrN rt wd rw j = lrN rt wd rw (j + 1) by omega]
      · show N.2.1 35 i = _
        rw [y3 i hi]
        rfl
      · show upd (N.2.1 36) j _ i = _
        rw [up_s]
        by_cases z : i = j
        · rw [if_pos z, z]
        · rw [if_neg z, y2.2.1 36 (by simp)]; exact k5 i (by omega)
    · rintro ⟨u1, u2, U⟩ ⟨k1, k2, k3, k4, k5⟩
      dsimp only at k1 k2 k3 k4 k5
      subst k1 k2
      have hU := h.frM k3
      have d := dec K (by omega)
      have bb : brN rt wd rw K < rw := bb_lt h (svN rt wd rw K)
      by_cases z : lrN rt wd rw K = 0
      · refine ⟨(tgI rt wd rw K p1, U), ?_, rfl, k3⟩
        show B_X10_together_42 p1 (nI (lrN rt wd rw K)) (nI K) U = _
        unfold B_X10_together_42 tgI
        rw [z, if_pos (show nI 0 ≤ 0 by decide), if_pos rfl]
        by_cases q1 : p1 = -1
        · rw [if_pos q1, if_pos q1]
        · rw [if_neg q1, if_neg q1]
          by_cases q2 : nI K ≤ p1
          · rw [if_pos q2, if_pos q2]
          · rw [if_neg q2, if_neg q2]
            have hp2 : -1 ≤ p1.toInt := (geL p1 (-1) (-1) rfl).mp hp
            have hp3 : p1.toInt < K := by
              rw [geL p1 (nI K) K (nI_toInt (by omega))] at q2
              omega
            have hp4 : p1.toInt ≠ -1 := fun y => q1 (Int32.toInt_inj.mp (y.trans rfl))
            obtain ⟨i, hi, rfl⟩ := nI_four (N := K) (x := p1) (by omega)
            rw [rdI_nI (by omega) (by decide), k5 i hi, b1_some, nI_clamp (by omega)]
      · have nz : nrN rt wd rw K = 0 := by
          rcases hK with y | y
          · omega
          · exact y
        refine ⟨(-1, U), ?_, by unfold tgI; rw [if_neg z], k3⟩
        show B_X10_together_42 p1 (nI (lrN rt wd rw K)) (nI K) U = _
        unfold B_X10_together_42
        have b10 : L_X10_together_52 U FU 0 1 = some (nI (brN rt wd rw K)) := bb10 hU (sv_le h K) k4
        have n10 : f_X10_newBy U (nI (brN rt wd rw K)) = some (nI (nrN rt wd rw K)) := nb10 hU (sv_le h K) k4 bb
        rw [if_neg (nI_nle (by omega) (by omega)), b10, b1_some, n10, b1_some, nz, if_pos (show nI 0 = 0 from rfl)]
  obtain ⟨⟨v, N⟩, y1, y2, y3⟩ := key
  dsimp only at y2 y3
  exact ⟨N, by rw [y1, y2], y3⟩
end TRS7
theorem g_together {P S M : PS} (hR : RP P S M) (p1 : Int32) : OWE P S M (f_X9_together S P p1) (f_X10_together M p1) := by
  obtain ⟨nl, nd, rw, wd, kd, ce, aa, ab, ac, dn, dz, h⟩ := id hR
  unfold f_X9_together f_X10_together
  by_cases c1 : -1 ≤ p1
  · rw [if_pos c1, if_pos c1]
    obtain ⟨S2, P2, M2, rt, x1, x2, x3, x4, x5⟩ := fresh_ok h
    have l0 : wd ≤ 5 := h.2.1
    have l := pw5 h.2.1
    obtain ⟨N0, z1, z2, z3⟩ := z35 M2
    have x6 : TR S2 P2 N0 nd rw wd dz rt := x5.frM (z2.mono (fun _ h => h) (by simp) (fun _ h => h))
    obtain ⟨K, hK, hK2⟩ := stop_ex x5
    obtain ⟨U, y1, y2, y3⟩ := ga7 x5 hK hK2
    obtain ⟨N, w1, w2⟩ := ga10 x6 p1 c1 hK hK2 (fun i hi => z3 i (by omega))
    have dK : lrN rt wd rw K + K ≤ 32 := lr_dec x5 K (fun i hi z => hK2 i hi (Or.inr z))
    have m12 : N0.1 12 = nI wd := x6.2.2.2.2.2.2.2.2.2.1
    have fr : SX [] [33, 34, 35, 36] [] M N := (x4.mono (fun _ h => h) (by simp) (fun _ h => h)).tr ((z2.mono (fun _ h => h) (by simp) (fun _ h => h)).tr (w2.mono (fun _ h => h) (by simp) (fun _ h => h)))
    have fin : RP P2 U N := by
      refine ⟨nl, nd, rw, wd, kd, ce, aa, ab, ac, dn, dz, ((x3.frS y2).frM (M' := N) (fun k _ => ?_) (fun k hk => ?_))⟩
      · rw [w2.1 k (by simp), z2.1 k (by simp)]
      · rw [w2.2.1 k (by simp; omega), z2.2.1 k (by simp; omega)]
    rw [x1, x2, b1_some, b2_some, z1, b1_some]
    rw [m12, shl1 (by omega), y1, b2_some]
    show OWE P S M _ (L_X10_together_42 p1 FU (nI (2 ^ wd)) 0 N0)
    rw [w1]
    refine ⟨tgI rt wd rw K p1, U, P2, N, ?_, rfl, fin, fr⟩
    unfold tgI
    by_cases q1 : p1 = -1
    · rw [if_pos q1, if_pos q1]
    · rw [if_neg q1, if_neg q1]
      have hp2 : -1 ≤ p1.toInt := (geL p1 (-1) (-1) rfl).mp c1
      have hp4 : p1.toInt ≠ -1 := fun y => q1 (Int32.toInt_inj.mp (y.trans rfl))
      by_cases z : lrN rt wd rw K = 0
      · rw [if_pos z, if_pos z]
        by_cases q2 : nI K ≤ p1
        · rw [if_pos q2, if_pos q2]; rfl
        · rw [if_neg q2, if_neg q2]
          have hp3 : p1.toInt < K := by
            rw [geL p1 (nI K) K (nI_toInt (by omega))] at q2
            omega
          obtain ⟨i, hi, rfl⟩ := nI_four (N := K) (x := p1) (by omega)
          rw [rdI_nI (by omega) (by decide), y3 i hi, b1_some, nI_clamp (by omega)]
          rfl
      · rw [if_neg z, if_neg z, if_pos c1]; rfl
  · rw [if_neg c1, if_neg c1]; exact owe0 hR _
