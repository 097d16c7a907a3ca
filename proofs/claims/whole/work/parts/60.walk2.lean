/-! walks, the reference -/
theorem upL_0 (f : Nat → Int64) (k j : Nat) : vp_updL f k (f k + 0) j = f j := by
  by_cases z : j = k
  · subst z; rw [pk_uLs, Int64.add_zero]
  · rw [pk_uLn z]
section WEB6
variable {V Hp M : PS} {n e c h : Nat} {ea eb ew ce hr : Nat → Nat}
theorem zero10 (S : PS) : ∃ S2, L_X10_walks_59 FU 0 S = some S2 ∧ SX [] [] [38] S S2 ∧ ∀ j, j < 8 → S2.2.2 38 j = 0 := by
  unfold L_X10_walks_59
  refine loopF_inv (fun i x => x.1 = nI i ∧ SX [] [] [38] S x.2 ∧ ∀ j, j < i → x.2.2.2 38 j = 0) _ 8 ?_ ?_ 8 0 (0, S) FU (by omega) (FU_lt (by decide)) ⟨rfl, SX.rf, fun j hj => by omega⟩
  · rintro i hi ⟨v, U⟩ ⟨k1, k2, k3⟩
    dsimp only at k1 k2 k3
    subst k1
    left
    refine ⟨(nI (i + 1), sL U 38 (vp_updL (U.2.2 38) i 0)), ?_, rfl, k2.sL _ (by decide), fun j hj => ?_⟩
    · unfold B_X10_walks_59
      dsimp only
      rw [if_neg (show ¬ (8 : Int32) ≤ nI i from nI_ge hi (by decide)), wL_nI hi (by decide)]
      simp only [b1_some, bn, nI_1]
    · show vp_updL (U.2.2 38) i _ j = _
      by_cases z : j = i
      · subst z; exact pk_uLs
      · rw [pk_uLn z]; exact k3 j (by omega)
  · rintro ⟨v, U⟩ ⟨k1, k2, k3⟩
    dsimp only at k1 k2 k3
    subst k1
    refine ⟨U, ?_, k2, k3⟩
    unfold B_X10_walks_59
    dsimp only
    rw [if_pos (show (8 : Int32) ≤ nI 8 from nI_le (Nat.le_refl 8) (by decide))]
theorem copy10 (S : PS) : ∃ S2, L_X10_walks_210 FU 0 S = some S2 ∧ SX [] [] [37] S S2 ∧ ∀ j, j < 8 → S2.2.2 37 j = S.2.2 38 j := by
  unfold L_X10_walks_210
  refine loopF_inv (fun i x => x.1 = nI i ∧ SX [] [] [37] S x.2 ∧ ∀ j, j < i → x.2.2.2 37 j = S.2.2 38 j) _ 8 ?_ ?_ 8 0 (0, S) FU (by omega) (FU_lt (by decide)) ⟨rfl, SX.rf, fun j hj => by omega⟩
  · rintro i hi ⟨v, U⟩ ⟨k1, k2, k3⟩
    dsimp only at k1 k2 k3
    subst k1
    left
    refine ⟨(nI (i + 1), sL U 37 (vp_updL (U.2.2 37) i (S.2.2 38 i))), ?_, rfl, k2.sL _ (by decide), fun j hj => ?_⟩
    · unfold B_X10_walks_210
      dsimp only
      rw [if_neg (show ¬ (8 : Int32) ≤ nI i from nI_ge hi (by decide)), rdL_nI hi (by decide)]
      simp only [b1_some]
      rw [wL_nI hi (by decide), k2.2.2 38 (by decide)]
      simp only [b1_some, bn, nI_1]
    · show vp_updL (U.2.2 37) i _ j = _
      by_cases z : j = i
      · subst z; exact pk_uLs
      · rw [pk_uLn z]; exact k3 j (by omega)
  · rintro ⟨v, U⟩ ⟨k1, k2, k3⟩
    dsimp only at k1 k2 k3
    subst k1
    refine ⟨U, ?_, k2, k3⟩
    unfold B_X10_walks_210
    dsimp only
    rw [if_pos (show (8 : Int32) ≤ nI 8 from nI_le (Nat.le_refl 8) (by decide))]
theorem edge10 (hW : WS V Hp M n e c h ea eb ew ce hr) {s : Nat} (hs : s < 256) (w : Nat → Int64) {S : PS} (hS : SX [] [] [37, 38] M S) (hw : ∀ j, j < 8 → S.2.2 37 j = w j) (h0 : ∀ j, j < 8 → S.2.2 38 j = 0) : ∃ S2, L_X10_walks_83 (nI s) FU 0 S = some S2 ∧ SX [] [] [38] S S2 ∧ ∀ j, j < 8 → S2.2.2 38 j = acw ea eb s w e j := by
  obtain ⟨w1, w2, w3, w4, w5, w6, w7, w8, w9, w10, w11, w12, w13, wE, wC, wH⟩ := id hW
  unfold L_X10_walks_83
  refine loopF_inv (fun i x => x.1 = nI i ∧ SX [] [] [38] S x.2 ∧ ∀ j, j < 8 → x.2.2.2 38 j = acw ea eb s w i j) _ e ?_ ?_ e 0 (0, S) FU (by omega) (FU_lt (by omega)) ⟨rfl, SX.rf, h0⟩
  · rintro i hi ⟨v, U⟩ ⟨k1, k2, k3⟩
    dsimp only at k1 k2 k3
    subst k1
    left
    obtain ⟨q1, q2, q3, q4, q5, q6, q7, q8, q9, q10, q11⟩ := wE i hi
    have a1 : U.1 18 = nI e := (k2.1 18 (by decide)).trans ((hS.1 18 (by decide)).trans w9)
    have a3 : U.2.1 15 i = nI (ea i) := by rw [k2.2.1 15 (by decide), hS.2.1 15 (by decide)]; exact q2
    have a4 : U.2.1 16 i = nI (eb i) := by rw [k2.2.1 16 (by decide), hS.2.1 16 (by decide)]; exact q4
    have a7 : ∀ j, j < 8 → U.2.2 37 j = w j := fun j hj => by rw [k2.2.2 37 (by decide)]; exact hw j hj
    have r15 : rdI 16 (U.2.1 15) (nI i) = some (nI (ea i)) := by rw [rdI_nI (by omega) (by decide), a3]
    have r16 : rdI 16 (U.2.1 16) (nI i) = some (nI (eb i)) := by rw [rdI_nI (by omega) (by decide), a4]
    have ra : ∀ f : Nat → Int64, rdL 8 f (nI (ea i)) = some (f (ea i)) := fun f => rdL_nI (by omega) (by decide)
    have rb : ∀ f : Nat → Int64, rdL 8 f (nI (eb i)) = some (f (eb i)) := fun f => rdL_nI (by omega) (by decide)
    unfold B_X10_walks_83
    dsimp only
    rw [a1, if_neg (nI_ge hi (by omega)), r15, r16]
    simp only [b1_some]
    have c1 := bit1 (s := s) (a := ea i) hs (by omega)
    have c2 := bit1 (s := s) (a := eb i) hs (by omega)
    have e1 : (if (nI s >>> (nI (ea i) &&& 31)) &&& 1 = 1 then (if (nI s >>> (nI (eb i) &&& 31)) &&& 1 = 1 then some (1 : Int32) else some 0) else some 0) = some (if s / 2 ^ ea i % 2 = 1 ∧ s / 2 ^ eb i % 2 = 1 then 1 else 0) := by
      by_cases z1 : s / 2 ^ ea i % 2 = 1
      · rw [if_pos (c1.mpr z1)]
        by_cases z2 : s / 2 ^ eb i % 2 = 1
        · rw [if_pos (c2.mpr z2), if_pos ⟨z1, z2⟩]
        · rw [if_neg (fun z => z2 (c2.mp z)), if_neg (fun z => z2 z.2)]
      · rw [if_neg (fun z => z1 (c1.mp z)), if_neg (fun z => z1 z.1)]
    rw [e1]
    simp only [b1_some, ra, rb]
    by_cases g : s / 2 ^ ea i % 2 = 1 ∧ s / 2 ^ eb i % 2 = 1
    · rw [if_pos g, if_neg one_ne0]
      simp only [b1_some]
      rw [wL_nI (by omega) (by decide)]
      simp only [b1_some, sL_2, r16, r15, ra, rb]
      rw [if_neg one_ne0]
      simp only [b1_some]
      rw [wL_nI (by omega) (by decide)]
      simp only [b1_some, bn, nI_1]
      refine ⟨_, rfl, rfl, (k2.sL _ (by decide)).sL _ (by decide), fun j hj => ?_⟩
      rw [acw, if_pos g]
      show vp_updL (vp_updL (U.2.2 38) (ea i) (U.2.2 38 (ea i) + U.2.2 37 (eb i))) (eb i) (vp_updL (U.2.2 38) (ea i) (U.2.2 38 (ea i) + U.2.2 37 (eb i)) (eb i) + U.2.2 37 (ea i)) j = _
      rw [a7 _ (show ea i < 8 by omega), a7 _ (show eb i < 8 by omega), k3 (ea i) (by omega)]
      have inner : ∀ x, x < 8 → vp_updL (U.2.2 38) (ea i) (acw ea eb s w i (ea i) + w (eb i)) x = vp_updL (acw ea eb s w i) (ea i) (acw ea eb s w i (ea i) + w (eb i)) x := by
        intro x hx
        by_cases z : x = ea i
        · subst z; rw [pk_uLs, pk_uLs]
        · rw [pk_uLn z, pk_uLn z]; exact k3 x hx
      rw [inner (eb i) (by omega)]
      by_cases z : j = eb i
      · subst z; rw [pk_uLs, pk_uLs]
      · rw [pk_uLn z, pk_uLn z]; exact inner j hj
    · rw [if_neg g, if_pos rfl]
      simp only [b1_some]
      rw [wL_nI (by omega) (by decide)]
      simp only [b1_some, sL_2, r16, r15, ra, rb]
      rw [if_pos trivial]
      simp only [b1_some]
      rw [wL_nI (by omega) (by decide)]
      simp only [b1_some, bn, nI_1]
      refine ⟨_, rfl, rfl, (k2.sL _ (by decide)).sL _ (by decide), fun j hj => ?_⟩
      rw [acw, if_neg g]
      show vp_updL (vp_updL (U.2.2 38) (ea i) (U.2.2 38 (ea i) + 0)) (eb i) (vp_updL (U.2.2 38) (ea i) (U.2.2 38 (ea i) + 0) (eb i) + 0) j = _
      rw [upL_0, upL_0]
      exact k3 j hj
  · rintro ⟨v, U⟩ ⟨k1, k2, k3⟩
    dsimp only at k1 k2 k3
    subst k1
    have a1 : U.1 18 = nI e := (k2.1 18 (by decide)).trans ((hS.1 18 (by decide)).trans w9)
    refine ⟨U, ?_, k2, k3⟩
    unfold B_X10_walks_83
    dsimp only
    rw [a1, if_pos (nI_le (Nat.le_refl e) (by omega))]
theorem walk10 (hW : WS V Hp M n e c h ea eb ew ce hr) {s t : Nat} (hs : s < 256) (ht : t ≤ 8) : ∃ S1 S2, L_X10_walks_25 (nI s) FU 0 M = some S1 ∧ L_X10_walks_51 (nI s) (nI t) FU 0 S1 = some S2 ∧ L_X10_walks_248 S2 FU 0 0 = some (sml (wst ea eb e s t) 8) ∧ SX [] [] [37, 38] M S2 := by
  have k1 : ∃ S2, L_X10_walks_25 (nI s) FU 0 M = some S2 ∧ (SX [] [] [37, 38] M S2 ∧ ∀ j, j < 8 → S2.2.2 37 j = wst ea eb e s 0 j) := by
    unfold L_X10_walks_25
    refine loopF_inv (fun i x => x.1 = nI i ∧ SX [] [] [37, 38] M x.2 ∧ ∀ j, j < i → x.2.2.2 37 j = wst ea eb e s 0 j) _ 8 ?_ ?_ 8 0 (0, M) FU (by omega) (FU_lt (by decide)) ⟨rfl, SX.rf, fun j hj => by omega⟩
    · rintro i hi ⟨v, U⟩ ⟨k1, k2, k3⟩
      dsimp only at k1 k2 k3
      subst k1
      left
      refine ⟨(nI (i + 1), sL U 37 (vp_updL (U.2.2 37) i (lN (s / 2 ^ i % 2)))), ?_, rfl, k2.sL _ (by decide), fun j hj => ?_⟩
      · unfold B_X10_walks_25
        dsimp only
        rw [if_neg (show ¬ (8 : Int32) ≤ nI i from nI_ge hi (by decide)), bitI (by omega) (by omega), nI_l (by omega), wL_nI hi (by decide)]
        simp only [b1_some, bn, nI_1]
      · show vp_updL (U.2.2 37) i _ j = _
        by_cases z : j = i
        · subst z; exact pk_uLs
        · rw [pk_uLn z]; exact k3 j (by omega)
    · rintro ⟨v, U⟩ ⟨k1, k2, k3⟩
      dsimp only at k1 k2 k3
      subst k1
      refine ⟨U, ?_, k2, k3⟩
      unfold B_X10_walks_25
      dsimp only
      rw [if_pos (show (8 : Int32) ≤ nI 8 from nI_le (Nat.le_refl 8) (by decide))]
  obtain ⟨S1, a1, a2, a3⟩ := k1
  have k2 : ∃ S2, L_X10_walks_51 (nI s) (nI t) FU 0 S1 = some S2 ∧ (SX [] [] [37, 38] M S2 ∧ ∀ j, j < 8 → S2.2.2 37 j = wst ea eb e s t j) := by
    unfold L_X10_walks_51
    refine loopF_inv (fun i x => x.1 = nI i ∧ SX [] [] [37, 38] M x.2 ∧ ∀ j, j < 8 → x.2.2.2 37 j = wst ea eb e s i j) _ t ?_ ?_ t 0 (0, S1) FU (by omega) (FU_lt (by omega)) ⟨rfl, a2, a3⟩
    · rintro i hi ⟨v, U⟩ ⟨k1, k2, k3⟩
      dsimp only at k1 k2 k3
      subst k1
      left
      obtain ⟨Sa, b1', b2', b3'⟩ := zero10 U
      have m1 : SX [] [] [37, 38] M Sa := k2.tr (b2'.mono (by decide) (by decide) (by decide))
      obtain ⟨Sb, c1, c2, c3⟩ := edge10 hW hs (wst ea eb e s i) m1 (fun j hj => by rw [b2'.2.2 37 (by decide)]; exact k3 j hj) b3'
      obtain ⟨Sc, d1, d2, d3⟩ := copy10 Sb
      refine ⟨(nI (i + 1), Sc), ?_, rfl, (m1.tr (c2.mono (by decide) (by decide) (by decide))).tr (d2.mono (by decide) (by decide) (by decide)), fun j hj => (d3 j hj).trans (c3 j hj)⟩
      unfold B_X10_walks_51
      dsimp only
      rw [if_neg (nI_ge hi (by omega)), b1']
      simp only [b1_some]
      rw [c1]
      simp only [b1_some]
      rw [d1]
      simp only [b1_some, bn, nI_1]
    · rintro ⟨v, U⟩ ⟨k1, k2, k3⟩
      dsimp only at k1 k2 k3
      subst k1
      refine ⟨U, ?_, k2, k3⟩
      unfold B_X10_walks_51
      dsimp only
      rw [if_pos (nI_le (Nat.le_refl t) (by omega))]
  obtain ⟨S2, c1, c2, c3⟩ := k2
  refine ⟨S1, S2, a1, c1, ?_, c2⟩
  unfold L_X10_walks_248
  refine loopF_seq0 (fun i => (sml (wst ea eb e s t) i, nI i)) 8 _ rfl ?_ ?_ (FU_lt (by decide))
  · intro i hi
    unfold B_X10_walks_248
    dsimp only
    rw [if_neg (show ¬ (8 : Int32) ≤ nI i from nI_ge hi (by decide)), rdL_nI hi (by decide), c3 i hi]
    simp only [b1_some, bn, nI_1]
    rfl
  · unfold B_X10_walks_248
    dsimp only
    rw [if_pos (show (8 : Int32) ≤ nI 8 from nI_le (Nat.le_refl 8) (by decide))]
end WEB6
theorem RWeb.frV {V W Hp M : PS} (h : RWeb V Hp M) (g : SX [] [] [7, 8] V W) : RWeb W Hp M := by
  obtain ⟨n, e, c, h, ea, eb, ew, ce, hr, hW⟩ := h
  obtain ⟨w1, w2, w3, w4, w5, w6, w7, w8, w9, w10, w11, w12, w13, wE, wC, wH⟩ := hW
  refine ⟨n, e, c, h, ea, eb, ew, ce, hr, w1, w2, w3, w4, w5, (g.1 0 (by decide)).trans w6, w7, (g.1 1 (by decide)).trans w8, w9, (g.1 2 (by decide)).trans w10, w11, w12, w13, fun k hk => ?_, fun k hk => ?_, wH⟩
  · rw [g.2.1 3 (by decide), g.2.1 4 (by decide), g.2.1 5 (by decide)]; exact wE k hk
  · rw [g.2.1 6 (by decide)]; exact wC k hk
theorem RWeb.fr {V Hp M N : PS} {is as ls : List Nat} (h : RWeb V Hp M) (g : SX is as ls M N) (h1 : 14 ∉ is ∧ 18 ∉ is ∧ 20 ∉ is ∧ 22 ∉ is) (h2 : 15 ∉ as ∧ 16 ∉ as ∧ 17 ∉ as ∧ 19 ∉ as ∧ 21 ∉ as) : RWeb V Hp N := by
  obtain ⟨n, e, c, h, ea, eb, ew, ce, hr, hW⟩ := h
  obtain ⟨w1, w2, w3, w4, w5, w6, w7, w8, w9, w10, w11, w12, w13, wE, wC, wH⟩ := hW
  refine ⟨n, e, c, h, ea, eb, ew, ce, hr, w1, w2, w3, w4, w5, w6, (g.1 14 h1.1).trans w7, w8, (g.1 18 h1.2.1).trans w9, w10, (g.1 20 h1.2.2.1).trans w11, w12, (g.1 22 h1.2.2.2).trans w13, fun k hk => ?_, fun k hk => ?_, fun k hk => ?_⟩
  · rw [g.2.1 15 h2.1, g.2.1 16 h2.2.1, g.2.1 17 h2.2.2.1]; exact wE k hk
  · rw [g.2.1 19 h2.2.2.2.1]; exact wC k hk
  · rw [g.2.1 21 h2.2.2.2.2]; exact wH k hk
theorem g_walks {V Hp M : PS} (hR : RWeb V Hp M) (p1 p2 : Int32) (qV : Nat → Nat) : ∃ (r : Int32) (V' : PS) (qV' : Nat → Nat) (M' : PS), f_X9_walks V qV p1 p2 = some (r, V', qV') ∧ f_X10_walks M p1 p2 = some (r, M') ∧ RWeb V' Hp M' ∧ SXw M M' := by
  obtain ⟨n, e, c, h, ea, eb, ew, ce, hr, hW⟩ := id hR
  have hn := pw8 hW.2.1
  unfold f_X9_walks f_X10_walks
  rw [kno8 hW, kno10 hW, in_32 p2 0 8 0 8 rfl rfl]
  simp only [b1_some, ltL p2 0 0 rfl, gtL p2 8 8 rfl]
  by_cases g1 : 0 ≤ p1.toInt ∧ p1.toInt < (2 ^ n : Nat)
  · rw [if_pos g1, if_neg one_ne0, if_neg one_ne0]
    obtain ⟨s, rfl, hs⟩ := kno_ex g1
    by_cases g2 : 0 ≤ p2.toInt ∧ p2.toInt ≤ 8
    · rw [if_pos g2, if_neg (by omega), if_neg (by omega), if_neg one_ne0]
      obtain ⟨t, ht, ht2, -⟩ := nI_ex p2 (by decide) g2
      subst ht
      obtain ⟨V2, q2, a1, a2⟩ := walk8 hW (s := s) (t := t) (by omega) (by omega) qV
      obtain ⟨S1, S2, c1, c2, c3, c4⟩ := walk10 hW (s := s) (t := t) (by omega) (by omega)
      rw [a1, c1]
      simp only [b1_some, b3_some]
      rw [c2]
      simp only [b1_some]
      rw [c3]
      simp only [b1_some]
      refine ⟨_, V2, q2, S2, rfl, ?_, (hR.frV a2).fr c4 (by decide) (by decide), c4.mono (by decide) (by decide) (by decide)⟩
      by_cases z : (999999999 : Int64) < sml (wst ea eb e s t) 8
      · rw [if_pos z, if_neg (fun y => by have := Int32.not_lt.mpr y; exact this ((cmp_gt _ _).mpr z))]
        rfl
      · rw [if_neg z, if_pos (Int32.not_lt.mp (fun y => z ((cmp_gt _ _).mp y)))]
        rfl
    · rw [if_neg g2, if_pos rfl]
      refine ⟨-3, V, qV, M, ?_, rfl, hR, SX.rf⟩
      by_cases z : p2.toInt < 0
      · rw [if_pos z]; rfl
      · rw [if_neg z, if_pos (by omega)]; rfl
  · rw [if_neg g1, if_pos rfl, if_pos rfl]
    exact ⟨-3, V, qV, M, rfl, rfl, hR, SX.rf⟩
