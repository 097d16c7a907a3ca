/-! walks -/
def inS (s k : Nat) : Prop := s / 2 ^ k % 2 = 1
/-- the ways behind k edges -/
def acw (ea eb : Nat → Nat) (s : Nat) (w : Nat → Int64) : Nat → Nat → Int64
  | 0 => fun _ => 0
  | k + 1 => if s / 2 ^ ea k % 2 = 1 ∧ s / 2 ^ eb k % 2 = 1 then vp_updL (vp_updL (acw ea eb s w k) (ea k) (acw ea eb s w k (ea k) + w (eb k))) (eb k) (vp_updL (acw ea eb s w k) (ea k) (acw ea eb s w k (ea k) + w (eb k)) (eb k) + w (ea k)) else acw ea eb s w k
def wst (ea eb : Nat → Nat) (e s : Nat) : Nat → Nat → Int64
  | 0 => fun j => lN (s / 2 ^ j % 2)
  | t + 1 => acw ea eb s (wst ea eb e s t) e
def sml (f : Nat → Int64) : Nat → Int64
  | 0 => 0
  | n + 1 => sml f n + f n
theorem fillL (g : Nat → Int64) : ∃ g2, f_J7_fill_d0a16 8 g 0 = some g2 ∧ ∀ j, j < 8 → g2 j = 0 := by
  unfold f_J7_fill_d0a16 L_J7_fill_d0a16_6
  simp only [bn]
  have key : ∃ g2, loopF (fun x : Int32 × (Nat → Int64) => B_J7_fill_d0a16_6 8 0 (Int32.ofNat 8) x.1 x.2) FU (0, g) = some g2 ∧ ∀ j, j < 8 → g2 j = 0 := by
    refine loopF_inv (fun i x => x.1 = nI i ∧ ∀ j, j < i → x.2 j = 0) _ 8 ?_ ?_ 8 0 (0, g) FU (by omega) (FU_lt (by decide)) ⟨rfl, fun j hj => by omega⟩
    · rintro i hi ⟨v, U⟩ ⟨k1, k2⟩
      dsimp only at k1 k2
      subst k1
      left
      refine ⟨(nI (i + 1), vp_updL U i 0), ?_, rfl, fun j hj => ?_⟩
      · unfold B_J7_fill_d0a16_6
        dsimp only
        rw [if_neg (show ¬ Int32.ofNat 8 ≤ nI i from nI_ge hi (by decide)), wrL_nI hi (by decide)]
        simp only [b1_some, bn, nI_1]
      · show vp_updL U i 0 j = 0
        by_cases q : j = i
        · subst q; exact pk_uLs
        · rw [pk_uLn q]; exact k2 j (by omega)
    · rintro ⟨v, U⟩ ⟨k1, k2⟩
      dsimp only at k1 k2
      subst k1
      refine ⟨U, ?_, k2⟩
      unfold B_J7_fill_d0a16_6
      dsimp only
      rw [if_pos (show Int32.ofNat 8 ≤ nI 8 from nI_le (Nat.le_refl 8) (by decide))]
  obtain ⟨g2, q1, q2⟩ := key
  exact ⟨g2, by rw [q1]; rfl, q2⟩
theorem and_b (x y : Nat) : (x &&& y) % 2 = 1 ↔ x % 2 = 1 ∧ y % 2 = 1 := by
  have h := Nat.and_mod_two_pow (a := x) (b := y) (n := 1)
  rw [Nat.pow_one] at h
  rw [h]
  rcases Nat.mod_two_eq_zero_or_one x with p | p <;> rcases Nat.mod_two_eq_zero_or_one y with q | q <;> rw [p, q] <;> decide
theorem cond8 {s a b : Nat} (hs : s < 256) (ha : a < 8) (hb : b < 8) : ((nI s >>> (nI a &&& 31)) &&& (nI s >>> (nI b &&& 31))) &&& 1 = 1 ↔ s / 2 ^ a % 2 = 1 ∧ s / 2 ^ b % 2 = 1 := by
  have h1 : s / 2 ^ a < 256 := Nat.lt_of_le_of_lt (Nat.div_le_self _ _) hs
  rw [pk_shrN (by omega) (nI a &&& 31) a (s_l a (by omega)), pk_shrN (by omega) (nI b &&& 31) b (s_l b (by omega)), fa_and, and1 (Nat.lt_trans (and_lt h1) (by decide)), ← and_b]
  exact nI_eq (b := 1) (by omega) (by decide)
theorem bit1 {s a : Nat} (hs : s < 256) (ha : a < 8) : (nI s >>> (nI a &&& 31)) &&& 1 = 1 ↔ s / 2 ^ a % 2 = 1 := by
  rw [bitI (by omega) (by omega)]
  exact nI_eq (b := 1) (by omega) (by decide)
section WEB5
variable {V Hp M : PS} {n e c h : Nat} {ea eb ew ce hr : Nat → Nat}
theorem len8 (hW : WS V Hp M n e c h ea eb ew ce hr) {s : Nat} (hs : s < 256) (w : Nat → Int64) {S : PS} (hS : SX [] [] [7, 8] V S) (hw : ∀ j, j < 8 → S.2.2 7 j = w j) (q : Nat → Nat) : ∃ S2, f_X8_lengthenWalks S q (nI s) = some (S2, qsw q) ∧ SX [] [] [7, 8] V S2 ∧ ∀ j, j < 8 → S2.2.2 7 j = acw ea eb s w e j := by
  obtain ⟨w1, w2, w3, w4, w5, w6, w7, w8, w9, w10, w11, w12, w13, wE, wC, wH⟩ := id hW
  obtain ⟨g2, f1, f2⟩ := fillL (S.2.2 8)
  unfold f_X8_lengthenWalks L_X8_lengthenWalks_10
  rw [f1]
  simp only [b1_some, bn]
  have key : ∃ S2, loopF (fun x : Int32 × PS => B_X8_lengthenWalks_10 (nI s) x.1 x.2) FU (0, sL S 8 g2) = some S2 ∧ (SX [] [] [8] (sL S 8 g2) S2 ∧ ∀ j, j < 8 → S2.2.2 8 j = acw ea eb s w e j) := by
    refine loopF_inv (fun i x => x.1 = nI i ∧ SX [] [] [8] (sL S 8 g2) x.2 ∧ ∀ j, j < 8 → x.2.2.2 8 j = acw ea eb s w i j) _ e ?_ ?_ e 0 (0, sL S 8 g2) FU (by omega) (FU_lt (by omega)) ⟨rfl, SX.rf, fun j hj => f2 j hj⟩
    · rintro i hi ⟨v, U⟩ ⟨k1, k2, k3⟩
      dsimp only at k1 k2 k3
      subst k1
      left
      obtain ⟨q1, q2, q3, q4, q5, q6, q7, q8, q9, q10, q11⟩ := wE i hi
      have a1 : U.1 1 = nI e := (k2.1 1 (by decide)).trans ((hS.1 1 (by decide)).trans w8)
      have a3 : U.2.1 3 i = nI (ea i) := by rw [k2.2.1 3 (by decide)]; show S.2.1 3 i = _; rw [hS.2.1 3 (by decide)]; exact q1
      have a4 : U.2.1 4 i = nI (eb i) := by rw [k2.2.1 4 (by decide)]; show S.2.1 4 i = _; rw [hS.2.1 4 (by decide)]; exact q3
      have a7 : ∀ j, j < 8 → U.2.2 7 j = w j := fun j hj => by rw [k2.2.2 7 (by decide)]; exact hw j hj
      unfold B_X8_lengthenWalks_10
      dsimp only
      rw [a1, if_neg (nI_ge hi (by omega)), rdI_nI (by omega) (by decide), rdI_nI (by omega) (by decide), a3, a4]
      simp only [b1_some]
      have cc := cond8 (s := s) (a := ea i) (b := eb i) hs (by omega) (by omega)
      by_cases g : s / 2 ^ ea i % 2 = 1 ∧ s / 2 ^ eb i % 2 = 1
      · rw [if_pos (cc.mpr g), rdL_nI (by omega) (by decide), rdL_nI (by omega) (by decide)]
        simp only [b1_some]
        rw [wL_nI (by omega) (by decide)]
        simp only [b1_some]
        rw [rdL_nI (by omega) (by decide), rdL_nI (by omega) (by decide)]
        simp only [b1_some]
        rw [wL_nI (by omega) (by decide)]
        simp only [b1_some, bn, nI_1]
        refine ⟨_, rfl, rfl, (k2.sL _ (by decide)).sL _ (by decide), fun j hj => ?_⟩
        rw [acw, if_pos g]
        show vp_updL (vp_updL (U.2.2 8) (ea i) (U.2.2 8 (ea i) + U.2.2 7 (eb i))) (eb i) (vp_updL (U.2.2 8) (ea i) (U.2.2 8 (ea i) + U.2.2 7 (eb i)) (eb i) + U.2.2 7 (ea i)) j = _
        rw [a7 _ (show ea i < 8 by omega), a7 _ (show eb i < 8 by omega), k3 (ea i) (by omega)]
        have inner : ∀ x, x < 8 → vp_updL (U.2.2 8) (ea i) (acw ea eb s w i (ea i) + w (eb i)) x = vp_updL (acw ea eb s w i) (ea i) (acw ea eb s w i (ea i) + w (eb i)) x := by
          intro x hx
          by_cases z : x = ea i
          · subst z; rw [pk_uLs, pk_uLs]
          · rw [pk_uLn z, pk_uLn z]; exact k3 x hx
        rw [inner (eb i) (by omega)]
        by_cases z : j = eb i
        · subst z; rw [pk_uLs, pk_uLs]
        · rw [pk_uLn z, pk_uLn z]; exact inner j hj
      · rw [if_neg (fun z => g (cc.mp z))]
        simp only [b1_some, bn, nI_1]
        refine ⟨_, rfl, rfl, k2, fun j hj => ?_⟩
        rw [acw, if_neg g]
        exact k3 j hj
    · rintro ⟨v, U⟩ ⟨k1, k2, k3⟩
      dsimp only at k1 k2 k3
      subst k1
      have a1 : U.1 1 = nI e := (k2.1 1 (by decide)).trans ((hS.1 1 (by decide)).trans w8)
      refine ⟨U, ?_, k2, k3⟩
      unfold B_X8_lengthenWalks_10
      dsimp only
      rw [a1, if_pos (nI_le (Nat.le_refl e) (by omega))]
  obtain ⟨S2, r1, r2, r3⟩ := key
  rw [r1]
  refine ⟨ssw S2, rfl, ?_, r3⟩
  have t1 : SX [] [] [7, 8] V S2 := (hS.sL _ (by decide)).tr (r2.mono (by decide) (by decide) (by decide))
  exact (t1.sL _ (by decide)).sL _ (by decide)
theorem walk8 (hW : WS V Hp M n e c h ea eb ew ce hr) {s t : Nat} (hs : s < 256) (ht : t ≤ 8) (q : Nat → Nat) : ∃ S2 q2, f_X8_walkCount V q (nI s) (nI t) = some (((if (999999999 : Int64) < sml (wst ea eb e s t) 8 then (999999999 : Int64) else sml (wst ea eb e s t) 8).toInt32), S2, q2) ∧ SX [] [] [7, 8] V S2 := by
  unfold f_X8_walkCount L_X8_walkCount_2 L_X8_walkCount_28 L_X8_walkCount_49
  have k1 : ∃ S2, loopF (fun x : Int32 × PS => B_X8_walkCount_2 (nI s) x.1 x.2) FU (0, V) = some S2 ∧ (SX [] [] [7, 8] V S2 ∧ ∀ j, j < 8 → S2.2.2 7 j = wst ea eb e s 0 j) := by
    refine loopF_inv (fun i x => x.1 = nI i ∧ SX [] [] [7, 8] V x.2 ∧ ∀ j, j < i → x.2.2.2 7 j = wst ea eb e s 0 j) _ 8 ?_ ?_ 8 0 (0, V) FU (by omega) (FU_lt (by decide)) ⟨rfl, SX.rf, fun j hj => by omega⟩
    · rintro i hi ⟨v, U⟩ ⟨k1, k2, k3⟩
      dsimp only at k1 k2 k3
      subst k1
      left
      refine ⟨(nI (i + 1), sL U 7 (vp_updL (U.2.2 7) i (lN (s / 2 ^ i % 2)))), ?_, rfl, k2.sL _ (by decide), fun j hj => ?_⟩
      · unfold B_X8_walkCount_2
        dsimp only
        rw [if_neg (show ¬ (8 : Int32) ≤ nI i from nI_ge hi (by decide)), bitI (by omega) (by omega), nI_l (by omega), wL_nI hi (by decide)]
        simp only [b1_some, bn, nI_1]
      · show vp_updL (U.2.2 7) i _ j = _
        by_cases z : j = i
        · subst z; exact pk_uLs
        · rw [pk_uLn z]; exact k3 j (by omega)
    · rintro ⟨v, U⟩ ⟨k1, k2, k3⟩
      dsimp only at k1 k2 k3
      subst k1
      refine ⟨U, ?_, k2, k3⟩
      unfold B_X8_walkCount_2
      dsimp only
      rw [if_pos (show (8 : Int32) ≤ nI 8 from nI_le (Nat.le_refl 8) (by decide))]
  obtain ⟨S1, a1, a2, a3⟩ := k1
  rw [a1]
  simp only [b1_some]
  have k2 : ∃ r : PS × (Nat → Nat), loopF (fun x : Int32 × PS × (Nat → Nat) => B_X8_walkCount_28 (nI s) (nI t) x.1 x.2.1 x.2.2) FU (0, S1, q) = some r ∧ (SX [] [] [7, 8] V r.1 ∧ ∀ j, j < 8 → r.1.2.2 7 j = wst ea eb e s t j) := by
    refine loopF_inv (fun i x => x.1 = nI i ∧ SX [] [] [7, 8] V x.2.1 ∧ ∀ j, j < 8 → x.2.1.2.2 7 j = wst ea eb e s i j) _ t ?_ ?_ t 0 (0, S1, q) FU (by omega) (FU_lt (by omega)) ⟨rfl, a2, a3⟩
    · rintro i hi ⟨v, U, q9⟩ ⟨k1, k2, k3⟩
      dsimp only at k1 k2 k3
      subst k1
      left
      obtain ⟨S2, b1', b2', b3'⟩ := len8 hW hs (wst ea eb e s i) k2 k3 q9
      refine ⟨(nI (i + 1), S2, qsw q9), ?_, rfl, b2', b3'⟩
      unfold B_X8_walkCount_28
      dsimp only
      rw [if_neg (nI_ge hi (by omega)), b1']
      simp only [b2_some, bn, nI_1]
    · rintro ⟨v, U, q9⟩ ⟨k1, k2, k3⟩
      dsimp only at k1 k2 k3
      subst k1
      refine ⟨(U, q9), ?_, k2, k3⟩
      unfold B_X8_walkCount_28
      dsimp only
      rw [if_pos (nI_le (Nat.le_refl t) (by omega))]
  obtain ⟨⟨S2, q2⟩, c1, c2, c3⟩ := k2
  dsimp only at c2 c3
  rw [c1]
  simp only [b2_some]
  have k3 : loopF (fun x : Int64 × Int32 => B_X8_walkCount_49 S2 x.1 x.2) FU (0, 0) = some (sml (wst ea eb e s t) 8) := by
    refine loopF_seq0 (fun i => (sml (wst ea eb e s t) i, nI i)) 8 _ rfl ?_ ?_ (FU_lt (by decide))
    · intro i hi
      unfold B_X8_walkCount_49
      dsimp only
      rw [if_neg (show ¬ (8 : Int32) ≤ nI i from nI_ge hi (by decide)), rdL_nI hi (by decide), c3 i hi]
      simp only [b1_some, bn, nI_1]
      rfl
    · unfold B_X8_walkCount_49
      dsimp only
      rw [if_pos (show (8 : Int32) ≤ nI 8 from nI_le (Nat.le_refl 8) (by decide))]
  rw [k3]
  exact ⟨S2, q2, rfl, c2⟩
end WEB5
