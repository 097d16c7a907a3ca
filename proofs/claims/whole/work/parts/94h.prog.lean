/-! fault, program -/
theorem RPg.frd {P S M M' : PS} {nl nd rw wd : Nat} {kd ce aa ab ac dn dz : Nat → Nat} (h : RPg P S M nl nd rw wd kd ce aa ab ac dn dz) (g : FRD M M') : RPg P S M' nl nd rw wd kd ce aa ab ac dn dz := by
  obtain ⟨⟨a1, a2, a3, a4, a5, a6, a7, a8, a9, a10, aD, aK, aN, aS⟩, b, c, d, e, f, q, z⟩ := h
  refine ⟨⟨a1, a2, a3, a4, a5, (g.1.1 7 (by decide)).trans a6, a7, (g.1.1 10 (by decide)).trans a8, a9, (g.1.1 11 (by decide)).trans a10, fun i hi => ?_, fun k hk => ?_, aN, aS⟩, b, c, (g.1.1 12 (by decide)).trans d, e.trans (g.1.1 13 (by decide)).symm, f, q, z⟩
  · rw [g.1.2.1 9 (by decide)]
    exact aD i hi
  · have l : LNp P M k k nd (kd k) (ce k) (aa k) (ab k) (ac k) (dn k) := aK k hk
    exact l.fr (Nat.le_refl _) rfl rfl (fun _ _ => rfl) (fun a _ => g.2 a k (by omega))
theorem RText.frd {T M M' : PS} (h : RText T M) (g : FRD M M') : RText T M' := h.fr g.1 (by decide) (by decide)
theorem g_fault {T P S M : PS} (hT : RText T M) (hR : RP P S M) (R Dr : PS) : ∃ (r : Int32) (R' Dr' M' : PS), f_X9_fault R T Dr = some (r, R', Dr') ∧ f_X10_fault M = some (r, M') ∧ RText T M' ∧ RP P S M' ∧ SX [8, 28, 29, 30, 31, 32] [2, 3, 4, 5, 6] [] M M' := by
  obtain ⟨n, tx, h1, h2⟩ := TX.of hT
  obtain ⟨nl, nd, rw, wd, kd, ce, aa, ab, ac, dn, dz, h⟩ := hR
  obtain ⟨r, R', U', M', y1, y2, y3, y4⟩ := into_ok h1 h2 R Dr
  refine ⟨r, R', U', M', ?_, y2, hT.frd y3, ⟨nl, nd, rw, wd, kd, ce, aa, ab, ac, dn, dz, h.frd y3⟩, y3.1⟩
  unfold f_X9_fault
  rw [y1]
  rfl
/-- the lines read become the program's -/
theorem cp_5 {N : PS} {k : Nat} (hk : k < 20) {β : Type} (K : PS → Option β) : (b1 (rdI 40 (N.2.1 2) (20 + nI k)) fun v10 => b1 (wA 40 N 2 (nI k) v10) fun S11 => b1 (rdI 40 (S11.2.1 3) (20 + nI k)) fun v12 => b1 (wA 40 S11 3 (nI k) v12) fun S13 => b1 (rdI 40 (S13.2.1 4) (20 + nI k)) fun v14 => b1 (wA 40 S13 4 (nI k) v14) fun S15 => b1 (rdI 40 (S15.2.1 5) (20 + nI k)) fun v16 => b1 (wA 40 S15 5 (nI k) v16) fun S17 => b1 (rdI 40 (S17.2.1 6) (20 + nI k)) fun v18 => b1 (wA 40 S17 6 (nI k) v18) K) = K (sA (sA (sA (sA (sA N 2 (upd (N.2.1 2) k (N.2.1 2 (20 + k)))) 3 (upd (N.2.1 3) k (N.2.1 3 (20 + k)))) 4 (upd (N.2.1 4) k (N.2.1 4 (20 + k)))) 5 (upd (N.2.1 5) k (N.2.1 5 (20 + k)))) 6 (upd (N.2.1 6) k (N.2.1 6 (20 + k)))) := by
  have ix : (20 : Int32) + nI k = nI (20 + k) := by rw [show (20 : Int32) = nI 20 from rfl, nI_add]
  rw [ix, rdI_nI (by omega) (by decide), b1_some, wA_nI (by omega) (by decide), b1_some, rdI_nI (by omega) (by decide), b1_some, wA_nI (by omega) (by decide), b1_some, rdI_nI (by omega) (by decide), b1_some, wA_nI (by omega) (by decide), b1_some, rdI_nI (by omega) (by decide), b1_some, wA_nI (by omega) (by decide), b1_some, rdI_nI (by omega) (by decide), b1_some, wA_nI (by omega) (by decide), b1_some]
  rfl
theorem cp_at {N : PS} {k : Nat} : ∀ a, a = 2 ∨ a = 3 ∨ a = 4 ∨ a = 5 ∨ a = 6 → ∀ i, (sA (sA (sA (sA (sA N 2 (upd (N.2.1 2) k (N.2.1 2 (20 + k)))) 3 (upd (N.2.1 3) k (N.2.1 3 (20 + k)))) 4 (upd (N.2.1 4) k (N.2.1 4 (20 + k)))) 5 (upd (N.2.1 5) k (N.2.1 5 (20 + k)))) 6 (upd (N.2.1 6) k (N.2.1 6 (20 + k)))).2.1 a i = if i = k then N.2.1 a (20 + k) else N.2.1 a i := by
  intro a ha i
  rcases ha with rfl | rfl | rfl | rfl | rfl <;> rfl
theorem cpy10 {U M : PS} {j nd rw : Nat} {kd ce aa ab ac dn dz : Nat → Nat} (h : RD U M j nd rw kd ce aa ab ac dn dz) {N0 : PS} (h7 : N0.1 7 = nI j) (h10 : N0.1 10 = 0) (ha : N0.2.1 = M.2.1) : ∃ N, L_X10_program_34 FU 0 N0 = some N ∧ SX [10] [2, 3, 4, 5, 6, 9] [] N0 N ∧ (∀ a, a = 2 ∨ a = 3 ∨ a = 4 ∨ a = 5 ∨ a = 6 → ∀ i, i < j → N.2.1 a i = M.2.1 a (20 + i)) ∧ N.1 10 = nI nd ∧ ∀ i, i < nd → N.2.1 9 i = nI (dz i) := by
  obtain ⟨r1, r2, r3, r4, r5, r6, r7, r8, r9, r10, r11, r12, hD, hK, hN, hS⟩ := id h
  have cl : ∀ k, k ≤ j → fb_sm (fun i => if kd i = 0 then 1 else 0) k ≤ nd := fun k hk => by
    obtain ⟨d, rfl⟩ : ∃ d, j = k + d := ⟨j - k, by omega⟩
    rw [← hS]
    exact fb_sm_mono _ k d
  have key : ∃ N, L_X10_program_34 FU 0 N0 = some N ∧ (SX [10] [2, 3, 4, 5, 6, 9] [] N0 N ∧ (∀ a, a = 2 ∨ a = 3 ∨ a = 4 ∨ a = 5 ∨ a = 6 → ∀ i, i < j → N.2.1 a i = M.2.1 a (20 + i)) ∧ N.1 10 = nI nd ∧ ∀ i, i < nd → N.2.1 9 i = nI (dz i)) := by
    unfold L_X10_program_34
    refine loopF_inv (fun k x => x.1 = nI k ∧ SX [10] [2, 3, 4, 5, 6, 9] [] N0 x.2 ∧ (∀ a, a = 2 ∨ a = 3 ∨ a = 4 ∨ a = 5 ∨ a = 6 → (∀ i, i < k → x.2.2.1 a i = M.2.1 a (20 + i)) ∧ ∀ i, 20 ≤ i → x.2.2.1 a i = M.2.1 a i) ∧ x.2.1 10 = nI (fb_sm (fun i => if kd i = 0 then 1 else 0) k) ∧ ∀ i, i < fb_sm (fun i => if kd i = 0 then 1 else 0) k → x.2.2.1 9 i = nI (dz i)) _ j ?_ ?_ j 0 (0, N0) FU (by omega) (FU_lt (by omega)) ⟨rfl, SX.rf, fun a _ => ⟨fun i hi => by omega, fun i _ => by rw [ha]⟩, h10, fun i hi => by change i < 0 at hi; omega⟩
    · rintro k hk ⟨u, N⟩ ⟨k1, k2, k3, k4, k5⟩
      dsimp only at k1 k2 k3 k4 k5
      subst k1
      left
      obtain ⟨g1, g2⟩ := hK k hk
      have ck := cl (k + 1) (by omega)
      have ck0 := cl k (by omega)
      rw [fb_sm_succ] at ck
      have n2 : N.2.1 2 (20 + k) = nI (kd k) := ((k3 2 (by omega)).2 (20 + k) (by omega)).trans g1.2.1
      have n4 : kd k = 0 → N.2.1 4 (20 + k) = nI (dz (dn k)) := fun z => ((k3 4 (by omega)).2 (20 + k) (by omega)).trans (g2 z)
      have kd8 : kd k ≤ 8 := g1.2.2.1
      have AT := cp_at (N := N) (k := k)
      have s5 : SX [10] [2, 3, 4, 5, 6, 9] [] N0 (sA (sA (sA (sA (sA N 2 (upd (N.2.1 2) k (N.2.1 2 (20 + k)))) 3 (upd (N.2.1 3) k (N.2.1 3 (20 + k)))) 4 (upd (N.2.1 4) k (N.2.1 4 (20 + k)))) 5 (upd (N.2.1 5) k (N.2.1 5 (20 + k)))) 6 (upd (N.2.1 6) k (N.2.1 6 (20 + k)))) := ((((k2.sA _ (by decide)).sA _ (by decide)).sA _ (by decide)).sA _ (by decide)).sA _ (by decide)
      have q9 : (sA (sA (sA (sA (sA N 2 (upd (N.2.1 2) k (N.2.1 2 (20 + k)))) 3 (upd (N.2.1 3) k (N.2.1 3 (20 + k)))) 4 (upd (N.2.1 4) k (N.2.1 4 (20 + k)))) 5 (upd (N.2.1 5) k (N.2.1 5 (20 + k)))) 6 (upd (N.2.1 6) k (N.2.1 6 (20 + k)))).2.1 9 = N.2.1 9 := rfl
      have q10 : (sA (sA (sA (sA (sA N 2 (upd (N.2.1 2) k (N.2.1 2 (20 + k)))) 3 (upd (N.2.1 3) k (N.2.1 3 (20 + k)))) 4 (upd (N.2.1 4) k (N.2.1 4 (20 + k)))) 5 (upd (N.2.1 5) k (N.2.1 5 (20 + k)))) 6 (upd (N.2.1 6) k (N.2.1 6 (20 + k)))).1 10 = N.1 10 := rfl
      unfold B_X10_program_34
      dsimp only
      rw [k2.1 7 (by decide), h7, if_neg (nI_ge hk (by omega)), cp_5 (by omega)]
      generalize sA (sA (sA (sA (sA N 2 (upd (N.2.1 2) k (N.2.1 2 (20 + k)))) 3 (upd (N.2.1 3) k (N.2.1 3 (20 + k)))) 4 (upd (N.2.1 4) k (N.2.1 4 (20 + k)))) 5 (upd (N.2.1 5) k (N.2.1 5 (20 + k)))) 6 (upd (N.2.1 6) k (N.2.1 6 (20 + k))) = Q at AT s5 q9 q10 ⊢
      have AR : ∀ a, a = 2 ∨ a = 3 ∨ a = 4 ∨ a = 5 ∨ a = 6 → (∀ i, i < k + 1 → Q.2.1 a i = M.2.1 a (20 + i)) ∧ ∀ i, 20 ≤ i → Q.2.1 a i = M.2.1 a i := fun a h' => by
        refine ⟨fun i hi => ?_, fun i hi => ?_⟩
        · rw [AT a h' i]
          by_cases z : i = k
          · rw [if_pos z, z]; exact (k3 a h').2 (20 + k) (by omega)
          · rw [if_neg z]; exact (k3 a h').1 i (by omega)
        · rw [AT a h' i, if_neg (by omega)]
          exact (k3 a h').2 i hi
      have v2 : Q.2.1 2 k = nI (kd k) := by rw [AT 2 (by omega) k, if_pos rfl]; exact n2
      rw [rdI_nI (by omega) (by decide), v2, b1_some]
      by_cases z : kd k = 0
      · have v4 : Q.2.1 4 k = nI (dz (dn k)) := by rw [AT 4 (by omega) k, if_pos rfl]; exact n4 z
        rw [if_pos z] at ck
        rw [if_pos (show nI (kd k) = 0 by rw [z]; rfl), rdI_nI (by omega) (by decide), v4, b1_some, q10, k4, wA_nI (by omega) (by decide), b1_some, bn_rw, b1_some, bn_rw, nI_1]
        have e10 : (sA Q 9 (upd (Q.2.1 9) (fb_sm (fun i => if kd i = 0 then 1 else 0) k) (nI (dz (dn k))))).1 10 = nI (fb_sm (fun i => if kd i = 0 then 1 else 0) k) := q10.trans k4
        rw [e10, nI_1]
        refine ⟨_, rfl, rfl, (s5.sA _ (by decide)).sI _ (by decide), fun a h' => ?_, ?_, fun i hi => ?_⟩
        · have : (sI (sA Q 9 (upd (Q.2.1 9) (fb_sm (fun i => if kd i = 0 then 1 else 0) k) (nI (dz (dn k))))) 10 (nI (fb_sm (fun i => if kd i = 0 then 1 else 0) k + 1))).2.1 a = Q.2.1 a := by
            show (sA Q 9 _).2.1 a = _
            rw [sA_2, if_neg (by omega)]
          rw [this]
          exact AR a h'
        · rw [fb_sm_succ, if_pos z]
          rfl
        · rw [fb_sm_succ, if_pos z] at hi
          show upd (Q.2.1 9) _ _ i = _
          rw [up_s]
          by_cases y : i = fb_sm (fun i => if kd i = 0 then 1 else 0) k
          · rw [if_pos y, y, ← hN k hk]
          · rw [if_neg y, q9]; exact k5 i (by omega)
      · rw [if_neg (nI_ne0 (by omega) (by omega)), b1_some, bn_rw, nI_1]
        refine ⟨_, rfl, rfl, s5, AR, ?_, fun i hi => ?_⟩
        · rw [fb_sm_succ, if_neg z, Nat.add_zero]
          exact q10.trans k4
        · rw [fb_sm_succ, if_neg z, Nat.add_zero] at hi
          show Q.2.1 9 i = _
          rw [q9]; exact k5 i hi
    · rintro ⟨u, N⟩ ⟨k1, k2, k3, k4, k5⟩
      dsimp only at k1 k2 k3 k4 k5
      subst k1
      rw [hS] at k4 k5
      refine ⟨N, ?_, k2, fun a h' i hi => (k3 a h').1 i hi, k4, k5⟩
      unfold B_X10_program_34
      dsimp only
      rw [k2.1 7 (by decide), h7, if_pos (nI_le (Nat.le_refl _) (by omega))]
  exact key
abbrev SXp (M M' : PS) : Prop := SX [1, 7, 8, 10, 11, 28, 29, 30, 31, 32] [2, 3, 4, 5, 6, 9] [] M M'
theorem g_program {T P S M : PS} (hT : RText T M) (hR : RP P S M) (R Dr : PS) : ∃ (v : Int32) (R' Dr' : PS), f_X3_readInto R T Dr = some (v, R', Dr') ∧ ((v = -1 ∧ ∃ M' : PS, f_X10_program M = some (Dr'.1 5, M') ∧ RText (sI T 1 0) M' ∧ RP Dr' (sI S 3 1) M' ∧ SXp M M') ∨ (¬ v = -1 ∧ ∃ M' : PS, f_X10_program M = some (-4, M') ∧ RText T M' ∧ RP P S M' ∧ SXp M M')) := by
  obtain ⟨n, tx, h1, h2⟩ := TX.of hT
  obtain ⟨nl, nd0, rw0, wd, kd0, ce0, aa0, ab0, ac0, dn0, dz0, h⟩ := hR
  obtain ⟨r, R', U', M', y1, y2, y3, y4⟩ := into_ok h1 h2 R Dr
  refine ⟨r, R', U', y1, ?_⟩
  unfold f_X10_program
  rw [y2, b2_some]
  have fr : SXp M M' := y3.1.mono (by decide) (by decide) (fun _ h => h)
  by_cases c : r = -1
  · left
    refine ⟨c, ?_⟩
    obtain ⟨j, nd, rw, kd, ce, aa, ab, ac, dn, dz, g⟩ := y4 c
    obtain ⟨r1, r2, r3, r4, r5, r6, r7, r8, r9, r10, r11, r12, hD, hK, hN, hS⟩ := id g
    rw [if_pos c, bn_rw, bn_rw, bn_rw]
    obtain ⟨N, x1, x2, x3, x4, x5⟩ := cpy10 g (N0 := sI (sI (sI M' 7 (M'.1 8)) 11 ((sI M' 7 (M'.1 8)).1 32)) 10 0) r11 rfl rfl
    have n11 : (sI N 1 0).1 11 = nI rw := (x2.1 11 (by decide)).trans r12
    rw [x1, b1_some, bn_rw, n11, r9]
    have s1 : SXp M (sI N 1 0) := ((((fr.sI _ (by decide)).sI _ (by decide)).sI _ (by decide)).tr (x2.mono (by decide) (by decide) (fun _ h => h))).sI _ (by decide)
    refine ⟨_, rfl, ⟨0, by omega, rfl, rfl, fun j hj => by omega⟩, ?_, s1⟩
    obtain ⟨pg, b, c', d, e, f, q, z⟩ := h
    refine ⟨j, nd, rw, wd, kd, ce, aa, ab, ac, dn, dz, ⟨r1, r2, r3, r4, r7, ?_, r8, x4, r9, n11, fun i hi => ?_, fun k hk => ?_, hN, hS⟩, b, c', (s1.1 12 (by decide)).trans d, e.trans (s1.1 13 (by decide)).symm, ⟨0, by decide, r10, fun inp _ w => ?_⟩, fun w => ?_, r6⟩
    · exact (x2.1 7 (by decide)).trans r11
    · obtain ⟨d1, d2, d3⟩ := hD i hi
      exact ⟨d1, x5 i hi, d2, d3⟩
    · have l := (hK k hk).1
      have l2 : LNp U' (sI N 1 0) k k nd (kd k) (ce k) (aa k) (ab k) (ac k) (dn k) := l.fr (Nat.le_refl _) rfl rfl (fun _ _ => rfl) (fun a h' => x3 a h' k hk)
      exact l2
    · rw [Nat.zero_div] at w
      exact absurd w (by decide)
    · exact absurd w one_ne0
  · right
    refine ⟨c, ?_⟩
    rw [if_neg c]
    exact ⟨M', rfl, hT.frd y3, ⟨nl, nd0, rw0, wd, kd0, ce0, aa0, ab0, ac0, dn0, dz0, h.frd y3⟩, fr⟩
