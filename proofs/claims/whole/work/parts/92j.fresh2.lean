/-! refresh -/
theorem rt_le (o : Nat → Nat → Nat) (tr : Int32) (inp row : Nat) : rtN o tr inp row ≤ 1 := by
  unfold rtN
  split <;> split <;> omega
theorem in7 {P S : PS} {rw inp : Nat} {g A : Nat → Nat} (hg : ∀ k, g k ≤ 1) (hrw : rw ≤ 64) (hi : inp < 32) (h5 : P.1 5 = nI rw) (hA : ∀ r, r < rw → S.2.1 5 r = nI (A r) ∧ A r < 2 ^ inp) : ∃ S2, L_X7_refresh_82 (nI inp) P (lN (fb_sm (fun r => g r * 2 ^ r) rw)) FU 0 S = some S2 ∧ (SX [] [5] [] S S2 ∧ ∀ r, r < rw → S2.2.1 5 r = nI (A r + g r * 2 ^ inp)) := by
  unfold L_X7_refresh_82
  have key : ∃ S2, loopF (fun x : Int32 × PS => B_X7_refresh_82 (nI inp) P (lN (fb_sm (fun r => g r * 2 ^ r) rw)) x.1 x.2) FU (0, S) = some S2 ∧ (SX [] [5] [] S S2 ∧ ∀ r, r < rw → S2.2.1 5 r = nI (A r + g r * 2 ^ inp)) := by
    refine loopF_inv (fun j x => x.1 = nI j ∧ SX [] [5] [] S x.2 ∧ (∀ r, r < j → x.2.2.1 5 r = nI (A r + g r * 2 ^ inp)) ∧ ∀ r, j ≤ r → r < rw → x.2.2.1 5 r = nI (A r)) _ rw ?_ ?_ rw 0 (0, S) FU (by omega) (FU_lt (by omega)) ⟨rfl, SX.rf, fun r h => by omega, fun r _ h => (hA r h).1⟩
    · rintro j hj ⟨u, U⟩ ⟨k1, k2, k3, k4⟩
      dsimp only at k1 k2 k3 k4
      subst k1
      left
      unfold B_X7_refresh_82
      dsimp only
      rw [h5, if_neg (nI_ge hj (by omega)), rdI_nI (by omega) (by decide), k4 j (Nat.le_refl _) hj]
      simp only [b1_some]
      rw [bit64 (by omega), bits_at hg rw j hj, lN_i, or_bit32 (hA j hj).2 (by have := hg j; omega) hi, wA_nI (by omega) (by decide)]
      simp only [b1_some, bn, nI_1]
      refine ⟨_, rfl, rfl, k2.sA _ (by decide), fun r hr => ?_, fun r h1 h2 => ?_⟩
      · show upd (U.2.1 5) j _ r = _
        rw [up_s]
        by_cases z : r = j
        · rw [if_pos z, z]
        · rw [if_neg z]; exact k3 r (by omega)
      · show upd (U.2.1 5) j _ r = _
        rw [up_s, if_neg (by omega)]
        exact k4 r (by omega) h2
    · rintro ⟨u, U⟩ ⟨k1, k2, k3, k4⟩
      dsimp only at k1 k2 k3 k4
      subst k1
      refine ⟨U, ?_, k2, k3⟩
      unfold B_X7_refresh_82
      dsimp only
      rw [h5, if_pos (nI_le (Nat.le_refl _) (by omega))]
  exact key
theorem rr_eq (rw : Nat) (hrw : rw ≤ 64) (o : Nat → Nat → Nat) (tr : Int32) (inp : Nat) : (if tbit tr inp then lN (nzN rw o inp) else lN (2 ^ rw - 1) &&& (lN (nzN rw o inp) ^^^ (-1))) = lN (rrN rw o tr inp) := by
  have hz : ∀ k, (fun row => if o inp row = 0 then 0 else 1) k ≤ 1 := fun k => by dsimp only; split <;> omega
  by_cases c : tbit tr inp
  · rw [if_pos c]
    congr 1
    refine fb_sm_cong (fun k _ => ?_)
    unfold rtN
    rw [if_pos c, if_pos c]
  · rw [if_neg c]
    have b1 : nzN rw o inp < 2 ^ rw := bits_lt hz rw
    have b2 : fb_sm (fun k => (1 - if o inp k = 0 then 0 else 1) * 2 ^ k) rw + nzN rw o inp = 2 ^ rw - 1 := bits_not hz rw
    have e : rrN rw o tr inp = fb_sm (fun k => (1 - if o inp k = 0 then 0 else 1) * 2 ^ k) rw := by
      refine fb_sm_cong (fun k _ => ?_)
      unfold rtN
      rw [if_neg c, if_neg c]
      by_cases z : o inp k = 0
      · rw [if_pos z, if_pos z]
      · rw [if_neg z, if_neg z]
    rw [and_not hrw b1, e]
    congr 1
    omega
section PROG9
variable {P S M : PS} {nl nd rw wd : Nat} {kd ce aa ab ac dn dz : Nat → Nat}
theorem RPg.frS (h : RPg P S M nl nd rw wd kd ce aa ab ac dn dz) {S' : PS} (g : SX [] [6] [7] S S') : RPg P S' M nl nd rw wd kd ce aa ab ac dn dz := by
  obtain ⟨a, b, c, d, e, f, q, z⟩ := h
  refine ⟨a, b, (g.1 1 (by simp)).trans c, d, (g.1 2 (by simp)).trans e, f, ?_, z⟩
  rw [g.1 2 (by simp)]
  unfold ST at q ⊢
  rw [g.1 3 (by simp), g.2.2 4 (by decide), g.2.1 5 (by decide)]
  exact q
theorem ref7L (h : RPg P S M nl nd rw wd kd ce aa ab ac dn dz) {S3 : PS} (hS : SX [] [5] [4] S S3) (h0 : ∀ r, r < rw → S3.2.1 5 r = 0) : ∃ r, L_X7_refresh_30 (lN (2 ^ rw - 1)) FU 0 S3 P = some r ∧ (SX [] [5] [4] S r.1 ∧ RPg r.2 S M nl nd rw wd kd ce aa ab ac dn dz ∧ (∀ inp, inp < 2 ^ wd → r.1.2.2 4 inp = lN (rrN rw (oN kd ce aa ab ac dn dz nl nd) (S.1 2) inp)) ∧ ∀ row, row < rw → r.1.2.1 5 row = nI (riN wd (oN kd ce aa ab ac dn dz nl nd) (S.1 2) row)) := by
  have l0 : wd ≤ 5 := h.2.1
  have l1 := pw5 h.2.1
  have l2 : rw ≤ 64 := h.1.2.2.2.1
  have c : S.1 1 = nI wd := h.2.2.1
  have key : ∃ r, L_X7_refresh_30 (lN (2 ^ rw - 1)) FU 0 S3 P = some r ∧ (SX [] [5] [4] S r.1 ∧ RPg r.2 S M nl nd rw wd kd ce aa ab ac dn dz ∧ (∀ inp, inp < 2 ^ wd → r.1.2.2 4 inp = lN (rrN rw (oN kd ce aa ab ac dn dz nl nd) (S.1 2) inp)) ∧ ∀ row, row < rw → r.1.2.1 5 row = nI (riN wd (oN kd ce aa ab ac dn dz nl nd) (S.1 2) row)) := by
    unfold L_X7_refresh_30
    refine loopF_inv (fun i x => x.1 = nI i ∧ SX [] [5] [4] S x.2.1 ∧ RPg x.2.2 S M nl nd rw wd kd ce aa ab ac dn dz ∧ (∀ inp, inp < i → x.2.1.2.2 4 inp = lN (rrN rw (oN kd ce aa ab ac dn dz nl nd) (S.1 2) inp)) ∧ ∀ row, row < rw → x.2.1.2.1 5 row = nI (fb_sm (fun inp => rtN (oN kd ce aa ab ac dn dz nl nd) (S.1 2) inp row * 2 ^ inp) i)) _ (2 ^ wd) ?_ ?_ (2 ^ wd) 0 (0, S3, P) FU (by omega) (FU_lt (by omega)) ⟨rfl, hS, h, fun r h => by omega, h0⟩
    · rintro i hi ⟨u, U, Q⟩ ⟨k1, k2, k3, k4, k5⟩
      dsimp only at k1 k2 k3 k4 k5
      subst k1
      left
      obtain ⟨P2, x1, x2⟩ := nz8 k3 (inp := i) (by omega)
      have u1 : U.1 1 = nI wd := (k2.1 1 (by simp)).trans c
      have u2 : U.1 2 = S.1 2 := k2.1 2 (by simp)
      have it : f_X7_isTrue U (nI i) = some (if tbit (S.1 2) i then 1 else 0) := by
        unfold f_X7_isTrue
        rw [u2]
        by_cases z : tbit (S.1 2) i
        · rw [if_pos z, if_pos z]; rfl
        · rw [if_neg z, if_neg z]; rfl
      have r1 := rr_eq rw l2 (oN kd ce aa ab ac dn dz nl nd) (S.1 2) i
      have r2 : (if (if tbit (S.1 2) i then (1 : Int32) else 0) = 0 then some (lN (2 ^ rw - 1) &&& (lN (nzN rw (oN kd ce aa ab ac dn dz nl nd) i) ^^^ (-1))) else some (lN (nzN rw (oN kd ce aa ab ac dn dz nl nd) i))) = some (lN (rrN rw (oN kd ce aa ab ac dn dz nl nd) (S.1 2) i)) := by
        rw [← r1]
        by_cases z : tbit (S.1 2) i
        · rw [if_pos z, if_pos z, if_neg one_ne0]
        · rw [if_neg z, if_neg z, if_pos rfl]
      have p5 : P2.1 5 = nI rw := x2.1.2.2.2.2.2.2.2.2.1
      obtain ⟨S2, y1, y2, y3⟩ := in7 (P := P2) (S := sL U 4 (vp_updL (U.2.2 4) i (lN (rrN rw (oN kd ce aa ab ac dn dz nl nd) (S.1 2) i)))) (rw := rw) (inp := i) (g := rtN (oN kd ce aa ab ac dn dz nl nd) (S.1 2) i) (A := fun row => fb_sm (fun inp => rtN (oN kd ce aa ab ac dn dz nl nd) (S.1 2) inp row * 2 ^ inp) i) (fun k => rt_le _ _ _ _) l2 (by omega) p5 (fun r hr => ⟨k5 r hr, bits_lt (f := fun inp => rtN (oN kd ce aa ab ac dn dz nl nd) (S.1 2) inp r) (fun k => rt_le _ _ _ _) i⟩)
      change L_X7_refresh_82 (nI i) P2 (lN (rrN rw (oN kd ce aa ab ac dn dz nl nd) (S.1 2) i)) FU 0 _ = _ at y1
      refine ⟨(nI (i + 1), S2, P2), ?_, rfl, ?_, x2, fun inp hin => ?_, fun row hr => y3 row hr⟩
      · unfold B_X7_refresh_30 f_X7_inputCount
        dsimp only
        rw [u1, shl1 (by omega)]
        simp only [b1_some]
        rw [if_neg (nI_ge hi (by omega)), x1]
        simp only [b2_some]
        rw [it]
        simp only [b1_some]
        rw [r2]
        simp only [b1_some]
        rw [wL_nI (by omega) (by decide)]
        simp only [b1_some]
        rw [y1]
        simp only [b1_some, bn, nI_1]
      · exact (k2.sL _ (by decide)).tr (y2.mono (fun _ h => h) (fun _ h => h) (by simp))
      · show S2.2.2 4 inp = _
        rw [y2.2.2 4 (by simp)]
        show vp_updL (U.2.2 4) i _ inp = _
        rw [vp_s]
        by_cases z : inp = i
        · rw [if_pos z, z]
        · rw [if_neg z]; exact k4 inp (by omega)
    · rintro ⟨u, U, Q⟩ ⟨k1, k2, k3, k4, k5⟩
      dsimp only at k1 k2 k3 k4 k5
      subst k1
      have u1 : U.1 1 = nI wd := (k2.1 1 (by simp)).trans c
      refine ⟨(U, Q), ?_, k2, k3, k4, k5⟩
      unfold B_X7_refresh_30 f_X7_inputCount
      dsimp only
      rw [u1, shl1 (by omega)]
      simp only [b1_some]
      rw [if_pos (nI_le (Nat.le_refl _) (by omega))]
  exact key
theorem ref7 (h : RPg P S M nl nd rw wd kd ce aa ab ac dn dz) : ∃ S2 P2, f_X9_fresh S P = some (S2, P2) ∧ RPg P2 S2 M nl nd rw wd kd ce aa ab ac dn dz ∧ S2.1 3 = 0 := by
  obtain ⟨a, b, c, d, e, f, q, z⟩ := id h
  have l2 : rw ≤ 64 := h.1.2.2.2.1
  have l3 : 1 ≤ rw := h.1.2.2.1
  have p5 : P.1 5 = nI rw := h.1.2.2.2.2.2.2.2.2.1
  unfold f_X9_fresh f_X7_refresh
  by_cases s : S.1 3 = 0
  · rw [if_pos s]; exact ⟨S, P, rfl, h, s⟩
  · rw [if_neg s]
    obtain ⟨f2, f3, f4⟩ := fill64 (S.2.1 5)
    have hs := span_any (a := 0) l3 (by omega)
    rw [Nat.pow_zero, Nat.mul_one] at hs
    obtain ⟨⟨S2, P2⟩, y1, y2, y3, y4, y5⟩ := ref7L h (S3 := sA S 5 f2) (SX.rf.sA _ (by decide)) (fun r hr => f4 r (by omega))
    dsimp only at y2 y3 y4 y5
    rw [f3]
    simp only [b1_some, bn]
    rw [p5, show (0 : Int32) = nI 0 from rfl, hs]
    simp only [b1_some]
    rw [show nI 0 = (0 : Int32) from rfl, y1]
    simp only [b2_some]
    refine ⟨sI S2 3 0, P2, rfl, ?_, rfl⟩
    obtain ⟨a', b', c', d', e', f', q', z'⟩ := y3
    have s1 : S2.1 1 = nI wd := (y2.1 1 (by simp)).trans c
    have s2 : S2.1 2 = S.1 2 := y2.1 2 (by simp)
    have s2' : (sI S2 3 0).1 2 = S.1 2 := s2
    refine ⟨a', b', s1, d, s2.trans e, f', ?_, z⟩
    rw [s2']
    exact fun _ => ⟨y4, y5⟩
end PROG9
