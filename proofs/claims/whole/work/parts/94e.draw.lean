/-! a line, both sides -/
/-- a line of the draft at k, of the reference at o -/
def LNp (U M : PS) (k o nd kd ce aa ab ac dn : Nat) : Prop :=
  U.2.1 1 k = nI kd ∧ M.2.1 2 o = nI kd ∧ kd ≤ 8 ∧ M.2.1 3 o = nI ce ∧ ce < 8 ∧ (kd ≠ 8 → U.2.1 2 k = nI ce) ∧ (kd = 8 → U.2.1 3 (3 * k) = nI ce) ∧
    (kd = 0 → U.2.1 3 (3 * k) = nI dn ∧ dn < nd) ∧ (kd = 1 → U.2.1 3 (3 * k) = nI aa ∧ M.2.1 4 o = nI aa ∧ aa ≤ 4) ∧ (kd = 2 → U.2.1 3 (3 * k) = nI aa ∧ M.2.1 4 o = nI aa ∧ aa ≤ 15) ∧
    (3 ≤ kd → kd ≤ 7 → U.2.1 3 (3 * k) = nI aa ∧ M.2.1 4 o = nI aa ∧ aa < 8 ∧ U.2.1 3 (3 * k + 1) = nI ab ∧ M.2.1 5 o = nI ab ∧ ab < 8) ∧ (kd = 7 → U.2.1 3 (3 * k + 2) = nI ac ∧ M.2.1 6 o = nI ac ∧ ac < 8)
theorem LNp.fr {U M U' M' : PS} {k o o' nd nd' kd ce aa ab ac dn : Nat} (h : LNp U M k o nd kd ce aa ab ac dn) (hn : nd ≤ nd') (u1 : U'.2.1 1 k = U.2.1 1 k) (u2 : U'.2.1 2 k = U.2.1 2 k) (u3 : ∀ i, i < 3 → U'.2.1 3 (3 * k + i) = U.2.1 3 (3 * k + i)) (m : ∀ a, a = 2 ∨ a = 3 ∨ a = 4 ∨ a = 5 ∨ a = 6 → M'.2.1 a o' = M.2.1 a o) : LNp U' M' k o' nd' kd ce aa ab ac dn := by
  obtain ⟨h1, h2, h3, h4, h5, h6, h7, h8, h9, h10, h11, h12⟩ := h
  have v0 : U'.2.1 3 (3 * k) = U.2.1 3 (3 * k) := u3 0 (by omega)
  have v1 := u3 1 (by omega)
  have v2 := u3 2 (by omega)
  have m2 := m 2 (by omega)
  have m3 := m 3 (by omega)
  have m4 := m 4 (by omega)
  have m5 := m 5 (by omega)
  have m6 := m 6 (by omega)
  unfold LNp
  rw [u1, u2, v0, v1, v2, m2, m3, m4, m5, m6]
  exact ⟨h1, h2, h3, h4, h5, h6, h7, fun z => ⟨(h8 z).1, by have := (h8 z).2; omega⟩, h9, h10, h11, h12⟩
/-- j lines are read -/
def RD (U M : PS) (j nd rw : Nat) (kd ce aa ab ac dn dz : Nat → Nat) : Prop :=
  j ≤ 20 ∧ nd ≤ 6 ∧ 1 ≤ rw ∧ rw ≤ 64 ∧ 2 ^ nd ≤ rw ∧ rw = prN dz nd ∧ U.1 0 = nI j ∧ U.1 4 = nI nd ∧ U.1 5 = nI rw ∧ U.1 10 = 0 ∧ M.1 8 = nI j ∧ M.1 32 = nI rw ∧
  (∀ i, i < nd → U.2.1 6 i = nI (dz i) ∧ 2 ≤ dz i ∧ dz i ≤ 8) ∧
  (∀ k, k < j → LNp U M k (20 + k) nd (kd k) (ce k) (aa k) (ab k) (ac k) (dn k) ∧ (kd k = 0 → M.2.1 4 (20 + k) = nI (dz (dn k)))) ∧
  (∀ k, k < j → dn k = fb_sm (fun i => if kd i = 0 then 1 else 0) k) ∧ fb_sm (fun i => if kd i = 0 then 1 else 0) j = nd
theorem prN_cong {f g : Nat → Nat} : ∀ {n}, (∀ i, i < n → f i = g i) → prN f n = prN g n
  | 0, _ => rfl
  | n + 1, h => by rw [prN, prN, prN_cong (fun i hi => h i (by omega)), h n (by omega)]
theorem RD_s {U M U' M' : PS} {j nd rw w c a1 a2 a3 nd' rw' N : Nat} {kd ce aa ab ac dn dz : Nat → Nat} (h : RD U M j nd rw kd ce aa ab ac dn dz) (hj : j < 20) (u1 : ∀ k, k < j → U'.2.1 1 k = U.2.1 1 k ∧ U'.2.1 2 k = U.2.1 2 k) (u3 : ∀ i, i < 3 * j → U'.2.1 3 i = U.2.1 3 i) (u6 : ∀ i, i < nd → U'.2.1 6 i = U.2.1 6 i) (u10 : U'.1 10 = U.1 10) (hM : FRL j M M') (hl : LNp U' M' j (20 + j) nd' w c a1 a2 a3 nd)
    (hd : (w = 0 ∧ nd' = nd + 1 ∧ rw' = rw * N ∧ 2 ≤ N ∧ N ≤ 8 ∧ rw' ≤ 64 ∧ nd' ≤ 6 ∧ U'.2.1 6 nd = nI N ∧ M'.2.1 4 (20 + j) = nI N) ∨ (w ≠ 0 ∧ nd' = nd ∧ rw' = rw)) (e0 : U'.1 0 = nI (j + 1)) (e4 : U'.1 4 = nI nd') (e5 : U'.1 5 = nI rw') (e8 : M'.1 8 = nI (j + 1)) (e32 : M'.1 32 = nI rw') : ∃ kd ce aa ab ac dn dz, RD U' M' (j + 1) nd' rw' kd ce aa ab ac dn dz := by
  obtain ⟨h1, h2, h3, h4, h5, h6, h7, h8, h9, h10, h11, h12, hD, hK, hN, hS⟩ := h
  have nn : nd ≤ nd' := by rcases hd with ⟨_, e, _⟩ | ⟨_, e, _⟩ <;> omega
  have q1 : fb_sm (fun i => if (if i = j then w else kd i) = 0 then 1 else 0) j = nd := by
    rw [← hS]
    exact fb_sm_cong (fun i hi => by rw [if_neg (by omega : ¬ i = j)])
  refine ⟨fun k => if k = j then w else kd k, fun k => if k = j then c else ce k, fun k => if k = j then a1 else aa k, fun k => if k = j then a2 else ab k, fun k => if k = j then a3 else ac k, fun k => if k = j then nd else dn k, fun i => if i = nd then N else dz i, by omega, ?_, ?_, ?_, ?_, ?_, e0, e4, e5, u10.trans h10, e8, e32, ?_, ?_, ?_, ?_⟩
  · rcases hd with ⟨_, _, _, _, _, _, e, _⟩ | ⟨_, e, _⟩ <;> omega
  · rcases hd with ⟨_, _, e, f, _⟩ | ⟨_, _, e⟩
    · rw [e]; exact Nat.mul_pos h3 (by omega)
    · omega
  · rcases hd with ⟨_, _, _, _, _, e, _⟩ | ⟨_, _, e⟩ <;> omega
  · rcases hd with ⟨_, e, f, g, _⟩ | ⟨_, e, f⟩
    · rw [e, f, Nat.pow_succ]
      exact Nat.mul_le_mul h5 g
    · rw [e, f]; exact h5
  · have pc : prN (fun i => if i = nd then N else dz i) nd = prN dz nd := prN_cong (fun i hi => by rw [if_neg (by omega : ¬ i = nd)])
    rcases hd with ⟨_, e, f, _⟩ | ⟨_, e, f⟩
    · rw [e, f, prN, pc, if_pos rfl, ← h6]
    · rw [e, f, pc, ← h6]
  · intro i hi
    dsimp only
    by_cases z : i = nd
    · rcases hd with ⟨_, _, _, f, g, _, _, p, _⟩ | ⟨_, e, _⟩
      · rw [z, if_pos rfl]; exact ⟨p, f, g⟩
      · omega
    · rw [if_neg z, u6 i (by omega)]
      exact hD i (by omega)
  · intro k hk
    by_cases z : k = j
    · subst z
      simp only [if_true]
      refine ⟨hl, fun y => ?_⟩
      rcases hd with ⟨_, _, _, _, _, _, _, _, p⟩ | ⟨e, _⟩
      · exact p
      · exact absurd y e
    · simp only [if_neg z]
      obtain ⟨g1, g2⟩ := hK k (by omega)
      have m : ∀ a, M'.2.1 a (20 + k) = M.2.1 a (20 + k) := fun a => hM.2 a (20 + k) (by omega)
      refine ⟨g1.fr nn (u1 k (by omega)).1 (u1 k (by omega)).2 (fun i hi => u3 _ (by omega)) (fun a _ => m a), fun y => ?_⟩
      have dl := (g1.2.2.2.2.2.2.2.1 y).2
      rw [m 4, if_neg (by omega)]
      exact g2 y
  · intro k hk
    dsimp only
    by_cases z : k = j
    · subst z
      rw [if_pos rfl]
      exact q1.symm
    · rw [if_neg z, hN k (by omega)]
      exact fb_sm_cong (fun i hi => by simp only [if_neg (show ¬ i = j by omega)])
  · have q2 : fb_sm (fun i => if (fun k => if k = j then w else kd k) i = 0 then 1 else 0) (j + 1) = nd + (if w = 0 then 1 else 0) := by
      rw [fb_sm_succ]
      congr 1
      simp only [if_true]
    rw [q2]
    rcases hd with ⟨e, f, _⟩ | ⟨e, f, _⟩
    · rw [if_pos e]; omega
    · rw [if_neg e]; omega
section LINE
variable {T M R U : PS} {n : Nat} {tx : Nat → Nat}
theorem pw_nd {nd : Nat} (h : 2 ^ nd ≤ 64) : nd ≤ 6 := by
  by_cases c : nd ≤ 6
  · exact c
  · have : 2 ^ 7 ≤ 2 ^ nd := Nat.pow_le_pow_right (by decide) (by omega)
    omega
/-- the operand of a draw -/
theorem drw_ok (hT : TX T n tx) (hM : TX M n tx) {b : Nat} (k : TK n tx R M b) {j nd rw : Nat} (hj : j < 20) (hr1 : 1 ≤ rw) (hr2 : rw ≤ 64) (hnd : 2 ^ nd ≤ rw) (h0 : U.1 0 = nI (j + 1)) (h1 : U.2.1 1 j = 0) (h4 : U.1 4 = nI nd) (h5 : U.1 5 = nI rw) (h2 : M.2.1 2 (20 + j) = 0) (h32 : M.1 32 = nI rw) : ∃ fl R2 U2 M2 b2, L_X3_readLine_85 T 0 FU 0 R U = some (fl, R2, U2) ∧ f_X10_readsArgs M (nI (20 + j)) = some (fl, M2) ∧ TK n tx R2 M2 b2 ∧ FRL j M M2 ∧ M2.1 8 = M.1 8 ∧ M2.2.1 2 = M.2.1 2 ∧ M2.2.1 3 = M.2.1 3 ∧ (fl = 0 ∨ (fl = 1 ∧ ∃ v, 2 ≤ v ∧ v ≤ 8 ∧ rw * v ≤ 64 ∧ nd < 6 ∧ M2.1 32 = nI (rw * v) ∧ M2.2.1 4 (20 + j) = nI v ∧ U2 = sI (sI (sA (sA U 3 (upd (U.2.1 3) (3 * j) (nI nd))) 6 (upd (U.2.1 6) nd (nI v))) 4 (nI (nd + 1))) 5 (nI (rw * v)))) := by
  have hL : ∀ x, L_X3_readLine_85 T 0 FU 0 R U = x ↔ CLp T 0 100000 0 R U = x := fun x => Iff.rfl
  have nd6 := pw_nd (Nat.le_trans hnd hr2)
  obtain ⟨fl, M1, a1, a2, a3, a4⟩ := num_ok hT hM k (lo := 2) (hi := 8) (by decide) (by decide)
  have k1 : TK n tx R M1 b := k.fr (a3.1 28 (by simp)) (a3.1 29 (by simp)) (a3.1 30 (by simp))
  have B : B_X3_readLine_85 T (nI 0) (nI 0) R U = if fl = 0 then some (.inr (0, R, U)) else b1 (f_X3_number R T) fun v20 => b2 (f_X2_setOperand U (nI 0) v20) fun v21 U122 => if v21 = 0 then some (.inr (0, R, U122)) else b1 (f_X3_step R T) fun S24 => bn (nI 0 + 1) fun v25 => some (.inl (v25, S24, U122)) := by
    obtain ⟨o1, o2, o3, o4, o5, o6, o7⟩ := ops_ok 0 (by decide)
    unfold B_X3_readLine_85
    rw [o1, b1_some, if_neg (nI_ge (show 0 < opsN 0 by decide) (by decide)), o2, b1_some, o3, b1_some, show f_X3_isNumberWithin R T (nI (loN 0)) (nI (hiN 0)) = some fl from a1, b1_some]
  unfold f_X10_readsArgs
  rw [rdI_nI (by omega) (by decide), h2, b1_some, if_pos rfl, show f_X10_isNumber M 2 8 = some (fl, M1) from a2, b2_some]
  rcases a4 with rfl | ⟨rfl, c, v, c1, c2, c3, c4⟩
  · rw [if_pos rfl]
    rw [if_pos rfl] at B
    exact ⟨0, R, U, M1, b, (hL _).mpr (cl_out (f := 99999) B), rfl, k1, FRL.of a3 (by decide), a3.1 8 (by simp), a3.2.1 2 (by simp), a3.2.1 3 (by simp), Or.inl rfl⟩
  · have rv : rw * v ≤ 64 * 8 := Nat.mul_le_mul hr2 c4
    rw [if_neg one_ne0, c2, a3.1 32 (by simp), h32, pk_mul]
    rw [if_neg one_ne0, c1, b1_some] at B
    have so : f_X2_setOperand U (nI 0) (nI v) = b2 (f_X2_addDraw (sA U 3 (upd (U.2.1 3) (3 * j) (nI nd))) (nI v)) fun v9 S10 => b1 (ckB v9) fun v11 => some (v11, S10) := by
      unfold f_X2_setOperand
      rw [h0, if_neg (show ¬ nI (j + 1) < 1 from nI_nlt (b := 1) (by omega) (by omega)), if_neg (show ¬ (20 : Int32) < nI (j + 1) from nI_nlt (a := 20) (by omega) (by decide)), if_neg (nI_pos (by omega)), if_pos (show nI 0 < 3 by decide), bn_rw, nI_m1 (by omega), Nat.add_sub_cancel, rdI_nI hj (by decide), h1, b1_some, if_pos rfl, show (3 : Int32) = nI 3 from rfl, pk_mul, wA_nI (by omega) (by decide), b1_some, h4]
    have a5 : (sA U 3 (upd (U.2.1 3) (3 * j) (nI nd))).1 5 = nI rw := h5
    have a6 : (sA U 3 (upd (U.2.1 3) (3 * j) (nI nd))).1 4 = nI nd := h4
    by_cases q : rw * v ≤ 64
    · have nd7 : nd < 6 := by
        have m : 2 ^ nd * 2 ≤ rw * v := Nat.mul_le_mul hnd c3
        have : 2 ^ (nd + 1) ≤ 64 := by rw [Nat.pow_succ]; omega
        have := pw_nd this
        omega
      have ad : f_X2_addDraw (sA U 3 (upd (U.2.1 3) (3 * j) (nI nd))) (nI v) = some (1, sI (sI (sA (sA U 3 (upd (U.2.1 3) (3 * j) (nI nd))) 6 (upd (U.2.1 6) nd (nI v))) 4 (nI (nd + 1))) 5 (nI (rw * v))) := by
        unfold f_X2_addDraw
        rw [a5, a6, pk_mul, if_neg (show ¬ (64 : Int32) < nI (rw * v) from nI_nlt (a := 64) q (by decide)), if_pos (show nI nd < 6 from nI_lt (b := 6) nd7 (by decide)), wA_nI nd7 (by decide), b1_some, bn_rw, bn_rw]
        have b4 : (sA (sA U 3 (upd (U.2.1 3) (3 * j) (nI nd))) 6 (upd ((sA U 3 (upd (U.2.1 3) (3 * j) (nI nd))).2.1 6) nd (nI v))).1 4 = nI nd := h4
        rw [b4, nI_1]
        have b5 : (sI (sA (sA U 3 (upd (U.2.1 3) (3 * j) (nI nd))) 6 (upd ((sA U 3 (upd (U.2.1 3) (3 * j) (nI nd))).2.1 6) nd (nI v))) 4 (nI (nd + 1))).1 5 = nI rw := h5
        rw [b5, pk_mul]
        rfl
      have hM1 : TX (sA (sI M1 32 (nI (rw * v))) 4 (upd ((sI M1 32 (nI (rw * v))).2.1 4) (20 + j) (nI v))) n tx := (hM.sx a3 (by simp) (by simp)).fr rfl rfl
      obtain ⟨R2, M2, b2, d1, d2, d3, d4⟩ := tk_go hT hM1 (e := enN n tx b) (en_le k.1).2 k1.2.2.2.1 k1.2.2.2.2.2.1
      have g31 : (sI M1 32 (nI (rw * v))).1 31 = nI v := c2
      rw [if_pos (show nI (rw * v) ≤ 64 from nI_le (b := 64) q (by decide)), bn_rw, g31, wA_nI (by omega) (by decide), b1_some, d2, b1_some]
      rw [so, ad, b2_some, ck_1, b1_some, b2_some, if_neg one_ne0, d1, b1_some, bn_rw, nI_1] at B
      have x := op_x (T := T) (R := R2) (U := sI (sI (sA (sA U 3 (upd (U.2.1 3) (3 * j) (nI nd))) 6 (upd (U.2.1 6) nd (nI v))) 4 (nI (nd + 1))) 5 (nI (rw * v))) (w := 0) (by decide)
      have F : FRL j M M2 := ((FRL.of a3 (by decide)).tr (FRL.of (SX.rf.sI (k := 32) (is := [32]) _ (by decide)) (by decide))).tr ((FRL.wr (by decide) _).tr (FRL.of d4 (by decide)))
      refine ⟨1, R2, _, M2, b2, (hL _).mpr ((cl_in (f := 99999) B).trans (cl_out (f := 99998) x)), rfl, d3, F, ?_, ?_, ?_, Or.inr ⟨rfl, v, c3, c4, q, nd7, ?_, ?_, rfl⟩⟩
      · exact (d4.1 8 (by simp)).trans (a3.1 8 (by simp))
      · exact (d4.2.1 2 (by simp)).trans (a3.2.1 2 (by simp))
      · exact (d4.2.1 3 (by simp)).trans (a3.2.1 3 (by simp))
      · exact d4.1 32 (by simp)
      · rw [d4.2.1 4 (by simp)]
        show upd _ (20 + j) (nI v) (20 + j) = _
        rw [up_s, if_pos rfl]
    · have ad : f_X2_addDraw (sA U 3 (upd (U.2.1 3) (3 * j) (nI nd))) (nI v) = some (0, sA U 3 (upd (U.2.1 3) (3 * j) (nI nd))) := by
        unfold f_X2_addDraw
        rw [a5, pk_mul, if_pos (show (64 : Int32) < nI (rw * v) from nI_lt (a := 64) (by omega) (by omega))]
      rw [if_neg (show ¬ nI (rw * v) ≤ 64 from nI_ge (a := 64) (by omega) (by omega))]
      rw [so, ad, b2_some, ck_0, b1_some, b2_some, if_pos rfl] at B
      exact ⟨0, R, _, M1, b, (hL _).mpr (cl_out (f := 99999) B), rfl, k1, FRL.of a3 (by decide), a3.1 8 (by simp), a3.2.1 2 (by simp), a3.2.1 3 (by simp), Or.inl rfl⟩
theorem add_l {j : Nat} (hj : j < 20) (h0 : U.1 0 = nI j) (w c : Int32) : f_X2_addLine U w c = some (sI (sA (sA U 1 (upd (U.2.1 1) j w)) 2 (upd (U.2.1 2) j c)) 0 (nI (j + 1))) := by
  unfold f_X2_addLine
  rw [h0, if_neg (show ¬ (20 : Int32) ≤ nI j from nI_ge (b := 20) hj (by decide)), wA_nI hj (by decide), b1_some]
  have e : (sA U 1 (upd (U.2.1 1) j w)).1 0 = nI j := h0
  rw [e, wA_nI hj (by decide), b1_some, bn_rw]
  have e2 : (sA (sA U 1 (upd (U.2.1 1) j w)) 2 (upd ((sA U 1 (upd (U.2.1 1) j w)).2.1 2) j c)).1 0 = nI j := h0
  rw [e2, nI_1]
  rfl
end LINE
