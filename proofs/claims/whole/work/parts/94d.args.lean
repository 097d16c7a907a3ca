/-! operands, both sides -/
theorem TX.fr {M M' : PS} {n : Nat} {tx : Nat → Nat} (h : TX M n tx) (h1 : M'.1 1 = M.1 1) (h2 : M'.2.1 0 = M.2.1 0) : TX M' n tx := by
  unfold TX at h ⊢
  rw [h1, h2]
  exact h
theorem TX.sx {M M' : PS} {n : Nat} {tx : Nat → Nat} {is as ls : List Nat} (h : TX M n tx) (g : SX is as ls M M') (h1 : 1 ∉ is) (h2 : 0 ∉ as) : TX M' n tx := h.fr (g.1 1 h1) (g.2.1 0 h2)
theorem TK.fr {n : Nat} {tx : Nat → Nat} {R M M' : PS} {b : Nat} (h : TK n tx R M b) (h1 : M'.1 28 = M.1 28) (h2 : M'.1 29 = M.1 29) (h3 : M'.1 30 = M.1 30) : TK n tx R M' b := by
  unfold TK at h ⊢
  rw [h1, h2, h3]
  exact h
/-- what reading the line j may change of the reference -/
def FRL (j : Nat) (M M' : PS) : Prop := SX [8, 28, 29, 30, 31, 32] [2, 3, 4, 5, 6] [] M M' ∧ ∀ a i, i ≠ 20 + j → M'.2.1 a i = M.2.1 a i
theorem FRL.rf {j : Nat} {M : PS} : FRL j M M := ⟨SX.rf, fun _ _ _ => rfl⟩
theorem FRL.tr {j : Nat} {M N O : PS} (h : FRL j M N) (g : FRL j N O) : FRL j M O := ⟨h.1.tr g.1, fun a i hi => (g.2 a i hi).trans (h.2 a i hi)⟩
theorem FRL.of {j : Nat} {M N : PS} {is : List Nat} (h : SX is [] [] M N) (h1 : ∀ k ∈ is, k ∈ [8, 28, 29, 30, 31, 32]) : FRL j M N := ⟨h.mono h1 (by simp) (fun _ h => h), fun a i _ => by rw [h.2.1 a (by simp)]⟩
theorem FRL.wr {j : Nat} {M : PS} {a : Nat} (ha : a ∈ [2, 3, 4, 5, 6]) (v : Int32) : FRL j M (sA M a (upd (M.2.1 a) (20 + j) v)) := ⟨SX.rf.sA _ ha, fun c i hi => by
  rw [sA_2]
  by_cases z : c = a
  · rw [if_pos z, up_s, if_neg hi, z]
  · rw [if_neg z]⟩
/-- what operands of the line j may change of the draft -/
def FUL (j : Nat) (U U' : PS) : Prop := SX [] [3] [] U U' ∧ ∀ i, (i < 3 * j ∨ 3 * j + 3 ≤ i) → U'.2.1 3 i = U.2.1 3 i
theorem FUL.rf {j : Nat} {U : PS} : FUL j U U := ⟨SX.rf, fun _ _ => rfl⟩
theorem FUL.wr {j i : Nat} {U V : PS} (h : FUL j U V) (hi : i < 3) (v : Int32) : FUL j U (sA V 3 (upd (V.2.1 3) (3 * j + i) v)) := ⟨h.1.sA _ (by decide), fun c hc => by
  show upd (V.2.1 3) (3 * j + i) v c = _
  rw [up_s, if_neg (by omega)]
  exact h.2 c hc⟩
def opsN (w : Nat) : Nat := if w = 7 then 3 else if 3 ≤ w ∧ w ≤ 6 then 2 else 1
def hiN (w : Nat) : Nat := if w = 0 then 8 else if w = 1 then 4 else if w = 2 then 15 else 7
def loN (w : Nat) : Nat := if w = 0 then 2 else 0
theorem ops_ok : ∀ w, w < 9 → f_X2_operandCount (nI w) = some (nI (opsN w)) ∧ f_X2_leastOperand (nI w) = some (nI (loN w)) ∧ f_X2_greatestOperand (nI w) = some (nI (hiN w)) ∧ opsN w ≤ 3 ∧ 1 ≤ opsN w ∧ hiN w ≤ 15 ∧ loN w ≤ 15 := by decide +kernel
section OPS
variable {T M R U : PS} {n : Nat} {tx : Nat → Nat}
theorem skip_ok (hT : TX T n tx) (hM : TX M n tx) {b : Nat} (k : TK n tx R M b) {lo hi : Nat} (hlo : lo ≤ 15) (hhi : hi ≤ 15) : ∃ fl M2, f_X3_isNumberWithin R T (nI lo) (nI hi) = some fl ∧ f_X10_skipsNumber M (nI lo) (nI hi) = some (fl, M2) ∧ SX [28, 29, 30, 31] [] [] M M2 ∧ ((fl = 0 ∧ TK n tx R M2 b) ∨ (fl = 1 ∧ soN n tx b = 2 ∧ ∃ v R2 b2, f_X3_number R T = some (nI v) ∧ f_X3_step R T = some R2 ∧ TK n tx R2 M2 b2 ∧ M2.1 31 = nI v ∧ lo ≤ v ∧ v ≤ hi)) := by
  obtain ⟨fl, M1, a1, a2, a3, a4⟩ := num_ok hT hM k hlo hhi
  have k1 : TK n tx R M1 b := k.fr (a3.1 28 (by simp)) (a3.1 29 (by simp)) (a3.1 30 (by simp))
  unfold f_X10_skipsNumber
  rw [a2, b2_some]
  rcases a4 with rfl | ⟨rfl, c, v, c1, c2, c3, c4⟩
  · rw [if_pos rfl, b1_some, ck_0, b1_some]
    exact ⟨0, M1, a1, rfl, a3.mono (by simp) (fun _ h => h) (fun _ h => h), Or.inl ⟨rfl, k1⟩⟩
  · obtain ⟨R2, M2, b2, d1, d2, d3, d4⟩ := tk_go hT (hM.sx a3 (by simp) (by simp)) (e := enN n tx b) (en_le k.1).2 k1.2.2.2.1 k1.2.2.2.2.2.1
    rw [if_neg one_ne0, d2, b1_some, b1_some, ck_1, b1_some]
    exact ⟨1, M2, a1, rfl, (a3.mono (by simp) (fun _ h => h) (fun _ h => h)).tr (d4.mono (by simp) (fun _ h => h) (fun _ h => h)), Or.inr ⟨rfl, c, v, R2, b2, c1, d1, d3, (d4.1 31 (by simp)).trans c2, c3, c4⟩⟩
theorem set_nd {j w i v : Nat} (hj : j < 20) (hw : 0 < w) (hw9 : w < 9) (hi : i < 3) (h0 : U.1 0 = nI (j + 1)) (h1 : U.2.1 1 j = nI w) : f_X2_setOperand U (nI i) (nI v) = some (1, sA U 3 (upd (U.2.1 3) (3 * j + i) (nI v))) := by
  unfold f_X2_setOperand
  rw [h0, if_neg (show ¬ nI (j + 1) < 1 from nI_nlt (b := 1) (by omega) (by omega)), if_neg (show ¬ (20 : Int32) < nI (j + 1) from nI_nlt (a := 20) (by omega) (by decide)), if_neg (nI_pos (by omega)), if_pos (show nI i < 3 from nI_lt (b := 3) hi (by decide)), bn_rw, nI_m1 (by omega), Nat.add_sub_cancel, rdI_nI hj (by decide), h1, b1_some, if_neg (nI_ne0 hw (by omega)), show (3 : Int32) = nI 3 from rfl, pk_mul, nI_add, wA_nI (by omega) (by decide)]
  rfl
/-- one operand of a line that isn't a draw -/
theorem op_1 (hT : TX T n tx) (hM : TX M n tx) {b : Nat} (k : TK n tx R M b) {j w i : Nat} (hj : j < 20) (hw : 0 < w) (hw9 : w < 9) (hi : i < opsN w) (h0 : U.1 0 = nI (j + 1)) (h1 : U.2.1 1 j = nI w) : ∃ fl M2, f_X10_skipsNumber M 0 (nI (hiN w)) = some (fl, M2) ∧ SX [28, 29, 30, 31] [] [] M M2 ∧ ((fl = 0 ∧ TK n tx R M2 b ∧ B_X3_readLine_85 T (nI w) (nI i) R U = some (.inr (0, R, U))) ∨ (fl = 1 ∧ ∃ v R2 b2, TK n tx R2 M2 b2 ∧ M2.1 31 = nI v ∧ v ≤ hiN w ∧ B_X3_readLine_85 T (nI w) (nI i) R U = some (.inl (nI (i + 1), R2, sA U 3 (upd (U.2.1 3) (3 * j + i) (nI v)))))) := by
  obtain ⟨o1, o2, o3, o4, o5, o6, o7⟩ := ops_ok w hw9
  have l0 : loN w = 0 := by unfold loN; rw [if_neg (by omega)]
  rw [l0] at o2
  obtain ⟨fl, M2, a1, a2, a3, a4⟩ := skip_ok hT hM k (lo := 0) (hi := hiN w) (by omega) o6
  refine ⟨fl, M2, a2, a3, ?_⟩
  have B : B_X3_readLine_85 T (nI w) (nI i) R U = if fl = 0 then some (.inr (0, R, U)) else b1 (f_X3_number R T) fun v20 => b2 (f_X2_setOperand U (nI i) v20) fun v21 U122 => if v21 = 0 then some (.inr (0, R, U122)) else b1 (f_X3_step R T) fun S24 => bn (nI i + 1) fun v25 => some (.inl (v25, S24, U122)) := by
    unfold B_X3_readLine_85
    rw [o1, b1_some, if_neg (nI_ge hi (by omega)), o2, b1_some, o3, b1_some, a1, b1_some]
  rcases a4 with ⟨rfl, c⟩ | ⟨rfl, c, v, R2, b2, c1, c2, c3, c4, c5, c6⟩
  · left
    refine ⟨rfl, c, ?_⟩
    rw [B, if_pos rfl]
  · right
    refine ⟨rfl, v, R2, b2, c3, c4, c6, ?_⟩
    rw [B, if_neg one_ne0, c1, b1_some, set_nd hj hw hw9 (by omega) h0 h1, b2_some, if_neg one_ne0, c2, b1_some, bn_rw, nI_1]
theorem op_x {w : Nat} (hw9 : w < 9) : B_X3_readLine_85 T (nI w) (nI (opsN w)) R U = some (.inr (1, R, U)) := by
  obtain ⟨o1, o2, o3, o4, o5, o6, o7⟩ := ops_ok w hw9
  unfold B_X3_readLine_85
  rw [o1, b1_some, if_pos (nI_le (Nat.le_refl _) (by omega))]
abbrev CLp (T : PS) (w f i : Nat) (R U : PS) : Option (Int32 × PS × PS) := loopF (fun x : Int32 × PS × PS => B_X3_readLine_85 T (nI w) x.1 x.2.1 x.2.2) f (nI i, R, U)
theorem cl_in {w f i i2 : Nat} {R2 U2 : PS} (h : B_X3_readLine_85 T (nI w) (nI i) R U = some (.inl (nI i2, R2, U2))) : CLp T w (f + 1) i R U = CLp T w f i2 R2 U2 := loopF_in (B := fun x : Int32 × PS × PS => B_X3_readLine_85 T (nI w) x.1 x.2.1 x.2.2) h
theorem cl_out {w f i : Nat} {r : Int32 × PS × PS} (h : B_X3_readLine_85 T (nI w) (nI i) R U = some (.inr r)) : CLp T w (f + 1) i R U = some r := loopF_out (B := fun x : Int32 × PS × PS => B_X3_readLine_85 T (nI w) x.1 x.2.1 x.2.2) h
/-- the operands of a line that is neither a draw nor out -/
theorem args_ok (hT : TX T n tx) (hM : TX M n tx) {b : Nat} (k : TK n tx R M b) {j w : Nat} (hj : j < 20) (hw : 0 < w) (hw8 : w < 8) (h0 : U.1 0 = nI (j + 1)) (h1 : U.2.1 1 j = nI w) (h2 : M.2.1 2 (20 + j) = nI w) : ∃ fl R2 U2 M2 b2, L_X3_readLine_85 T (nI w) FU 0 R U = some (fl, R2, U2) ∧ f_X10_readsArgs M (nI (20 + j)) = some (fl, M2) ∧ TK n tx R2 M2 b2 ∧ FRL j M M2 ∧ FUL j U U2 ∧ M2.1 8 = M.1 8 ∧ M2.1 32 = M.1 32 ∧ M2.2.1 2 = M.2.1 2 ∧ M2.2.1 3 = M.2.1 3 ∧ (fl = 0 ∨ (fl = 1 ∧ ∃ a1 a2 a3, a1 ≤ hiN w ∧ U2.2.1 3 (3 * j) = nI a1 ∧ M2.2.1 4 (20 + j) = nI a1 ∧ (3 ≤ w → a2 < 8 ∧ U2.2.1 3 (3 * j + 1) = nI a2 ∧ M2.2.1 5 (20 + j) = nI a2) ∧ (w = 7 → a3 < 8 ∧ U2.2.1 3 (3 * j + 2) = nI a3 ∧ M2.2.1 6 (20 + j) = nI a3))) := by
  have hL : ∀ x, L_X3_readLine_85 T (nI w) FU 0 R U = x ↔ CLp T w 100000 0 R U = x := fun x => Iff.rfl
  have hi7 : ∀ w, 3 ≤ w → hiN w = 7 := fun w hw => by unfold hiN; rw [if_neg (by omega), if_neg (by omega), if_neg (by omega)]
  have hiE : (b1 (α := Int32) (β := Int32) (if nI w = 1 then some (4 : Int32) else if nI w = 2 then some 15 else some 7) some) = some (nI (hiN w)) := by
    rcases (show w = 1 ∨ w = 2 ∨ w = 3 ∨ w = 4 ∨ w = 5 ∨ w = 6 ∨ w = 7 by omega) with rfl | rfl | rfl | rfl | rfl | rfl | rfl <;> decide
  have hiE2 : (if nI w = 1 then some (4 : Int32) else if nI w = 2 then some 15 else some 7) = some (nI (hiN w)) := by
    rw [← hiE]
    generalize (if nI w = 1 then some (4 : Int32) else if nI w = 2 then some 15 else some 7) = o
    cases o <;> rfl
  have ow : 1 ≤ opsN w := (ops_ok w (by omega)).2.2.2.2.1
  obtain ⟨fl, M2, a1, a2, a3⟩ := op_1 hT hM k (U := U) hj hw (by omega) (i := 0) (by omega) h0 h1
  unfold f_X10_readsArgs
  rw [rdI_nI (by omega) (by decide), h2, b1_some, if_neg (nI_ne0 hw (by omega)), hiE2, b1_some, a1, b2_some]
  rcases a3 with ⟨rfl, c1, c2⟩ | ⟨rfl, v, R2, b2, c1, c2, c3, c4⟩
  · rw [if_pos rfl]
    refine ⟨0, R, U, M2, b, ?_, rfl, c1, FRL.of a2 (by decide), FUL.rf, a2.1 8 (by simp), a2.1 32 (by simp), a2.2.1 2 (by simp), a2.2.1 3 (by simp), Or.inl rfl⟩
    exact (hL _).mpr (cl_out (f := 99999) c2)
  · rw [if_neg one_ne0, c2, wA_nI (by omega) (by decide), b1_some]
    have F1 : FRL j M (sA M2 4 (upd (M2.2.1 4) (20 + j) (nI v))) := (FRL.of a2 (by decide)).tr (FRL.wr (by decide) _)
    have G1 : FUL j U (sA U 3 (upd (U.2.1 3) (3 * j + 0) (nI v))) := FUL.rf.wr (by decide) _
    have e1 : (sA U 3 (upd (U.2.1 3) (3 * j + 0) (nI v))).2.1 3 (3 * j) = nI v := by
      show upd (U.2.1 3) (3 * j + 0) (nI v) (3 * j) = _
      rw [up_s, if_pos (by omega)]
    have m1 : (sA M2 4 (upd (M2.2.1 4) (20 + j) (nI v))).2.1 4 (20 + j) = nI v := by
      show upd (M2.2.1 4) (20 + j) (nI v) (20 + j) = _
      rw [up_s, if_pos rfl]
    by_cases w2 : w ≤ 2
    · have o1 : opsN w = 1 := by unfold opsN; rw [if_neg (by omega), if_neg (by omega)]
      have x := op_x (T := T) (R := R2) (U := sA U 3 (upd (U.2.1 3) (3 * j + 0) (nI v))) (w := w) (by omega)
      rw [o1] at x
      have n7 : ¬ nI w = (7 : Int32) := fun z => by have := (nI_eq (b := 7) (by omega) (by decide)).mp z; omega
      rw [if_pos (show nI w ≤ 2 from nI_le (b := 2) w2 (by decide)), if_neg n7]
      refine ⟨1, R2, _, _, b2, ?_, rfl, c1, F1, G1, a2.1 8 (by simp), a2.1 32 (by simp), ?_, ?_, Or.inr ⟨rfl, v, 0, 0, c3, e1, m1, fun z => by omega, fun z => by omega⟩⟩
      · exact (hL _).mpr ((cl_in (f := 99999) c4).trans (cl_out (f := 99998) x))
      · exact a2.2.1 2 (by simp)
      · exact a2.2.1 3 (by simp)
    · rw [if_neg (show ¬ nI w ≤ 2 from nI_ge (a := 2) (by omega) (by omega))]
      have o2 : 2 ≤ opsN w := by
        unfold opsN
        split
        · omega
        · rw [if_pos (by omega)]; omega
      obtain ⟨fl2, M3, a4, a5, a6⟩ := op_1 hT (M := sA M2 4 (upd (M2.2.1 4) (20 + j) (nI v))) ((hM.sx a2 (by simp) (by simp)).fr rfl rfl) (c1.fr rfl rfl rfl) (U := sA U 3 (upd (U.2.1 3) (3 * j + 0) (nI v))) hj hw (by omega) (i := 1) (by omega) h0 h1
      rw [hi7 w (by omega)] at a4 a6
      rw [show (7 : Int32) = nI 7 from rfl, a4, b2_some]
      have F2 := F1.tr (FRL.of a5 (by decide))
      have s8 : M3.1 8 = M.1 8 := (a5.1 8 (by simp)).trans (a2.1 8 (by simp))
      have s32 : M3.1 32 = M.1 32 := (a5.1 32 (by simp)).trans (a2.1 32 (by simp))
      have s2 : M3.2.1 2 = M.2.1 2 := (a5.2.1 2 (by simp)).trans (a2.2.1 2 (by simp))
      have s3 : M3.2.1 3 = M.2.1 3 := (a5.2.1 3 (by simp)).trans (a2.2.1 3 (by simp))
      rcases a6 with ⟨rfl, d1, d2⟩ | ⟨rfl, v2, R3, b3, d1, d2, d3, d4⟩
      · rw [if_pos rfl]
        refine ⟨0, R2, _, M3, b2, ?_, rfl, d1, F2, G1, s8, s32, s2, s3, Or.inl rfl⟩
        exact (hL _).mpr ((cl_in (f := 99999) c4).trans (cl_out (f := 99998) d2))
      · rw [if_neg one_ne0, d2, wA_nI (by omega) (by decide), b1_some]
        have F3 : FRL j M (sA M3 5 (upd (M3.2.1 5) (20 + j) (nI v2))) := F2.tr (FRL.wr (by decide) _)
        have G2 : FUL j U _ := G1.wr (i := 1) (by decide) (nI v2)
        have e2 : (sA (sA U 3 (upd (U.2.1 3) (3 * j + 0) (nI v))) 3 (upd ((sA U 3 (upd (U.2.1 3) (3 * j + 0) (nI v))).2.1 3) (3 * j + 1) (nI v2))).2.1 3 (3 * j) = nI v := by
          show upd ((sA U 3 (upd (U.2.1 3) (3 * j + 0) (nI v))).2.1 3) (3 * j + 1) (nI v2) (3 * j) = _
          rw [up_s, if_neg (by omega)]
          exact e1
        have e3 : (sA (sA U 3 (upd (U.2.1 3) (3 * j + 0) (nI v))) 3 (upd ((sA U 3 (upd (U.2.1 3) (3 * j + 0) (nI v))).2.1 3) (3 * j + 1) (nI v2))).2.1 3 (3 * j + 1) = nI v2 := by
          show upd ((sA U 3 (upd (U.2.1 3) (3 * j + 0) (nI v))).2.1 3) (3 * j + 1) (nI v2) (3 * j + 1) = _
          rw [up_s, if_pos rfl]
        have m2 : (sA M3 5 (upd (M3.2.1 5) (20 + j) (nI v2))).2.1 4 (20 + j) = nI v := by
          show M3.2.1 4 (20 + j) = _
          rw [a5.2.1 4 (by simp)]
          exact m1
        have m3 : (sA M3 5 (upd (M3.2.1 5) (20 + j) (nI v2))).2.1 5 (20 + j) = nI v2 := by
          show upd (M3.2.1 5) (20 + j) (nI v2) (20 + j) = _
          rw [up_s, if_pos rfl]
        by_cases w7 : w = 7
        · obtain ⟨fl3, M4, a7, a8, a9⟩ := op_1 hT (M := sA M3 5 (upd (M3.2.1 5) (20 + j) (nI v2))) (((hM.sx a2 (by simp) (by simp)).fr (M' := sA M2 4 (upd (M2.2.1 4) (20 + j) (nI v))) rfl rfl |>.sx a5 (by simp) (by simp)).fr rfl rfl) (d1.fr rfl rfl rfl) (U := sA (sA U 3 (upd (U.2.1 3) (3 * j + 0) (nI v))) 3 (upd ((sA U 3 (upd (U.2.1 3) (3 * j + 0) (nI v))).2.1 3) (3 * j + 1) (nI v2))) hj hw (by omega) (i := 2) (by rw [w7]; decide) h0 h1
          rw [hi7 w (by omega)] at a7 a9
          rw [if_pos (show nI w = nI 7 by rw [w7]), a7, b2_some]
          have F4 := F3.tr (FRL.of a8 (by decide))
          have t8 : M4.1 8 = M.1 8 := (a8.1 8 (by simp)).trans s8
          have t32 : M4.1 32 = M.1 32 := (a8.1 32 (by simp)).trans s32
          have t2 : M4.2.1 2 = M.2.1 2 := (a8.2.1 2 (by simp)).trans s2
          have t3 : M4.2.1 3 = M.2.1 3 := (a8.2.1 3 (by simp)).trans s3
          rcases a9 with ⟨rfl, g1, g2⟩ | ⟨rfl, v3, R4, b4, g1, g2, g3, g4⟩
          · rw [if_pos rfl]
            refine ⟨0, R3, _, M4, b3, ?_, rfl, g1, F4, G2, t8, t32, t2, t3, Or.inl rfl⟩
            exact (hL _).mpr ((cl_in (f := 99999) c4).trans ((cl_in (f := 99998) d4).trans (cl_out (f := 99997) g2)))
          · rw [if_neg one_ne0, g2, wA_nI (by omega) (by decide), b1_some]
            have x := op_x (T := T) (R := R4) (U := sA (sA (sA U 3 (upd (U.2.1 3) (3 * j + 0) (nI v))) 3 (upd ((sA U 3 (upd (U.2.1 3) (3 * j + 0) (nI v))).2.1 3) (3 * j + 1) (nI v2))) 3 (upd ((sA (sA U 3 (upd (U.2.1 3) (3 * j + 0) (nI v))) 3 (upd ((sA U 3 (upd (U.2.1 3) (3 * j + 0) (nI v))).2.1 3) (3 * j + 1) (nI v2))).2.1 3) (3 * j + 2) (nI v3))) (w := w) (by omega)
            rw [show opsN w = 3 by rw [w7]; rfl] at x
            refine ⟨1, R4, _, _, b4, ?_, rfl, g1, F4.tr (FRL.wr (by decide) _), G2.wr (i := 2) (by decide) (nI v3), t8, t32, t2, t3, Or.inr ⟨rfl, v, v2, v3, c3, ?_, ?_, fun _ => ⟨by omega, ?_, ?_⟩, fun _ => ⟨by omega, ?_, ?_⟩⟩⟩
            · exact (hL _).mpr ((cl_in (f := 99999) c4).trans ((cl_in (f := 99998) d4).trans ((cl_in (f := 99997) g4).trans (cl_out (f := 99996) x))))
            · show upd _ (3 * j + 2) (nI v3) (3 * j) = _
              rw [up_s, if_neg (by omega)]
              exact e2
            · show M4.2.1 4 (20 + j) = _
              rw [a8.2.1 4 (by simp)]
              exact m2
            · show upd _ (3 * j + 2) (nI v3) (3 * j + 1) = _
              rw [up_s, if_neg (by omega)]
              exact e3
            · show M4.2.1 5 (20 + j) = _
              rw [a8.2.1 5 (by simp)]
              exact m3
            · show upd _ (3 * j + 2) (nI v3) (3 * j + 2) = _
              rw [up_s, if_pos rfl]
            · show upd (M4.2.1 6) (20 + j) (nI v3) (20 + j) = _
              rw [up_s, if_pos rfl]
        · have n7 : ¬ nI w = nI 7 := fun z => w7 ((nI_eq (by omega) (by decide)).mp z)
          have x := op_x (T := T) (R := R3) (U := sA (sA U 3 (upd (U.2.1 3) (3 * j + 0) (nI v))) 3 (upd ((sA U 3 (upd (U.2.1 3) (3 * j + 0) (nI v))).2.1 3) (3 * j + 1) (nI v2))) (w := w) (by omega)
          rw [show opsN w = 2 by unfold opsN; rw [if_neg w7, if_pos (by omega)]] at x
          rw [if_neg n7]
          refine ⟨1, R3, _, _, b3, ?_, rfl, d1, F3, G2, s8, s32, s2, s3, Or.inr ⟨rfl, v, v2, 0, c3, e2, m2, fun _ => ⟨by omega, e3, m3⟩, fun z => absurd z w7⟩⟩
          exact (hL _).mpr ((cl_in (f := 99999) c4).trans ((cl_in (f := 99998) d4).trans (cl_out (f := 99997) x)))
end OPS
