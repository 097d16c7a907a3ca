/-! heaps: how far parities are out -/
def zI (z : Int) : Int32 := Int32.ofInt z
theorem zI_add (a b : Int) : zI a + zI b = zI (a + b) := (Int32.ofInt_add a b).symm
theorem zI_neg (a : Int) : - zI a = zI (- a) := (Int32.ofInt_neg a).symm
theorem zI_toInt {z : Int} (h1 : -2147483648 ≤ z) (h2 : z < 2147483648) : (zI z).toInt = z := fb_ofI h1 h2
theorem zI_nat (n : Nat) : zI n = nI n := Int32.ofInt_eq_ofNat
theorem loopF_seq0 {σ ρ : Type} {B : σ → Option (σ ⊕ ρ)} {s0 : σ} (st : Nat → σ) (N : Nat) (r : ρ) (h0 : s0 = st 0) (hs : ∀ i, i < N → B (st i) = some (.inl (st (i + 1)))) (hx : B (st N) = some (.inr r)) {n : Nat} (hn : N < n) : loopF B n s0 = some r := by
  rw [h0]
  exact loopF_seq st N r hs hx hn
def oddN (hr : Nat → Nat) (h s : Nat) : Nat := fb_sm (fun k => pop 8 (hr k &&& s) % 2) h
def leanN (hr : Nat → Nat) (h s : Nat) : Nat := if 2 * oddN hr h s ≤ h then h - 2 * oddN hr h s else 2 * oddN hr h s - h
theorem odd_le (hr : Nat → Nat) (s : Nat) : ∀ h, oddN hr h s ≤ h := by
  intro h
  unfold oddN
  have := fb_sm_bound (f := fun k => pop 8 (hr k &&& s) % 2) (c := 1) (n := h) (fun k _ => by omega)
  omega
theorem lean_le (hr : Nat → Nat) (h s : Nat) : leanN hr h s ≤ h := by
  unfold leanN
  have := odd_le hr s h
  split <;> omega
/-- the greatest lean of sets 1 .. i of t or fewer -/
def glN (hr : Nat → Nat) (h t : Nat) : Nat → Nat
  | 0 => 0
  | i + 1 => if pop 8 (i + 1) ≤ t then (if glN hr h t i < leanN hr h (i + 1) then leanN hr h (i + 1) else glN hr h t i) else glN hr h t i
theorem gl_le (hr : Nat → Nat) (h t : Nat) : ∀ i, glN hr h t i ≤ h := by
  intro i
  induction i with
  | zero => exact Nat.zero_le _
  | succ i ih =>
    unfold glN
    have := lean_le hr h (i + 1)
    split
    · split <;> omega
    · exact ih
theorem and_lt8 {x y : Nat} (h : x < 256) : x &&& y < 256 := Nat.lt_of_le_of_lt Nat.and_le_left h
theorem and1 {x : Nat} (h : x < 2 ^ 32) : nI x &&& 1 = nI (x % 2) := pk_andN h (m := 1) 1 rfl
theorem rem2 {x : Nat} (h : x < 2 ^ 31) : nI x - nI x / 2 * 2 = nI (x % 2) := pk_rem h (d := 2) (by decide) (by decide)
section WEB4
variable {V Hp M : PS} {n e c h : Nat} {ea eb ew ce hr : Nat → Nat}
theorem lean8 (hW : WS V Hp M n e c h ea eb ew ce hr) {s : Nat} (hs : s < 256) : f_X0_leanOf Hp (nI s) = some (nI (leanN hr h s)) := by
  obtain ⟨w1, w2, w3, w4, w5, w6, w7, w8, w9, w10, w11, w12, w13, wE, wC, wH⟩ := id hW
  have hp := pw8 w2
  unfold f_X0_leanOf L_X0_leanOf_4
  have hh : loopF (fun x : Int32 × Int32 => B_X0_leanOf_4 Hp (nI s) x.1 x.2) FU (0, 0) = some (nI (oddN hr h s)) := by
    refine loopF_seq (fun i => (nI (oddN hr i s), nI i)) h _ ?_ ?_ (FU_lt (by omega))
    · intro i hi
      obtain ⟨t1, t2, t3⟩ := wH i hi
      have t4 : hr i &&& s < 256 := and_lt8 (by omega)
      have t5 := pop8_le _ t4
      unfold B_X0_leanOf_4
      dsimp only
      rw [w12, if_neg (nI_ge hi (by omega)), rdI_nI (by omega) (by decide), t1]
      simp only [b1_some, fa_and]
      rw [bitCount_ok _ (by omega), pop32_8 t4]
      simp only [b1_some]
      rw [and1 (by omega)]
      simp only [bn, nI_add, nI_1]
      rfl
    · unfold B_X0_leanOf_4
      dsimp only
      rw [w12, if_pos (nI_le (Nat.le_refl h) (by omega))]
  rw [hh]
  simp only [b1_some]
  have ho := odd_le hr s h
  have e2 : (2 : Int32) * nI (oddN hr h s) = nI (2 * oddN hr h s) := pk_mul 2 _
  rw [w12, e2]
  unfold leanN
  by_cases g : 2 * oddN hr h s ≤ h
  · rw [if_pos g, pk_sub g, if_pos (nI_pos' (by omega))]
  · have e3 := pk_sneg (a := h) (b := 2 * oddN hr h s) (by omega) (by omega)
    rw [if_neg g, if_neg (Int32.not_le.mpr e3)]
    congr 1
    have e4 : nI h - nI (2 * oddN hr h s) = zI ((h : Int) - (2 * oddN hr h s : Nat)) := by
      rw [i_eq, pk_sub_toInt (by omega) (by omega), zI_toInt (by omega) (by omega)]
    have e5 : (0 : Int32) - zI ((h : Int) - (2 * oddN hr h s : Nat)) = zI ((2 * oddN hr h s : Nat) - (h : Int)) := by
      rw [Int32.zero_sub, zI_neg]
      congr 1
      omega
    rw [e4, e5, ← zI_nat]
    congr 1
    omega
theorem gl8 (hW : WS V Hp M n e c h ea eb ew ce hr) {t : Nat} (ht : t ≤ 8) : f_X0_greatestLean Hp (nI n) (nI t) = some (nI (glN hr h t (2 ^ n - 1))) := by
  obtain ⟨w1, w2, w3, w4, w5, w6, w7, w8, w9, w10, w11, w12, w13, wE, wC, wH⟩ := id hW
  have hp := pw8 w2
  have hpos : 1 ≤ 2 ^ n := Nat.one_le_two_pow
  unfold f_X0_greatestLean L_X0_greatestLean_5
  have hh : loopF (fun x : Int32 × Int32 => B_X0_greatestLean_5 Hp (nI n) (nI t) x.1 x.2) FU (0, 1) = some (nI (glN hr h t (2 ^ n - 1))) := by
    refine loopF_seq (fun i => (nI (glN hr h t i), nI (i + 1))) (2 ^ n - 1) _ ?_ ?_ (FU_lt (by omega))
    · intro i hi
      have t5 := pop8_le (i + 1) (by omega)
      have g1 := gl_le hr h t i
      have g2 := lean_le hr h (i + 1)
      unfold B_X0_greatestLean_5
      dsimp only
      rw [shl1 (by omega), if_neg (nI_ge (by omega) (by omega)), bitCount_ok _ (by omega), pop32_8 (by omega)]
      simp only [b1_some]
      by_cases g : pop 8 (i + 1) ≤ t
      · rw [if_neg (nI_nlt g (by omega)), lean8 hW (by omega), glN, if_pos g]
        simp only [b1_some, bn, nI_1]
        by_cases q : glN hr h t i < leanN hr h (i + 1)
        · rw [if_pos (nI_lt q (by omega)), if_pos q]
        · rw [if_neg (nI_nlt (by omega) (by omega)), if_neg q]
      · rw [if_pos (nI_lt (by omega) (by omega)), glN, if_neg g]
        simp only [b1_some, bn, nI_1]
    · unfold B_X0_greatestLean_5
      dsimp only
      rw [shl1 (by omega), if_pos (nI_le (by omega) (by omega))]
  rw [hh]
  rfl
theorem by10 (hW : WS V Hp M n e c h ea eb ew ce hr) {s t : Nat} (hs : s < 256) (ht : t ≤ 8) : L_X10_error_54 M (nI t) (nI s) FU 0 0 = some (if pop 8 s ≤ t then zI (2 * oddN hr h s - h) else 0) := by
  obtain ⟨w1, w2, w3, w4, w5, w6, w7, w8, w9, w10, w11, w12, w13, wE, wC, wH⟩ := id hW
  have hp := pw8 w2
  have t5 := pop8_le s hs
  unfold L_X10_error_54
  by_cases g : pop 8 s ≤ t
  · rw [if_pos g]
    have z0 : ((0 : Int32), (0 : Int32)) = (zI (2 * (oddN hr 0 s : Int) - ((0 : Nat) : Int)), nI 0) := by
      have : oddN hr 0 s = 0 := rfl
      rw [this]
      decide
    refine loopF_seq0 (fun i => (zI (2 * oddN hr i s - i), nI i)) h _ z0 ?_ ?_ (FU_lt (by omega))
    · intro i hi
      obtain ⟨t1, t2, t3⟩ := wH i hi
      have t4 : hr i &&& s < 256 := and_lt8 (by omega)
      have t6 := pop8_le _ t4
      unfold B_X10_error_54
      dsimp only
      rw [w13, if_neg (nI_ge hi (by omega)), bits10 (by omega), pop32_8 hs]
      simp only [b1_some]
      rw [if_neg (nI_nlt g (by omega)), rdI_nI (by omega) (by decide), t2]
      simp only [b1_some, fa_and]
      rw [bits10 (by omega), pop32_8 t4]
      simp only [b1_some]
      rw [rem2 (by omega)]
      have e3 : oddN hr (i + 1) s = oddN hr i s + pop 8 (hr i &&& s) % 2 := by unfold oddN; rw [fb_sm_succ]
      rw [e3]
      rcases Nat.mod_two_eq_zero_or_one (pop 8 (hr i &&& s)) with q | q
      · rw [q, if_neg (by decide)]
        simp only [b1_some, bn, nI_1]
        rw [show (-1 : Int32) = zI (-1) from rfl, zI_add]
        congr 4
        omega
      · rw [q, if_pos (by decide)]
        simp only [b1_some, bn, nI_1]
        rw [show (1 : Int32) = zI 1 from rfl, zI_add]
        congr 4
        omega
    · unfold B_X10_error_54
      dsimp only
      rw [w13, if_pos (nI_le (Nat.le_refl h) (by omega))]
  · rw [if_neg g]
    show loopF _ (99999 + 1) _ = _
    refine loopF_out ?_
    unfold B_X10_error_54
    dsimp only
    by_cases q : M.1 22 ≤ 0
    · rw [if_pos q]
    · rw [if_neg q, bits10 (by omega), pop32_8 hs]
      simp only [b1_some]
      rw [if_pos (nI_lt (by omega) (by omega))]
theorem gl10 (hW : WS V Hp M n e c h ea eb ew ce hr) {t : Nat} (ht : t ≤ 8) : L_X10_error_37 M (nI t) FU 0 1 = some (nI (glN hr h t (2 ^ n - 1))) := by
  obtain ⟨w1, w2, w3, w4, w5, w6, w7, w8, w9, w10, w11, w12, w13, wE, wC, wH⟩ := id hW
  have hp := pw8 w2
  have hpos : 1 ≤ 2 ^ n := Nat.one_le_two_pow
  unfold L_X10_error_37
  refine loopF_seq (fun i => (nI (glN hr h t i), nI (i + 1))) (2 ^ n - 1) _ ?_ ?_ (FU_lt (by omega))
  · intro i hi
    have t5 := pop8_le (i + 1) (by omega)
    have g1 := gl_le hr h t i
    have g2 := lean_le hr h (i + 1)
    have g3 := odd_le hr (i + 1) h
    unfold B_X10_error_37
    dsimp only
    rw [w7, shl1 (by omega), if_neg (nI_ge (by omega) (by omega)), by10 hW (by omega) ht]
    simp only [b1_some]
    by_cases g : pop 8 (i + 1) ≤ t
    · rw [if_pos g, glN, if_pos g]
      have e1 : (if (0 : Int32) ≤ zI (2 * oddN hr h (i + 1) - h) then some (zI (2 * oddN hr h (i + 1) - h)) else some (- zI (2 * oddN hr h (i + 1) - h))) = some (nI (leanN hr h (i + 1))) := by
        unfold leanN
        by_cases q : 2 * oddN hr h (i + 1) ≤ h
        · rw [if_pos q]
          by_cases q2 : (0 : Int32) ≤ zI (2 * oddN hr h (i + 1) - h)
          · rw [if_pos q2]
            have q3 := (geL _ 0 0 rfl).mp q2
            rw [zI_toInt (by omega) (by omega)] at q3
            rw [← zI_nat]
            congr 2
            omega
          · rw [if_neg q2, zI_neg, ← zI_nat]
            congr 2
            omega
        · rw [if_neg q, if_pos ((geL _ 0 0 rfl).mpr (by rw [zI_toInt (by omega) (by omega)]; omega)), ← zI_nat]
          congr 2
          omega
      rw [e1]
      simp only [b1_some, bn, nI_1]
      by_cases q : glN hr h t i < leanN hr h (i + 1)
      · rw [if_neg (nI_ge q (by omega)), if_pos q]; rfl
      · rw [if_pos (nI_le (by omega) (by omega)), if_neg q]; rfl
    · rw [if_neg g, glN, if_neg g, if_pos (by decide)]
      simp only [b1_some, bn, nI_1]
      rw [if_pos (nI_pos' (by omega))]
      rfl
  · unfold B_X10_error_37
    dsimp only
    rw [w7, shl1 (by omega), if_pos (nI_le (by omega) (by omega))]
end WEB4
theorem g_error {V Hp M : PS} (hR : RWeb V Hp M) (p1 p2 : Int32) : ∃ r : Int32, f_X9_error V Hp p1 p2 = some r ∧ f_X10_error M p1 p2 = some r := by
  obtain ⟨n, e, c, h, ea, eb, ew, ce, hr, hW⟩ := id hR
  obtain ⟨w1, w2, w3, w4, w5, w6, w7, w8, w9, w10, w11, w12, w13, wE, wC, wH⟩ := id hW
  unfold f_X9_error f_X10_error
  rw [part9, part10, in_32 p1 1 8 1 8 rfl rfl]
  simp only [b1_some, ltL p1 1 1 rfl, gtL p1 8 8 rfl]
  by_cases g1 : 1 ≤ p1.toInt ∧ p1.toInt ≤ 8
  · rw [if_pos g1, if_neg (by omega), if_neg (by omega), if_neg one_ne0]
    obtain ⟨t, ht, ht2, -⟩ := nI_ex p1 (by decide) g1
    subst ht
    by_cases g2 : 0 ≤ p2.toInt ∧ p2.toInt ≤ 1
    · rw [if_pos g2, if_neg one_ne0, if_neg one_ne0]
      obtain ⟨q, rfl, hq⟩ := ch_ex g2
      rw [w12, w13, w6]
      by_cases hh : h = 0
      · subst hh
        rw [if_pos nI_0, if_pos nI_0]
        exact ⟨_, rfl, rfl⟩
      · have k := gl_le hr h t (2 ^ n - 1)
        rw [if_neg (nI_ne0 (by omega) (by omega)), if_neg (nI_ne0 (by omega) (by omega)), gl8 hW (by omega), gl10 hW (by omega)]
        simp only [b1_some]
        rw [nI_l (by omega), nI_l (by omega), low9 (by omega) (by omega) (by omega) hq, part_ok (by omega) (by omega) (by omega) hq]
        exact ⟨_, rfl, rfl⟩
    · rw [if_neg g2, if_pos rfl, if_pos rfl]
      exact ⟨_, rfl, rfl⟩
  · rw [if_neg g1, if_pos rfl]
    refine ⟨-3, ?_, rfl⟩
    by_cases c1 : p1.toInt < 1
    · rw [if_pos c1]
    · rw [if_neg c1, if_pos (by omega)]
