/-! knots, edges, cords, the heap -/
theorem bitI {s k : Nat} (hs : s < 2 ^ 31) (hk : k < 32) : (nI s >>> (nI k &&& 31)) &&& 1 = nI (s / 2 ^ k % 2) := by
  rw [pk_shrN hs (nI k &&& 31) k (s_l k hk)]
  have h : s / 2 ^ k < 2 ^ 32 := Nat.lt_of_le_of_lt (Nat.div_le_self _ _) (by omega)
  exact pk_andN h (m := 1) 1 rfl
theorem shl1 {k : Nat} (hk : k < 31) : (1 : Int32) <<< (nI k &&& 31) = nI (2 ^ k) := by
  have h2 : 2 ^ k ≤ 2 ^ 30 := Nat.pow_le_pow_right (by decide) (by omega)
  have h := pk_shlN (n := 1) (nI k &&& 31) k (s_l k (by omega)) (by omega)
  rw [Nat.one_mul] at h
  exact h
theorem bits10 {x : Nat} (hx : x < 2 ^ 31) : f_X10_bits (nI x) = some (nI (pop 32 x)) := by
  unfold f_X10_bits L_X10_bits_4
  have h : loopF (fun y : Int32 × Int32 => B_X10_bits_4 (nI x) y.1 y.2) FU (0, 0) = some (nI (pop 32 x)) := by
    refine loopF_seq (fun i => (nI (pop i x), nI i)) 32 _ ?_ ?_ (FU_lt (by decide))
    · intro i hi
      unfold B_X10_bits_4
      dsimp only
      rw [if_neg (show ¬ (32 : Int32) ≤ nI i from nI_ge hi (by decide)), bitI hx hi]
      simp only [bn, nI_add, nI_1]
      rfl
    · unfold B_X10_bits_4
      dsimp only
      rw [if_pos (show (32 : Int32) ≤ nI 32 from nI_le (Nat.le_refl 32) (by decide))]
  rw [h]
  rfl
theorem pop_le (k x : Nat) : pop k x ≤ k := by
  unfold pop
  have := fb_sm_bound (f := fun i => x / 2 ^ i % 2) (c := 1) (n := k) (fun i _ => by omega)
  omega
theorem pop_big {x k : Nat} (h : x < 2 ^ k) : ∀ j, pop (k + j) x = pop k x := by
  intro j
  rw [pop_split, Nat.div_eq_of_lt h]
  have : pop j 0 = 0 := by
    have h0 : ∀ m, pop m 0 = 0 := by
      intro m
      induction m with
      | zero => rfl
      | succ m ih => show fb_sm _ (m + 1) = 0; rw [fb_sm_succ]; show pop m 0 + 0 / 2 ^ m % 2 = 0; rw [ih]; simp
    exact h0 j
  omega
/-- the knots' side of both states -/
def WS (V Hp M : PS) (n e c h : Nat) (ea eb ew ce hr : Nat → Nat) : Prop :=
  1 ≤ n ∧ n ≤ 8 ∧ e ≤ 16 ∧ c ≤ 10 ∧ h ≤ 32 ∧ V.1 0 = nI n ∧ M.1 14 = nI n ∧ V.1 1 = nI e ∧ M.1 18 = nI e ∧ V.1 2 = nI c ∧ M.1 20 = nI c ∧ Hp.1 1 = nI h ∧ M.1 22 = nI h ∧
  (∀ k, k < e → V.2.1 3 k = nI (ea k) ∧ M.2.1 15 k = nI (ea k) ∧ V.2.1 4 k = nI (eb k) ∧ M.2.1 16 k = nI (eb k) ∧ V.2.1 5 k = nI (ew k) ∧ M.2.1 17 k = nI (ew k) ∧ ea k < n ∧ eb k < n ∧ ea k ≠ eb k ∧ 1 ≤ ew k ∧ ew k ≤ 99) ∧
  (∀ k, k < c → V.2.1 6 k = nI (ce k) ∧ M.2.1 19 k = nI (ce k) ∧ ce k < 2 ^ n ∧ 2 ≤ pop 8 (ce k)) ∧
  ∀ k, k < h → Hp.2.1 0 k = nI (hr k) ∧ M.2.1 21 k = nI (hr k) ∧ hr k < 2 ^ n
def RWeb (V Hp M : PS) : Prop := ∃ (n e c h : Nat) (ea eb ew ce hr : Nat → Nat), WS V Hp M n e c h ea eb ew ce hr
def cutN (ea eb ew : Nat → Nat) (e s : Nat) : Nat := fb_sm (fun k => if s / 2 ^ (ea k) % 2 = s / 2 ^ (eb k) % 2 then 0 else ew k) e
def oneN (ce : Nat → Nat) (c s : Nat) : Nat := fb_sm (fun k => if s &&& ce k = 0 ∨ s &&& ce k = ce k then 1 else 0) c
def measN (ea eb ew ce : Nat → Nat) (e c w s : Nat) : Nat := if w = 0 then cutN ea eb ew e s else oneN ce c s
theorem pw8 {n : Nat} (h : n ≤ 8) : 2 ^ n ≤ 256 := by
  have : 2 ^ n ≤ 2 ^ 8 := Nat.pow_le_pow_right (by decide) h
  exact this
theorem xor_bit (a b : Nat) : (a % 2) ^^^ (b % 2) = if a % 2 = b % 2 then 0 else 1 := by
  rcases Nat.mod_two_eq_zero_or_one a with h | h <;> rcases Nat.mod_two_eq_zero_or_one b with g | g <;> rw [h, g] <;> rfl
section WEB
variable {V Hp M : PS} {n e c h : Nat} {ea eb ew ce hr : Nat → Nat}
theorem cut_le (hW : WS V Hp M n e c h ea eb ew ce hr) (s : Nat) : ∀ i, i ≤ e → cutN ea eb ew i s ≤ i * 99 := by
  intro i hi
  unfold cutN
  refine fb_sm_bound (fun k hk => ?_)
  have := hW.2.2.2.2.2.2.2.2.2.2.2.2.2.1 k (by omega)
  split <;> omega
theorem one_le (s : Nat) : ∀ i, oneN ce i s ≤ i := by
  intro i
  unfold oneN
  have := fb_sm_bound (f := fun k => if s &&& ce k = 0 ∨ s &&& ce k = ce k then 1 else 0) (c := 1) (n := i) (fun k _ => by split <;> omega)
  omega
theorem cut8 (hW : WS V Hp M n e c h ea eb ew ce hr) {s : Nat} (hs : s < 2 ^ n) : f_X8_cutOf V (nI s) = some (nI (cutN ea eb ew e s)) := by
  obtain ⟨w1, w2, w3, w4, w5, w6, w7, w8, w9, w10, w11, w12, w13, wE, wC, wH⟩ := id hW
  have hs2 : s < 256 := Nat.lt_of_lt_of_le hs (pw8 w2)
  unfold f_X8_cutOf L_X8_cutOf_4
  have hh : loopF (fun x : Int32 × Int32 => B_X8_cutOf_4 V (nI s) x.1 x.2) FU (0, 0) = some (nI (cutN ea eb ew e s)) := by
    refine loopF_seq (fun i => (nI (cutN ea eb ew i s), nI i)) e _ ?_ ?_ (FU_lt (by omega))
    · intro i hi
      obtain ⟨q1, q2, q3, q4, q5, q6, q7, q8, q9, q10, q11⟩ := wE i hi
      unfold B_X8_cutOf_4
      dsimp only
      rw [w8, if_neg (nI_ge hi (by omega)), rdI_nI (by omega) (by decide), rdI_nI (by omega) (by decide), rdI_nI (by omega) (by decide)]
      simp only [b1_some, q1, q3, q5]
      rw [bitI (by omega) (by omega), bitI (by omega) (by omega), fb_xorI, pk_mul]
      simp only [bn, nI_add, nI_1]
      rw [xor_bit]
      congr 4
      unfold cutN
      rw [fb_sm_succ]
      by_cases g : s / 2 ^ ea i % 2 = s / 2 ^ eb i % 2
      · rw [if_pos g, if_pos g]; omega
      · rw [if_neg g, if_neg g]; omega
    · unfold B_X8_cutOf_4
      dsimp only
      rw [w8, if_pos (nI_le (Nat.le_refl e) (by omega))]
  rw [hh]
  rfl
theorem one8 (hW : WS V Hp M n e c h ea eb ew ce hr) {s : Nat} (hs : s < 2 ^ n) : f_X8_oneSided V (nI s) = some (nI (oneN ce c s)) := by
  obtain ⟨w1, w2, w3, w4, w5, w6, w7, w8, w9, w10, w11, w12, w13, wE, wC, wH⟩ := id hW
  have hs2 : s < 256 := Nat.lt_of_lt_of_le hs (pw8 w2)
  unfold f_X8_oneSided L_X8_oneSided_4
  have hh : loopF (fun x : Int32 × Int32 => B_X8_oneSided_4 V (nI s) x.1 x.2) FU (0, 0) = some (nI (oneN ce c s)) := by
    refine loopF_seq (fun i => (nI (oneN ce i s), nI i)) c _ ?_ ?_ (FU_lt (by omega))
    · intro i hi
      obtain ⟨q1, q2, q3, q4⟩ := wC i hi
      have q5 : ce i < 256 := Nat.lt_of_lt_of_le q3 (pw8 w2)
      unfold B_X8_oneSided_4
      dsimp only
      rw [w10, if_neg (nI_ge hi (by omega)), rdI_nI (by omega) (by decide)]
      simp only [b1_some, q1, fa_and]
      have e1 : (nI (ce i &&& s) = 0) ↔ s &&& ce i = 0 := by
        rw [Nat.and_comm]
        exact nI_eq (b := 0) (Nat.lt_of_le_of_lt Nat.and_le_left (by omega)) (by decide)
      have e2 : (nI (ce i &&& s) = nI (ce i)) ↔ s &&& ce i = ce i := by
        rw [Nat.and_comm]
        exact nI_eq (Nat.lt_of_le_of_lt Nat.and_le_left (by omega)) (by omega)
      have e3 : oneN ce (i + 1) s = oneN ce i s + if s &&& ce i = 0 ∨ s &&& ce i = ce i then 1 else 0 := by unfold oneN; rw [fb_sm_succ]
      by_cases g1 : s &&& ce i = 0
      · rw [if_pos (e1.mpr g1), e3, if_pos (Or.inl g1)]
        simp only [b1_some, bn, nI_1]
      · rw [if_neg (fun z => g1 (e1.mp z))]
        by_cases g2 : s &&& ce i = ce i
        · rw [if_pos (e2.mpr g2), e3, if_pos (Or.inr g2)]
          simp only [b1_some, bn, nI_1]
        · rw [if_neg (fun z => g2 (e2.mp z)), e3, if_neg (by rintro (z | z); exact g1 z; exact g2 z)]
          simp only [b1_some, bn, nI_1, Nat.add_zero]
    · unfold B_X8_oneSided_4
      dsimp only
      rw [w10, if_pos (nI_le (Nat.le_refl c) (by omega))]
  rw [hh]
  rfl
theorem meas8 (hW : WS V Hp M n e c h ea eb ew ce hr) {w s : Nat} (hw : w ≤ 1) (hs : s < 2 ^ n) : f_X8_measureOf V (nI w) (nI s) = some (nI (measN ea eb ew ce e c w s)) := by
  unfold f_X8_measureOf measN
  by_cases h0 : w = 0
  · subst h0
    rw [if_pos nI_0, if_pos rfl, cut8 hW hs]; rfl
  · rw [if_neg (nI_ne0 (by omega) (by omega)), if_neg h0, one8 hW hs]; rfl
theorem cut10 (hW : WS V Hp M n e c h ea eb ew ce hr) {s : Nat} (hs : s < 2 ^ n) : L_X10_measureOf_5 M 0 (nI s) FU 0 0 = some (nI (cutN ea eb ew e s)) := by
  obtain ⟨w1, w2, w3, w4, w5, w6, w7, w8, w9, w10, w11, w12, w13, wE, wC, wH⟩ := id hW
  have hs2 : s < 256 := Nat.lt_of_lt_of_le hs (pw8 w2)
  unfold L_X10_measureOf_5
  refine loopF_seq (fun i => (nI (cutN ea eb ew i s), nI i)) e _ ?_ ?_ (FU_lt (by omega))
  · intro i hi
    obtain ⟨q1, q2, q3, q4, q5, q6, q7, q8, q9, q10, q11⟩ := wE i hi
    unfold B_X10_measureOf_5
    dsimp only
    rw [w9, if_neg (nI_ge hi (by omega)), if_pos rfl, rdI_nI (by omega) (by decide), rdI_nI (by omega) (by decide)]
    simp only [b1_some, q2, q4]
    rw [bitI (by omega) (by omega), bitI (by omega) (by omega), rdI_nI (by omega) (by decide), q6]
    have e1 : (nI (s / 2 ^ ea i % 2) = nI (s / 2 ^ eb i % 2)) ↔ s / 2 ^ ea i % 2 = s / 2 ^ eb i % 2 := nI_eq (by omega) (by omega)
    have e3 : cutN ea eb ew (i + 1) s = cutN ea eb ew i s + if s / 2 ^ (ea i) % 2 = s / 2 ^ (eb i) % 2 then 0 else ew i := by unfold cutN; rw [fb_sm_succ]
    by_cases g : s / 2 ^ ea i % 2 = s / 2 ^ eb i % 2
    · rw [if_pos (e1.mpr g), e3, if_pos g]
      simp only [b1_some, bn, nI_1, i_lit, nI_add]
    · rw [if_neg (fun z => g (e1.mp z)), e3, if_neg g]
      simp only [b1_some, bn, nI_1, nI_add]
  · unfold B_X10_measureOf_5
    dsimp only
    rw [w9, if_pos (nI_le (Nat.le_refl e) (by omega))]
theorem one10 (hW : WS V Hp M n e c h ea eb ew ce hr) {s : Nat} (hs : s < 2 ^ n) : L_X10_measureOf_66 M 1 (nI s) FU 0 0 = some (nI (oneN ce c s)) := by
  obtain ⟨w1, w2, w3, w4, w5, w6, w7, w8, w9, w10, w11, w12, w13, wE, wC, wH⟩ := id hW
  have hs2 : s < 256 := Nat.lt_of_lt_of_le hs (pw8 w2)
  unfold L_X10_measureOf_66
  refine loopF_seq (fun i => (nI (oneN ce i s), nI i)) c _ ?_ ?_ (FU_lt (by omega))
  · intro i hi
    obtain ⟨q1, q2, q3, q4⟩ := wC i hi
    have q5 : ce i < 256 := Nat.lt_of_lt_of_le q3 (pw8 w2)
    unfold B_X10_measureOf_66
    dsimp only
    rw [w11, if_neg (nI_ge hi (by omega)), if_pos rfl, rdI_nI (by omega) (by decide)]
    simp only [b1_some, q2, fa_and]
    have e1 : (nI (s &&& ce i) = 0) ↔ s &&& ce i = 0 := nI_eq (b := 0) (Nat.lt_of_le_of_lt Nat.and_le_right (by omega)) (by decide)
    have e2 : (nI (s &&& ce i) = nI (ce i)) ↔ s &&& ce i = ce i := nI_eq (Nat.lt_of_le_of_lt Nat.and_le_right (by omega)) (by omega)
    have e3 : oneN ce (i + 1) s = oneN ce i s + if s &&& ce i = 0 ∨ s &&& ce i = ce i then 1 else 0 := by unfold oneN; rw [fb_sm_succ]
    by_cases g1 : s &&& ce i = 0
    · rw [if_pos (e1.mpr g1), e3, if_pos (Or.inl g1)]
      simp only [b1_some, bn, nI_1]
    · rw [if_neg (fun z => g1 (e1.mp z))]
      by_cases g2 : s &&& ce i = ce i
      · rw [if_pos (e2.mpr g2), e3, if_pos (Or.inr g2)]
        simp only [b1_some, bn, nI_1]
      · rw [if_neg (fun z => g2 (e2.mp z)), e3, if_neg (by rintro (z | z); exact g1 z; exact g2 z)]
        simp only [b1_some, bn, nI_1, i_lit, nI_add, Nat.add_zero]
  · unfold B_X10_measureOf_66
    dsimp only
    rw [w11, if_pos (nI_le (Nat.le_refl c) (by omega))]
theorem meas10 (hW : WS V Hp M n e c h ea eb ew ce hr) {w s : Nat} (hw : w ≤ 1) (hs : s < 2 ^ n) : f_X10_measureOf M (nI w) (nI s) = some (nI (measN ea eb ew ce e c w s)) := by
  unfold f_X10_measureOf measN
  have stop : ∀ (B : Int32 × Int32 → Option ((Int32 × Int32) ⊕ Int32)) (x : Int32 × Int32) (r : Int32), B x = some (.inr r) → loopF B FU x = some r := fun B x r hB => by
    show loopF B (99999 + 1) x = some r
    exact loopF_out hB
  by_cases h0 : w = 0
  · subst h0
    rw [if_pos rfl, nI_0, cut10 hW hs]
    simp only [b1_some]
    unfold L_X10_measureOf_66
    rw [stop _ _ (nI (cutN ea eb ew e s))]
    · rfl
    · unfold B_X10_measureOf_66
      dsimp only
      by_cases g : M.1 20 ≤ 0
      · rw [if_pos g]
      · rw [if_neg g, if_neg (by decide)]
  · have h1 : w = 1 := by omega
    subst h1
    rw [if_neg (by decide)]
    unfold L_X10_measureOf_5
    rw [stop _ _ 0]
    · simp only [b1_some]
      rw [show nI 1 = 1 from rfl, one10 hW hs]
      rfl
    · unfold B_X10_measureOf_5
      dsimp only
      by_cases g : M.1 18 ≤ 0
      · rw [if_pos g]
      · rw [if_neg g, if_neg (by decide)]
end WEB
