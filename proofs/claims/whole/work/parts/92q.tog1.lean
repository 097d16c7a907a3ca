/-! together -/
theorem and_bits {f g : Nat → Nat} (hf : ∀ k, f k ≤ 1) (hg : ∀ k, g k ≤ 1) (n : Nat) : fb_sm (fun k => f k * 2 ^ k) n &&& fb_sm (fun k => g k * 2 ^ k) n = fb_sm (fun k => (f k * g k) * 2 ^ k) n := by
  have hfg : ∀ k, f k * g k ≤ 1 := fun k => Nat.le_trans (Nat.mul_le_mul (hf k) (hg k)) (by decide)
  apply Nat.eq_of_testBit_eq
  intro i
  rw [Nat.testBit_eq_decide_div_mod_eq, Nat.testBit_eq_decide_div_mod_eq, and_bitN]
  by_cases c : i < n
  · rw [bits_at hf n i c, bits_at hg n i c, bits_at hfg n i c]
  · have l : 2 ^ n ≤ 2 ^ i := Nat.pow_le_pow_right (by decide) (by omega)
    have b1 := bits_lt hf n
    have b3 := bits_lt hfg n
    rw [Nat.div_eq_of_lt (Nat.lt_of_lt_of_le b1 l), Nat.div_eq_of_lt (Nat.lt_of_lt_of_le b3 l), Nat.zero_mod, Nat.zero_mul]
theorem out_bits {f g : Nat → Nat} (hf : ∀ k, f k ≤ 1) (hg : ∀ k, g k ≤ 1) {n : Nat} (hn : n ≤ 32) : outN (fb_sm (fun k => f k * 2 ^ k) n) (fb_sm (fun k => g k * 2 ^ k) n) = fb_sm (fun k => (f k * (1 - g k)) * 2 ^ k) n := by
  have hfg : ∀ k, f k * (1 - g k) ≤ 1 := fun k => Nat.le_trans (Nat.mul_le_mul (hf k) (Nat.sub_le 1 (g k))) (by decide)
  apply Nat.eq_of_testBit_eq
  intro i
  rw [Nat.testBit_eq_decide_div_mod_eq, Nat.testBit_eq_decide_div_mod_eq]
  unfold outN
  rw [and_bitN]
  by_cases c : i < n
  · have x1 : (fb_sm (fun k => g k * 2 ^ k) n ^^^ 4294967295) / 2 ^ i % 2 = 1 - g i := by
      have t := Nat.testBit_xor (fb_sm (fun k => g k * 2 ^ k) n) 4294967295 i
      have t2 := Nat.testBit_two_pow_sub_one 32 i
      rw [show 2 ^ 32 - 1 = 4294967295 from rfl] at t2
      rw [t2, Nat.testBit_eq_decide_div_mod_eq, Nat.testBit_eq_decide_div_mod_eq, bits_at hg n i c, decide_eq_true (show i < 32 by omega)] at t
      have h1 := hg i
      rcases (show g i = 0 ∨ g i = 1 by omega) with e | e
      · rw [e] at t ⊢
        simp at t
        omega
      · rw [e] at t ⊢
        simp at t
        omega
    rw [bits_at hf n i c, x1, bits_at hfg n i c]
  · have l : 2 ^ n ≤ 2 ^ i := Nat.pow_le_pow_right (by decide) (by omega)
    have b1 := bits_lt hf n
    have b3 := bits_lt hfg n
    rw [Nat.div_eq_of_lt (Nat.lt_of_lt_of_le b1 l), Nat.div_eq_of_lt (Nat.lt_of_lt_of_le b3 l), Nat.zero_mod, Nat.zero_mul]
theorem bits_0 {f : Nat → Nat} {n : Nat} : fb_sm (fun k => f k * 2 ^ k) n = 0 ↔ fb_sm f n = 0 := by
  constructor
  · intro h
    refine sm_zero n (fun k hk => ?_)
    have := fb_sm_zero h k hk
    rcases Nat.mul_eq_zero.mp this with e | e
    · exact e
    · have := Nat.two_pow_pos k; omega
  · intro h
    refine sm_zero n (fun k hk => ?_)
    rw [fb_sm_zero h k hk, Nat.zero_mul]
theorem nI_z32 {y : Nat} (hy : y < 2 ^ 32) : nI y = 0 ↔ y = 0 := ⟨nI_zero hy, fun h => by rw [h]; rfl⟩
/-- how many inputs that are not served a row would serve -/
def nbN (rt : Nat → Nat → Nat) (wd : Nat) (sv : Nat → Nat) (r : Nat) : Nat := fb_sm (fun i => (1 - sv i) * rt i r) (2 ^ wd)
def bbN (rt : Nat → Nat → Nat) (wd rw : Nat) (sv : Nat → Nat) : Nat := bsN (nbN rt wd sv) (rw - 1)
def svN (rt : Nat → Nat → Nat) (wd rw : Nat) : Nat → Nat → Nat
  | 0, _ => 0
  | j + 1, i => if svN rt wd rw j i = 0 then rt i (bbN rt wd rw (svN rt wd rw j)) else 1
def ltN (wd : Nat) (sv : Nat → Nat) : Nat := fb_sm (fun i => 1 - sv i) (2 ^ wd)
theorem TR.frM {S P M N : PS} {nd rw wd : Nat} {dz : Nat → Nat} {rt : Nat → Nat → Nat} (h : TR S P M nd rw wd dz rt) (g : SX [] [35, 36] [] M N) : TR S P N nd rw wd dz rt := by
  unfold TR at h ⊢
  rw [g.1 10 (by simp), g.1 11 (by simp), g.1 12 (by simp), g.2.1 9 (by simp), g.2.1 34 (by simp)]
  exact h
theorem TR.frS {S U P M : PS} {nd rw wd : Nat} {dz : Nat → Nat} {rt : Nat → Nat → Nat} (h : TR S P M nd rw wd dz rt) (g : SX [] [6] [7] S U) : TR U P M nd rw wd dz rt := by
  unfold TR at h ⊢
  rw [g.1 1 (by simp), g.2.1 5 (by simp), g.2.2 4 (by simp)]
  exact h
section TRS6
variable {S P M : PS} {nd rw wd : Nat} {dz : Nat → Nat} {rt : Nat → Nat → Nat}
theorem sv_le (h : TR S P M nd rw wd dz rt) : ∀ j i, svN rt wd rw j i ≤ 1
  | 0, _ => Nat.zero_le _
  | j + 1, i => by
    rw [svN]
    split
    · exact h.2.2.2.2.2.1 _ _
    · exact Nat.le_refl _
theorem nb_le (h : TR S P M nd rw wd dz rt) (sv : Nat → Nat) (r : Nat) : nbN rt wd sv r ≤ 32 := by
  have l := pw5 h.1
  have := fb_sm_bound (f := fun i => (1 - sv i) * rt i r) (c := 1) (n := 2 ^ wd) (fun k _ => Nat.le_trans (Nat.mul_le_mul (Nat.sub_le 1 (sv k)) (h.2.2.2.2.2.1 k r)) (by decide))
  unfold nbN
  omega
theorem bb_lt (h : TR S P M nd rw wd dz rt) (sv : Nat → Nat) : bbN rt wd rw sv < rw := by
  have := bs_le (nbN rt wd sv) (rw - 1)
  have := h.2.2.1
  unfold bbN
  omega
theorem ltv_s (h : TR S P M nd rw wd dz rt) (j : Nat) : ltN wd (svN rt wd rw (j + 1)) + nbN rt wd (svN rt wd rw j) (bbN rt wd rw (svN rt wd rw j)) = ltN wd (svN rt wd rw j) := by
  unfold ltN nbN
  rw [← fb_sm_add]
  refine fb_sm_cong (fun i _ => ?_)
  have h1 := sv_le h j i
  have h2 := h.2.2.2.2.2.1 i (bbN rt wd rw (svN rt wd rw j))
  rw [svN]
  rcases (show svN rt wd rw j i = 0 ∨ svN rt wd rw j i = 1 by omega) with e | e
  · rw [if_pos e, e]; omega
  · rw [if_neg (by omega), e]; omega
theorem ltv_le (h : TR S P M nd rw wd dz rt) (sv : Nat → Nat) : ltN wd sv ≤ 32 := by
  have l := pw5 h.1
  have := fb_sm_bound (f := fun i => 1 - sv i) (c := 1) (n := 2 ^ wd) (fun k _ => Nat.sub_le 1 (sv k))
  unfold ltN
  omega
theorem nb10 (h : TR S P M nd rw wd dz rt) {sv : Nat → Nat} (hs : ∀ i, sv i ≤ 1) (h35 : ∀ i, i < 2 ^ wd → M.2.1 35 i = nI (sv i)) {r : Nat} (hr : r < rw) : f_X10_newBy M (nI r) = some (nI (nbN rt wd sv r)) := by
  obtain ⟨h1, h2, h3, h4, h5, h6, h7, h8, h9, h10, h11, h12, hD, hL, hI, hG⟩ := id h
  have l := pw5 h1
  have key : L_X10_newBy_4 M (nI r) FU 0 0 = some (nI (nbN rt wd sv r)) := by
    unfold L_X10_newBy_4
    refine loopF_seq0 (fun j => (nI (fb_sm (fun i => (1 - sv i) * rt i r) j), nI j)) (2 ^ wd) _ rfl (fun j hj => ?_) ?_ (FU_lt (by omega))
    · have s1 := hs j
      unfold B_X10_newBy_4
      dsimp only
      rw [h10, shl1 (by omega), if_neg (nI_ge hj (by omega)), rdI_nI (by omega) (by decide), h35 j hj]
      simp only [b1_some]
      rw [show (64 : Int32) = nI 64 from rfl, pk_mul, nI_add, rdI_nI (by omega) (by decide), hG j hj r hr]
      simp only [b1_some]
      rw [fb_sm_succ]
      rcases (show sv j = 0 ∨ sv j = 1 by omega) with e | e
      · rw [e, if_pos (show nI 0 = 0 from rfl)]
        simp only [b1_some, bn, nI_1, nI_add]
        rw [Nat.sub_zero, Nat.one_mul]
      · rw [e, if_neg (show ¬ nI 1 = 0 by decide)]
        simp only [b1_some, bn, nI_1]
        rw [Nat.sub_self, Nat.zero_mul, show (0 : Int32) = nI 0 from rfl, nI_add]
    · unfold B_X10_newBy_4
      dsimp only
      rw [h10, shl1 (by omega), if_pos (nI_le (by omega) (by omega))]
      rfl
  unfold f_X10_newBy
  rw [key]
  rfl
theorem bb10 (h : TR S P M nd rw wd dz rt) {sv : Nat → Nat} (hs : ∀ i, sv i ≤ 1) (h35 : ∀ i, i < 2 ^ wd → M.2.1 35 i = nI (sv i)) : L_X10_together_52 M FU 0 1 = some (nI (bbN rt wd rw sv)) := by
  obtain ⟨h1, h2, h3, h4, h5, h6, h7, h8, h9, h10, h11, h12, hD, hL, hI, hG⟩ := id h
  unfold L_X10_together_52
  refine loopF_seq0 (fun j => (nI (bsN (nbN rt wd sv) j), nI (j + 1))) (rw - 1) _ rfl (fun j hj => ?_) ?_ (FU_lt (by omega))
  · have b := bs_le (nbN rt wd sv) j
    have n1 := nb_le h sv (j + 1)
    have n2 := nb_le h sv (bsN (nbN rt wd sv) j)
    unfold B_X10_together_52
    dsimp only
    rw [h12, if_neg (nI_ge (by omega) (by omega)), nb10 h hs h35 (by omega), nb10 h hs h35 (by omega)]
    simp only [b1_some]
    rw [bsN]
    by_cases z : nbN rt wd sv (j + 1) ≤ nbN rt wd sv (bsN (nbN rt wd sv) j)
    · rw [if_pos (nI_le z (by omega)), if_pos z]
      simp only [b1_some, bn, nI_1]
    · rw [if_neg (nI_ge (by omega) (by omega)), if_neg z]
      simp only [b1_some, bn, nI_1]
  · unfold B_X10_together_52
    dsimp only
    rw [h12, if_pos (nI_le (by omega) (by omega))]
    rfl
theorem op_and (h : TR S P M nd rw wd dz rt) (sv : Nat → Nat) (r : Nat) : fb_sm (fun i => rt i r * 2 ^ i) (2 ^ wd) &&& fb_sm (fun i => (1 - sv i) * 2 ^ i) (2 ^ wd) = fb_sm (fun i => ((1 - sv i) * rt i r) * 2 ^ i) (2 ^ wd) := by
  rw [and_bits (fun k => h.2.2.2.2.2.1 k r) (fun k => Nat.sub_le 1 (sv k))]
  exact fb_sm_cong (fun i _ => by rw [Nat.mul_comm (rt i r)])
theorem nbt_le (h : TR S P M nd rw wd dz rt) (sv : Nat → Nat) (r k : Nat) : (1 - sv k) * rt k r ≤ 1 := Nat.le_trans (Nat.mul_le_mul (Nat.sub_le 1 (sv k)) (h.2.2.2.2.2.1 k r)) (by decide)
theorem nb_t1 (h : TR S P M nd rw wd dz rt) (sv : Nat → Nat) (j : Nat) : fb_sm (fun i => ((1 - sv i) * rt i j) * 2 ^ i) (2 ^ wd) < 4294967296 := by
  have l := pw5 h.1
  have bl : fb_sm (fun i => ((1 - sv i) * rt i j) * 2 ^ i) (2 ^ wd) < 2 ^ (2 ^ wd) := bits_lt (nbt_le h sv j) (2 ^ wd)
  have l2 : 2 ^ (2 ^ wd) ≤ 2 ^ 32 := Nat.pow_le_pow_right (by decide) l
  omega
theorem nb_t2 (h : TR S P M nd rw wd dz rt) (sv : Nat → Nat) (j : Nat) : nI (fb_sm (fun i => rt i j * 2 ^ i) (2 ^ wd)) &&& nI (fb_sm (fun i => (1 - sv i) * 2 ^ i) (2 ^ wd)) = nI (fb_sm (fun i => ((1 - sv i) * rt i j) * 2 ^ i) (2 ^ wd)) := by
  rw [fa_and, op_and h]
theorem nb_t3 (h : TR S P M nd rw wd dz rt) (sv : Nat → Nat) (j : Nat) : f_J6_bitCount_0f7a4 (nI (fb_sm (fun i => ((1 - sv i) * rt i j) * 2 ^ i) (2 ^ wd))) = some (nI (nbN rt wd sv j)) := by
  rw [bitCount_ok _ (nb_t1 h sv j), pop_bits (nbt_le h sv j) (pw5 h.1)]
  rfl
theorem rm7 (h : TR S P M nd rw wd dz rt) (sv : Nat → Nat) : f_X7_rowForMost S P (nI (fb_sm (fun i => (1 - sv i) * 2 ^ i) (2 ^ wd))) = some (nI (bbN rt wd rw sv)) := by
  obtain ⟨h1, h2, h3, h4, h5, h6, h7, h8, h9, h10, h11, h12, hD, hL, hI, hG⟩ := id h
  have l := pw5 h1
  have key : L_X7_rowForMost_7 S P (nI (fb_sm (fun i => (1 - sv i) * 2 ^ i) (2 ^ wd))) FU 0 0 0 = some (nI (bbN rt wd rw sv)) := by
    unfold L_X7_rowForMost_7
    refine loopF_seq0 (fun j => (nI (bsN (nbN rt wd sv) (j - 1)), nI (if j = 0 then 0 else nbN rt wd sv (bsN (nbN rt wd sv) (j - 1))), nI j)) rw _ ?_ (fun j hj => ?_) ?_ (FU_lt (by omega))
    · have e0 : bsN (nbN rt wd sv) (0 - 1) = 0 := rfl
      rw [e0, if_pos rfl, nI_0]
    · have n1 := nb_le h sv j
      have n2 := nb_le h sv (bsN (nbN rt wd sv) (j - 1))
      unfold B_X7_rowForMost_7
      dsimp only
      rw [h9, if_neg (nI_ge (by omega) (by omega)), rdI_nI (by omega) (by decide), hI j hj, b1_some, nb_t2 h, nb_t3 h, b1_some]
      rw [Nat.add_sub_cancel, if_neg (by omega : ¬ j + 1 = 0)]
      by_cases z0 : j = 0
      · subst z0
        have e : bsN (nbN rt wd sv) 0 = 0 := rfl
        rw [if_pos rfl, e]
        by_cases z : nbN rt wd sv 0 ≤ 0
        · rw [if_pos (nI_le z (by omega))]
          simp only [b2_some, bn, nI_1]
          rw [show nbN rt wd sv 0 = 0 by omega]
        · rw [if_neg (nI_ge (by omega) (by omega))]
          simp only [b2_some, bn, nI_1]
      · rw [if_neg z0]
        obtain ⟨q, rfl⟩ : ∃ q, j = q + 1 := ⟨j - 1, by omega⟩
        rw [Nat.add_sub_cancel] at n2 ⊢
        rw [bsN]
        by_cases z : nbN rt wd sv (q + 1) ≤ nbN rt wd sv (bsN (nbN rt wd sv) q)
        · rw [if_pos (nI_le z (by omega)), if_pos z]
          simp only [b2_some, bn, nI_1]
        · rw [if_neg (nI_ge (by omega) (by omega)), if_neg z]
          simp only [b2_some, bn, nI_1]
    · unfold B_X7_rowForMost_7
      dsimp only
      rw [h9, if_pos (nI_le (by omega) (by omega))]
      rfl
  unfold f_X7_rowForMost
  rw [key]
  rfl
theorem se35 (h : TR S P M nd rw wd dz rt) {sv : Nat → Nat} (hs : ∀ i, sv i ≤ 1) (h35 : ∀ i, i < 2 ^ wd → M.2.1 35 i = nI (sv i)) {b : Nat} (hb : b < rw) : ∃ N, L_X10_together_114 (nI b) FU 0 M = some N ∧ (SX [] [35] [] M N ∧ ∀ i, i < 2 ^ wd → N.2.1 35 i = nI (if sv i = 0 then rt i b else 1)) := by
  obtain ⟨h1, h2, h3, h4, h5, h6, h7, h8, h9, h10, h11, h12, hD, hL, hI, hG⟩ := id h
  have l := pw5 h1
  unfold L_X10_together_114
  have key : ∃ N, loopF (fun x : Int32 × PS => B_X10_together_114 (nI b) x.1 x.2) FU (0, M) = some N ∧ (SX [] [35] [] M N ∧ ∀ i, i < 2 ^ wd → N.2.1 35 i = nI (if sv i = 0 then rt i b else 1)) := by
    refine loopF_inv (fun j x => x.1 = nI j ∧ SX [] [35] [] M x.2 ∧ (∀ i, i < j → x.2.2.1 35 i = nI (if sv i = 0 then rt i b else 1)) ∧ ∀ i, j ≤ i → i < 2 ^ wd → x.2.2.1 35 i = nI (sv i)) _ (2 ^ wd) ?_ ?_ (2 ^ wd) 0 (0, M) FU (by omega) (FU_lt (by omega)) ⟨rfl, SX.rf, fun i hi => by omega, fun i _ hi => h35 i hi⟩
    · rintro j hj ⟨u, U⟩ ⟨k1, k2, k3, k4⟩
      dsimp only at k1 k2 k3 k4
      subst k1
      left
      have s1 := hs j
      have t1 := h6 j b
      have v : (b1 (if nI (sv j) = 0 then (b1 (rdI 2048 (U.2.1 34) (64 * nI j + nI b)) fun v36 => if v36 = 1 then some (1 : Int32) else some 0) else some (1 : Int32)) fun v34 => wA 32 U 35 (nI j) (vp_nar .boolean v34)) = some (sA U 35 (upd (U.2.1 35) j (nI (if sv j = 0 then rt j b else 1)))) := by
        rw [show (64 : Int32) = nI 64 from rfl, pk_mul, nI_add, rdI_nI (by omega) (by decide), k2.2.1 34 (by simp), hG j hj b hb]
        simp only [b1_some]
        rcases (show sv j = 0 ∨ sv j = 1 by omega) with e | e
        · rw [e, if_pos (show nI 0 = 0 from rfl), if_pos rfl]
          rcases (show rt j b = 0 ∨ rt j b = 1 by omega) with t | t
          · rw [t, if_neg (show ¬ nI 0 = 1 by decide)]
            simp only [b1_some]
            rw [show vp_nar .boolean 0 = nI 0 by decide, wA_nI (by omega) (by decide)]
          · rw [t, if_pos (show nI 1 = 1 from rfl)]
            simp only [b1_some]
            rw [show vp_nar .boolean 1 = nI 1 by decide, wA_nI (by omega) (by decide)]
        · rw [e, if_neg (show ¬ nI 1 = 0 by decide), if_neg (by omega : ¬ (1 : Nat) = 0)]
          simp only [b1_some]
          rw [show vp_nar .boolean 1 = nI 1 by decide, wA_nI (by omega) (by decide)]
      refine ⟨(nI (j + 1), sA U 35 (upd (U.2.1 35) j (nI (if sv j = 0 then rt j b else 1)))), ?_, rfl, k2.sA _ (by decide), fun i hi => ?_, fun i h1 h2 => ?_⟩
      · unfold B_X10_together_114
        dsimp only
        rw [k2.1 12 (by simp), h10, shl1 (by omega), if_neg (nI_ge hj (by omega)), rdI_nI (by omega) (by decide), k4 j (Nat.le_refl _) hj]
        simp only [b1_some]
        have ass : ∀ (o : Option Int32) (f : Int32 → Option PS) (g : PS → Option ((Int32 × PS) ⊕ PS)), (b1 o fun v => b1 (f v) g) = b1 (b1 o f) g := fun o f g => by cases o <;> rfl
        rw [ass, v]
        simp only [b1_some, bn, nI_1]
      · show upd (U.2.1 35) j _ i = _
        rw [up_s]
        by_cases z : i = j
        · rw [if_pos z, z]
        · rw [if_neg z]; exact k3 i (by omega)
      · show upd (U.2.1 35) j _ i = _
        rw [up_s, if_neg (by omega)]
        exact k4 i (by omega) h2
    · rintro ⟨u, U⟩ ⟨k1, k2, k3, k4⟩
      dsimp only at k1 k2 k3 k4
      subst k1
      refine ⟨U, ?_, k2, k3⟩
      unfold B_X10_together_114
      dsimp only
      rw [k2.1 12 (by simp), h10, shl1 (by omega), if_pos (nI_le (by omega) (by omega))]
  exact key
theorem z35 (N : PS) : ∃ N2, L_X10_together_14 FU 0 N = some N2 ∧ (SX [] [35] [] N N2 ∧ ∀ i, i < 32 → N2.2.1 35 i = 0) := by
  unfold L_X10_together_14
  have key : ∃ N2, loopF (fun x : Int32 × PS => B_X10_together_14 x.1 x.2) FU (0, N) = some N2 ∧ (SX [] [35] [] N N2 ∧ ∀ i, i < 32 → N2.2.1 35 i = 0) := by
    refine loopF_inv (fun j x => x.1 = nI j ∧ SX [] [35] [] N x.2 ∧ ∀ i, i < j → x.2.2.1 35 i = 0) _ 32 ?_ ?_ 32 0 (0, N) FU (by omega) (FU_lt (by omega)) ⟨rfl, SX.rf, fun i hi => by omega⟩
    · rintro j hj ⟨u, U⟩ ⟨k1, k2, k3⟩
      dsimp only at k1 k2 k3
      subst k1
      left
      unfold B_X10_together_14
      dsimp only
      rw [if_neg (show ¬ (32 : Int32) ≤ nI j from nI_ge (b := 32) hj (by decide)), wA_nI hj (by decide)]
      simp only [b1_some, bn, nI_1]
      refine ⟨_, rfl, rfl, k2.sA _ (by decide), fun i hi => ?_⟩
      show upd (U.2.1 35) j _ i = _
      rw [up_s]
      by_cases z : i = j
      · rw [if_pos z]; decide
      · rw [if_neg z]; exact k3 i (by omega)
    · rintro ⟨u, U⟩ ⟨k1, k2, k3⟩
      dsimp only at k1 k2 k3
      subst k1
      refine ⟨U, ?_, k2, k3⟩
      unfold B_X10_together_14
      dsimp only
      rw [if_pos (show (32 : Int32) ≤ nI 32 by decide)]
  exact key
end TRS6
