/-! heaps made by pairs, by threes -/
def lgN (n : Nat) : Nat := if n < 2 then 1 else if n < 4 then 2 else if n < 8 then 3 else 4
theorem lg_ok : ∀ n, n < 9 → 1 ≤ n → (n < 2 ^ lgN n ∧ lgN n ≤ 4 ∧ ∀ i, i < lgN n → 2 ^ i ≤ n) := by decide
def mkk (b i : Nat) : Nat := if b = 0 then i + 1 else 2 * (i + 1) + 1
def sdN (b s k : Nat) : Nat := fb_sm (fun i => (pop 8 (s &&& mkk b i) % 2) * 2 ^ i) k
theorem sd_lt (b s : Nat) : ∀ k, sdN b s k < 2 ^ k := by
  intro k
  induction k with
  | zero => exact Nat.one_pos
  | succ k ih =>
    have e : sdN b s (k + 1) = sdN b s k + (pop 8 (s &&& mkk b k) % 2) * 2 ^ k := by unfold sdN; rw [fb_sm_succ]
    rw [e, Nat.pow_succ]
    rcases Nat.mod_two_eq_zero_or_one (pop 8 (s &&& mkk b k)) with q | q <;> rw [q] <;> omega
theorem or_bit {a i t : Nat} (ha : a < 2 ^ i) (ht : t < 2) (hi : i < 8) : nI a ||| (nI t <<< (nI i &&& 31)) = nI (a + t * 2 ^ i) := by
  have h2 : 2 ^ i ≤ 2 ^ 7 := Nat.pow_le_pow_right (by decide) (by omega)
  have h3 : t * 2 ^ i ≤ 1 * 2 ^ i := Nat.mul_le_mul_right _ (by omega)
  rw [pk_shlN (nI i &&& 31) i (s_l i (by omega)) (by omega), Int32.or_comm, Nat.mul_comm t (2 ^ i), fa_or_sum t ha]
  congr 1
  omega
theorem and_lt {x y b : Nat} (h : x < b) : x &&& y < b := Nat.lt_of_le_of_lt Nat.and_le_left h
theorem make5 : ∀ n, n < 9 → 1 ≤ n → L_X0_make_5 (nI n) FU 1 0 = some (nI (2 ^ lgN n)) := by decide +kernel
theorem sides8 {n b s : Nat} (hn : n ≤ 8) (hb : b ≤ 1) (hs : s < 32) : f_X0_sidesOf (nI s) (nI n) (nI b) = some (nI (sdN b s n)) := by
  unfold f_X0_sidesOf L_X0_sidesOf_5
  have hh : loopF (fun x : Int32 × Int32 => B_X0_sidesOf_5 (nI s) (nI n) (nI b) x.1 x.2) FU (0, 0) = some (nI (sdN b s n)) := by
    refine loopF_seq0 (fun i => (nI (sdN b s i), nI i)) n _ rfl ?_ ?_ (FU_lt (by omega))
    · intro i hi
      unfold B_X0_sidesOf_5
      dsimp only
      rw [if_neg (nI_ge hi (by omega))]
      have e1 : (if nI b = 0 then some (nI i + 1) else some (2 * (nI i + 1) + 1)) = some (nI (mkk b i)) := by
        unfold mkk
        by_cases h0 : b = 0
        · subst h0; rw [if_pos nI_0, if_pos rfl, nI_1]
        · rw [if_neg (nI_ne0 (by omega) (by omega)), if_neg h0, nI_1, i_lit 2, pk_mul, nI_1]
      rw [e1]
      simp only [b1_some, fa_and]
      have t4 : s &&& mkk b i < 32 := and_lt hs
      have t6 := pop8_le _ (show s &&& mkk b i < 256 by omega)
      rw [bitCount_ok _ (by omega), pop32_8 (by omega)]
      simp only [b1_some]
      rw [and1 (by omega), or_bit (sd_lt b s i) (by omega) (by omega)]
      simp only [bn, nI_1]
      rfl
    · unfold B_X0_sidesOf_5
      dsimp only
      rw [if_pos (nI_le (Nat.le_refl n) (by omega))]
  rw [hh]
  rfl
theorem add8 {S : PS} {i : Nat} (hi : i < 32) (h : S.1 1 = nI i) (x : Int32) : f_X0_add S x = some (nI (i + 1), sI (sA S 0 (upd (S.2.1 0) i x)) 1 (nI (i + 1))) := by
  unfold f_X0_add
  rw [h, if_pos (show nI i < (32 : Int32) from nI_lt hi (by decide)), wA_nI hi (by decide)]
  simp only [b1_some, bn, sA_1, h, nI_1]
  rfl
theorem mk8 {n b : Nat} (h1 : 1 ≤ n) (hn : n ≤ 8) (hb : b ≤ 1) (S : PS) : ∃ S2, f_X0_make S (nI n) (nI b) = some S2 ∧ S2.1 1 = nI (2 ^ (lgN n + b)) ∧ ∀ j, j < 2 ^ (lgN n + b) → S2.2.1 0 j = nI (sdN b j n) := by
  obtain ⟨l1, l2, l3⟩ := lg_ok n (by omega) h1
  have p1 : 2 ^ (lgN n) ≤ 2 ^ 4 := Nat.pow_le_pow_right (by decide) l2
  have p2 : 2 ^ (lgN n + b) ≤ 2 ^ 5 := Nat.pow_le_pow_right (by decide) (by omega)
  unfold f_X0_make L_X0_make_42
  rw [make5 n (by omega) h1]
  simp only [b1_some]
  have e1 : (if nI b = 0 then some (nI (2 ^ lgN n)) else bn (nI (2 ^ lgN n) * 2) fun v10 => some v10) = some (nI (2 ^ (lgN n + b))) := by
    by_cases h0 : b = 0
    · subst h0; rw [if_pos nI_0]; rfl
    · have hb1 : b = 1 := by omega
      subst hb1
      rw [if_neg (by decide)]
      simp only [bn]
      rw [i_lit 2, pk_mul, Nat.pow_succ]
  rw [e1]
  simp only [b1_some, bn]
  have key : ∃ S2, loopF (fun x : Int32 × PS => B_X0_make_42 (nI n) (nI b) (nI (2 ^ (lgN n + b))) x.1 x.2) FU (0, sI S 1 0) = some S2 ∧ (S2.1 1 = nI (2 ^ (lgN n + b)) ∧ ∀ j, j < 2 ^ (lgN n + b) → S2.2.1 0 j = nI (sdN b j n)) := by
    refine loopF_inv (fun i x => x.1 = nI i ∧ x.2.1 1 = nI i ∧ ∀ j, j < i → x.2.2.1 0 j = nI (sdN b j n)) _ (2 ^ (lgN n + b)) ?_ ?_ (2 ^ (lgN n + b)) 0 (0, sI S 1 0) FU (by omega) (FU_lt (by omega)) ⟨rfl, rfl, fun j hj => by omega⟩
    · rintro i hi ⟨v, U⟩ ⟨k1, k2, k3⟩
      dsimp only at k1 k2 k3
      subst k1
      left
      refine ⟨(nI (i + 1), sI (sA U 0 (upd (U.2.1 0) i (nI (sdN b i n)))) 1 (nI (i + 1))), ?_, rfl, rfl, fun j hj => ?_⟩
      · unfold B_X0_make_42
        dsimp only
        rw [if_neg (nI_ge hi (by omega)), sides8 hn hb (by omega)]
        simp only [b1_some]
        rw [add8 (by omega) k2]
        simp only [b2_some, bn, nI_1]
      · show upd (U.2.1 0) i (nI (sdN b i n)) j = _
        by_cases q : j = i
        · subst q; exact pk_us
        · rw [pk_un q]; exact k3 j (by omega)
    · rintro ⟨v, U⟩ ⟨k1, k2, k3⟩
      dsimp only at k1 k2 k3
      subst k1
      refine ⟨U, ?_, k2, k3⟩
      unfold B_X0_make_42
      dsimp only
      rw [if_pos (nI_le (Nat.le_refl _) (by omega))]
  obtain ⟨S2, q1, q2, q3⟩ := key
  exact ⟨S2, by rw [q1]; rfl, q2, q3⟩
theorem in10 {n b s : Nat} (h1 : 1 ≤ n) (hn : n ≤ 8) (hb : b ≤ 1) (hs : s < 32) (S : PS) (h14 : S.1 14 = nI n) (h0 : S.2.1 21 s = 0) : ∃ S2, L_X10_made_75 (nI (2 + b)) (nI s) FU 0 S = some S2 ∧ SX [] [21] [] S S2 ∧ S2.2.1 21 s = nI (sdN b s n) ∧ ∀ j, j ≠ s → S2.2.1 21 j = S.2.1 21 j := by
  unfold L_X10_made_75
  refine loopF_inv (fun i x => x.1 = nI i ∧ SX [] [21] [] S x.2 ∧ x.2.2.1 21 s = nI (sdN b s i) ∧ ∀ j, j ≠ s → x.2.2.1 21 j = S.2.1 21 j) _ n ?_ ?_ n 0 (0, S) FU (by omega) (FU_lt (by omega)) ⟨rfl, SX.rf, h0, fun j _ => rfl⟩
  · rintro i hi ⟨v, U⟩ ⟨k1, k2, k3, k4⟩
    dsimp only at k1 k2 k3 k4
    subst k1
    left
    have q14 : U.1 14 = nI n := (k2.1 14 (by decide)).trans h14
    refine ⟨(nI (i + 1), sA U 21 (upd (U.2.1 21) s (nI (sdN b s (i + 1))))), ?_, rfl, k2.sA _ (by decide), pk_us, fun j hj => ?_⟩
    · unfold B_X10_made_75
      dsimp only
      rw [q14, if_neg (nI_ge hi (by omega))]
      have e1 : (if nI (2 + b) = 2 then some (nI i + 1) else some (2 * (nI i + 1) + 1)) = some (nI (mkk b i)) := by
        unfold mkk
        by_cases h0 : b = 0
        · subst h0; rw [if_pos (show nI (2 + 0) = (2 : Int32) from rfl), if_pos rfl, nI_1]
        · have : b = 1 := by omega
          subst this
          rw [if_neg (by decide), if_neg h0, nI_1, i_lit 2, pk_mul, nI_1]
      rw [e1]
      simp only [b1_some, fa_and]
      have t4 : s &&& mkk b i < 32 := and_lt hs
      have t6 := pop8_le _ (show s &&& mkk b i < 256 by omega)
      rw [rdI_nI hs (by decide), bits10 (by omega), pop32_8 (by omega), k3]
      simp only [b1_some]
      rw [rem2 (by omega), or_bit (sd_lt b s i) (by omega) (by omega), wA_nI hs (by decide)]
      simp only [b1_some, bn, nI_1]
      have e3 : sdN b s (i + 1) = sdN b s i + (pop 8 (s &&& mkk b i) % 2) * 2 ^ i := by unfold sdN; rw [fb_sm_succ]
      rw [e3]
    · show upd (U.2.1 21) s _ j = _
      rw [pk_un hj]; exact k4 j hj
  · rintro ⟨v, U⟩ ⟨k1, k2, k3, k4⟩
    dsimp only at k1 k2 k3 k4
    subst k1
    have q14 : U.1 14 = nI n := (k2.1 14 (by decide)).trans h14
    refine ⟨U, ?_, k2, k3, k4⟩
    unfold B_X10_made_75
    dsimp only
    rw [q14, if_pos (nI_le (Nat.le_refl n) (by omega))]
theorem mk10 {n b N : Nat} (h1 : 1 ≤ n) (hn : n ≤ 8) (hb : b ≤ 1) (hN : N ≤ 32) (S : PS) (h14 : S.1 14 = nI n) (h22 : S.1 22 = nI N) : ∃ S2, L_X10_made_57 (nI (2 + b)) FU 0 S = some S2 ∧ SX [] [21] [] S S2 ∧ ∀ j, j < N → S2.2.1 21 j = nI (sdN b j n) := by
  unfold L_X10_made_57
  refine loopF_inv (fun i x => x.1 = nI i ∧ SX [] [21] [] S x.2 ∧ ∀ j, j < i → x.2.2.1 21 j = nI (sdN b j n)) _ N ?_ ?_ N 0 (0, S) FU (by omega) (FU_lt (by omega)) ⟨rfl, SX.rf, fun j hj => by omega⟩
  · rintro i hi ⟨v, U⟩ ⟨k1, k2, k3⟩
    dsimp only at k1 k2 k3
    subst k1
    left
    have q14 : U.1 14 = nI n := (k2.1 14 (by decide)).trans h14
    have q22 : U.1 22 = nI N := (k2.1 22 (by decide)).trans h22
    obtain ⟨S2, m1, m2, m3, m4⟩ := in10 (s := i) h1 hn hb (by omega) (sA U 21 (upd (U.2.1 21) i 0)) q14 pk_us
    refine ⟨(nI (i + 1), S2), ?_, rfl, (k2.sA _ (by decide)).tr m2, fun j hj => ?_⟩
    · unfold B_X10_made_57
      dsimp only
      rw [q22, if_neg (nI_ge hi (by omega)), wA_nI (by omega) (by decide)]
      simp only [b1_some]
      rw [m1]
      simp only [b1_some, bn, nI_1]
    · show S2.2.1 21 j = _
      by_cases q : j = i
      · subst q; exact m3
      · rw [m4 j q]
        show upd (U.2.1 21) i 0 j = _
        rw [pk_un q]; exact k3 j (by omega)
  · rintro ⟨v, U⟩ ⟨k1, k2, k3⟩
    dsimp only at k1 k2 k3
    subst k1
    have q22 : U.1 22 = nI N := (k2.1 22 (by decide)).trans h22
    refine ⟨U, ?_, k2, k3⟩
    unfold B_X10_made_57
    dsimp only
    rw [q22, if_pos (nI_le (Nat.le_refl N) (by omega))]
theorem lg10 {n : Nat} (h1 : 1 ≤ n) (hn : n ≤ 8) {S : PS} (h14 : S.1 14 = nI n) : L_X10_made_19 S FU 0 = some (nI (lgN n)) := by
  obtain ⟨l1, l2, l3⟩ := lg_ok n (by omega) h1
  have p1 : 2 ^ (lgN n) ≤ 2 ^ 4 := Nat.pow_le_pow_right (by decide) l2
  unfold L_X10_made_19
  refine loopF_seq0 (fun i => nI i) (lgN n) _ rfl ?_ ?_ (FU_lt (by omega))
  · intro i hi
    unfold B_X10_made_19
    have := l3 i hi
    rw [h14, shl1 (by omega), if_neg (nI_nlt this (by omega))]
    simp only [bn, nI_1]
  · unfold B_X10_made_19
    rw [h14, shl1 (by omega), if_pos (nI_lt l1 (by omega))]
theorem g_made {V Hp M : PS} (hR : RWeb V Hp M) (p1 : Int32) : ∃ (r : Int32) (Hp' M' : PS), f_X9_made V Hp p1 = some (r, Hp') ∧ f_X10_made M p1 = some (r, M') ∧ RWeb V Hp' M' ∧ SXw M M' := by
  obtain ⟨n, e, c, h, ea, eb, ew, ce, hr, hW⟩ := id hR
  obtain ⟨w1, w2, w3, w4, w5, w6, w7, w8, w9, w10, w11, w12, w13, wE, wC, wH⟩ := id hW
  obtain ⟨l1, l2, l3⟩ := lg_ok n (by omega) w1
  have key : ∀ b : Nat, b ≤ 1 → ∃ (r : Int32) (Hp' M' : PS), f_X9_made V Hp (nI (2 + b)) = some (r, Hp') ∧ f_X10_made M (nI (2 + b)) = some (r, M') ∧ RWeb V Hp' M' ∧ SXw M M' := by
    intro b hb
    have p2 : 2 ^ (lgN n + b) ≤ 2 ^ 5 := Nat.pow_le_pow_right (by decide) (by omega)
    obtain ⟨S2, m1, m2, m3⟩ := mk8 w1 w2 hb Hp
    obtain ⟨M2, k1, k2, k3⟩ := mk10 (N := 2 ^ (lgN n + b)) w1 w2 hb (by omega) (sI M 22 (nI (2 ^ (lgN n + b)))) w7 rfl
    have e9 : f_X9_made V Hp (nI (2 + b)) = some (nI (2 ^ (lgN n + b)), S2) := by
      unfold f_X9_made
      rw [w6]
      by_cases h0 : b = 0
      · subst h0
        rw [if_pos (show nI (2 + 0) = (2 : Int32) from rfl), if_neg (by decide)]
        simp only [b1_some]
        rw [show (0 : Int32) = nI 0 from rfl, m1]
        simp only [b1_some, m2]
      · have : b = 1 := by omega
        subst this
        rw [if_neg (by decide), if_pos (show nI (2 + 1) = (3 : Int32) from rfl), if_pos (show nI (2 + 1) = (3 : Int32) from rfl)]
        simp only [b1_some]
        rw [show (1 : Int32) = nI 1 from rfl, m1]
        simp only [b1_some, m2]
    have e10 : f_X10_made M (nI (2 + b)) = some (nI (2 ^ (lgN n + b)), M2) := by
      unfold f_X10_made
      rw [in_32 (nI (2 + b)) 2 3 2 3 rfl rfl, nI_toInt (by omega), if_pos (by omega), lg10 w1 w2 w7]
      simp only [b1_some]
      rw [if_neg one_ne0]
      have e1 : (if nI (2 + b) = 3 then some 1 else some 0) = some (nI b) := by
        by_cases h0 : b = 0
        · subst h0; rw [if_neg (by decide)]; rfl
        · have : b = 1 := by omega
          subst this
          rw [if_pos (show nI (2 + 1) = (3 : Int32) from rfl)]; rfl
      rw [e1]
      simp only [b1_some, bn, nI_add]
      rw [shl1 (by omega), k1]
      simp only [b1_some]
      rw [k2.1 22 (by decide)]
      rfl
    refine ⟨_, S2, M2, e9, e10, ⟨n, e, c, 2 ^ (lgN n + b), ea, eb, ew, ce, fun j => sdN b j n, w1, w2, w3, w4, by omega, w6, (k2.1 14 (by decide)).trans w7, w8, (k2.1 18 (by decide)).trans w9, w10, (k2.1 20 (by decide)).trans w11, m2, k2.1 22 (by decide), fun k hk => ?_, fun k hk => ?_, fun k hk => ⟨m3 k hk, k3 k hk, sd_lt b k n⟩⟩, ?_⟩
    · rw [k2.2.1 15 (by decide), k2.2.1 16 (by decide), k2.2.1 17 (by decide)]; exact wE k hk
    · rw [k2.2.1 19 (by decide)]; exact wC k hk
    · exact (SX.rf.sI _ (by decide)).tr (k2.mono (by decide) (by decide) (by decide))
  by_cases g2 : p1 = 2
  · subst g2; exact key 0 (by decide)
  · by_cases g3 : p1 = 3
    · subst g3; exact key 1 (by decide)
    · refine ⟨-3, Hp, M, ?_, ?_, hR, SX.rf⟩
      · unfold f_X9_made
        rw [if_neg g2, if_neg g3]
      · unfold f_X10_made
        rw [in_32 p1 2 3 2 3 rfl rfl, if_neg]
        · rfl
        · rintro ⟨z1, z2⟩
          rw [i_eq] at g2 g3
          have e2 : (2 : Int32).toInt = 2 := rfl
          have e3 : (3 : Int32).toInt = 3 := rfl
          omega
