/-! pure base: loops, numbers -/
theorem loopF_inv {σ ρ : Type} {B : σ → Option (σ ⊕ ρ)} (I : Nat → σ → Prop) (R : ρ → Prop) (N : Nat)
    (hs : ∀ i, i < N → ∀ s, I i s → (∃ s2, B s = some (.inl s2) ∧ I (i + 1) s2) ∨ ∃ r, B s = some (.inr r) ∧ R r)
    (hx : ∀ s, I N s → ∃ r, B s = some (.inr r) ∧ R r) : ∀ (k i : Nat) (s : σ) (n : Nat), i + k = N → k < n → I i s → ∃ r, loopF B n s = some r ∧ R r := by
  intro k
  induction k with
  | zero =>
    intro i s n hi hn h
    obtain ⟨n, rfl⟩ : ∃ m, n = m + 1 := ⟨n - 1, by omega⟩
    obtain rfl : i = N := by omega
    obtain ⟨r, h1, h2⟩ := hx s h
    exact ⟨r, loopF_out h1, h2⟩
  | succ k ih =>
    intro i s n hi hn h
    obtain ⟨n, rfl⟩ : ∃ m, n = m + 1 := ⟨n - 1, by omega⟩
    rcases hs i (by omega) s h with ⟨s2, h1, h2⟩ | ⟨r, h1, h2⟩
    · obtain ⟨r, h3, h4⟩ := ih (i + 1) s2 n (by omega) (by omega) h2
      exact ⟨r, by rw [loopF_in h1]; exact h3, h4⟩
    · exact ⟨r, loopF_out h1, h2⟩
/-- a loop whose states are a sequence -/
theorem loopF_seq {σ ρ : Type} {B : σ → Option (σ ⊕ ρ)} (st : Nat → σ) (N : Nat) (r : ρ) (hs : ∀ i, i < N → B (st i) = some (.inl (st (i + 1)))) (hx : B (st N) = some (.inr r)) {n : Nat} (hn : N < n) : loopF B n (st 0) = some r := by
  obtain ⟨q, h1, h2⟩ := loopF_inv (B := B) (fun i s => s = st i) (fun q => q = r) N (fun i hi s h => Or.inl ⟨st (i + 1), by rw [h]; exact hs i hi, rfl⟩) (fun s h => ⟨r, by rw [h]; exact hx, rfl⟩) N 0 (st 0) n (by omega) hn rfl
  rw [h1, h2]
theorem FU_lt {k : Nat} (h : k < 100000) : k < FU := h
theorem rdI_nI {N i : Nat} {f : Nat → Int32} (h : i < N) (hN : N < 2 ^ 31) : rdI N f (nI i) = some (f i) := by
  unfold rdI
  rw [if_neg (nI_in h hN), nI_clamp (by omega)]
theorem rdL_nI {N i : Nat} {f : Nat → Int64} (h : i < N) (hN : N < 2 ^ 31) : rdL N f (nI i) = some (f i) := by
  unfold rdL
  rw [if_neg (nI_in h hN), nI_clamp (by omega)]
theorem wrI_nI {N i : Nat} {f : Nat → Int32} {x : Int32} (h : i < N) (hN : N < 2 ^ 31) : wrI N f (nI i) x = some (upd f i x) := by
  unfold wrI
  rw [if_neg (nI_in h hN), nI_clamp (by omega)]
theorem wrL_nI {N i : Nat} {f : Nat → Int64} {x : Int64} (h : i < N) (hN : N < 2 ^ 31) : wrL N f (nI i) x = some (vp_updL f i x) := by
  unfold wrL
  rw [if_neg (nI_in h hN), nI_clamp (by omega)]
theorem wA_nI {N i k : Nat} {S : PS} {x : Int32} (h : i < N) (hN : N < 2 ^ 31) : wA N S k (nI i) x = some (sA S k (upd (S.2.1 k) i x)) := by
  unfold wA
  rw [if_neg (nI_in h hN), nI_clamp (by omega)]
theorem wL_nI {N i k : Nat} {S : PS} {x : Int64} (h : i < N) (hN : N < 2 ^ 31) : wL N S k (nI i) x = some (sL S k (vp_updL (S.2.2 k) i x)) := by
  unfold wL
  rw [if_neg (nI_in h hN), nI_clamp (by omega)]
theorem sI_1 (S : PS) (k : Nat) (v : Int32) (j : Nat) : (sI S k v).1 j = if j = k then v else S.1 j := rfl
theorem sI_2 (S : PS) (k : Nat) (v : Int32) : (sI S k v).2 = S.2 := rfl
theorem sA_1 (S : PS) (k : Nat) (f : Nat → Int32) : (sA S k f).1 = S.1 := rfl
theorem sA_2 (S : PS) (k : Nat) (f : Nat → Int32) (j : Nat) : (sA S k f).2.1 j = if j = k then f else S.2.1 j := rfl
theorem sA_3 (S : PS) (k : Nat) (f : Nat → Int32) : (sA S k f).2.2 = S.2.2 := rfl
theorem sL_1 (S : PS) (k : Nat) (f : Nat → Int64) : (sL S k f).1 = S.1 := rfl
theorem sL_2 (S : PS) (k : Nat) (f : Nat → Int64) : (sL S k f).2.1 = S.2.1 := rfl
theorem sL_3 (S : PS) (k : Nat) (f : Nat → Int64) (j : Nat) : (sL S k f).2.2 j = if j = k then f else S.2.2 j := rfl
theorem ck_b (c : Prop) [Decidable c] : ckB (if c then 1 else 0) = some (if c then 1 else 0) := by
  by_cases h : c
  · rw [if_pos h]; rfl
  · rw [if_neg h]; rfl
theorem ck_0 : ckB 0 = some 0 := rfl
theorem ck_1 : ckB 1 = some 1 := rfl
theorem cmp_lt (x y : Int64) : lg_cmp x y < 0 ↔ x < y := by
  unfold lg_cmp
  by_cases h1 : y < x
  · rw [if_pos h1]
    constructor
    · intro h; exact absurd h (by decide)
    · intro h; rw [Int64.lt_iff_toInt_lt] at h h1; omega
  · rw [if_neg h1]
    by_cases h2 : x = y
    · rw [if_pos h2]
      constructor
      · intro h; exact absurd h (by decide)
      · intro h; rw [h2] at h; rw [Int64.lt_iff_toInt_lt] at h; omega
    · rw [if_neg h2]
      constructor
      · intro _
        rw [Int64.lt_iff_toInt_lt] at h1 ⊢
        rw [← Int64.toInt_inj] at h2
        omega
      · intro _; decide
theorem cmp_gt (x y : Int64) : 0 < lg_cmp x y ↔ y < x := by
  unfold lg_cmp
  by_cases h1 : y < x
  · rw [if_pos h1]; exact ⟨fun _ => h1, fun _ => by decide⟩
  · rw [if_neg h1]
    by_cases h2 : x = y
    · rw [if_pos h2]; exact ⟨fun h => absurd h (by decide), fun h => absurd h h1⟩
    · rw [if_neg h2]; exact ⟨fun h => absurd h (by decide), fun h => absurd h h1⟩
theorem cmp_eq (x y : Int64) : lg_cmp x y = 0 ↔ x = y := by
  unfold lg_cmp
  by_cases h1 : y < x
  · rw [if_pos h1]
    refine ⟨fun h => absurd h (by decide), fun h => ?_⟩
    rw [h, Int64.lt_iff_toInt_lt] at h1; omega
  · rw [if_neg h1]
    by_cases h2 : x = y
    · rw [if_pos h2]; exact ⟨fun _ => h2, fun _ => rfl⟩
    · rw [if_neg h2]; exact ⟨fun h => absurd h (by decide), fun h => absurd h h2⟩
theorem in_64 (v lo hi : Int64) : f_X10_in v lo hi = some (if lo.toInt ≤ v.toInt ∧ v.toInt ≤ hi.toInt then 1 else 0) := by
  unfold f_X10_in
  by_cases h1 : v < lo
  · have c : ¬ (lo.toInt ≤ v.toInt ∧ v.toInt ≤ hi.toInt) := by rw [Int64.lt_iff_toInt_lt] at h1; omega
    rw [if_pos ((cmp_lt v lo).mpr h1), if_neg c]; rfl
  · rw [if_neg (fun h => h1 ((cmp_lt v lo).mp h))]
    by_cases h2 : hi < v
    · have c : ¬ (lo.toInt ≤ v.toInt ∧ v.toInt ≤ hi.toInt) := by rw [Int64.lt_iff_toInt_lt] at h2; omega
      rw [if_pos ((cmp_gt v hi).mpr h2), if_neg c]; rfl
    · have c : lo.toInt ≤ v.toInt ∧ v.toInt ≤ hi.toInt := by rw [Int64.lt_iff_toInt_lt] at h1 h2; omega
      rw [if_neg (fun h => h2 ((cmp_gt v hi).mp h)), if_pos c]; rfl
/-- in, of ints -/
theorem in_32 (v : Int32) (lo hi : Int64) (a b : Int) (ha : lo.toInt = a) (hb : hi.toInt = b) : f_X10_in v.toInt64 lo hi = some (if a ≤ v.toInt ∧ v.toInt ≤ b then 1 else 0) := by
  rw [in_64, ha, hb, Int32.toInt_toInt64]
theorem i_lt (a b : Int32) : a < b ↔ a.toInt < b.toInt := Int32.lt_iff_toInt_lt
theorem i_le (a b : Int32) : a ≤ b ↔ a.toInt ≤ b.toInt := Int32.le_iff_toInt_le
theorem i_eq (a b : Int32) : a = b ↔ a.toInt = b.toInt := Int32.toInt_inj.symm
theorem i_lit (n : Nat) : (OfNat.ofNat n : Int32) = nI n := rfl
theorem l_lit (n : Nat) : (OfNat.ofNat n : Int64) = lN n := rfl
theorem ofI {x : Int32} {n : Nat} (h : x.toInt = n) : x = nI n := by
  have h2 : (n : Int) < 2 ^ 31 := by
    have := Int32.toInt_lt x
    omega
  rw [i_eq, nI_toInt (by omega), h]
