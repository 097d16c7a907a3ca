/-! degree and same -/
def mxN (f : Nat → Nat) : Nat → Nat
  | 0 => 0
  | n + 1 => max (mxN f n) (f n)
theorem mxN_le {f : Nat → Nat} {B : Nat} : ∀ {n}, (∀ k, k < n → f k ≤ B) → mxN f n ≤ B
  | 0, _ => Nat.zero_le _
  | n + 1, h => Nat.max_le.mpr ⟨mxN_le (fun k hk => h k (by omega)), h n (by omega)⟩
theorem le_mxN (f : Nat → Nat) : ∀ {n k}, k < n → f k ≤ mxN f n
  | 0, k, h => by omega
  | n + 1, k, h => by
    by_cases e : k = n
    · subst e; exact Nat.le_max_right _ _
    · exact Nat.le_trans (le_mxN f (by omega)) (Nat.le_max_left _ _)
def dgp (p : Nat) : Nat := p / 16 + p / 4 % 4 + p % 4
theorem dgp_pl {x y z : Nat} (hy : y < 4) (hz : z < 4) : dgp (16 * x + 4 * y + z) = x + y + z := by
  unfold dgp; omega
theorem cf_bound {w : Nat → Int} {pl : Nat → Nat} {t p : Nat} (ht : t ≤ 6) (h : ∀ k, k < t → -9 ≤ w k ∧ w k ≤ 9) : -54 ≤ cf w pl t p ∧ cf w pl t p ≤ 54 := by
  have := fb_si_bound (f := fun k => if pl k = p then w k else 0) (c := 9) (n := t) (by decide) (fun k hk => by
    by_cases e : pl k = p
    · simp only [if_pos e]; exact h k hk
    · simp only [if_neg e]; omega)
  unfold cf
  omega
theorem oI_0 {z : Int} (h1 : -2147483648 ≤ z) (h2 : z < 2147483648) : oI z = 0 ↔ z = 0 := by
  constructor
  · intro h
    have := congrArg Int64.toInt h
    unfold oI at this
    rw [Int64.toInt_ofInt_of_le (by omega) (by omega)] at this
    exact this
  · intro h; rw [h]; rfl
theorem zI_0 {z : Int} (h1 : -2147483648 ≤ z) (h2 : z < 2147483648) : zI z = 0 ↔ z = 0 := by
  constructor
  · intro h
    have := congrArg Int32.toInt h
    rw [zI_toInt h1 h2] at this
    exact this
  · intro h; rw [h]; rfl
theorem deg9 {j : Nat} {F M : PS} {t w x y z} (h : SM j F M t w x y z) : f_X5_greatestPower F = some (nI (mxN (fun p => if cf w (plc x y z) t p = 0 then 0 else dgp p) 64)) := by
  obtain ⟨a1, a2, a3, a4, a5, a6⟩ := h
  obtain ⟨f, hf⟩ : ∃ f : Nat → Nat, f = fun p => if cf w (plc x y z) t p = 0 then 0 else dgp p := ⟨_, rfl⟩
  rw [← hf]
  have fb : ∀ p, p < 64 → f p ≤ 9 := by
    intro p hp
    rw [hf]
    dsimp only
    split
    · omega
    · unfold dgp; omega
  have mb : ∀ i, i ≤ 64 → mxN f i ≤ 9 := fun i hi => mxN_le (fun k hk => fb k (by omega))
  have key : L_X5_greatestPower_4 F FU 0 0 = some (nI (mxN f 64)) := by
    unfold L_X5_greatestPower_4
    refine loopF_seq0 (fun i => (nI (mxN f i), nI i)) 64 _ rfl (fun i hi => ?_) ?_ (FU_lt (by decide))
    · unfold B_X5_greatestPower_4
      dsimp only
      have bd := cf_bound (pl := plc x y z) (p := i) a1 (fun k hk => ⟨(a5 k hk).1, (a5 k hk).2.1⟩)
      rw [if_neg (show ¬ (64 : Int32) ≤ nI i from nI_ge hi (by decide)), rdL_nI hi (by decide), a6 i hi, show Int64.ofInt (cf w (plc x y z) t i) = oI (cf w (plc x y z) t i) from rfl]
      simp only [b1_some]
      by_cases e : cf w (plc x y z) t i = 0
      · rw [if_pos ((cmp_eq _ _).mpr ((oI_0 (by omega) (by omega)).mpr e))]
        simp only [b1_some, bn, nI_1]
        have : mxN f (i + 1) = mxN f i := by
          show max _ (f i) = _
          have : f i = 0 := by rw [hf]; exact if_pos e
          omega
        rw [this]
      · rw [if_neg (fun k => e ((oI_0 (by omega) (by omega)).mp ((cmp_eq _ _).mp k)))]
        have e1 : (nI i >>> ((4 : Int32) &&& 31)) + ((nI i >>> ((2 : Int32) &&& 31)) &&& 3) + (nI i &&& 3) = nI (dgp i) := by
          rw [pk_shrN (by omega) _ 4 (by decide), pk_shrN (by omega) _ 2 (by decide), pk_andN (m := 3) (by omega) 2 rfl, pk_andN (m := 3) (by omega) 2 rfl, nI_add, nI_add]
          rfl
        rw [e1]
        simp only [bn, b1_some, nI_1]
        have f1 : f i = dgp i := by rw [hf]; exact if_neg e
        have f2 := fb i hi
        have f3 := mb i (by omega)
        have : mxN f (i + 1) = max (mxN f i) (dgp i) := by rw [← f1]; rfl
        rw [this]
        by_cases g : mxN f i < dgp i
        · rw [if_pos (nI_lt g (by omega)), Nat.max_eq_right (by omega)]
        · rw [if_neg (nI_nlt (by omega) (by omega)), Nat.max_eq_left (by omega)]
    · rfl
  unfold f_X5_greatestPower
  rw [key]; rfl
theorem tot10 {j : Nat} {F M : PS} {t w x y z} (hj : j ≤ 1) (h : SM j F M t w x y z) {i : Nat} (hi : i < t) : L_X10_degree_41 M (nI j) (nI (6 * j + i)) FU 0 (nI (6 * j)) = some (zI (cf w (plc x y z) t (plc x y z i))) := by
  obtain ⟨a1, a2, a3, a4, a5, a6⟩ := h
  unfold L_X10_degree_41
  refine loopF_seq0 (fun k => (zI (cf w (plc x y z) k (plc x y z i)), nI (6 * j + k))) t _ rfl (fun k hk => ?_) ?_ (FU_lt (by omega))
  · obtain ⟨b1', b2', b3', b4'⟩ := a4 k hk
    obtain ⟨c1', c2', c3', c4'⟩ := a4 i hi
    obtain ⟨-, -, d1, d2, d3⟩ := a5 k hk
    obtain ⟨-, -, e1, e2, e3⟩ := a5 i hi
    unfold B_X10_degree_41
    dsimp only
    rw [rdI_nI (show j < 2 by omega) (by decide), a3]
    simp only [b1_some]
    rw [show (6 : Int32) = nI 6 from rfl, pk_mul, nI_add, if_neg (nI_ge (by omega) (by omega))]
    simp only [rdI_nI (show 6 * j + k < 12 by omega) (show 12 < 2 ^ 31 by decide), rdI_nI (show 6 * j + i < 12 by omega) (show 12 < 2 ^ 31 by decide), b1_some, b1', b2', b3', b4', c2', c3', c4', nI_eq (show x k < 2 ^ 31 by omega) (show x i < 2 ^ 31 by omega), nI_eq (show y k < 2 ^ 31 by omega) (show y i < 2 ^ 31 by omega), nI_eq (show z k < 2 ^ 31 by omega) (show z i < 2 ^ 31 by omega)]
    have e : (if x k = x i then if y k = y i then if z k = z i then some (zI (w k)) else some 0 else some 0 else some 0) = some (zI (if plc x y z k = plc x y z i then w k else 0)) := by
      unfold plc
      by_cases g1 : x k = x i
      · rw [if_pos g1]
        by_cases g2 : y k = y i
        · rw [if_pos g2]
          by_cases g3 : z k = z i
          · rw [if_pos g3, if_pos (by rw [g1, g2, g3])]
          · rw [if_neg g3, if_neg (by omega)]; rfl
        · rw [if_neg g2, if_neg (by omega)]; rfl
      · rw [if_neg g1, if_neg (by omega)]; rfl
    rw [e]
    simp only [b1_some, bn, nI_1, zI_add]
    rfl
  · unfold B_X10_degree_41
    dsimp only
    rw [rdI_nI (show j < 2 by omega) (by decide), a3]
    simp only [b1_some]
    rw [show (6 : Int32) = nI 6 from rfl, pk_mul, nI_add, if_pos (nI_le (by omega) (by omega))]
theorem deg10 {j : Nat} {F M : PS} {t w x y z} (hj : j ≤ 1) (h : SM j F M t w x y z) : L_X10_degree_17 M (nI j) FU 0 (nI (6 * j)) = some (nI (mxN (fun i => if cf w (plc x y z) t (plc x y z i) = 0 then 0 else x i + y i + z i) t)) := by
  have hS := h
  obtain ⟨a1, a2, a3, a4, a5, a6⟩ := h
  obtain ⟨f, hf⟩ : ∃ f : Nat → Nat, f = fun i => if cf w (plc x y z) t (plc x y z i) = 0 then 0 else x i + y i + z i := ⟨_, rfl⟩
  rw [← hf]
  have fb : ∀ p, p < t → f p ≤ 9 := by
    intro p hp
    obtain ⟨-, -, e1, e2, e3⟩ := a5 p hp
    rw [hf]
    dsimp only
    split
    · omega
    · omega
  have mb : ∀ i, i ≤ t → mxN f i ≤ 9 := fun i hi => mxN_le (fun k hk => fb k (by omega))
  unfold L_X10_degree_17
  refine loopF_seq0 (fun i => (nI (mxN f i), nI (6 * j + i))) t _ rfl (fun i hi => ?_) ?_ (FU_lt (by omega))
  · obtain ⟨b1', b2', b3', b4'⟩ := a4 i hi
    obtain ⟨-, -, e1, e2, e3⟩ := a5 i hi
    have bd := cf_bound (pl := plc x y z) (p := plc x y z i) a1 (fun k hk => ⟨(a5 k hk).1, (a5 k hk).2.1⟩)
    unfold B_X10_degree_17
    dsimp only
    rw [rdI_nI (show j < 2 by omega) (by decide), a3]
    simp only [b1_some, bn]
    rw [show (6 : Int32) = nI 6 from rfl, pk_mul, nI_add, if_neg (nI_ge (by omega) (by omega)), tot10 hj hS hi]
    simp only [rdI_nI (show 6 * j + i < 12 by omega) (show 12 < 2 ^ 31 by decide), b1_some, b2', b3', b4', nI_add, nI_1]
    have f2 := fb i hi
    have f3 := mb i (by omega)
    by_cases e : cf w (plc x y z) t (plc x y z i) = 0
    · rw [if_pos ((zI_0 (by omega) (by omega)).mpr e)]
      have : mxN f (i + 1) = mxN f i := by
        show max _ (f i) = _
        have : f i = 0 := by rw [hf]; exact if_pos e
        omega
      rw [this]; rfl
    · rw [if_neg (fun k => e ((zI_0 (by omega) (by omega)).mp k))]
      have f1 : f i = x i + y i + z i := by rw [hf]; exact if_neg e
      have : mxN f (i + 1) = max (mxN f i) (x i + y i + z i) := by rw [← f1]; rfl
      rw [this]
      by_cases g : x i + y i + z i ≤ mxN f i
      · rw [if_pos (nI_le g (by omega)), Nat.max_eq_left g]; rfl
      · rw [if_neg (nI_ge (by omega) (by omega)), Nat.max_eq_right (by omega)]; rfl
  · unfold B_X10_degree_17
    dsimp only
    rw [rdI_nI (show j < 2 by omega) (by decide), a3]
    simp only [b1_some]
    rw [show (6 : Int32) = nI 6 from rfl, pk_mul, nI_add, if_pos (nI_le (by omega) (by omega))]
theorem deg_eq {w : Nat → Int} {x y z : Nat → Nat} {t : Nat} (h : ∀ k, k < t → x k < 4 ∧ y k < 4 ∧ z k < 4) : mxN (fun p => if cf w (plc x y z) t p = 0 then 0 else dgp p) 64 = mxN (fun i => if cf w (plc x y z) t (plc x y z i) = 0 then 0 else x i + y i + z i) t := by
  apply Nat.le_antisymm
  · refine mxN_le (fun p hp => ?_)
    by_cases e : cf w (plc x y z) t p = 0
    · simp only [if_pos e]; omega
    · simp only [if_neg e]
      have : ∃ k, k < t ∧ plc x y z k = p := by
        by_cases g : ∃ k, k < t ∧ plc x y z k = p
        · exact g
        · exfalso
          apply e
          unfold cf
          rw [fb_si_cong (g := fun _ => (0 : Int) * 0) (fun k hk => by rw [if_neg (fun q => g ⟨k, hk, q⟩)]; rfl), fb_si_mul]
          omega
      obtain ⟨k, hk, rfl⟩ := this
      obtain ⟨h1, h2, h3⟩ := h k hk
      have := le_mxN (fun i => if cf w (plc x y z) t (plc x y z i) = 0 then 0 else x i + y i + z i) hk
      rw [if_neg e] at this
      unfold plc at this ⊢
      rw [dgp_pl h2 h3]
      exact this
  · refine mxN_le (fun k hk => ?_)
    obtain ⟨h1, h2, h3⟩ := h k hk
    have := le_mxN (fun p => if cf w (plc x y z) t p = 0 then 0 else dgp p) (n := 64) (k := plc x y z k) (by unfold plc; omega)
    by_cases e : cf w (plc x y z) t (plc x y z k) = 0
    · simp only [if_pos e]; omega
    · simp only [if_neg e] at this ⊢
      rw [show dgp (plc x y z k) = x k + y k + z k from dgp_pl h2 h3] at this
      exact this
theorem g_degree {F1 F2 M : PS} (h1 : RSum 0 F1 M) (h2 : RSum 1 F2 M) (p1 : Int32) : ∃ (r : Int32), f_X9_degree F1 F2 p1 = some r ∧ f_X10_degree M p1 = some r := by
  unfold f_X9_degree f_X10_degree
  rw [choice_ok, isSum_ok]
  simp only [b1_some]
  by_cases c1 : 0 ≤ p1.toInt ∧ p1.toInt ≤ 1
  · rw [if_pos c1, if_neg one_ne0, if_neg one_ne0]
    obtain ⟨j, hj, rfl⟩ := nI_four (N := 2) (x := p1) (by omega)
    have hj2 : j = 0 ∨ j = 1 := by omega
    simp only [bn]
    rw [show (6 : Int32) = nI 6 from rfl, pk_mul]
    rcases hj2 with rfl | rfl
    · obtain ⟨t, w, x, y, z, hS⟩ := h1
      rw [if_pos (show nI 0 = 0 from rfl), deg9 hS, deg10 (by decide) hS, deg_eq (fun k hk => (hS.2.2.2.2.1 k hk).2.2)]
      exact ⟨_, rfl, rfl⟩
    · obtain ⟨t, w, x, y, z, hS⟩ := h2
      rw [if_neg (show ¬ nI 1 = 0 from one_ne0), deg9 hS, deg10 (by decide) hS, deg_eq (fun k hk => (hS.2.2.2.2.1 k hk).2.2)]
      exact ⟨_, rfl, rfl⟩
  · rw [if_neg c1, if_pos rfl, if_pos rfl]
    exact ⟨_, rfl, rfl⟩
