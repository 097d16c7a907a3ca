/-! the least heap -/
def lsV (k t L x : Nat) : Prop := ∀ u, 0 < u → u < 2 ^ k → pop 32 u ≤ t → lsD x u ≤ L
theorem full_W {k t a b : Nat} (hk : k ≤ 4) : lsW k t a b (2 ^ 2 ^ k - 1) ∧ pop 32 (2 ^ 2 ^ k - 1) = 2 ^ k := by
  have l := k4 hk
  have p := Nat.two_pow_pos (2 ^ k)
  have hx : 2 ^ 2 ^ k - 1 < 2 ^ 2 ^ k := by omega
  have pf : pop 32 (2 ^ 2 ^ k - 1) = 2 ^ k := ls_ones (2 ^ k) 32 (by omega)
  refine ⟨fun u h0 hu _ => ?_, pf⟩
  have hh := half_od k (by omega) u hu h0
  have o : lsO (2 ^ 2 ^ k - 1) u = fb_sm (fun r => odN u r) (2 ^ k) := by
    rw [lsO_cut l.1 hx]
    refine fb_sm_cong (fun r hr => ?_)
    have := mask_bit (a := 0) (m := 2 ^ k) (b := r)
    rw [Nat.pow_zero, Nat.mul_one, if_pos (by omega)] at this
    rw [this, Nat.one_mul]
  have d : lsD (2 ^ 2 ^ k - 1) u = 0 := by
    unfold lsD
    rw [pf, o]
    omega
  rw [d, Nat.zero_mul]
  exact Nat.zero_le _
theorem nI_m1ne {y : Nat} (h : y < 2 ^ 31) : ¬ nI y = -1 := by
  intro e
  rw [i_eq, nI_toInt h] at e
  have : (-1 : Int32).toInt = -1 := rfl
  omega
theorem los4 {Sm : PS} (hS : RSm Sm) {k t s L : Nat} (hk : k ≤ 4) (ht : t ≤ 4) (hs0 : 1 ≤ s) (hs : s < 2 ^ k) (hL : L ≤ 2000) : ∃ r, f_X4_leastOfSize Sm (nI k) (nI t) (nI s) (nI L) = some r ∧ ((r = -1 ∧ ∀ x, x < 2 ^ 2 ^ k → pop 32 x = s → ¬ lsV k t L x) ∨ ∃ y, y < 2 ^ 2 ^ k ∧ pop 32 y = s ∧ lsV k t L y ∧ (∀ x, x < y → pop 32 x = s → ¬ lsV k t L x) ∧ r = nI y) := by
  have l := k4 hk
  have s2 : 2 ^ 1 ≤ 2 ^ s := Nat.pow_le_pow_right (by decide) hs0
  have s3 : 2 ^ s ≤ 2 ^ 16 := Nat.pow_le_pow_right (by decide) (by omega)
  have key : ∃ r, L_X4_leastOfSize_15 Sm (nI t) (nI L) (nI (2 ^ k)) FU (nI (2 ^ s - 1)) 0 = some r ∧ ((r = -1 ∧ ∀ x, x < 2 ^ 2 ^ k → pop 32 x = s → ¬ lsV k t L x) ∨ ∃ y, y < 2 ^ 2 ^ k ∧ pop 32 y = s ∧ lsV k t L y ∧ (∀ x, x < y → pop 32 x = s → ¬ lsV k t L x) ∧ r = nI y) := by
    unfold L_X4_leastOfSize_15
    refine loopF_inv (fun j v => v.2 = nI j ∧ ∃ y, v.1 = nI y ∧ 0 < y ∧ y < 1048576 ∧ pop 32 y = s ∧ (∀ x, x < y → pop 32 x = s → ¬ lsV k t L x) ∧ j ≤ cSN s y) _ 12870 ?_ ?_ 12870 0 (nI (2 ^ s - 1), 0) FU (by omega) (FU_lt (by decide)) ⟨rfl, 2 ^ s - 1, rfl, by omega, by omega, ls_ones s 32 (by omega), fun x hx e => ?_, Nat.zero_le _⟩
    · rintro j hj ⟨v3, v4⟩ ⟨k1, y, k2, k3, k4, k5, k6, k7⟩
      dsimp only at k1 k2
      subst k1 k2
      unfold B_X4_leastOfSize_15
      dsimp only
      rw [if_neg (show ¬ (12870 : Int32) ≤ nI j from nI_ge (b := 12870) hj (by decide)), shl1 (by omega)]
      by_cases c : 2 ^ 2 ^ k ≤ y
      · right
        rw [if_pos (nI_le c (by omega))]
        exact ⟨-1, rfl, Or.inl ⟨rfl, fun x hx e => k6 x (by omega) e⟩⟩
      · rw [if_neg (nI_ge (by omega) (by omega))]
        obtain ⟨r, y1, y2, y3⟩ := lean4 hS (k := k) (t := t) (L := L) (x := y) hk ht hL (by omega)
        rw [y1, b1_some]
        rcases y2 with rfl | rfl
        · left
          obtain ⟨w, w1, w2, w3, w4, w5⟩ := ls_next k3 (by omega)
          rw [if_pos rfl, w1, b1_some, bn_rw, nI_1]
          have nv : ¬ lsV k t L y := fun z => absurd (y3.mpr z) (by decide)
          refine ⟨_, rfl, rfl, w, rfl, by omega, by omega, w4.trans k5, fun x hx e => ?_, ?_⟩
          · by_cases q1 : x < y
            · exact k6 x q1 e
            · by_cases q2 : x = y
              · rw [q2]; exact nv
              · exact absurd (e.trans k5.symm) (w5 x (by omega) hx)
          · have := cS_s k5 w2
            omega
        · right
          rw [if_neg one_ne0]
          exact ⟨_, rfl, Or.inr ⟨y, by omega, k5, y3.mp rfl, k6, rfl⟩⟩
    · rintro ⟨v3, v4⟩ ⟨k1, y, k2, k3, k4, k5, k6, k7⟩
      dsimp only at k1 k2
      subst k1 k2
      refine ⟨-1, ?_, Or.inl ⟨rfl, fun x hx e => k6 x ?_ e⟩⟩
      · unfold B_X4_leastOfSize_15
        dsimp only
        rw [if_pos (show (12870 : Int32) ≤ nI 12870 by decide)]
      · by_cases q : x < y
        · exact q
        · have := cS_lt (s := s) (y := y) (by omega) k5
          omega
    · have := ls_ge 32 x (by omega)
      rw [e] at this
      omega
  unfold f_X4_leastOfSize
  rw [shl1 (by omega), bn_rw, shl1 (by omega), bn_rw, nI_m1 (by omega)]
  exact key
/-- the best heap: the fewest rows, of several the least number -/
def BST (k t a b y : Nat) : Prop := 0 < y ∧ y < 2 ^ 2 ^ k ∧ lsW k t a b y ∧ ∀ x, 0 < x → x < 2 ^ 2 ^ k → lsW k t a b x → pop 32 y < pop 32 x ∨ (pop 32 y = pop 32 x ∧ y ≤ x)
theorem BST.one {k t a b x y : Nat} (h : BST k t a b x) (g : BST k t a b y) : x = y := by
  obtain ⟨a1, a2, a3, a4⟩ := h
  obtain ⟨b1, b2, b3, b4⟩ := g
  have p := a4 y b1 b2 b3
  have q := b4 x a1 a2 a3
  omega
theorem pop_k {k x : Nat} (hk : k ≤ 4) (hx : x < 2 ^ 2 ^ k) : pop 32 x ≤ 2 ^ k := by
  rw [pop_cut (k4 hk).1 hx]
  exact pop_le (2 ^ k) x
theorem WV {k t a b s : Nat} (hb0 : 1 ≤ b) {L : Nat} (hL : (L : Int) = ((a * s / b : Nat) : Int) - (((a * s / b + s) % 2 : Nat) : Int)) {x : Nat} (hx : pop 32 x = s) : lsW k t a b x ↔ lsV k t L x := by
  have e : ∀ u, lsD x u * b ≤ a * pop 32 x ↔ lsD x u ≤ L := fun u => by
    rw [hx, alw_iff hb0 (by rw [lsD_par, hx]), ← hL]
    omega
  constructor
  · intro h u h0 hu ht
    exact (e u).mp (h u h0 hu ht)
  · intro h u h0 hu ht
    exact (e u).mpr (h u h0 hu ht)
theorem lh4 {Sm : PS} (hS : RSm Sm) {k t a b : Nat} (hk0 : 1 ≤ k) (hk : k ≤ 4) (ht0 : 1 ≤ t) (ht : t ≤ 4) (ha : a ≤ 100) (hb0 : 1 ≤ b) (hb : b ≤ 100) : ∃ y, f_X4_leastHeap Sm (nI k) (nI t) (nI a) (nI b) = some (nI y) ∧ BST k t a b y := by
  have l := k4 hk
  have p := Nat.two_pow_pos (2 ^ k)
  have k2 : 2 ^ 1 ≤ 2 ^ k := Nat.pow_le_pow_right (by decide) hk0
  have pk2 : ∀ x, 0 < x → x < 2 ^ 2 ^ k → 0 < pop 32 x := fun x h0 hx => pop_pos 32 h0 (by omega)
  have key : ∃ r, L_X4_leastHeap_8 Sm (nI k) (nI t) (nI a) (nI b) (nI (2 ^ k)) FU 1 = some r ∧ ∃ y, r = nI y ∧ BST k t a b y := by
    unfold L_X4_leastHeap_8
    refine loopF_inv (fun j v => v = nI (j + 1) ∧ ∀ x, 0 < x → x < 2 ^ 2 ^ k → pop 32 x < j + 1 → ¬ lsW k t a b x) _ (2 ^ k - 1) ?_ ?_ (2 ^ k - 1) 0 1 FU (by omega) (FU_lt (by omega)) ⟨rfl, fun x h0 hx e => by have := pk2 x h0 hx; omega⟩
    · rintro j hj v ⟨k1, kk⟩
      subst k1
      have m2 : a * (j + 1) ≤ 100 * 16 := Nat.mul_le_mul ha (by omega)
      have q1 : a * (j + 1) / b ≤ a * (j + 1) := Nat.div_le_self _ _
      -- none of this size: go on
      have go : ∀ (o : Option Int32), o = some (-1) → (∀ x, x < 2 ^ 2 ^ k → pop 32 x = j + 1 → ¬ lsW k t a b x) → ∃ s2, (b1 o fun v6 => if v6 = -1 then (bn (nI (j + 1) + 1) fun v10 => some (Sum.inl v10)) else some (Sum.inr v6)) = some (Sum.inl (β := Int32) s2) ∧ s2 = nI (j + 1 + 1) ∧ ∀ x, 0 < x → x < 2 ^ 2 ^ k → pop 32 x < j + 1 + 1 → ¬ lsW k t a b x := by
        intro o ho hn
        rw [ho, b1_some, if_pos rfl, bn_rw, nI_1]
        refine ⟨_, rfl, rfl, fun x h0 hx e => ?_⟩
        by_cases c : pop 32 x = j + 1
        · exact hn x hx c
        · exact kk x h0 hx (by omega)
      unfold B_X4_leastHeap_8
      rw [if_neg (nI_ge (by omega) (by omega)), alw4 (by omega) ha hb0 hb, b1_some]
      by_cases c : ((a * (j + 1) / b : Nat) : Int) - (((a * (j + 1) / b + (j + 1)) % 2 : Nat) : Int) < 0
      · left
        have e : f_X4_mayLeanSoLittle (nI k) (nI t) (nI (j + 1)) (zI (((a * (j + 1) / b : Nat) : Int) - (((a * (j + 1) / b + (j + 1)) % 2 : Nat) : Int))) = some 0 := by
          clear go
          generalize a * (j + 1) / b = q at c q1 ⊢
          unfold f_X4_mayLeanSoLittle
          rw [if_neg (by rw [geL _ 0 0 rfl, zI_toInt (by omega) (by omega)]; omega)]
        rw [e, b1_some, if_pos rfl]
        refine go _ rfl (fun x hx e => ?_)
        intro w
        have w1 := w 1 (by omega) (by omega) (by rw [show pop 32 1 = 1 from rfl]; exact ht0)
        rw [e, alw_iff hb0 (by rw [lsD_par, e])] at w1
        omega
      · obtain ⟨L, hL⟩ : ∃ L : Nat, (L : Int) = ((a * (j + 1) / b : Nat) : Int) - (((a * (j + 1) / b + (j + 1)) % 2 : Nat) : Int) := ⟨(((a * (j + 1) / b : Nat) : Int) - (((a * (j + 1) / b + (j + 1)) % 2 : Nat) : Int)).toNat, by omega⟩
        have L2 : L ≤ 2000 := by omega
        have eq : ∀ x, pop 32 x = j + 1 → (lsW k t a b x ↔ lsV k t L x) := fun x hx => WV hb0 hL hx
        rw [← hL, zI_nat, may4 hk ht (by omega) L2, b1_some]
        by_cases d : (j + 1) * (2 ^ k - (j + 1)) ≤ fb_sm (fun i => moN k t (j + 1) L i * moN k t (j + 1) L i) (2 ^ k - 1)
        · rw [if_pos d, if_neg one_ne0]
          obtain ⟨r, y1, y2⟩ := los4 hS (k := k) (t := t) (s := j + 1) (L := L) hk ht (by omega) (by omega) L2
          rw [y1, b1_some]
          rcases y2 with ⟨rfl, y3⟩ | ⟨y, z1, z2, z3, z4, rfl⟩
          · left
            exact go _ rfl (fun x hx e w => y3 x hx e ((eq x e).mp w))
          · right
            rw [b1_some, if_neg (nI_m1ne (by omega))]
            have y0 : 0 < y := by
              by_cases q : y = 0
              · rw [q, pop_0] at z2; omega
              · omega
            refine ⟨_, rfl, y, rfl, y0, z1, (eq y z2).mpr z3, fun x h0 hx w => ?_⟩
            rw [z2]
            by_cases q : pop 32 x = j + 1
            · right
              refine ⟨q.symm, ?_⟩
              by_cases g : y ≤ x
              · exact g
              · exact absurd ((eq x q).mp w) (z4 x (by omega) q)
            · left
              by_cases g : pop 32 x < j + 1
              · exact absurd w (kk x h0 hx g)
              · omega
        · left
          rw [if_neg d, if_pos rfl]
          refine go _ rfl (fun x hx e w => ?_)
          refine may_no (k := k) (t := t) (L := L) hk hx ?_ ((eq x e).mp w)
          rw [e]
          exact d
    · rintro v ⟨k1, kk⟩
      subst k1
      obtain ⟨f1, f2⟩ := full_W (k := k) (t := t) (a := a) (b := b) hk
      have f0 : 2 ^ 2 ≤ 2 ^ 2 ^ k := Nat.pow_le_pow_right (by decide) k2
      refine ⟨nI (2 ^ 2 ^ k - 1), ?_, 2 ^ 2 ^ k - 1, rfl, by omega, by omega, f1, fun x h0 hx w => ?_⟩
      · unfold B_X4_leastHeap_8
        rw [if_pos (nI_le (by omega) (by omega)), shl1 (by omega), nI_m1 (by omega)]
      · right
        have a1 := pop_k hk hx
        have a2 : ¬ pop 32 x < 2 ^ k - 1 + 1 := fun q => kk x h0 hx q w
        have a3 : pop 32 x = 2 ^ k := by omega
        refine ⟨f2.trans a3.symm, ?_⟩
        have := ls_ge 32 x (by omega)
        rw [a3] at this
        exact this
  obtain ⟨r, y1, y, rfl, y2⟩ := key
  refine ⟨y, ?_, y2⟩
  unfold f_X4_leastHeap
  rw [shl1 (by omega), bn_rw]
  exact y1
theorem lh10 {k t a b : Nat} (hk : k ≤ 4) (ht : t ≤ 4) (ha : a ≤ 100) (hb : b ≤ 100) : ∃ y, L_X10_least_46 (nI k) (nI t) (nI a) (nI b) FU (-1) 268435456 1 = some (nI y) ∧ BST k t a b y := by
  have l := k4 hk
  have p := Nat.two_pow_pos (2 ^ k)
  have key : ∃ r, L_X10_least_46 (nI k) (nI t) (nI a) (nI b) FU (-1) 268435456 1 = some r ∧ ∃ y, r = nI y ∧ BST k t a b y := by
    unfold L_X10_least_46
    refine loopF_inv (fun j v => v.2.2 = nI (j + 1) ∧ ((v.1 = -1 ∧ v.2.1 = nI 268435456 ∧ ∀ x, 0 < x → x < j + 1 → ¬ lsW k t a b x) ∨ ∃ y, v.1 = nI y ∧ v.2.1 = nI (pop 32 y) ∧ 0 < y ∧ y < j + 1 ∧ lsW k t a b y ∧ ∀ x, 0 < x → x < j + 1 → lsW k t a b x → pop 32 y < pop 32 x ∨ (pop 32 y = pop 32 x ∧ y ≤ x))) _ (2 ^ 2 ^ k - 1) ?_ ?_ (2 ^ 2 ^ k - 1) 0 (-1, 268435456, 1) FU (by omega) (FU_lt (by omega)) ⟨rfl, Or.inl ⟨rfl, rfl, fun x h0 hx => by omega⟩⟩
    · rintro j hj ⟨v9, v10, v11⟩ ⟨k1, kk⟩
      dsimp only at k1 kk
      subst k1
      left
      obtain ⟨r, y1, y2, y3⟩ := within10 (k := k) (t := t) (a := a) (b := b) (x := j + 1) hk ht ha hb (by omega)
      have pj := pop_le 32 (j + 1)
      unfold B_X10_least_46
      dsimp only
      rw [shl1 (by omega), shl1 (by omega), if_neg (nI_ge (by omega) (by omega)), bits10 (by omega), b1_some, y1, b1_some]
      rcases kk with ⟨rfl, rfl, kk⟩ | ⟨y, rfl, rfl, z1, z2, z3, z4⟩
      · rw [if_neg (nI_ge (by omega) (by omega))]
        rcases y2 with rfl | rfl
        · have nw : ¬ lsW k t a b (j + 1) := fun z => absurd (y3.mpr z) (by decide)
          rw [if_pos rfl, b2_some, bn_rw, nI_1]
          refine ⟨_, rfl, rfl, Or.inl ⟨rfl, rfl, fun x h0 hx => ?_⟩⟩
          by_cases q : x = j + 1
          · rw [q]; exact nw
          · exact kk x h0 (by omega)
        · rw [if_neg one_ne0, b2_some, bn_rw, nI_1]
          refine ⟨_, rfl, rfl, Or.inr ⟨j + 1, rfl, rfl, by omega, by omega, y3.mp rfl, fun x h0 hx w => ?_⟩⟩
          by_cases q : x = j + 1
          · right; rw [q]; exact ⟨rfl, Nat.le_refl _⟩
          · exact absurd w (kk x h0 (by omega))
      · have py := pop_le 32 y
        by_cases c : pop 32 y ≤ pop 32 (j + 1)
        · rw [if_pos (nI_le c (by omega)), b2_some, bn_rw, nI_1]
          refine ⟨_, rfl, rfl, Or.inr ⟨y, rfl, rfl, z1, by omega, z3, fun x h0 hx w => ?_⟩⟩
          by_cases q : x = j + 1
          · rw [q]; omega
          · exact z4 x h0 (by omega) w
        · rw [if_neg (nI_ge (by omega) (by omega))]
          rcases y2 with rfl | rfl
          · have nw : ¬ lsW k t a b (j + 1) := fun z => absurd (y3.mpr z) (by decide)
            rw [if_pos rfl, b2_some, bn_rw, nI_1]
            refine ⟨_, rfl, rfl, Or.inr ⟨y, rfl, rfl, z1, by omega, z3, fun x h0 hx w => ?_⟩⟩
            by_cases q : x = j + 1
            · rw [q] at w; exact absurd w nw
            · exact z4 x h0 (by omega) w
          · rw [if_neg one_ne0, b2_some, bn_rw, nI_1]
            refine ⟨_, rfl, rfl, Or.inr ⟨j + 1, rfl, rfl, by omega, by omega, y3.mp rfl, fun x h0 hx w => ?_⟩⟩
            by_cases q : x = j + 1
            · right; rw [q]; exact ⟨rfl, Nat.le_refl _⟩
            · have := z4 x h0 (by omega) w
              left
              omega
    · rintro ⟨v9, v10, v11⟩ ⟨k1, kk⟩
      dsimp only at k1 kk
      subst k1
      obtain ⟨f1, f2⟩ := full_W (k := k) (t := t) (a := a) (b := b) hk
      have f0 : 2 ^ 1 ≤ 2 ^ 2 ^ k := Nat.pow_le_pow_right (by decide) (Nat.two_pow_pos k)
      rcases kk with ⟨rfl, rfl, kk⟩ | ⟨y, rfl, rfl, z1, z2, z3, z4⟩
      · exact absurd f1 (kk _ (by omega) (by omega))
      · refine ⟨nI y, ?_, y, rfl, z1, by omega, z3, fun x h0 hx w => z4 x h0 (by omega) w⟩
        unfold B_X10_least_46
        dsimp only
        rw [shl1 (by omega), shl1 (by omega), if_pos (nI_le (by omega) (by omega))]
  obtain ⟨r, y1, y, rfl, y2⟩ := key
  exact ⟨y, y1, y2⟩
theorem g_least {Sm : PS} (M : PS) (hS : RSm Sm) (p1 p2 p3 p4 : Int32) : ∃ r : Int32, f_X9_least Sm p1 p2 p3 p4 = some r ∧ f_X10_least M p1 p2 p3 p4 = some r := by
  have a1 := ltL p1 1 1 rfl
  have a2 := gtL p1 4 4 rfl
  have a3 := ltL p2 1 1 rfl
  have a4 := gtL p2 4 4 rfl
  unfold f_X9_least f_X10_least
  rw [in_32 p1 1 4 1 4 rfl rfl, in_32 p2 1 4 1 4 rfl rfl, ratio9, bound10, b1_some, b1_some, b1_some, b1_some]
  by_cases c1 : 1 ≤ p1.toInt ∧ p1.toInt ≤ 4
  · rw [if_pos c1, if_neg one_ne0, if_neg (fun z => by rw [a1] at z; omega), if_neg (fun z => by rw [a2] at z; omega)]
    by_cases c2 : 1 ≤ p2.toInt ∧ p2.toInt ≤ 4
    · rw [if_pos c2, if_neg one_ne0, if_neg (fun z => by rw [a3] at z; omega), if_neg (fun z => by rw [a4] at z; omega)]
      by_cases c3 : (0 ≤ p3.toInt ∧ p3.toInt ≤ 100) ∧ (1 ≤ p4.toInt ∧ p4.toInt ≤ 100)
      · rw [if_pos c3, if_neg one_ne0, if_neg one_ne0, bn_rw, bn_rw]
        obtain ⟨k, hk, rfl⟩ := nI_four (N := 5) (x := p1) (by omega)
        obtain ⟨t, ht, rfl⟩ := nI_four (N := 5) (x := p2) (by omega)
        obtain ⟨a, ha, rfl⟩ := nI_four (N := 101) (x := p3) (by omega)
        obtain ⟨b, hb, rfl⟩ := nI_four (N := 101) (x := p4) (by omega)
        rw [nI_toInt (by omega)] at c1 c2
        rw [nI_toInt (by omega), nI_toInt (by omega)] at c3
        obtain ⟨x, x1, x2⟩ := lh4 hS (k := k) (t := t) (a := a) (b := b) (by omega) (by omega) (by omega) (by omega) (by omega) (by omega) (by omega)
        obtain ⟨y, y1, y2⟩ := lh10 (k := k) (t := t) (a := a) (b := b) (by omega) (by omega) (by omega) (by omega)
        rw [x1, y1, x2.one y2]
        exact ⟨_, rfl, rfl⟩
      · rw [if_neg c3, if_pos rfl, if_pos rfl]; exact ⟨_, rfl, rfl⟩
    · rw [if_neg c2, if_pos (show (0 : Int32) = 0 from rfl)]
      refine ⟨-3, ?_, rfl⟩
      by_cases z : p2 < 1
      · rw [if_pos z]
      · rw [if_neg z, if_pos]
        rw [a3] at z
        rw [a4]
        omega
  · rw [if_neg c1, if_pos (show (0 : Int32) = 0 from rfl)]
    refine ⟨-3, ?_, rfl⟩
    by_cases z : p1 < 1
    · rw [if_pos z]
    · rw [if_neg z, if_pos]
      rw [a1] at z
      rw [a2]
      omega
