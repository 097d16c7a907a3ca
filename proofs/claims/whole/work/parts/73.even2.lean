/-! even: both sides -/
def evI (hr : Nat → Nat) (h t W f0 : Nat) : Nat → Nat
  | 0 => f0
  | a + 1 => if evI hr h t W f0 a = 0 then 0 else if a &&& W = a then (if cW hr h W a * 2 ^ t = h then 1 else 0) else 1
theorem evI_iff {hr : Nat → Nat} {h t W f0 : Nat} (hf : f0 ≤ 1) : ∀ m, evI hr h t W f0 m ≤ 1 ∧ (evI hr h t W f0 m = 1 ↔ f0 = 1 ∧ ∀ a, a < m → a &&& W = a → cW hr h W a * 2 ^ t = h) := by
  intro m
  induction m with
  | zero => exact ⟨hf, ⟨fun k => ⟨k, fun a ha => by omega⟩, fun k => k.1⟩⟩
  | succ m ih =>
    obtain ⟨i1, i2⟩ := ih
    rw [evI]
    by_cases z : evI hr h t W f0 m = 0
    · rw [if_pos z]
      refine ⟨by decide, ⟨fun k => by omega, fun k => ?_⟩⟩
      have := i2.mpr ⟨k.1, fun a ha => k.2 a (by omega)⟩
      omega
    · rw [if_neg z]
      have o := i2.mp (by omega)
      by_cases q : m &&& W = m
      · rw [if_pos q]
        by_cases g : cW hr h W m * 2 ^ t = h
        · rw [if_pos g]
          refine ⟨by decide, ⟨fun _ => ⟨o.1, fun a ha qa => ?_⟩, fun _ => rfl⟩⟩
          by_cases e : a = m
          · rw [e]; exact g
          · exact o.2 a (by omega) qa
        · rw [if_neg g]
          refine ⟨by decide, ⟨fun k => by omega, fun k => absurd (k.2 m (by omega) q) g⟩⟩
      · rw [if_neg q]
        refine ⟨by decide, ⟨fun _ => ⟨o.1, fun a ha qa => ?_⟩, fun _ => rfl⟩⟩
        by_cases e : a = m
        · rw [e] at qa; exact absurd qa q
        · exact o.2 a (by omega) qa
def evO (hr : Nat → Nat) (h t n : Nat) : Nat → Nat
  | 0 => 1
  | i + 1 => if pop 8 (i + 1) = t then evI hr h t (i + 1) (evO hr h t n i) (2 ^ n) else evO hr h t n i
theorem evO_iff {hr : Nat → Nat} {h t n : Nat} : ∀ m, evO hr h t n m ≤ 1 ∧ (evO hr h t n m = 1 ↔ ∀ W, 0 < W → W ≤ m → pop 8 W = t → ∀ a, a < 2 ^ n → a &&& W = a → cW hr h W a * 2 ^ t = h) := by
  intro m
  induction m with
  | zero => exact ⟨Nat.le_refl 1, ⟨fun _ W h0 h1 => by omega, fun _ => rfl⟩⟩
  | succ m ih =>
    obtain ⟨i1, i2⟩ := ih
    rw [evO]
    by_cases p : pop 8 (m + 1) = t
    · rw [if_pos p]
      obtain ⟨j1, j2⟩ := evI_iff (hr := hr) (h := h) (t := t) (W := m + 1) i1 (2 ^ n)
      refine ⟨j1, ?_⟩
      rw [j2, i2]
      constructor
      · rintro ⟨k1, k2⟩ W h0 h1 hp
        by_cases e : W = m + 1
        · rw [e]; exact k2
        · exact k1 W h0 (by omega) hp
      · intro k
        exact ⟨fun W h0 h1 hp => k W h0 (by omega) hp, k (m + 1) (by omega) (Nat.le_refl _) p⟩
    · rw [if_neg p]
      refine ⟨i1, ?_⟩
      rw [i2]
      constructor
      · intro k W h0 h1 hp
        by_cases e : W = m + 1
        · rw [e] at hp; exact absurd hp p
        · exact k W h0 (by omega) hp
      · intro k W h0 h1 hp
        exact k W h0 (by omega) hp
theorem gl_iff (hr : Nat → Nat) (h t : Nat) : ∀ m, glN hr h t m = 0 ↔ ∀ U, 0 < U → U ≤ m → pop 8 U ≤ t → leanN hr h U = 0 := by
  intro m
  induction m with
  | zero => exact ⟨fun _ U h0 h1 => by omega, fun _ => rfl⟩
  | succ m ih =>
    rw [glN]
    by_cases p : pop 8 (m + 1) ≤ t
    · rw [if_pos p]
      constructor
      · intro k U h0 h1 hp
        by_cases g : glN hr h t m < leanN hr h (m + 1)
        · rw [if_pos g] at k; omega
        · rw [if_neg g] at k
          by_cases e : U = m + 1
          · rw [e]; omega
          · exact ih.mp k U h0 (by omega) hp
      · intro k
        have a := ih.mpr (fun U h0 h1 hp => k U h0 (by omega) hp)
        have b := k (m + 1) (by omega) (Nat.le_refl _) p
        rw [a, b]
        decide
    · rw [if_neg p, ih]
      constructor
      · intro k U h0 h1 hp
        by_cases e : U = m + 1
        · rw [e] at hp; exact absurd hp p
        · exact k U h0 (by omega) hp
      · intro k U h0 h1 hp
        exact k U h0 (by omega) hp
theorem out_0 {a W : Nat} (h : a < 4294967296) : outN a W = 0 ↔ a &&& W = a := by
  constructor
  · intro k0
    unfold outN at k0
    apply Nat.eq_of_testBit_eq
    intro i
    have k := congrArg (fun x => x.testBit i) k0
    by_cases hi : i < 32
    · have o : (4294967295 : Nat).testBit i = true := by rw [show (4294967295 : Nat) = 2 ^ 32 - 1 from rfl, Nat.testBit_two_pow_sub_one]; simp [hi]
      simp only [Nat.testBit_and, Nat.testBit_xor, Nat.zero_testBit, o] at k ⊢
      revert k
      cases a.testBit i <;> cases W.testBit i <;> decide
    · have : a.testBit i = false := Nat.testBit_lt_two_pow (Nat.lt_of_lt_of_le h (Nat.pow_le_pow_right (n := 2) (i := 32) (j := i) (by decide) (show 32 ≤ i by omega)))
      simp only [Nat.testBit_and, this, Bool.false_and]
  · exact out_sub h
section WEB10
variable {V Hp M : PS} {n e c h : Nat} {ea eb ew ce hr : Nat → Nat}
theorem cW_le (hr : Nat → Nat) (W a : Nat) : ∀ i, cW hr i W a ≤ i := by
  intro i
  have := fb_sm_bound (f := fun k => if hr k &&& W = a then 1 else 0) (c := 1) (n := i) (fun k _ => by split <;> omega)
  unfold cW
  omega
theorem often10 (hW : WS V Hp M n e c h ea eb ew ce hr) {W a : Nat} (hWW : W < 256) (ha : a < 256) : f_X10_often M (nI W) (nI a) = some (nI (cW hr h W a)) := by
  obtain ⟨w1, w2, w3, w4, w5, w6, w7, w8, w9, w10, w11, w12, w13, wE, wC, wH⟩ := id hW
  have key : L_X10_often_5 M (nI W) (nI a) FU 0 0 = some (nI (cW hr h W a)) := by
    unfold L_X10_often_5
    refine loopF_seq0 (fun i => (nI (cW hr i W a), nI i)) h _ rfl (fun i hi => ?_) ?_ (FU_lt (by omega))
    · obtain ⟨q1, q2, q3⟩ := wH i hi
      have q4 : hr i < 256 := Nat.lt_of_lt_of_le q3 (pw8 w2)
      unfold B_X10_often_5
      dsimp only
      rw [w13, if_neg (nI_ge hi (by omega)), rdI_nI (by omega) (by decide), q2, ]
      simp only [b1_some, fa_and]
      have d : nI (hr i &&& W) = nI a ↔ hr i &&& W = a := nI_eq (Nat.lt_of_le_of_lt Nat.and_le_left (by omega)) (by omega)
      have s1 : cW hr (i + 1) W a = cW hr i W a + if hr i &&& W = a then 1 else 0 := by unfold cW; rw [fb_sm_succ]
      by_cases g : hr i &&& W = a
      · rw [if_pos (d.mpr g), s1, if_pos g]
        simp only [b1_some, bn, nI_1]
      · rw [if_neg (fun k => g (d.mp k)), s1, if_neg g]
        simp only [b1_some, bn, nI_1, Int32.add_zero, Nat.add_zero]
    · unfold B_X10_often_5
      dsimp only
      rw [w13, if_pos (nI_le (Nat.le_refl h) (by omega))]
  unfold f_X10_often
  rw [key]; rfl
theorem evIn10 (hW : WS V Hp M n e c h ea eb ew ce hr) {t W f0 : Nat} (ht : t ≤ 3) (h0 : 0 < W) (hWW : W < 2 ^ n) (hf : f0 ≤ 1) : L_X10_even_50 M (nI t) (nI W) FU (nI f0) 0 = some (nI (if pop 8 W = t then evI hr h t W f0 (2 ^ n) else f0)) := by
  obtain ⟨w1, w2, w3, w4, w5, w6, w7, w8, w9, w10, w11, w12, w13, wE, wC, wH⟩ := id hW
  have l256 := pw8 w2
  have p0 := Nat.two_pow_pos n
  have l8 := pop8_le W (by omega)
  have db : nI (pop 8 W) = nI t ↔ pop 8 W = t := nI_eq (by omega) (by omega)
  by_cases p : pop 8 W = t
  · rw [if_pos p]
    unfold L_X10_even_50
    refine loopF_seq0 (fun a => (nI (evI hr h t W f0 a), nI a)) (2 ^ n) _ rfl (fun a ha => ?_) ?_ (FU_lt (by omega))
    · obtain ⟨j1, -⟩ := evI_iff (hr := hr) (h := h) (t := t) (W := W) hf a
      unfold B_X10_even_50
      dsimp only
      rw [w7, shl1 (by omega), if_neg (nI_ge ha (by omega)), bits10 (by omega), pop32_8 (by omega)]
      simp only [b1_some]
      rw [if_pos (db.mpr p), xor_m1, fa_and, show a &&& (W ^^^ 4294967295) = outN a W from rfl, often10 hW (by omega) (by omega), w13, shl1 (by omega), evI]
      simp only [b1_some, pk_mul]
      have c1 := cW_le hr W a h
      have c2 : cW hr h W a * 2 ^ t ≤ 32 * 2 ^ 3 := Nat.mul_le_mul (by omega) (Nat.pow_le_pow_right (by decide) ht)
      by_cases z : evI hr h t W f0 a = 0
      · rw [if_pos ((nI01 (by omega)).mpr z), if_pos z]
        simp only [b1_some, bn, nI_1]
        rfl
      · rw [if_neg (fun k => z ((nI01 (by omega)).mp k)), if_neg z]
        have dd : nI (outN a W) = 0 ↔ a &&& W = a := by
          rw [← out_0 (by omega)]
          exact nI_eq (b := 0) (Nat.lt_of_le_of_lt (Nat.and_le_left (n := a)) (by omega)) (by decide)
        by_cases q : a &&& W = a
        · rw [if_pos (dd.mpr q), if_pos q]
          by_cases g : cW hr h W a * 2 ^ t = h
          · rw [if_pos g, if_pos (by rw [g])]
            simp only [b1_some, bn, nI_1]
            rfl
          · rw [if_neg g, if_neg (fun k => g ((nI_eq (by omega) (by omega)).mp k))]
            simp only [b1_some, bn, nI_1]
            rfl
        · rw [if_neg (fun k => q (dd.mp k)), if_neg q]
          simp only [b1_some, bn, nI_1]
          rfl
    · unfold B_X10_even_50
      dsimp only
      rw [w7, shl1 (by omega), if_pos (nI_le (Nat.le_refl _) (by omega))]
  · rw [if_neg p]
    unfold L_X10_even_50
    refine loopF_seq0 (fun a => (nI f0, nI 0)) 0 _ rfl (fun a ha => by omega) ?_ (FU_lt (by omega))
    unfold B_X10_even_50
    dsimp only
    rw [w7, shl1 (by omega), if_neg (nI_ge p0 (by omega)), bits10 (by omega), pop32_8 (by omega)]
    simp only [b1_some]
    rw [if_neg (fun k => p (db.mp k))]
theorem evOut10 (hW : WS V Hp M n e c h ea eb ew ce hr) {t : Nat} (ht : t ≤ 3) : L_X10_even_37 M (nI t) FU 1 1 = some (nI (evO hr h t n (2 ^ n - 1))) := by
  obtain ⟨w1, w2, w3, w4, w5, w6, w7, w8, w9, w10, w11, w12, w13, wE, wC, wH⟩ := id hW
  have l256 := pw8 w2
  have p0 := Nat.two_pow_pos n
  unfold L_X10_even_37
  refine loopF_seq0 (fun i => (nI (evO hr h t n i), nI (i + 1))) (2 ^ n - 1) _ rfl (fun i hi => ?_) ?_ (FU_lt (by omega))
  · unfold B_X10_even_37
    dsimp only
    rw [w7, shl1 (by omega), if_neg (nI_ge (by omega) (by omega)), evIn10 hW ht (by omega) (by omega) (evO_iff i).1]
    simp only [b1_some, bn, nI_1]
    rfl
  · unfold B_X10_even_37
    dsimp only
    rw [w7, shl1 (by omega), if_pos (nI_le (by omega) (by omega))]
end WEB10
theorem g_even {V Hp M : PS} (hR : RWeb V Hp M) (p1 : Int32) : ∃ r : Int32, f_X9_even V Hp p1 = some r ∧ f_X10_even M p1 = some r := by
  obtain ⟨n, e, c, h, ea, eb, ew, ce, hr, hW⟩ := hR
  obtain ⟨w1, w2, w3, w4, w5, w6, w7, w8, w9, w10, w11, w12, w13, wE, wC, wH⟩ := id hW
  have p0 := Nat.two_pow_pos n
  unfold f_X9_even f_X10_even
  rw [in_32 p1 1 3 1 3 rfl rfl, w6, w7, w12, w13]
  simp only [b1_some]
  by_cases c1 : 1 ≤ p1.toInt ∧ p1.toInt ≤ 3
  · rw [if_pos c1, if_neg one_ne0, if_neg (fun k => by rw [ltL p1 1 1 rfl] at k; omega), if_neg (fun k => by rw [gtL p1 3 3 rfl] at k; omega)]
    obtain ⟨t, ht, rfl⟩ := nI_four (N := 4) (x := p1) (by omega)
    by_cases c2 : t ≤ n
    · rw [if_pos (nI_le c2 (by omega)), if_pos (nI_le c2 (by omega))]
      by_cases c3 : h = 0
      · rw [if_pos (by rw [c3]; rfl), if_pos (by rw [c3]; rfl)]
        exact ⟨_, rfl, rfl⟩
      · rw [if_neg (nI_ne0 (by omega) (by omega)), if_neg (nI_ne0 (by omega) (by omega)), gl8 hW (by omega), evOut10 hW (by omega)]
        simp only [b1_some]
        have gl := gl_le hr h t (2 ^ n - 1)
        obtain ⟨o1, o2⟩ := evO_iff (hr := hr) (h := h) (t := t) (n := n) (2 ^ n - 1)
        have i1 := gl_iff hr h t (2 ^ n - 1)
        have ee := even_iff (t := t) (hr := hr) (h := h) w2 c2 (fun k hk => (wH k hk).2.2)
        have bi : glN hr h t (2 ^ n - 1) = 0 ↔ evO hr h t n (2 ^ n - 1) = 1 := by
          rw [i1, o2]
          constructor
          · intro k
            have := ee.mp (fun U h0 h1 hp => k U h0 (by omega) hp)
            exact fun W h0 h1 hp => this W h0 (by omega) hp
          · intro k
            have := ee.mpr (fun W h0 h1 hp => k W h0 (by omega) hp)
            exact fun U h0 h1 hp => this U h0 (by omega) hp
        have dg : nI (glN hr h t (2 ^ n - 1)) = 0 ↔ glN hr h t (2 ^ n - 1) = 0 := nI_eq (b := 0) (by omega) (by decide)
        by_cases g : glN hr h t (2 ^ n - 1) = 0
        · rw [if_pos (dg.mpr g), bi.mp g, if_neg (show ¬ nI 1 = 0 from one_ne0)]
          exact ⟨_, rfl, rfl⟩
        · have z : evO hr h t n (2 ^ n - 1) = 0 := by
            have : ¬ evO hr h t n (2 ^ n - 1) = 1 := fun k => g (bi.mpr k)
            omega
          rw [if_neg (fun k => g (dg.mp k)), z, if_pos (show nI 0 = 0 from rfl)]
          exact ⟨_, rfl, rfl⟩
    · rw [if_neg (nI_ge (by omega) (by omega)), if_neg (nI_ge (by omega) (by omega))]
      exact ⟨_, rfl, rfl⟩
  · rw [if_neg c1, if_pos rfl]
    refine ⟨_, ?_, rfl⟩
    by_cases d : p1 < 1
    · rw [if_pos d]
    · rw [if_neg d, if_pos]
      rw [ltL p1 1 1 rfl] at d
      rw [gtL p1 3 3 rfl]
      omega
