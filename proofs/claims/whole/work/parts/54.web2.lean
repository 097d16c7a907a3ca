theorem ltL (p b : Int32) (k : Int) (hb : b.toInt = k) : p < b ↔ p.toInt < k := by rw [i_lt, hb]
theorem leL (p b : Int32) (k : Int) (hb : b.toInt = k) : p ≤ b ↔ p.toInt ≤ k := by rw [i_le, hb]
theorem gtL (p b : Int32) (k : Int) (hb : b.toInt = k) : b < p ↔ k < p.toInt := by rw [i_lt, hb]
theorem geL (p b : Int32) (k : Int) (hb : b.toInt = k) : b ≤ p ↔ k ≤ p.toInt := by rw [i_le, hb]
theorem nI_m1 {n : Nat} (h : 1 ≤ n) : nI n - 1 = nI (n - 1) := pk_sub h
theorem choice9 (p : Int32) : f_X9_isChoice p = some (if 0 ≤ p.toInt ∧ p.toInt ≤ 1 then 1 else 0) := by
  unfold f_X9_isChoice
  by_cases h0 : p = 0
  · subst h0; rfl
  · rw [if_neg h0]
    by_cases h1 : p = 1
    · subst h1; rfl
    · rw [if_neg h1, if_neg]
      · rfl
      · intro z
        rw [i_eq] at h0 h1
        have e0 : (0 : Int32).toInt = 0 := rfl
        have e1 : (1 : Int32).toInt = 1 := rfl
        omega
theorem part9 (p : Int32) : f_X9_isPart p = some (if 0 ≤ p.toInt ∧ p.toInt ≤ 1 then 1 else 0) := choice9 p
theorem part10 (p : Int32) : f_X10_isPart p = some (if 0 ≤ p.toInt ∧ p.toInt ≤ 1 then 1 else 0) := by
  unfold f_X10_isPart
  rw [in_32 p 0 1 0 1 rfl rfl]
  simp only [b1_some, ck_b]
theorem ch_ex {p : Int32} (h : 0 ≤ p.toInt ∧ p.toInt ≤ 1) : ∃ w : Nat, p = nI w ∧ w ≤ 1 := by
  obtain ⟨w, h1, h2, -⟩ := nI_ex p (Int.le_refl 0) h
  exact ⟨w, h1, by omega⟩
theorem toI_lN {n : Nat} (h : n < 2 ^ 31) : ((nI n).toInt64).toInt = n := by rw [Int32.toInt_toInt64, nI_toInt h]
section WEB2
variable {V Hp M : PS} {n e c h : Nat} {ea eb ew ce hr : Nat → Nat}
theorem kn8 (hW : WS V Hp M n e c h ea eb ew ce hr) (p : Int32) : f_X8_hasKnot V p = some (if 0 ≤ p.toInt ∧ p.toInt < n then 1 else 0) := by
  obtain ⟨w1, w2, w3, w4, w5, w6, w7, -⟩ := id hW
  unfold f_X8_hasKnot
  simp only [w6, ltL p 0 0 rfl, geL p (nI n) n (nI_toInt (by omega))]
  by_cases h1 : p.toInt < 0
  · rw [if_pos h1, if_neg (by omega)]; rfl
  · rw [if_neg h1]
    by_cases h2 : (n : Int) ≤ p.toInt
    · rw [if_pos h2, if_neg (by omega)]; rfl
    · rw [if_neg h2, if_pos (by omega)]; rfl
theorem kn10 (hW : WS V Hp M n e c h ea eb ew ce hr) (p : Int32) : f_X10_isKnot M p = some (if 0 ≤ p.toInt ∧ p.toInt < n then 1 else 0) := by
  obtain ⟨w1, w2, w3, w4, w5, w6, w7, -⟩ := id hW
  unfold f_X10_isKnot
  rw [w7, nI_m1 w1, in_32 p 0 _ 0 _ rfl (toI_lN (by omega))]
  simp only [b1_some, ck_b]
  congr 1
  by_cases g : 0 ≤ p.toInt ∧ p.toInt < n
  · rw [if_pos g, if_pos (by omega)]
  · rw [if_neg g, if_neg (by omega)]
theorem kno8 (hW : WS V Hp M n e c h ea eb ew ce hr) (p : Int32) : f_X8_hasKnotsOf V p = some (if 0 ≤ p.toInt ∧ p.toInt < (2 ^ n : Nat) then 1 else 0) := by
  obtain ⟨w1, w2, w3, w4, w5, w6, w7, -⟩ := id hW
  have hp := pw8 w2
  unfold f_X8_hasKnotsOf
  rw [w6, shl1 (by omega)]
  simp only [ltL p 0 0 rfl, geL p (nI (2 ^ n)) ((2 ^ n : Nat) : Int) (nI_toInt (by omega))]
  by_cases h1 : p.toInt < 0
  · rw [if_pos h1, if_neg (by omega)]; rfl
  · rw [if_neg h1]
    by_cases h2 : ((2 ^ n : Nat) : Int) ≤ p.toInt
    · rw [if_pos h2, if_neg (by omega)]; rfl
    · rw [if_neg h2, if_pos (by omega)]; rfl
theorem kno10 (hW : WS V Hp M n e c h ea eb ew ce hr) (p : Int32) : f_X10_areKnots M p = some (if 0 ≤ p.toInt ∧ p.toInt < (2 ^ n : Nat) then 1 else 0) := by
  obtain ⟨w1, w2, w3, w4, w5, w6, w7, -⟩ := id hW
  have hp := pw8 w2
  have hpos : 1 ≤ 2 ^ n := Nat.one_le_two_pow
  unfold f_X10_areKnots
  rw [w7, shl1 (by omega), nI_m1 hpos, in_32 p 0 _ 0 _ rfl (toI_lN (by omega))]
  simp only [b1_some, ck_b]
  congr 1
  by_cases g : 0 ≤ p.toInt ∧ p.toInt < (2 ^ n : Nat)
  · rw [if_pos g, if_pos (by omega)]
  · rw [if_neg g, if_neg (by omega)]
theorem kno_ex {p : Int32} (h : 0 ≤ p.toInt ∧ p.toInt < (2 ^ n : Nat)) : ∃ s : Nat, p = nI s ∧ s < 2 ^ n := by
  obtain ⟨w, h1, h2, -⟩ := nI_ex p (Int.le_refl 0) (b := (2 ^ n : Nat)) ⟨h.1, Int.le_of_lt h.2⟩
  exact ⟨w, h1, by omega⟩
theorem kn_ex {p : Int32} (h : 0 ≤ p.toInt ∧ p.toInt < n) : ∃ s : Nat, p = nI s ∧ s < n := by
  obtain ⟨w, h1, h2, -⟩ := nI_ex p (Int.le_refl 0) (b := n) ⟨h.1, Int.le_of_lt h.2⟩
  exact ⟨w, h1, by omega⟩
end WEB2
abbrev SXw (M N : PS) : Prop := SX [14, 18, 20, 22] [15, 16, 17, 19, 21] [37, 38] M N
theorem g_knots {V Hp M : PS} (hR : RWeb V Hp M) (p1 : Int32) : ∃ (r : Int32) (V' Hp' M' : PS), f_X9_knots V Hp p1 = some (r, V', Hp') ∧ f_X10_knots M p1 = some (r, M') ∧ RWeb V' Hp' M' ∧ SXw M M' := by
  unfold f_X9_knots f_X10_knots f_X8_restart
  rw [in_32 p1 1 8 1 8 rfl rfl]
  simp only [b1_some, bn, ltL p1 1 1 rfl, leL p1 8 8 rfl]
  by_cases g : 1 ≤ p1.toInt ∧ p1.toInt ≤ 8
  · rw [if_pos g, if_neg (by omega), if_pos g.2, if_neg one_ne0]
    obtain ⟨n, hn, hn2, -⟩ := nI_ex p1 (by decide) g
    refine ⟨1, _, _, _, rfl, rfl, ⟨n, 0, 0, 0, fun _ => 0, fun _ => 0, fun _ => 0, fun _ => 0, fun _ => 0, by omega, by omega, by omega, by omega, by omega, hn, hn, rfl, rfl, rfl, rfl, rfl, rfl, fun k hk => by omega, fun k hk => by omega, fun k hk => by omega⟩, ?_⟩
    exact (((SX.rf.sI _ (by decide)).sI _ (by decide)).sI _ (by decide)).sI _ (by decide)
  · rw [if_neg g, if_pos rfl]
    refine ⟨-3, V, Hp, M, ?_, rfl, hR, SX.rf⟩
    by_cases c1 : p1.toInt < 1
    · rw [if_pos c1]
    · rw [if_neg c1, if_neg (by omega)]
theorem g_edge {V Hp M : PS} (hR : RWeb V Hp M) (p1 p2 p3 : Int32) : ∃ (r : Int32) (V' M' : PS), f_X9_edge V p1 p2 p3 = some (r, V') ∧ f_X10_edge M p1 p2 p3 = some (r, M') ∧ RWeb V' Hp M' ∧ SXw M M' := by
  obtain ⟨n, e, c, h, ea, eb, ew, ce, hr, hW⟩ := id hR
  obtain ⟨w1, w2, w3, w4, w5, w6, w7, w8, w9, w10, w11, w12, w13, wE, wC, wH⟩ := id hW
  unfold f_X9_edge f_X10_edge
  rw [kn8 hW, kn10 hW, kn8 hW, kn10 hW, in_32 p3 1 99 1 99 rfl rfl]
  simp only [b1_some, ltL p3 1 1 rfl, leL p3 99 99 rfl]
  by_cases g1 : 0 ≤ p1.toInt ∧ p1.toInt < n
  · rw [if_pos g1, if_neg one_ne0, if_neg one_ne0]
    by_cases g2 : 0 ≤ p2.toInt ∧ p2.toInt < n
    · rw [if_pos g2, if_neg one_ne0, if_neg one_ne0]
      by_cases g3 : p1 = p2
      · rw [if_pos g3, if_pos g3]
        exact ⟨-2, V, M, rfl, rfl, hR, SX.rf⟩
      · rw [if_neg g3, if_neg g3]
        by_cases g4 : 1 ≤ p3.toInt ∧ p3.toInt ≤ 99
        · rw [if_pos g4, if_neg (by omega), if_pos g4.2, if_neg one_ne0]
          obtain ⟨x, rfl, hx⟩ := kn_ex g1
          obtain ⟨y, rfl, hy⟩ := kn_ex g2
          obtain ⟨z, hz, hz2, -⟩ := nI_ex p3 (by decide) g4
          subst hz
          unfold f_X8_addEdge
          by_cases g5 : e < 16
          · rw [w8, w9, if_pos (show nI e < (16 : Int32) from nI_lt g5 (by decide)), if_neg (fun q => by have := (nI_eq (b := 16) (by omega) (by decide)).mp q; omega)]
            rw [wA_nI g5 (by decide), wA_nI g5 (by decide)]
            simp only [b1_some, sA_1, w8, w9]
            rw [wA_nI g5 (by decide), wA_nI g5 (by decide)]
            simp only [b1_some, sA_1, w8, w9]
            rw [wA_nI g5 (by decide), wA_nI g5 (by decide)]
            simp only [b1_some, b2_some, bn, sA_1, w8, w9, nI_1]
            refine ⟨nI (e + 1), _, _, rfl, rfl, ⟨n, e + 1, c, h, fun k => if k = e then x else ea k, fun k => if k = e then y else eb k, fun k => if k = e then z else ew k, ce, hr, w1, w2, by omega, w4, w5, w6, w7, rfl, rfl, w10, w11, w12, w13, fun k hk => ?_, wC, wH⟩, ?_⟩
            · by_cases q : k = e
              · subst q
                simp only [if_true]
                refine ⟨pk_us, pk_us, pk_us, pk_us, pk_us, pk_us, hx, hy, fun q => g3 (by rw [q]), by omega, by omega⟩
              · simp only [if_neg q]
                obtain ⟨q1, q2, q3, q4, q5, q6, q7⟩ := wE k (by omega)
                exact ⟨(pk_un q).trans q1, (pk_un q).trans q2, (pk_un q).trans q3, (pk_un q).trans q4, (pk_un q).trans q5, (pk_un q).trans q6, q7⟩
            · exact (((SX.rf.sA _ (by decide)).sA _ (by decide)).sA _ (by decide)).sI _ (by decide)
          · have ee : e = 16 := by omega
            subst ee
            rw [w8, w9, if_neg (by decide), if_pos (show nI 16 = (16 : Int32) from rfl)]
            exact ⟨-5, V, M, rfl, rfl, hR, SX.rf⟩
        · rw [if_neg g4, if_pos rfl]
          refine ⟨-3, V, M, ?_, rfl, hR, SX.rf⟩
          by_cases c1 : p3.toInt < 1
          · rw [if_pos c1]
          · rw [if_neg c1, if_neg (by omega)]
    · rw [if_neg g2, if_pos rfl, if_pos rfl]
      exact ⟨-2, V, M, rfl, rfl, hR, SX.rf⟩
  · rw [if_neg g1, if_pos rfl, if_pos rfl]
    exact ⟨-2, V, M, rfl, rfl, hR, SX.rf⟩
theorem pop32_8 {x : Nat} (h : x < 256) : pop 32 x = pop 8 x := pop_big (k := 8) h 24
theorem g_cord {V Hp M : PS} (hR : RWeb V Hp M) (p1 : Int32) : ∃ (r : Int32) (V' M' : PS), f_X9_cord V p1 = some (r, V') ∧ f_X10_cord M p1 = some (r, M') ∧ RWeb V' Hp M' ∧ SXw M M' := by
  obtain ⟨n, e, c, h, ea, eb, ew, ce, hr, hW⟩ := id hR
  obtain ⟨w1, w2, w3, w4, w5, w6, w7, w8, w9, w10, w11, w12, w13, wE, wC, wH⟩ := id hW
  unfold f_X9_cord f_X10_cord
  rw [kno8 hW, kno10 hW]
  simp only [b1_some]
  by_cases g1 : 0 ≤ p1.toInt ∧ p1.toInt < (2 ^ n : Nat)
  · rw [if_pos g1, if_neg one_ne0, if_neg one_ne0]
    obtain ⟨s, rfl, hs⟩ := kno_ex g1
    have hs2 : s < 256 := Nat.lt_of_lt_of_le hs (pw8 w2)
    rw [bitCount_ok s (by omega), bits10 (by omega)]
    simp only [b1_some]
    rw [pop32_8 hs2]
    have hp := pop8_le s hs2
    by_cases g2 : 2 ≤ pop 8 s
    · rw [if_pos (show (2 : Int32) ≤ nI (pop 8 s) from nI_le g2 (by omega)), if_pos (show (2 : Int32) ≤ nI (pop 8 s) from nI_le g2 (by omega))]
      unfold f_X8_addCord
      by_cases g5 : c < 10
      · rw [w10, w11, if_pos (show nI c < (10 : Int32) from nI_lt g5 (by decide)), if_neg (fun q => by have := (nI_eq (b := 10) (by omega) (by decide)).mp q; omega)]
        rw [wA_nI g5 (by decide), wA_nI g5 (by decide)]
        simp only [b1_some, b2_some, bn, sA_1, w10, w11, nI_1]
        refine ⟨nI (c + 1), _, _, rfl, rfl, ⟨n, e, c + 1, h, ea, eb, ew, fun k => if k = c then s else ce k, hr, w1, w2, w3, by omega, w5, w6, w7, w8, w9, rfl, rfl, w12, w13, wE, fun k hk => ?_, wH⟩, (SX.rf.sA _ (by decide)).sI _ (by decide)⟩
        by_cases q : k = c
        · subst q
          simp only [if_true]
          exact ⟨pk_us, pk_us, hs, g2⟩
        · simp only [if_neg q]
          obtain ⟨q1, q2, q3⟩ := wC k (by omega)
          exact ⟨(pk_un q).trans q1, (pk_un q).trans q2, q3⟩
      · have ee : c = 10 := by omega
        subst ee
        rw [w10, w11, if_neg (by decide), if_pos (show nI 10 = (10 : Int32) from rfl)]
        exact ⟨-5, V, M, rfl, rfl, hR, SX.rf⟩
    · rw [if_neg (show ¬ (2 : Int32) ≤ nI (pop 8 s) from nI_ge (b := 2) (by omega) (by decide)), if_neg (show ¬ (2 : Int32) ≤ nI (pop 8 s) from nI_ge (b := 2) (by omega) (by decide))]
      exact ⟨-3, V, M, rfl, rfl, hR, SX.rf⟩
  · rw [if_neg g1, if_pos rfl, if_pos rfl]
    exact ⟨-3, V, M, rfl, rfl, hR, SX.rf⟩
theorem g_measure {V Hp M : PS} (hR : RWeb V Hp M) (p1 p2 : Int32) : ∃ r : Int32, f_X9_measure V p1 p2 = some r ∧ f_X10_measure M p1 p2 = some r := by
  obtain ⟨n, e, c, h, ea, eb, ew, ce, hr, hW⟩ := id hR
  unfold f_X9_measure f_X10_measure
  rw [choice9, in_32 p1 0 1 0 1 rfl rfl, kno8 hW, kno10 hW]
  simp only [b1_some]
  by_cases g1 : 0 ≤ p1.toInt ∧ p1.toInt ≤ 1
  · rw [if_pos g1, if_neg one_ne0, if_neg one_ne0]
    by_cases g2 : 0 ≤ p2.toInt ∧ p2.toInt < (2 ^ n : Nat)
    · rw [if_pos g2, if_neg one_ne0, if_neg one_ne0]
      obtain ⟨w, rfl, hw⟩ := ch_ex g1
      obtain ⟨s, rfl, hs⟩ := kno_ex g2
      rw [meas8 hW hw hs, meas10 hW hw hs]
      exact ⟨_, rfl, rfl⟩
    · rw [if_neg g2, if_pos rfl, if_pos rfl]
      exact ⟨_, rfl, rfl⟩
  · rw [if_neg g1, if_pos rfl, if_pos rfl]
    exact ⟨_, rfl, rfl⟩
theorem g_heap {V Hp M : PS} (hR : RWeb V Hp M) (p1 : Int32) : ∃ (r : Int32) (Hp' M' : PS), f_X9_heap V Hp p1 = some (r, Hp') ∧ f_X10_heap M p1 = some (r, M') ∧ RWeb V Hp' M' ∧ SXw M M' := by
  obtain ⟨n, e, c, h, ea, eb, ew, ce, hr, hW⟩ := id hR
  obtain ⟨w1, w2, w3, w4, w5, w6, w7, w8, w9, w10, w11, w12, w13, wE, wC, wH⟩ := id hW
  unfold f_X9_heap f_X10_heap
  rw [kno8 hW, kno10 hW]
  simp only [b1_some]
  by_cases g1 : 0 ≤ p1.toInt ∧ p1.toInt < (2 ^ n : Nat)
  · rw [if_pos g1, if_neg one_ne0, if_neg one_ne0]
    obtain ⟨s, rfl, hs⟩ := kno_ex g1
    unfold f_X0_add
    by_cases g5 : h < 32
    · rw [w12, w13, if_pos (show nI h < (32 : Int32) from nI_lt g5 (by decide)), if_neg (fun q => by have := (nI_eq (b := 32) (by omega) (by decide)).mp q; omega)]
      rw [wA_nI g5 (by decide), wA_nI g5 (by decide)]
      simp only [b1_some, b2_some, bn, sA_1, w12, w13, nI_1]
      refine ⟨nI (h + 1), _, _, rfl, rfl, ⟨n, e, c, h + 1, ea, eb, ew, ce, fun k => if k = h then s else hr k, w1, w2, w3, w4, by omega, w6, w7, w8, w9, w10, w11, rfl, rfl, wE, wC, fun k hk => ?_⟩, (SX.rf.sA _ (by decide)).sI _ (by decide)⟩
      by_cases q : k = h
      · subst q
        simp only [if_true]
        exact ⟨pk_us, pk_us, hs⟩
      · simp only [if_neg q]
        obtain ⟨q1, q2, q3⟩ := wH k (by omega)
        exact ⟨(pk_un q).trans q1, (pk_un q).trans q2, q3⟩
    · have ee : h = 32 := by omega
      subst ee
      rw [w12, w13, if_neg (by decide), if_pos (show nI 32 = (32 : Int32) from rfl)]
      exact ⟨-5, Hp, M, rfl, rfl, hR, SX.rf⟩
  · rw [if_neg g1, if_pos rfl, if_pos rfl]
    exact ⟨-3, Hp, M, rfl, rfl, hR, SX.rf⟩
