/-! sums: terms, coefficients -/
def cf (w : Nat → Int) (pl : Nat → Nat) (t p : Nat) : Int := fb_si (fun k => if pl k = p then w k else 0) t
def plc (x y z : Nat → Nat) (k : Nat) : Nat := 16 * x k + 4 * y k + z k
def SM (j : Nat) (F M : PS) (t : Nat) (w : Nat → Int) (x y z : Nat → Nat) : Prop :=
  t ≤ 6 ∧ F.1 1 = nI t ∧ M.2.1 23 j = nI t ∧ (∀ k, k < t → M.2.1 24 (6 * j + k) = zI (w k) ∧ M.2.1 25 (6 * j + k) = nI (x k) ∧ M.2.1 26 (6 * j + k) = nI (y k) ∧ M.2.1 27 (6 * j + k) = nI (z k)) ∧ (∀ k, k < t → -9 ≤ w k ∧ w k ≤ 9 ∧ x k < 4 ∧ y k < 4 ∧ z k < 4) ∧ ∀ p, p < 64 → F.2.2 0 p = Int64.ofInt (cf w (plc x y z) t p)
def RSum (j : Nat) (F M : PS) : Prop := ∃ t w x y z, SM j F M t w x y z
theorem choice_ok (p : Int32) : f_X9_isChoice p = some (if 0 ≤ p.toInt ∧ p.toInt ≤ 1 then 1 else 0) := by
  unfold f_X9_isChoice
  by_cases h : p = 0
  · subst h; rfl
  · rw [if_neg h]
    by_cases h1 : p = 1
    · subst h1; rfl
    · rw [if_neg h1]
      rw [if_neg]
      · rfl
      · rw [i_eq] at h h1
        change ¬ p.toInt = 0 at h
        change ¬ p.toInt = 1 at h1
        omega
theorem isSum_ok (p : Int32) : f_X10_isSum p = some (if 0 ≤ p.toInt ∧ p.toInt ≤ 1 then 1 else 0) := by
  unfold f_X10_isSum
  rw [in_32 p 0 1 0 1 rfl rfl]
  simp only [b1_some, ck_b]
theorem rng {p lo hi : Int32} {a b : Int} (ha : lo.toInt = a) (hb : hi.toInt = b) : (if p < lo then some 0 else if hi ≤ p then some (0 : Int32) else some 1) = some (if a ≤ p.toInt ∧ p.toInt < b then (1 : Int32) else 0) := by
  by_cases h : p < lo
  · rw [if_pos h, if_neg]
    rw [i_lt] at h; omega
  · rw [if_neg h]
    by_cases h1 : hi ≤ p
    · rw [if_pos h1, if_neg]
      rw [i_le] at h1; omega
    · rw [if_neg h1, if_pos]
      rw [i_lt] at h; rw [i_le] at h1; omega
theorem power_ok (p : Int32) : f_X5_isPower p = some (if 0 ≤ p.toInt ∧ p.toInt < 4 then 1 else 0) := by
  unfold f_X5_isPower
  rw [rng (a := 0) (b := 4) rfl rfl]
  simp only [b1_some, ck_b]
theorem place_ok (p : Int32) : f_X1_isPlace p = some (if 0 ≤ p.toInt ∧ p.toInt < 12 then 1 else 0) := by
  unfold f_X1_isPlace
  rw [rng (a := 0) (b := 12) rfl rfl]
  simp only [b1_some, ck_b]
theorem three_ok (p q r m : Int32) {N : Int} (hN : m.toInt + 1 = N) : f_X10_areThree p q r m = some (if (0 ≤ p.toInt ∧ p.toInt < N) ∧ (0 ≤ q.toInt ∧ q.toInt < N) ∧ (0 ≤ r.toInt ∧ r.toInt < N) then 1 else 0) := by
  unfold f_X10_areThree
  have h (x : Int32) : f_X10_in x.toInt64 0 m.toInt64 = some (if 0 ≤ x.toInt ∧ x.toInt < N then 1 else 0) := by
    rw [in_32 x 0 m.toInt64 0 (N - 1) rfl (by rw [Int32.toInt_toInt64]; omega)]
    congr 1
    by_cases c : 0 ≤ x.toInt ∧ x.toInt < N
    · rw [if_pos c, if_pos (by omega)]
    · rw [if_neg c, if_neg (by omega)]
  rw [h p, h q, h r]
  simp only [b1_some]
  by_cases a : 0 ≤ p.toInt ∧ p.toInt < N
  · rw [if_pos a, if_neg one_ne0]
    by_cases b : 0 ≤ q.toInt ∧ q.toInt < N
    · rw [if_pos b, if_neg one_ne0]
      by_cases c : 0 ≤ r.toInt ∧ r.toInt < N
      · rw [if_pos c, if_neg one_ne0, if_pos ⟨a, b, c⟩]; rfl
      · rw [if_neg c, if_pos rfl, if_neg (fun k => c k.2.2)]; rfl
    · rw [if_neg b, if_pos rfl, if_neg (fun k => b k.2.1)]; rfl
  · rw [if_neg a, if_pos rfl, if_neg (fun k => a k.1)]; rfl
theorem nI_four {x : Int32} {N : Nat} (h : 0 ≤ x.toInt ∧ x.toInt < N) : ∃ k : Nat, k < N ∧ x = nI k := ⟨x.toInt.toNat, by omega, ofI (by omega)⟩
theorem zI_of (x : Int32) : zI x.toInt = x := by unfold zI; exact Int32.ofInt_toInt x
theorem zI_64 {z : Int} (h1 : -2147483648 ≤ z) (h2 : z < 2147483648) : (zI z).toInt64 = Int64.ofInt z := by
  rw [← Int64.toInt_inj, Int32.toInt_toInt64, zI_toInt h1 h2, Int64.toInt_ofInt_of_le (by omega) (by omega)]
theorem cf_cong {w w' : Nat → Int} {pl pl' : Nat → Nat} {t p : Nat} (h1 : ∀ k, k < t → w k = w' k) (h2 : ∀ k, k < t → pl k = pl' k) : cf w pl t p = cf w' pl' t p := by
  unfold cf
  exact fb_si_cong (fun k hk => by rw [h1 k hk, h2 k hk])
theorem SM.fr {j : Nat} {F M M' : PS} {t w x y z} (h : SM j F M t w x y z) (h23 : M'.2.1 23 j = M.2.1 23 j) (hk : ∀ k, k < 6 → M'.2.1 24 (6 * j + k) = M.2.1 24 (6 * j + k) ∧ M'.2.1 25 (6 * j + k) = M.2.1 25 (6 * j + k) ∧ M'.2.1 26 (6 * j + k) = M.2.1 26 (6 * j + k) ∧ M'.2.1 27 (6 * j + k) = M.2.1 27 (6 * j + k)) : SM j F M' t w x y z := by
  obtain ⟨a1, a2, a3, a4, a5, a6⟩ := h
  refine ⟨a1, a2, h23.trans a3, fun k hk2 => ?_, a5, a6⟩
  obtain ⟨b1, b2, b3, b4⟩ := hk k (by omega)
  rw [b1, b2, b3, b4]
  exact a4 k hk2
theorem RSum.fr {j : Nat} {F M M' : PS} (h : RSum j F M) (h2 : ∀ k, k = 23 ∨ k = 24 ∨ k = 25 ∨ k = 26 ∨ k = 27 → M'.2.1 k = M.2.1 k) : RSum j F M' := by
  obtain ⟨t, w, x, y, z, h⟩ := h
  refine ⟨t, w, x, y, z, h.fr ?_ fun k _ => ⟨?_, ?_, ?_, ?_⟩⟩
  · rw [h2 23 (by omega)]
  · rw [h2 24 (by omega)]
  · rw [h2 25 (by omega)]
  · rw [h2 26 (by omega)]
  · rw [h2 27 (by omega)]
theorem vp_s (f : Nat → Int64) (i : Nat) (v : Int64) (j : Nat) : vp_updL f i v j = if j = i then v else f j := by
  by_cases z : j = i
  · subst z; rw [pk_uLs, if_pos rfl]
  · rw [pk_uLn z, if_neg z]
theorem up_s (f : Nat → Int32) (i : Nat) (v : Int32) (j : Nat) : upd f i v j = if j = i then v else f j := rfl
/-- one more term -/
theorem add9 {j : Nat} {F M : PS} {t w x y z} (hj : j ≤ 1) (h : SM j F M t w x y z) (p : Int32) (hp : -9 ≤ p.toInt ∧ p.toInt ≤ 9) {a b c : Nat} (ha : a < 4) (hb : b < 4) (hc : c < 4) : (t = 6 ∧ f_X5_add F p (nI a) (nI b) (nI c) = some (-5, F)) ∨ (t < 6 ∧ ∃ F', f_X5_add F p (nI a) (nI b) (nI c) = some (nI (t + 1), F') ∧ ∀ M' : PS, M'.2.1 23 j = nI (t + 1) → (∀ k, k < t → M'.2.1 24 (6 * j + k) = M.2.1 24 (6 * j + k) ∧ M'.2.1 25 (6 * j + k) = M.2.1 25 (6 * j + k) ∧ M'.2.1 26 (6 * j + k) = M.2.1 26 (6 * j + k) ∧ M'.2.1 27 (6 * j + k) = M.2.1 27 (6 * j + k)) → (M'.2.1 24 (6 * j + t) = p ∧ M'.2.1 25 (6 * j + t) = nI a ∧ M'.2.1 26 (6 * j + t) = nI b ∧ M'.2.1 27 (6 * j + t) = nI c) → RSum j F' M') := by
  obtain ⟨a1, a2, a3, a4, a5, a6⟩ := h
  by_cases ht : t = 6
  · left
    refine ⟨ht, ?_⟩
    unfold f_X5_add
    rw [a2, ht, if_neg (show ¬ nI 6 < (6 : Int32) by decide)]
  · right
    refine ⟨by omega, sI (sL F 0 (vp_updL (F.2.2 0) (16 * a + 4 * b + c) (F.2.2 0 (16 * a + 4 * b + c) + p.toInt64))) 1 (nI (t + 1)), ?_, ?_⟩
    · unfold f_X5_add
      have e : (16 : Int32) * nI a + 4 * nI b + nI c = nI (16 * a + 4 * b + c) := by
        rw [show (16 : Int32) = nI 16 from rfl, show (4 : Int32) = nI 4 from rfl, pk_mul, pk_mul, nI_add, nI_add]
      rw [a2, if_pos (show nI t < (6 : Int32) from nI_lt (b := 6) (by omega) (by decide)), e, rdL_nI (by omega) (by decide)]
      simp only [b1_some]
      rw [wL_nI (by omega) (by decide)]
      simp only [b1_some, bn, sL_1, a2, nI_1]
      rfl
    · intro M' h1 h2 h3
      refine ⟨t + 1, fun k => if k = t then p.toInt else w k, fun k => if k = t then a else x k, fun k => if k = t then b else y k, fun k => if k = t then c else z k, by omega, rfl, h1, fun k hk => ?_, fun k hk => ?_, fun q hq => ?_⟩
      · by_cases e : k = t
        · subst e
          simp only [if_pos trivial, zI_of]
          exact h3
        · simp only [if_neg e]
          obtain ⟨b1, b2, b3, b4⟩ := h2 k (by omega)
          rw [b1, b2, b3, b4]
          exact a4 k (by omega)
      · by_cases e : k = t
        · subst e
          simp only [if_pos trivial]
          exact ⟨hp.1, hp.2, ha, hb, hc⟩
        · simp only [if_neg e]
          exact a5 k (by omega)
      · show vp_updL (F.2.2 0) (16 * a + 4 * b + c) (F.2.2 0 (16 * a + 4 * b + c) + p.toInt64) q = _
        have e1 : cf (fun k => if k = t then p.toInt else w k) (plc (fun k => if k = t then a else x k) (fun k => if k = t then b else y k) (fun k => if k = t then c else z k)) (t + 1) q = cf w (plc x y z) t q + (if 16 * a + 4 * b + c = q then p.toInt else 0) := by
          unfold cf
          rw [fb_si_succ]
          congr 1
          · exact fb_si_cong (fun k hk => by
              have e : ¬ k = t := by omega
              unfold plc
              simp only [if_neg e])
          · unfold plc
            simp only [if_pos trivial]
        rw [e1, vp_s]
        by_cases e : q = 16 * a + 4 * b + c
        · rw [if_pos e, if_pos e.symm, ← e, a6 q hq, Int64.ofInt_add]
          congr 1
        · rw [if_neg e, if_neg (fun k => e k.symm), Int.add_zero]
          exact a6 q hq
theorem g_term {F1 F2 M : PS} (h1 : RSum 0 F1 M) (h2 : RSum 1 F2 M) (p1 p2 p3 p4 p5 : Int32) : ∃ (r : Int32) (F1' F2' M' : PS), f_X9_term F1 F2 p1 p2 p3 p4 p5 = some (r, F1', F2') ∧ f_X10_term M p1 p2 p3 p4 p5 = some (r, M') ∧ RSum 0 F1' M' ∧ RSum 1 F2' M' ∧ SX [] [23, 24, 25, 26, 27] [] M M' := by
  unfold f_X9_term f_X10_term
  rw [choice_ok, isSum_ok, in_32 p2 (-9) 9 (-9) 9 rfl rfl, power_ok, power_ok, power_ok, three_ok p3 p4 p5 3 (N := 4) rfl]
  simp only [b1_some]
  by_cases c1 : 0 ≤ p1.toInt ∧ p1.toInt ≤ 1
  · rw [if_pos c1, if_neg one_ne0, if_neg one_ne0]
    by_cases c2 : -9 ≤ p2.toInt ∧ p2.toInt ≤ 9
    · rw [if_pos c2, if_neg one_ne0, if_neg (show ¬ p2 < -9 from fun k => by rw [i_lt] at k; change p2.toInt < -9 at k; omega), if_neg (show ¬ 9 < p2 from fun k => by rw [i_lt] at k; change 9 < p2.toInt at k; omega)]
      by_cases c3 : 0 ≤ p3.toInt ∧ p3.toInt < 4
      · by_cases c4 : 0 ≤ p4.toInt ∧ p4.toInt < 4
        · by_cases c5 : 0 ≤ p5.toInt ∧ p5.toInt < 4
          · have T3 : (0 ≤ p3.toInt ∧ p3.toInt < 4) ∧ (0 ≤ p4.toInt ∧ p4.toInt < 4) ∧ (0 ≤ p5.toInt ∧ p5.toInt < 4) := ⟨c3, c4, c5⟩
            rw [if_pos c3, if_pos c4, if_pos c5, if_neg one_ne0, if_neg one_ne0, if_neg one_ne0, if_pos T3, if_neg one_ne0]
            obtain ⟨a, ha, rfl⟩ := nI_four (N := 4) c3
            obtain ⟨b, hb, rfl⟩ := nI_four (N := 4) c4
            obtain ⟨c, hc, rfl⟩ := nI_four (N := 4) c5
            obtain ⟨j, hj, rfl⟩ := nI_four (N := 2) (x := p1) (by omega)
            have main : ∀ (F : PS) t w x y z, SM j F M t w x y z → ∃ (r : Int32) (F' M' : PS), f_X5_add F p2 (nI a) (nI b) (nI c) = some (r, F') ∧ (b1 (rdI 2 (M.2.1 23) (nI j)) fun v7 => if v7 = 6 then some ((-5), M) else b1 (rdI 2 (M.2.1 23) (nI j)) fun v9 => bn ((6 * nI j) + v9) fun v10 => b1 (wA 12 M 24 v10 p2) fun S11 => b1 (wA 12 S11 25 v10 (nI a)) fun S12 => b1 (wA 12 S12 26 v10 (nI b)) fun S13 => b1 (wA 12 S13 27 v10 (nI c)) fun S14 => b1 (rdI 2 (S14.2.1 23) (nI j)) fun v15 => b1 (wA 2 S14 23 (nI j) (v15 + 1)) fun S16 => b1 (rdI 2 (S16.2.1 23) (nI j)) fun v17 => some (v17, S16)) = some (r, M') ∧ RSum j F' M' ∧ (∀ G, RSum (1 - j) G M → RSum (1 - j) G M') ∧ SX [] [23, 24, 25, 26, 27] [] M M' := by
              intro F t w x y z hS
              have q3 : M.2.1 23 j = nI t := hS.2.2.1
              rcases add9 (by omega) hS p2 c2 ha hb hc with ⟨ht, e⟩ | ⟨ht, F', e, hF⟩
              · refine ⟨-5, F, M, e, ?_, ⟨_, _, _, _, _, hS⟩, fun _ h => h, SX.rf⟩
                rw [rdI_nI hj (by decide)]
                simp only [b1_some, q3, ht]
                rfl
              · refine ⟨nI (t + 1), F', sA (sA (sA (sA (sA M 24 (upd (M.2.1 24) (6 * j + t) p2)) 25 (upd (M.2.1 25) (6 * j + t) (nI a))) 26 (upd (M.2.1 26) (6 * j + t) (nI b))) 27 (upd (M.2.1 27) (6 * j + t) (nI c))) 23 (upd (M.2.1 23) j (nI (t + 1))), e, ?_, ?_, ?_, ?_⟩
                · rw [rdI_nI hj (by decide)]
                  have e6 : (6 : Int32) * nI j + nI t = nI (6 * j + t) := by rw [show (6 : Int32) = nI 6 from rfl, pk_mul, nI_add]
                  simp only [b1_some, q3, bn, e6]
                  rw [if_neg (show ¬ nI t = (6 : Int32) from fun k => by rw [show (6 : Int32) = nI 6 from rfl, nI_eq (by omega) (by decide)] at k; omega)]
                  simp only [wA_nI (show 6 * j + t < 12 by omega) (show 12 < 2 ^ 31 by decide), b1_some]
                  rw [show ∀ A B C D : Nat → Int32, (sA (sA (sA (sA M 24 A) 25 B) 26 C) 27 D).2.1 23 = M.2.1 23 from fun _ _ _ _ => rfl, rdI_nI hj (by decide)]
                  simp only [b1_some, q3, nI_1]
                  rw [wA_nI hj (by decide)]
                  simp only [b1_some]
                  rw [rdI_nI hj (by decide)]
                  simp only [b1_some]
                  show some (upd (M.2.1 23) j (nI (t + 1)) j, _) = _
                  rw [up_s, if_pos rfl]
                  rfl
                · refine hF _ ?_ (fun k hk => ⟨?_, ?_, ?_, ?_⟩) ⟨?_, ?_, ?_, ?_⟩
                  · show upd (M.2.1 23) j (nI (t + 1)) j = _
                    rw [up_s, if_pos rfl]
                  · show upd (M.2.1 24) (6 * j + t) p2 (6 * j + k) = _
                    rw [up_s, if_neg (by omega)]
                  · show upd (M.2.1 25) (6 * j + t) _ (6 * j + k) = _
                    rw [up_s, if_neg (by omega)]
                  · show upd (M.2.1 26) (6 * j + t) _ (6 * j + k) = _
                    rw [up_s, if_neg (by omega)]
                  · show upd (M.2.1 27) (6 * j + t) _ (6 * j + k) = _
                    rw [up_s, if_neg (by omega)]
                  · show upd (M.2.1 24) (6 * j + t) p2 (6 * j + t) = _
                    rw [up_s, if_pos rfl]
                  · show upd (M.2.1 25) (6 * j + t) _ (6 * j + t) = _
                    rw [up_s, if_pos rfl]
                  · show upd (M.2.1 26) (6 * j + t) _ (6 * j + t) = _
                    rw [up_s, if_pos rfl]
                  · show upd (M.2.1 27) (6 * j + t) _ (6 * j + t) = _
                    rw [up_s, if_pos rfl]
                · rintro G ⟨t', w', x', y', z', hG⟩
                  refine ⟨t', w', x', y', z', hG.fr ?_ fun k hk => ⟨?_, ?_, ?_, ?_⟩⟩
                  · show upd (M.2.1 23) j (nI (t + 1)) (1 - j) = _
                    rw [up_s, if_neg (by omega)]
                  · show upd (M.2.1 24) (6 * j + t) p2 (6 * (1 - j) + k) = _
                    rw [up_s, if_neg (by omega)]
                  · show upd (M.2.1 25) (6 * j + t) _ (6 * (1 - j) + k) = _
                    rw [up_s, if_neg (by omega)]
                  · show upd (M.2.1 26) (6 * j + t) _ (6 * (1 - j) + k) = _
                    rw [up_s, if_neg (by omega)]
                  · show upd (M.2.1 27) (6 * j + t) _ (6 * (1 - j) + k) = _
                    rw [up_s, if_neg (by omega)]
                · exact ((((SX.rf.sA _ (by decide)).sA _ (by decide)).sA _ (by decide)).sA _ (by decide)).sA _ (by decide)
            have hj2 : j = 0 ∨ j = 1 := by omega
            rcases hj2 with rfl | rfl
            · rw [if_pos (show nI 0 = 0 from rfl)]
              obtain ⟨t, w, x, y, z, hS⟩ := h1
              obtain ⟨r, F', M', k1, k2, k3, k4, k5⟩ := main F1 t w x y z hS
              refine ⟨r, F', F2, M', ?_, k2, k3, k4 F2 h2, k5⟩
              rw [k1]; rfl
            · rw [if_neg (show ¬ nI 1 = 0 from one_ne0)]
              obtain ⟨t, w, x, y, z, hS⟩ := h2
              obtain ⟨r, F', M', k1, k2, k3, k4, k5⟩ := main F2 t w x y z hS
              refine ⟨r, F1, F', M', ?_, k2, k4 F1 h1, k3, k5⟩
              rw [k1]; rfl
          · have T3 : ¬ ((0 ≤ p3.toInt ∧ p3.toInt < 4) ∧ (0 ≤ p4.toInt ∧ p4.toInt < 4) ∧ (0 ≤ p5.toInt ∧ p5.toInt < 4)) := fun k => c5 k.2.2
            rw [if_pos c3, if_pos c4, if_neg c5, if_neg one_ne0, if_neg one_ne0, if_pos rfl, if_neg T3, if_pos rfl]
            exact ⟨_, _, _, _, rfl, rfl, h1, h2, SX.rf⟩
        · have T3 : ¬ ((0 ≤ p3.toInt ∧ p3.toInt < 4) ∧ (0 ≤ p4.toInt ∧ p4.toInt < 4) ∧ (0 ≤ p5.toInt ∧ p5.toInt < 4)) := fun k => c4 k.2.1
          rw [if_pos c3, if_neg c4, if_neg one_ne0, if_pos rfl, if_neg T3, if_pos rfl]
          exact ⟨_, _, _, _, rfl, rfl, h1, h2, SX.rf⟩
      · have T3 : ¬ ((0 ≤ p3.toInt ∧ p3.toInt < 4) ∧ (0 ≤ p4.toInt ∧ p4.toInt < 4) ∧ (0 ≤ p5.toInt ∧ p5.toInt < 4)) := fun k => c3 k.1
        rw [if_neg c3, if_pos rfl, if_neg T3, if_pos rfl]
        exact ⟨_, _, _, _, rfl, rfl, h1, h2, SX.rf⟩
    · rw [if_neg c2, if_pos (show (0 : Int32) = 0 from rfl)]
      refine ⟨-3, F1, F2, M, ?_, rfl, h1, h2, SX.rf⟩
      by_cases d : p2 < -9
      · rw [if_pos d]
      · rw [if_neg d, if_pos]
        rw [i_lt] at d ⊢
        change ¬ p2.toInt < -9 at d
        show 9 < p2.toInt
        omega
  · rw [if_neg c1, if_pos rfl, if_pos rfl]
    exact ⟨_, _, _, _, rfl, rfl, h1, h2, SX.rf⟩
