/-! a whole line, both sides -/
section LINE2
variable {T M R U : PS} {n : Nat} {tx : Nat → Nat}
theorem FRL.i8 {j : Nat} {M : PS} (v : Int32) : FRL j M (sI M 8 v) := FRL.of (SX.rf.sI (k := 8) (is := [8]) _ (by decide)) (by decide)
theorem rd_at {M : PS} {a o : Nat} {v : Int32} : (sA M a (upd (M.2.1 a) o v)).2.1 a o = v := by
  rw [sA_2, if_pos rfl, up_s, if_pos rfl]
theorem rd_ne {M : PS} {a c o : Nat} {v : Int32} (h : ¬ c = a) : (sA M a (upd (M.2.1 a) o v)).2.1 c = M.2.1 c := by
  rw [sA_2, if_neg h]
theorem line_ok (hT : TX T n tx) (hM : TX M n tx) {b : Nat} (k : TK n tx R M b) {j nd rw : Nat} {kd ce aa ab ac dn dz : Nat → Nat} (h : RD U M j nd rw kd ce aa ab ac dn dz) (hj : j < 20) : ∃ fl R' U' M' b', f_X3_readLine R T U = some (fl, R', U') ∧ f_X10_readsLine M = some (fl, M') ∧ TK n tx R' M' b' ∧ FRL j M M' ∧ (fl = 0 ∨ (fl = 1 ∧ ∃ nd rw kd ce aa ab ac dn dz, RD U' M' (j + 1) nd rw kd ce aa ab ac dn dz)) := by
  obtain ⟨h1, h2, h3, h4, h5, h6, h7, h8, h9, h10, h11, h12, hD, hK, hN, hS⟩ := id h
  obtain ⟨t1, t2, t3, t4, t5, t6, t7, t8⟩ := id k
  obtain ⟨f8, x8, y8, z8⟩ := word10 hM t1 t7 t8 (w := 8) (by decide)
  have x8' : f_X10_isWord M 21167 3 = some f8 := x8
  have hs := so_le n tx b
  have ix : (20 : Int32) + nI j = nI (20 + j) := by rw [show (20 : Int32) = nI 20 from rfl, nI_add]
  obtain ⟨fl, M2, a1, a2, a3, a4⟩ := skip_ok hT hM k (lo := 0) (hi := 7) (by decide) (by decide)
  have a1' : f_X3_isNumberWithin R T 0 7 = some fl := a1
  have a2' : f_X10_skipsNumber M 0 7 = some (fl, M2) := a2
  unfold f_X3_readLine f_X10_readsLine
  rw [t5, h11, ix, bn_rw, x8', b1_some]
  by_cases c : soN n tx b = 1
  · -- a word
    rw [c, if_pos (show nI 1 = 1 from rfl), b1_some, if_pos rfl]
    obtain ⟨v, v1, v2⟩ := verb3 hT k
    rw [v1, b1_some]
    have e0 : fl = 0 ∧ TK n tx R M2 b := by
      rcases a4 with q | ⟨_, q, _⟩
      · exact q
      · omega
    obtain ⟨rfl, e2⟩ := e0
    have e3 : FRL j M M2 := FRL.of a3 (by decide)
    rcases v2 with ⟨rfl, nm⟩ | ⟨w, hw, mw, rfl⟩
    · rw [if_pos rfl, if_pos (fl0 y8 z8 (nm 8 (by decide))), a2', b2_some, if_pos rfl]
      exact ⟨0, R, U, M2, b, rfl, rfl, e2, e3, Or.inl rfl⟩
    · rw [if_neg (nI_m1ne (by omega))]
      by_cases w8 : w = 8
      · subst w8
        rw [if_pos (show nI 8 = 8 from rfl), b1_some, if_neg (show ¬ (0 : Int32) = 1 by decide), z8.mpr mw, if_neg one_ne0, wA_nI (by omega) (by decide), b1_some]
        have F1 : FRL j M (sA M 2 (upd (M.2.1 2) (20 + j) 8)) := FRL.wr (by decide) _
        obtain ⟨R2, M3, b2, d1, d2, d3, d4⟩ := tk_go hT (M := sA M 2 (upd (M.2.1 2) (20 + j) 8)) (hM.fr rfl rfl) (e := enN n tx b) (en_le t1).2 t4 t6
        rw [d1, b1_some, d2, b1_some, add_l hj h7, b1_some]
        obtain ⟨fl2, M4, o1, o2, o3⟩ := op_1 hT (M := M3) ((hM.fr (M' := sA M 2 (upd (M.2.1 2) (20 + j) 8)) rfl rfl).sx d4 (by simp) (by simp)) d3 (U := sI (sA (sA U 1 (upd (U.2.1 1) j (nI 8))) 2 (upd (U.2.1 2) j 0)) 0 (nI (j + 1))) hj (w := 8) (by decide) (by decide) (i := 0) (by decide) rfl (by show upd (U.2.1 1) j (nI 8) j = _; rw [up_s, if_pos rfl])
        have o1' : f_X10_skipsNumber M3 0 7 = some (fl2, M4) := o1
        rw [o1', b2_some]
        have F2 : FRL j M M4 := F1.tr ((FRL.of d4 (by decide)).tr (FRL.of o2 (by decide)))
        rcases o3 with ⟨rfl, p1, p2⟩ | ⟨rfl, v, R3, b3, p1, p2, p3, p4⟩
        · rw [if_pos rfl]
          exact ⟨0, R2, _, M4, b2, cl_out (f := 99999) p2, rfl, p1, F2, Or.inl rfl⟩
        · have x := op_x (T := T) (R := R3) (U := sA (sI (sA (sA U 1 (upd (U.2.1 1) j (nI 8))) 2 (upd (U.2.1 2) j 0)) 0 (nI (j + 1))) 3 (upd ((sI (sA (sA U 1 (upd (U.2.1 1) j (nI 8))) 2 (upd (U.2.1 2) j 0)) 0 (nI (j + 1))).2.1 3) (3 * j + 0) (nI v))) (w := 8) (by decide)
          have m8 : M4.1 8 = nI j := (o2.1 8 (by simp)).trans ((d4.1 8 (by simp)).trans h11)
          have m32 : M4.1 32 = nI rw := (o2.1 32 (by simp)).trans ((d4.1 32 (by simp)).trans h12)
          have m2 : M4.2.1 2 (20 + j) = nI 8 := by rw [o2.2.1 2 (by simp), d4.2.1 2 (by simp), rd_at]; rfl
          have p3' : v ≤ 7 := p3
          have s8 : (sA M4 3 (upd (M4.2.1 3) (20 + j) (nI v))).1 8 = nI j := m8
          rw [if_neg one_ne0, p2, wA_nI (by omega) (by decide), b1_some, bn_rw, s8, nI_1]
          refine ⟨1, R3, _, _, b3, (cl_in (f := 99999) p4).trans (cl_out (f := 99998) x), rfl, p1.fr rfl rfl rfl, F2.tr ((FRL.wr (by decide) _).tr (FRL.i8 _)), Or.inr ⟨rfl, nd, rw, ?_⟩⟩
          refine RD_s (w := 8) (c := v) (a1 := 0) (a2 := 0) (a3 := 0) (N := 0) h hj (fun k hk => ⟨?_, ?_⟩) (fun i hi => ?_) (fun i _ => rfl) rfl (F2.tr ((FRL.wr (by decide) _).tr (FRL.i8 _))) ⟨?_, ?_, by decide, ?_, by omega, fun z => absurd rfl z, fun _ => ?_, fun z => by omega, fun z => by omega, fun z => by omega, fun z y => by omega, fun z => by omega⟩ (Or.inr ⟨by decide, rfl, rfl⟩) rfl h8 h9 rfl m32
          · show upd (U.2.1 1) j (nI 8) k = _
            rw [up_s, if_neg (by omega)]
          · show upd (U.2.1 2) j 0 k = _
            rw [up_s, if_neg (by omega)]
          · show upd (U.2.1 3) (3 * j + 0) (nI v) i = _
            rw [up_s, if_neg (by omega)]
          · show upd (U.2.1 1) j (nI 8) j = _
            rw [up_s, if_pos rfl]
          · exact m2
          · show upd (M4.2.1 3) (20 + j) (nI v) (20 + j) = _
            rw [up_s, if_pos rfl]
          · show upd (U.2.1 3) (3 * j + 0) (nI v) (3 * j) = _
            rw [up_s, if_pos (by omega)]
      · have n8 : ¬ nI w = (8 : Int32) := fun z => w8 ((nI_eq (b := 8) (by omega) (by decide)).mp z)
        rw [if_neg n8, b1_some, if_pos rfl, if_pos (fl0 y8 z8 (fun z => w8 (MW.one hw (by decide) mw z))), a2', b2_some, if_pos rfl]
        exact ⟨0, R, U, M2, b, rfl, rfl, e2, e3, Or.inl rfl⟩
  · -- no word
    have q1 : ¬ nI (soN n tx b) = (1 : Int32) := fun z => c ((nI_eq (b := 1) (by omega) (by decide)).mp z)
    rw [if_neg q1, b1_some, if_neg one_ne0, a1', b1_some, if_pos (fl0 y8 z8 (fun z => c (so_1.mpr ⟨z.1, z.2.1⟩))), a2', b2_some]
    rcases a4 with ⟨rfl, q⟩ | ⟨rfl, q, v, R2, b2, c1, c2, c3, c4, c5, c6⟩
    · rw [if_pos rfl, if_pos rfl]
      exact ⟨0, R, U, M2, b, rfl, rfl, q, FRL.of a3 (by decide), Or.inl rfl⟩
    · rw [if_neg one_ne0, if_neg one_ne0, c1, b1_some, c2, b1_some, c4, wA_nI (by omega) (by decide), b1_some]
      have hM2 : TX M2 n tx := hM.sx a3 (by simp) (by simp)
      have F1 : FRL j M (sA M2 3 (upd (M2.2.1 3) (20 + j) (nI v))) := (FRL.of a3 (by decide)).tr (FRL.wr (by decide) _)
      obtain ⟨u1, u2, u3, u4, u5, u6, u7, u8⟩ := id c3
      obtain ⟨vw, w1, w2⟩ := verb10 (M := sA M2 3 (upd (M2.2.1 3) (20 + j) (nI v))) (hM2.fr rfl rfl) u1 u7 u8
      obtain ⟨vb, v1, v2⟩ := verb3 hT c3
      rw [v1, b1_some, w1, b1_some, wA_nI (by omega) (by decide), b1_some, rdI_nI (by omega) (by decide), rd_at, b1_some]
      have F2 : FRL j M (sA (sA M2 3 (upd (M2.2.1 3) (20 + j) (nI v))) 2 (upd ((sA M2 3 (upd (M2.2.1 3) (20 + j) (nI v))).2.1 2) (20 + j) vw)) := F1.tr (FRL.wr (by decide) _)
      have k9 : TK n tx R2 (sA (sA M2 3 (upd (M2.2.1 3) (20 + j) (nI v))) 2 (upd ((sA M2 3 (upd (M2.2.1 3) (20 + j) (nI v))).2.1 2) (20 + j) vw)) b2 := c3.fr rfl rfl rfl
      have none8 : (∀ w, w < 8 → ¬ MW n tx b2 w) → vw = -1 := fun nm => by
        rcases w2 with ⟨e, _⟩ | ⟨w, hw, mw, _⟩
        · exact e
        · exact absurd mw (nm w hw)
      rcases v2 with ⟨rfl, nm⟩ | ⟨w, hw, mw, rfl⟩
      · rw [if_pos rfl, if_pos (none8 (fun w hw => nm w (by omega)))]
        exact ⟨0, R2, U, _, b2, rfl, rfl, k9, F2, Or.inl rfl⟩
      · rw [if_neg (nI_m1ne (by omega))]
        by_cases w8 : w = 8
        · subst w8
          rw [if_pos (show nI 8 = 8 from rfl), b1_some, if_pos rfl, if_pos (none8 (fun w hw z => by have := MW.one (by omega) (by decide) z mw; omega))]
          exact ⟨0, R2, U, _, b2, rfl, rfl, k9, F2, Or.inl rfl⟩
        · have n8 : ¬ nI w = (8 : Int32) := fun z => w8 ((nI_eq (b := 8) (by omega) (by decide)).mp z)
          have ew : vw = nI w := by
            rcases w2 with ⟨_, e⟩ | ⟨w', hw', mw', e⟩
            · exact absurd mw (e w (by omega))
            · rw [e, MW.one (by omega) (by omega) mw' mw]
          subst ew
          rw [if_neg n8, b1_some, if_neg (show ¬ (1 : Int32) = 0 by decide), if_neg (nI_m1ne (by omega))]
          obtain ⟨R3, M5, b3, d1, d2, d3, d4⟩ := tk_go hT (M := sA (sA M2 3 (upd (M2.2.1 3) (20 + j) (nI v))) 2 (upd ((sA M2 3 (upd (M2.2.1 3) (20 + j) (nI v))).2.1 2) (20 + j) (nI w))) (hM2.fr rfl rfl) (e := enN n tx b2) (en_le u1).2 u4 u6
          rw [d1, b1_some, d2, b1_some, add_l hj h7, b1_some]
          have hM5 : TX M5 n tx := (hM2.fr (M' := sA (sA M2 3 (upd (M2.2.1 3) (20 + j) (nI v))) 2 (upd ((sA M2 3 (upd (M2.2.1 3) (20 + j) (nI v))).2.1 2) (20 + j) (nI w))) rfl rfl).sx d4 (by simp) (by simp)
          have F3 : FRL j M M5 := F2.tr (FRL.of d4 (by decide))
          have m8 : M5.1 8 = nI j := (d4.1 8 (by simp)).trans ((a3.1 8 (by simp)).trans h11)
          have m32 : M5.1 32 = nI rw := (d4.1 32 (by simp)).trans ((a3.1 32 (by simp)).trans h12)
          have m2 : M5.2.1 2 (20 + j) = nI w := by rw [d4.2.1 2 (by simp), rd_at]
          have m3 : M5.2.1 3 (20 + j) = nI v := by rw [d4.2.1 3 (by simp), rd_ne (by decide), rd_at]
          have g1 : (sI (sA (sA U 1 (upd (U.2.1 1) j (nI w))) 2 (upd (U.2.1 2) j (nI v))) 0 (nI (j + 1))).2.1 1 j = nI w := by
            show upd (U.2.1 1) j (nI w) j = _
            rw [up_s, if_pos rfl]
          have g2 : (sI (sA (sA U 1 (upd (U.2.1 1) j (nI w))) 2 (upd (U.2.1 2) j (nI v))) 0 (nI (j + 1))).2.1 2 j = nI v := by
            show upd (U.2.1 2) j (nI v) j = _
            rw [up_s, if_pos rfl]
          have g3 : ∀ i, i < j → (sI (sA (sA U 1 (upd (U.2.1 1) j (nI w))) 2 (upd (U.2.1 2) j (nI v))) 0 (nI (j + 1))).2.1 1 i = U.2.1 1 i ∧ (sI (sA (sA U 1 (upd (U.2.1 1) j (nI w))) 2 (upd (U.2.1 2) j (nI v))) 0 (nI (j + 1))).2.1 2 i = U.2.1 2 i := fun i hi => by
            constructor
            · show upd (U.2.1 1) j (nI w) i = _
              rw [up_s, if_neg (by omega)]
            · show upd (U.2.1 2) j (nI v) i = _
              rw [up_s, if_neg (by omega)]
          by_cases w0 : w = 0
          · subst w0
            obtain ⟨fl2, R4, U4, M6, b4, e1, e2, e3, e4, e5, e6, e7, e8⟩ := drw_ok hT hM5 d3 (U := sI (sA (sA U 1 (upd (U.2.1 1) j (nI 0))) 2 (upd (U.2.1 2) j (nI v))) 0 (nI (j + 1))) (nd := nd) (rw := rw) hj h3 h4 h5 rfl g1 h8 h9 m2 m32
            rw [e2, b2_some]
            change ∃ fl R' U' M' b', L_X3_readLine_85 T 0 FU 0 R3 _ = some (fl, R', U') ∧ _
            rw [e1]
            rcases e8 with rfl | ⟨rfl, v2, i1, i2, i3, i4, i5, i6, rfl⟩
            · rw [if_pos rfl]
              exact ⟨0, R4, U4, M6, b4, rfl, rfl, e3, F3.tr e4, Or.inl rfl⟩
            · rw [if_neg one_ne0, bn_rw, e5, m8, nI_1]
              refine ⟨1, R4, _, _, b4, rfl, rfl, e3.fr rfl rfl rfl, F3.tr (e4.tr (FRL.i8 _)), Or.inr ⟨rfl, nd + 1, rw * v2, ?_⟩⟩
              refine RD_s (w := 0) (c := v) (a1 := 0) (a2 := 0) (a3 := 0) (N := v2) h hj (fun i hi => g3 i hi) (fun i hi => ?_) (fun i hi => ?_) rfl (F3.tr (e4.tr (FRL.i8 _))) ⟨g1, ?_, by decide, ?_, by omega, fun _ => g2, fun z => by omega, fun _ => ⟨?_, by omega⟩, fun z => by omega, fun z => by omega, fun z y => by omega, fun z => by omega⟩ (Or.inl ⟨rfl, rfl, rfl, i1, i2, i3, by omega, ?_, i6⟩) rfl rfl rfl rfl i5
              · show upd (U.2.1 3) (3 * j) (nI nd) i = _
                rw [up_s, if_neg (by omega)]
              · show upd (U.2.1 6) nd (nI v2) i = _
                rw [up_s, if_neg (by omega)]
              · show M6.2.1 2 (20 + j) = _
                rw [e6]; exact m2
              · show M6.2.1 3 (20 + j) = _
                rw [e7]; exact m3
              · show upd (U.2.1 3) (3 * j) (nI nd) (3 * j) = _
                rw [up_s, if_pos rfl]
              · show upd (U.2.1 6) nd (nI v2) nd = _
                rw [up_s, if_pos rfl]
          · obtain ⟨fl2, R4, U4, M6, b4, e1, e2, e3, e4, e5, e6, e7, e8, e9, e10⟩ := args_ok hT hM5 d3 (U := sI (sA (sA U 1 (upd (U.2.1 1) j (nI w))) 2 (upd (U.2.1 2) j (nI v))) 0 (nI (j + 1))) hj (w := w) (by omega) (by omega) rfl g1 m2
            rw [e2, b2_some, e1]
            rcases e10 with rfl | ⟨rfl, p1, p2, p3, i1, i2, i3, i4, i5⟩
            · rw [if_pos rfl]
              exact ⟨0, R4, U4, M6, b4, rfl, rfl, e3, F3.tr e4, Or.inl rfl⟩
            · rw [if_neg one_ne0, bn_rw, e6, m8, nI_1]
              refine ⟨1, R4, _, _, b4, rfl, rfl, e3.fr rfl rfl rfl, F3.tr (e4.tr (FRL.i8 _)), Or.inr ⟨rfl, nd, rw, ?_⟩⟩
              have k1 : U4.2.1 1 = (sI (sA (sA U 1 (upd (U.2.1 1) j (nI w))) 2 (upd (U.2.1 2) j (nI v))) 0 (nI (j + 1))).2.1 1 := e5.1.2.1 1 (by decide)
              have k2 : U4.2.1 2 = (sI (sA (sA U 1 (upd (U.2.1 1) j (nI w))) 2 (upd (U.2.1 2) j (nI v))) 0 (nI (j + 1))).2.1 2 := e5.1.2.1 2 (by decide)
              have k6 : U4.2.1 6 = U.2.1 6 := e5.1.2.1 6 (by decide)
              have hw1 : w = 1 → p1 ≤ 4 := fun z => by rw [z] at i1; exact i1
              have hw2 : w = 2 → p1 ≤ 15 := fun z => by rw [z] at i1; exact i1
              have hw3 : 3 ≤ w → p1 < 8 := fun z => by
                have : hiN w = 7 := by unfold hiN; rw [if_neg (by omega), if_neg (by omega), if_neg (by omega)]
                omega
              refine RD_s (w := w) (c := v) (a1 := p1) (a2 := p2) (a3 := p3) (N := 0) h hj (fun i hi => ?_) (fun i hi => ?_) (fun i hi => by rw [k6]) ?_ (F3.tr (e4.tr (FRL.i8 _))) ⟨?_, ?_, by omega, ?_, by omega, fun _ => ?_, fun z => absurd z w8, fun z => absurd z w0, fun z => ⟨i2, i3, hw1 z⟩, fun z => ⟨i2, i3, hw2 z⟩, fun z y => ⟨i2, i3, hw3 z, (i4 z).2.1, (i4 z).2.2, (i4 z).1⟩, fun z => ⟨(i5 z).2.1, (i5 z).2.2, (i5 z).1⟩⟩ (Or.inr ⟨w0, rfl, rfl⟩) ?_ ?_ ?_ rfl ?_
              · rw [k1, k2]; exact g3 i hi
              · rw [e5.2 i (by omega)]; rfl
              · exact e5.1.1 10 (by simp)
              · rw [k1]; exact g1
              · show M6.2.1 2 (20 + j) = _
                rw [e8]; exact m2
              · show M6.2.1 3 (20 + j) = _
                rw [e9]; exact m3
              · rw [k2]; exact g2
              · exact e5.1.1 0 (by simp)
              · exact (e5.1.1 4 (by simp)).trans h8
              · exact (e5.1.1 5 (by simp)).trans h9
              · show M6.1 32 = _
                rw [e7]; exact m32
end LINE2
