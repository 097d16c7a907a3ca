/-! the text read to its first fault, both sides -/
/-- what reading may change of the reference -/
def FRD (M M' : PS) : Prop := SX [8, 28, 29, 30, 31, 32] [2, 3, 4, 5, 6] [] M M' ∧ ∀ a i, i < 20 → M'.2.1 a i = M.2.1 a i
theorem FRD.rf {M : PS} : FRD M M := ⟨SX.rf, fun _ _ _ => rfl⟩
theorem FRD.tr {M N O : PS} (h : FRD M N) (g : FRD N O) : FRD M O := ⟨h.1.tr g.1, fun a i hi => (g.2 a i hi).trans (h.2 a i hi)⟩
theorem FRL.d {j : Nat} {M N : PS} (h : FRL j M N) : FRD M N := ⟨h.1, fun a i hi => h.2 a i (by omega)⟩
theorem FRD.of {M N : PS} {is : List Nat} (h : SX is [] [] M N) (h1 : ∀ k ∈ is, k ∈ [8, 28, 29, 30, 31, 32]) : FRD M N := (FRL.of (j := 0) h h1).d
theorem TX.frd {M M' : PS} {n : Nat} {tx : Nat → Nat} (h : TX M n tx) (g : FRD M M') : TX M' n tx := h.sx g.1 (by decide) (by decide)
theorem RD.frt {U M M' : PS} {j nd rw : Nat} {kd ce aa ab ac dn dz : Nat → Nat} (h : RD U M j nd rw kd ce aa ab ac dn dz) (g : SX [28, 29, 30] [] [] M M') : RD U M' j nd rw kd ce aa ab ac dn dz := by
  obtain ⟨h1, h2, h3, h4, h5, h6, h7, h8, h9, h10, h11, h12, hD, hK, hN, hS⟩ := h
  refine ⟨h1, h2, h3, h4, h5, h6, h7, h8, h9, h10, (g.1 8 (by simp)).trans h11, (g.1 32 (by simp)).trans h12, hD, fun k hk => ?_, hN, hS⟩
  obtain ⟨g1, g2⟩ := hK k hk
  refine ⟨g1.fr (Nat.le_refl _) rfl rfl (fun _ _ => rfl) (fun a _ => by rw [g.2.1 a (by simp)]), fun z => ?_⟩
  rw [g.2.1 4 (by simp)]
  exact g2 z
section READ
variable {T : PS} {n : Nat} {tx : Nat → Nat}
abbrev CI (T : PS) (f j : Nat) (R U : PS) : Option (Int32 × PS × PS) := loopF (fun x : Int32 × PS × PS => B_X3_readInto_15 T x.1 x.2.1 x.2.2) f (nI j, R, U)
abbrev MI (f : Nat) (M : PS) : Option (Int32 × PS) := b2 (f_X10_readsLine M) fun v S => if v = 0 then some (S.1 29, S) else loopF (fun x : PS => B_X10_fault_31 x) f S
theorem ci_in {f j j2 : Nat} {R U R2 U2 : PS} (h : B_X3_readInto_15 T (nI j) R U = some (.inl (nI j2, R2, U2))) : CI T (f + 1) j R U = CI T f j2 R2 U2 := loopF_in (B := fun x : Int32 × PS × PS => B_X3_readInto_15 T x.1 x.2.1 x.2.2) (s := (nI j, R, U)) (s2 := (nI j2, R2, U2)) h
theorem ci_out {f j : Nat} {R U : PS} {r : Int32 × PS × PS} (h : B_X3_readInto_15 T (nI j) R U = some (.inr r)) : CI T (f + 1) j R U = some r := loopF_out (B := fun x : Int32 × PS × PS => B_X3_readInto_15 T x.1 x.2.1 x.2.2) (s := (nI j, R, U)) h
theorem mi_in {f : Nat} {M M2 : PS} (h : B_X10_fault_31 M = some (.inl M2)) : loopF (fun x : PS => B_X10_fault_31 x) (f + 1) M = loopF (fun x : PS => B_X10_fault_31 x) f M2 := loopF_in (B := fun x : PS => B_X10_fault_31 x) (s := M) (s2 := M2) h
theorem mi_out {f : Nat} {M : PS} {r : Int32 × PS} (h : B_X10_fault_31 M = some (.inr r)) : loopF (fun x : PS => B_X10_fault_31 x) (f + 1) M = some r := loopF_out (B := fun x : PS => B_X10_fault_31 x) (s := M) h
theorem sgn_59 {b : Nat} (hb : b < n) (h : tx b = 59) : soN n tx b = 3 ∧ enN n tx b - b = 1 := by
  have c : clN 59 = 3 := by decide
  unfold soN enN
  rw [if_pos hb, h, c, if_pos hb, if_neg (by decide)]
  omega
theorem read_ok (hT : TX T n tx) : ∀ d j (R U M : PS) (b f1 f2 nd rw : Nat) (kd ce aa ab ac dn dz : Nat → Nat), j + d = 19 → TX M n tx → TK n tx R M b → RD U M j nd rw kd ce aa ab ac dn dz → d + 2 < f1 → d + 2 < f2 → ∃ r R' U' M', CI T f1 (j + 1) R U = some (r, R', U') ∧ MI f2 M = some (r, M') ∧ FRD M M' ∧ (r = -1 → ∃ j nd rw kd ce aa ab ac dn dz, RD U' M' j nd rw kd ce aa ab ac dn dz) := by
  intro d
  induction d with
  | zero =>
    intro j R U M b f1 f2 nd rw kd ce aa ab ac dn dz hj hM k h hf1 hf2
    obtain ⟨f1, rfl⟩ : ∃ m, f1 = m + 1 := ⟨f1 - 1, by omega⟩
    obtain ⟨f1, rfl⟩ : ∃ m, f1 = m + 1 := ⟨f1 - 1, by omega⟩
    obtain ⟨f2, rfl⟩ : ∃ m, f2 = m + 1 := ⟨f2 - 1, by omega⟩
    obtain ⟨fl, R', U', M', b', x1, x2, x3, x4, x5⟩ := line_ok hT hM k h (by omega)
    have h200 := hT.1
    obtain ⟨t1, t2, t3, t4, t5, t6, t7, t8⟩ := id x3
    have hM' : TX M' n tx := hM.frd x4.d
    have B : B_X3_readInto_15 T (nI (j + 1)) R U = if fl = 0 then some (.inr (R'.1 1, R', U')) else if R'.1 3 = 0 then some (.inr (-1, R', U')) else if R'.1 3 = 3 then (b1 (f_X6_at T (R'.1 1)) fun v14 => if v14 = 59 then (b1 (if 20 ≤ nI (j + 1) then some R' else b1 (f_X3_step R' T) fun S18 => some S18) fun S16 => bn (nI (j + 1) + 1) fun v19 => some (.inl (v19, S16, U'))) else some (.inr (R'.1 1, R', U'))) else some (.inr (R'.1 1, R', U')) := by
      unfold B_X3_readInto_15
      rw [if_neg (show ¬ (20 : Int32) < nI (j + 1) from nI_nlt (a := 20) (by omega) (by decide)), x1]
      rfl
    unfold MI
    rw [x2, b2_some]
    rcases x5 with rfl | ⟨rfl, nd2, rw2, kd2, ce2, aa2, ab2, ac2, dn2, dz2, h2⟩
    · rw [if_pos rfl] at B ⊢
      rw [t3] at B
      exact ⟨nI b', R', U', M', ci_out B, by rw [t7], x4.d, fun z => absurd z (nI_m1ne (by omega))⟩
    · have m8 : M'.1 8 = nI (j + 1) := h2.2.2.2.2.2.2.2.2.2.2.1
      rw [if_neg one_ne0] at B ⊢
      by_cases c : b' < n
      · have hc := cl_le (tx b')
        have s1 : soN n tx b' = clN (tx b') := by unfold soN; rw [if_pos c]
        have hs := so_le n tx b'
        have n0 : ¬ nI (soN n tx b') = (0 : Int32) := nI_ne0 (by omega) (by omega)
        rw [t5, if_neg n0, t3, at_ok hT c, b1_some] at B
        have C : B_X10_fault_31 M' = some (.inr (nI b', M')) := by
          unfold B_X10_fault_31
          rw [hM'.2.1, t7, if_neg (nI_ge c (by omega)), t8, m8, pk_sub (en_le t1).1, rdI_nI (by omega) (by decide), (hM'.2.2 b' c).1, b1_some, if_pos (show (20 : Int32) ≤ nI (j + 1) from nI_le (a := 20) (by omega) (by omega))]
          have v : (if nI (enN n tx b' - b') = 1 then (if nI (tx b') = 59 then some (0 : Int32) else some 0) else some 0) = some 0 := by
            split
            · split <;> rfl
            · rfl
          rw [v, b1_some, if_pos rfl, b2_some, if_pos rfl, t7]
        have D : ∃ R2 v, B_X3_readInto_15 T (nI (j + 1)) R U = some v ∧ (v = .inr (nI b', R2, U') ∨ (v = .inl (nI (j + 2), R2, U') ∧ R2.1 1 = nI b')) := by
          rw [B]
          by_cases q : nI (soN n tx b') = (3 : Int32)
          · rw [if_pos q]
            by_cases p : nI (tx b') = (59 : Int32)
            · rw [if_pos p, if_pos (show (20 : Int32) ≤ nI (j + 1) from nI_le (a := 20) (by omega) (by omega)), b1_some, bn_rw, nI_1]
              exact ⟨R', _, rfl, Or.inr ⟨rfl, t3⟩⟩
            · rw [if_neg p]
              exact ⟨R', _, rfl, Or.inl rfl⟩
          · rw [if_neg q]
            exact ⟨R', _, rfl, Or.inl rfl⟩
        obtain ⟨R2, v, e1, e2⟩ := D
        rcases e2 with rfl | ⟨rfl, e3⟩
        · exact ⟨nI b', R2, U', M', ci_out e1, mi_out C, x4.d, fun z => absurd z (nI_m1ne (by omega))⟩
        · refine ⟨nI b', R2, U', M', ?_, mi_out C, x4.d, fun z => absurd z (nI_m1ne (by omega))⟩
          refine (ci_in e1).trans (ci_out ?_)
          unfold B_X3_readInto_15
          rw [if_pos (show (20 : Int32) < nI (j + 2) from nI_lt (a := 20) (by omega) (by omega)), e3]
      · have s0 : soN n tx b' = 0 := by unfold soN; rw [if_neg c]
        rw [t5, s0, if_pos (show nI 0 = 0 from rfl)] at B
        have C : B_X10_fault_31 M' = some (.inr (-1, M')) := by
          unfold B_X10_fault_31
          rw [hM'.2.1, t7, if_pos (nI_le (by omega) (by omega))]
        exact ⟨-1, R', U', M', ci_out B, mi_out C, x4.d, fun _ => ⟨j + 1, nd2, rw2, kd2, ce2, aa2, ab2, ac2, dn2, dz2, h2⟩⟩
  | succ d ih =>
    intro j R U M b f1 f2 nd rw kd ce aa ab ac dn dz hj hM k h hf1 hf2
    obtain ⟨f1, rfl⟩ : ∃ m, f1 = m + 1 := ⟨f1 - 1, by omega⟩
    obtain ⟨f2, rfl⟩ : ∃ m, f2 = m + 1 := ⟨f2 - 1, by omega⟩
    obtain ⟨fl, R', U', M', b', x1, x2, x3, x4, x5⟩ := line_ok hT hM k h (by omega)
    have h200 := hT.1
    obtain ⟨t1, t2, t3, t4, t5, t6, t7, t8⟩ := id x3
    have hM' : TX M' n tx := hM.frd x4.d
    have B : B_X3_readInto_15 T (nI (j + 1)) R U = if fl = 0 then some (.inr (R'.1 1, R', U')) else if R'.1 3 = 0 then some (.inr (-1, R', U')) else if R'.1 3 = 3 then (b1 (f_X6_at T (R'.1 1)) fun v14 => if v14 = 59 then (b1 (if 20 ≤ nI (j + 1) then some R' else b1 (f_X3_step R' T) fun S18 => some S18) fun S16 => bn (nI (j + 1) + 1) fun v19 => some (.inl (v19, S16, U'))) else some (.inr (R'.1 1, R', U'))) else some (.inr (R'.1 1, R', U')) := by
      unfold B_X3_readInto_15
      rw [if_neg (show ¬ (20 : Int32) < nI (j + 1) from nI_nlt (a := 20) (by omega) (by decide)), x1]
      rfl
    unfold MI
    rw [x2, b2_some]
    rcases x5 with rfl | ⟨rfl, nd2, rw2, kd2, ce2, aa2, ab2, ac2, dn2, dz2, h2⟩
    · rw [if_pos rfl] at B ⊢
      rw [t3] at B
      exact ⟨nI b', R', U', M', ci_out B, by rw [t7], x4.d, fun z => absurd z (nI_m1ne (by omega))⟩
    · have m8 : M'.1 8 = nI (j + 1) := h2.2.2.2.2.2.2.2.2.2.2.1
      rw [if_neg one_ne0] at B ⊢
      by_cases c : b' < n
      · have hc := cl_le (tx b')
        have tb := (hM'.2.2 b' c).2
        have en := en_le (tx := tx) t1
        have s1 : soN n tx b' = clN (tx b') := by unfold soN; rw [if_pos c]
        have hs := so_le n tx b'
        have n0 : ¬ nI (soN n tx b') = (0 : Int32) := nI_ne0 (by omega) (by omega)
        rw [t5, if_neg n0, t3, at_ok hT c, b1_some] at B
        by_cases p : tx b' = 59
        · obtain ⟨p1, p2⟩ := sgn_59 (n := n) c p
          obtain ⟨R2, M2, bq, d1, d2, d3, d4⟩ := tk_go hT hM' (e := enN n tx b') en.2 t4 t6
          rw [p1, if_pos (show nI 3 = 3 from rfl), p, if_pos (show nI 59 = 59 from rfl), if_neg (show ¬ (20 : Int32) ≤ nI (j + 1) from nI_ge (b := 20) (by omega) (by decide)), d1, b1_some, b1_some, bn_rw, nI_1] at B
          obtain ⟨r, R3, U3, M3, y1, y2, y3, y4⟩ := ih (j + 1) R2 U' M2 bq f1 f2 nd2 rw2 kd2 ce2 aa2 ab2 ac2 dn2 dz2 (by omega) (hM'.sx d4 (by simp) (by simp)) d3 (h2.frt d4) (by omega) (by omega)
          refine ⟨r, R3, U3, M3, ?_, ?_, x4.d.tr ((FRD.of d4 (by decide)).tr y3), y4⟩
          · exact (ci_in B).trans y1
          · have C : B_X10_fault_31 M' = b2 (f_X10_readsLine M2) fun v19 S20 => if v19 = 0 then some (.inr (S20.1 29, S20)) else some (.inl S20) := by
              unfold B_X10_fault_31
              rw [hM'.2.1, t7, if_neg (nI_ge c (by omega)), t8, m8, pk_sub en.1, p2, if_pos (show nI 1 = 1 from rfl), rdI_nI (by omega) (by decide), (hM'.2.2 b' c).1, b1_some, p, if_pos (show nI 59 = 59 from rfl), if_neg (show ¬ (20 : Int32) ≤ nI (j + 1) from nI_ge (b := 20) (by omega) (by decide)), b1_some, if_neg one_ne0, d2, b1_some]
              generalize f_X10_readsLine M2 = o
              cases o <;> rfl
            unfold MI at y2
            cases ho : f_X10_readsLine M2 with
            | none => rw [ho] at y2; cases y2
            | some o =>
              obtain ⟨v, S20⟩ := o
              rw [ho, b2_some] at y2 C
              by_cases z : v = 0
              · rw [if_pos z] at y2 C
                rw [← y2]
                exact mi_out C
              · rw [if_neg z] at y2 C
                exact (mi_in C).trans y2
        · have n59 : ¬ nI (tx b') = (59 : Int32) := fun z => p ((nI_eq (b := 59) (by omega) (by decide)).mp z)
          rw [if_neg n59] at B
          have B2 : B_X3_readInto_15 T (nI (j + 1)) R U = some (.inr (nI b', R', U')) := by
            rw [B]
            split <;> rfl
          have C : B_X10_fault_31 M' = some (.inr (nI b', M')) := by
            unfold B_X10_fault_31
            rw [hM'.2.1, t7, if_neg (nI_ge c (by omega)), t8, pk_sub en.1, rdI_nI (by omega) (by decide), (hM'.2.2 b' c).1, b1_some, if_neg n59]
            have v : (if nI (enN n tx b' - b') = 1 then some (0 : Int32) else some 0) = some 0 := by
              split <;> rfl
            rw [v, b1_some, if_pos rfl, b2_some, if_pos rfl, t7]
          exact ⟨nI b', R', U', M', ci_out B2, mi_out C, x4.d, fun z => absurd z (nI_m1ne (by omega))⟩
      · have s0 : soN n tx b' = 0 := by unfold soN; rw [if_neg c]
        rw [t5, s0, if_pos (show nI 0 = 0 from rfl)] at B
        have C : B_X10_fault_31 M' = some (.inr (-1, M')) := by
          unfold B_X10_fault_31
          rw [hM'.2.1, t7, if_pos (nI_le (by omega) (by omega))]
        exact ⟨-1, R', U', M', ci_out B, mi_out C, x4.d, fun _ => ⟨j + 1, nd2, rw2, kd2, ce2, aa2, ab2, ac2, dn2, dz2, h2⟩⟩
/-- reading the whole text, both sides -/
theorem into_ok (hT : TX T n tx) {M : PS} (hM : TX M n tx) (R Dr : PS) : ∃ r R' U' M', f_X3_readInto R T Dr = some (r, R', U') ∧ f_X10_fault M = some (r, M') ∧ FRD M M' ∧ (r = -1 → ∃ j nd rw kd ce aa ab ac dn dz, RD U' M' j nd rw kd ce aa ab ac dn dz) := by
  have F0 : SX [8, 28, 32] [] [] M (sI (sI (sI M 28 0) 8 0) 32 1) := ((SX.rf.sI _ (by decide)).sI _ (by decide)).sI _ (by decide)
  obtain ⟨R1, M1, b, d1, d2, d3, d4⟩ := tk_go (R := sI R 2 0) hT (hM.sx F0 (by decide) (by decide)) (e := 0) (Nat.zero_le _) rfl rfl
  have h : RD (sI (sI (sI (sI Dr 0 0) 4 0) 5 1) 10 0) M1 0 0 1 (fun _ => 0) (fun _ => 0) (fun _ => 0) (fun _ => 0) (fun _ => 0) (fun _ => 0) (fun _ => 0) :=
    ⟨by omega, by omega, by omega, by omega, by decide, rfl, rfl, rfl, rfl, rfl, (d4.1 8 (by simp)).trans rfl, (d4.1 32 (by simp)).trans rfl, fun i hi => by omega, fun k hk => by omega, fun k hk => by omega, rfl⟩
  obtain ⟨r, R', U', M', y1, y2, y3, y4⟩ := read_ok hT 19 0 R1 _ M1 b FU FU 0 1 _ _ _ _ _ _ _ (by omega) ((hM.sx F0 (by decide) (by decide)).sx d4 (by simp) (by simp)) d3 h (FU_lt (by omega)) (FU_lt (by omega))
  refine ⟨r, R', U', M', ?_, ?_, (FRD.of F0 (by decide)).tr ((FRD.of d4 (by decide)).tr y3), y4⟩
  · unfold f_X3_readInto f_X2_clear
    rw [bn_rw, bn_rw, bn_rw, bn_rw, b1_some, bn_rw, d1, b1_some]
    exact y1
  · unfold f_X10_fault
    rw [bn_rw, bn_rw, bn_rw, d2, b1_some]
    exact y2
end READ
