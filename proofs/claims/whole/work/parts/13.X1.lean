abbrev rmX1_isPlace : Room := { frames := 0, cells := 0, slots := 0, locals := 0 }
def f_X1_isPlace (p1 : Int32) : Option (Int32) :=
  b1 (
    if p1 < 0 then
      some (0 : Int32)
    else
    if 12 ≤ p1 then
      some (0 : Int32)
    else
    some (1 : Int32)) fun v1 =>
  b1 (ckB v1) fun v4 =>
  some v4
set_option maxHeartbeats 4000000 in
set_option maxRecDepth 100000 in
theorem c_X1_isPlace (l : Launch) (D : va_G) (cs : CS) (p1 : Int32) (r : Int32) (hf : f_X1_isPlace p1 = some r) : CT l D (TY cs) yX1_isPlace wsX1_isPlace rmX1_isPlace [.int p1] ([]) (some (.int r)) ([]) := by
  refine CT.ofW (own := RX1) (cc := cX1_isPlace) (maxL := 1) (ret := some .boolean) (by decide) rfl rfl (Nat.le_of_ble_eq_true rfl) ?_
  intro p e s m args below meth c A Q X hret ls hl hw
  obtain ⟨hx, hb, hml, hown, hts, hK, hA, hr, hlk⟩ := id X
  have hl : lv_has ls 1 [(0, .int p1)] := hl
  unfold f_X1_isPlace at hf
  refine lv_iload_n (pc := 0) hx hb dX1_isPlace_0 rfl (lv_at hl 0 rfl) ?_
  obtain ⟨v1, hj, hf⟩ := b1_ob hf
  have J15_0 : ∀ (H : Heap) (locs : List Loc) (ls : Array Slot), WD D A s ([]) H locs → lv_has ls 1 [] → W p l e rmX1_isPlace s m args below meth c H locs 0 0 Q (F0 m 15 ls [.int v1]) := by
    intro H locs ls hw hl
    obtain ⟨v4, ev4, hf⟩ := b1_ob hf
    refine x_topi (ckB_ob ev4).1.symm ?_
    cases hf
    exact hret _ _ 15 _ hw ⟨_, rfl, ckB_nar (ckB_ob ev4).2⟩ dX1_isPlace_15
  clear hf; have hf := hj; clear hj
  refine lv_if_lt (pc := 1) (tgt := 14) hx hb dX1_isPlace_1 (by decide) (fun c2 => ?_) (fun c2 => ?_)
  · have hf := ipos c2 hf
    refine lv_iconst (pc := 14) (v := 0) hx hb dX1_isPlace_14 (by decide) ?_
    cases hf
    exact J15_0 _ _ _ hw (lv_sub hl [] rfl)
  · have hf := ineg c2 hf
    refine lv_iload_n (pc := 4) hx hb dX1_isPlace_4 rfl (lv_at hl 0 rfl) ?_
    refine lv_bipush (pc := 5) (v := 12) hx hb dX1_isPlace_5 (by decide) ?_
    refine lv_icmp_ge (pc := 7) (tgt := 14) hx hb dX1_isPlace_7 (by decide) (fun c3 => ?_) (fun c3 => ?_)
    · have hf := ipos c3 hf
      refine lv_iconst (pc := 14) (v := 0) hx hb dX1_isPlace_14 (by decide) ?_
      cases hf
      exact J15_0 _ _ _ hw (lv_sub hl [] rfl)
    · have hf := ineg c3 hf
      refine lv_iconst (pc := 10) (v := 1) hx hb dX1_isPlace_10 (by decide) ?_
      refine lv_goto (pc := 11) (tgt := 15) hx hb dX1_isPlace_11 (by decide) ?_
      cases hf
      exact J15_0 _ _ _ hw (lv_sub hl [] rfl)

abbrev rmX1_putIn : Room := { frames := 0, cells := 0, slots := 0, locals := 0 }
def B_X1_putIn_15 (n1 : Nat) (g1 : Nat → Int64) (n2 : Nat) (p3 : Int32) (v1 : Int32) (v3 : Int32) (g24 : Nat → Int64) : Option ((Int32 × (Nat → Int64)) ⊕ ((Nat → Int64))) :=
  if v1 ≤ v3 then
    some (.inr g24)
  else
  b1 (rdL n1 g1 ((3 * v1) + v3)) fun v6 =>
  b1 (rdL n1 g1 ((2 * v1) + v3)) fun v7 =>
  bn ((v6 * (p3.toInt64)) + v7) fun v8 =>
  b1 (rdL n1 g1 (v1 + v3)) fun v9 =>
  bn ((v8 * (p3.toInt64)) + v9) fun v10 =>
  b1 (rdL n1 g1 v3) fun v11 =>
  b1 (wrL n2 g24 v3 ((v10 * (p3.toInt64)) + v11)) fun f12 =>
  bn (v3 + 1) fun v13 =>
  some (.inl (v13, f12))
def L_X1_putIn_15 (n1 : Nat) (g1 : Nat → Int64) (n2 : Nat) (p3 : Int32) (v1 : Int32) (n : Nat) (v3 : Int32) (g24 : Nat → Int64) : Option ((Nat → Int64)) := loopF (fun x : Int32 × (Nat → Int64) => B_X1_putIn_15 n1 g1 n2 p3 v1 x.1 x.2) n (v3, g24)
def f_X1_putIn (n1 : Nat) (g1 : Nat → Int64) (n2 : Nat) (g2 : Nat → Int64) (p3 : Int32) : Option ((Nat → Int64)) :=
  bn (Int32.ofNat n2) fun v1 =>
  if (4 * v1) ≤ (Int32.ofNat n1) then
    b1 (L_X1_putIn_15 n1 g1 n2 p3 v1 FU 0 g2) fun g214 =>
    some g214
  else
  some g2
set_option maxHeartbeats 4000000 in
set_option maxRecDepth 100000 in
theorem c_X1_putIn (l : Launch) (D : va_G) (cs : CS) (b1 : Nat) (b2 : Nat) (n1 : Nat) (n2 : Nat) (g1 : Nat → Int64) (g2 : Nat → Int64) (p3 : Int32) (g2' : Nat → Int64) (hf : f_X1_putIn n1 g1 n2 g2 p3 = some g2') : CT l D (TY cs) yX1_putIn wsX1_putIn rmX1_putIn [.ref b1, .ref b2, .int p3] ([(b1, .inl (cs.2.1, n1, .inr (.inl g1)))] ++ [(b2, .inl (cs.2.1, n2, .inr (.inl g2)))]) none ([(b1, .inl (cs.2.1, n1, .inr (.inl g1)))] ++ [(b2, .inl (cs.2.1, n2, .inr (.inl g2')))]) := by
  refine CT.ofW (own := RX1) (cc := cX1_putIn) (maxL := 7) (ret := none) (by decide) rfl rfl (Nat.le_of_ble_eq_true rfl) ?_
  intro p e s m args below meth c A Q X hret ls hl hw
  obtain ⟨hx, hb, hml, hown, hts, hK, hA, hr, hlk⟩ := id X
  have hl : lv_has ls 7 [(0, .ref b1), (1, .ref b2), (2, .int p3)] := hl
  unfold f_X1_putIn at hf
  refine lv_aload_n (pc := 0) hx hb dX1_putIn_0 rfl (lv_at hl 1 rfl) ?_
  refine x_alen (pc := 1) X hw 1 1 rfl rfl rfl dX1_putIn_1 ?_
  obtain ⟨v1, ev1, hf⟩ := bn_ob hf
  refine x_topi ev1 ?_
  refine lv_istore_n (lv' := [(3, .int v1), (0, .ref b1), (1, .ref b2), (2, .int p3)]) (pc := 2) hx hb dX1_putIn_2 rfl hl (by decide) rfl (fun ls hl => ?_)
  refine lv_aload_n (pc := 3) hx hb dX1_putIn_3 rfl (lv_at hl 1 rfl) ?_
  refine x_alen (pc := 4) X hw 0 1 rfl rfl rfl dX1_putIn_4 ?_
  refine lv_iconst (pc := 5) (v := 4) hx hb dX1_putIn_5 (by decide) ?_
  refine lv_iload_n (pc := 6) hx hb dX1_putIn_6 rfl (lv_at hl 0 rfl) ?_
  refine lv_imul (pc := 7) hx hb dX1_putIn_7 ?_
  refine lv_icmp_ge (pc := 8) (tgt := 12) hx hb dX1_putIn_8 (by decide) (fun c2 => ?_) (fun c2 => ?_)
  · have hf := ipos c2 hf
    refine lv_iconst (pc := 12) (v := 0) hx hb dX1_putIn_12 (by decide) ?_
    refine lv_istore (lv' := [(4, .int 0), (3, .int v1), (0, .ref b1), (1, .ref b2), (2, .int p3)]) (pc := 13) hx hb dX1_putIn_13 hl (by decide) rfl (fun ls hl => ?_)
    have L15 : ∀ (n : Nat) (v3 : Int32) (g24 : Nat → Int64) (rg24 : Nat → Int64), L_X1_putIn_15 n1 g1 n2 p3 v1 n v3 g24 = some rg24 → ∀ (H : Heap) (locs : List Loc) (ls : Array Slot), WD D A s ([(b1, .inl (cs.2.1, n1, .inr (.inl g1)))] ++ [(b2, .inl (cs.2.1, n2, .inr (.inl g24)))]) H locs → lv_has ls 7 [(0, .ref b1), (1, .ref b2), (2, .int p3), (3, .int v1), (4, .int v3)] → (∀ (H : Heap) (locs : List Loc) (ls : Array Slot), WD D A s ([(b1, .inl (cs.2.1, n1, .inr (.inl g1)))] ++ [(b2, .inl (cs.2.1, n2, .inr (.inl rg24)))]) H locs → lv_has ls 7 [] → W p l e rmX1_putIn s m args below meth c H locs 0 0 Q (F0 m 81 ls [])) → W p l e rmX1_putIn s m args below meth c H locs 0 0 Q (F0 m 15 ls []) := by
      intro n
      induction n with
      | zero => intro v3 g24 rg24 hf; exact (loopF_z hf).elim
      | succ n ih =>
        intro v3 g24 rg24 hf H locs ls hw hl K
        obtain ⟨x, hf, hx0⟩ := loopF_ob hf
        have hf : B_X1_putIn_15 n1 g1 n2 p3 v1 v3 g24 = some x := hf
        unfold B_X1_putIn_15 at hf
        refine lv_iload (pc := 15) hx hb dX1_putIn_15 (lv_at hl 4 rfl) ?_
        refine lv_iload_n (pc := 17) hx hb dX1_putIn_17 rfl (lv_at hl 3 rfl) ?_
        refine lv_icmp_ge (pc := 18) (tgt := 81) hx hb dX1_putIn_18 (by decide) (fun c5 => ?_) (fun c5 => ?_)
        · have hf := ipos c5 hf
          cases hf
          cases (hx0 : g24 = rg24)
          exact K _ _ _ hw (lv_sub hl [] rfl)
        · have hf := ineg c5 hf
          refine lv_aload_n (pc := 21) hx hb dX1_putIn_21 rfl (lv_at hl 0 rfl) ?_
          refine lv_iconst (pc := 22) (v := 3) hx hb dX1_putIn_22 (by decide) ?_
          refine lv_iload_n (pc := 23) hx hb dX1_putIn_23 rfl (lv_at hl 3 rfl) ?_
          refine lv_imul (pc := 24) hx hb dX1_putIn_24 ?_
          refine lv_iload (pc := 25) hx hb dX1_putIn_25 (lv_at hl 4 rfl) ?_
          refine lv_iadd (pc := 27) hx hb dX1_putIn_27 ?_
          obtain ⟨v6, ev6, hf⟩ := b1_ob hf
          refine x_lald (pc := 28) X hw 0 1 rfl rfl ev6 dX1_putIn_28 ?_
          refine lv_lstore (lv' := [(5, .long v6), (0, .ref b1), (1, .ref b2), (2, .int p3), (3, .int v1), (4, .int v3)]) (pc := 29) hx hb dX1_putIn_29 hl (by decide) rfl (fun ls hl => ?_)
          refine lv_lload (pc := 31) hx hb dX1_putIn_31 (lv_at hl 0 rfl) ?_
          refine lv_iload_n (pc := 33) hx hb dX1_putIn_33 rfl (lv_at hl 3 rfl) ?_
          refine lv_i2l (pc := 34) hx hb dX1_putIn_34 rfl ?_
          refine lv_lmul (pc := 35) hx hb dX1_putIn_35 ?_
          refine lv_aload_n (pc := 36) hx hb dX1_putIn_36 rfl (lv_at hl 1 rfl) ?_
          refine lv_iconst (pc := 37) (v := 2) hx hb dX1_putIn_37 (by decide) ?_
          refine lv_iload_n (pc := 38) hx hb dX1_putIn_38 rfl (lv_at hl 4 rfl) ?_
          refine lv_imul (pc := 39) hx hb dX1_putIn_39 ?_
          refine lv_iload (pc := 40) hx hb dX1_putIn_40 (lv_at hl 5 rfl) ?_
          refine lv_iadd (pc := 42) hx hb dX1_putIn_42 ?_
          obtain ⟨v7, ev7, hf⟩ := b1_ob hf
          refine x_lald (pc := 43) X hw 0 1 rfl rfl ev7 dX1_putIn_43 ?_
          refine lv_ladd (pc := 44) hx hb dX1_putIn_44 ?_
          obtain ⟨v8, ev8, hf⟩ := bn_ob hf
          refine x_topl ev8 ?_
          refine lv_lstore (lv' := [(5, .long v8), (0, .ref b1), (1, .ref b2), (2, .int p3), (3, .int v1), (4, .int v3)]) (pc := 45) hx hb dX1_putIn_45 hl (by decide) rfl (fun ls hl => ?_)
          refine lv_lload (pc := 47) hx hb dX1_putIn_47 (lv_at hl 0 rfl) ?_
          refine lv_iload_n (pc := 49) hx hb dX1_putIn_49 rfl (lv_at hl 3 rfl) ?_
          refine lv_i2l (pc := 50) hx hb dX1_putIn_50 rfl ?_
          refine lv_lmul (pc := 51) hx hb dX1_putIn_51 ?_
          refine lv_aload_n (pc := 52) hx hb dX1_putIn_52 rfl (lv_at hl 1 rfl) ?_
          refine lv_iload_n (pc := 53) hx hb dX1_putIn_53 rfl (lv_at hl 4 rfl) ?_
          refine lv_iload (pc := 54) hx hb dX1_putIn_54 (lv_at hl 5 rfl) ?_
          refine lv_iadd (pc := 56) hx hb dX1_putIn_56 ?_
          obtain ⟨v9, ev9, hf⟩ := b1_ob hf
          refine x_lald (pc := 57) X hw 0 1 rfl rfl ev9 dX1_putIn_57 ?_
          refine lv_ladd (pc := 58) hx hb dX1_putIn_58 ?_
          obtain ⟨v10, ev10, hf⟩ := bn_ob hf
          refine x_topl ev10 ?_
          refine lv_lstore (lv' := [(5, .long v10), (0, .ref b1), (1, .ref b2), (2, .int p3), (3, .int v1), (4, .int v3)]) (pc := 59) hx hb dX1_putIn_59 hl (by decide) rfl (fun ls hl => ?_)
          refine lv_aload_n (pc := 61) hx hb dX1_putIn_61 rfl (lv_at hl 2 rfl) ?_
          refine lv_iload (pc := 62) hx hb dX1_putIn_62 (lv_at hl 5 rfl) ?_
          refine lv_lload (pc := 64) hx hb dX1_putIn_64 (lv_at hl 0 rfl) ?_
          refine lv_iload_n (pc := 66) hx hb dX1_putIn_66 rfl (lv_at hl 3 rfl) ?_
          refine lv_i2l (pc := 67) hx hb dX1_putIn_67 rfl ?_
          refine lv_lmul (pc := 68) hx hb dX1_putIn_68 ?_
          refine lv_aload_n (pc := 69) hx hb dX1_putIn_69 rfl (lv_at hl 1 rfl) ?_
          refine lv_iload (pc := 70) hx hb dX1_putIn_70 (lv_at hl 5 rfl) ?_
          obtain ⟨v11, ev11, hf⟩ := b1_ob hf
          refine x_lald (pc := 72) X hw 0 1 rfl rfl ev11 dX1_putIn_72 ?_
          refine lv_ladd (pc := 73) hx hb dX1_putIn_73 ?_
          obtain ⟨f12, ef12, hf⟩ := b1_ob hf
          refine x_last (pc := 74) X hw 1 1 rfl rfl (wrL_ob ef12).1 dX1_putIn_74 (ws2 := [(b1, .inl (cs.2.1, n1, .inr (.inl g1)))] ++ [(b2, .inl (cs.2.1, n2, .inr (.inl f12)))]) (by rw [← (wrL_ob ef12).2]; rfl) (fun H locs hw => ?_)
          obtain ⟨v13, ev13, hf⟩ := bn_ob hf
          refine lv_iinc (pc := 75) (v := v13) (lv' := [(4, .int v13), (5, .long v10), (0, .ref b1), (1, .ref b2), (2, .int p3), (3, .int v1)]) hx hb dX1_putIn_75 hl (k := 5) rfl (by rw [ev13]; rfl) (by decide) rfl (fun ls hl => ?_)
          refine lv_goto (pc := 78) (tgt := 15) hx hb dX1_putIn_78 (by decide) ?_
          cases hf
          exact ih v13 f12 rg24 hx0 _ _ _ hw (lv_sub hl [2, 3, 4, 5, 0] rfl) K
    obtain ⟨g214, hj, hf⟩ := b1_ob hf
    refine L15 _ 0 g2 g214 hj _ _ _ hw (lv_sub hl [2, 3, 4, 1, 0] rfl) (fun H locs ls hw hl => ?_)
    clear hj L15
    cases hf
    exact hret _ _ 81 _ hw rfl dX1_putIn_81
  · have hf := ineg c2 hf
    cases hf
    exact hret _ _ 11 _ hw rfl dX1_putIn_11

theorem in_X1_valueAt_X5 : ∀ w ∈ wsX50, w ∈ wsX1_valueAt := fun _ h => List.mem_cons_of_mem _ (List.mem_append_left _ (List.mem_append_right _ h))
theorem in_X1_valueAt_X1 : ∀ w ∈ wsX10, w ∈ wsX1_valueAt := fun _ h => List.mem_cons_of_mem _ (List.mem_append_right _ h)
abbrev rmX1_valueAt : Room := { frames := 1, cells := 0, slots := 0, locals := 26 }
def f_X1_valueAt (S : PS) (U1 : PS) (p2 : Int32) (p3 : Int32) (p4 : Int32) : Option (Int64 × PS) :=
  b1 (f_X1_putIn 64 (U1.2.2 0) 16 (S.2.2 1) p2) fun f1 =>
  bn (sL S 1 f1) fun S2 =>
  b1 (f_X1_putIn 16 (S2.2.2 1) 4 (S2.2.2 2) p3) fun f3 =>
  bn (sL S2 2 f3) fun S4 =>
  b1 (f_X1_putIn 4 (S4.2.2 2) 1 (S4.2.2 3) p4) fun f5 =>
  bn (sL S4 3 f5) fun S6 =>
  b1 (rdL 1 (S6.2.2 3) 0) fun v7 =>
  some (v7, S6)
set_option maxHeartbeats 4000000 in
set_option maxRecDepth 100000 in
theorem c_X1_valueAt (l : Launch) (D : va_G) (cs : CS) (a : Nat) (b1 : Nat) (q : Nat → Nat) (qU1 : Nat → Nat) (S : PS) (U1 : PS) (p2 : Int32) (p3 : Int32) (p4 : Int32) (r : Int64) (S' : PS) (hf : f_X1_valueAt S U1 p2 p3 p4 = some (r, S')) : CT l D (TY cs) yX1_valueAt wsX1_valueAt rmX1_valueAt [.ref a, .ref b1, .int p2, .int p3, .int p4] (wX1 cs a q S ++ wX5 cs b1 qU1 U1) (some (.long r)) (wX1 cs a q S' ++ wX5 cs b1 qU1 U1) := by
  refine CT.ofW (own := RX1) (cc := cX1_valueAt) (maxL := 5) (ret := some .long) (by decide) rfl rfl (Nat.le_of_ble_eq_true rfl) ?_
  intro p e s m args below meth c A Q X hret ls hl hw
  obtain ⟨hx, hb, hml, hown, hts, hK, hA, hr, hlk⟩ := id X
  have hl : lv_has ls 5 [(0, .ref a), (1, .ref b1), (2, .int p2), (3, .int p3), (4, .int p4)] := hl
  unfold f_X1_valueAt at hf
  refine lv_aload_n (pc := 0) hx hb dX1_valueAt_0 rfl (lv_at hl 1 rfl) ?_
  refine x_get (pc := 1) X hw in_X1_valueAt_X5 5 rfl rfl 0 (by decide) (List.mem_of_getElem? (i := 1) rfl) rfl dX1_valueAt_1 ?_
  refine lv_aload_n (pc := 4) hx hb dX1_valueAt_4 rfl (lv_at hl 0 rfl) ?_
  refine x_get (pc := 5) X hw in_X1_valueAt_X1 0 rfl rfl 1 (by decide) (List.mem_of_getElem? (i := 2) rfl) rfl dX1_valueAt_5 ?_
  refine lv_iload_n (pc := 8) hx hb dX1_valueAt_8 rfl (lv_at hl 2 rfl) ?_
  obtain ⟨f1, hc, hf⟩ := b1_ob hf
  obtain ⟨S2, eS2, hf⟩ := bn_ob hf
  refine x_cut (pc := 9) (wr := ([0, 1, 3, 4, 5].filterMap (fun i => (wX1 cs a q S ++ wX5 cs b1 qU1 U1)[i]?))) (ws2 := wX1 cs a q S2 ++ wX5 cs b1 qU1 U1) X hw [6, 2] [0, 1, 3, 4, 5] [0, 1, 6, 2, 3, 4, 5] rfl rfl (by decide) (by decide) (by rw [eS2]; rfl) (by decide) (va_runS (As := [.ref (qU1 0), .ref (q 1), .int p2]) (rest := []) ⟨hx, hb, hml, hown, hts⟩ (c_X1_putIn l D cs (qU1 0) (q 1) 64 16 (U1.2.2 0) (S.2.2 1) p2 f1 hc _) (va_cwS 3 hts gX1_valueAt_X1_putIn rfl rfl rfl (by decide +kernel) ⟨Nat.le_of_ble_eq_true rfl, Nat.le_of_ble_eq_true rfl⟩) ⟨CP_blind, x_preC X hw [6, 2] rfl (by decide) [.ref (qU1 0), .ref (q 1), .int p2]⟩ rfl rfl hl.1 rfl (lv_room (Nat.le_of_ble_eq_true rfl)) dX1_valueAt_9 ⟨Nat.zero_le _, Nat.zero_le _⟩) (fun H locs hw => ?_)
  refine lv_aload_n (pc := 12) hx hb dX1_valueAt_12 rfl (lv_at hl 0 rfl) ?_
  refine x_get (pc := 13) X hw in_X1_valueAt_X1 0 rfl rfl 1 (by decide) (List.mem_of_getElem? (i := 2) rfl) rfl dX1_valueAt_13 ?_
  refine lv_aload_n (pc := 16) hx hb dX1_valueAt_16 rfl (lv_at hl 0 rfl) ?_
  refine x_get (pc := 17) X hw in_X1_valueAt_X1 0 rfl rfl 2 (by decide) (List.mem_of_getElem? (i := 3) rfl) rfl dX1_valueAt_17 ?_
  refine lv_iload_n (pc := 20) hx hb dX1_valueAt_20 rfl (lv_at hl 3 rfl) ?_
  obtain ⟨f3, hc, hf⟩ := b1_ob hf
  obtain ⟨S4, eS4, hf⟩ := bn_ob hf
  refine x_cut (pc := 21) (wr := ([0, 1, 4, 5, 6].filterMap (fun i => (wX1 cs a q S2 ++ wX5 cs b1 qU1 U1)[i]?))) (ws2 := wX1 cs a q S4 ++ wX5 cs b1 qU1 U1) X hw [2, 3] [0, 1, 4, 5, 6] [0, 1, 5, 6, 2, 3, 4] rfl rfl (by decide) (by decide) (by rw [eS4]; rfl) (by decide) (va_runS (As := [.ref (q 1), .ref (q 2), .int p3]) (rest := []) ⟨hx, hb, hml, hown, hts⟩ (c_X1_putIn l D cs (q 1) (q 2) 16 4 (S2.2.2 1) (S2.2.2 2) p3 f3 hc _) (va_cwS 3 hts gX1_valueAt_X1_putIn rfl rfl rfl (by decide +kernel) ⟨Nat.le_of_ble_eq_true rfl, Nat.le_of_ble_eq_true rfl⟩) ⟨CP_blind, x_preC X hw [2, 3] rfl (by decide) [.ref (q 1), .ref (q 2), .int p3]⟩ rfl rfl hl.1 rfl (lv_room (Nat.le_of_ble_eq_true rfl)) dX1_valueAt_21 ⟨Nat.zero_le _, Nat.zero_le _⟩) (fun H locs hw => ?_)
  refine lv_aload_n (pc := 24) hx hb dX1_valueAt_24 rfl (lv_at hl 0 rfl) ?_
  refine x_get (pc := 25) X hw in_X1_valueAt_X1 0 rfl rfl 2 (by decide) (List.mem_of_getElem? (i := 3) rfl) rfl dX1_valueAt_25 ?_
  refine lv_aload_n (pc := 28) hx hb dX1_valueAt_28 rfl (lv_at hl 0 rfl) ?_
  refine x_get (pc := 29) X hw in_X1_valueAt_X1 0 rfl rfl 3 (by decide) (List.mem_of_getElem? (i := 4) rfl) rfl dX1_valueAt_29 ?_
  refine lv_iload (pc := 32) hx hb dX1_valueAt_32 (lv_at hl 4 rfl) ?_
  obtain ⟨f5, hc, hf⟩ := b1_ob hf
  obtain ⟨S6, eS6, hf⟩ := bn_ob hf
  refine x_cut (pc := 34) (wr := ([0, 1, 2, 5, 6].filterMap (fun i => (wX1 cs a q S4 ++ wX5 cs b1 qU1 U1)[i]?))) (ws2 := wX1 cs a q S6 ++ wX5 cs b1 qU1 U1) X hw [3, 4] [0, 1, 2, 5, 6] [0, 1, 2, 5, 6, 3, 4] rfl rfl (by decide) (by decide) (by rw [eS6]; rfl) (by decide) (va_runS (As := [.ref (q 2), .ref (q 3), .int p4]) (rest := []) ⟨hx, hb, hml, hown, hts⟩ (c_X1_putIn l D cs (q 2) (q 3) 4 1 (S4.2.2 2) (S4.2.2 3) p4 f5 hc _) (va_cwS 3 hts gX1_valueAt_X1_putIn rfl rfl rfl (by decide +kernel) ⟨Nat.le_of_ble_eq_true rfl, Nat.le_of_ble_eq_true rfl⟩) ⟨CP_blind, x_preC X hw [3, 4] rfl (by decide) [.ref (q 2), .ref (q 3), .int p4]⟩ rfl rfl hl.1 rfl (lv_room (Nat.le_of_ble_eq_true rfl)) dX1_valueAt_34 ⟨Nat.zero_le _, Nat.zero_le _⟩) (fun H locs hw => ?_)
  refine lv_aload_n (pc := 37) hx hb dX1_valueAt_37 rfl (lv_at hl 0 rfl) ?_
  refine x_get (pc := 38) X hw in_X1_valueAt_X1 0 rfl rfl 3 (by decide) (List.mem_of_getElem? (i := 4) rfl) rfl dX1_valueAt_38 ?_
  refine lv_iconst (pc := 41) (v := 0) hx hb dX1_valueAt_41 (by decide) ?_
  obtain ⟨v7, ev7, hf⟩ := b1_ob hf
  refine x_lald (pc := 42) X hw 4 1 rfl rfl ev7 dX1_valueAt_42 ?_
  cases hf
  exact hret _ _ 43 _ hw rfl dX1_valueAt_43

theorem in_X1_compareRow_X1 : ∀ w ∈ wsX10, w ∈ wsX1_compareRow := fun _ h => List.mem_cons_of_mem _ (List.mem_append_right _ h)
abbrev rmX1_compareRow : Room := { frames := 1, cells := 0, slots := 0, locals := 26 }
def B_X1_compareRow_2 (p1 : Int32) (p2 : Int32) (v1 : Int32) (S2 : PS) : Option ((Int32 × PS) ⊕ (PS)) :=
  if p2 ≤ v1 then
    some (.inr S2)
  else
  b1 (f_X1_putIn 4 (S2.2.2 2) 1 (S2.2.2 3) v1) fun f4 =>
  bn (sL S2 3 f4) fun S5 =>
  b1 (rdL 1 (S5.2.2 3) 0) fun v6 =>
  b1 (
    if (lg_cmp v6 0) = 0 then
      bn (sI S5 4 ((S5.1 4) + 1)) fun S11 =>
      some S11
    else
    if (S5.1 5) = (-1) then
      bn (sI S5 5 (p1 + v1)) fun S10 =>
      some S10
    else
    some S5) fun S7 =>
  bn (v1 + 1) fun v12 =>
  some (.inl (v12, S7))
def L_X1_compareRow_2 (p1 : Int32) (p2 : Int32) (n : Nat) (v1 : Int32) (S2 : PS) : Option (PS) := loopF (fun x : Int32 × PS => B_X1_compareRow_2 p1 p2 x.1 x.2) n (v1, S2)
def f_X1_compareRow (S : PS) (p1 : Int32) (p2 : Int32) : Option (PS) :=
  b1 (L_X1_compareRow_2 p1 p2 FU 0 S) fun S13 =>
  some S13
set_option maxHeartbeats 4000000 in
set_option maxRecDepth 100000 in
theorem c_X1_compareRow (l : Launch) (D : va_G) (cs : CS) (a : Nat) (q : Nat → Nat) (S : PS) (p1 : Int32) (p2 : Int32) (S' : PS) (hf : f_X1_compareRow S p1 p2 = some S') : CT l D (TY cs) yX1_compareRow wsX1_compareRow rmX1_compareRow [.ref a, .int p1, .int p2] (wX1 cs a q S) none (wX1 cs a q S') := by
  refine CT.ofW (own := RX1) (cc := cX1_compareRow) (maxL := 4) (ret := none) (by decide) rfl rfl (Nat.le_of_ble_eq_true rfl) ?_
  intro p e s m args below meth c A Q X hret ls hl hw
  obtain ⟨hx, hb, hml, hown, hts, hK, hA, hr, hlk⟩ := id X
  have hl : lv_has ls 4 [(0, .ref a), (1, .int p1), (2, .int p2)] := hl
  unfold f_X1_compareRow at hf
  refine lv_iconst (pc := 0) (v := 0) hx hb dX1_compareRow_0 (by decide) ?_
  refine lv_istore_n (lv' := [(3, .int 0), (0, .ref a), (1, .int p1), (2, .int p2)]) (pc := 1) hx hb dX1_compareRow_1 rfl hl (by decide) rfl (fun ls hl => ?_)
  have L2 : ∀ (n : Nat) (v1 : Int32) (S2 : PS) (rS2 : PS), L_X1_compareRow_2 p1 p2 n v1 S2 = some rS2 → ∀ (H : Heap) (locs : List Loc) (ls : Array Slot), WD D A s (wX1 cs a q S2) H locs → lv_has ls 4 [(0, .ref a), (1, .int p1), (2, .int p2), (3, .int v1)] → (∀ (H : Heap) (locs : List Loc) (ls : Array Slot), WD D A s (wX1 cs a q rS2) H locs → lv_has ls 4 [] → W p l e rmX1_compareRow s m args below meth c H locs 0 0 Q (F0 m 64 ls [])) → W p l e rmX1_compareRow s m args below meth c H locs 0 0 Q (F0 m 2 ls []) := by
    intro n
    induction n with
    | zero => intro v1 S2 rS2 hf; exact (loopF_z hf).elim
    | succ n ih =>
      intro v1 S2 rS2 hf H locs ls hw hl K
      obtain ⟨x, hf, hx0⟩ := loopF_ob hf
      have hf : B_X1_compareRow_2 p1 p2 v1 S2 = some x := hf
      unfold B_X1_compareRow_2 at hf
      refine lv_iload_n (pc := 2) hx hb dX1_compareRow_2 rfl (lv_at hl 3 rfl) ?_
      refine lv_iload_n (pc := 3) hx hb dX1_compareRow_3 rfl (lv_at hl 2 rfl) ?_
      refine lv_icmp_ge (pc := 4) (tgt := 64) hx hb dX1_compareRow_4 (by decide) (fun c3 => ?_) (fun c3 => ?_)
      · have hf := ipos c3 hf
        cases hf
        cases (hx0 : S2 = rS2)
        exact K _ _ _ hw (lv_sub hl [] rfl)
      · have hf := ineg c3 hf
        refine lv_aload_n (pc := 7) hx hb dX1_compareRow_7 rfl (lv_at hl 0 rfl) ?_
        refine x_get (pc := 8) X hw in_X1_compareRow_X1 0 rfl rfl 2 (by decide) (List.mem_of_getElem? (i := 1) rfl) rfl dX1_compareRow_8 ?_
        refine lv_aload_n (pc := 11) hx hb dX1_compareRow_11 rfl (lv_at hl 0 rfl) ?_
        refine x_get (pc := 12) X hw in_X1_compareRow_X1 0 rfl rfl 3 (by decide) (List.mem_of_getElem? (i := 2) rfl) rfl dX1_compareRow_12 ?_
        refine lv_iload_n (pc := 15) hx hb dX1_compareRow_15 rfl (lv_at hl 3 rfl) ?_
        obtain ⟨f4, hc, hf⟩ := b1_ob hf
        obtain ⟨S5, eS5, hf⟩ := bn_ob hf
        refine x_cut (pc := 16) (wr := ([0, 1, 2].filterMap (fun i => (wX1 cs a q S2)[i]?))) (ws2 := wX1 cs a q S5) X hw [3, 4] [0, 1, 2] [0, 1, 2, 3, 4] rfl rfl (by decide) (by decide) (by rw [eS5]; rfl) (by decide) (va_runS (As := [.ref (q 2), .ref (q 3), .int v1]) (rest := []) ⟨hx, hb, hml, hown, hts⟩ (c_X1_putIn l D cs (q 2) (q 3) 4 1 (S2.2.2 2) (S2.2.2 3) v1 f4 hc _) (va_cwS 3 hts gX1_compareRow_X1_putIn rfl rfl rfl (by decide +kernel) ⟨Nat.le_of_ble_eq_true rfl, Nat.le_of_ble_eq_true rfl⟩) ⟨CP_blind, x_preC X hw [3, 4] rfl (by decide) [.ref (q 2), .ref (q 3), .int v1]⟩ rfl rfl hl.1 rfl (lv_room (Nat.le_of_ble_eq_true rfl)) dX1_compareRow_16 ⟨Nat.zero_le _, Nat.zero_le _⟩) (fun H locs hw => ?_)
        refine lv_aload_n (pc := 19) hx hb dX1_compareRow_19 rfl (lv_at hl 0 rfl) ?_
        refine x_get (pc := 20) X hw in_X1_compareRow_X1 0 rfl rfl 3 (by decide) (List.mem_of_getElem? (i := 2) rfl) rfl dX1_compareRow_20 ?_
        refine lv_iconst (pc := 23) (v := 0) hx hb dX1_compareRow_23 (by decide) ?_
        obtain ⟨v6, ev6, hf⟩ := b1_ob hf
        refine x_lald (pc := 24) X hw 4 1 rfl rfl ev6 dX1_compareRow_24 ?_
        refine lv_lconst (pc := 25) (v := 0) hx hb dX1_compareRow_25 (by decide) ?_
        refine W.lcmp (pc := 26) hx hb dX1_compareRow_26 ?_
        obtain ⟨S7, hj, hf⟩ := b1_ob hf
        have J58_6 : ∀ (H : Heap) (locs : List Loc) (ls : Array Slot), WD D A s (wX1 cs a q S7) H locs → lv_has ls 4 [(0, .ref a), (1, .int p1), (2, .int p2), (3, .int v1)] → W p l e rmX1_compareRow s m args below meth c H locs 0 0 Q (F0 m 58 ls []) := by
          intro H locs ls hw hl
          obtain ⟨v12, ev12, hf⟩ := bn_ob hf
          refine lv_iinc (pc := 58) (v := v12) (lv' := [(3, .int v12), (0, .ref a), (1, .int p1), (2, .int p2)]) hx hb dX1_compareRow_58 hl (k := 3) rfl (by rw [ev12]; rfl) (by decide) rfl (fun ls hl => ?_)
          refine lv_goto (pc := 61) (tgt := 2) hx hb dX1_compareRow_61 (by decide) ?_
          cases hf
          exact ih v12 S7 rS2 hx0 _ _ _ hw (lv_sub hl [1, 2, 3, 0] rfl) K
        clear hf; have hf := hj; clear hj
        refine lv_if_ne (pc := 27) (tgt := 43) hx hb dX1_compareRow_27 (by decide) (fun c8 => ?_) (fun c8 => ?_)
        · have hf := ineg c8 hf
          refine lv_aload_n (pc := 43) hx hb dX1_compareRow_43 rfl (lv_at hl 0 rfl) ?_
          refine x_get (pc := 44) X hw in_X1_compareRow_X1 0 rfl rfl 5 (by decide) (List.mem_of_getElem? (i := 4) rfl) rfl dX1_compareRow_44 ?_
          refine lv_iconst (pc := 47) (v := (-1)) hx hb dX1_compareRow_47 (by decide) ?_
          refine lv_icmp_ne (pc := 48) (tgt := 58) hx hb dX1_compareRow_48 (by decide) (fun c9 => ?_) (fun c9 => ?_)
          · have hf := ineg c9 hf
            cases hf
            exact J58_6 _ _ _ hw (lv_sub hl [0, 1, 2, 3] rfl)
          · have hf := ipos c9 hf
            refine lv_aload_n (pc := 51) hx hb dX1_compareRow_51 rfl (lv_at hl 0 rfl) ?_
            refine lv_iload_n (pc := 52) hx hb dX1_compareRow_52 rfl (lv_at hl 1 rfl) ?_
            refine lv_iload_n (pc := 53) hx hb dX1_compareRow_53 rfl (lv_at hl 3 rfl) ?_
            refine lv_iadd (pc := 54) hx hb dX1_compareRow_54 ?_
            obtain ⟨S10, eS10, hf⟩ := bn_ob hf
            refine x_put (pc := 55) X hw in_X1_compareRow_X1 tyX1 tyX1_ok nmX1 0 rfl rfl 5 (by decide) (List.mem_of_getElem? (i := 4) rfl) rfl rfl rfl (Nat.le_of_ble_eq_true rfl) dX1_compareRow_55 (ws2 := wX1 cs a q S10) (by rw [eS10]; rfl) (fun H locs hw => ?_)
            cases hf
            exact J58_6 _ _ _ hw (lv_sub hl [0, 1, 2, 3] rfl)
        · have hf := ipos c8 hf
          refine lv_aload_n (pc := 30) hx hb dX1_compareRow_30 rfl (lv_at hl 0 rfl) ?_
          refine lv_dup (pc := 31) hx hb dX1_compareRow_31 rfl ?_
          refine x_get (pc := 32) X hw in_X1_compareRow_X1 0 rfl rfl 4 (by decide) (List.mem_of_getElem? (i := 3) rfl) rfl dX1_compareRow_32 ?_
          refine lv_iconst (pc := 35) (v := 1) hx hb dX1_compareRow_35 (by decide) ?_
          refine lv_iadd (pc := 36) hx hb dX1_compareRow_36 ?_
          obtain ⟨S11, eS11, hf⟩ := bn_ob hf
          refine x_put (pc := 37) X hw in_X1_compareRow_X1 tyX1 tyX1_ok nmX1 0 rfl rfl 4 (by decide) (List.mem_of_getElem? (i := 3) rfl) rfl rfl rfl (Nat.le_of_ble_eq_true rfl) dX1_compareRow_37 (ws2 := wX1 cs a q S11) (by rw [eS11]; rfl) (fun H locs hw => ?_)
          refine lv_goto (pc := 40) (tgt := 58) hx hb dX1_compareRow_40 (by decide) ?_
          cases hf
          exact J58_6 _ _ _ hw (lv_sub hl [0, 1, 2, 3] rfl)
  obtain ⟨S13, hj, hf⟩ := b1_ob hf
  refine L2 _ 0 S S13 hj _ _ _ hw (lv_sub hl [1, 2, 3, 0] rfl) (fun H locs ls hw hl => ?_)
  clear hj L2
  cases hf
  exact hret _ _ 64 _ hw rfl dX1_compareRow_64

theorem in_X1_compare_X1 : ∀ w ∈ wsX10, w ∈ wsX1_compare := fun _ h => List.mem_cons_of_mem _ (List.mem_append_left _ (List.mem_append_right _ h))
theorem in_X1_compare_X5 : ∀ w ∈ wsX50, w ∈ wsX1_compare := fun _ h => List.mem_cons_of_mem _ (List.mem_append_right _ h)
abbrev rmX1_compare : Room := { frames := 2, cells := 0, slots := 0, locals := 49 }
def B_X1_compare_3 (U1 : PS) (U2 : PS) (v1 : Int32) (S2 : PS) : Option ((Int32 × PS) ⊕ (PS)) :=
  if 64 ≤ v1 then
    some (.inr S2)
  else
  b1 (rdL 64 (U1.2.2 0) v1) fun v4 =>
  b1 (rdL 64 (U2.2.2 0) v1) fun v5 =>
  b1 (wL 64 S2 0 v1 (v4 - v5)) fun S6 =>
  bn (v1 + 1) fun v7 =>
  some (.inl (v7, S6))
def L_X1_compare_3 (U1 : PS) (U2 : PS) (n : Nat) (v1 : Int32) (S2 : PS) : Option (PS) := loopF (fun x : Int32 × PS => B_X1_compare_3 U1 U2 x.1 x.2) n (v1, S2)
def B_X1_compare_73 (p3 : Int32) (v11 : Int32) (v16 : Int32) (S17 : PS) : Option ((Int32 × PS) ⊕ (PS)) :=
  if p3 ≤ v16 then
    some (.inr S17)
  else
  b1 (f_X1_putIn 16 (S17.2.2 1) 4 (S17.2.2 2) v16) fun f19 =>
  bn (sL S17 2 f19) fun S20 =>
  b1 (f_X1_compareRow S20 ((144 * v11) + (12 * v16)) p3) fun S21 =>
  bn (v16 + 1) fun v22 =>
  some (.inl (v22, S21))
def L_X1_compare_73 (p3 : Int32) (v11 : Int32) (n : Nat) (v16 : Int32) (S17 : PS) : Option (PS) := loopF (fun x : Int32 × PS => B_X1_compare_73 p3 v11 x.1 x.2) n (v16, S17)
def B_X1_compare_51 (p3 : Int32) (v11 : Int32) (S12 : PS) : Option ((Int32 × PS) ⊕ (PS)) :=
  if p3 ≤ v11 then
    some (.inr S12)
  else
  b1 (f_X1_putIn 64 (S12.2.2 0) 16 (S12.2.2 1) v11) fun f14 =>
  bn (sL S12 1 f14) fun S15 =>
  b1 (L_X1_compare_73 p3 v11 FU 0 S15) fun S23 =>
  bn (v11 + 1) fun v24 =>
  some (.inl (v24, S23))
def L_X1_compare_51 (p3 : Int32) (n : Nat) (v11 : Int32) (S12 : PS) : Option (PS) := loopF (fun x : Int32 × PS => B_X1_compare_51 p3 x.1 x.2) n (v11, S12)
def f_X1_compare (S : PS) (U1 : PS) (U2 : PS) (p3 : Int32) : Option (PS) :=
  b1 (L_X1_compare_3 U1 U2 FU 0 S) fun S8 =>
  bn (sI S8 4 0) fun S9 =>
  bn (sI S9 5 (-1)) fun S10 =>
  b1 (L_X1_compare_51 p3 FU 0 S10) fun S25 =>
  some S25
set_option maxHeartbeats 4000000 in
set_option maxRecDepth 100000 in
theorem c_X1_compare (l : Launch) (D : va_G) (cs : CS) (a : Nat) (b1 : Nat) (b2 : Nat) (q : Nat → Nat) (qU1 : Nat → Nat) (qU2 : Nat → Nat) (S : PS) (U1 : PS) (U2 : PS) (p3 : Int32) (S' : PS) (hf : f_X1_compare S U1 U2 p3 = some S') : CT l D (TY cs) yX1_compare wsX1_compare rmX1_compare [.ref a, .ref b1, .ref b2, .int p3] (wX1 cs a q S ++ wX5 cs b1 qU1 U1 ++ wX5 cs b2 qU2 U2) none (wX1 cs a q S' ++ wX5 cs b1 qU1 U1 ++ wX5 cs b2 qU2 U2) := by
  refine CT.ofW (own := RX1) (cc := cX1_compare) (maxL := 6) (ret := none) (by decide) rfl rfl (Nat.le_of_ble_eq_true rfl) ?_
  intro p e s m args below meth c A Q X hret ls hl hw
  obtain ⟨hx, hb, hml, hown, hts, hK, hA, hr, hlk⟩ := id X
  have hl : lv_has ls 6 [(0, .ref a), (1, .ref b1), (2, .ref b2), (3, .int p3)] := hl
  unfold f_X1_compare at hf
  refine lv_iconst (pc := 0) (v := 0) hx hb dX1_compare_0 (by decide) ?_
  refine lv_istore (lv' := [(4, .int 0), (0, .ref a), (1, .ref b1), (2, .ref b2), (3, .int p3)]) (pc := 1) hx hb dX1_compare_1 hl (by decide) rfl (fun ls hl => ?_)
  have L3 : ∀ (n : Nat) (v1 : Int32) (S2 : PS) (rS2 : PS), L_X1_compare_3 U1 U2 n v1 S2 = some rS2 → ∀ (H : Heap) (locs : List Loc) (ls : Array Slot), WD D A s (wX1 cs a q S2 ++ wX5 cs b1 qU1 U1 ++ wX5 cs b2 qU2 U2) H locs → lv_has ls 6 [(0, .ref a), (1, .ref b1), (2, .ref b2), (3, .int p3), (4, .int v1)] → (∀ (H : Heap) (locs : List Loc) (ls : Array Slot), WD D A s (wX1 cs a q rS2 ++ wX5 cs b1 qU1 U1 ++ wX5 cs b2 qU2 U2) H locs → lv_has ls 6 [(0, .ref a), (3, .int p3)] → W p l e rmX1_compare s m args below meth c H locs 0 0 Q (F0 m 38 ls [])) → W p l e rmX1_compare s m args below meth c H locs 0 0 Q (F0 m 3 ls []) := by
    intro n
    induction n with
    | zero => intro v1 S2 rS2 hf; exact (loopF_z hf).elim
    | succ n ih =>
      intro v1 S2 rS2 hf H locs ls hw hl K
      obtain ⟨x, hf, hx0⟩ := loopF_ob hf
      have hf : B_X1_compare_3 U1 U2 v1 S2 = some x := hf
      unfold B_X1_compare_3 at hf
      refine lv_iload (pc := 3) hx hb dX1_compare_3 (lv_at hl 4 rfl) ?_
      refine lv_bipush (pc := 5) (v := 64) hx hb dX1_compare_5 (by decide) ?_
      refine lv_icmp_ge (pc := 7) (tgt := 38) hx hb dX1_compare_7 (by decide) (fun c3 => ?_) (fun c3 => ?_)
      · have hf := ipos c3 hf
        cases hf
        cases (hx0 : S2 = rS2)
        exact K _ _ _ hw (lv_sub hl [0, 3] rfl)
      · have hf := ineg c3 hf
        refine lv_aload_n (pc := 10) hx hb dX1_compare_10 rfl (lv_at hl 0 rfl) ?_
        refine x_get (pc := 11) X hw in_X1_compare_X1 0 rfl rfl 0 (by decide) (List.mem_of_getElem? (i := 1) rfl) rfl dX1_compare_11 ?_
        refine lv_iload (pc := 14) hx hb dX1_compare_14 (lv_at hl 4 rfl) ?_
        refine lv_aload_n (pc := 16) hx hb dX1_compare_16 rfl (lv_at hl 1 rfl) ?_
        refine x_get (pc := 17) X hw in_X1_compare_X5 5 rfl rfl 0 (by decide) (List.mem_of_getElem? (i := 2) rfl) rfl dX1_compare_17 ?_
        refine lv_iload (pc := 20) hx hb dX1_compare_20 (lv_at hl 4 rfl) ?_
        obtain ⟨v4, ev4, hf⟩ := b1_ob hf
        refine x_lald (pc := 22) X hw 6 1 rfl rfl ev4 dX1_compare_22 ?_
        refine lv_aload_n (pc := 23) hx hb dX1_compare_23 rfl (lv_at hl 2 rfl) ?_
        refine x_get (pc := 24) X hw in_X1_compare_X5 7 rfl rfl 0 (by decide) (List.mem_of_getElem? (i := 2) rfl) rfl dX1_compare_24 ?_
        refine lv_iload (pc := 27) hx hb dX1_compare_27 (lv_at hl 4 rfl) ?_
        obtain ⟨v5, ev5, hf⟩ := b1_ob hf
        refine x_lald (pc := 29) X hw 8 1 rfl rfl ev5 dX1_compare_29 ?_
        refine lv_lsub (pc := 30) hx hb dX1_compare_30 ?_
        obtain ⟨S6, eS6, hf⟩ := b1_ob hf
        refine x_last (pc := 31) X hw 1 1 rfl rfl (wL_ob eS6).1 dX1_compare_31 (ws2 := wX1 cs a q S6 ++ wX5 cs b1 qU1 U1 ++ wX5 cs b2 qU2 U2) (by rw [(wL_ob eS6).2]; rfl) (fun H locs hw => ?_)
        obtain ⟨v7, ev7, hf⟩ := bn_ob hf
        refine lv_iinc (pc := 32) (v := v7) (lv' := [(4, .int v7), (0, .ref a), (1, .ref b1), (2, .ref b2), (3, .int p3)]) hx hb dX1_compare_32 hl (k := 4) rfl (by rw [ev7]; rfl) (by decide) rfl (fun ls hl => ?_)
        refine lv_goto (pc := 35) (tgt := 3) hx hb dX1_compare_35 (by decide) ?_
        cases hf
        exact ih v7 S6 rS2 hx0 _ _ _ hw (lv_sub hl [1, 2, 3, 4, 0] rfl) K
  obtain ⟨S8, hj, hf⟩ := b1_ob hf
  refine L3 _ 0 S S8 hj _ _ _ hw (lv_sub hl [1, 2, 3, 4, 0] rfl) (fun H locs ls hw hl => ?_)
  clear hj L3
  refine lv_aload_n (pc := 38) hx hb dX1_compare_38 rfl (lv_at hl 0 rfl) ?_
  refine lv_iconst (pc := 39) (v := 0) hx hb dX1_compare_39 (by decide) ?_
  obtain ⟨S9, eS9, hf⟩ := bn_ob hf
  refine x_put (pc := 40) X hw in_X1_compare_X1 tyX1 tyX1_ok nmX1 0 rfl rfl 4 (by decide) (List.mem_of_getElem? (i := 3) rfl) rfl rfl rfl (Nat.le_of_ble_eq_true rfl) dX1_compare_40 (ws2 := wX1 cs a q S9 ++ wX5 cs b1 qU1 U1 ++ wX5 cs b2 qU2 U2) (by rw [eS9]; rfl) (fun H locs hw => ?_)
  refine lv_aload_n (pc := 43) hx hb dX1_compare_43 rfl (lv_at hl 0 rfl) ?_
  refine lv_iconst (pc := 44) (v := (-1)) hx hb dX1_compare_44 (by decide) ?_
  obtain ⟨S10, eS10, hf⟩ := bn_ob hf
  refine x_put (pc := 45) X hw in_X1_compare_X1 tyX1 tyX1_ok nmX1 0 rfl rfl 5 (by decide) (List.mem_of_getElem? (i := 4) rfl) rfl rfl rfl (Nat.le_of_ble_eq_true rfl) dX1_compare_45 (ws2 := wX1 cs a q S10 ++ wX5 cs b1 qU1 U1 ++ wX5 cs b2 qU2 U2) (by rw [eS10]; rfl) (fun H locs hw => ?_)
  refine lv_iconst (pc := 48) (v := 0) hx hb dX1_compare_48 (by decide) ?_
  refine lv_istore (lv' := [(4, .int 0), (0, .ref a), (3, .int p3)]) (pc := 49) hx hb dX1_compare_49 hl (by decide) rfl (fun ls hl => ?_)
  have L51 : ∀ (n : Nat) (v11 : Int32) (S12 : PS) (rS12 : PS), L_X1_compare_51 p3 n v11 S12 = some rS12 → ∀ (H : Heap) (locs : List Loc) (ls : Array Slot), WD D A s (wX1 cs a q S12 ++ wX5 cs b1 qU1 U1 ++ wX5 cs b2 qU2 U2) H locs → lv_has ls 6 [(0, .ref a), (3, .int p3), (4, .int v11)] → (∀ (H : Heap) (locs : List Loc) (ls : Array Slot), WD D A s (wX1 cs a q rS12 ++ wX5 cs b1 qU1 U1 ++ wX5 cs b2 qU2 U2) H locs → lv_has ls 6 [] → W p l e rmX1_compare s m args below meth c H locs 0 0 Q (F0 m 121 ls [])) → W p l e rmX1_compare s m args below meth c H locs 0 0 Q (F0 m 51 ls []) := by
    intro n
    induction n with
    | zero => intro v11 S12 rS12 hf; exact (loopF_z hf).elim
    | succ n ih =>
      intro v11 S12 rS12 hf H locs ls hw hl K
      obtain ⟨x, hf, hx0⟩ := loopF_ob hf
      have hf : B_X1_compare_51 p3 v11 S12 = some x := hf
      unfold B_X1_compare_51 at hf
      refine lv_iload (pc := 51) hx hb dX1_compare_51 (lv_at hl 2 rfl) ?_
      refine lv_iload_n (pc := 53) hx hb dX1_compare_53 rfl (lv_at hl 1 rfl) ?_
      refine lv_icmp_ge (pc := 54) (tgt := 121) hx hb dX1_compare_54 (by decide) (fun c13 => ?_) (fun c13 => ?_)
      · have hf := ipos c13 hf
        cases hf
        cases (hx0 : S12 = rS12)
        exact K _ _ _ hw (lv_sub hl [] rfl)
      · have hf := ineg c13 hf
        refine lv_aload_n (pc := 57) hx hb dX1_compare_57 rfl (lv_at hl 0 rfl) ?_
        refine x_get (pc := 58) X hw in_X1_compare_X1 0 rfl rfl 0 (by decide) (List.mem_of_getElem? (i := 1) rfl) rfl dX1_compare_58 ?_
        refine lv_aload_n (pc := 61) hx hb dX1_compare_61 rfl (lv_at hl 0 rfl) ?_
        refine x_get (pc := 62) X hw in_X1_compare_X1 0 rfl rfl 1 (by decide) (List.mem_of_getElem? (i := 5) rfl) rfl dX1_compare_62 ?_
        refine lv_iload (pc := 65) hx hb dX1_compare_65 (lv_at hl 2 rfl) ?_
        obtain ⟨f14, hc, hf⟩ := b1_ob hf
        obtain ⟨S15, eS15, hf⟩ := bn_ob hf
        refine x_cut (pc := 67) (wr := ([0, 3, 4, 5, 6, 7, 8].filterMap (fun i => (wX1 cs a q S12 ++ wX5 cs b1 qU1 U1 ++ wX5 cs b2 qU2 U2)[i]?))) (ws2 := wX1 cs a q S15 ++ wX5 cs b1 qU1 U1 ++ wX5 cs b2 qU2 U2) X hw [1, 2] [0, 3, 4, 5, 6, 7, 8] [0, 7, 8, 1, 2, 3, 4, 5, 6] rfl rfl (by decide) (by decide) (by rw [eS15]; rfl) (by decide) (va_runS (As := [.ref (q 0), .ref (q 1), .int v11]) (rest := []) ⟨hx, hb, hml, hown, hts⟩ (c_X1_putIn l D cs (q 0) (q 1) 64 16 (S12.2.2 0) (S12.2.2 1) v11 f14 hc _) (va_cwS 3 hts gX1_compare_X1_putIn rfl rfl rfl (by decide +kernel) ⟨Nat.le_of_ble_eq_true rfl, Nat.le_of_ble_eq_true rfl⟩) ⟨CP_blind, x_preC X hw [1, 2] rfl (by decide) [.ref (q 0), .ref (q 1), .int v11]⟩ rfl rfl hl.1 rfl (lv_room (Nat.le_of_ble_eq_true rfl)) dX1_compare_67 ⟨Nat.zero_le _, Nat.zero_le _⟩) (fun H locs hw => ?_)
        refine lv_iconst (pc := 70) (v := 0) hx hb dX1_compare_70 (by decide) ?_
        refine lv_istore (lv' := [(5, .int 0), (0, .ref a), (3, .int p3), (4, .int v11)]) (pc := 71) hx hb dX1_compare_71 hl (by decide) rfl (fun ls hl => ?_)
        have L73 : ∀ (n : Nat) (v16 : Int32) (S17 : PS) (rS17 : PS), L_X1_compare_73 p3 v11 n v16 S17 = some rS17 → ∀ (H : Heap) (locs : List Loc) (ls : Array Slot), WD D A s (wX1 cs a q S17 ++ wX5 cs b1 qU1 U1 ++ wX5 cs b2 qU2 U2) H locs → lv_has ls 6 [(0, .ref a), (3, .int p3), (4, .int v11), (5, .int v16)] → (∀ (H : Heap) (locs : List Loc) (ls : Array Slot), WD D A s (wX1 cs a q rS17 ++ wX5 cs b1 qU1 U1 ++ wX5 cs b2 qU2 U2) H locs → lv_has ls 6 [(0, .ref a), (3, .int p3), (4, .int v11)] → W p l e rmX1_compare s m args below meth c H locs 0 0 Q (F0 m 115 ls [])) → W p l e rmX1_compare s m args below meth c H locs 0 0 Q (F0 m 73 ls []) := by
          intro n
          induction n with
          | zero => intro v16 S17 rS17 hf; exact (loopF_z hf).elim
          | succ n ih =>
            intro v16 S17 rS17 hf H locs ls hw hl K
            obtain ⟨x, hf, hx0⟩ := loopF_ob hf
            have hf : B_X1_compare_73 p3 v11 v16 S17 = some x := hf
            unfold B_X1_compare_73 at hf
            refine lv_iload (pc := 73) hx hb dX1_compare_73 (lv_at hl 3 rfl) ?_
            refine lv_iload_n (pc := 75) hx hb dX1_compare_75 rfl (lv_at hl 1 rfl) ?_
            refine lv_icmp_ge (pc := 76) (tgt := 115) hx hb dX1_compare_76 (by decide) (fun c18 => ?_) (fun c18 => ?_)
            · have hf := ipos c18 hf
              cases hf
              cases (hx0 : S17 = rS17)
              exact K _ _ _ hw (lv_sub hl [0, 1, 2] rfl)
            · have hf := ineg c18 hf
              refine lv_aload_n (pc := 79) hx hb dX1_compare_79 rfl (lv_at hl 0 rfl) ?_
              refine x_get (pc := 80) X hw in_X1_compare_X1 0 rfl rfl 1 (by decide) (List.mem_of_getElem? (i := 5) rfl) rfl dX1_compare_80 ?_
              refine lv_aload_n (pc := 83) hx hb dX1_compare_83 rfl (lv_at hl 0 rfl) ?_
              refine x_get (pc := 84) X hw in_X1_compare_X1 0 rfl rfl 2 (by decide) (List.mem_of_getElem? (i := 6) rfl) rfl dX1_compare_84 ?_
              refine lv_iload (pc := 87) hx hb dX1_compare_87 (lv_at hl 3 rfl) ?_
              obtain ⟨f19, hc, hf⟩ := b1_ob hf
              obtain ⟨S20, eS20, hf⟩ := bn_ob hf
              refine x_cut (pc := 89) (wr := ([0, 1, 4, 5, 6, 7, 8].filterMap (fun i => (wX1 cs a q S17 ++ wX5 cs b1 qU1 U1 ++ wX5 cs b2 qU2 U2)[i]?))) (ws2 := wX1 cs a q S20 ++ wX5 cs b1 qU1 U1 ++ wX5 cs b2 qU2 U2) X hw [2, 3] [0, 1, 4, 5, 6, 7, 8] [0, 1, 7, 8, 2, 3, 4, 5, 6] rfl rfl (by decide) (by decide) (by rw [eS20]; rfl) (by decide) (va_runS (As := [.ref (q 1), .ref (q 2), .int v16]) (rest := []) ⟨hx, hb, hml, hown, hts⟩ (c_X1_putIn l D cs (q 1) (q 2) 16 4 (S17.2.2 1) (S17.2.2 2) v16 f19 hc _) (va_cwS 3 hts gX1_compare_X1_putIn rfl rfl rfl (by decide +kernel) ⟨Nat.le_of_ble_eq_true rfl, Nat.le_of_ble_eq_true rfl⟩) ⟨CP_blind, x_preC X hw [2, 3] rfl (by decide) [.ref (q 1), .ref (q 2), .int v16]⟩ rfl rfl hl.1 rfl (lv_room (Nat.le_of_ble_eq_true rfl)) dX1_compare_89 ⟨Nat.zero_le _, Nat.zero_le _⟩) (fun H locs hw => ?_)
              refine lv_aload_n (pc := 92) hx hb dX1_compare_92 rfl (lv_at hl 0 rfl) ?_
              refine lv_sipush (pc := 93) (v := 144) hx hb dX1_compare_93 (by decide) ?_
              refine lv_iload (pc := 96) hx hb dX1_compare_96 (lv_at hl 2 rfl) ?_
              refine lv_imul (pc := 98) hx hb dX1_compare_98 ?_
              refine lv_bipush (pc := 99) (v := 12) hx hb dX1_compare_99 (by decide) ?_
              refine lv_iload (pc := 101) hx hb dX1_compare_101 (lv_at hl 3 rfl) ?_
              refine lv_imul (pc := 103) hx hb dX1_compare_103 ?_
              refine lv_iadd (pc := 104) hx hb dX1_compare_104 ?_
              refine lv_iload_n (pc := 105) hx hb dX1_compare_105 rfl (lv_at hl 1 rfl) ?_
              obtain ⟨S21, hc, hf⟩ := b1_ob hf
              refine x_cut (pc := 106) (wr := ([5, 6, 7, 8].filterMap (fun i => (wX1 cs a q S20 ++ wX5 cs b1 qU1 U1 ++ wX5 cs b2 qU2 U2)[i]?))) (ws2 := wX1 cs a q S21 ++ wX5 cs b1 qU1 U1 ++ wX5 cs b2 qU2 U2) X hw [0, 1, 2, 3, 4] [5, 6, 7, 8] [4, 5, 6, 7, 8, 0, 1, 2, 3] rfl rfl (by decide) (by decide) rfl (by decide) (va_runV (As := [.int ((144 * v11) + (12 * v16)), .int p3]) (rest := []) ⟨hx, hb, hml, hown, hts⟩ (c_X1_compareRow l D cs a q S20 ((144 * v11) + (12 * v16)) p3 S21 hc _) (cwV 2 hts gX1_compare_X1_compareRow rfl rfl rfl (by decide +kernel) ⟨Nat.le_of_ble_eq_true rfl, Nat.le_of_ble_eq_true rfl⟩) ⟨CP_blind, va_recv hK hw.1 (ci := 1) (q0 := 0) rfl rfl, x_preC X hw [0, 1, 2, 3, 4] rfl (by decide) [.ref a, .int ((144 * v11) + (12 * v16)), .int p3]⟩ rfl rfl hl.1 rfl (lv_room (Nat.le_of_ble_eq_true rfl)) dX1_compare_106 ⟨Nat.zero_le _, Nat.zero_le _⟩) (fun H locs hw => ?_)
              obtain ⟨v22, ev22, hf⟩ := bn_ob hf
              refine lv_iinc (pc := 109) (v := v22) (lv' := [(5, .int v22), (0, .ref a), (3, .int p3), (4, .int v11)]) hx hb dX1_compare_109 hl (k := 3) rfl (by rw [ev22]; rfl) (by decide) rfl (fun ls hl => ?_)
              refine lv_goto (pc := 112) (tgt := 73) hx hb dX1_compare_112 (by decide) ?_
              cases hf
              exact ih v22 S21 rS17 hx0 _ _ _ hw (lv_sub hl [1, 2, 3, 0] rfl) K
        obtain ⟨S23, hj, hf⟩ := b1_ob hf
        refine L73 _ 0 S15 S23 hj _ _ _ hw (lv_sub hl [1, 2, 3, 0] rfl) (fun H locs ls hw hl => ?_)
        clear hj L73
        obtain ⟨v24, ev24, hf⟩ := bn_ob hf
        refine lv_iinc (pc := 115) (v := v24) (lv' := [(4, .int v24), (0, .ref a), (3, .int p3)]) hx hb dX1_compare_115 hl (k := 2) rfl (by rw [ev24]; rfl) (by decide) rfl (fun ls hl => ?_)
        refine lv_goto (pc := 118) (tgt := 51) hx hb dX1_compare_118 (by decide) ?_
        cases hf
        exact ih v24 S23 rS12 hx0 _ _ _ hw (lv_sub hl [1, 2, 0] rfl) K
  obtain ⟨S25, hj, hf⟩ := b1_ob hf
  refine L51 _ 0 S10 S25 hj _ _ _ hw (lv_sub hl [1, 2, 0] rfl) (fun H locs ls hw hl => ?_)
  clear hj L51
  cases hf
  exact hret _ _ 121 _ hw rfl dX1_compare_121
