abbrev rmX4_isSet : Room := { frames := 0, cells := 0, slots := 0, locals := 0 }
def f_X4_isSet (p1 : Int32) : Option (Int32) :=
  b1 (
    if p1 < 1 then
      some (0 : Int32)
    else
    if (65536) ≤ p1 then
      some (0 : Int32)
    else
    some (1 : Int32)) fun v1 =>
  b1 (ckB v1) fun v4 =>
  some v4
set_option maxHeartbeats 4000000 in
set_option maxRecDepth 100000 in
theorem c_X4_isSet (l : Launch) (D : va_G) (cs : CS) (p1 : Int32) (r : Int32) (hf : f_X4_isSet p1 = some r) : CT l D (TY cs) yX4_isSet wsX4_isSet rmX4_isSet [.int p1] ([]) (some (.int r)) ([]) := by
  refine CT.ofW (own := RX4) (cc := cX4_isSet) (maxL := 1) (ret := some .boolean) (by decide) rfl rfl (Nat.le_of_ble_eq_true rfl) ?_
  intro p e s m args below meth c A Q X hret ls hl hw
  obtain ⟨hx, hb, hml, hown, hts, hK, hA, hr, hlk⟩ := id X
  have hl : lv_has ls 1 [(0, .int p1)] := hl
  unfold f_X4_isSet at hf
  refine lv_iload_n (pc := 0) hx hb dX4_isSet_0 rfl (lv_at hl 0 rfl) ?_
  refine lv_iconst (pc := 1) (v := 1) hx hb dX4_isSet_1 (by decide) ?_
  obtain ⟨v1, hj, hf⟩ := b1_ob hf
  have J16_0 : ∀ (H : Heap) (locs : List Loc) (ls : Array Slot), WD D A s ([]) H locs → lv_has ls 1 [] → W p l e rmX4_isSet s m args below meth c H locs 0 0 Q (F0 m 16 ls [.int v1]) := by
    intro H locs ls hw hl
    obtain ⟨v4, ev4, hf⟩ := b1_ob hf
    refine x_topi (ckB_ob ev4).1.symm ?_
    cases hf
    exact hret _ _ 16 _ hw ⟨_, rfl, ckB_nar (ckB_ob ev4).2⟩ dX4_isSet_16
  clear hf; have hf := hj; clear hj
  refine lv_icmp_lt (pc := 2) (tgt := 15) hx hb dX4_isSet_2 (by decide) (fun c2 => ?_) (fun c2 => ?_)
  · have hf := ipos c2 hf
    refine lv_iconst (pc := 15) (v := 0) hx hb dX4_isSet_15 (by decide) ?_
    cases hf
    exact J16_0 _ _ _ hw (lv_sub hl [] rfl)
  · have hf := ineg c2 hf
    refine lv_iload_n (pc := 5) hx hb dX4_isSet_5 rfl (lv_at hl 0 rfl) ?_
    refine lv_ldc (pc := 6) (v := (65536)) hx hb hown (hts _ (List.mem_of_getElem? (i := 1) rfl)) dX4_isSet_6 ?_
    refine lv_icmp_ge (pc := 8) (tgt := 15) hx hb dX4_isSet_8 (by decide) (fun c3 => ?_) (fun c3 => ?_)
    · have hf := ipos c3 hf
      refine lv_iconst (pc := 15) (v := 0) hx hb dX4_isSet_15 (by decide) ?_
      cases hf
      exact J16_0 _ _ _ hw (lv_sub hl [] rfl)
    · have hf := ineg c3 hf
      refine lv_iconst (pc := 11) (v := 1) hx hb dX4_isSet_11 (by decide) ?_
      refine lv_goto (pc := 12) (tgt := 16) hx hb dX4_isSet_12 (by decide) ?_
      cases hf
      exact J16_0 _ _ _ hw (lv_sub hl [] rfl)

theorem in_X4_oddPairs_X4 : ∀ w ∈ wsX40, w ∈ wsX4_oddPairs := fun _ h => List.mem_cons_of_mem _ (List.mem_append_right _ h)
abbrev rmX4_oddPairs : Room := { frames := 1, cells := 0, slots := 0, locals := 20 }
def B_X4_oddPairs_5 (S : PS) (p1 : Int32) (p2 : Int32) (v1 : Int32) (v2 : Int32) : Option ((Int32 × Int32) ⊕ (Int32)) :=
  if 16 ≤ v2 then
    some (.inr v1)
  else
  b1 (
    if ((p1 >>> (v2 &&& 31)) &&& 1) = 1 then
      b1 (rdI 16 (S.2.1 0) v2) fun v6 =>
      b1 (f_J6_bitCount_0f7a4 (p2 &&& v6)) fun v7 =>
      bn (v1 + v7) fun v8 =>
      some v8
    else
    some v1) fun v4 =>
  bn (v2 + 1) fun v9 =>
  some (.inl (v4, v9))
def L_X4_oddPairs_5 (S : PS) (p1 : Int32) (p2 : Int32) (n : Nat) (v1 : Int32) (v2 : Int32) : Option (Int32) := loopF (fun x : Int32 × Int32 => B_X4_oddPairs_5 S p1 p2 x.1 x.2) n (v1, v2)
def f_X4_oddPairs (S : PS) (p1 : Int32) (p2 : Int32) : Option (Int32) :=
  b1 (L_X4_oddPairs_5 S p1 p2 FU 0 0) fun v10 =>
  some v10
set_option maxHeartbeats 4000000 in
set_option maxRecDepth 100000 in
theorem c_X4_oddPairs (l : Launch) (D : va_G) (cs : CS) (a : Nat) (q : Nat → Nat) (S : PS) (p1 : Int32) (p2 : Int32) (r : Int32) (hf : f_X4_oddPairs S p1 p2 = some r) : CT l D (TY cs) yX4_oddPairs wsX4_oddPairs rmX4_oddPairs [.ref a, .int p1, .int p2] (wX4 cs a q S) (some (.int r)) (wX4 cs a q S) := by
  refine CT.ofW (own := RX4) (cc := cX4_oddPairs) (maxL := 5) (ret := some .int) (by decide) rfl rfl (Nat.le_of_ble_eq_true rfl) ?_
  intro p e s m args below meth c A Q X hret ls hl hw
  obtain ⟨hx, hb, hml, hown, hts, hK, hA, hr, hlk⟩ := id X
  have hl : lv_has ls 5 [(0, .ref a), (1, .int p1), (2, .int p2)] := hl
  unfold f_X4_oddPairs at hf
  refine lv_iconst (pc := 0) (v := 0) hx hb dX4_oddPairs_0 (by decide) ?_
  refine lv_istore_n (lv' := [(3, .int 0), (0, .ref a), (1, .int p1), (2, .int p2)]) (pc := 1) hx hb dX4_oddPairs_1 rfl hl (by decide) rfl (fun ls hl => ?_)
  refine lv_iconst (pc := 2) (v := 0) hx hb dX4_oddPairs_2 (by decide) ?_
  refine lv_istore (lv' := [(4, .int 0), (3, .int 0), (0, .ref a), (1, .int p1), (2, .int p2)]) (pc := 3) hx hb dX4_oddPairs_3 hl (by decide) rfl (fun ls hl => ?_)
  have L5 : ∀ (n : Nat) (v1 : Int32) (v2 : Int32) (rv1 : Int32), L_X4_oddPairs_5 S p1 p2 n v1 v2 = some rv1 → ∀ (H : Heap) (locs : List Loc) (ls : Array Slot), WD D A s (wX4 cs a q S) H locs → lv_has ls 5 [(0, .ref a), (1, .int p1), (2, .int p2), (3, .int v1), (4, .int v2)] → (∀ (H : Heap) (locs : List Loc) (ls : Array Slot), WD D A s (wX4 cs a q S) H locs → lv_has ls 5 [(3, .int rv1)] → W p l e rmX4_oddPairs s m args below meth c H locs 0 0 Q (F0 m 43 ls [])) → W p l e rmX4_oddPairs s m args below meth c H locs 0 0 Q (F0 m 5 ls []) := by
    intro n
    induction n with
    | zero => intro v1 v2 rv1 hf; exact (loopF_z hf).elim
    | succ n ih =>
      intro v1 v2 rv1 hf H locs ls hw hl K
      obtain ⟨x, hf, hx0⟩ := loopF_ob hf
      have hf : B_X4_oddPairs_5 S p1 p2 v1 v2 = some x := hf
      unfold B_X4_oddPairs_5 at hf
      refine lv_iload (pc := 5) hx hb dX4_oddPairs_5 (lv_at hl 4 rfl) ?_
      refine lv_bipush (pc := 7) (v := 16) hx hb dX4_oddPairs_7 (by decide) ?_
      refine lv_icmp_ge (pc := 9) (tgt := 43) hx hb dX4_oddPairs_9 (by decide) (fun c3 => ?_) (fun c3 => ?_)
      · have hf := ipos c3 hf
        cases hf
        cases (hx0 : v1 = rv1)
        exact K _ _ _ hw (lv_sub hl [3] rfl)
      · have hf := ineg c3 hf
        refine lv_iload_n (pc := 12) hx hb dX4_oddPairs_12 rfl (lv_at hl 1 rfl) ?_
        refine lv_iload (pc := 13) hx hb dX4_oddPairs_13 (lv_at hl 4 rfl) ?_
        refine lv_ishr (pc := 15) hx hb dX4_oddPairs_15 ?_
        refine lv_iconst (pc := 16) (v := 1) hx hb dX4_oddPairs_16 (by decide) ?_
        refine lv_iand (pc := 17) hx hb dX4_oddPairs_17 ?_
        refine lv_iconst (pc := 18) (v := 1) hx hb dX4_oddPairs_18 (by decide) ?_
        obtain ⟨v4, hj, hf⟩ := b1_ob hf
        have J37_3 : ∀ (H : Heap) (locs : List Loc) (ls : Array Slot), WD D A s (wX4 cs a q S) H locs → lv_has ls 5 [(0, .ref a), (1, .int p1), (2, .int p2), (3, .int v4), (4, .int v2)] → W p l e rmX4_oddPairs s m args below meth c H locs 0 0 Q (F0 m 37 ls []) := by
          intro H locs ls hw hl
          obtain ⟨v9, ev9, hf⟩ := bn_ob hf
          refine lv_iinc (pc := 37) (v := v9) (lv' := [(4, .int v9), (0, .ref a), (1, .int p1), (2, .int p2), (3, .int v4)]) hx hb dX4_oddPairs_37 hl (k := 4) rfl (by rw [ev9]; rfl) (by decide) rfl (fun ls hl => ?_)
          refine lv_goto (pc := 40) (tgt := 5) hx hb dX4_oddPairs_40 (by decide) ?_
          cases hf
          exact ih v4 v9 rv1 hx0 _ _ _ hw (lv_sub hl [1, 2, 3, 4, 0] rfl) K
        clear hf; have hf := hj; clear hj
        refine lv_icmp_ne (pc := 19) (tgt := 37) hx hb dX4_oddPairs_19 (by decide) (fun c5 => ?_) (fun c5 => ?_)
        · have hf := ineg c5 hf
          cases hf
          exact J37_3 _ _ _ hw (lv_sub hl [0, 1, 2, 3, 4] rfl)
        · have hf := ipos c5 hf
          refine lv_iload_n (pc := 22) hx hb dX4_oddPairs_22 rfl (lv_at hl 3 rfl) ?_
          refine lv_iload_n (pc := 23) hx hb dX4_oddPairs_23 rfl (lv_at hl 2 rfl) ?_
          refine lv_aload_n (pc := 24) hx hb dX4_oddPairs_24 rfl (lv_at hl 0 rfl) ?_
          refine x_get (pc := 25) X hw in_X4_oddPairs_X4 0 rfl rfl 0 (by decide) (List.mem_of_getElem? (i := 1) rfl) rfl dX4_oddPairs_25 ?_
          refine lv_iload (pc := 28) hx hb dX4_oddPairs_28 (lv_at hl 4 rfl) ?_
          obtain ⟨v6, ev6, hf⟩ := b1_ob hf
          refine x_iald (pc := 30) X hw 1 0 rfl rfl ev6 dX4_oddPairs_30 ?_
          refine lv_iand (pc := 31) hx hb dX4_oddPairs_31 ?_
          obtain ⟨v7, hc, hf⟩ := b1_ob hf
          refine x_nil (pc := 32) X hw (va_runS (As := [.int (p2 &&& v6)]) (rest := [.int v1]) ⟨hx, hb, hml, hown, hts⟩ (c_J6_bitCount_0f7a4 l D cs (p2 &&& v6) v7 hc _) (va_cwS 1 hts gX4_oddPairs_J6_bitCount_0f7a4 rfl rfl rfl (by decide +kernel) ⟨Nat.le_of_ble_eq_true rfl, Nat.le_of_ble_eq_true rfl⟩) ⟨CP_blind, x_preN X [.int (p2 &&& v6)]⟩ rfl rfl hl.1 rfl (lv_room (Nat.le_of_ble_eq_true rfl)) dX4_oddPairs_32 ⟨Nat.zero_le _, Nat.zero_le _⟩) (fun H locs hw => ?_)
          refine lv_iadd (pc := 35) hx hb dX4_oddPairs_35 ?_
          obtain ⟨v8, ev8, hf⟩ := bn_ob hf
          refine x_topi ev8 ?_
          refine lv_istore_n (lv' := [(3, .int v8), (0, .ref a), (1, .int p1), (2, .int p2), (4, .int v2)]) (pc := 36) hx hb dX4_oddPairs_36 rfl hl (by decide) rfl (fun ls hl => ?_)
          cases hf
          exact J37_3 _ _ _ hw (lv_sub hl [1, 2, 3, 0, 4] rfl)
  obtain ⟨v10, hj, hf⟩ := b1_ob hf
  refine L5 _ 0 0 v10 hj _ _ _ hw (lv_sub hl [2, 3, 4, 1, 0] rfl) (fun H locs ls hw hl => ?_)
  clear hj L5
  refine lv_iload_n (pc := 43) hx hb dX4_oddPairs_43 rfl (lv_at hl 0 rfl) ?_
  cases hf
  exact hret _ _ 44 _ hw ⟨_, rfl, rfl⟩ dX4_oddPairs_44

abbrev rmX4_leanAllowed : Room := { frames := 0, cells := 0, slots := 0, locals := 0 }
def f_X4_leanAllowed (p1 : Int32) (p2 : Int32) (p3 : Int32) : Option (Int32) :=
  if 1 ≤ p3 then
    b1 (dvI (p2 * p1) p3) fun v2 =>
    some (v2 - ((v2 - p1) &&& 1))
  else
  some (-1)
set_option maxHeartbeats 4000000 in
set_option maxRecDepth 100000 in
theorem c_X4_leanAllowed (l : Launch) (D : va_G) (cs : CS) (p1 : Int32) (p2 : Int32) (p3 : Int32) (r : Int32) (hf : f_X4_leanAllowed p1 p2 p3 = some r) : CT l D (TY cs) yX4_leanAllowed wsX4_leanAllowed rmX4_leanAllowed [.int p1, .int p2, .int p3] ([]) (some (.int r)) ([]) := by
  refine CT.ofW (own := RX4) (cc := cX4_leanAllowed) (maxL := 4) (ret := some .int) (by decide) rfl rfl (Nat.le_of_ble_eq_true rfl) ?_
  intro p e s m args below meth c A Q X hret ls hl hw
  obtain ⟨hx, hb, hml, hown, hts, hK, hA, hr, hlk⟩ := id X
  have hl : lv_has ls 4 [(0, .int p1), (1, .int p2), (2, .int p3)] := hl
  unfold f_X4_leanAllowed at hf
  refine lv_iload_n (pc := 0) hx hb dX4_leanAllowed_0 rfl (lv_at hl 2 rfl) ?_
  refine lv_iconst (pc := 1) (v := 1) hx hb dX4_leanAllowed_1 (by decide) ?_
  refine lv_icmp_ge (pc := 2) (tgt := 7) hx hb dX4_leanAllowed_2 (by decide) (fun c1 => ?_) (fun c1 => ?_)
  · have hf := ipos c1 hf
    refine lv_iload_n (pc := 7) hx hb dX4_leanAllowed_7 rfl (lv_at hl 1 rfl) ?_
    refine lv_iload_n (pc := 8) hx hb dX4_leanAllowed_8 rfl (lv_at hl 0 rfl) ?_
    refine lv_imul (pc := 9) hx hb dX4_leanAllowed_9 ?_
    refine lv_iload_n (pc := 10) hx hb dX4_leanAllowed_10 rfl (lv_at hl 2 rfl) ?_
    obtain ⟨v2, ev2, hf⟩ := b1_ob hf
    refine lv_idiv (pc := 11) hx hb dX4_leanAllowed_11 (dvI_ob ev2).1 ?_
    refine x_topi (dvI_ob ev2).2.symm ?_
    refine lv_istore_n (lv' := [(3, .int v2), (0, .int p1), (1, .int p2), (2, .int p3)]) (pc := 12) hx hb dX4_leanAllowed_12 rfl hl (by decide) rfl (fun ls hl => ?_)
    refine lv_iload_n (pc := 13) hx hb dX4_leanAllowed_13 rfl (lv_at hl 0 rfl) ?_
    refine lv_iload_n (pc := 14) hx hb dX4_leanAllowed_14 rfl (lv_at hl 0 rfl) ?_
    refine lv_iload_n (pc := 15) hx hb dX4_leanAllowed_15 rfl (lv_at hl 1 rfl) ?_
    refine lv_isub (pc := 16) hx hb dX4_leanAllowed_16 ?_
    refine lv_iconst (pc := 17) (v := 1) hx hb dX4_leanAllowed_17 (by decide) ?_
    refine lv_iand (pc := 18) hx hb dX4_leanAllowed_18 ?_
    refine lv_isub (pc := 19) hx hb dX4_leanAllowed_19 ?_
    cases hf
    exact hret _ _ 20 _ hw ⟨_, rfl, rfl⟩ dX4_leanAllowed_20
  · have hf := ineg c1 hf
    refine lv_iconst (pc := 5) (v := (-1)) hx hb dX4_leanAllowed_5 (by decide) ?_
    cases hf
    exact hret _ _ 6 _ hw ⟨_, rfl, rfl⟩ dX4_leanAllowed_6

abbrev rmX4_mayLeanSoLittle : Room := { frames := 1, cells := 0, slots := 0, locals := 23 }
def B_X4_mayLeanSoLittle_27 (p2 : Int32) (p4 : Int32) (v2 : Int32) (v3 : Int32) (v4 : Int32) (v5 : Int32) : Option ((Int32 × Int32) ⊕ (Int32)) :=
  if v2 ≤ v5 then
    some (.inr v4)
  else
  b1 (f_J6_bitCount_0f7a4 v5) fun v7 =>
  b1 (
    if p2 < v7 then
      some v3
    else
    some (if v3 < p4 then v3 else p4)) fun v8 =>
  bn (v4 + (v8 * v8)) fun v10 =>
  bn (v5 + 1) fun v11 =>
  some (.inl (v10, v11))
def L_X4_mayLeanSoLittle_27 (p2 : Int32) (p4 : Int32) (v2 : Int32) (v3 : Int32) (n : Nat) (v4 : Int32) (v5 : Int32) : Option (Int32) := loopF (fun x : Int32 × Int32 => B_X4_mayLeanSoLittle_27 p2 p4 v2 v3 x.1 x.2) n (v4, v5)
def f_X4_mayLeanSoLittle (p1 : Int32) (p2 : Int32) (p3 : Int32) (p4 : Int32) : Option (Int32) :=
  if 0 ≤ p4 then
    bn ((1 : Int32) <<< (p1 &&& 31)) fun v2 =>
    bn (if (v2 - p3) < p3 then (v2 - p3) else p3) fun v3 =>
    b1 (L_X4_mayLeanSoLittle_27 p2 p4 v2 v3 FU 0 1) fun v12 =>
    b1 (
      if v12 < (p3 * (v2 - p3)) then
        some (0 : Int32)
      else
      some (1 : Int32)) fun v13 =>
    b1 (ckB v13) fun v15 =>
    some v15
  else
  some 0
set_option maxHeartbeats 4000000 in
set_option maxRecDepth 100000 in
theorem c_X4_mayLeanSoLittle (l : Launch) (D : va_G) (cs : CS) (p1 : Int32) (p2 : Int32) (p3 : Int32) (p4 : Int32) (r : Int32) (hf : f_X4_mayLeanSoLittle p1 p2 p3 p4 = some r) : CT l D (TY cs) yX4_mayLeanSoLittle wsX4_mayLeanSoLittle rmX4_mayLeanSoLittle [.int p1, .int p2, .int p3, .int p4] ([]) (some (.int r)) ([]) := by
  refine CT.ofW (own := RX4) (cc := cX4_mayLeanSoLittle) (maxL := 9) (ret := some .boolean) (by decide) rfl rfl (Nat.le_of_ble_eq_true rfl) ?_
  intro p e s m args below meth c A Q X hret ls hl hw
  obtain ⟨hx, hb, hml, hown, hts, hK, hA, hr, hlk⟩ := id X
  have hl : lv_has ls 9 [(0, .int p1), (1, .int p2), (2, .int p3), (3, .int p4)] := hl
  unfold f_X4_mayLeanSoLittle at hf
  refine lv_iload_n (pc := 0) hx hb dX4_mayLeanSoLittle_0 rfl (lv_at hl 3 rfl) ?_
  refine lv_if_ge (pc := 1) (tgt := 6) hx hb dX4_mayLeanSoLittle_1 (by decide) (fun c1 => ?_) (fun c1 => ?_)
  · have hf := ipos c1 hf
    refine lv_iconst (pc := 6) (v := 1) hx hb dX4_mayLeanSoLittle_6 (by decide) ?_
    refine lv_iload_n (pc := 7) hx hb dX4_mayLeanSoLittle_7 rfl (lv_at hl 0 rfl) ?_
    refine lv_ishl (pc := 8) hx hb dX4_mayLeanSoLittle_8 ?_
    obtain ⟨v2, ev2, hf⟩ := bn_ob hf
    refine x_topi ev2 ?_
    refine lv_istore (lv' := [(4, .int v2), (0, .int p1), (1, .int p2), (2, .int p3), (3, .int p4)]) (pc := 9) hx hb dX4_mayLeanSoLittle_9 hl (by decide) rfl (fun ls hl => ?_)
    refine lv_iload_n (pc := 11) hx hb dX4_mayLeanSoLittle_11 rfl (lv_at hl 3 rfl) ?_
    refine lv_iload (pc := 12) hx hb dX4_mayLeanSoLittle_12 (lv_at hl 0 rfl) ?_
    refine lv_iload_n (pc := 14) hx hb dX4_mayLeanSoLittle_14 rfl (lv_at hl 3 rfl) ?_
    refine lv_isub (pc := 15) hx hb dX4_mayLeanSoLittle_15 ?_
    refine va_mmin (pc := 16) hx hb (hml.trans hl.1.symm) hown (hts _ (List.mem_of_getElem? (i := 1) rfl)) (hts _ (List.mem_of_getElem? (i := 2) rfl)) (hts _ (List.mem_of_getElem? (i := 3) rfl)) (hts _ (List.mem_of_getElem? (i := 4) rfl)) (Nat.le_of_ble_eq_true rfl) (Nat.le_of_ble_eq_true rfl) (Nat.zero_le _) (Nat.zero_le _) dX4_mayLeanSoLittle_16 ?_
    obtain ⟨v3, ev3, hf⟩ := bn_ob hf
    refine x_topi ev3 ?_
    refine lv_istore (lv' := [(5, .int v3), (4, .int v2), (0, .int p1), (1, .int p2), (2, .int p3), (3, .int p4)]) (pc := 19) hx hb dX4_mayLeanSoLittle_19 hl (by decide) rfl (fun ls hl => ?_)
    refine lv_iconst (pc := 21) (v := 0) hx hb dX4_mayLeanSoLittle_21 (by decide) ?_
    refine lv_istore (lv' := [(6, .int 0), (5, .int v3), (4, .int v2), (0, .int p1), (1, .int p2), (2, .int p3), (3, .int p4)]) (pc := 22) hx hb dX4_mayLeanSoLittle_22 hl (by decide) rfl (fun ls hl => ?_)
    refine lv_iconst (pc := 24) (v := 1) hx hb dX4_mayLeanSoLittle_24 (by decide) ?_
    refine lv_istore (lv' := [(7, .int 1), (6, .int 0), (5, .int v3), (4, .int v2), (0, .int p1), (1, .int p2), (2, .int p3), (3, .int p4)]) (pc := 25) hx hb dX4_mayLeanSoLittle_25 hl (by decide) rfl (fun ls hl => ?_)
    have L27 : ∀ (n : Nat) (v4 : Int32) (v5 : Int32) (rv4 : Int32), L_X4_mayLeanSoLittle_27 p2 p4 v2 v3 n v4 v5 = some rv4 → ∀ (H : Heap) (locs : List Loc) (ls : Array Slot), WD D A s ([]) H locs → lv_has ls 9 [(1, .int p2), (2, .int p3), (3, .int p4), (4, .int v2), (5, .int v3), (6, .int v4), (7, .int v5)] → (∀ (H : Heap) (locs : List Loc) (ls : Array Slot), WD D A s ([]) H locs → lv_has ls 9 [(2, .int p3), (4, .int v2), (6, .int rv4)] → W p l e rmX4_mayLeanSoLittle s m args below meth c H locs 0 0 Q (F0 m 72 ls [])) → W p l e rmX4_mayLeanSoLittle s m args below meth c H locs 0 0 Q (F0 m 27 ls []) := by
      intro n
      induction n with
      | zero => intro v4 v5 rv4 hf; exact (loopF_z hf).elim
      | succ n ih =>
        intro v4 v5 rv4 hf H locs ls hw hl K
        obtain ⟨x, hf, hx0⟩ := loopF_ob hf
        have hf : B_X4_mayLeanSoLittle_27 p2 p4 v2 v3 v4 v5 = some x := hf
        unfold B_X4_mayLeanSoLittle_27 at hf
        refine lv_iload (pc := 27) hx hb dX4_mayLeanSoLittle_27 (lv_at hl 6 rfl) ?_
        refine lv_iload (pc := 29) hx hb dX4_mayLeanSoLittle_29 (lv_at hl 3 rfl) ?_
        refine lv_icmp_ge (pc := 31) (tgt := 72) hx hb dX4_mayLeanSoLittle_31 (by decide) (fun c6 => ?_) (fun c6 => ?_)
        · have hf := ipos c6 hf
          cases hf
          cases (hx0 : v4 = rv4)
          exact K _ _ _ hw (lv_sub hl [1, 3, 5] rfl)
        · have hf := ineg c6 hf
          refine lv_iload (pc := 34) hx hb dX4_mayLeanSoLittle_34 (lv_at hl 6 rfl) ?_
          obtain ⟨v7, hc, hf⟩ := b1_ob hf
          refine x_nil (pc := 36) X hw (va_runS (As := [.int v5]) (rest := []) ⟨hx, hb, hml, hown, hts⟩ (c_J6_bitCount_0f7a4 l D cs v5 v7 hc _) (va_cwS 1 hts gX4_mayLeanSoLittle_J6_bitCount_0f7a4 rfl rfl rfl (by decide +kernel) ⟨Nat.le_of_ble_eq_true rfl, Nat.le_of_ble_eq_true rfl⟩) ⟨CP_blind, x_preN X [.int v5]⟩ rfl rfl hl.1 rfl (lv_room (Nat.le_of_ble_eq_true rfl)) dX4_mayLeanSoLittle_36 ⟨Nat.zero_le _, Nat.zero_le _⟩) (fun H locs hw => ?_)
          refine lv_iload_n (pc := 39) hx hb dX4_mayLeanSoLittle_39 rfl (lv_at hl 0 rfl) ?_
          obtain ⟨v8, hj, hf⟩ := b1_ob hf
          have J54_7 : ∀ (H : Heap) (locs : List Loc) (ls : Array Slot), WD D A s ([]) H locs → lv_has ls 9 [(1, .int p2), (2, .int p3), (3, .int p4), (4, .int v2), (5, .int v3), (6, .int v4), (7, .int v5)] → W p l e rmX4_mayLeanSoLittle s m args below meth c H locs 0 0 Q (F0 m 54 ls [.int v8]) := by
            intro H locs ls hw hl
            refine lv_istore (lv' := [(8, .int v8), (1, .int p2), (2, .int p3), (3, .int p4), (4, .int v2), (5, .int v3), (6, .int v4), (7, .int v5)]) (pc := 54) hx hb dX4_mayLeanSoLittle_54 hl (by decide) rfl (fun ls hl => ?_)
            refine lv_iload (pc := 56) hx hb dX4_mayLeanSoLittle_56 (lv_at hl 6 rfl) ?_
            refine lv_iload (pc := 58) hx hb dX4_mayLeanSoLittle_58 (lv_at hl 0 rfl) ?_
            refine lv_iload (pc := 60) hx hb dX4_mayLeanSoLittle_60 (lv_at hl 0 rfl) ?_
            refine lv_imul (pc := 62) hx hb dX4_mayLeanSoLittle_62 ?_
            refine lv_iadd (pc := 63) hx hb dX4_mayLeanSoLittle_63 ?_
            obtain ⟨v10, ev10, hf⟩ := bn_ob hf
            refine x_topi ev10 ?_
            refine lv_istore (lv' := [(6, .int v10), (8, .int v8), (1, .int p2), (2, .int p3), (3, .int p4), (4, .int v2), (5, .int v3), (7, .int v5)]) (pc := 64) hx hb dX4_mayLeanSoLittle_64 hl (by decide) rfl (fun ls hl => ?_)
            obtain ⟨v11, ev11, hf⟩ := bn_ob hf
            refine lv_iinc (pc := 66) (v := v11) (lv' := [(7, .int v11), (6, .int v10), (8, .int v8), (1, .int p2), (2, .int p3), (3, .int p4), (4, .int v2), (5, .int v3)]) hx hb dX4_mayLeanSoLittle_66 hl (k := 7) rfl (by rw [ev11]; rfl) (by decide) rfl (fun ls hl => ?_)
            refine lv_goto (pc := 69) (tgt := 27) hx hb dX4_mayLeanSoLittle_69 (by decide) ?_
            cases hf
            exact ih v10 v11 rv4 hx0 _ _ _ hw (lv_sub hl [3, 4, 5, 6, 7, 1, 0] rfl) K
          clear hf; have hf := hj; clear hj
          refine lv_icmp_gt (pc := 40) (tgt := 52) hx hb dX4_mayLeanSoLittle_40 (by decide) (fun c9 => ?_) (fun c9 => ?_)
          · have hf := ipos c9 hf
            refine lv_iload (pc := 52) hx hb dX4_mayLeanSoLittle_52 (lv_at hl 4 rfl) ?_
            cases hf
            exact J54_7 _ _ _ hw (lv_sub hl [0, 1, 2, 3, 4, 5, 6] rfl)
          · have hf := ineg c9 hf
            refine lv_iload_n (pc := 43) hx hb dX4_mayLeanSoLittle_43 rfl (lv_at hl 2 rfl) ?_
            refine lv_iload (pc := 44) hx hb dX4_mayLeanSoLittle_44 (lv_at hl 4 rfl) ?_
            refine va_mmin (pc := 46) hx hb (hml.trans hl.1.symm) hown (hts _ (List.mem_of_getElem? (i := 1) rfl)) (hts _ (List.mem_of_getElem? (i := 2) rfl)) (hts _ (List.mem_of_getElem? (i := 3) rfl)) (hts _ (List.mem_of_getElem? (i := 4) rfl)) (Nat.le_of_ble_eq_true rfl) (Nat.le_of_ble_eq_true rfl) (Nat.zero_le _) (Nat.zero_le _) dX4_mayLeanSoLittle_46 ?_
            refine lv_goto (pc := 49) (tgt := 54) hx hb dX4_mayLeanSoLittle_49 (by decide) ?_
            cases hf
            exact J54_7 _ _ _ hw (lv_sub hl [0, 1, 2, 3, 4, 5, 6] rfl)
    obtain ⟨v12, hj, hf⟩ := b1_ob hf
    refine L27 _ 0 1 v12 hj _ _ _ hw (lv_sub hl [5, 6, 7, 3, 2, 1, 0] rfl) (fun H locs ls hw hl => ?_)
    clear hj L27
    refine lv_iload (pc := 72) hx hb dX4_mayLeanSoLittle_72 (lv_at hl 2 rfl) ?_
    refine lv_iload_n (pc := 74) hx hb dX4_mayLeanSoLittle_74 rfl (lv_at hl 0 rfl) ?_
    refine lv_iload (pc := 75) hx hb dX4_mayLeanSoLittle_75 (lv_at hl 1 rfl) ?_
    refine lv_iload_n (pc := 77) hx hb dX4_mayLeanSoLittle_77 rfl (lv_at hl 0 rfl) ?_
    refine lv_isub (pc := 78) hx hb dX4_mayLeanSoLittle_78 ?_
    refine lv_imul (pc := 79) hx hb dX4_mayLeanSoLittle_79 ?_
    obtain ⟨v13, hj, hf⟩ := b1_ob hf
    have J88_12 : ∀ (H : Heap) (locs : List Loc) (ls : Array Slot), WD D A s ([]) H locs → lv_has ls 9 [] → W p l e rmX4_mayLeanSoLittle s m args below meth c H locs 0 0 Q (F0 m 88 ls [.int v13]) := by
      intro H locs ls hw hl
      obtain ⟨v15, ev15, hf⟩ := b1_ob hf
      refine x_topi (ckB_ob ev15).1.symm ?_
      cases hf
      exact hret _ _ 88 _ hw ⟨_, rfl, ckB_nar (ckB_ob ev15).2⟩ dX4_mayLeanSoLittle_88
    clear hf; have hf := hj; clear hj
    refine lv_icmp_lt (pc := 80) (tgt := 87) hx hb dX4_mayLeanSoLittle_80 (by decide) (fun c14 => ?_) (fun c14 => ?_)
    · have hf := ipos c14 hf
      refine lv_iconst (pc := 87) (v := 0) hx hb dX4_mayLeanSoLittle_87 (by decide) ?_
      cases hf
      exact J88_12 _ _ _ hw (lv_sub hl [] rfl)
    · have hf := ineg c14 hf
      refine lv_iconst (pc := 83) (v := 1) hx hb dX4_mayLeanSoLittle_83 (by decide) ?_
      refine lv_goto (pc := 84) (tgt := 88) hx hb dX4_mayLeanSoLittle_84 (by decide) ?_
      cases hf
      exact J88_12 _ _ _ hw (lv_sub hl [] rfl)
  · have hf := ineg c1 hf
    refine lv_iconst (pc := 4) (v := 0) hx hb dX4_mayLeanSoLittle_4 (by decide) ?_
    cases hf
    exact hret _ _ 5 _ hw ⟨_, rfl, by decide⟩ dX4_mayLeanSoLittle_5

theorem in_X4_leansSoLittle_X4 : ∀ w ∈ wsX40, w ∈ wsX4_leansSoLittle := fun _ h => List.mem_cons_of_mem _ (List.mem_append_right _ h)
abbrev rmX4_leansSoLittle : Room := { frames := 1, cells := 0, slots := 0, locals := 23 }
def B_X4_leansSoLittle_9 (S : PS) (p1 : Int32) (p2 : Int32) (p3 : Int32) (p4 : Int32) (v1 : Int32) (v2 : Int32) : Option ((Int32) ⊕ (Int32)) :=
  if p2 ≤ v2 then
    some (.inr 1)
  else
  b1 (f_J6_bitCount_0f7a4 v2) fun v4 =>
  if p3 < v4 then
    bn (v2 + 1) fun v6 =>
    some (.inl v6)
  else
  b1 (rdI 16 (S.2.1 0) v2) fun v7 =>
  b1 (f_J6_bitCount_0f7a4 (p1 &&& v7)) fun v8 =>
  if (if 0 ≤ (v1 - (2 * v8)) then (v1 - (2 * v8)) else 0 - (v1 - (2 * v8))) ≤ p4 then
    bn (v2 + 1) fun v10 =>
    some (.inl v10)
  else
  some (.inr 0)
def L_X4_leansSoLittle_9 (S : PS) (p1 : Int32) (p2 : Int32) (p3 : Int32) (p4 : Int32) (v1 : Int32) (n : Nat) (v2 : Int32) : Option (Int32) := loopF (fun x : Int32 => B_X4_leansSoLittle_9 S p1 p2 p3 p4 v1 x) n v2
def f_X4_leansSoLittle (S : PS) (p1 : Int32) (p2 : Int32) (p3 : Int32) (p4 : Int32) : Option (Int32) :=
  b1 (f_J6_bitCount_0f7a4 p1) fun v1 =>
  L_X4_leansSoLittle_9 S p1 p2 p3 p4 v1 FU 1
set_option maxHeartbeats 4000000 in
set_option maxRecDepth 100000 in
theorem c_X4_leansSoLittle (l : Launch) (D : va_G) (cs : CS) (a : Nat) (q : Nat → Nat) (S : PS) (p1 : Int32) (p2 : Int32) (p3 : Int32) (p4 : Int32) (r : Int32) (hf : f_X4_leansSoLittle S p1 p2 p3 p4 = some r) : CT l D (TY cs) yX4_leansSoLittle wsX4_leansSoLittle rmX4_leansSoLittle [.ref a, .int p1, .int p2, .int p3, .int p4] (wX4 cs a q S) (some (.int r)) (wX4 cs a q S) := by
  refine CT.ofW (own := RX4) (cc := cX4_leansSoLittle) (maxL := 7) (ret := some .boolean) (by decide) rfl rfl (Nat.le_of_ble_eq_true rfl) ?_
  intro p e s m args below meth c A Q X hret ls hl hw
  obtain ⟨hx, hb, hml, hown, hts, hK, hA, hr, hlk⟩ := id X
  have hl : lv_has ls 7 [(0, .ref a), (1, .int p1), (2, .int p2), (3, .int p3), (4, .int p4)] := hl
  unfold f_X4_leansSoLittle at hf
  refine lv_iload_n (pc := 0) hx hb dX4_leansSoLittle_0 rfl (lv_at hl 1 rfl) ?_
  obtain ⟨v1, hc, hf⟩ := b1_ob hf
  refine x_nil (pc := 1) X hw (va_runS (As := [.int p1]) (rest := []) ⟨hx, hb, hml, hown, hts⟩ (c_J6_bitCount_0f7a4 l D cs p1 v1 hc _) (va_cwS 1 hts gX4_leansSoLittle_J6_bitCount_0f7a4 rfl rfl rfl (by decide +kernel) ⟨Nat.le_of_ble_eq_true rfl, Nat.le_of_ble_eq_true rfl⟩) ⟨CP_blind, x_preN X [.int p1]⟩ rfl rfl hl.1 rfl (lv_room (Nat.le_of_ble_eq_true rfl)) dX4_leansSoLittle_1 ⟨Nat.zero_le _, Nat.zero_le _⟩) (fun H locs hw => ?_)
  refine lv_istore (lv' := [(5, .int v1), (0, .ref a), (1, .int p1), (2, .int p2), (3, .int p3), (4, .int p4)]) (pc := 4) hx hb dX4_leansSoLittle_4 hl (by decide) rfl (fun ls hl => ?_)
  refine lv_iconst (pc := 6) (v := 1) hx hb dX4_leansSoLittle_6 (by decide) ?_
  refine lv_istore (lv' := [(6, .int 1), (5, .int v1), (0, .ref a), (1, .int p1), (2, .int p2), (3, .int p3), (4, .int p4)]) (pc := 7) hx hb dX4_leansSoLittle_7 hl (by decide) rfl (fun ls hl => ?_)
  have L9 : ∀ (n : Nat) (v2 : Int32), L_X4_leansSoLittle_9 S p1 p2 p3 p4 v1 n v2 = some r → ∀ (H : Heap) (locs : List Loc) (ls : Array Slot), WD D A s (wX4 cs a q S) H locs → lv_has ls 7 [(0, .ref a), (1, .int p1), (2, .int p2), (3, .int p3), (4, .int p4), (5, .int v1), (6, .int v2)] → W p l e rmX4_leansSoLittle s m args below meth c H locs 0 0 Q (F0 m 9 ls []) := by
    intro n
    induction n with
    | zero => intro v2 hf; exact (loopF_z hf).elim
    | succ n ih =>
      intro v2 hf H locs ls hw hl
      obtain ⟨x, hf, hx0⟩ := loopF_ob hf
      have hf : B_X4_leansSoLittle_9 S p1 p2 p3 p4 v1 v2 = some x := hf
      unfold B_X4_leansSoLittle_9 at hf
      refine lv_iload (pc := 9) hx hb dX4_leansSoLittle_9 (lv_at hl 6 rfl) ?_
      refine lv_iload_n (pc := 11) hx hb dX4_leansSoLittle_11 rfl (lv_at hl 2 rfl) ?_
      refine lv_icmp_ge (pc := 12) (tgt := 57) hx hb dX4_leansSoLittle_12 (by decide) (fun c3 => ?_) (fun c3 => ?_)
      · have hf := ipos c3 hf
        refine lv_iconst (pc := 57) (v := 1) hx hb dX4_leansSoLittle_57 (by decide) ?_
        cases hf
        cases (hx0 : 1 = r)
        exact hret _ _ 58 _ hw ⟨_, rfl, by decide⟩ dX4_leansSoLittle_58
      · have hf := ineg c3 hf
        refine lv_iload (pc := 15) hx hb dX4_leansSoLittle_15 (lv_at hl 6 rfl) ?_
        obtain ⟨v4, hc, hf⟩ := b1_ob hf
        refine x_nil (pc := 17) X hw (va_runS (As := [.int v2]) (rest := []) ⟨hx, hb, hml, hown, hts⟩ (c_J6_bitCount_0f7a4 l D cs v2 v4 hc _) (va_cwS 1 hts gX4_leansSoLittle_J6_bitCount_0f7a4 rfl rfl rfl (by decide +kernel) ⟨Nat.le_of_ble_eq_true rfl, Nat.le_of_ble_eq_true rfl⟩) ⟨CP_blind, x_preN X [.int v2]⟩ rfl rfl hl.1 rfl (lv_room (Nat.le_of_ble_eq_true rfl)) dX4_leansSoLittle_17 ⟨Nat.zero_le _, Nat.zero_le _⟩) (fun H locs hw => ?_)
        refine lv_iload_n (pc := 20) hx hb dX4_leansSoLittle_20 rfl (lv_at hl 3 rfl) ?_
        refine lv_icmp_gt (pc := 21) (tgt := 51) hx hb dX4_leansSoLittle_21 (by decide) (fun c5 => ?_) (fun c5 => ?_)
        · have hf := ipos c5 hf
          obtain ⟨v6, ev6, hf⟩ := bn_ob hf
          refine lv_iinc (pc := 51) (v := v6) (lv' := [(6, .int v6), (0, .ref a), (1, .int p1), (2, .int p2), (3, .int p3), (4, .int p4), (5, .int v1)]) hx hb dX4_leansSoLittle_51 hl (k := 6) rfl (by rw [ev6]; rfl) (by decide) rfl (fun ls hl => ?_)
          refine lv_goto (pc := 54) (tgt := 9) hx hb dX4_leansSoLittle_54 (by decide) ?_
          cases hf
          exact ih v6  hx0 _ _ _ hw (lv_sub hl [1, 2, 3, 4, 5, 6, 0] rfl)
        · have hf := ineg c5 hf
          refine lv_iload (pc := 24) hx hb dX4_leansSoLittle_24 (lv_at hl 5 rfl) ?_
          refine lv_iconst (pc := 26) (v := 2) hx hb dX4_leansSoLittle_26 (by decide) ?_
          refine lv_iload_n (pc := 27) hx hb dX4_leansSoLittle_27 rfl (lv_at hl 1 rfl) ?_
          refine lv_aload_n (pc := 28) hx hb dX4_leansSoLittle_28 rfl (lv_at hl 0 rfl) ?_
          refine x_get (pc := 29) X hw in_X4_leansSoLittle_X4 0 rfl rfl 0 (by decide) (List.mem_of_getElem? (i := 1) rfl) rfl dX4_leansSoLittle_29 ?_
          refine lv_iload (pc := 32) hx hb dX4_leansSoLittle_32 (lv_at hl 6 rfl) ?_
          obtain ⟨v7, ev7, hf⟩ := b1_ob hf
          refine x_iald (pc := 34) X hw 1 0 rfl rfl ev7 dX4_leansSoLittle_34 ?_
          refine lv_iand (pc := 35) hx hb dX4_leansSoLittle_35 ?_
          obtain ⟨v8, hc, hf⟩ := b1_ob hf
          refine x_nil (pc := 36) X hw (va_runS (As := [.int (p1 &&& v7)]) (rest := [.int 2, .int v1]) ⟨hx, hb, hml, hown, hts⟩ (c_J6_bitCount_0f7a4 l D cs (p1 &&& v7) v8 hc _) (va_cwS 1 hts gX4_leansSoLittle_J6_bitCount_0f7a4 rfl rfl rfl (by decide +kernel) ⟨Nat.le_of_ble_eq_true rfl, Nat.le_of_ble_eq_true rfl⟩) ⟨CP_blind, x_preN X [.int (p1 &&& v7)]⟩ rfl rfl hl.1 rfl (lv_room (Nat.le_of_ble_eq_true rfl)) dX4_leansSoLittle_36 ⟨Nat.zero_le _, Nat.zero_le _⟩) (fun H locs hw => ?_)
          refine lv_imul (pc := 39) hx hb dX4_leansSoLittle_39 ?_
          refine lv_isub (pc := 40) hx hb dX4_leansSoLittle_40 ?_
          refine va_mabs (pc := 41) hx hb (hml.trans hl.1.symm) hown (hts _ (List.mem_of_getElem? (i := 2) rfl)) (hts _ (List.mem_of_getElem? (i := 3) rfl)) (hts _ (List.mem_of_getElem? (i := 4) rfl)) (hts _ (List.mem_of_getElem? (i := 5) rfl)) (Nat.le_of_ble_eq_true rfl) (Nat.le_of_ble_eq_true rfl) (Nat.zero_le _) (Nat.zero_le _) dX4_leansSoLittle_41 ?_
          refine lv_iload (pc := 44) hx hb dX4_leansSoLittle_44 (lv_at hl 4 rfl) ?_
          refine lv_icmp_le (pc := 46) (tgt := 51) hx hb dX4_leansSoLittle_46 (by decide) (fun c9 => ?_) (fun c9 => ?_)
          · have hf := ipos c9 hf
            obtain ⟨v10, ev10, hf⟩ := bn_ob hf
            refine lv_iinc (pc := 51) (v := v10) (lv' := [(6, .int v10), (0, .ref a), (1, .int p1), (2, .int p2), (3, .int p3), (4, .int p4), (5, .int v1)]) hx hb dX4_leansSoLittle_51 hl (k := 6) rfl (by rw [ev10]; rfl) (by decide) rfl (fun ls hl => ?_)
            refine lv_goto (pc := 54) (tgt := 9) hx hb dX4_leansSoLittle_54 (by decide) ?_
            cases hf
            exact ih v10  hx0 _ _ _ hw (lv_sub hl [1, 2, 3, 4, 5, 6, 0] rfl)
          · have hf := ineg c9 hf
            refine lv_iconst (pc := 49) (v := 0) hx hb dX4_leansSoLittle_49 (by decide) ?_
            cases hf
            cases (hx0 : 0 = r)
            exact hret _ _ 50 _ hw ⟨_, rfl, by decide⟩ dX4_leansSoLittle_50
  exact L9 _ 1 hf _ _ _ hw (lv_sub hl [2, 3, 4, 5, 6, 1, 0] rfl)

abbrev rmX4_nextOfSize : Room := { frames := 0, cells := 0, slots := 0, locals := 0 }
def f_X4_nextOfSize (p1 : Int32) : Option (Int32) :=
  bn (p1 &&& (-p1)) fun v1 =>
  if v1 = 0 then
    some p1
  else
  bn (p1 + v1) fun v3 =>
  b1 (dvI (((v3 ^^^ p1).toUInt32 >>> ((2 : Int32).toUInt32 &&& Int32.toUInt32 31)).toInt32) v1) fun v4 =>
  some (v3 ||| v4)
set_option maxHeartbeats 4000000 in
set_option maxRecDepth 100000 in
theorem c_X4_nextOfSize (l : Launch) (D : va_G) (cs : CS) (p1 : Int32) (r : Int32) (hf : f_X4_nextOfSize p1 = some r) : CT l D (TY cs) yX4_nextOfSize wsX4_nextOfSize rmX4_nextOfSize [.int p1] ([]) (some (.int r)) ([]) := by
  refine CT.ofW (own := RX4) (cc := cX4_nextOfSize) (maxL := 3) (ret := some .int) (by decide) rfl rfl (Nat.le_of_ble_eq_true rfl) ?_
  intro p e s m args below meth c A Q X hret ls hl hw
  obtain ⟨hx, hb, hml, hown, hts, hK, hA, hr, hlk⟩ := id X
  have hl : lv_has ls 3 [(0, .int p1)] := hl
  unfold f_X4_nextOfSize at hf
  refine lv_iload_n (pc := 0) hx hb dX4_nextOfSize_0 rfl (lv_at hl 0 rfl) ?_
  refine lv_iload_n (pc := 1) hx hb dX4_nextOfSize_1 rfl (lv_at hl 0 rfl) ?_
  refine lv_ineg (pc := 2) hx hb dX4_nextOfSize_2 ?_
  refine lv_iand (pc := 3) hx hb dX4_nextOfSize_3 ?_
  obtain ⟨v1, ev1, hf⟩ := bn_ob hf
  refine x_topi ev1 ?_
  refine lv_istore_n (lv' := [(1, .int v1), (0, .int p1)]) (pc := 4) hx hb dX4_nextOfSize_4 rfl hl (by decide) rfl (fun ls hl => ?_)
  refine lv_iload_n (pc := 5) hx hb dX4_nextOfSize_5 rfl (lv_at hl 0 rfl) ?_
  refine lv_if_ne (pc := 6) (tgt := 11) hx hb dX4_nextOfSize_6 (by decide) (fun c2 => ?_) (fun c2 => ?_)
  · have hf := ineg c2 hf
    refine lv_iload_n (pc := 11) hx hb dX4_nextOfSize_11 rfl (lv_at hl 1 rfl) ?_
    refine lv_iload_n (pc := 12) hx hb dX4_nextOfSize_12 rfl (lv_at hl 0 rfl) ?_
    refine lv_iadd (pc := 13) hx hb dX4_nextOfSize_13 ?_
    obtain ⟨v3, ev3, hf⟩ := bn_ob hf
    refine x_topi ev3 ?_
    refine lv_istore_n (lv' := [(2, .int v3), (1, .int v1), (0, .int p1)]) (pc := 14) hx hb dX4_nextOfSize_14 rfl hl (by decide) rfl (fun ls hl => ?_)
    refine lv_iload_n (pc := 15) hx hb dX4_nextOfSize_15 rfl (lv_at hl 0 rfl) ?_
    refine lv_iload_n (pc := 16) hx hb dX4_nextOfSize_16 rfl (lv_at hl 0 rfl) ?_
    refine lv_iload_n (pc := 17) hx hb dX4_nextOfSize_17 rfl (lv_at hl 2 rfl) ?_
    refine lv_ixor (pc := 18) hx hb dX4_nextOfSize_18 ?_
    refine lv_iconst (pc := 19) (v := 2) hx hb dX4_nextOfSize_19 (by decide) ?_
    refine lv_iushr (pc := 20) hx hb dX4_nextOfSize_20 rfl ?_
    refine lv_iload_n (pc := 21) hx hb dX4_nextOfSize_21 rfl (lv_at hl 1 rfl) ?_
    obtain ⟨v4, ev4, hf⟩ := b1_ob hf
    refine lv_idiv (pc := 22) hx hb dX4_nextOfSize_22 (dvI_ob ev4).1 ?_
    refine x_topi (dvI_ob ev4).2.symm ?_
    refine lv_ior (pc := 23) hx hb dX4_nextOfSize_23 ?_
    cases hf
    exact hret _ _ 24 _ hw ⟨_, rfl, rfl⟩ dX4_nextOfSize_24
  · have hf := ipos c2 hf
    refine lv_iload_n (pc := 9) hx hb dX4_nextOfSize_9 rfl (lv_at hl 1 rfl) ?_
    cases hf
    exact hret _ _ 10 _ hw ⟨_, rfl, rfl⟩ dX4_nextOfSize_10

theorem in_X4_leastOfSize_X4 : ∀ w ∈ wsX40, w ∈ wsX4_leastOfSize := fun _ h => List.mem_cons_of_mem _ (List.mem_append_right _ h)
abbrev rmX4_leastOfSize : Room := { frames := 2, cells := 0, slots := 0, locals := 49 }
def B_X4_leastOfSize_15 (S : PS) (p2 : Int32) (p4 : Int32) (v1 : Int32) (v3 : Int32) (v4 : Int32) : Option ((Int32 × Int32) ⊕ (Int32)) :=
  if 12870 ≤ v4 then
    some (.inr (-1))
  else
  if ((1 : Int32) <<< (v1 &&& 31)) ≤ v3 then
    some (.inr (-1))
  else
  b1 (f_X4_leansSoLittle S v3 v1 p2 p4) fun v7 =>
  if v7 = 0 then
    b1 (f_X4_nextOfSize v3) fun v9 =>
    bn (v4 + 1) fun v10 =>
    some (.inl (v9, v10))
  else
  some (.inr v3)
def L_X4_leastOfSize_15 (S : PS) (p2 : Int32) (p4 : Int32) (v1 : Int32) (n : Nat) (v3 : Int32) (v4 : Int32) : Option (Int32) := loopF (fun x : Int32 × Int32 => B_X4_leastOfSize_15 S p2 p4 v1 x.1 x.2) n (v3, v4)
def f_X4_leastOfSize (S : PS) (p1 : Int32) (p2 : Int32) (p3 : Int32) (p4 : Int32) : Option (Int32) :=
  bn ((1 : Int32) <<< (p1 &&& 31)) fun v1 =>
  bn (((1 : Int32) <<< (p3 &&& 31)) - 1) fun v2 =>
  L_X4_leastOfSize_15 S p2 p4 v1 FU v2 0
set_option maxHeartbeats 4000000 in
set_option maxRecDepth 100000 in
theorem c_X4_leastOfSize (l : Launch) (D : va_G) (cs : CS) (a : Nat) (q : Nat → Nat) (S : PS) (p1 : Int32) (p2 : Int32) (p3 : Int32) (p4 : Int32) (r : Int32) (hf : f_X4_leastOfSize S p1 p2 p3 p4 = some r) : CT l D (TY cs) yX4_leastOfSize wsX4_leastOfSize rmX4_leastOfSize [.ref a, .int p1, .int p2, .int p3, .int p4] (wX4 cs a q S) (some (.int r)) (wX4 cs a q S) := by
  refine CT.ofW (own := RX4) (cc := cX4_leastOfSize) (maxL := 8) (ret := some .int) (by decide) rfl rfl (Nat.le_of_ble_eq_true rfl) ?_
  intro p e s m args below meth c A Q X hret ls hl hw
  obtain ⟨hx, hb, hml, hown, hts, hK, hA, hr, hlk⟩ := id X
  have hl : lv_has ls 8 [(0, .ref a), (1, .int p1), (2, .int p2), (3, .int p3), (4, .int p4)] := hl
  unfold f_X4_leastOfSize at hf
  refine lv_iconst (pc := 0) (v := 1) hx hb dX4_leastOfSize_0 (by decide) ?_
  refine lv_iload_n (pc := 1) hx hb dX4_leastOfSize_1 rfl (lv_at hl 1 rfl) ?_
  refine lv_ishl (pc := 2) hx hb dX4_leastOfSize_2 ?_
  obtain ⟨v1, ev1, hf⟩ := bn_ob hf
  refine x_topi ev1 ?_
  refine lv_istore (lv' := [(5, .int v1), (0, .ref a), (1, .int p1), (2, .int p2), (3, .int p3), (4, .int p4)]) (pc := 3) hx hb dX4_leastOfSize_3 hl (by decide) rfl (fun ls hl => ?_)
  refine lv_iconst (pc := 5) (v := 1) hx hb dX4_leastOfSize_5 (by decide) ?_
  refine lv_iload_n (pc := 6) hx hb dX4_leastOfSize_6 rfl (lv_at hl 4 rfl) ?_
  refine lv_ishl (pc := 7) hx hb dX4_leastOfSize_7 ?_
  refine lv_iconst (pc := 8) (v := 1) hx hb dX4_leastOfSize_8 (by decide) ?_
  refine lv_isub (pc := 9) hx hb dX4_leastOfSize_9 ?_
  obtain ⟨v2, ev2, hf⟩ := bn_ob hf
  refine x_topi ev2 ?_
  refine lv_istore (lv' := [(6, .int v2), (5, .int v1), (0, .ref a), (1, .int p1), (2, .int p2), (3, .int p3), (4, .int p4)]) (pc := 10) hx hb dX4_leastOfSize_10 hl (by decide) rfl (fun ls hl => ?_)
  refine lv_iconst (pc := 12) (v := 0) hx hb dX4_leastOfSize_12 (by decide) ?_
  refine lv_istore (lv' := [(7, .int 0), (6, .int v2), (5, .int v1), (0, .ref a), (1, .int p1), (2, .int p2), (3, .int p3), (4, .int p4)]) (pc := 13) hx hb dX4_leastOfSize_13 hl (by decide) rfl (fun ls hl => ?_)
  have L15 : ∀ (n : Nat) (v3 : Int32) (v4 : Int32), L_X4_leastOfSize_15 S p2 p4 v1 n v3 v4 = some r → ∀ (H : Heap) (locs : List Loc) (ls : Array Slot), WD D A s (wX4 cs a q S) H locs → lv_has ls 8 [(0, .ref a), (2, .int p2), (4, .int p4), (5, .int v1), (6, .int v3), (7, .int v4)] → W p l e rmX4_leastOfSize s m args below meth c H locs 0 0 Q (F0 m 15 ls []) := by
    intro n
    induction n with
    | zero => intro v3 v4 hf; exact (loopF_z hf).elim
    | succ n ih =>
      intro v3 v4 hf H locs ls hw hl
      obtain ⟨x, hf, hx0⟩ := loopF_ob hf
      have hf : B_X4_leastOfSize_15 S p2 p4 v1 v3 v4 = some x := hf
      unfold B_X4_leastOfSize_15 at hf
      refine lv_iload (pc := 15) hx hb dX4_leastOfSize_15 (lv_at hl 5 rfl) ?_
      refine lv_sipush (pc := 17) (v := 12870) hx hb dX4_leastOfSize_17 (by decide) ?_
      refine lv_icmp_ge (pc := 20) (tgt := 62) hx hb dX4_leastOfSize_20 (by decide) (fun c5 => ?_) (fun c5 => ?_)
      · have hf := ipos c5 hf
        refine lv_iconst (pc := 62) (v := (-1)) hx hb dX4_leastOfSize_62 (by decide) ?_
        cases hf
        cases (hx0 : (-1) = r)
        exact hret _ _ 63 _ hw ⟨_, rfl, rfl⟩ dX4_leastOfSize_63
      · have hf := ineg c5 hf
        refine lv_iload (pc := 23) hx hb dX4_leastOfSize_23 (lv_at hl 4 rfl) ?_
        refine lv_iconst (pc := 25) (v := 1) hx hb dX4_leastOfSize_25 (by decide) ?_
        refine lv_iload (pc := 26) hx hb dX4_leastOfSize_26 (lv_at hl 3 rfl) ?_
        refine lv_ishl (pc := 28) hx hb dX4_leastOfSize_28 ?_
        refine lv_icmp_ge (pc := 29) (tgt := 62) hx hb dX4_leastOfSize_29 (by decide) (fun c6 => ?_) (fun c6 => ?_)
        · have hf := ipos c6 hf
          refine lv_iconst (pc := 62) (v := (-1)) hx hb dX4_leastOfSize_62 (by decide) ?_
          cases hf
          cases (hx0 : (-1) = r)
          exact hret _ _ 63 _ hw ⟨_, rfl, rfl⟩ dX4_leastOfSize_63
        · have hf := ineg c6 hf
          refine lv_aload_n (pc := 32) hx hb dX4_leastOfSize_32 rfl (lv_at hl 0 rfl) ?_
          refine lv_iload (pc := 33) hx hb dX4_leastOfSize_33 (lv_at hl 4 rfl) ?_
          refine lv_iload (pc := 35) hx hb dX4_leastOfSize_35 (lv_at hl 3 rfl) ?_
          refine lv_iload_n (pc := 37) hx hb dX4_leastOfSize_37 rfl (lv_at hl 1 rfl) ?_
          refine lv_iload (pc := 38) hx hb dX4_leastOfSize_38 (lv_at hl 2 rfl) ?_
          obtain ⟨v7, hc, hf⟩ := b1_ob hf
          refine x_all (pc := 40) X hw (va_runV (As := [.int v3, .int v1, .int p2, .int p4]) (rest := []) ⟨hx, hb, hml, hown, hts⟩ (c_X4_leansSoLittle l D cs a q S v3 v1 p2 p4 v7 hc _) (cwV 4 hts gX4_leastOfSize_X4_leansSoLittle rfl rfl rfl (by decide +kernel) ⟨Nat.le_of_ble_eq_true rfl, Nat.le_of_ble_eq_true rfl⟩) ⟨CP_blind, va_recv hK hw.1 (ci := 4) (q0 := 0) rfl rfl, x_preA X hw [.ref a, .int v3, .int v1, .int p2, .int p4]⟩ rfl rfl hl.1 rfl (lv_room (Nat.le_of_ble_eq_true rfl)) dX4_leastOfSize_40 ⟨Nat.zero_le _, Nat.zero_le _⟩) (fun H locs hw => ?_)
          refine lv_if_eq (pc := 43) (tgt := 49) hx hb dX4_leastOfSize_43 (by decide) (fun c8 => ?_) (fun c8 => ?_)
          · have hf := ipos c8 hf
            refine lv_iload (pc := 49) hx hb dX4_leastOfSize_49 (lv_at hl 4 rfl) ?_
            obtain ⟨v9, hc, hf⟩ := b1_ob hf
            refine x_nil (pc := 51) X hw (va_runS (As := [.int v3]) (rest := []) ⟨hx, hb, hml, hown, hts⟩ (c_X4_nextOfSize l D cs v3 v9 hc _) (va_cwS 1 hts gX4_leastOfSize_X4_nextOfSize rfl rfl rfl (by decide +kernel) ⟨Nat.le_of_ble_eq_true rfl, Nat.le_of_ble_eq_true rfl⟩) ⟨CP_blind, x_preN X [.int v3]⟩ rfl rfl hl.1 rfl (lv_room (Nat.le_of_ble_eq_true rfl)) dX4_leastOfSize_51 ⟨Nat.zero_le _, Nat.zero_le _⟩) (fun H locs hw => ?_)
            refine lv_istore (lv' := [(6, .int v9), (0, .ref a), (2, .int p2), (4, .int p4), (5, .int v1), (7, .int v4)]) (pc := 54) hx hb dX4_leastOfSize_54 hl (by decide) rfl (fun ls hl => ?_)
            obtain ⟨v10, ev10, hf⟩ := bn_ob hf
            refine lv_iinc (pc := 56) (v := v10) (lv' := [(7, .int v10), (6, .int v9), (0, .ref a), (2, .int p2), (4, .int p4), (5, .int v1)]) hx hb dX4_leastOfSize_56 hl (k := 5) rfl (by rw [ev10]; rfl) (by decide) rfl (fun ls hl => ?_)
            refine lv_goto (pc := 59) (tgt := 15) hx hb dX4_leastOfSize_59 (by decide) ?_
            cases hf
            exact ih v9 v10  hx0 _ _ _ hw (lv_sub hl [2, 3, 4, 5, 1, 0] rfl)
          · have hf := ineg c8 hf
            refine lv_iload (pc := 46) hx hb dX4_leastOfSize_46 (lv_at hl 4 rfl) ?_
            cases hf
            cases (hx0 : v3 = r)
            exact hret _ _ 48 _ hw ⟨_, rfl, rfl⟩ dX4_leastOfSize_48
  exact L15 _ v2 0 hf _ _ _ hw (lv_sub hl [3, 5, 7, 2, 1, 0] rfl)

theorem in_X4_leastHeap_X4 : ∀ w ∈ wsX40, w ∈ wsX4_leastHeap := fun _ h => List.mem_cons_of_mem _ (List.mem_append_right _ h)
abbrev rmX4_leastHeap : Room := { frames := 3, cells := 0, slots := 0, locals := 76 }
def B_X4_leastHeap_8 (S : PS) (p1 : Int32) (p2 : Int32) (p3 : Int32) (p4 : Int32) (v1 : Int32) (v2 : Int32) : Option ((Int32) ⊕ (Int32)) :=
  if v1 ≤ v2 then
    some (.inr (((1 : Int32) <<< (v1 &&& 31)) - 1))
  else
  b1 (f_X4_leanAllowed v2 p3 p4) fun v4 =>
  b1 (f_X4_mayLeanSoLittle p1 p2 v2 v4) fun v5 =>
  b1 (
    if v5 = 0 then
      some ((-1) : Int32)
    else
    b1 (f_X4_leastOfSize S p1 p2 v2 v4) fun v8 =>
    some v8) fun v6 =>
  if v6 = (-1) then
    bn (v2 + 1) fun v10 =>
    some (.inl v10)
  else
  some (.inr v6)
def L_X4_leastHeap_8 (S : PS) (p1 : Int32) (p2 : Int32) (p3 : Int32) (p4 : Int32) (v1 : Int32) (n : Nat) (v2 : Int32) : Option (Int32) := loopF (fun x : Int32 => B_X4_leastHeap_8 S p1 p2 p3 p4 v1 x) n v2
def f_X4_leastHeap (S : PS) (p1 : Int32) (p2 : Int32) (p3 : Int32) (p4 : Int32) : Option (Int32) :=
  bn ((1 : Int32) <<< (p1 &&& 31)) fun v1 =>
  L_X4_leastHeap_8 S p1 p2 p3 p4 v1 FU 1
set_option maxHeartbeats 4000000 in
set_option maxRecDepth 100000 in
theorem c_X4_leastHeap (l : Launch) (D : va_G) (cs : CS) (a : Nat) (q : Nat → Nat) (S : PS) (p1 : Int32) (p2 : Int32) (p3 : Int32) (p4 : Int32) (r : Int32) (hf : f_X4_leastHeap S p1 p2 p3 p4 = some r) : CT l D (TY cs) yX4_leastHeap wsX4_leastHeap rmX4_leastHeap [.ref a, .int p1, .int p2, .int p3, .int p4] (wX4 cs a q S) (some (.int r)) (wX4 cs a q S) := by
  refine CT.ofW (own := RX4) (cc := cX4_leastHeap) (maxL := 9) (ret := some .int) (by decide) rfl rfl (Nat.le_of_ble_eq_true rfl) ?_
  intro p e s m args below meth c A Q X hret ls hl hw
  obtain ⟨hx, hb, hml, hown, hts, hK, hA, hr, hlk⟩ := id X
  have hl : lv_has ls 9 [(0, .ref a), (1, .int p1), (2, .int p2), (3, .int p3), (4, .int p4)] := hl
  unfold f_X4_leastHeap at hf
  refine lv_iconst (pc := 0) (v := 1) hx hb dX4_leastHeap_0 (by decide) ?_
  refine lv_iload_n (pc := 1) hx hb dX4_leastHeap_1 rfl (lv_at hl 1 rfl) ?_
  refine lv_ishl (pc := 2) hx hb dX4_leastHeap_2 ?_
  obtain ⟨v1, ev1, hf⟩ := bn_ob hf
  refine x_topi ev1 ?_
  refine lv_istore (lv' := [(5, .int v1), (0, .ref a), (1, .int p1), (2, .int p2), (3, .int p3), (4, .int p4)]) (pc := 3) hx hb dX4_leastHeap_3 hl (by decide) rfl (fun ls hl => ?_)
  refine lv_iconst (pc := 5) (v := 1) hx hb dX4_leastHeap_5 (by decide) ?_
  refine lv_istore (lv' := [(6, .int 1), (5, .int v1), (0, .ref a), (1, .int p1), (2, .int p2), (3, .int p3), (4, .int p4)]) (pc := 6) hx hb dX4_leastHeap_6 hl (by decide) rfl (fun ls hl => ?_)
  have L8 : ∀ (n : Nat) (v2 : Int32), L_X4_leastHeap_8 S p1 p2 p3 p4 v1 n v2 = some r → ∀ (H : Heap) (locs : List Loc) (ls : Array Slot), WD D A s (wX4 cs a q S) H locs → lv_has ls 9 [(0, .ref a), (1, .int p1), (2, .int p2), (3, .int p3), (4, .int p4), (5, .int v1), (6, .int v2)] → W p l e rmX4_leastHeap s m args below meth c H locs 0 0 Q (F0 m 8 ls []) := by
    intro n
    induction n with
    | zero => intro v2 hf; exact (loopF_z hf).elim
    | succ n ih =>
      intro v2 hf H locs ls hw hl
      obtain ⟨x, hf, hx0⟩ := loopF_ob hf
      have hf : B_X4_leastHeap_8 S p1 p2 p3 p4 v1 v2 = some x := hf
      unfold B_X4_leastHeap_8 at hf
      refine lv_iload (pc := 8) hx hb dX4_leastHeap_8 (lv_at hl 6 rfl) ?_
      refine lv_iload (pc := 10) hx hb dX4_leastHeap_10 (lv_at hl 5 rfl) ?_
      refine lv_icmp_ge (pc := 12) (tgt := 68) hx hb dX4_leastHeap_12 (by decide) (fun c3 => ?_) (fun c3 => ?_)
      · have hf := ipos c3 hf
        refine lv_iconst (pc := 68) (v := 1) hx hb dX4_leastHeap_68 (by decide) ?_
        refine lv_iload (pc := 69) hx hb dX4_leastHeap_69 (lv_at hl 5 rfl) ?_
        refine lv_ishl (pc := 71) hx hb dX4_leastHeap_71 ?_
        refine lv_iconst (pc := 72) (v := 1) hx hb dX4_leastHeap_72 (by decide) ?_
        refine lv_isub (pc := 73) hx hb dX4_leastHeap_73 ?_
        cases hf
        cases (hx0 : (((1 : Int32) <<< (v1 &&& 31)) - 1) = r)
        exact hret _ _ 74 _ hw ⟨_, rfl, rfl⟩ dX4_leastHeap_74
      · have hf := ineg c3 hf
        refine lv_iload (pc := 15) hx hb dX4_leastHeap_15 (lv_at hl 6 rfl) ?_
        refine lv_iload_n (pc := 17) hx hb dX4_leastHeap_17 rfl (lv_at hl 3 rfl) ?_
        refine lv_iload (pc := 18) hx hb dX4_leastHeap_18 (lv_at hl 4 rfl) ?_
        obtain ⟨v4, hc, hf⟩ := b1_ob hf
        refine x_nil (pc := 20) X hw (va_runS (As := [.int v2, .int p3, .int p4]) (rest := []) ⟨hx, hb, hml, hown, hts⟩ (c_X4_leanAllowed l D cs v2 p3 p4 v4 hc _) (va_cwS 3 hts gX4_leastHeap_X4_leanAllowed rfl rfl rfl (by decide +kernel) ⟨Nat.le_of_ble_eq_true rfl, Nat.le_of_ble_eq_true rfl⟩) ⟨CP_blind, x_preN X [.int v2, .int p3, .int p4]⟩ rfl rfl hl.1 rfl (lv_room (Nat.le_of_ble_eq_true rfl)) dX4_leastHeap_20 ⟨Nat.zero_le _, Nat.zero_le _⟩) (fun H locs hw => ?_)
        refine lv_istore (lv' := [(7, .int v4), (0, .ref a), (1, .int p1), (2, .int p2), (3, .int p3), (4, .int p4), (5, .int v1), (6, .int v2)]) (pc := 23) hx hb dX4_leastHeap_23 hl (by decide) rfl (fun ls hl => ?_)
        refine lv_iload_n (pc := 25) hx hb dX4_leastHeap_25 rfl (lv_at hl 2 rfl) ?_
        refine lv_iload_n (pc := 26) hx hb dX4_leastHeap_26 rfl (lv_at hl 3 rfl) ?_
        refine lv_iload (pc := 27) hx hb dX4_leastHeap_27 (lv_at hl 7 rfl) ?_
        refine lv_iload (pc := 29) hx hb dX4_leastHeap_29 (lv_at hl 0 rfl) ?_
        obtain ⟨v5, hc, hf⟩ := b1_ob hf
        refine x_nil (pc := 31) X hw (va_runS (As := [.int p1, .int p2, .int v2, .int v4]) (rest := []) ⟨hx, hb, hml, hown, hts⟩ (c_X4_mayLeanSoLittle l D cs p1 p2 v2 v4 v5 hc _) (va_cwS 4 hts gX4_leastHeap_X4_mayLeanSoLittle rfl rfl rfl (by decide +kernel) ⟨Nat.le_of_ble_eq_true rfl, Nat.le_of_ble_eq_true rfl⟩) ⟨CP_blind, x_preN X [.int p1, .int p2, .int v2, .int v4]⟩ rfl rfl hl.1 rfl (lv_room (Nat.le_of_ble_eq_true rfl)) dX4_leastHeap_31 ⟨Nat.zero_le _, Nat.zero_le _⟩) (fun H locs hw => ?_)
        obtain ⟨v6, hj, hf⟩ := b1_ob hf
        have J51_5 : ∀ (H : Heap) (locs : List Loc) (ls : Array Slot), WD D A s (wX4 cs a q S) H locs → lv_has ls 9 [(0, .ref a), (1, .int p1), (2, .int p2), (3, .int p3), (4, .int p4), (5, .int v1), (6, .int v2)] → W p l e rmX4_leastHeap s m args below meth c H locs 0 0 Q (F0 m 51 ls [.int v6]) := by
          intro H locs ls hw hl
          refine lv_istore (lv' := [(8, .int v6), (0, .ref a), (1, .int p1), (2, .int p2), (3, .int p3), (4, .int p4), (5, .int v1), (6, .int v2)]) (pc := 51) hx hb dX4_leastHeap_51 hl (by decide) rfl (fun ls hl => ?_)
          refine lv_iload (pc := 53) hx hb dX4_leastHeap_53 (lv_at hl 0 rfl) ?_
          refine lv_iconst (pc := 55) (v := (-1)) hx hb dX4_leastHeap_55 (by decide) ?_
          refine lv_icmp_eq (pc := 56) (tgt := 62) hx hb dX4_leastHeap_56 (by decide) (fun c9 => ?_) (fun c9 => ?_)
          · have hf := ipos c9 hf
            obtain ⟨v10, ev10, hf⟩ := bn_ob hf
            refine lv_iinc (pc := 62) (v := v10) (lv' := [(6, .int v10), (8, .int v6), (0, .ref a), (1, .int p1), (2, .int p2), (3, .int p3), (4, .int p4), (5, .int v1)]) hx hb dX4_leastHeap_62 hl (k := 7) rfl (by rw [ev10]; rfl) (by decide) rfl (fun ls hl => ?_)
            refine lv_goto (pc := 65) (tgt := 8) hx hb dX4_leastHeap_65 (by decide) ?_
            cases hf
            exact ih v10  hx0 _ _ _ hw (lv_sub hl [2, 3, 4, 5, 6, 7, 0] rfl)
          · have hf := ineg c9 hf
            refine lv_iload (pc := 59) hx hb dX4_leastHeap_59 (lv_at hl 0 rfl) ?_
            cases hf
            cases (hx0 : v6 = r)
            exact hret _ _ 61 _ hw ⟨_, rfl, rfl⟩ dX4_leastHeap_61
        clear hf; have hf := hj; clear hj
        refine lv_if_eq (pc := 34) (tgt := 50) hx hb dX4_leastHeap_34 (by decide) (fun c7 => ?_) (fun c7 => ?_)
        · have hf := ipos c7 hf
          refine lv_iconst (pc := 50) (v := (-1)) hx hb dX4_leastHeap_50 (by decide) ?_
          cases hf
          exact J51_5 _ _ _ hw (lv_sub hl [1, 2, 3, 4, 5, 6, 7] rfl)
        · have hf := ineg c7 hf
          refine lv_aload_n (pc := 37) hx hb dX4_leastHeap_37 rfl (lv_at hl 1 rfl) ?_
          refine lv_iload_n (pc := 38) hx hb dX4_leastHeap_38 rfl (lv_at hl 2 rfl) ?_
          refine lv_iload_n (pc := 39) hx hb dX4_leastHeap_39 rfl (lv_at hl 3 rfl) ?_
          refine lv_iload (pc := 40) hx hb dX4_leastHeap_40 (lv_at hl 7 rfl) ?_
          refine lv_iload (pc := 42) hx hb dX4_leastHeap_42 (lv_at hl 0 rfl) ?_
          obtain ⟨v8, hc, hf⟩ := b1_ob hf
          refine x_all (pc := 44) X hw (va_runV (As := [.int p1, .int p2, .int v2, .int v4]) (rest := []) ⟨hx, hb, hml, hown, hts⟩ (c_X4_leastOfSize l D cs a q S p1 p2 v2 v4 v8 hc _) (cwV 4 hts gX4_leastHeap_X4_leastOfSize rfl rfl rfl (by decide +kernel) ⟨Nat.le_of_ble_eq_true rfl, Nat.le_of_ble_eq_true rfl⟩) ⟨CP_blind, va_recv hK hw.1 (ci := 4) (q0 := 0) rfl rfl, x_preA X hw [.ref a, .int p1, .int p2, .int v2, .int v4]⟩ rfl rfl hl.1 rfl (lv_room (Nat.le_of_ble_eq_true rfl)) dX4_leastHeap_44 ⟨Nat.zero_le _, Nat.zero_le _⟩) (fun H locs hw => ?_)
          refine lv_goto (pc := 47) (tgt := 51) hx hb dX4_leastHeap_47 (by decide) ?_
          cases hf
          exact J51_5 _ _ _ hw (lv_sub hl [1, 2, 3, 4, 5, 6, 7] rfl)
  exact L8 _ 1 hf _ _ _ hw (lv_sub hl [2, 3, 4, 5, 6, 1, 0] rfl)
