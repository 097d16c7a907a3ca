abbrev rmX5_isPower : Room := { frames := 0, cells := 0, slots := 0, locals := 0 }
def f_X5_isPower (p1 : Int32) : Option (Int32) :=
  b1 (
    if p1 < 0 then
      some (0 : Int32)
    else
    if 4 ≤ p1 then
      some (0 : Int32)
    else
    some (1 : Int32)) fun v1 =>
  b1 (ckB v1) fun v4 =>
  some v4
set_option maxHeartbeats 4000000 in
set_option maxRecDepth 100000 in
theorem c_X5_isPower (l : Launch) (D : va_G) (cs : CS) (p1 : Int32) (r : Int32) (hf : f_X5_isPower p1 = some r) : CT l D (TY cs) yX5_isPower wsX5_isPower rmX5_isPower [.int p1] ([]) (some (.int r)) ([]) := by
  refine CT.ofW (own := RX5) (cc := cX5_isPower) (maxL := 1) (ret := some .boolean) (by decide) rfl rfl (Nat.le_of_ble_eq_true rfl) ?_
  intro p e s m args below meth c A Q X hret ls hl hw
  obtain ⟨hx, hb, hml, hown, hts, hK, hA, hr, hlk⟩ := id X
  have hl : lv_has ls 1 [(0, .int p1)] := hl
  unfold f_X5_isPower at hf
  refine lv_iload_n (pc := 0) hx hb dX5_isPower_0 rfl (lv_at hl 0 rfl) ?_
  obtain ⟨v1, hj, hf⟩ := b1_ob hf
  have J14_0 : ∀ (H : Heap) (locs : List Loc) (ls : Array Slot), WD D A s ([]) H locs → lv_has ls 1 [] → W p l e rmX5_isPower s m args below meth c H locs 0 0 Q (F0 m 14 ls [.int v1]) := by
    intro H locs ls hw hl
    obtain ⟨v4, ev4, hf⟩ := b1_ob hf
    refine x_topi (ckB_ob ev4).1.symm ?_
    cases hf
    exact hret _ _ 14 _ hw ⟨_, rfl, ckB_nar (ckB_ob ev4).2⟩ dX5_isPower_14
  clear hf; have hf := hj; clear hj
  refine lv_if_lt (pc := 1) (tgt := 13) hx hb dX5_isPower_1 (by decide) (fun c2 => ?_) (fun c2 => ?_)
  · have hf := ipos c2 hf
    refine lv_iconst (pc := 13) (v := 0) hx hb dX5_isPower_13 (by decide) ?_
    cases hf
    exact J14_0 _ _ _ hw (lv_sub hl [] rfl)
  · have hf := ineg c2 hf
    refine lv_iload_n (pc := 4) hx hb dX5_isPower_4 rfl (lv_at hl 0 rfl) ?_
    refine lv_iconst (pc := 5) (v := 4) hx hb dX5_isPower_5 (by decide) ?_
    refine lv_icmp_ge (pc := 6) (tgt := 13) hx hb dX5_isPower_6 (by decide) (fun c3 => ?_) (fun c3 => ?_)
    · have hf := ipos c3 hf
      refine lv_iconst (pc := 13) (v := 0) hx hb dX5_isPower_13 (by decide) ?_
      cases hf
      exact J14_0 _ _ _ hw (lv_sub hl [] rfl)
    · have hf := ineg c3 hf
      refine lv_iconst (pc := 9) (v := 1) hx hb dX5_isPower_9 (by decide) ?_
      refine lv_goto (pc := 10) (tgt := 14) hx hb dX5_isPower_10 (by decide) ?_
      cases hf
      exact J14_0 _ _ _ hw (lv_sub hl [] rfl)

theorem in_X5_add_X5 : ∀ w ∈ wsX50, w ∈ wsX5_add := fun _ h => List.mem_cons_of_mem _ (List.mem_append_right _ h)
abbrev rmX5_add : Room := { frames := 0, cells := 0, slots := 0, locals := 0 }
def f_X5_add (S : PS) (p1 : Int32) (p2 : Int32) (p3 : Int32) (p4 : Int32) : Option (Int32 × PS) :=
  if (S.1 1) < 6 then
    b1 (rdL 64 (S.2.2 0) (((16 * p2) + (4 * p3)) + p4)) fun v2 =>
    b1 (wL 64 S 0 (((16 * p2) + (4 * p3)) + p4) (v2 + (p1.toInt64))) fun S3 =>
    bn (sI S3 1 ((S3.1 1) + 1)) fun S4 =>
    some ((S4.1 1), S4)
  else
  some ((-5), S)
set_option maxHeartbeats 4000000 in
set_option maxRecDepth 100000 in
theorem c_X5_add (l : Launch) (D : va_G) (cs : CS) (a : Nat) (q : Nat → Nat) (S : PS) (p1 : Int32) (p2 : Int32) (p3 : Int32) (p4 : Int32) (r : Int32) (S' : PS) (hf : f_X5_add S p1 p2 p3 p4 = some (r, S')) : CT l D (TY cs) yX5_add wsX5_add rmX5_add [.ref a, .int p1, .int p2, .int p3, .int p4] (wX5 cs a q S) (some (.int r)) (wX5 cs a q S') := by
  refine CT.ofW (own := RX5) (cc := cX5_add) (maxL := 5) (ret := some .int) (by decide) rfl rfl (Nat.le_of_ble_eq_true rfl) ?_
  intro p e s m args below meth c A Q X hret ls hl hw
  obtain ⟨hx, hb, hml, hown, hts, hK, hA, hr, hlk⟩ := id X
  have hl : lv_has ls 5 [(0, .ref a), (1, .int p1), (2, .int p2), (3, .int p3), (4, .int p4)] := hl
  unfold f_X5_add at hf
  refine lv_aload_n (pc := 0) hx hb dX5_add_0 rfl (lv_at hl 0 rfl) ?_
  refine x_get (pc := 1) X hw in_X5_add_X5 0 rfl rfl 1 (by decide) (List.mem_of_getElem? (i := 1) rfl) rfl dX5_add_1 ?_
  refine lv_bipush (pc := 4) (v := 6) hx hb dX5_add_4 (by decide) ?_
  refine lv_icmp_lt (pc := 6) (tgt := 12) hx hb dX5_add_6 (by decide) (fun c1 => ?_) (fun c1 => ?_)
  · have hf := ipos c1 hf
    refine lv_aload_n (pc := 12) hx hb dX5_add_12 rfl (lv_at hl 0 rfl) ?_
    refine x_get (pc := 13) X hw in_X5_add_X5 0 rfl rfl 0 (by decide) (List.mem_of_getElem? (i := 2) rfl) rfl dX5_add_13 ?_
    refine lv_bipush (pc := 16) (v := 16) hx hb dX5_add_16 (by decide) ?_
    refine lv_iload_n (pc := 18) hx hb dX5_add_18 rfl (lv_at hl 2 rfl) ?_
    refine lv_imul (pc := 19) hx hb dX5_add_19 ?_
    refine lv_iconst (pc := 20) (v := 4) hx hb dX5_add_20 (by decide) ?_
    refine lv_iload_n (pc := 21) hx hb dX5_add_21 rfl (lv_at hl 3 rfl) ?_
    refine lv_imul (pc := 22) hx hb dX5_add_22 ?_
    refine lv_iadd (pc := 23) hx hb dX5_add_23 ?_
    refine lv_iload (pc := 24) hx hb dX5_add_24 (lv_at hl 4 rfl) ?_
    refine lv_iadd (pc := 26) hx hb dX5_add_26 ?_
    refine lv_dup2_11 (pc := 27) hx hb dX5_add_27 rfl rfl ?_
    obtain ⟨v2, ev2, hf⟩ := b1_ob hf
    refine x_lald (pc := 28) X hw 1 1 rfl rfl ev2 dX5_add_28 ?_
    refine lv_iload_n (pc := 29) hx hb dX5_add_29 rfl (lv_at hl 1 rfl) ?_
    refine lv_i2l (pc := 30) hx hb dX5_add_30 rfl ?_
    refine lv_ladd (pc := 31) hx hb dX5_add_31 ?_
    obtain ⟨S3, eS3, hf⟩ := b1_ob hf
    refine x_last (pc := 32) X hw 1 1 rfl rfl (wL_ob eS3).1 dX5_add_32 (ws2 := wX5 cs a q S3) (by rw [(wL_ob eS3).2]; rfl) (fun H locs hw => ?_)
    refine lv_aload_n (pc := 33) hx hb dX5_add_33 rfl (lv_at hl 0 rfl) ?_
    refine lv_dup (pc := 34) hx hb dX5_add_34 rfl ?_
    refine x_get (pc := 35) X hw in_X5_add_X5 0 rfl rfl 1 (by decide) (List.mem_of_getElem? (i := 1) rfl) rfl dX5_add_35 ?_
    refine lv_iconst (pc := 38) (v := 1) hx hb dX5_add_38 (by decide) ?_
    refine lv_iadd (pc := 39) hx hb dX5_add_39 ?_
    obtain ⟨S4, eS4, hf⟩ := bn_ob hf
    refine x_put (pc := 40) X hw in_X5_add_X5 tyX5 tyX5_ok nmX5 0 rfl rfl 1 (by decide) (List.mem_of_getElem? (i := 1) rfl) rfl rfl rfl (Nat.le_of_ble_eq_true rfl) dX5_add_40 (ws2 := wX5 cs a q S4) (by rw [eS4]; rfl) (fun H locs hw => ?_)
    refine lv_aload_n (pc := 43) hx hb dX5_add_43 rfl (lv_at hl 0 rfl) ?_
    refine x_get (pc := 44) X hw in_X5_add_X5 0 rfl rfl 1 (by decide) (List.mem_of_getElem? (i := 1) rfl) rfl dX5_add_44 ?_
    cases hf
    exact hret _ _ 47 _ hw ⟨_, rfl, rfl⟩ dX5_add_47
  · have hf := ineg c1 hf
    refine lv_bipush (pc := 9) (v := (-5)) hx hb dX5_add_9 (by decide) ?_
    cases hf
    exact hret _ _ 11 _ hw ⟨_, rfl, rfl⟩ dX5_add_11

theorem in_X5_greatestPower_X5 : ∀ w ∈ wsX50, w ∈ wsX5_greatestPower := fun _ h => List.mem_cons_of_mem _ (List.mem_append_right _ h)
abbrev rmX5_greatestPower : Room := { frames := 1, cells := 0, slots := 0, locals := 23 }
def B_X5_greatestPower_4 (S : PS) (v1 : Int32) (v2 : Int32) : Option ((Int32 × Int32) ⊕ (Int32)) :=
  if 64 ≤ v2 then
    some (.inr v1)
  else
  b1 (rdL 64 (S.2.2 0) v2) fun v4 =>
  b1 (
    if (lg_cmp v4 0) = 0 then
      some v1
    else
    bn (if v1 < (((v2 >>> ((4 : Int32) &&& 31)) + ((v2 >>> ((2 : Int32) &&& 31)) &&& 3)) + (v2 &&& 3)) then (((v2 >>> ((4 : Int32) &&& 31)) + ((v2 >>> ((2 : Int32) &&& 31)) &&& 3)) + (v2 &&& 3)) else v1) fun v7 =>
    some v7) fun v5 =>
  bn (v2 + 1) fun v8 =>
  some (.inl (v5, v8))
def L_X5_greatestPower_4 (S : PS) (n : Nat) (v1 : Int32) (v2 : Int32) : Option (Int32) := loopF (fun x : Int32 × Int32 => B_X5_greatestPower_4 S x.1 x.2) n (v1, v2)
def f_X5_greatestPower (S : PS) : Option (Int32) :=
  b1 (L_X5_greatestPower_4 S FU 0 0) fun v9 =>
  some v9
set_option maxHeartbeats 4000000 in
set_option maxRecDepth 100000 in
theorem c_X5_greatestPower (l : Launch) (D : va_G) (cs : CS) (a : Nat) (q : Nat → Nat) (S : PS) (r : Int32) (hf : f_X5_greatestPower S = some r) : CT l D (TY cs) yX5_greatestPower wsX5_greatestPower rmX5_greatestPower [.ref a] (wX5 cs a q S) (some (.int r)) (wX5 cs a q S) := by
  refine CT.ofW (own := RX5) (cc := cX5_greatestPower) (maxL := 3) (ret := some .int) (by decide) rfl rfl (Nat.le_of_ble_eq_true rfl) ?_
  intro p e s m args below meth c A Q X hret ls hl hw
  obtain ⟨hx, hb, hml, hown, hts, hK, hA, hr, hlk⟩ := id X
  have hl : lv_has ls 3 [(0, .ref a)] := hl
  unfold f_X5_greatestPower at hf
  refine lv_iconst (pc := 0) (v := 0) hx hb dX5_greatestPower_0 (by decide) ?_
  refine lv_istore_n (lv' := [(1, .int 0), (0, .ref a)]) (pc := 1) hx hb dX5_greatestPower_1 rfl hl (by decide) rfl (fun ls hl => ?_)
  refine lv_iconst (pc := 2) (v := 0) hx hb dX5_greatestPower_2 (by decide) ?_
  refine lv_istore_n (lv' := [(2, .int 0), (1, .int 0), (0, .ref a)]) (pc := 3) hx hb dX5_greatestPower_3 rfl hl (by decide) rfl (fun ls hl => ?_)
  have L4 : ∀ (n : Nat) (v1 : Int32) (v2 : Int32) (rv1 : Int32), L_X5_greatestPower_4 S n v1 v2 = some rv1 → ∀ (H : Heap) (locs : List Loc) (ls : Array Slot), WD D A s (wX5 cs a q S) H locs → lv_has ls 3 [(0, .ref a), (1, .int v1), (2, .int v2)] → (∀ (H : Heap) (locs : List Loc) (ls : Array Slot), WD D A s (wX5 cs a q S) H locs → lv_has ls 3 [(1, .int rv1)] → W p l e rmX5_greatestPower s m args below meth c H locs 0 0 Q (F0 m 45 ls [])) → W p l e rmX5_greatestPower s m args below meth c H locs 0 0 Q (F0 m 4 ls []) := by
    intro n
    induction n with
    | zero => intro v1 v2 rv1 hf; exact (loopF_z hf).elim
    | succ n ih =>
      intro v1 v2 rv1 hf H locs ls hw hl K
      obtain ⟨x, hf, hx0⟩ := loopF_ob hf
      have hf : B_X5_greatestPower_4 S v1 v2 = some x := hf
      unfold B_X5_greatestPower_4 at hf
      refine lv_iload_n (pc := 4) hx hb dX5_greatestPower_4 rfl (lv_at hl 2 rfl) ?_
      refine lv_bipush (pc := 5) (v := 64) hx hb dX5_greatestPower_5 (by decide) ?_
      refine lv_icmp_ge (pc := 7) (tgt := 45) hx hb dX5_greatestPower_7 (by decide) (fun c3 => ?_) (fun c3 => ?_)
      · have hf := ipos c3 hf
        cases hf
        cases (hx0 : v1 = rv1)
        exact K _ _ _ hw (lv_sub hl [1] rfl)
      · have hf := ineg c3 hf
        refine lv_aload_n (pc := 10) hx hb dX5_greatestPower_10 rfl (lv_at hl 0 rfl) ?_
        refine x_get (pc := 11) X hw in_X5_greatestPower_X5 0 rfl rfl 0 (by decide) (List.mem_of_getElem? (i := 1) rfl) rfl dX5_greatestPower_11 ?_
        refine lv_iload_n (pc := 14) hx hb dX5_greatestPower_14 rfl (lv_at hl 2 rfl) ?_
        obtain ⟨v4, ev4, hf⟩ := b1_ob hf
        refine x_lald (pc := 15) X hw 1 1 rfl rfl ev4 dX5_greatestPower_15 ?_
        refine lv_lconst (pc := 16) (v := 0) hx hb dX5_greatestPower_16 (by decide) ?_
        refine W.lcmp (pc := 17) hx hb dX5_greatestPower_17 ?_
        obtain ⟨v5, hj, hf⟩ := b1_ob hf
        have J39_4 : ∀ (H : Heap) (locs : List Loc) (ls : Array Slot), WD D A s (wX5 cs a q S) H locs → lv_has ls 3 [(0, .ref a), (1, .int v5), (2, .int v2)] → W p l e rmX5_greatestPower s m args below meth c H locs 0 0 Q (F0 m 39 ls []) := by
          intro H locs ls hw hl
          obtain ⟨v8, ev8, hf⟩ := bn_ob hf
          refine lv_iinc (pc := 39) (v := v8) (lv' := [(2, .int v8), (0, .ref a), (1, .int v5)]) hx hb dX5_greatestPower_39 hl (k := 2) rfl (by rw [ev8]; rfl) (by decide) rfl (fun ls hl => ?_)
          refine lv_goto (pc := 42) (tgt := 4) hx hb dX5_greatestPower_42 (by decide) ?_
          cases hf
          exact ih v5 v8 rv1 hx0 _ _ _ hw (lv_sub hl [1, 2, 0] rfl) K
        clear hf; have hf := hj; clear hj
        refine lv_if_eq (pc := 18) (tgt := 39) hx hb dX5_greatestPower_18 (by decide) (fun c6 => ?_) (fun c6 => ?_)
        · have hf := ipos c6 hf
          cases hf
          exact J39_4 _ _ _ hw (lv_sub hl [0, 1, 2] rfl)
        · have hf := ineg c6 hf
          refine lv_iload_n (pc := 21) hx hb dX5_greatestPower_21 rfl (lv_at hl 1 rfl) ?_
          refine lv_iload_n (pc := 22) hx hb dX5_greatestPower_22 rfl (lv_at hl 2 rfl) ?_
          refine lv_iconst (pc := 23) (v := 4) hx hb dX5_greatestPower_23 (by decide) ?_
          refine lv_ishr (pc := 24) hx hb dX5_greatestPower_24 ?_
          refine lv_iload_n (pc := 25) hx hb dX5_greatestPower_25 rfl (lv_at hl 2 rfl) ?_
          refine lv_iconst (pc := 26) (v := 2) hx hb dX5_greatestPower_26 (by decide) ?_
          refine lv_ishr (pc := 27) hx hb dX5_greatestPower_27 ?_
          refine lv_iconst (pc := 28) (v := 3) hx hb dX5_greatestPower_28 (by decide) ?_
          refine lv_iand (pc := 29) hx hb dX5_greatestPower_29 ?_
          refine lv_iadd (pc := 30) hx hb dX5_greatestPower_30 ?_
          refine lv_iload_n (pc := 31) hx hb dX5_greatestPower_31 rfl (lv_at hl 2 rfl) ?_
          refine lv_iconst (pc := 32) (v := 3) hx hb dX5_greatestPower_32 (by decide) ?_
          refine lv_iand (pc := 33) hx hb dX5_greatestPower_33 ?_
          refine lv_iadd (pc := 34) hx hb dX5_greatestPower_34 ?_
          refine va_mmax (pc := 35) hx hb (hml.trans hl.1.symm) hown (hts _ (List.mem_of_getElem? (i := 2) rfl)) (hts _ (List.mem_of_getElem? (i := 3) rfl)) (hts _ (List.mem_of_getElem? (i := 4) rfl)) (hts _ (List.mem_of_getElem? (i := 5) rfl)) (Nat.le_of_ble_eq_true rfl) (Nat.le_of_ble_eq_true rfl) (Nat.zero_le _) (Nat.zero_le _) dX5_greatestPower_35 ?_
          obtain ⟨v7, ev7, hf⟩ := bn_ob hf
          refine x_topi ev7 ?_
          refine lv_istore_n (lv' := [(1, .int v7), (0, .ref a), (2, .int v2)]) (pc := 38) hx hb dX5_greatestPower_38 rfl hl (by decide) rfl (fun ls hl => ?_)
          cases hf
          exact J39_4 _ _ _ hw (lv_sub hl [1, 0, 2] rfl)
  obtain ⟨v9, hj, hf⟩ := b1_ob hf
  refine L4 _ 0 0 v9 hj _ _ _ hw (lv_sub hl [2, 1, 0] rfl) (fun H locs ls hw hl => ?_)
  clear hj L4
  refine lv_iload_n (pc := 45) hx hb dX5_greatestPower_45 rfl (lv_at hl 0 rfl) ?_
  cases hf
  exact hret _ _ 46 _ hw ⟨_, rfl, rfl⟩ dX5_greatestPower_46
