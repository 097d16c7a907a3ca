theorem in_X8_cutOf_X8 : ∀ w ∈ wsX80, w ∈ wsX8_cutOf := fun _ h => List.mem_cons_of_mem _ (List.mem_append_right _ h)
abbrev rmX8_cutOf : Room := { frames := 0, cells := 0, slots := 0, locals := 0 }
def B_X8_cutOf_4 (S : PS) (p1 : Int32) (v1 : Int32) (v2 : Int32) : Option ((Int32 × Int32) ⊕ (Int32)) :=
  if (S.1 1) ≤ v2 then
    some (.inr v1)
  else
  b1 (rdI 16 (S.2.1 5) v2) fun v4 =>
  b1 (rdI 16 (S.2.1 3) v2) fun v5 =>
  b1 (rdI 16 (S.2.1 4) v2) fun v6 =>
  bn (v1 + (v4 * (((p1 >>> (v5 &&& 31)) &&& 1) ^^^ ((p1 >>> (v6 &&& 31)) &&& 1)))) fun v7 =>
  bn (v2 + 1) fun v8 =>
  some (.inl (v7, v8))
def L_X8_cutOf_4 (S : PS) (p1 : Int32) (n : Nat) (v1 : Int32) (v2 : Int32) : Option (Int32) := loopF (fun x : Int32 × Int32 => B_X8_cutOf_4 S p1 x.1 x.2) n (v1, v2)
def f_X8_cutOf (S : PS) (p1 : Int32) : Option (Int32) :=
  b1 (L_X8_cutOf_4 S p1 FU 0 0) fun v9 =>
  some v9
set_option maxHeartbeats 4000000 in
set_option maxRecDepth 100000 in
theorem c_X8_cutOf (l : Launch) (D : va_G) (cs : CS) (a : Nat) (q : Nat → Nat) (S : PS) (p1 : Int32) (r : Int32) (hf : f_X8_cutOf S p1 = some r) : CT l D (TY cs) yX8_cutOf wsX8_cutOf rmX8_cutOf [.ref a, .int p1] (wX8 cs a q S) (some (.int r)) (wX8 cs a q S) := by
  refine CT.ofW (own := RX8) (cc := cX8_cutOf) (maxL := 4) (ret := some .int) (by decide) rfl rfl (Nat.le_of_ble_eq_true rfl) ?_
  intro p e s m args below meth c A Q X hret ls hl hw
  obtain ⟨hx, hb, hml, hown, hts, hK, hA, hr, hlk⟩ := id X
  have hl : lv_has ls 4 [(0, .ref a), (1, .int p1)] := hl
  unfold f_X8_cutOf at hf
  refine lv_iconst (pc := 0) (v := 0) hx hb dX8_cutOf_0 (by decide) ?_
  refine lv_istore_n (lv' := [(2, .int 0), (0, .ref a), (1, .int p1)]) (pc := 1) hx hb dX8_cutOf_1 rfl hl (by decide) rfl (fun ls hl => ?_)
  refine lv_iconst (pc := 2) (v := 0) hx hb dX8_cutOf_2 (by decide) ?_
  refine lv_istore_n (lv' := [(3, .int 0), (2, .int 0), (0, .ref a), (1, .int p1)]) (pc := 3) hx hb dX8_cutOf_3 rfl hl (by decide) rfl (fun ls hl => ?_)
  have L4 : ∀ (n : Nat) (v1 : Int32) (v2 : Int32) (rv1 : Int32), L_X8_cutOf_4 S p1 n v1 v2 = some rv1 → ∀ (H : Heap) (locs : List Loc) (ls : Array Slot), WD D A s (wX8 cs a q S) H locs → lv_has ls 4 [(0, .ref a), (1, .int p1), (2, .int v1), (3, .int v2)] → (∀ (H : Heap) (locs : List Loc) (ls : Array Slot), WD D A s (wX8 cs a q S) H locs → lv_has ls 4 [(2, .int rv1)] → W p l e rmX8_cutOf s m args below meth c H locs 0 0 Q (F0 m 49 ls [])) → W p l e rmX8_cutOf s m args below meth c H locs 0 0 Q (F0 m 4 ls []) := by
    intro n
    induction n with
    | zero => intro v1 v2 rv1 hf; exact (loopF_z hf).elim
    | succ n ih =>
      intro v1 v2 rv1 hf H locs ls hw hl K
      obtain ⟨x, hf, hx0⟩ := loopF_ob hf
      have hf : B_X8_cutOf_4 S p1 v1 v2 = some x := hf
      unfold B_X8_cutOf_4 at hf
      refine lv_iload_n (pc := 4) hx hb dX8_cutOf_4 rfl (lv_at hl 3 rfl) ?_
      refine lv_aload_n (pc := 5) hx hb dX8_cutOf_5 rfl (lv_at hl 0 rfl) ?_
      refine x_get (pc := 6) X hw in_X8_cutOf_X8 0 rfl rfl 1 (by decide) (List.mem_of_getElem? (i := 1) rfl) rfl dX8_cutOf_6 ?_
      refine lv_icmp_ge (pc := 9) (tgt := 49) hx hb dX8_cutOf_9 (by decide) (fun c3 => ?_) (fun c3 => ?_)
      · have hf := ipos c3 hf
        cases hf
        cases (hx0 : v1 = rv1)
        exact K _ _ _ hw (lv_sub hl [2] rfl)
      · have hf := ineg c3 hf
        refine lv_iload_n (pc := 12) hx hb dX8_cutOf_12 rfl (lv_at hl 2 rfl) ?_
        refine lv_aload_n (pc := 13) hx hb dX8_cutOf_13 rfl (lv_at hl 0 rfl) ?_
        refine x_get (pc := 14) X hw in_X8_cutOf_X8 0 rfl rfl 5 (by decide) (List.mem_of_getElem? (i := 2) rfl) rfl dX8_cutOf_14 ?_
        refine lv_iload_n (pc := 17) hx hb dX8_cutOf_17 rfl (lv_at hl 3 rfl) ?_
        obtain ⟨v4, ev4, hf⟩ := b1_ob hf
        refine x_iald (pc := 18) X hw 3 0 rfl rfl ev4 dX8_cutOf_18 ?_
        refine lv_iload_n (pc := 19) hx hb dX8_cutOf_19 rfl (lv_at hl 1 rfl) ?_
        refine lv_aload_n (pc := 20) hx hb dX8_cutOf_20 rfl (lv_at hl 0 rfl) ?_
        refine x_get (pc := 21) X hw in_X8_cutOf_X8 0 rfl rfl 3 (by decide) (List.mem_of_getElem? (i := 3) rfl) rfl dX8_cutOf_21 ?_
        refine lv_iload_n (pc := 24) hx hb dX8_cutOf_24 rfl (lv_at hl 3 rfl) ?_
        obtain ⟨v5, ev5, hf⟩ := b1_ob hf
        refine x_iald (pc := 25) X hw 1 0 rfl rfl ev5 dX8_cutOf_25 ?_
        refine lv_ishr (pc := 26) hx hb dX8_cutOf_26 ?_
        refine lv_iconst (pc := 27) (v := 1) hx hb dX8_cutOf_27 (by decide) ?_
        refine lv_iand (pc := 28) hx hb dX8_cutOf_28 ?_
        refine lv_iload_n (pc := 29) hx hb dX8_cutOf_29 rfl (lv_at hl 1 rfl) ?_
        refine lv_aload_n (pc := 30) hx hb dX8_cutOf_30 rfl (lv_at hl 0 rfl) ?_
        refine x_get (pc := 31) X hw in_X8_cutOf_X8 0 rfl rfl 4 (by decide) (List.mem_of_getElem? (i := 4) rfl) rfl dX8_cutOf_31 ?_
        refine lv_iload_n (pc := 34) hx hb dX8_cutOf_34 rfl (lv_at hl 3 rfl) ?_
        obtain ⟨v6, ev6, hf⟩ := b1_ob hf
        refine x_iald (pc := 35) X hw 2 0 rfl rfl ev6 dX8_cutOf_35 ?_
        refine lv_ishr (pc := 36) hx hb dX8_cutOf_36 ?_
        refine lv_iconst (pc := 37) (v := 1) hx hb dX8_cutOf_37 (by decide) ?_
        refine lv_iand (pc := 38) hx hb dX8_cutOf_38 ?_
        refine lv_ixor (pc := 39) hx hb dX8_cutOf_39 ?_
        refine lv_imul (pc := 40) hx hb dX8_cutOf_40 ?_
        refine lv_iadd (pc := 41) hx hb dX8_cutOf_41 ?_
        obtain ⟨v7, ev7, hf⟩ := bn_ob hf
        refine x_topi ev7 ?_
        refine lv_istore_n (lv' := [(2, .int v7), (0, .ref a), (1, .int p1), (3, .int v2)]) (pc := 42) hx hb dX8_cutOf_42 rfl hl (by decide) rfl (fun ls hl => ?_)
        obtain ⟨v8, ev8, hf⟩ := bn_ob hf
        refine lv_iinc (pc := 43) (v := v8) (lv' := [(3, .int v8), (2, .int v7), (0, .ref a), (1, .int p1)]) hx hb dX8_cutOf_43 hl (k := 3) rfl (by rw [ev8]; rfl) (by decide) rfl (fun ls hl => ?_)
        refine lv_goto (pc := 46) (tgt := 4) hx hb dX8_cutOf_46 (by decide) ?_
        cases hf
        exact ih v7 v8 rv1 hx0 _ _ _ hw (lv_sub hl [2, 3, 1, 0] rfl) K
  obtain ⟨v9, hj, hf⟩ := b1_ob hf
  refine L4 _ 0 0 v9 hj _ _ _ hw (lv_sub hl [2, 3, 1, 0] rfl) (fun H locs ls hw hl => ?_)
  clear hj L4
  refine lv_iload_n (pc := 49) hx hb dX8_cutOf_49 rfl (lv_at hl 0 rfl) ?_
  cases hf
  exact hret _ _ 50 _ hw ⟨_, rfl, rfl⟩ dX8_cutOf_50

theorem in_X8_oneSided_X8 : ∀ w ∈ wsX80, w ∈ wsX8_oneSided := fun _ h => List.mem_cons_of_mem _ (List.mem_append_right _ h)
abbrev rmX8_oneSided : Room := { frames := 0, cells := 0, slots := 0, locals := 0 }
def B_X8_oneSided_4 (S : PS) (p1 : Int32) (v1 : Int32) (v2 : Int32) : Option ((Int32 × Int32) ⊕ (Int32)) :=
  if (S.1 2) ≤ v2 then
    some (.inr v1)
  else
  b1 (rdI 10 (S.2.1 6) v2) fun v4 =>
  b1 (
    if (v4 &&& p1) = 0 then
      bn (v1 + 1) fun v7 =>
      some v7
    else
    if (v4 &&& p1) = v4 then
      bn (v1 + 1) fun v9 =>
      some v9
    else
    some v1) fun v5 =>
  bn (v2 + 1) fun v10 =>
  some (.inl (v5, v10))
def L_X8_oneSided_4 (S : PS) (p1 : Int32) (n : Nat) (v1 : Int32) (v2 : Int32) : Option (Int32) := loopF (fun x : Int32 × Int32 => B_X8_oneSided_4 S p1 x.1 x.2) n (v1, v2)
def f_X8_oneSided (S : PS) (p1 : Int32) : Option (Int32) :=
  b1 (L_X8_oneSided_4 S p1 FU 0 0) fun v11 =>
  some v11
set_option maxHeartbeats 4000000 in
set_option maxRecDepth 100000 in
theorem c_X8_oneSided (l : Launch) (D : va_G) (cs : CS) (a : Nat) (q : Nat → Nat) (S : PS) (p1 : Int32) (r : Int32) (hf : f_X8_oneSided S p1 = some r) : CT l D (TY cs) yX8_oneSided wsX8_oneSided rmX8_oneSided [.ref a, .int p1] (wX8 cs a q S) (some (.int r)) (wX8 cs a q S) := by
  refine CT.ofW (own := RX8) (cc := cX8_oneSided) (maxL := 5) (ret := some .int) (by decide) rfl rfl (Nat.le_of_ble_eq_true rfl) ?_
  intro p e s m args below meth c A Q X hret ls hl hw
  obtain ⟨hx, hb, hml, hown, hts, hK, hA, hr, hlk⟩ := id X
  have hl : lv_has ls 5 [(0, .ref a), (1, .int p1)] := hl
  unfold f_X8_oneSided at hf
  refine lv_iconst (pc := 0) (v := 0) hx hb dX8_oneSided_0 (by decide) ?_
  refine lv_istore_n (lv' := [(2, .int 0), (0, .ref a), (1, .int p1)]) (pc := 1) hx hb dX8_oneSided_1 rfl hl (by decide) rfl (fun ls hl => ?_)
  refine lv_iconst (pc := 2) (v := 0) hx hb dX8_oneSided_2 (by decide) ?_
  refine lv_istore_n (lv' := [(3, .int 0), (2, .int 0), (0, .ref a), (1, .int p1)]) (pc := 3) hx hb dX8_oneSided_3 rfl hl (by decide) rfl (fun ls hl => ?_)
  have L4 : ∀ (n : Nat) (v1 : Int32) (v2 : Int32) (rv1 : Int32), L_X8_oneSided_4 S p1 n v1 v2 = some rv1 → ∀ (H : Heap) (locs : List Loc) (ls : Array Slot), WD D A s (wX8 cs a q S) H locs → lv_has ls 5 [(0, .ref a), (1, .int p1), (2, .int v1), (3, .int v2)] → (∀ (H : Heap) (locs : List Loc) (ls : Array Slot), WD D A s (wX8 cs a q S) H locs → lv_has ls 5 [(2, .int rv1)] → W p l e rmX8_oneSided s m args below meth c H locs 0 0 Q (F0 m 45 ls [])) → W p l e rmX8_oneSided s m args below meth c H locs 0 0 Q (F0 m 4 ls []) := by
    intro n
    induction n with
    | zero => intro v1 v2 rv1 hf; exact (loopF_z hf).elim
    | succ n ih =>
      intro v1 v2 rv1 hf H locs ls hw hl K
      obtain ⟨x, hf, hx0⟩ := loopF_ob hf
      have hf : B_X8_oneSided_4 S p1 v1 v2 = some x := hf
      unfold B_X8_oneSided_4 at hf
      refine lv_iload_n (pc := 4) hx hb dX8_oneSided_4 rfl (lv_at hl 3 rfl) ?_
      refine lv_aload_n (pc := 5) hx hb dX8_oneSided_5 rfl (lv_at hl 0 rfl) ?_
      refine x_get (pc := 6) X hw in_X8_oneSided_X8 0 rfl rfl 2 (by decide) (List.mem_of_getElem? (i := 1) rfl) rfl dX8_oneSided_6 ?_
      refine lv_icmp_ge (pc := 9) (tgt := 45) hx hb dX8_oneSided_9 (by decide) (fun c3 => ?_) (fun c3 => ?_)
      · have hf := ipos c3 hf
        cases hf
        cases (hx0 : v1 = rv1)
        exact K _ _ _ hw (lv_sub hl [2] rfl)
      · have hf := ineg c3 hf
        refine lv_aload_n (pc := 12) hx hb dX8_oneSided_12 rfl (lv_at hl 0 rfl) ?_
        refine x_get (pc := 13) X hw in_X8_oneSided_X8 0 rfl rfl 6 (by decide) (List.mem_of_getElem? (i := 2) rfl) rfl dX8_oneSided_13 ?_
        refine lv_iload_n (pc := 16) hx hb dX8_oneSided_16 rfl (lv_at hl 3 rfl) ?_
        obtain ⟨v4, ev4, hf⟩ := b1_ob hf
        refine x_iald (pc := 17) X hw 4 0 rfl rfl ev4 dX8_oneSided_17 ?_
        refine lv_istore (lv' := [(4, .int v4), (0, .ref a), (1, .int p1), (2, .int v1), (3, .int v2)]) (pc := 18) hx hb dX8_oneSided_18 hl (by decide) rfl (fun ls hl => ?_)
        refine lv_iload (pc := 20) hx hb dX8_oneSided_20 (lv_at hl 0 rfl) ?_
        refine lv_iload_n (pc := 22) hx hb dX8_oneSided_22 rfl (lv_at hl 2 rfl) ?_
        refine lv_iand (pc := 23) hx hb dX8_oneSided_23 ?_
        obtain ⟨v5, hj, hf⟩ := b1_ob hf
        have J39_4 : ∀ (H : Heap) (locs : List Loc) (ls : Array Slot), WD D A s (wX8 cs a q S) H locs → lv_has ls 5 [(0, .ref a), (1, .int p1), (2, .int v5), (3, .int v2)] → W p l e rmX8_oneSided s m args below meth c H locs 0 0 Q (F0 m 39 ls []) := by
          intro H locs ls hw hl
          obtain ⟨v10, ev10, hf⟩ := bn_ob hf
          refine lv_iinc (pc := 39) (v := v10) (lv' := [(3, .int v10), (0, .ref a), (1, .int p1), (2, .int v5)]) hx hb dX8_oneSided_39 hl (k := 3) rfl (by rw [ev10]; rfl) (by decide) rfl (fun ls hl => ?_)
          refine lv_goto (pc := 42) (tgt := 4) hx hb dX8_oneSided_42 (by decide) ?_
          cases hf
          exact ih v5 v10 rv1 hx0 _ _ _ hw (lv_sub hl [1, 2, 3, 0] rfl) K
        clear hf; have hf := hj; clear hj
        refine lv_if_eq (pc := 24) (tgt := 36) hx hb dX8_oneSided_24 (by decide) (fun c6 => ?_) (fun c6 => ?_)
        · have hf := ipos c6 hf
          obtain ⟨v7, ev7, hf⟩ := bn_ob hf
          refine lv_iinc (pc := 36) (v := v7) (lv' := [(2, .int v7), (4, .int v4), (0, .ref a), (1, .int p1), (3, .int v2)]) hx hb dX8_oneSided_36 hl (k := 3) rfl (by rw [ev7]; rfl) (by decide) rfl (fun ls hl => ?_)
          cases hf
          exact J39_4 _ _ _ hw (lv_sub hl [2, 3, 0, 4] rfl)
        · have hf := ineg c6 hf
          refine lv_iload (pc := 27) hx hb dX8_oneSided_27 (lv_at hl 0 rfl) ?_
          refine lv_iload_n (pc := 29) hx hb dX8_oneSided_29 rfl (lv_at hl 2 rfl) ?_
          refine lv_iand (pc := 30) hx hb dX8_oneSided_30 ?_
          refine lv_iload (pc := 31) hx hb dX8_oneSided_31 (lv_at hl 0 rfl) ?_
          refine lv_icmp_ne (pc := 33) (tgt := 39) hx hb dX8_oneSided_33 (by decide) (fun c8 => ?_) (fun c8 => ?_)
          · have hf := ineg c8 hf
            cases hf
            exact J39_4 _ _ _ hw (lv_sub hl [1, 2, 3, 4] rfl)
          · have hf := ipos c8 hf
            obtain ⟨v9, ev9, hf⟩ := bn_ob hf
            refine lv_iinc (pc := 36) (v := v9) (lv' := [(2, .int v9), (4, .int v4), (0, .ref a), (1, .int p1), (3, .int v2)]) hx hb dX8_oneSided_36 hl (k := 3) rfl (by rw [ev9]; rfl) (by decide) rfl (fun ls hl => ?_)
            cases hf
            exact J39_4 _ _ _ hw (lv_sub hl [2, 3, 0, 4] rfl)
  obtain ⟨v11, hj, hf⟩ := b1_ob hf
  refine L4 _ 0 0 v11 hj _ _ _ hw (lv_sub hl [2, 3, 1, 0] rfl) (fun H locs ls hw hl => ?_)
  clear hj L4
  refine lv_iload_n (pc := 45) hx hb dX8_oneSided_45 rfl (lv_at hl 0 rfl) ?_
  cases hf
  exact hret _ _ 46 _ hw ⟨_, rfl, rfl⟩ dX8_oneSided_46

theorem in_X8_measureOf_X8 : ∀ w ∈ wsX80, w ∈ wsX8_measureOf := fun _ h => List.mem_cons_of_mem _ (List.mem_append_right _ h)
abbrev rmX8_measureOf : Room := { frames := 1, cells := 0, slots := 0, locals := 24 }
def f_X8_measureOf (S : PS) (p1 : Int32) (p2 : Int32) : Option (Int32) :=
  b1 (
    if p1 = 0 then
      b1 (f_X8_cutOf S p2) fun v4 =>
      some v4
    else
    b1 (f_X8_oneSided S p2) fun v3 =>
    some v3) fun v1 =>
  some v1
set_option maxHeartbeats 4000000 in
set_option maxRecDepth 100000 in
theorem c_X8_measureOf (l : Launch) (D : va_G) (cs : CS) (a : Nat) (q : Nat → Nat) (S : PS) (p1 : Int32) (p2 : Int32) (r : Int32) (hf : f_X8_measureOf S p1 p2 = some r) : CT l D (TY cs) yX8_measureOf wsX8_measureOf rmX8_measureOf [.ref a, .int p1, .int p2] (wX8 cs a q S) (some (.int r)) (wX8 cs a q S) := by
  refine CT.ofW (own := RX8) (cc := cX8_measureOf) (maxL := 3) (ret := some .int) (by decide) rfl rfl (Nat.le_of_ble_eq_true rfl) ?_
  intro p e s m args below meth c A Q X hret ls hl hw
  obtain ⟨hx, hb, hml, hown, hts, hK, hA, hr, hlk⟩ := id X
  have hl : lv_has ls 3 [(0, .ref a), (1, .int p1), (2, .int p2)] := hl
  unfold f_X8_measureOf at hf
  refine lv_iload_n (pc := 0) hx hb dX8_measureOf_0 rfl (lv_at hl 1 rfl) ?_
  obtain ⟨v1, hj, hf⟩ := b1_ob hf
  have J17_0 : ∀ (H : Heap) (locs : List Loc) (ls : Array Slot), WD D A s (wX8 cs a q S) H locs → lv_has ls 3 [] → W p l e rmX8_measureOf s m args below meth c H locs 0 0 Q (F0 m 17 ls [.int v1]) := by
    intro H locs ls hw hl
    cases hf
    exact hret _ _ 17 _ hw ⟨_, rfl, rfl⟩ dX8_measureOf_17
  clear hf; have hf := hj; clear hj
  refine lv_if_ne (pc := 1) (tgt := 12) hx hb dX8_measureOf_1 (by decide) (fun c2 => ?_) (fun c2 => ?_)
  · have hf := ineg c2 hf
    refine lv_aload_n (pc := 12) hx hb dX8_measureOf_12 rfl (lv_at hl 0 rfl) ?_
    refine lv_iload_n (pc := 13) hx hb dX8_measureOf_13 rfl (lv_at hl 2 rfl) ?_
    obtain ⟨v3, hc, hf⟩ := b1_ob hf
    refine x_all (pc := 14) X hw (va_runV (As := [.int p2]) (rest := []) ⟨hx, hb, hml, hown, hts⟩ (c_X8_oneSided l D cs a q S p2 v3 hc _) (cwV 1 hts gX8_measureOf_X8_oneSided rfl rfl rfl (by decide +kernel) ⟨Nat.le_of_ble_eq_true rfl, Nat.le_of_ble_eq_true rfl⟩) ⟨CP_blind, va_recv hK hw.1 (ci := 8) (q0 := 0) rfl rfl, x_preA X hw [.ref a, .int p2]⟩ rfl rfl hl.1 rfl (lv_room (Nat.le_of_ble_eq_true rfl)) dX8_measureOf_14 ⟨Nat.zero_le _, Nat.zero_le _⟩) (fun H locs hw => ?_)
    cases hf
    exact J17_0 _ _ _ hw (lv_sub hl [] rfl)
  · have hf := ipos c2 hf
    refine lv_aload_n (pc := 4) hx hb dX8_measureOf_4 rfl (lv_at hl 0 rfl) ?_
    refine lv_iload_n (pc := 5) hx hb dX8_measureOf_5 rfl (lv_at hl 2 rfl) ?_
    obtain ⟨v4, hc, hf⟩ := b1_ob hf
    refine x_all (pc := 6) X hw (va_runV (As := [.int p2]) (rest := []) ⟨hx, hb, hml, hown, hts⟩ (c_X8_cutOf l D cs a q S p2 v4 hc _) (cwV 1 hts gX8_measureOf_X8_cutOf rfl rfl rfl (by decide +kernel) ⟨Nat.le_of_ble_eq_true rfl, Nat.le_of_ble_eq_true rfl⟩) ⟨CP_blind, va_recv hK hw.1 (ci := 8) (q0 := 0) rfl rfl, x_preA X hw [.ref a, .int p2]⟩ rfl rfl hl.1 rfl (lv_room (Nat.le_of_ble_eq_true rfl)) dX8_measureOf_6 ⟨Nat.zero_le _, Nat.zero_le _⟩) (fun H locs hw => ?_)
    refine lv_goto (pc := 9) (tgt := 17) hx hb dX8_measureOf_9 (by decide) ?_
    cases hf
    exact J17_0 _ _ _ hw (lv_sub hl [] rfl)

abbrev rmX8_isBetter : Room := { frames := 0, cells := 0, slots := 0, locals := 0 }
def f_X8_isBetter (p1 : Int32) (p2 : Int32) (p3 : Int32) : Option (Int32) :=
  b1 (
    if p1 = 0 then
      if p2 ≤ p3 then
        some (0 : Int32)
      else
      some (1 : Int32)
    else
    if p3 ≤ p2 then
      some (0 : Int32)
    else
    some (1 : Int32)) fun v1 =>
  b1 (ckB v1) fun v5 =>
  some v5
set_option maxHeartbeats 4000000 in
set_option maxRecDepth 100000 in
theorem c_X8_isBetter (l : Launch) (D : va_G) (cs : CS) (p1 : Int32) (p2 : Int32) (p3 : Int32) (r : Int32) (hf : f_X8_isBetter p1 p2 p3 = some r) : CT l D (TY cs) yX8_isBetter wsX8_isBetter rmX8_isBetter [.int p1, .int p2, .int p3] ([]) (some (.int r)) ([]) := by
  refine CT.ofW (own := RX8) (cc := cX8_isBetter) (maxL := 3) (ret := some .boolean) (by decide) rfl rfl (Nat.le_of_ble_eq_true rfl) ?_
  intro p e s m args below meth c A Q X hret ls hl hw
  obtain ⟨hx, hb, hml, hown, hts, hK, hA, hr, hlk⟩ := id X
  have hl : lv_has ls 3 [(0, .int p1), (1, .int p2), (2, .int p3)] := hl
  unfold f_X8_isBetter at hf
  refine lv_iload_n (pc := 0) hx hb dX8_isBetter_0 rfl (lv_at hl 0 rfl) ?_
  obtain ⟨v1, hj, hf⟩ := b1_ob hf
  have J27_0 : ∀ (H : Heap) (locs : List Loc) (ls : Array Slot), WD D A s ([]) H locs → lv_has ls 3 [] → W p l e rmX8_isBetter s m args below meth c H locs 0 0 Q (F0 m 27 ls [.int v1]) := by
    intro H locs ls hw hl
    obtain ⟨v5, ev5, hf⟩ := b1_ob hf
    refine x_topi (ckB_ob ev5).1.symm ?_
    cases hf
    exact hret _ _ 27 _ hw ⟨_, rfl, ckB_nar (ckB_ob ev5).2⟩ dX8_isBetter_27
  clear hf; have hf := hj; clear hj
  refine lv_if_ne (pc := 1) (tgt := 17) hx hb dX8_isBetter_1 (by decide) (fun c2 => ?_) (fun c2 => ?_)
  · have hf := ineg c2 hf
    refine lv_iload_n (pc := 17) hx hb dX8_isBetter_17 rfl (lv_at hl 1 rfl) ?_
    refine lv_iload_n (pc := 18) hx hb dX8_isBetter_18 rfl (lv_at hl 2 rfl) ?_
    refine lv_icmp_ge (pc := 19) (tgt := 26) hx hb dX8_isBetter_19 (by decide) (fun c3 => ?_) (fun c3 => ?_)
    · have hf := ipos c3 hf
      refine lv_iconst (pc := 26) (v := 0) hx hb dX8_isBetter_26 (by decide) ?_
      cases hf
      exact J27_0 _ _ _ hw (lv_sub hl [] rfl)
    · have hf := ineg c3 hf
      refine lv_iconst (pc := 22) (v := 1) hx hb dX8_isBetter_22 (by decide) ?_
      refine lv_goto (pc := 23) (tgt := 27) hx hb dX8_isBetter_23 (by decide) ?_
      cases hf
      exact J27_0 _ _ _ hw (lv_sub hl [] rfl)
  · have hf := ipos c2 hf
    refine lv_iload_n (pc := 4) hx hb dX8_isBetter_4 rfl (lv_at hl 1 rfl) ?_
    refine lv_iload_n (pc := 5) hx hb dX8_isBetter_5 rfl (lv_at hl 2 rfl) ?_
    refine lv_icmp_le (pc := 6) (tgt := 13) hx hb dX8_isBetter_6 (by decide) (fun c4 => ?_) (fun c4 => ?_)
    · have hf := ipos c4 hf
      refine lv_iconst (pc := 13) (v := 0) hx hb dX8_isBetter_13 (by decide) ?_
      refine lv_goto (pc := 14) (tgt := 27) hx hb dX8_isBetter_14 (by decide) ?_
      cases hf
      exact J27_0 _ _ _ hw (lv_sub hl [] rfl)
    · have hf := ineg c4 hf
      refine lv_iconst (pc := 9) (v := 1) hx hb dX8_isBetter_9 (by decide) ?_
      refine lv_goto (pc := 10) (tgt := 27) hx hb dX8_isBetter_10 (by decide) ?_
      cases hf
      exact J27_0 _ _ _ hw (lv_sub hl [] rfl)

theorem in_X8_restart_X8 : ∀ w ∈ wsX80, w ∈ wsX8_restart := fun _ h => List.mem_cons_of_mem _ (List.mem_append_right _ h)
abbrev rmX8_restart : Room := { frames := 0, cells := 0, slots := 0, locals := 0 }
def f_X8_restart (S : PS) (p1 : Int32) : Option (PS) :=
  bn (sI S 0 p1) fun S1 =>
  bn (sI S1 1 0) fun S2 =>
  bn (sI S2 2 0) fun S3 =>
  some S3
set_option maxHeartbeats 4000000 in
set_option maxRecDepth 100000 in
theorem c_X8_restart (l : Launch) (D : va_G) (cs : CS) (a : Nat) (q : Nat → Nat) (S : PS) (p1 : Int32) (S' : PS) (hf : f_X8_restart S p1 = some S') : CT l D (TY cs) yX8_restart wsX8_restart rmX8_restart [.ref a, .int p1] (wX8 cs a q S) none (wX8 cs a q S') := by
  refine CT.ofW (own := RX8) (cc := cX8_restart) (maxL := 2) (ret := none) (by decide) rfl rfl (Nat.le_of_ble_eq_true rfl) ?_
  intro p e s m args below meth c A Q X hret ls hl hw
  obtain ⟨hx, hb, hml, hown, hts, hK, hA, hr, hlk⟩ := id X
  have hl : lv_has ls 2 [(0, .ref a), (1, .int p1)] := hl
  unfold f_X8_restart at hf
  refine lv_aload_n (pc := 0) hx hb dX8_restart_0 rfl (lv_at hl 0 rfl) ?_
  refine lv_iload_n (pc := 1) hx hb dX8_restart_1 rfl (lv_at hl 1 rfl) ?_
  obtain ⟨S1, eS1, hf⟩ := bn_ob hf
  refine x_put (pc := 2) X hw in_X8_restart_X8 tyX8 tyX8_ok nmX8 0 rfl rfl 0 (by decide) (List.mem_of_getElem? (i := 1) rfl) rfl rfl rfl (Nat.le_of_ble_eq_true rfl) dX8_restart_2 (ws2 := wX8 cs a q S1) (by rw [eS1]; rfl) (fun H locs hw => ?_)
  refine lv_aload_n (pc := 5) hx hb dX8_restart_5 rfl (lv_at hl 0 rfl) ?_
  refine lv_iconst (pc := 6) (v := 0) hx hb dX8_restart_6 (by decide) ?_
  obtain ⟨S2, eS2, hf⟩ := bn_ob hf
  refine x_put (pc := 7) X hw in_X8_restart_X8 tyX8 tyX8_ok nmX8 0 rfl rfl 1 (by decide) (List.mem_of_getElem? (i := 2) rfl) rfl rfl rfl (Nat.le_of_ble_eq_true rfl) dX8_restart_7 (ws2 := wX8 cs a q S2) (by rw [eS2]; rfl) (fun H locs hw => ?_)
  refine lv_aload_n (pc := 10) hx hb dX8_restart_10 rfl (lv_at hl 0 rfl) ?_
  refine lv_iconst (pc := 11) (v := 0) hx hb dX8_restart_11 (by decide) ?_
  obtain ⟨S3, eS3, hf⟩ := bn_ob hf
  refine x_put (pc := 12) X hw in_X8_restart_X8 tyX8 tyX8_ok nmX8 0 rfl rfl 2 (by decide) (List.mem_of_getElem? (i := 3) rfl) rfl rfl rfl (Nat.le_of_ble_eq_true rfl) dX8_restart_12 (ws2 := wX8 cs a q S3) (by rw [eS3]; rfl) (fun H locs hw => ?_)
  cases hf
  exact hret _ _ 15 _ hw rfl dX8_restart_15

theorem in_X8_hasKnot_X8 : ∀ w ∈ wsX80, w ∈ wsX8_hasKnot := fun _ h => List.mem_cons_of_mem _ (List.mem_append_right _ h)
abbrev rmX8_hasKnot : Room := { frames := 0, cells := 0, slots := 0, locals := 0 }
def f_X8_hasKnot (S : PS) (p1 : Int32) : Option (Int32) :=
  b1 (
    if p1 < 0 then
      some (0 : Int32)
    else
    if (S.1 0) ≤ p1 then
      some (0 : Int32)
    else
    some (1 : Int32)) fun v1 =>
  b1 (ckB v1) fun v4 =>
  some v4
set_option maxHeartbeats 4000000 in
set_option maxRecDepth 100000 in
theorem c_X8_hasKnot (l : Launch) (D : va_G) (cs : CS) (a : Nat) (q : Nat → Nat) (S : PS) (p1 : Int32) (r : Int32) (hf : f_X8_hasKnot S p1 = some r) : CT l D (TY cs) yX8_hasKnot wsX8_hasKnot rmX8_hasKnot [.ref a, .int p1] (wX8 cs a q S) (some (.int r)) (wX8 cs a q S) := by
  refine CT.ofW (own := RX8) (cc := cX8_hasKnot) (maxL := 2) (ret := some .boolean) (by decide) rfl rfl (Nat.le_of_ble_eq_true rfl) ?_
  intro p e s m args below meth c A Q X hret ls hl hw
  obtain ⟨hx, hb, hml, hown, hts, hK, hA, hr, hlk⟩ := id X
  have hl : lv_has ls 2 [(0, .ref a), (1, .int p1)] := hl
  unfold f_X8_hasKnot at hf
  refine lv_iload_n (pc := 0) hx hb dX8_hasKnot_0 rfl (lv_at hl 1 rfl) ?_
  obtain ⟨v1, hj, hf⟩ := b1_ob hf
  have J17_0 : ∀ (H : Heap) (locs : List Loc) (ls : Array Slot), WD D A s (wX8 cs a q S) H locs → lv_has ls 2 [] → W p l e rmX8_hasKnot s m args below meth c H locs 0 0 Q (F0 m 17 ls [.int v1]) := by
    intro H locs ls hw hl
    obtain ⟨v4, ev4, hf⟩ := b1_ob hf
    refine x_topi (ckB_ob ev4).1.symm ?_
    cases hf
    exact hret _ _ 17 _ hw ⟨_, rfl, ckB_nar (ckB_ob ev4).2⟩ dX8_hasKnot_17
  clear hf; have hf := hj; clear hj
  refine lv_if_lt (pc := 1) (tgt := 16) hx hb dX8_hasKnot_1 (by decide) (fun c2 => ?_) (fun c2 => ?_)
  · have hf := ipos c2 hf
    refine lv_iconst (pc := 16) (v := 0) hx hb dX8_hasKnot_16 (by decide) ?_
    cases hf
    exact J17_0 _ _ _ hw (lv_sub hl [] rfl)
  · have hf := ineg c2 hf
    refine lv_iload_n (pc := 4) hx hb dX8_hasKnot_4 rfl (lv_at hl 1 rfl) ?_
    refine lv_aload_n (pc := 5) hx hb dX8_hasKnot_5 rfl (lv_at hl 0 rfl) ?_
    refine x_get (pc := 6) X hw in_X8_hasKnot_X8 0 rfl rfl 0 (by decide) (List.mem_of_getElem? (i := 1) rfl) rfl dX8_hasKnot_6 ?_
    refine lv_icmp_ge (pc := 9) (tgt := 16) hx hb dX8_hasKnot_9 (by decide) (fun c3 => ?_) (fun c3 => ?_)
    · have hf := ipos c3 hf
      refine lv_iconst (pc := 16) (v := 0) hx hb dX8_hasKnot_16 (by decide) ?_
      cases hf
      exact J17_0 _ _ _ hw (lv_sub hl [] rfl)
    · have hf := ineg c3 hf
      refine lv_iconst (pc := 12) (v := 1) hx hb dX8_hasKnot_12 (by decide) ?_
      refine lv_goto (pc := 13) (tgt := 17) hx hb dX8_hasKnot_13 (by decide) ?_
      cases hf
      exact J17_0 _ _ _ hw (lv_sub hl [] rfl)

theorem in_X8_hasKnotsOf_X8 : ∀ w ∈ wsX80, w ∈ wsX8_hasKnotsOf := fun _ h => List.mem_cons_of_mem _ (List.mem_append_right _ h)
abbrev rmX8_hasKnotsOf : Room := { frames := 0, cells := 0, slots := 0, locals := 0 }
def f_X8_hasKnotsOf (S : PS) (p1 : Int32) : Option (Int32) :=
  b1 (
    if p1 < 0 then
      some (0 : Int32)
    else
    if ((1 : Int32) <<< ((S.1 0) &&& 31)) ≤ p1 then
      some (0 : Int32)
    else
    some (1 : Int32)) fun v1 =>
  b1 (ckB v1) fun v4 =>
  some v4
set_option maxHeartbeats 4000000 in
set_option maxRecDepth 100000 in
theorem c_X8_hasKnotsOf (l : Launch) (D : va_G) (cs : CS) (a : Nat) (q : Nat → Nat) (S : PS) (p1 : Int32) (r : Int32) (hf : f_X8_hasKnotsOf S p1 = some r) : CT l D (TY cs) yX8_hasKnotsOf wsX8_hasKnotsOf rmX8_hasKnotsOf [.ref a, .int p1] (wX8 cs a q S) (some (.int r)) (wX8 cs a q S) := by
  refine CT.ofW (own := RX8) (cc := cX8_hasKnotsOf) (maxL := 2) (ret := some .boolean) (by decide) rfl rfl (Nat.le_of_ble_eq_true rfl) ?_
  intro p e s m args below meth c A Q X hret ls hl hw
  obtain ⟨hx, hb, hml, hown, hts, hK, hA, hr, hlk⟩ := id X
  have hl : lv_has ls 2 [(0, .ref a), (1, .int p1)] := hl
  unfold f_X8_hasKnotsOf at hf
  refine lv_iload_n (pc := 0) hx hb dX8_hasKnotsOf_0 rfl (lv_at hl 1 rfl) ?_
  obtain ⟨v1, hj, hf⟩ := b1_ob hf
  have J19_0 : ∀ (H : Heap) (locs : List Loc) (ls : Array Slot), WD D A s (wX8 cs a q S) H locs → lv_has ls 2 [] → W p l e rmX8_hasKnotsOf s m args below meth c H locs 0 0 Q (F0 m 19 ls [.int v1]) := by
    intro H locs ls hw hl
    obtain ⟨v4, ev4, hf⟩ := b1_ob hf
    refine x_topi (ckB_ob ev4).1.symm ?_
    cases hf
    exact hret _ _ 19 _ hw ⟨_, rfl, ckB_nar (ckB_ob ev4).2⟩ dX8_hasKnotsOf_19
  clear hf; have hf := hj; clear hj
  refine lv_if_lt (pc := 1) (tgt := 18) hx hb dX8_hasKnotsOf_1 (by decide) (fun c2 => ?_) (fun c2 => ?_)
  · have hf := ipos c2 hf
    refine lv_iconst (pc := 18) (v := 0) hx hb dX8_hasKnotsOf_18 (by decide) ?_
    cases hf
    exact J19_0 _ _ _ hw (lv_sub hl [] rfl)
  · have hf := ineg c2 hf
    refine lv_iload_n (pc := 4) hx hb dX8_hasKnotsOf_4 rfl (lv_at hl 1 rfl) ?_
    refine lv_iconst (pc := 5) (v := 1) hx hb dX8_hasKnotsOf_5 (by decide) ?_
    refine lv_aload_n (pc := 6) hx hb dX8_hasKnotsOf_6 rfl (lv_at hl 0 rfl) ?_
    refine x_get (pc := 7) X hw in_X8_hasKnotsOf_X8 0 rfl rfl 0 (by decide) (List.mem_of_getElem? (i := 1) rfl) rfl dX8_hasKnotsOf_7 ?_
    refine lv_ishl (pc := 10) hx hb dX8_hasKnotsOf_10 ?_
    refine lv_icmp_ge (pc := 11) (tgt := 18) hx hb dX8_hasKnotsOf_11 (by decide) (fun c3 => ?_) (fun c3 => ?_)
    · have hf := ipos c3 hf
      refine lv_iconst (pc := 18) (v := 0) hx hb dX8_hasKnotsOf_18 (by decide) ?_
      cases hf
      exact J19_0 _ _ _ hw (lv_sub hl [] rfl)
    · have hf := ineg c3 hf
      refine lv_iconst (pc := 14) (v := 1) hx hb dX8_hasKnotsOf_14 (by decide) ?_
      refine lv_goto (pc := 15) (tgt := 19) hx hb dX8_hasKnotsOf_15 (by decide) ?_
      cases hf
      exact J19_0 _ _ _ hw (lv_sub hl [] rfl)

theorem in_X8_addEdge_X8 : ∀ w ∈ wsX80, w ∈ wsX8_addEdge := fun _ h => List.mem_cons_of_mem _ (List.mem_append_right _ h)
abbrev rmX8_addEdge : Room := { frames := 0, cells := 0, slots := 0, locals := 0 }
def f_X8_addEdge (S : PS) (p1 : Int32) (p2 : Int32) (p3 : Int32) : Option (Int32 × PS) :=
  if (S.1 1) < 16 then
    b1 (wA 16 S 3 (S.1 1) p1) fun S2 =>
    b1 (wA 16 S2 4 (S2.1 1) p2) fun S3 =>
    b1 (wA 16 S3 5 (S3.1 1) p3) fun S4 =>
    bn (sI S4 1 ((S4.1 1) + 1)) fun S5 =>
    some ((S5.1 1), S5)
  else
  some ((-5), S)
set_option maxHeartbeats 4000000 in
set_option maxRecDepth 100000 in
theorem c_X8_addEdge (l : Launch) (D : va_G) (cs : CS) (a : Nat) (q : Nat → Nat) (S : PS) (p1 : Int32) (p2 : Int32) (p3 : Int32) (r : Int32) (S' : PS) (hf : f_X8_addEdge S p1 p2 p3 = some (r, S')) : CT l D (TY cs) yX8_addEdge wsX8_addEdge rmX8_addEdge [.ref a, .int p1, .int p2, .int p3] (wX8 cs a q S) (some (.int r)) (wX8 cs a q S') := by
  refine CT.ofW (own := RX8) (cc := cX8_addEdge) (maxL := 4) (ret := some .int) (by decide) rfl rfl (Nat.le_of_ble_eq_true rfl) ?_
  intro p e s m args below meth c A Q X hret ls hl hw
  obtain ⟨hx, hb, hml, hown, hts, hK, hA, hr, hlk⟩ := id X
  have hl : lv_has ls 4 [(0, .ref a), (1, .int p1), (2, .int p2), (3, .int p3)] := hl
  unfold f_X8_addEdge at hf
  refine lv_aload_n (pc := 0) hx hb dX8_addEdge_0 rfl (lv_at hl 0 rfl) ?_
  refine x_get (pc := 1) X hw in_X8_addEdge_X8 0 rfl rfl 1 (by decide) (List.mem_of_getElem? (i := 1) rfl) rfl dX8_addEdge_1 ?_
  refine lv_bipush (pc := 4) (v := 16) hx hb dX8_addEdge_4 (by decide) ?_
  refine lv_icmp_lt (pc := 6) (tgt := 12) hx hb dX8_addEdge_6 (by decide) (fun c1 => ?_) (fun c1 => ?_)
  · have hf := ipos c1 hf
    refine lv_aload_n (pc := 12) hx hb dX8_addEdge_12 rfl (lv_at hl 0 rfl) ?_
    refine x_get (pc := 13) X hw in_X8_addEdge_X8 0 rfl rfl 3 (by decide) (List.mem_of_getElem? (i := 2) rfl) rfl dX8_addEdge_13 ?_
    refine lv_aload_n (pc := 16) hx hb dX8_addEdge_16 rfl (lv_at hl 0 rfl) ?_
    refine x_get (pc := 17) X hw in_X8_addEdge_X8 0 rfl rfl 1 (by decide) (List.mem_of_getElem? (i := 1) rfl) rfl dX8_addEdge_17 ?_
    refine lv_iload_n (pc := 20) hx hb dX8_addEdge_20 rfl (lv_at hl 1 rfl) ?_
    obtain ⟨S2, eS2, hf⟩ := b1_ob hf
    refine x_iast (pc := 21) X hw 1 0 rfl rfl (wA_ob eS2).1 dX8_addEdge_21 (ws2 := wX8 cs a q S2) (by rw [(wA_ob eS2).2]; rfl) (fun H locs hw => ?_)
    refine lv_aload_n (pc := 22) hx hb dX8_addEdge_22 rfl (lv_at hl 0 rfl) ?_
    refine x_get (pc := 23) X hw in_X8_addEdge_X8 0 rfl rfl 4 (by decide) (List.mem_of_getElem? (i := 3) rfl) rfl dX8_addEdge_23 ?_
    refine lv_aload_n (pc := 26) hx hb dX8_addEdge_26 rfl (lv_at hl 0 rfl) ?_
    refine x_get (pc := 27) X hw in_X8_addEdge_X8 0 rfl rfl 1 (by decide) (List.mem_of_getElem? (i := 1) rfl) rfl dX8_addEdge_27 ?_
    refine lv_iload_n (pc := 30) hx hb dX8_addEdge_30 rfl (lv_at hl 2 rfl) ?_
    obtain ⟨S3, eS3, hf⟩ := b1_ob hf
    refine x_iast (pc := 31) X hw 2 0 rfl rfl (wA_ob eS3).1 dX8_addEdge_31 (ws2 := wX8 cs a q S3) (by rw [(wA_ob eS3).2]; rfl) (fun H locs hw => ?_)
    refine lv_aload_n (pc := 32) hx hb dX8_addEdge_32 rfl (lv_at hl 0 rfl) ?_
    refine x_get (pc := 33) X hw in_X8_addEdge_X8 0 rfl rfl 5 (by decide) (List.mem_of_getElem? (i := 4) rfl) rfl dX8_addEdge_33 ?_
    refine lv_aload_n (pc := 36) hx hb dX8_addEdge_36 rfl (lv_at hl 0 rfl) ?_
    refine x_get (pc := 37) X hw in_X8_addEdge_X8 0 rfl rfl 1 (by decide) (List.mem_of_getElem? (i := 1) rfl) rfl dX8_addEdge_37 ?_
    refine lv_iload_n (pc := 40) hx hb dX8_addEdge_40 rfl (lv_at hl 3 rfl) ?_
    obtain ⟨S4, eS4, hf⟩ := b1_ob hf
    refine x_iast (pc := 41) X hw 3 0 rfl rfl (wA_ob eS4).1 dX8_addEdge_41 (ws2 := wX8 cs a q S4) (by rw [(wA_ob eS4).2]; rfl) (fun H locs hw => ?_)
    refine lv_aload_n (pc := 42) hx hb dX8_addEdge_42 rfl (lv_at hl 0 rfl) ?_
    refine lv_dup (pc := 43) hx hb dX8_addEdge_43 rfl ?_
    refine x_get (pc := 44) X hw in_X8_addEdge_X8 0 rfl rfl 1 (by decide) (List.mem_of_getElem? (i := 1) rfl) rfl dX8_addEdge_44 ?_
    refine lv_iconst (pc := 47) (v := 1) hx hb dX8_addEdge_47 (by decide) ?_
    refine lv_iadd (pc := 48) hx hb dX8_addEdge_48 ?_
    obtain ⟨S5, eS5, hf⟩ := bn_ob hf
    refine x_put (pc := 49) X hw in_X8_addEdge_X8 tyX8 tyX8_ok nmX8 0 rfl rfl 1 (by decide) (List.mem_of_getElem? (i := 1) rfl) rfl rfl rfl (Nat.le_of_ble_eq_true rfl) dX8_addEdge_49 (ws2 := wX8 cs a q S5) (by rw [eS5]; rfl) (fun H locs hw => ?_)
    refine lv_aload_n (pc := 52) hx hb dX8_addEdge_52 rfl (lv_at hl 0 rfl) ?_
    refine x_get (pc := 53) X hw in_X8_addEdge_X8 0 rfl rfl 1 (by decide) (List.mem_of_getElem? (i := 1) rfl) rfl dX8_addEdge_53 ?_
    cases hf
    exact hret _ _ 56 _ hw ⟨_, rfl, rfl⟩ dX8_addEdge_56
  · have hf := ineg c1 hf
    refine lv_bipush (pc := 9) (v := (-5)) hx hb dX8_addEdge_9 (by decide) ?_
    cases hf
    exact hret _ _ 11 _ hw ⟨_, rfl, rfl⟩ dX8_addEdge_11

theorem in_X8_addCord_X8 : ∀ w ∈ wsX80, w ∈ wsX8_addCord := fun _ h => List.mem_cons_of_mem _ (List.mem_append_right _ h)
abbrev rmX8_addCord : Room := { frames := 0, cells := 0, slots := 0, locals := 0 }
def f_X8_addCord (S : PS) (p1 : Int32) : Option (Int32 × PS) :=
  if (S.1 2) < 10 then
    b1 (wA 10 S 6 (S.1 2) p1) fun S2 =>
    bn (sI S2 2 ((S2.1 2) + 1)) fun S3 =>
    some ((S3.1 2), S3)
  else
  some ((-5), S)
set_option maxHeartbeats 4000000 in
set_option maxRecDepth 100000 in
theorem c_X8_addCord (l : Launch) (D : va_G) (cs : CS) (a : Nat) (q : Nat → Nat) (S : PS) (p1 : Int32) (r : Int32) (S' : PS) (hf : f_X8_addCord S p1 = some (r, S')) : CT l D (TY cs) yX8_addCord wsX8_addCord rmX8_addCord [.ref a, .int p1] (wX8 cs a q S) (some (.int r)) (wX8 cs a q S') := by
  refine CT.ofW (own := RX8) (cc := cX8_addCord) (maxL := 2) (ret := some .int) (by decide) rfl rfl (Nat.le_of_ble_eq_true rfl) ?_
  intro p e s m args below meth c A Q X hret ls hl hw
  obtain ⟨hx, hb, hml, hown, hts, hK, hA, hr, hlk⟩ := id X
  have hl : lv_has ls 2 [(0, .ref a), (1, .int p1)] := hl
  unfold f_X8_addCord at hf
  refine lv_aload_n (pc := 0) hx hb dX8_addCord_0 rfl (lv_at hl 0 rfl) ?_
  refine x_get (pc := 1) X hw in_X8_addCord_X8 0 rfl rfl 2 (by decide) (List.mem_of_getElem? (i := 1) rfl) rfl dX8_addCord_1 ?_
  refine lv_bipush (pc := 4) (v := 10) hx hb dX8_addCord_4 (by decide) ?_
  refine lv_icmp_lt (pc := 6) (tgt := 12) hx hb dX8_addCord_6 (by decide) (fun c1 => ?_) (fun c1 => ?_)
  · have hf := ipos c1 hf
    refine lv_aload_n (pc := 12) hx hb dX8_addCord_12 rfl (lv_at hl 0 rfl) ?_
    refine x_get (pc := 13) X hw in_X8_addCord_X8 0 rfl rfl 6 (by decide) (List.mem_of_getElem? (i := 2) rfl) rfl dX8_addCord_13 ?_
    refine lv_aload_n (pc := 16) hx hb dX8_addCord_16 rfl (lv_at hl 0 rfl) ?_
    refine x_get (pc := 17) X hw in_X8_addCord_X8 0 rfl rfl 2 (by decide) (List.mem_of_getElem? (i := 1) rfl) rfl dX8_addCord_17 ?_
    refine lv_iload_n (pc := 20) hx hb dX8_addCord_20 rfl (lv_at hl 1 rfl) ?_
    obtain ⟨S2, eS2, hf⟩ := b1_ob hf
    refine x_iast (pc := 21) X hw 4 0 rfl rfl (wA_ob eS2).1 dX8_addCord_21 (ws2 := wX8 cs a q S2) (by rw [(wA_ob eS2).2]; rfl) (fun H locs hw => ?_)
    refine lv_aload_n (pc := 22) hx hb dX8_addCord_22 rfl (lv_at hl 0 rfl) ?_
    refine lv_dup (pc := 23) hx hb dX8_addCord_23 rfl ?_
    refine x_get (pc := 24) X hw in_X8_addCord_X8 0 rfl rfl 2 (by decide) (List.mem_of_getElem? (i := 1) rfl) rfl dX8_addCord_24 ?_
    refine lv_iconst (pc := 27) (v := 1) hx hb dX8_addCord_27 (by decide) ?_
    refine lv_iadd (pc := 28) hx hb dX8_addCord_28 ?_
    obtain ⟨S3, eS3, hf⟩ := bn_ob hf
    refine x_put (pc := 29) X hw in_X8_addCord_X8 tyX8 tyX8_ok nmX8 0 rfl rfl 2 (by decide) (List.mem_of_getElem? (i := 1) rfl) rfl rfl rfl (Nat.le_of_ble_eq_true rfl) dX8_addCord_29 (ws2 := wX8 cs a q S3) (by rw [eS3]; rfl) (fun H locs hw => ?_)
    refine lv_aload_n (pc := 32) hx hb dX8_addCord_32 rfl (lv_at hl 0 rfl) ?_
    refine x_get (pc := 33) X hw in_X8_addCord_X8 0 rfl rfl 2 (by decide) (List.mem_of_getElem? (i := 1) rfl) rfl dX8_addCord_33 ?_
    cases hf
    exact hret _ _ 36 _ hw ⟨_, rfl, rfl⟩ dX8_addCord_36
  · have hf := ineg c1 hf
    refine lv_bipush (pc := 9) (v := (-5)) hx hb dX8_addCord_9 (by decide) ?_
    cases hf
    exact hret _ _ 11 _ hw ⟨_, rfl, rfl⟩ dX8_addCord_11

abbrev rmX8_meanBelow : Room := { frames := 0, cells := 0, slots := 0, locals := 0 }
def f_X8_meanBelow (p1 : Int32) : Option (Int32) :=
  b1 (
    if p1 = 0 then
      some (2 : Int32)
    else
    some (256 : Int32)) fun v1 =>
  some v1
set_option maxHeartbeats 4000000 in
set_option maxRecDepth 100000 in
theorem c_X8_meanBelow (l : Launch) (D : va_G) (cs : CS) (p1 : Int32) (r : Int32) (hf : f_X8_meanBelow p1 = some r) : CT l D (TY cs) yX8_meanBelow wsX8_meanBelow rmX8_meanBelow [.int p1] ([]) (some (.int r)) ([]) := by
  refine CT.ofW (own := RX8) (cc := cX8_meanBelow) (maxL := 1) (ret := some .int) (by decide) rfl rfl (Nat.le_of_ble_eq_true rfl) ?_
  intro p e s m args below meth c A Q X hret ls hl hw
  obtain ⟨hx, hb, hml, hown, hts, hK, hA, hr, hlk⟩ := id X
  have hl : lv_has ls 1 [(0, .int p1)] := hl
  unfold f_X8_meanBelow at hf
  refine lv_iload_n (pc := 0) hx hb dX8_meanBelow_0 rfl (lv_at hl 0 rfl) ?_
  obtain ⟨v1, hj, hf⟩ := b1_ob hf
  have J11_0 : ∀ (H : Heap) (locs : List Loc) (ls : Array Slot), WD D A s ([]) H locs → lv_has ls 1 [] → W p l e rmX8_meanBelow s m args below meth c H locs 0 0 Q (F0 m 11 ls [.int v1]) := by
    intro H locs ls hw hl
    cases hf
    exact hret _ _ 11 _ hw ⟨_, rfl, rfl⟩ dX8_meanBelow_11
  clear hf; have hf := hj; clear hj
  refine lv_if_ne (pc := 1) (tgt := 8) hx hb dX8_meanBelow_1 (by decide) (fun c2 => ?_) (fun c2 => ?_)
  · have hf := ineg c2 hf
    refine lv_sipush (pc := 8) (v := 256) hx hb dX8_meanBelow_8 (by decide) ?_
    cases hf
    exact J11_0 _ _ _ hw (lv_sub hl [] rfl)
  · have hf := ipos c2 hf
    refine lv_iconst (pc := 4) (v := 2) hx hb dX8_meanBelow_4 (by decide) ?_
    refine lv_goto (pc := 5) (tgt := 11) hx hb dX8_meanBelow_5 (by decide) ?_
    cases hf
    exact J11_0 _ _ _ hw (lv_sub hl [] rfl)

theorem in_X8_cutMean_X8 : ∀ w ∈ wsX80, w ∈ wsX8_cutMean := fun _ h => List.mem_cons_of_mem _ (List.mem_append_right _ h)
abbrev rmX8_cutMean : Room := { frames := 0, cells := 0, slots := 0, locals := 0 }
def B_X8_cutMean_5 (S : PS) (p1 : Int32) (p2 : Int32) (v1 : Int32) (v2 : Int32) : Option ((Int32 × Int32) ⊕ (Int32)) :=
  if (S.1 1) ≤ v2 then
    some (.inr v1)
  else
  b1 (rdI 16 (S.2.1 3) v2) fun v4 =>
  b1 (rdI 16 (S.2.1 4) v2) fun v5 =>
  bn (((1 : Int32) <<< (v4 &&& 31)) ||| ((1 : Int32) <<< (v5 &&& 31))) fun v6 =>
  b1 (
    if (v6 &&& p1) = v6 then
      if (v6 &&& p2) = 0 then
        some v1
      else
      if (v6 &&& p2) = v6 then
        some v1
      else
      b1 (rdI 16 (S.2.1 5) v2) fun v11 =>
      bn (v1 + (2 * v11)) fun v12 =>
      some v12
    else
    b1 (rdI 16 (S.2.1 5) v2) fun v13 =>
    bn (v1 + v13) fun v14 =>
    some v14) fun v7 =>
  bn (v2 + 1) fun v15 =>
  some (.inl (v7, v15))
def L_X8_cutMean_5 (S : PS) (p1 : Int32) (p2 : Int32) (n : Nat) (v1 : Int32) (v2 : Int32) : Option (Int32) := loopF (fun x : Int32 × Int32 => B_X8_cutMean_5 S p1 p2 x.1 x.2) n (v1, v2)
def f_X8_cutMean (S : PS) (p1 : Int32) (p2 : Int32) : Option (Int32) :=
  b1 (L_X8_cutMean_5 S p1 p2 FU 0 0) fun v16 =>
  some v16
set_option maxHeartbeats 4000000 in
set_option maxRecDepth 100000 in
theorem c_X8_cutMean (l : Launch) (D : va_G) (cs : CS) (a : Nat) (q : Nat → Nat) (S : PS) (p1 : Int32) (p2 : Int32) (r : Int32) (hf : f_X8_cutMean S p1 p2 = some r) : CT l D (TY cs) yX8_cutMean wsX8_cutMean rmX8_cutMean [.ref a, .int p1, .int p2] (wX8 cs a q S) (some (.int r)) (wX8 cs a q S) := by
  refine CT.ofW (own := RX8) (cc := cX8_cutMean) (maxL := 6) (ret := some .int) (by decide) rfl rfl (Nat.le_of_ble_eq_true rfl) ?_
  intro p e s m args below meth c A Q X hret ls hl hw
  obtain ⟨hx, hb, hml, hown, hts, hK, hA, hr, hlk⟩ := id X
  have hl : lv_has ls 6 [(0, .ref a), (1, .int p1), (2, .int p2)] := hl
  unfold f_X8_cutMean at hf
  refine lv_iconst (pc := 0) (v := 0) hx hb dX8_cutMean_0 (by decide) ?_
  refine lv_istore_n (lv' := [(3, .int 0), (0, .ref a), (1, .int p1), (2, .int p2)]) (pc := 1) hx hb dX8_cutMean_1 rfl hl (by decide) rfl (fun ls hl => ?_)
  refine lv_iconst (pc := 2) (v := 0) hx hb dX8_cutMean_2 (by decide) ?_
  refine lv_istore (lv' := [(4, .int 0), (3, .int 0), (0, .ref a), (1, .int p1), (2, .int p2)]) (pc := 3) hx hb dX8_cutMean_3 hl (by decide) rfl (fun ls hl => ?_)
  have L5 : ∀ (n : Nat) (v1 : Int32) (v2 : Int32) (rv1 : Int32), L_X8_cutMean_5 S p1 p2 n v1 v2 = some rv1 → ∀ (H : Heap) (locs : List Loc) (ls : Array Slot), WD D A s (wX8 cs a q S) H locs → lv_has ls 6 [(0, .ref a), (1, .int p1), (2, .int p2), (3, .int v1), (4, .int v2)] → (∀ (H : Heap) (locs : List Loc) (ls : Array Slot), WD D A s (wX8 cs a q S) H locs → lv_has ls 6 [(3, .int rv1)] → W p l e rmX8_cutMean s m args below meth c H locs 0 0 Q (F0 m 91 ls [])) → W p l e rmX8_cutMean s m args below meth c H locs 0 0 Q (F0 m 5 ls []) := by
    intro n
    induction n with
    | zero => intro v1 v2 rv1 hf; exact (loopF_z hf).elim
    | succ n ih =>
      intro v1 v2 rv1 hf H locs ls hw hl K
      obtain ⟨x, hf, hx0⟩ := loopF_ob hf
      have hf : B_X8_cutMean_5 S p1 p2 v1 v2 = some x := hf
      unfold B_X8_cutMean_5 at hf
      refine lv_iload (pc := 5) hx hb dX8_cutMean_5 (lv_at hl 4 rfl) ?_
      refine lv_aload_n (pc := 7) hx hb dX8_cutMean_7 rfl (lv_at hl 0 rfl) ?_
      refine x_get (pc := 8) X hw in_X8_cutMean_X8 0 rfl rfl 1 (by decide) (List.mem_of_getElem? (i := 1) rfl) rfl dX8_cutMean_8 ?_
      refine lv_icmp_ge (pc := 11) (tgt := 91) hx hb dX8_cutMean_11 (by decide) (fun c3 => ?_) (fun c3 => ?_)
      · have hf := ipos c3 hf
        cases hf
        cases (hx0 : v1 = rv1)
        exact K _ _ _ hw (lv_sub hl [3] rfl)
      · have hf := ineg c3 hf
        refine lv_iconst (pc := 14) (v := 1) hx hb dX8_cutMean_14 (by decide) ?_
        refine lv_aload_n (pc := 15) hx hb dX8_cutMean_15 rfl (lv_at hl 0 rfl) ?_
        refine x_get (pc := 16) X hw in_X8_cutMean_X8 0 rfl rfl 3 (by decide) (List.mem_of_getElem? (i := 2) rfl) rfl dX8_cutMean_16 ?_
        refine lv_iload (pc := 19) hx hb dX8_cutMean_19 (lv_at hl 4 rfl) ?_
        obtain ⟨v4, ev4, hf⟩ := b1_ob hf
        refine x_iald (pc := 21) X hw 1 0 rfl rfl ev4 dX8_cutMean_21 ?_
        refine lv_ishl (pc := 22) hx hb dX8_cutMean_22 ?_
        refine lv_iconst (pc := 23) (v := 1) hx hb dX8_cutMean_23 (by decide) ?_
        refine lv_aload_n (pc := 24) hx hb dX8_cutMean_24 rfl (lv_at hl 0 rfl) ?_
        refine x_get (pc := 25) X hw in_X8_cutMean_X8 0 rfl rfl 4 (by decide) (List.mem_of_getElem? (i := 3) rfl) rfl dX8_cutMean_25 ?_
        refine lv_iload (pc := 28) hx hb dX8_cutMean_28 (lv_at hl 4 rfl) ?_
        obtain ⟨v5, ev5, hf⟩ := b1_ob hf
        refine x_iald (pc := 30) X hw 2 0 rfl rfl ev5 dX8_cutMean_30 ?_
        refine lv_ishl (pc := 31) hx hb dX8_cutMean_31 ?_
        refine lv_ior (pc := 32) hx hb dX8_cutMean_32 ?_
        obtain ⟨v6, ev6, hf⟩ := bn_ob hf
        refine x_topi ev6 ?_
        refine lv_istore (lv' := [(5, .int v6), (0, .ref a), (1, .int p1), (2, .int p2), (3, .int v1), (4, .int v2)]) (pc := 33) hx hb dX8_cutMean_33 hl (by decide) rfl (fun ls hl => ?_)
        refine lv_iload (pc := 35) hx hb dX8_cutMean_35 (lv_at hl 0 rfl) ?_
        refine lv_iload_n (pc := 37) hx hb dX8_cutMean_37 rfl (lv_at hl 2 rfl) ?_
        refine lv_iand (pc := 38) hx hb dX8_cutMean_38 ?_
        refine lv_iload (pc := 39) hx hb dX8_cutMean_39 (lv_at hl 0 rfl) ?_
        obtain ⟨v7, hj, hf⟩ := b1_ob hf
        have J85_6 : ∀ (H : Heap) (locs : List Loc) (ls : Array Slot), WD D A s (wX8 cs a q S) H locs → lv_has ls 6 [(0, .ref a), (1, .int p1), (2, .int p2), (3, .int v7), (4, .int v2)] → W p l e rmX8_cutMean s m args below meth c H locs 0 0 Q (F0 m 85 ls []) := by
          intro H locs ls hw hl
          obtain ⟨v15, ev15, hf⟩ := bn_ob hf
          refine lv_iinc (pc := 85) (v := v15) (lv' := [(4, .int v15), (0, .ref a), (1, .int p1), (2, .int p2), (3, .int v7)]) hx hb dX8_cutMean_85 hl (k := 4) rfl (by rw [ev15]; rfl) (by decide) rfl (fun ls hl => ?_)
          refine lv_goto (pc := 88) (tgt := 5) hx hb dX8_cutMean_88 (by decide) ?_
          cases hf
          exact ih v7 v15 rv1 hx0 _ _ _ hw (lv_sub hl [1, 2, 3, 4, 0] rfl) K
        clear hf; have hf := hj; clear hj
        refine lv_icmp_eq (pc := 41) (tgt := 57) hx hb dX8_cutMean_41 (by decide) (fun c8 => ?_) (fun c8 => ?_)
        · have hf := ipos c8 hf
          refine lv_iload (pc := 57) hx hb dX8_cutMean_57 (lv_at hl 0 rfl) ?_
          refine lv_iload_n (pc := 59) hx hb dX8_cutMean_59 rfl (lv_at hl 3 rfl) ?_
          refine lv_iand (pc := 60) hx hb dX8_cutMean_60 ?_
          refine lv_if_eq (pc := 61) (tgt := 85) hx hb dX8_cutMean_61 (by decide) (fun c9 => ?_) (fun c9 => ?_)
          · have hf := ipos c9 hf
            cases hf
            exact J85_6 _ _ _ hw (lv_sub hl [1, 2, 3, 4, 5] rfl)
          · have hf := ineg c9 hf
            refine lv_iload (pc := 64) hx hb dX8_cutMean_64 (lv_at hl 0 rfl) ?_
            refine lv_iload_n (pc := 66) hx hb dX8_cutMean_66 rfl (lv_at hl 3 rfl) ?_
            refine lv_iand (pc := 67) hx hb dX8_cutMean_67 ?_
            refine lv_iload (pc := 68) hx hb dX8_cutMean_68 (lv_at hl 0 rfl) ?_
            refine lv_icmp_eq (pc := 70) (tgt := 85) hx hb dX8_cutMean_70 (by decide) (fun c10 => ?_) (fun c10 => ?_)
            · have hf := ipos c10 hf
              cases hf
              exact J85_6 _ _ _ hw (lv_sub hl [1, 2, 3, 4, 5] rfl)
            · have hf := ineg c10 hf
              refine lv_iload_n (pc := 73) hx hb dX8_cutMean_73 rfl (lv_at hl 4 rfl) ?_
              refine lv_iconst (pc := 74) (v := 2) hx hb dX8_cutMean_74 (by decide) ?_
              refine lv_aload_n (pc := 75) hx hb dX8_cutMean_75 rfl (lv_at hl 1 rfl) ?_
              refine x_get (pc := 76) X hw in_X8_cutMean_X8 0 rfl rfl 5 (by decide) (List.mem_of_getElem? (i := 4) rfl) rfl dX8_cutMean_76 ?_
              refine lv_iload (pc := 79) hx hb dX8_cutMean_79 (lv_at hl 5 rfl) ?_
              obtain ⟨v11, ev11, hf⟩ := b1_ob hf
              refine x_iald (pc := 81) X hw 3 0 rfl rfl ev11 dX8_cutMean_81 ?_
              refine lv_imul (pc := 82) hx hb dX8_cutMean_82 ?_
              refine lv_iadd (pc := 83) hx hb dX8_cutMean_83 ?_
              obtain ⟨v12, ev12, hf⟩ := bn_ob hf
              refine x_topi ev12 ?_
              refine lv_istore_n (lv' := [(3, .int v12), (5, .int v6), (0, .ref a), (1, .int p1), (2, .int p2), (4, .int v2)]) (pc := 84) hx hb dX8_cutMean_84 rfl hl (by decide) rfl (fun ls hl => ?_)
              cases hf
              exact J85_6 _ _ _ hw (lv_sub hl [2, 3, 4, 0, 5] rfl)
        · have hf := ineg c8 hf
          refine lv_iload_n (pc := 44) hx hb dX8_cutMean_44 rfl (lv_at hl 4 rfl) ?_
          refine lv_aload_n (pc := 45) hx hb dX8_cutMean_45 rfl (lv_at hl 1 rfl) ?_
          refine x_get (pc := 46) X hw in_X8_cutMean_X8 0 rfl rfl 5 (by decide) (List.mem_of_getElem? (i := 4) rfl) rfl dX8_cutMean_46 ?_
          refine lv_iload (pc := 49) hx hb dX8_cutMean_49 (lv_at hl 5 rfl) ?_
          obtain ⟨v13, ev13, hf⟩ := b1_ob hf
          refine x_iald (pc := 51) X hw 3 0 rfl rfl ev13 dX8_cutMean_51 ?_
          refine lv_iadd (pc := 52) hx hb dX8_cutMean_52 ?_
          obtain ⟨v14, ev14, hf⟩ := bn_ob hf
          refine x_topi ev14 ?_
          refine lv_istore_n (lv' := [(3, .int v14), (5, .int v6), (0, .ref a), (1, .int p1), (2, .int p2), (4, .int v2)]) (pc := 53) hx hb dX8_cutMean_53 rfl hl (by decide) rfl (fun ls hl => ?_)
          refine lv_goto (pc := 54) (tgt := 85) hx hb dX8_cutMean_54 (by decide) ?_
          cases hf
          exact J85_6 _ _ _ hw (lv_sub hl [2, 3, 4, 0, 5] rfl)
  obtain ⟨v16, hj, hf⟩ := b1_ob hf
  refine L5 _ 0 0 v16 hj _ _ _ hw (lv_sub hl [2, 3, 4, 1, 0] rfl) (fun H locs ls hw hl => ?_)
  clear hj L5
  refine lv_iload_n (pc := 91) hx hb dX8_cutMean_91 rfl (lv_at hl 0 rfl) ?_
  cases hf
  exact hret _ _ 92 _ hw ⟨_, rfl, rfl⟩ dX8_cutMean_92

theorem in_X8_oneSidedMean_X8 : ∀ w ∈ wsX80, w ∈ wsX8_oneSidedMean := fun _ h => List.mem_cons_of_mem _ (List.mem_append_right _ h)
abbrev rmX8_oneSidedMean : Room := { frames := 1, cells := 0, slots := 0, locals := 20 }
def B_X8_oneSidedMean_5 (S : PS) (p1 : Int32) (p2 : Int32) (v1 : Int32) (v2 : Int32) : Option ((Int32 × Int32) ⊕ (Int32)) :=
  if (S.1 2) ≤ v2 then
    some (.inr v1)
  else
  b1 (rdI 10 (S.2.1 6) v2) fun v4 =>
  bn (v4 &&& p1) fun v5 =>
  b1 (rdI 10 (S.2.1 6) v2) fun v6 =>
  bn (v6 &&& p2) fun v7 =>
  b1 (rdI 10 (S.2.1 6) v2) fun v8 =>
  b1 (f_J6_bitCount_0f7a4 (v8 &&& (p1 ^^^ (-1)))) fun v9 =>
  bn ((1 : Int32) <<< ((8 - v9) &&& 31)) fun v10 =>
  b1 (
    if v7 = 0 then
      bn (v1 + v10) fun v13 =>
      some v13
    else
    some v1) fun v11 =>
  b1 (
    if v7 = v5 then
      bn (v11 + v10) fun v16 =>
      some v16
    else
    some v11) fun v14 =>
  bn (v2 + 1) fun v17 =>
  some (.inl (v14, v17))
def L_X8_oneSidedMean_5 (S : PS) (p1 : Int32) (p2 : Int32) (n : Nat) (v1 : Int32) (v2 : Int32) : Option (Int32) := loopF (fun x : Int32 × Int32 => B_X8_oneSidedMean_5 S p1 p2 x.1 x.2) n (v1, v2)
def f_X8_oneSidedMean (S : PS) (p1 : Int32) (p2 : Int32) : Option (Int32) :=
  b1 (L_X8_oneSidedMean_5 S p1 p2 FU 0 0) fun v18 =>
  some v18
set_option maxHeartbeats 4000000 in
set_option maxRecDepth 100000 in
theorem c_X8_oneSidedMean (l : Launch) (D : va_G) (cs : CS) (a : Nat) (q : Nat → Nat) (S : PS) (p1 : Int32) (p2 : Int32) (r : Int32) (hf : f_X8_oneSidedMean S p1 p2 = some r) : CT l D (TY cs) yX8_oneSidedMean wsX8_oneSidedMean rmX8_oneSidedMean [.ref a, .int p1, .int p2] (wX8 cs a q S) (some (.int r)) (wX8 cs a q S) := by
  refine CT.ofW (own := RX8) (cc := cX8_oneSidedMean) (maxL := 8) (ret := some .int) (by decide) rfl rfl (Nat.le_of_ble_eq_true rfl) ?_
  intro p e s m args below meth c A Q X hret ls hl hw
  obtain ⟨hx, hb, hml, hown, hts, hK, hA, hr, hlk⟩ := id X
  have hl : lv_has ls 8 [(0, .ref a), (1, .int p1), (2, .int p2)] := hl
  unfold f_X8_oneSidedMean at hf
  refine lv_iconst (pc := 0) (v := 0) hx hb dX8_oneSidedMean_0 (by decide) ?_
  refine lv_istore_n (lv' := [(3, .int 0), (0, .ref a), (1, .int p1), (2, .int p2)]) (pc := 1) hx hb dX8_oneSidedMean_1 rfl hl (by decide) rfl (fun ls hl => ?_)
  refine lv_iconst (pc := 2) (v := 0) hx hb dX8_oneSidedMean_2 (by decide) ?_
  refine lv_istore (lv' := [(4, .int 0), (3, .int 0), (0, .ref a), (1, .int p1), (2, .int p2)]) (pc := 3) hx hb dX8_oneSidedMean_3 hl (by decide) rfl (fun ls hl => ?_)
  have L5 : ∀ (n : Nat) (v1 : Int32) (v2 : Int32) (rv1 : Int32), L_X8_oneSidedMean_5 S p1 p2 n v1 v2 = some rv1 → ∀ (H : Heap) (locs : List Loc) (ls : Array Slot), WD D A s (wX8 cs a q S) H locs → lv_has ls 8 [(0, .ref a), (1, .int p1), (2, .int p2), (3, .int v1), (4, .int v2)] → (∀ (H : Heap) (locs : List Loc) (ls : Array Slot), WD D A s (wX8 cs a q S) H locs → lv_has ls 8 [(3, .int rv1)] → W p l e rmX8_oneSidedMean s m args below meth c H locs 0 0 Q (F0 m 85 ls [])) → W p l e rmX8_oneSidedMean s m args below meth c H locs 0 0 Q (F0 m 5 ls []) := by
    intro n
    induction n with
    | zero => intro v1 v2 rv1 hf; exact (loopF_z hf).elim
    | succ n ih =>
      intro v1 v2 rv1 hf H locs ls hw hl K
      obtain ⟨x, hf, hx0⟩ := loopF_ob hf
      have hf : B_X8_oneSidedMean_5 S p1 p2 v1 v2 = some x := hf
      unfold B_X8_oneSidedMean_5 at hf
      refine lv_iload (pc := 5) hx hb dX8_oneSidedMean_5 (lv_at hl 4 rfl) ?_
      refine lv_aload_n (pc := 7) hx hb dX8_oneSidedMean_7 rfl (lv_at hl 0 rfl) ?_
      refine x_get (pc := 8) X hw in_X8_oneSidedMean_X8 0 rfl rfl 2 (by decide) (List.mem_of_getElem? (i := 1) rfl) rfl dX8_oneSidedMean_8 ?_
      refine lv_icmp_ge (pc := 11) (tgt := 85) hx hb dX8_oneSidedMean_11 (by decide) (fun c3 => ?_) (fun c3 => ?_)
      · have hf := ipos c3 hf
        cases hf
        cases (hx0 : v1 = rv1)
        exact K _ _ _ hw (lv_sub hl [3] rfl)
      · have hf := ineg c3 hf
        refine lv_aload_n (pc := 14) hx hb dX8_oneSidedMean_14 rfl (lv_at hl 0 rfl) ?_
        refine x_get (pc := 15) X hw in_X8_oneSidedMean_X8 0 rfl rfl 6 (by decide) (List.mem_of_getElem? (i := 2) rfl) rfl dX8_oneSidedMean_15 ?_
        refine lv_iload (pc := 18) hx hb dX8_oneSidedMean_18 (lv_at hl 4 rfl) ?_
        obtain ⟨v4, ev4, hf⟩ := b1_ob hf
        refine x_iald (pc := 20) X hw 4 0 rfl rfl ev4 dX8_oneSidedMean_20 ?_
        refine lv_iload_n (pc := 21) hx hb dX8_oneSidedMean_21 rfl (lv_at hl 1 rfl) ?_
        refine lv_iand (pc := 22) hx hb dX8_oneSidedMean_22 ?_
        obtain ⟨v5, ev5, hf⟩ := bn_ob hf
        refine x_topi ev5 ?_
        refine lv_istore (lv' := [(5, .int v5), (0, .ref a), (1, .int p1), (2, .int p2), (3, .int v1), (4, .int v2)]) (pc := 23) hx hb dX8_oneSidedMean_23 hl (by decide) rfl (fun ls hl => ?_)
        refine lv_aload_n (pc := 25) hx hb dX8_oneSidedMean_25 rfl (lv_at hl 1 rfl) ?_
        refine x_get (pc := 26) X hw in_X8_oneSidedMean_X8 0 rfl rfl 6 (by decide) (List.mem_of_getElem? (i := 2) rfl) rfl dX8_oneSidedMean_26 ?_
        refine lv_iload (pc := 29) hx hb dX8_oneSidedMean_29 (lv_at hl 5 rfl) ?_
        obtain ⟨v6, ev6, hf⟩ := b1_ob hf
        refine x_iald (pc := 31) X hw 4 0 rfl rfl ev6 dX8_oneSidedMean_31 ?_
        refine lv_iload_n (pc := 32) hx hb dX8_oneSidedMean_32 rfl (lv_at hl 3 rfl) ?_
        refine lv_iand (pc := 33) hx hb dX8_oneSidedMean_33 ?_
        obtain ⟨v7, ev7, hf⟩ := bn_ob hf
        refine x_topi ev7 ?_
        refine lv_istore (lv' := [(6, .int v7), (5, .int v5), (0, .ref a), (1, .int p1), (2, .int p2), (3, .int v1), (4, .int v2)]) (pc := 34) hx hb dX8_oneSidedMean_34 hl (by decide) rfl (fun ls hl => ?_)
        refine lv_iconst (pc := 36) (v := 1) hx hb dX8_oneSidedMean_36 (by decide) ?_
        refine lv_bipush (pc := 37) (v := 8) hx hb dX8_oneSidedMean_37 (by decide) ?_
        refine lv_aload_n (pc := 39) hx hb dX8_oneSidedMean_39 rfl (lv_at hl 2 rfl) ?_
        refine x_get (pc := 40) X hw in_X8_oneSidedMean_X8 0 rfl rfl 6 (by decide) (List.mem_of_getElem? (i := 2) rfl) rfl dX8_oneSidedMean_40 ?_
        refine lv_iload (pc := 43) hx hb dX8_oneSidedMean_43 (lv_at hl 6 rfl) ?_
        obtain ⟨v8, ev8, hf⟩ := b1_ob hf
        refine x_iald (pc := 45) X hw 4 0 rfl rfl ev8 dX8_oneSidedMean_45 ?_
        refine lv_iload_n (pc := 46) hx hb dX8_oneSidedMean_46 rfl (lv_at hl 3 rfl) ?_
        refine lv_iconst (pc := 47) (v := (-1)) hx hb dX8_oneSidedMean_47 (by decide) ?_
        refine lv_ixor (pc := 48) hx hb dX8_oneSidedMean_48 ?_
        refine lv_iand (pc := 49) hx hb dX8_oneSidedMean_49 ?_
        obtain ⟨v9, hc, hf⟩ := b1_ob hf
        refine x_nil (pc := 50) X hw (va_runS (As := [.int (v8 &&& (p1 ^^^ (-1)))]) (rest := [.int 8, .int 1]) ⟨hx, hb, hml, hown, hts⟩ (c_J6_bitCount_0f7a4 l D cs (v8 &&& (p1 ^^^ (-1))) v9 hc _) (va_cwS 1 hts gX8_oneSidedMean_J6_bitCount_0f7a4 rfl rfl rfl (by decide +kernel) ⟨Nat.le_of_ble_eq_true rfl, Nat.le_of_ble_eq_true rfl⟩) ⟨CP_blind, x_preN X [.int (v8 &&& (p1 ^^^ (-1)))]⟩ rfl rfl hl.1 rfl (lv_room (Nat.le_of_ble_eq_true rfl)) dX8_oneSidedMean_50 ⟨Nat.zero_le _, Nat.zero_le _⟩) (fun H locs hw => ?_)
        refine lv_isub (pc := 53) hx hb dX8_oneSidedMean_53 ?_
        refine lv_ishl (pc := 54) hx hb dX8_oneSidedMean_54 ?_
        obtain ⟨v10, ev10, hf⟩ := bn_ob hf
        refine x_topi ev10 ?_
        refine lv_istore (lv' := [(7, .int v10), (6, .int v7), (5, .int v5), (0, .ref a), (1, .int p1), (2, .int p2), (3, .int v1), (4, .int v2)]) (pc := 55) hx hb dX8_oneSidedMean_55 hl (by decide) rfl (fun ls hl => ?_)
        refine lv_iload (pc := 57) hx hb dX8_oneSidedMean_57 (lv_at hl 1 rfl) ?_
        obtain ⟨v11, hj, hf⟩ := b1_ob hf
        have J67_10 : ∀ (H : Heap) (locs : List Loc) (ls : Array Slot), WD D A s (wX8 cs a q S) H locs → lv_has ls 8 [(0, .ref a), (1, .int p1), (2, .int p2), (3, .int v11), (4, .int v2), (5, .int v5), (6, .int v7), (7, .int v10)] → W p l e rmX8_oneSidedMean s m args below meth c H locs 0 0 Q (F0 m 67 ls []) := by
          intro H locs ls hw hl
          refine lv_iload (pc := 67) hx hb dX8_oneSidedMean_67 (lv_at hl 6 rfl) ?_
          refine lv_iload (pc := 69) hx hb dX8_oneSidedMean_69 (lv_at hl 5 rfl) ?_
          obtain ⟨v14, hj, hf⟩ := b1_ob hf
          have J79_13 : ∀ (H : Heap) (locs : List Loc) (ls : Array Slot), WD D A s (wX8 cs a q S) H locs → lv_has ls 8 [(0, .ref a), (1, .int p1), (2, .int p2), (3, .int v14), (4, .int v2)] → W p l e rmX8_oneSidedMean s m args below meth c H locs 0 0 Q (F0 m 79 ls []) := by
            intro H locs ls hw hl
            obtain ⟨v17, ev17, hf⟩ := bn_ob hf
            refine lv_iinc (pc := 79) (v := v17) (lv' := [(4, .int v17), (0, .ref a), (1, .int p1), (2, .int p2), (3, .int v14)]) hx hb dX8_oneSidedMean_79 hl (k := 4) rfl (by rw [ev17]; rfl) (by decide) rfl (fun ls hl => ?_)
            refine lv_goto (pc := 82) (tgt := 5) hx hb dX8_oneSidedMean_82 (by decide) ?_
            cases hf
            exact ih v14 v17 rv1 hx0 _ _ _ hw (lv_sub hl [1, 2, 3, 4, 0] rfl) K
          clear hf; have hf := hj; clear hj
          refine lv_icmp_ne (pc := 71) (tgt := 79) hx hb dX8_oneSidedMean_71 (by decide) (fun c15 => ?_) (fun c15 => ?_)
          · have hf := ineg c15 hf
            cases hf
            exact J79_13 _ _ _ hw (lv_sub hl [0, 1, 2, 3, 4] rfl)
          · have hf := ipos c15 hf
            refine lv_iload_n (pc := 74) hx hb dX8_oneSidedMean_74 rfl (lv_at hl 3 rfl) ?_
            refine lv_iload (pc := 75) hx hb dX8_oneSidedMean_75 (lv_at hl 7 rfl) ?_
            refine lv_iadd (pc := 77) hx hb dX8_oneSidedMean_77 ?_
            obtain ⟨v16, ev16, hf⟩ := bn_ob hf
            refine x_topi ev16 ?_
            refine lv_istore_n (lv' := [(3, .int v16), (0, .ref a), (1, .int p1), (2, .int p2), (4, .int v2), (5, .int v5), (6, .int v7), (7, .int v10)]) (pc := 78) hx hb dX8_oneSidedMean_78 rfl hl (by decide) rfl (fun ls hl => ?_)
            cases hf
            exact J79_13 _ _ _ hw (lv_sub hl [1, 2, 3, 0, 4] rfl)
        clear hf; have hf := hj; clear hj
        refine lv_if_ne (pc := 59) (tgt := 67) hx hb dX8_oneSidedMean_59 (by decide) (fun c12 => ?_) (fun c12 => ?_)
        · have hf := ineg c12 hf
          cases hf
          exact J67_10 _ _ _ hw (lv_sub hl [3, 4, 5, 6, 7, 2, 1, 0] rfl)
        · have hf := ipos c12 hf
          refine lv_iload_n (pc := 62) hx hb dX8_oneSidedMean_62 rfl (lv_at hl 6 rfl) ?_
          refine lv_iload (pc := 63) hx hb dX8_oneSidedMean_63 (lv_at hl 0 rfl) ?_
          refine lv_iadd (pc := 65) hx hb dX8_oneSidedMean_65 ?_
          obtain ⟨v13, ev13, hf⟩ := bn_ob hf
          refine x_topi ev13 ?_
          refine lv_istore_n (lv' := [(3, .int v13), (7, .int v10), (6, .int v7), (5, .int v5), (0, .ref a), (1, .int p1), (2, .int p2), (4, .int v2)]) (pc := 66) hx hb dX8_oneSidedMean_66 rfl hl (by decide) rfl (fun ls hl => ?_)
          cases hf
          exact J67_10 _ _ _ hw (lv_sub hl [4, 5, 6, 0, 7, 3, 2, 1] rfl)
  obtain ⟨v18, hj, hf⟩ := b1_ob hf
  refine L5 _ 0 0 v18 hj _ _ _ hw (lv_sub hl [2, 3, 4, 1, 0] rfl) (fun H locs ls hw hl => ?_)
  clear hj L5
  refine lv_iload_n (pc := 85) hx hb dX8_oneSidedMean_85 rfl (lv_at hl 0 rfl) ?_
  cases hf
  exact hret _ _ 86 _ hw ⟨_, rfl, rfl⟩ dX8_oneSidedMean_86

theorem in_X8_meanAbove_X8 : ∀ w ∈ wsX80, w ∈ wsX8_meanAbove := fun _ h => List.mem_cons_of_mem _ (List.mem_append_right _ h)
abbrev rmX8_meanAbove : Room := { frames := 2, cells := 0, slots := 0, locals := 47 }
def f_X8_meanAbove (S : PS) (p1 : Int32) (p2 : Int32) (p3 : Int32) : Option (Int32) :=
  b1 (
    if p1 = 0 then
      b1 (f_X8_cutMean S p2 p3) fun v4 =>
      some v4
    else
    b1 (f_X8_oneSidedMean S p2 p3) fun v3 =>
    some v3) fun v1 =>
  some v1
set_option maxHeartbeats 4000000 in
set_option maxRecDepth 100000 in
theorem c_X8_meanAbove (l : Launch) (D : va_G) (cs : CS) (a : Nat) (q : Nat → Nat) (S : PS) (p1 : Int32) (p2 : Int32) (p3 : Int32) (r : Int32) (hf : f_X8_meanAbove S p1 p2 p3 = some r) : CT l D (TY cs) yX8_meanAbove wsX8_meanAbove rmX8_meanAbove [.ref a, .int p1, .int p2, .int p3] (wX8 cs a q S) (some (.int r)) (wX8 cs a q S) := by
  refine CT.ofW (own := RX8) (cc := cX8_meanAbove) (maxL := 4) (ret := some .int) (by decide) rfl rfl (Nat.le_of_ble_eq_true rfl) ?_
  intro p e s m args below meth c A Q X hret ls hl hw
  obtain ⟨hx, hb, hml, hown, hts, hK, hA, hr, hlk⟩ := id X
  have hl : lv_has ls 4 [(0, .ref a), (1, .int p1), (2, .int p2), (3, .int p3)] := hl
  unfold f_X8_meanAbove at hf
  refine lv_iload_n (pc := 0) hx hb dX8_meanAbove_0 rfl (lv_at hl 1 rfl) ?_
  obtain ⟨v1, hj, hf⟩ := b1_ob hf
  have J19_0 : ∀ (H : Heap) (locs : List Loc) (ls : Array Slot), WD D A s (wX8 cs a q S) H locs → lv_has ls 4 [] → W p l e rmX8_meanAbove s m args below meth c H locs 0 0 Q (F0 m 19 ls [.int v1]) := by
    intro H locs ls hw hl
    cases hf
    exact hret _ _ 19 _ hw ⟨_, rfl, rfl⟩ dX8_meanAbove_19
  clear hf; have hf := hj; clear hj
  refine lv_if_ne (pc := 1) (tgt := 13) hx hb dX8_meanAbove_1 (by decide) (fun c2 => ?_) (fun c2 => ?_)
  · have hf := ineg c2 hf
    refine lv_aload_n (pc := 13) hx hb dX8_meanAbove_13 rfl (lv_at hl 0 rfl) ?_
    refine lv_iload_n (pc := 14) hx hb dX8_meanAbove_14 rfl (lv_at hl 2 rfl) ?_
    refine lv_iload_n (pc := 15) hx hb dX8_meanAbove_15 rfl (lv_at hl 3 rfl) ?_
    obtain ⟨v3, hc, hf⟩ := b1_ob hf
    refine x_all (pc := 16) X hw (va_runV (As := [.int p2, .int p3]) (rest := []) ⟨hx, hb, hml, hown, hts⟩ (c_X8_oneSidedMean l D cs a q S p2 p3 v3 hc _) (cwV 2 hts gX8_meanAbove_X8_oneSidedMean rfl rfl rfl (by decide +kernel) ⟨Nat.le_of_ble_eq_true rfl, Nat.le_of_ble_eq_true rfl⟩) ⟨CP_blind, va_recv hK hw.1 (ci := 8) (q0 := 0) rfl rfl, x_preA X hw [.ref a, .int p2, .int p3]⟩ rfl rfl hl.1 rfl (lv_room (Nat.le_of_ble_eq_true rfl)) dX8_meanAbove_16 ⟨Nat.zero_le _, Nat.zero_le _⟩) (fun H locs hw => ?_)
    cases hf
    exact J19_0 _ _ _ hw (lv_sub hl [] rfl)
  · have hf := ipos c2 hf
    refine lv_aload_n (pc := 4) hx hb dX8_meanAbove_4 rfl (lv_at hl 0 rfl) ?_
    refine lv_iload_n (pc := 5) hx hb dX8_meanAbove_5 rfl (lv_at hl 2 rfl) ?_
    refine lv_iload_n (pc := 6) hx hb dX8_meanAbove_6 rfl (lv_at hl 3 rfl) ?_
    obtain ⟨v4, hc, hf⟩ := b1_ob hf
    refine x_all (pc := 7) X hw (va_runV (As := [.int p2, .int p3]) (rest := []) ⟨hx, hb, hml, hown, hts⟩ (c_X8_cutMean l D cs a q S p2 p3 v4 hc _) (cwV 2 hts gX8_meanAbove_X8_cutMean rfl rfl rfl (by decide +kernel) ⟨Nat.le_of_ble_eq_true rfl, Nat.le_of_ble_eq_true rfl⟩) ⟨CP_blind, va_recv hK hw.1 (ci := 8) (q0 := 0) rfl rfl, x_preA X hw [.ref a, .int p2, .int p3]⟩ rfl rfl hl.1 rfl (lv_room (Nat.le_of_ble_eq_true rfl)) dX8_meanAbove_7 ⟨Nat.zero_le _, Nat.zero_le _⟩) (fun H locs hw => ?_)
    refine lv_goto (pc := 10) (tgt := 19) hx hb dX8_meanAbove_10 (by decide) ?_
    cases hf
    exact J19_0 _ _ _ hw (lv_sub hl [] rfl)

theorem in_X8_sidesByMeans_X8 : ∀ w ∈ wsX80, w ∈ wsX8_sidesByMeans := fun _ h => List.mem_cons_of_mem _ (List.mem_append_right _ h)
abbrev rmX8_sidesByMeans : Room := { frames := 3, cells := 0, slots := 0, locals := 70 }
def B_X8_sidesByMeans_7 (S : PS) (p1 : Int32) (v1 : Int32) (v2 : Int32) (v3 : Int32) : Option ((Int32 × Int32 × Int32) ⊕ (Int32)) :=
  if (S.1 0) ≤ v3 then
    some (.inr v2)
  else
  bn (v1 ||| ((1 : Int32) <<< (v3 &&& 31))) fun v5 =>
  bn (v2 ||| ((1 : Int32) <<< (v3 &&& 31))) fun v6 =>
  b1 (f_X8_meanAbove S p1 v5 v6) fun v7 =>
  b1 (f_X8_meanAbove S p1 v5 v2) fun v8 =>
  b1 (f_X8_isBetter p1 v7 v8) fun v9 =>
  b1 (
    if v9 = 0 then
      some v2
    else
    some v6) fun v10 =>
  bn (v3 + 1) fun v12 =>
  some (.inl (v5, v10, v12))
def L_X8_sidesByMeans_7 (S : PS) (p1 : Int32) (n : Nat) (v1 : Int32) (v2 : Int32) (v3 : Int32) : Option (Int32) := loopF (fun x : Int32 × Int32 × Int32 => B_X8_sidesByMeans_7 S p1 x.1 x.2.1 x.2.2) n (v1, v2, v3)
def f_X8_sidesByMeans (S : PS) (p1 : Int32) : Option (Int32) :=
  b1 (L_X8_sidesByMeans_7 S p1 FU 0 0 0) fun v13 =>
  some v13
set_option maxHeartbeats 4000000 in
set_option maxRecDepth 100000 in
theorem c_X8_sidesByMeans (l : Launch) (D : va_G) (cs : CS) (a : Nat) (q : Nat → Nat) (S : PS) (p1 : Int32) (r : Int32) (hf : f_X8_sidesByMeans S p1 = some r) : CT l D (TY cs) yX8_sidesByMeans wsX8_sidesByMeans rmX8_sidesByMeans [.ref a, .int p1] (wX8 cs a q S) (some (.int r)) (wX8 cs a q S) := by
  refine CT.ofW (own := RX8) (cc := cX8_sidesByMeans) (maxL := 6) (ret := some .int) (by decide) rfl rfl (Nat.le_of_ble_eq_true rfl) ?_
  intro p e s m args below meth c A Q X hret ls hl hw
  obtain ⟨hx, hb, hml, hown, hts, hK, hA, hr, hlk⟩ := id X
  have hl : lv_has ls 6 [(0, .ref a), (1, .int p1)] := hl
  unfold f_X8_sidesByMeans at hf
  refine lv_iconst (pc := 0) (v := 0) hx hb dX8_sidesByMeans_0 (by decide) ?_
  refine lv_istore_n (lv' := [(2, .int 0), (0, .ref a), (1, .int p1)]) (pc := 1) hx hb dX8_sidesByMeans_1 rfl hl (by decide) rfl (fun ls hl => ?_)
  refine lv_iconst (pc := 2) (v := 0) hx hb dX8_sidesByMeans_2 (by decide) ?_
  refine lv_istore_n (lv' := [(3, .int 0), (2, .int 0), (0, .ref a), (1, .int p1)]) (pc := 3) hx hb dX8_sidesByMeans_3 rfl hl (by decide) rfl (fun ls hl => ?_)
  refine lv_iconst (pc := 4) (v := 0) hx hb dX8_sidesByMeans_4 (by decide) ?_
  refine lv_istore (lv' := [(4, .int 0), (3, .int 0), (2, .int 0), (0, .ref a), (1, .int p1)]) (pc := 5) hx hb dX8_sidesByMeans_5 hl (by decide) rfl (fun ls hl => ?_)
  have L7 : ∀ (n : Nat) (v1 : Int32) (v2 : Int32) (v3 : Int32) (rv2 : Int32), L_X8_sidesByMeans_7 S p1 n v1 v2 v3 = some rv2 → ∀ (H : Heap) (locs : List Loc) (ls : Array Slot), WD D A s (wX8 cs a q S) H locs → lv_has ls 6 [(0, .ref a), (1, .int p1), (2, .int v1), (3, .int v2), (4, .int v3)] → (∀ (H : Heap) (locs : List Loc) (ls : Array Slot), WD D A s (wX8 cs a q S) H locs → lv_has ls 6 [(3, .int rv2)] → W p l e rmX8_sidesByMeans s m args below meth c H locs 0 0 Q (F0 m 62 ls [])) → W p l e rmX8_sidesByMeans s m args below meth c H locs 0 0 Q (F0 m 7 ls []) := by
    intro n
    induction n with
    | zero => intro v1 v2 v3 rv2 hf; exact (loopF_z hf).elim
    | succ n ih =>
      intro v1 v2 v3 rv2 hf H locs ls hw hl K
      obtain ⟨x, hf, hx0⟩ := loopF_ob hf
      have hf : B_X8_sidesByMeans_7 S p1 v1 v2 v3 = some x := hf
      unfold B_X8_sidesByMeans_7 at hf
      refine lv_iload (pc := 7) hx hb dX8_sidesByMeans_7 (lv_at hl 4 rfl) ?_
      refine lv_aload_n (pc := 9) hx hb dX8_sidesByMeans_9 rfl (lv_at hl 0 rfl) ?_
      refine x_get (pc := 10) X hw in_X8_sidesByMeans_X8 0 rfl rfl 0 (by decide) (List.mem_of_getElem? (i := 1) rfl) rfl dX8_sidesByMeans_10 ?_
      refine lv_icmp_ge (pc := 13) (tgt := 62) hx hb dX8_sidesByMeans_13 (by decide) (fun c4 => ?_) (fun c4 => ?_)
      · have hf := ipos c4 hf
        cases hf
        cases (hx0 : v2 = rv2)
        exact K _ _ _ hw (lv_sub hl [3] rfl)
      · have hf := ineg c4 hf
        refine lv_iload_n (pc := 16) hx hb dX8_sidesByMeans_16 rfl (lv_at hl 2 rfl) ?_
        refine lv_iconst (pc := 17) (v := 1) hx hb dX8_sidesByMeans_17 (by decide) ?_
        refine lv_iload (pc := 18) hx hb dX8_sidesByMeans_18 (lv_at hl 4 rfl) ?_
        refine lv_ishl (pc := 20) hx hb dX8_sidesByMeans_20 ?_
        refine lv_ior (pc := 21) hx hb dX8_sidesByMeans_21 ?_
        obtain ⟨v5, ev5, hf⟩ := bn_ob hf
        refine x_topi ev5 ?_
        refine lv_istore_n (lv' := [(2, .int v5), (0, .ref a), (1, .int p1), (3, .int v2), (4, .int v3)]) (pc := 22) hx hb dX8_sidesByMeans_22 rfl hl (by decide) rfl (fun ls hl => ?_)
        refine lv_iload_n (pc := 23) hx hb dX8_sidesByMeans_23 rfl (lv_at hl 3 rfl) ?_
        refine lv_iconst (pc := 24) (v := 1) hx hb dX8_sidesByMeans_24 (by decide) ?_
        refine lv_iload (pc := 25) hx hb dX8_sidesByMeans_25 (lv_at hl 4 rfl) ?_
        refine lv_ishl (pc := 27) hx hb dX8_sidesByMeans_27 ?_
        refine lv_ior (pc := 28) hx hb dX8_sidesByMeans_28 ?_
        obtain ⟨v6, ev6, hf⟩ := bn_ob hf
        refine x_topi ev6 ?_
        refine lv_istore (lv' := [(5, .int v6), (2, .int v5), (0, .ref a), (1, .int p1), (3, .int v2), (4, .int v3)]) (pc := 29) hx hb dX8_sidesByMeans_29 hl (by decide) rfl (fun ls hl => ?_)
        refine lv_iload_n (pc := 31) hx hb dX8_sidesByMeans_31 rfl (lv_at hl 3 rfl) ?_
        refine lv_aload_n (pc := 32) hx hb dX8_sidesByMeans_32 rfl (lv_at hl 2 rfl) ?_
        refine lv_iload_n (pc := 33) hx hb dX8_sidesByMeans_33 rfl (lv_at hl 3 rfl) ?_
        refine lv_iload_n (pc := 34) hx hb dX8_sidesByMeans_34 rfl (lv_at hl 1 rfl) ?_
        refine lv_iload (pc := 35) hx hb dX8_sidesByMeans_35 (lv_at hl 0 rfl) ?_
        obtain ⟨v7, hc, hf⟩ := b1_ob hf
        refine x_all (pc := 37) X hw (va_runV (As := [.int p1, .int v5, .int v6]) (rest := [.int p1]) ⟨hx, hb, hml, hown, hts⟩ (c_X8_meanAbove l D cs a q S p1 v5 v6 v7 hc _) (cwV 3 hts gX8_sidesByMeans_X8_meanAbove rfl rfl rfl (by decide +kernel) ⟨Nat.le_of_ble_eq_true rfl, Nat.le_of_ble_eq_true rfl⟩) ⟨CP_blind, va_recv hK hw.1 (ci := 8) (q0 := 0) rfl rfl, x_preA X hw [.ref a, .int p1, .int v5, .int v6]⟩ rfl rfl hl.1 rfl (lv_room (Nat.le_of_ble_eq_true rfl)) dX8_sidesByMeans_37 ⟨Nat.zero_le _, Nat.zero_le _⟩) (fun H locs hw => ?_)
        refine lv_aload_n (pc := 40) hx hb dX8_sidesByMeans_40 rfl (lv_at hl 2 rfl) ?_
        refine lv_iload_n (pc := 41) hx hb dX8_sidesByMeans_41 rfl (lv_at hl 3 rfl) ?_
        refine lv_iload_n (pc := 42) hx hb dX8_sidesByMeans_42 rfl (lv_at hl 1 rfl) ?_
        refine lv_iload_n (pc := 43) hx hb dX8_sidesByMeans_43 rfl (lv_at hl 4 rfl) ?_
        obtain ⟨v8, hc, hf⟩ := b1_ob hf
        refine x_all (pc := 44) X hw (va_runV (As := [.int p1, .int v5, .int v2]) (rest := [.int v7, .int p1]) ⟨hx, hb, hml, hown, hts⟩ (c_X8_meanAbove l D cs a q S p1 v5 v2 v8 hc _) (cwV 3 hts gX8_sidesByMeans_X8_meanAbove rfl rfl rfl (by decide +kernel) ⟨Nat.le_of_ble_eq_true rfl, Nat.le_of_ble_eq_true rfl⟩) ⟨CP_blind, va_recv hK hw.1 (ci := 8) (q0 := 0) rfl rfl, x_preA X hw [.ref a, .int p1, .int v5, .int v2]⟩ rfl rfl hl.1 rfl (lv_room (Nat.le_of_ble_eq_true rfl)) dX8_sidesByMeans_44 ⟨Nat.zero_le _, Nat.zero_le _⟩) (fun H locs hw => ?_)
        obtain ⟨v9, hc, hf⟩ := b1_ob hf
        refine x_nil (pc := 47) X hw (va_runS (As := [.int p1, .int v7, .int v8]) (rest := []) ⟨hx, hb, hml, hown, hts⟩ (c_X8_isBetter l D cs p1 v7 v8 v9 hc _) (va_cwS 3 hts gX8_sidesByMeans_X8_isBetter rfl rfl rfl (by decide +kernel) ⟨Nat.le_of_ble_eq_true rfl, Nat.le_of_ble_eq_true rfl⟩) ⟨CP_blind, x_preN X [.int p1, .int v7, .int v8]⟩ rfl rfl hl.1 rfl (lv_room (Nat.le_of_ble_eq_true rfl)) dX8_sidesByMeans_47 ⟨Nat.zero_le _, Nat.zero_le _⟩) (fun H locs hw => ?_)
        obtain ⟨v10, hj, hf⟩ := b1_ob hf
        have J56_9 : ∀ (H : Heap) (locs : List Loc) (ls : Array Slot), WD D A s (wX8 cs a q S) H locs → lv_has ls 6 [(0, .ref a), (1, .int p1), (2, .int v5), (3, .int v10), (4, .int v3)] → W p l e rmX8_sidesByMeans s m args below meth c H locs 0 0 Q (F0 m 56 ls []) := by
          intro H locs ls hw hl
          obtain ⟨v12, ev12, hf⟩ := bn_ob hf
          refine lv_iinc (pc := 56) (v := v12) (lv' := [(4, .int v12), (0, .ref a), (1, .int p1), (2, .int v5), (3, .int v10)]) hx hb dX8_sidesByMeans_56 hl (k := 4) rfl (by rw [ev12]; rfl) (by decide) rfl (fun ls hl => ?_)
          refine lv_goto (pc := 59) (tgt := 7) hx hb dX8_sidesByMeans_59 (by decide) ?_
          cases hf
          exact ih v5 v10 v12 rv2 hx0 _ _ _ hw (lv_sub hl [1, 2, 3, 4, 0] rfl) K
        clear hf; have hf := hj; clear hj
        refine lv_if_eq (pc := 50) (tgt := 56) hx hb dX8_sidesByMeans_50 (by decide) (fun c11 => ?_) (fun c11 => ?_)
        · have hf := ipos c11 hf
          cases hf
          exact J56_9 _ _ _ hw (lv_sub hl [2, 3, 1, 4, 5] rfl)
        · have hf := ineg c11 hf
          refine lv_iload (pc := 53) hx hb dX8_sidesByMeans_53 (lv_at hl 0 rfl) ?_
          refine lv_istore_n (lv' := [(3, .int v6), (5, .int v6), (2, .int v5), (0, .ref a), (1, .int p1), (4, .int v3)]) (pc := 55) hx hb dX8_sidesByMeans_55 rfl hl (by decide) rfl (fun ls hl => ?_)
          cases hf
          exact J56_9 _ _ _ hw (lv_sub hl [3, 4, 2, 0, 5] rfl)
  obtain ⟨v13, hj, hf⟩ := b1_ob hf
  refine L7 _ 0 0 0 v13 hj _ _ _ hw (lv_sub hl [3, 4, 2, 1, 0] rfl) (fun H locs ls hw hl => ?_)
  clear hj L7
  refine lv_iload_n (pc := 62) hx hb dX8_sidesByMeans_62 rfl (lv_at hl 0 rfl) ?_
  cases hf
  exact hret _ _ 63 _ hw ⟨_, rfl, rfl⟩ dX8_sidesByMeans_63

theorem in_X8_bestSides_X8 : ∀ w ∈ wsX80, w ∈ wsX8_bestSides := fun _ h => List.mem_cons_of_mem _ (List.mem_append_right _ h)
abbrev rmX8_bestSides : Room := { frames := 2, cells := 0, slots := 0, locals := 46 }
def B_X8_bestSides_12 (S : PS) (p1 : Int32) (v2 : Int32) (v3 : Int32) (v4 : Int32) : Option ((Int32 × Int32 × Int32) ⊕ (Int32)) :=
  if ((1 : Int32) <<< ((S.1 0) &&& 31)) ≤ v4 then
    some (.inr v2)
  else
  b1 (f_X8_measureOf S p1 v4) fun v6 =>
  b1 (f_X8_isBetter p1 v6 v3) fun v7 =>
  b2 (
    if v7 = 0 then
      some (v2, v3)
    else
    some (v4, v6)) fun v8 v9 =>
  bn (v4 + 1) fun v11 =>
  some (.inl (v8, v9, v11))
def L_X8_bestSides_12 (S : PS) (p1 : Int32) (n : Nat) (v2 : Int32) (v3 : Int32) (v4 : Int32) : Option (Int32) := loopF (fun x : Int32 × Int32 × Int32 => B_X8_bestSides_12 S p1 x.1 x.2.1 x.2.2) n (v2, v3, v4)
def f_X8_bestSides (S : PS) (p1 : Int32) : Option (Int32) :=
  b1 (f_X8_measureOf S p1 0) fun v1 =>
  b1 (L_X8_bestSides_12 S p1 FU 0 v1 1) fun v12 =>
  some v12
set_option maxHeartbeats 4000000 in
set_option maxRecDepth 100000 in
theorem c_X8_bestSides (l : Launch) (D : va_G) (cs : CS) (a : Nat) (q : Nat → Nat) (S : PS) (p1 : Int32) (r : Int32) (hf : f_X8_bestSides S p1 = some r) : CT l D (TY cs) yX8_bestSides wsX8_bestSides rmX8_bestSides [.ref a, .int p1] (wX8 cs a q S) (some (.int r)) (wX8 cs a q S) := by
  refine CT.ofW (own := RX8) (cc := cX8_bestSides) (maxL := 6) (ret := some .int) (by decide) rfl rfl (Nat.le_of_ble_eq_true rfl) ?_
  intro p e s m args below meth c A Q X hret ls hl hw
  obtain ⟨hx, hb, hml, hown, hts, hK, hA, hr, hlk⟩ := id X
  have hl : lv_has ls 6 [(0, .ref a), (1, .int p1)] := hl
  unfold f_X8_bestSides at hf
  refine lv_iconst (pc := 0) (v := 0) hx hb dX8_bestSides_0 (by decide) ?_
  refine lv_istore_n (lv' := [(2, .int 0), (0, .ref a), (1, .int p1)]) (pc := 1) hx hb dX8_bestSides_1 rfl hl (by decide) rfl (fun ls hl => ?_)
  refine lv_aload_n (pc := 2) hx hb dX8_bestSides_2 rfl (lv_at hl 1 rfl) ?_
  refine lv_iload_n (pc := 3) hx hb dX8_bestSides_3 rfl (lv_at hl 2 rfl) ?_
  refine lv_iconst (pc := 4) (v := 0) hx hb dX8_bestSides_4 (by decide) ?_
  obtain ⟨v1, hc, hf⟩ := b1_ob hf
  refine x_all (pc := 5) X hw (va_runV (As := [.int p1, .int 0]) (rest := []) ⟨hx, hb, hml, hown, hts⟩ (c_X8_measureOf l D cs a q S p1 0 v1 hc _) (cwV 2 hts gX8_bestSides_X8_measureOf rfl rfl rfl (by decide +kernel) ⟨Nat.le_of_ble_eq_true rfl, Nat.le_of_ble_eq_true rfl⟩) ⟨CP_blind, va_recv hK hw.1 (ci := 8) (q0 := 0) rfl rfl, x_preA X hw [.ref a, .int p1, .int 0]⟩ rfl rfl hl.1 rfl (lv_room (Nat.le_of_ble_eq_true rfl)) dX8_bestSides_5 ⟨Nat.zero_le _, Nat.zero_le _⟩) (fun H locs hw => ?_)
  refine lv_istore_n (lv' := [(3, .int v1), (2, .int 0), (0, .ref a), (1, .int p1)]) (pc := 8) hx hb dX8_bestSides_8 rfl hl (by decide) rfl (fun ls hl => ?_)
  refine lv_iconst (pc := 9) (v := 1) hx hb dX8_bestSides_9 (by decide) ?_
  refine lv_istore (lv' := [(4, .int 1), (3, .int v1), (2, .int 0), (0, .ref a), (1, .int p1)]) (pc := 10) hx hb dX8_bestSides_10 hl (by decide) rfl (fun ls hl => ?_)
  have L12 : ∀ (n : Nat) (v2 : Int32) (v3 : Int32) (v4 : Int32) (rv2 : Int32), L_X8_bestSides_12 S p1 n v2 v3 v4 = some rv2 → ∀ (H : Heap) (locs : List Loc) (ls : Array Slot), WD D A s (wX8 cs a q S) H locs → lv_has ls 6 [(0, .ref a), (1, .int p1), (2, .int v2), (3, .int v3), (4, .int v4)] → (∀ (H : Heap) (locs : List Loc) (ls : Array Slot), WD D A s (wX8 cs a q S) H locs → lv_has ls 6 [(2, .int rv2)] → W p l e rmX8_bestSides s m args below meth c H locs 0 0 Q (F0 m 54 ls [])) → W p l e rmX8_bestSides s m args below meth c H locs 0 0 Q (F0 m 12 ls []) := by
    intro n
    induction n with
    | zero => intro v2 v3 v4 rv2 hf; exact (loopF_z hf).elim
    | succ n ih =>
      intro v2 v3 v4 rv2 hf H locs ls hw hl K
      obtain ⟨x, hf, hx0⟩ := loopF_ob hf
      have hf : B_X8_bestSides_12 S p1 v2 v3 v4 = some x := hf
      unfold B_X8_bestSides_12 at hf
      refine lv_iload (pc := 12) hx hb dX8_bestSides_12 (lv_at hl 4 rfl) ?_
      refine lv_iconst (pc := 14) (v := 1) hx hb dX8_bestSides_14 (by decide) ?_
      refine lv_aload_n (pc := 15) hx hb dX8_bestSides_15 rfl (lv_at hl 0 rfl) ?_
      refine x_get (pc := 16) X hw in_X8_bestSides_X8 0 rfl rfl 0 (by decide) (List.mem_of_getElem? (i := 1) rfl) rfl dX8_bestSides_16 ?_
      refine lv_ishl (pc := 19) hx hb dX8_bestSides_19 ?_
      refine lv_icmp_ge (pc := 20) (tgt := 54) hx hb dX8_bestSides_20 (by decide) (fun c5 => ?_) (fun c5 => ?_)
      · have hf := ipos c5 hf
        cases hf
        cases (hx0 : v2 = rv2)
        exact K _ _ _ hw (lv_sub hl [2] rfl)
      · have hf := ineg c5 hf
        refine lv_aload_n (pc := 23) hx hb dX8_bestSides_23 rfl (lv_at hl 0 rfl) ?_
        refine lv_iload_n (pc := 24) hx hb dX8_bestSides_24 rfl (lv_at hl 1 rfl) ?_
        refine lv_iload (pc := 25) hx hb dX8_bestSides_25 (lv_at hl 4 rfl) ?_
        obtain ⟨v6, hc, hf⟩ := b1_ob hf
        refine x_all (pc := 27) X hw (va_runV (As := [.int p1, .int v4]) (rest := []) ⟨hx, hb, hml, hown, hts⟩ (c_X8_measureOf l D cs a q S p1 v4 v6 hc _) (cwV 2 hts gX8_bestSides_X8_measureOf rfl rfl rfl (by decide +kernel) ⟨Nat.le_of_ble_eq_true rfl, Nat.le_of_ble_eq_true rfl⟩) ⟨CP_blind, va_recv hK hw.1 (ci := 8) (q0 := 0) rfl rfl, x_preA X hw [.ref a, .int p1, .int v4]⟩ rfl rfl hl.1 rfl (lv_room (Nat.le_of_ble_eq_true rfl)) dX8_bestSides_27 ⟨Nat.zero_le _, Nat.zero_le _⟩) (fun H locs hw => ?_)
        refine lv_istore (lv' := [(5, .int v6), (0, .ref a), (1, .int p1), (2, .int v2), (3, .int v3), (4, .int v4)]) (pc := 30) hx hb dX8_bestSides_30 hl (by decide) rfl (fun ls hl => ?_)
        refine lv_iload_n (pc := 32) hx hb dX8_bestSides_32 rfl (lv_at hl 2 rfl) ?_
        refine lv_iload (pc := 33) hx hb dX8_bestSides_33 (lv_at hl 0 rfl) ?_
        refine lv_iload_n (pc := 35) hx hb dX8_bestSides_35 rfl (lv_at hl 4 rfl) ?_
        obtain ⟨v7, hc, hf⟩ := b1_ob hf
        refine x_nil (pc := 36) X hw (va_runS (As := [.int p1, .int v6, .int v3]) (rest := []) ⟨hx, hb, hml, hown, hts⟩ (c_X8_isBetter l D cs p1 v6 v3 v7 hc _) (va_cwS 3 hts gX8_bestSides_X8_isBetter rfl rfl rfl (by decide +kernel) ⟨Nat.le_of_ble_eq_true rfl, Nat.le_of_ble_eq_true rfl⟩) ⟨CP_blind, x_preN X [.int p1, .int v6, .int v3]⟩ rfl rfl hl.1 rfl (lv_room (Nat.le_of_ble_eq_true rfl)) dX8_bestSides_36 ⟨Nat.zero_le _, Nat.zero_le _⟩) (fun H locs hw => ?_)
        obtain ⟨v8, v9, hj, hf⟩ := b2_ob hf
        have J48_7 : ∀ (H : Heap) (locs : List Loc) (ls : Array Slot), WD D A s (wX8 cs a q S) H locs → lv_has ls 6 [(0, .ref a), (1, .int p1), (2, .int v8), (3, .int v9), (4, .int v4)] → W p l e rmX8_bestSides s m args below meth c H locs 0 0 Q (F0 m 48 ls []) := by
          intro H locs ls hw hl
          obtain ⟨v11, ev11, hf⟩ := bn_ob hf
          refine lv_iinc (pc := 48) (v := v11) (lv' := [(4, .int v11), (0, .ref a), (1, .int p1), (2, .int v8), (3, .int v9)]) hx hb dX8_bestSides_48 hl (k := 4) rfl (by rw [ev11]; rfl) (by decide) rfl (fun ls hl => ?_)
          refine lv_goto (pc := 51) (tgt := 12) hx hb dX8_bestSides_51 (by decide) ?_
          cases hf
          exact ih v8 v9 v11 rv2 hx0 _ _ _ hw (lv_sub hl [1, 2, 3, 4, 0] rfl) K
        clear hf; have hf := hj; clear hj
        refine lv_if_eq (pc := 39) (tgt := 48) hx hb dX8_bestSides_39 (by decide) (fun c10 => ?_) (fun c10 => ?_)
        · have hf := ipos c10 hf
          cases hf
          exact J48_7 _ _ _ hw (lv_sub hl [1, 2, 3, 4, 5] rfl)
        · have hf := ineg c10 hf
          refine lv_iload (pc := 42) hx hb dX8_bestSides_42 (lv_at hl 5 rfl) ?_
          refine lv_istore_n (lv' := [(2, .int v4), (5, .int v6), (0, .ref a), (1, .int p1), (3, .int v3), (4, .int v4)]) (pc := 44) hx hb dX8_bestSides_44 rfl hl (by decide) rfl (fun ls hl => ?_)
          refine lv_iload (pc := 45) hx hb dX8_bestSides_45 (lv_at hl 1 rfl) ?_
          refine lv_istore_n (lv' := [(3, .int v6), (2, .int v4), (5, .int v6), (0, .ref a), (1, .int p1), (4, .int v4)]) (pc := 47) hx hb dX8_bestSides_47 rfl hl (by decide) rfl (fun ls hl => ?_)
          cases hf
          exact J48_7 _ _ _ hw (lv_sub hl [3, 4, 1, 0, 5] rfl)
  obtain ⟨v12, hj, hf⟩ := b1_ob hf
  refine L12 _ 0 v1 1 v12 hj _ _ _ hw (lv_sub hl [3, 4, 2, 1, 0] rfl) (fun H locs ls hw hl => ?_)
  clear hj L12
  refine lv_iload_n (pc := 54) hx hb dX8_bestSides_54 rfl (lv_at hl 0 rfl) ?_
  cases hf
  exact hret _ _ 55 _ hw ⟨_, rfl, rfl⟩ dX8_bestSides_55
