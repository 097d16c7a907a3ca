theorem in_X6_at_X6 : ∀ w ∈ wsX60, w ∈ wsX6_at := fun _ h => List.mem_cons_of_mem _ (List.mem_append_right _ h)
abbrev rmX6_at : Room := { frames := 0, cells := 0, slots := 0, locals := 0 }
def f_X6_at (S : PS) (p1 : Int32) : Option (Int32) :=
  b1 (
    if p1 < 0 then
      some ((-1) : Int32)
    else
    if (S.1 1) ≤ p1 then
      some ((-1) : Int32)
    else
    if 200 ≤ p1 then
      some ((-1) : Int32)
    else
    b1 (rdI 200 (S.2.1 0) p1) fun v5 =>
    some v5) fun v1 =>
  some v1
set_option maxHeartbeats 4000000 in
set_option maxRecDepth 100000 in
theorem c_X6_at (l : Launch) (D : va_G) (cs : CS) (a : Nat) (q : Nat → Nat) (S : PS) (p1 : Int32) (r : Int32) (hf : f_X6_at S p1 = some r) : CT l D (TY cs) yX6_at wsX6_at rmX6_at [.ref a, .int p1] (wX6 cs a q S) (some (.int r)) (wX6 cs a q S) := by
  refine CT.ofW (own := RX6) (cc := cX6_at) (maxL := 2) (ret := some .int) (by decide) rfl rfl (Nat.le_of_ble_eq_true rfl) ?_
  intro p e s m args below meth c A Q X hret ls hl hw
  obtain ⟨hx, hb, hml, hown, hts, hK, hA, hr, hlk⟩ := id X
  have hl : lv_has ls 2 [(0, .ref a), (1, .int p1)] := hl
  unfold f_X6_at at hf
  refine lv_iload_n (pc := 0) hx hb dX6_at_0 rfl (lv_at hl 1 rfl) ?_
  obtain ⟨v1, hj, hf⟩ := b1_ob hf
  have J29_0 : ∀ (H : Heap) (locs : List Loc) (ls : Array Slot), WD D A s (wX6 cs a q S) H locs → lv_has ls 2 [] → W p l e rmX6_at s m args below meth c H locs 0 0 Q (F0 m 29 ls [.int v1]) := by
    intro H locs ls hw hl
    cases hf
    exact hret _ _ 29 _ hw ⟨_, rfl, rfl⟩ dX6_at_29
  clear hf; have hf := hj; clear hj
  refine lv_if_lt (pc := 1) (tgt := 28) hx hb dX6_at_1 (by decide) (fun c2 => ?_) (fun c2 => ?_)
  · have hf := ipos c2 hf
    refine lv_iconst (pc := 28) (v := (-1)) hx hb dX6_at_28 (by decide) ?_
    cases hf
    exact J29_0 _ _ _ hw (lv_sub hl [] rfl)
  · have hf := ineg c2 hf
    refine lv_iload_n (pc := 4) hx hb dX6_at_4 rfl (lv_at hl 1 rfl) ?_
    refine lv_aload_n (pc := 5) hx hb dX6_at_5 rfl (lv_at hl 0 rfl) ?_
    refine x_get (pc := 6) X hw in_X6_at_X6 0 rfl rfl 1 (by decide) (List.mem_of_getElem? (i := 1) rfl) rfl dX6_at_6 ?_
    refine lv_icmp_ge (pc := 9) (tgt := 28) hx hb dX6_at_9 (by decide) (fun c3 => ?_) (fun c3 => ?_)
    · have hf := ipos c3 hf
      refine lv_iconst (pc := 28) (v := (-1)) hx hb dX6_at_28 (by decide) ?_
      cases hf
      exact J29_0 _ _ _ hw (lv_sub hl [] rfl)
    · have hf := ineg c3 hf
      refine lv_iload_n (pc := 12) hx hb dX6_at_12 rfl (lv_at hl 1 rfl) ?_
      refine lv_sipush (pc := 13) (v := 200) hx hb dX6_at_13 (by decide) ?_
      refine lv_icmp_ge (pc := 16) (tgt := 28) hx hb dX6_at_16 (by decide) (fun c4 => ?_) (fun c4 => ?_)
      · have hf := ipos c4 hf
        refine lv_iconst (pc := 28) (v := (-1)) hx hb dX6_at_28 (by decide) ?_
        cases hf
        exact J29_0 _ _ _ hw (lv_sub hl [] rfl)
      · have hf := ineg c4 hf
        refine lv_aload_n (pc := 19) hx hb dX6_at_19 rfl (lv_at hl 0 rfl) ?_
        refine x_get (pc := 20) X hw in_X6_at_X6 0 rfl rfl 0 (by decide) (List.mem_of_getElem? (i := 2) rfl) rfl dX6_at_20 ?_
        refine lv_iload_n (pc := 23) hx hb dX6_at_23 rfl (lv_at hl 1 rfl) ?_
        obtain ⟨v5, ev5, hf⟩ := b1_ob hf
        refine x_iald (pc := 24) X hw 1 0 rfl rfl ev5 dX6_at_24 ?_
        refine lv_goto (pc := 25) (tgt := 29) hx hb dX6_at_25 (by decide) ?_
        cases hf
        exact J29_0 _ _ _ hw (lv_sub hl [] rfl)

theorem in_X6_add_X6 : ∀ w ∈ wsX60, w ∈ wsX6_add := fun _ h => List.mem_cons_of_mem _ (List.mem_append_right _ h)
abbrev rmX6_add : Room := { frames := 0, cells := 0, slots := 0, locals := 0 }
def f_X6_add (S : PS) (p1 : Int32) : Option (PS) :=
  b1 (
    if 200 ≤ (S.1 1) then
      some S
    else
    b1 (wA 200 S 0 (S.1 1) p1) fun S3 =>
    bn (sI S3 1 ((S3.1 1) + 1)) fun S4 =>
    some S4) fun S1 =>
  some S1
set_option maxHeartbeats 4000000 in
set_option maxRecDepth 100000 in
theorem c_X6_add (l : Launch) (D : va_G) (cs : CS) (a : Nat) (q : Nat → Nat) (S : PS) (p1 : Int32) (S' : PS) (hf : f_X6_add S p1 = some S') : CT l D (TY cs) yX6_add wsX6_add rmX6_add [.ref a, .int p1] (wX6 cs a q S) none (wX6 cs a q S') := by
  refine CT.ofW (own := RX6) (cc := cX6_add) (maxL := 2) (ret := none) (by decide) rfl rfl (Nat.le_of_ble_eq_true rfl) ?_
  intro p e s m args below meth c A Q X hret ls hl hw
  obtain ⟨hx, hb, hml, hown, hts, hK, hA, hr, hlk⟩ := id X
  have hl : lv_has ls 2 [(0, .ref a), (1, .int p1)] := hl
  unfold f_X6_add at hf
  refine lv_aload_n (pc := 0) hx hb dX6_add_0 rfl (lv_at hl 0 rfl) ?_
  refine x_get (pc := 1) X hw in_X6_add_X6 0 rfl rfl 1 (by decide) (List.mem_of_getElem? (i := 1) rfl) rfl dX6_add_1 ?_
  refine lv_sipush (pc := 4) (v := 200) hx hb dX6_add_4 (by decide) ?_
  obtain ⟨S1, hj, hf⟩ := b1_ob hf
  have J30_0 : ∀ (H : Heap) (locs : List Loc) (ls : Array Slot), WD D A s (wX6 cs a q S1) H locs → lv_has ls 2 [] → W p l e rmX6_add s m args below meth c H locs 0 0 Q (F0 m 30 ls []) := by
    intro H locs ls hw hl
    cases hf
    exact hret _ _ 30 _ hw rfl dX6_add_30
  clear hf; have hf := hj; clear hj
  refine lv_icmp_ge (pc := 7) (tgt := 30) hx hb dX6_add_7 (by decide) (fun c2 => ?_) (fun c2 => ?_)
  · have hf := ipos c2 hf
    cases hf
    exact J30_0 _ _ _ hw (lv_sub hl [] rfl)
  · have hf := ineg c2 hf
    refine lv_aload_n (pc := 10) hx hb dX6_add_10 rfl (lv_at hl 0 rfl) ?_
    refine x_get (pc := 11) X hw in_X6_add_X6 0 rfl rfl 0 (by decide) (List.mem_of_getElem? (i := 2) rfl) rfl dX6_add_11 ?_
    refine lv_aload_n (pc := 14) hx hb dX6_add_14 rfl (lv_at hl 0 rfl) ?_
    refine x_get (pc := 15) X hw in_X6_add_X6 0 rfl rfl 1 (by decide) (List.mem_of_getElem? (i := 1) rfl) rfl dX6_add_15 ?_
    refine lv_iload_n (pc := 18) hx hb dX6_add_18 rfl (lv_at hl 1 rfl) ?_
    obtain ⟨S3, eS3, hf⟩ := b1_ob hf
    refine x_iast (pc := 19) X hw 1 0 rfl rfl (wA_ob eS3).1 dX6_add_19 (ws2 := wX6 cs a q S3) (by rw [(wA_ob eS3).2]; rfl) (fun H locs hw => ?_)
    refine lv_aload_n (pc := 20) hx hb dX6_add_20 rfl (lv_at hl 0 rfl) ?_
    refine lv_dup (pc := 21) hx hb dX6_add_21 rfl ?_
    refine x_get (pc := 22) X hw in_X6_add_X6 0 rfl rfl 1 (by decide) (List.mem_of_getElem? (i := 1) rfl) rfl dX6_add_22 ?_
    refine lv_iconst (pc := 25) (v := 1) hx hb dX6_add_25 (by decide) ?_
    refine lv_iadd (pc := 26) hx hb dX6_add_26 ?_
    obtain ⟨S4, eS4, hf⟩ := bn_ob hf
    refine x_put (pc := 27) X hw in_X6_add_X6 tyX6 tyX6_ok nmX6 0 rfl rfl 1 (by decide) (List.mem_of_getElem? (i := 1) rfl) rfl rfl rfl (Nat.le_of_ble_eq_true rfl) dX6_add_27 (ws2 := wX6 cs a q S4) (by rw [eS4]; rfl) (fun H locs hw => ?_)
    cases hf
    exact J30_0 _ _ _ hw (lv_sub hl [] rfl)
