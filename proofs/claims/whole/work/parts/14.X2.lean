theorem in_X2_clear_X2 : ∀ w ∈ wsX20, w ∈ wsX2_clear := fun _ h => List.mem_cons_of_mem _ (List.mem_append_right _ h)
abbrev rmX2_clear : Room := { frames := 0, cells := 0, slots := 0, locals := 0 }
def f_X2_clear (S : PS) : Option (PS) :=
  bn (sI S 0 0) fun S1 =>
  bn (sI S1 4 0) fun S2 =>
  bn (sI S2 5 1) fun S3 =>
  bn (sI S3 10 0) fun S4 =>
  some S4
set_option maxHeartbeats 4000000 in
set_option maxRecDepth 100000 in
theorem c_X2_clear (l : Launch) (D : va_G) (cs : CS) (a : Nat) (q : Nat → Nat) (S : PS) (S' : PS) (hf : f_X2_clear S = some S') : CT l D (TY cs) yX2_clear wsX2_clear rmX2_clear [.ref a] (wX2 cs a q S) none (wX2 cs a q S') := by
  refine CT.ofW (own := RX2) (cc := cX2_clear) (maxL := 1) (ret := none) (by decide) rfl rfl (Nat.le_of_ble_eq_true rfl) ?_
  intro p e s m args below meth c A Q X hret ls hl hw
  obtain ⟨hx, hb, hml, hown, hts, hK, hA, hr, hlk⟩ := id X
  have hl : lv_has ls 1 [(0, .ref a)] := hl
  unfold f_X2_clear at hf
  refine lv_aload_n (pc := 0) hx hb dX2_clear_0 rfl (lv_at hl 0 rfl) ?_
  refine lv_iconst (pc := 1) (v := 0) hx hb dX2_clear_1 (by decide) ?_
  obtain ⟨S1, eS1, hf⟩ := bn_ob hf
  refine x_put (pc := 2) X hw in_X2_clear_X2 tyX2 tyX2_ok nmX2 0 rfl rfl 0 (by decide) (List.mem_of_getElem? (i := 1) rfl) rfl rfl rfl (Nat.le_of_ble_eq_true rfl) dX2_clear_2 (ws2 := wX2 cs a q S1) (by rw [eS1]; rfl) (fun H locs hw => ?_)
  refine lv_aload_n (pc := 5) hx hb dX2_clear_5 rfl (lv_at hl 0 rfl) ?_
  refine lv_iconst (pc := 6) (v := 0) hx hb dX2_clear_6 (by decide) ?_
  obtain ⟨S2, eS2, hf⟩ := bn_ob hf
  refine x_put (pc := 7) X hw in_X2_clear_X2 tyX2 tyX2_ok nmX2 0 rfl rfl 4 (by decide) (List.mem_of_getElem? (i := 2) rfl) rfl rfl rfl (Nat.le_of_ble_eq_true rfl) dX2_clear_7 (ws2 := wX2 cs a q S2) (by rw [eS2]; rfl) (fun H locs hw => ?_)
  refine lv_aload_n (pc := 10) hx hb dX2_clear_10 rfl (lv_at hl 0 rfl) ?_
  refine lv_iconst (pc := 11) (v := 1) hx hb dX2_clear_11 (by decide) ?_
  obtain ⟨S3, eS3, hf⟩ := bn_ob hf
  refine x_put (pc := 12) X hw in_X2_clear_X2 tyX2 tyX2_ok nmX2 0 rfl rfl 5 (by decide) (List.mem_of_getElem? (i := 3) rfl) rfl rfl rfl (Nat.le_of_ble_eq_true rfl) dX2_clear_12 (ws2 := wX2 cs a q S3) (by rw [eS3]; rfl) (fun H locs hw => ?_)
  refine lv_aload_n (pc := 15) hx hb dX2_clear_15 rfl (lv_at hl 0 rfl) ?_
  refine lv_iconst (pc := 16) (v := 0) hx hb dX2_clear_16 (by decide) ?_
  obtain ⟨S4, eS4, hf⟩ := bn_ob hf
  refine x_put (pc := 17) X hw in_X2_clear_X2 tyX2 tyX2_ok nmX2 0 rfl rfl 10 (by decide) (List.mem_of_getElem? (i := 4) rfl) rfl rfl rfl (Nat.le_of_ble_eq_true rfl) dX2_clear_17 (ws2 := wX2 cs a q S4) (by rw [eS4]; rfl) (fun H locs hw => ?_)
  cases hf
  exact hret _ _ 20 _ hw rfl dX2_clear_20

abbrev rmX2_operandCount : Room := { frames := 0, cells := 0, slots := 0, locals := 0 }
def f_X2_operandCount (p1 : Int32) : Option (Int32) :=
  if p1 = 7 then
    some 3
  else
  b1 (
    if p1 = 3 then
      some (2 : Int32)
    else
    if p1 = 4 then
      some (2 : Int32)
    else
    if p1 = 5 then
      some (2 : Int32)
    else
    if p1 = 6 then
      some (2 : Int32)
    else
    some (1 : Int32)) fun v2 =>
  some v2
set_option maxHeartbeats 4000000 in
set_option maxRecDepth 100000 in
theorem c_X2_operandCount (l : Launch) (D : va_G) (cs : CS) (p1 : Int32) (r : Int32) (hf : f_X2_operandCount p1 = some r) : CT l D (TY cs) yX2_operandCount wsX2_operandCount rmX2_operandCount [.int p1] ([]) (some (.int r)) ([]) := by
  refine CT.ofW (own := RX2) (cc := cX2_operandCount) (maxL := 1) (ret := some .int) (by decide) rfl rfl (Nat.le_of_ble_eq_true rfl) ?_
  intro p e s m args below meth c A Q X hret ls hl hw
  obtain ⟨hx, hb, hml, hown, hts, hK, hA, hr, hlk⟩ := id X
  have hl : lv_has ls 1 [(0, .int p1)] := hl
  unfold f_X2_operandCount at hf
  refine lv_iload_n (pc := 0) hx hb dX2_operandCount_0 rfl (lv_at hl 0 rfl) ?_
  refine lv_bipush (pc := 1) (v := 7) hx hb dX2_operandCount_1 (by decide) ?_
  refine lv_icmp_ne (pc := 3) (tgt := 8) hx hb dX2_operandCount_3 (by decide) (fun c1 => ?_) (fun c1 => ?_)
  · have hf := ineg c1 hf
    refine lv_iload_n (pc := 8) hx hb dX2_operandCount_8 rfl (lv_at hl 0 rfl) ?_
    refine lv_iconst (pc := 9) (v := 3) hx hb dX2_operandCount_9 (by decide) ?_
    obtain ⟨v2, hj, hf⟩ := b1_ob hf
    have J34_1 : ∀ (H : Heap) (locs : List Loc) (ls : Array Slot), WD D A s ([]) H locs → lv_has ls 1 [] → W p l e rmX2_operandCount s m args below meth c H locs 0 0 Q (F0 m 34 ls [.int v2]) := by
      intro H locs ls hw hl
      cases hf
      exact hret _ _ 34 _ hw ⟨_, rfl, rfl⟩ dX2_operandCount_34
    clear hf; have hf := hj; clear hj
    refine lv_icmp_eq (pc := 10) (tgt := 29) hx hb dX2_operandCount_10 (by decide) (fun c3 => ?_) (fun c3 => ?_)
    · have hf := ipos c3 hf
      refine lv_iconst (pc := 29) (v := 2) hx hb dX2_operandCount_29 (by decide) ?_
      refine lv_goto (pc := 30) (tgt := 34) hx hb dX2_operandCount_30 (by decide) ?_
      cases hf
      exact J34_1 _ _ _ hw (lv_sub hl [] rfl)
    · have hf := ineg c3 hf
      refine lv_iload_n (pc := 13) hx hb dX2_operandCount_13 rfl (lv_at hl 0 rfl) ?_
      refine lv_iconst (pc := 14) (v := 4) hx hb dX2_operandCount_14 (by decide) ?_
      refine lv_icmp_eq (pc := 15) (tgt := 29) hx hb dX2_operandCount_15 (by decide) (fun c4 => ?_) (fun c4 => ?_)
      · have hf := ipos c4 hf
        refine lv_iconst (pc := 29) (v := 2) hx hb dX2_operandCount_29 (by decide) ?_
        refine lv_goto (pc := 30) (tgt := 34) hx hb dX2_operandCount_30 (by decide) ?_
        cases hf
        exact J34_1 _ _ _ hw (lv_sub hl [] rfl)
      · have hf := ineg c4 hf
        refine lv_iload_n (pc := 18) hx hb dX2_operandCount_18 rfl (lv_at hl 0 rfl) ?_
        refine lv_iconst (pc := 19) (v := 5) hx hb dX2_operandCount_19 (by decide) ?_
        refine lv_icmp_eq (pc := 20) (tgt := 29) hx hb dX2_operandCount_20 (by decide) (fun c5 => ?_) (fun c5 => ?_)
        · have hf := ipos c5 hf
          refine lv_iconst (pc := 29) (v := 2) hx hb dX2_operandCount_29 (by decide) ?_
          refine lv_goto (pc := 30) (tgt := 34) hx hb dX2_operandCount_30 (by decide) ?_
          cases hf
          exact J34_1 _ _ _ hw (lv_sub hl [] rfl)
        · have hf := ineg c5 hf
          refine lv_iload_n (pc := 23) hx hb dX2_operandCount_23 rfl (lv_at hl 0 rfl) ?_
          refine lv_bipush (pc := 24) (v := 6) hx hb dX2_operandCount_24 (by decide) ?_
          refine lv_icmp_ne (pc := 26) (tgt := 33) hx hb dX2_operandCount_26 (by decide) (fun c6 => ?_) (fun c6 => ?_)
          · have hf := ineg c6 hf
            refine lv_iconst (pc := 33) (v := 1) hx hb dX2_operandCount_33 (by decide) ?_
            cases hf
            exact J34_1 _ _ _ hw (lv_sub hl [] rfl)
          · have hf := ipos c6 hf
            refine lv_iconst (pc := 29) (v := 2) hx hb dX2_operandCount_29 (by decide) ?_
            refine lv_goto (pc := 30) (tgt := 34) hx hb dX2_operandCount_30 (by decide) ?_
            cases hf
            exact J34_1 _ _ _ hw (lv_sub hl [] rfl)
  · have hf := ipos c1 hf
    refine lv_iconst (pc := 6) (v := 3) hx hb dX2_operandCount_6 (by decide) ?_
    cases hf
    exact hret _ _ 7 _ hw ⟨_, rfl, rfl⟩ dX2_operandCount_7

abbrev rmX2_leastOperand : Room := { frames := 0, cells := 0, slots := 0, locals := 0 }
def f_X2_leastOperand (p1 : Int32) : Option (Int32) :=
  b1 (
    if p1 = 0 then
      some (2 : Int32)
    else
    some (0 : Int32)) fun v1 =>
  some v1
set_option maxHeartbeats 4000000 in
set_option maxRecDepth 100000 in
theorem c_X2_leastOperand (l : Launch) (D : va_G) (cs : CS) (p1 : Int32) (r : Int32) (hf : f_X2_leastOperand p1 = some r) : CT l D (TY cs) yX2_leastOperand wsX2_leastOperand rmX2_leastOperand [.int p1] ([]) (some (.int r)) ([]) := by
  refine CT.ofW (own := RX2) (cc := cX2_leastOperand) (maxL := 1) (ret := some .int) (by decide) rfl rfl (Nat.le_of_ble_eq_true rfl) ?_
  intro p e s m args below meth c A Q X hret ls hl hw
  obtain ⟨hx, hb, hml, hown, hts, hK, hA, hr, hlk⟩ := id X
  have hl : lv_has ls 1 [(0, .int p1)] := hl
  unfold f_X2_leastOperand at hf
  refine lv_iload_n (pc := 0) hx hb dX2_leastOperand_0 rfl (lv_at hl 0 rfl) ?_
  obtain ⟨v1, hj, hf⟩ := b1_ob hf
  have J9_0 : ∀ (H : Heap) (locs : List Loc) (ls : Array Slot), WD D A s ([]) H locs → lv_has ls 1 [] → W p l e rmX2_leastOperand s m args below meth c H locs 0 0 Q (F0 m 9 ls [.int v1]) := by
    intro H locs ls hw hl
    cases hf
    exact hret _ _ 9 _ hw ⟨_, rfl, rfl⟩ dX2_leastOperand_9
  clear hf; have hf := hj; clear hj
  refine lv_if_ne (pc := 1) (tgt := 8) hx hb dX2_leastOperand_1 (by decide) (fun c2 => ?_) (fun c2 => ?_)
  · have hf := ineg c2 hf
    refine lv_iconst (pc := 8) (v := 0) hx hb dX2_leastOperand_8 (by decide) ?_
    cases hf
    exact J9_0 _ _ _ hw (lv_sub hl [] rfl)
  · have hf := ipos c2 hf
    refine lv_iconst (pc := 4) (v := 2) hx hb dX2_leastOperand_4 (by decide) ?_
    refine lv_goto (pc := 5) (tgt := 9) hx hb dX2_leastOperand_5 (by decide) ?_
    cases hf
    exact J9_0 _ _ _ hw (lv_sub hl [] rfl)

abbrev rmX2_greatestOperand : Room := { frames := 0, cells := 0, slots := 0, locals := 0 }
def f_X2_greatestOperand (p1 : Int32) : Option (Int32) :=
  if p1 = 0 then
    some 8
  else
  if p1 = 1 then
    some 4
  else
  if p1 = 2 then
    some 15
  else
  some 7
set_option maxHeartbeats 4000000 in
set_option maxRecDepth 100000 in
theorem c_X2_greatestOperand (l : Launch) (D : va_G) (cs : CS) (p1 : Int32) (r : Int32) (hf : f_X2_greatestOperand p1 = some r) : CT l D (TY cs) yX2_greatestOperand wsX2_greatestOperand rmX2_greatestOperand [.int p1] ([]) (some (.int r)) ([]) := by
  refine CT.ofW (own := RX2) (cc := cX2_greatestOperand) (maxL := 1) (ret := some .int) (by decide) rfl rfl (Nat.le_of_ble_eq_true rfl) ?_
  intro p e s m args below meth c A Q X hret ls hl hw
  obtain ⟨hx, hb, hml, hown, hts, hK, hA, hr, hlk⟩ := id X
  have hl : lv_has ls 1 [(0, .int p1)] := hl
  unfold f_X2_greatestOperand at hf
  refine lv_iload_n (pc := 0) hx hb dX2_greatestOperand_0 rfl (lv_at hl 0 rfl) ?_
  by_cases c1 : p1 = 0
  · have hf := ipos c1 hf
    refine lv_tableIn (pc := 1) (tgt := 28) hx hb dX2_greatestOperand_1 (by rw [c1]; decide) (by rw [c1]; decide) (off := 27) (by rw [c1]; decide) (by decide) ?_
    refine lv_bipush (pc := 28) (v := 8) hx hb dX2_greatestOperand_28 (by decide) ?_
    cases hf
    exact hret _ _ 30 _ hw ⟨_, rfl, rfl⟩ dX2_greatestOperand_30
  replace hf := ineg c1 hf
  by_cases c2 : p1 = 1
  · have hf := ipos c2 hf
    refine lv_tableIn (pc := 1) (tgt := 31) hx hb dX2_greatestOperand_1 (by rw [c2]; decide) (by rw [c2]; decide) (off := 30) (by rw [c2]; decide) (by decide) ?_
    refine lv_iconst (pc := 31) (v := 4) hx hb dX2_greatestOperand_31 (by decide) ?_
    cases hf
    exact hret _ _ 32 _ hw ⟨_, rfl, rfl⟩ dX2_greatestOperand_32
  replace hf := ineg c2 hf
  by_cases c3 : p1 = 2
  · have hf := ipos c3 hf
    refine lv_tableIn (pc := 1) (tgt := 33) hx hb dX2_greatestOperand_1 (by rw [c3]; decide) (by rw [c3]; decide) (off := 32) (by rw [c3]; decide) (by decide) ?_
    refine lv_bipush (pc := 33) (v := 15) hx hb dX2_greatestOperand_33 (by decide) ?_
    cases hf
    exact hret _ _ 35 _ hw ⟨_, rfl, rfl⟩ dX2_greatestOperand_35
  replace hf := ineg c3 hf
  refine lv_tableOut (pc := 1) (tgt := 36) hx hb dX2_greatestOperand_1 (by have zc1 := lv_neT (a := 0) c1 (by decide); have zc2 := lv_neT (a := 1) c2 (by decide); have zc3 := lv_neT (a := 2) c3 (by decide); omega) (by decide) ?_
  refine lv_bipush (pc := 36) (v := 7) hx hb dX2_greatestOperand_36 (by decide) ?_
  cases hf
  exact hret _ _ 38 _ hw ⟨_, rfl, rfl⟩ dX2_greatestOperand_38

theorem in_X2_addLine_X2 : ∀ w ∈ wsX20, w ∈ wsX2_addLine := fun _ h => List.mem_cons_of_mem _ (List.mem_append_right _ h)
abbrev rmX2_addLine : Room := { frames := 0, cells := 0, slots := 0, locals := 0 }
def f_X2_addLine (S : PS) (p1 : Int32) (p2 : Int32) : Option (PS) :=
  b1 (
    if 20 ≤ (S.1 0) then
      some S
    else
    b1 (wA 20 S 1 (S.1 0) p1) fun S3 =>
    b1 (wA 20 S3 2 (S3.1 0) p2) fun S4 =>
    bn (sI S4 0 ((S4.1 0) + 1)) fun S5 =>
    some S5) fun S1 =>
  some S1
set_option maxHeartbeats 4000000 in
set_option maxRecDepth 100000 in
theorem c_X2_addLine (l : Launch) (D : va_G) (cs : CS) (a : Nat) (q : Nat → Nat) (S : PS) (p1 : Int32) (p2 : Int32) (S' : PS) (hf : f_X2_addLine S p1 p2 = some S') : CT l D (TY cs) yX2_addLine wsX2_addLine rmX2_addLine [.ref a, .int p1, .int p2] (wX2 cs a q S) none (wX2 cs a q S') := by
  refine CT.ofW (own := RX2) (cc := cX2_addLine) (maxL := 3) (ret := none) (by decide) rfl rfl (Nat.le_of_ble_eq_true rfl) ?_
  intro p e s m args below meth c A Q X hret ls hl hw
  obtain ⟨hx, hb, hml, hown, hts, hK, hA, hr, hlk⟩ := id X
  have hl : lv_has ls 3 [(0, .ref a), (1, .int p1), (2, .int p2)] := hl
  unfold f_X2_addLine at hf
  refine lv_aload_n (pc := 0) hx hb dX2_addLine_0 rfl (lv_at hl 0 rfl) ?_
  refine x_get (pc := 1) X hw in_X2_addLine_X2 0 rfl rfl 0 (by decide) (List.mem_of_getElem? (i := 1) rfl) rfl dX2_addLine_1 ?_
  refine lv_bipush (pc := 4) (v := 20) hx hb dX2_addLine_4 (by decide) ?_
  obtain ⟨S1, hj, hf⟩ := b1_ob hf
  have J39_0 : ∀ (H : Heap) (locs : List Loc) (ls : Array Slot), WD D A s (wX2 cs a q S1) H locs → lv_has ls 3 [] → W p l e rmX2_addLine s m args below meth c H locs 0 0 Q (F0 m 39 ls []) := by
    intro H locs ls hw hl
    cases hf
    exact hret _ _ 39 _ hw rfl dX2_addLine_39
  clear hf; have hf := hj; clear hj
  refine lv_icmp_ge (pc := 6) (tgt := 39) hx hb dX2_addLine_6 (by decide) (fun c2 => ?_) (fun c2 => ?_)
  · have hf := ipos c2 hf
    cases hf
    exact J39_0 _ _ _ hw (lv_sub hl [] rfl)
  · have hf := ineg c2 hf
    refine lv_aload_n (pc := 9) hx hb dX2_addLine_9 rfl (lv_at hl 0 rfl) ?_
    refine x_get (pc := 10) X hw in_X2_addLine_X2 0 rfl rfl 1 (by decide) (List.mem_of_getElem? (i := 2) rfl) rfl dX2_addLine_10 ?_
    refine lv_aload_n (pc := 13) hx hb dX2_addLine_13 rfl (lv_at hl 0 rfl) ?_
    refine x_get (pc := 14) X hw in_X2_addLine_X2 0 rfl rfl 0 (by decide) (List.mem_of_getElem? (i := 1) rfl) rfl dX2_addLine_14 ?_
    refine lv_iload_n (pc := 17) hx hb dX2_addLine_17 rfl (lv_at hl 1 rfl) ?_
    obtain ⟨S3, eS3, hf⟩ := b1_ob hf
    refine x_iast (pc := 18) X hw 1 0 rfl rfl (wA_ob eS3).1 dX2_addLine_18 (ws2 := wX2 cs a q S3) (by rw [(wA_ob eS3).2]; rfl) (fun H locs hw => ?_)
    refine lv_aload_n (pc := 19) hx hb dX2_addLine_19 rfl (lv_at hl 0 rfl) ?_
    refine x_get (pc := 20) X hw in_X2_addLine_X2 0 rfl rfl 2 (by decide) (List.mem_of_getElem? (i := 3) rfl) rfl dX2_addLine_20 ?_
    refine lv_aload_n (pc := 23) hx hb dX2_addLine_23 rfl (lv_at hl 0 rfl) ?_
    refine x_get (pc := 24) X hw in_X2_addLine_X2 0 rfl rfl 0 (by decide) (List.mem_of_getElem? (i := 1) rfl) rfl dX2_addLine_24 ?_
    refine lv_iload_n (pc := 27) hx hb dX2_addLine_27 rfl (lv_at hl 2 rfl) ?_
    obtain ⟨S4, eS4, hf⟩ := b1_ob hf
    refine x_iast (pc := 28) X hw 2 0 rfl rfl (wA_ob eS4).1 dX2_addLine_28 (ws2 := wX2 cs a q S4) (by rw [(wA_ob eS4).2]; rfl) (fun H locs hw => ?_)
    refine lv_aload_n (pc := 29) hx hb dX2_addLine_29 rfl (lv_at hl 0 rfl) ?_
    refine lv_dup (pc := 30) hx hb dX2_addLine_30 rfl ?_
    refine x_get (pc := 31) X hw in_X2_addLine_X2 0 rfl rfl 0 (by decide) (List.mem_of_getElem? (i := 1) rfl) rfl dX2_addLine_31 ?_
    refine lv_iconst (pc := 34) (v := 1) hx hb dX2_addLine_34 (by decide) ?_
    refine lv_iadd (pc := 35) hx hb dX2_addLine_35 ?_
    obtain ⟨S5, eS5, hf⟩ := bn_ob hf
    refine x_put (pc := 36) X hw in_X2_addLine_X2 tyX2 tyX2_ok nmX2 0 rfl rfl 0 (by decide) (List.mem_of_getElem? (i := 1) rfl) rfl rfl rfl (Nat.le_of_ble_eq_true rfl) dX2_addLine_36 (ws2 := wX2 cs a q S5) (by rw [eS5]; rfl) (fun H locs hw => ?_)
    cases hf
    exact J39_0 _ _ _ hw (lv_sub hl [] rfl)

theorem in_X2_addDraw_X2 : ∀ w ∈ wsX20, w ∈ wsX2_addDraw := fun _ h => List.mem_cons_of_mem _ (List.mem_append_right _ h)
abbrev rmX2_addDraw : Room := { frames := 0, cells := 0, slots := 0, locals := 0 }
def f_X2_addDraw (S : PS) (p1 : Int32) : Option (Int32 × PS) :=
  if 64 < ((S.1 5) * p1) then
    some (0, S)
  else
  if (S.1 4) < 6 then
    b1 (wA 6 S 6 (S.1 4) p1) fun S3 =>
    bn (sI S3 4 ((S3.1 4) + 1)) fun S4 =>
    bn (sI S4 5 ((S4.1 5) * p1)) fun S5 =>
    some (1, S5)
  else
  some (0, S)
set_option maxHeartbeats 4000000 in
set_option maxRecDepth 100000 in
theorem c_X2_addDraw (l : Launch) (D : va_G) (cs : CS) (a : Nat) (q : Nat → Nat) (S : PS) (p1 : Int32) (r : Int32) (S' : PS) (hf : f_X2_addDraw S p1 = some (r, S')) : CT l D (TY cs) yX2_addDraw wsX2_addDraw rmX2_addDraw [.ref a, .int p1] (wX2 cs a q S) (some (.int r)) (wX2 cs a q S') := by
  refine CT.ofW (own := RX2) (cc := cX2_addDraw) (maxL := 2) (ret := some .boolean) (by decide) rfl rfl (Nat.le_of_ble_eq_true rfl) ?_
  intro p e s m args below meth c A Q X hret ls hl hw
  obtain ⟨hx, hb, hml, hown, hts, hK, hA, hr, hlk⟩ := id X
  have hl : lv_has ls 2 [(0, .ref a), (1, .int p1)] := hl
  unfold f_X2_addDraw at hf
  refine lv_aload_n (pc := 0) hx hb dX2_addDraw_0 rfl (lv_at hl 0 rfl) ?_
  refine x_get (pc := 1) X hw in_X2_addDraw_X2 0 rfl rfl 5 (by decide) (List.mem_of_getElem? (i := 1) rfl) rfl dX2_addDraw_1 ?_
  refine lv_iload_n (pc := 4) hx hb dX2_addDraw_4 rfl (lv_at hl 1 rfl) ?_
  refine lv_imul (pc := 5) hx hb dX2_addDraw_5 ?_
  refine lv_bipush (pc := 6) (v := 64) hx hb dX2_addDraw_6 (by decide) ?_
  refine lv_icmp_gt (pc := 8) (tgt := 20) hx hb dX2_addDraw_8 (by decide) (fun c1 => ?_) (fun c1 => ?_)
  · have hf := ipos c1 hf
    refine lv_iconst (pc := 20) (v := 0) hx hb dX2_addDraw_20 (by decide) ?_
    cases hf
    exact hret _ _ 21 _ hw ⟨_, rfl, by decide⟩ dX2_addDraw_21
  · have hf := ineg c1 hf
    refine lv_aload_n (pc := 11) hx hb dX2_addDraw_11 rfl (lv_at hl 0 rfl) ?_
    refine x_get (pc := 12) X hw in_X2_addDraw_X2 0 rfl rfl 4 (by decide) (List.mem_of_getElem? (i := 2) rfl) rfl dX2_addDraw_12 ?_
    refine lv_bipush (pc := 15) (v := 6) hx hb dX2_addDraw_15 (by decide) ?_
    refine lv_icmp_lt (pc := 17) (tgt := 22) hx hb dX2_addDraw_17 (by decide) (fun c2 => ?_) (fun c2 => ?_)
    · have hf := ipos c2 hf
      refine lv_aload_n (pc := 22) hx hb dX2_addDraw_22 rfl (lv_at hl 0 rfl) ?_
      refine x_get (pc := 23) X hw in_X2_addDraw_X2 0 rfl rfl 6 (by decide) (List.mem_of_getElem? (i := 3) rfl) rfl dX2_addDraw_23 ?_
      refine lv_aload_n (pc := 26) hx hb dX2_addDraw_26 rfl (lv_at hl 0 rfl) ?_
      refine x_get (pc := 27) X hw in_X2_addDraw_X2 0 rfl rfl 4 (by decide) (List.mem_of_getElem? (i := 2) rfl) rfl dX2_addDraw_27 ?_
      refine lv_iload_n (pc := 30) hx hb dX2_addDraw_30 rfl (lv_at hl 1 rfl) ?_
      obtain ⟨S3, eS3, hf⟩ := b1_ob hf
      refine x_iast (pc := 31) X hw 4 0 rfl rfl (wA_ob eS3).1 dX2_addDraw_31 (ws2 := wX2 cs a q S3) (by rw [(wA_ob eS3).2]; rfl) (fun H locs hw => ?_)
      refine lv_aload_n (pc := 32) hx hb dX2_addDraw_32 rfl (lv_at hl 0 rfl) ?_
      refine lv_dup (pc := 33) hx hb dX2_addDraw_33 rfl ?_
      refine x_get (pc := 34) X hw in_X2_addDraw_X2 0 rfl rfl 4 (by decide) (List.mem_of_getElem? (i := 2) rfl) rfl dX2_addDraw_34 ?_
      refine lv_iconst (pc := 37) (v := 1) hx hb dX2_addDraw_37 (by decide) ?_
      refine lv_iadd (pc := 38) hx hb dX2_addDraw_38 ?_
      obtain ⟨S4, eS4, hf⟩ := bn_ob hf
      refine x_put (pc := 39) X hw in_X2_addDraw_X2 tyX2 tyX2_ok nmX2 0 rfl rfl 4 (by decide) (List.mem_of_getElem? (i := 2) rfl) rfl rfl rfl (Nat.le_of_ble_eq_true rfl) dX2_addDraw_39 (ws2 := wX2 cs a q S4) (by rw [eS4]; rfl) (fun H locs hw => ?_)
      refine lv_aload_n (pc := 42) hx hb dX2_addDraw_42 rfl (lv_at hl 0 rfl) ?_
      refine lv_dup (pc := 43) hx hb dX2_addDraw_43 rfl ?_
      refine x_get (pc := 44) X hw in_X2_addDraw_X2 0 rfl rfl 5 (by decide) (List.mem_of_getElem? (i := 1) rfl) rfl dX2_addDraw_44 ?_
      refine lv_iload_n (pc := 47) hx hb dX2_addDraw_47 rfl (lv_at hl 1 rfl) ?_
      refine lv_imul (pc := 48) hx hb dX2_addDraw_48 ?_
      obtain ⟨S5, eS5, hf⟩ := bn_ob hf
      refine x_put (pc := 49) X hw in_X2_addDraw_X2 tyX2 tyX2_ok nmX2 0 rfl rfl 5 (by decide) (List.mem_of_getElem? (i := 1) rfl) rfl rfl rfl (Nat.le_of_ble_eq_true rfl) dX2_addDraw_49 (ws2 := wX2 cs a q S5) (by rw [eS5]; rfl) (fun H locs hw => ?_)
      refine lv_iconst (pc := 52) (v := 1) hx hb dX2_addDraw_52 (by decide) ?_
      cases hf
      exact hret _ _ 53 _ hw ⟨_, rfl, by decide⟩ dX2_addDraw_53
    · have hf := ineg c2 hf
      refine lv_iconst (pc := 20) (v := 0) hx hb dX2_addDraw_20 (by decide) ?_
      cases hf
      exact hret _ _ 21 _ hw ⟨_, rfl, by decide⟩ dX2_addDraw_21

theorem in_X2_setOperand_X2 : ∀ w ∈ wsX20, w ∈ wsX2_setOperand := fun _ h => List.mem_cons_of_mem _ (List.mem_append_right _ h)
abbrev rmX2_setOperand : Room := { frames := 1, cells := 0, slots := 0, locals := 21 }
def f_X2_setOperand (S : PS) (p1 : Int32) (p2 : Int32) : Option (Int32 × PS) :=
  if (S.1 0) < 1 then
    some (0, S)
  else
  if 20 < (S.1 0) then
    some (0, S)
  else
  if p1 < 0 then
    some (0, S)
  else
  if p1 < 3 then
    bn ((S.1 0) - 1) fun v5 =>
    b1 (rdI 20 (S.2.1 1) v5) fun v6 =>
    if v6 = 0 then
      b1 (wA 60 S 3 (3 * v5) (S.1 4)) fun S8 =>
      b2 (f_X2_addDraw S8 p2) fun v9 S10 =>
      b1 (ckB v9) fun v11 =>
      some (v11, S10)
    else
    b1 (wA 60 S 3 ((3 * v5) + p1) p2) fun S12 =>
    some (1, S12)
  else
  some (0, S)
set_option maxHeartbeats 4000000 in
set_option maxRecDepth 100000 in
theorem c_X2_setOperand (l : Launch) (D : va_G) (cs : CS) (a : Nat) (q : Nat → Nat) (S : PS) (p1 : Int32) (p2 : Int32) (r : Int32) (S' : PS) (hf : f_X2_setOperand S p1 p2 = some (r, S')) : CT l D (TY cs) yX2_setOperand wsX2_setOperand rmX2_setOperand [.ref a, .int p1, .int p2] (wX2 cs a q S) (some (.int r)) (wX2 cs a q S') := by
  refine CT.ofW (own := RX2) (cc := cX2_setOperand) (maxL := 4) (ret := some .boolean) (by decide) rfl rfl (Nat.le_of_ble_eq_true rfl) ?_
  intro p e s m args below meth c A Q X hret ls hl hw
  obtain ⟨hx, hb, hml, hown, hts, hK, hA, hr, hlk⟩ := id X
  have hl : lv_has ls 4 [(0, .ref a), (1, .int p1), (2, .int p2)] := hl
  unfold f_X2_setOperand at hf
  refine lv_aload_n (pc := 0) hx hb dX2_setOperand_0 rfl (lv_at hl 0 rfl) ?_
  refine x_get (pc := 1) X hw in_X2_setOperand_X2 0 rfl rfl 0 (by decide) (List.mem_of_getElem? (i := 1) rfl) rfl dX2_setOperand_1 ?_
  refine lv_iconst (pc := 4) (v := 1) hx hb dX2_setOperand_4 (by decide) ?_
  refine lv_icmp_lt (pc := 5) (tgt := 26) hx hb dX2_setOperand_5 (by decide) (fun c1 => ?_) (fun c1 => ?_)
  · have hf := ipos c1 hf
    refine lv_iconst (pc := 26) (v := 0) hx hb dX2_setOperand_26 (by decide) ?_
    cases hf
    exact hret _ _ 27 _ hw ⟨_, rfl, by decide⟩ dX2_setOperand_27
  · have hf := ineg c1 hf
    refine lv_aload_n (pc := 8) hx hb dX2_setOperand_8 rfl (lv_at hl 0 rfl) ?_
    refine x_get (pc := 9) X hw in_X2_setOperand_X2 0 rfl rfl 0 (by decide) (List.mem_of_getElem? (i := 1) rfl) rfl dX2_setOperand_9 ?_
    refine lv_bipush (pc := 12) (v := 20) hx hb dX2_setOperand_12 (by decide) ?_
    refine lv_icmp_gt (pc := 14) (tgt := 26) hx hb dX2_setOperand_14 (by decide) (fun c2 => ?_) (fun c2 => ?_)
    · have hf := ipos c2 hf
      refine lv_iconst (pc := 26) (v := 0) hx hb dX2_setOperand_26 (by decide) ?_
      cases hf
      exact hret _ _ 27 _ hw ⟨_, rfl, by decide⟩ dX2_setOperand_27
    · have hf := ineg c2 hf
      refine lv_iload_n (pc := 17) hx hb dX2_setOperand_17 rfl (lv_at hl 1 rfl) ?_
      refine lv_if_lt (pc := 18) (tgt := 26) hx hb dX2_setOperand_18 (by decide) (fun c3 => ?_) (fun c3 => ?_)
      · have hf := ipos c3 hf
        refine lv_iconst (pc := 26) (v := 0) hx hb dX2_setOperand_26 (by decide) ?_
        cases hf
        exact hret _ _ 27 _ hw ⟨_, rfl, by decide⟩ dX2_setOperand_27
      · have hf := ineg c3 hf
        refine lv_iload_n (pc := 21) hx hb dX2_setOperand_21 rfl (lv_at hl 1 rfl) ?_
        refine lv_iconst (pc := 22) (v := 3) hx hb dX2_setOperand_22 (by decide) ?_
        refine lv_icmp_lt (pc := 23) (tgt := 28) hx hb dX2_setOperand_23 (by decide) (fun c4 => ?_) (fun c4 => ?_)
        · have hf := ipos c4 hf
          refine lv_aload_n (pc := 28) hx hb dX2_setOperand_28 rfl (lv_at hl 0 rfl) ?_
          refine x_get (pc := 29) X hw in_X2_setOperand_X2 0 rfl rfl 0 (by decide) (List.mem_of_getElem? (i := 1) rfl) rfl dX2_setOperand_29 ?_
          refine lv_iconst (pc := 32) (v := 1) hx hb dX2_setOperand_32 (by decide) ?_
          refine lv_isub (pc := 33) hx hb dX2_setOperand_33 ?_
          obtain ⟨v5, ev5, hf⟩ := bn_ob hf
          refine x_topi ev5 ?_
          refine lv_istore_n (lv' := [(3, .int v5), (0, .ref a), (1, .int p1), (2, .int p2)]) (pc := 34) hx hb dX2_setOperand_34 rfl hl (by decide) rfl (fun ls hl => ?_)
          refine lv_aload_n (pc := 35) hx hb dX2_setOperand_35 rfl (lv_at hl 1 rfl) ?_
          refine x_get (pc := 36) X hw in_X2_setOperand_X2 0 rfl rfl 1 (by decide) (List.mem_of_getElem? (i := 2) rfl) rfl dX2_setOperand_36 ?_
          refine lv_iload_n (pc := 39) hx hb dX2_setOperand_39 rfl (lv_at hl 0 rfl) ?_
          obtain ⟨v6, ev6, hf⟩ := b1_ob hf
          refine x_iald (pc := 40) X hw 1 0 rfl rfl ev6 dX2_setOperand_40 ?_
          refine lv_if_eq (pc := 41) (tgt := 57) hx hb dX2_setOperand_41 (by decide) (fun c7 => ?_) (fun c7 => ?_)
          · have hf := ipos c7 hf
            refine lv_aload_n (pc := 57) hx hb dX2_setOperand_57 rfl (lv_at hl 1 rfl) ?_
            refine x_get (pc := 58) X hw in_X2_setOperand_X2 0 rfl rfl 3 (by decide) (List.mem_of_getElem? (i := 3) rfl) rfl dX2_setOperand_58 ?_
            refine lv_iconst (pc := 61) (v := 3) hx hb dX2_setOperand_61 (by decide) ?_
            refine lv_iload_n (pc := 62) hx hb dX2_setOperand_62 rfl (lv_at hl 0 rfl) ?_
            refine lv_imul (pc := 63) hx hb dX2_setOperand_63 ?_
            refine lv_aload_n (pc := 64) hx hb dX2_setOperand_64 rfl (lv_at hl 1 rfl) ?_
            refine x_get (pc := 65) X hw in_X2_setOperand_X2 0 rfl rfl 4 (by decide) (List.mem_of_getElem? (i := 4) rfl) rfl dX2_setOperand_65 ?_
            obtain ⟨S8, eS8, hf⟩ := b1_ob hf
            refine x_iast (pc := 68) X hw 3 0 rfl rfl (wA_ob eS8).1 dX2_setOperand_68 (ws2 := wX2 cs a q S8) (by rw [(wA_ob eS8).2]; rfl) (fun H locs hw => ?_)
            refine lv_aload_n (pc := 69) hx hb dX2_setOperand_69 rfl (lv_at hl 1 rfl) ?_
            refine lv_iload_n (pc := 70) hx hb dX2_setOperand_70 rfl (lv_at hl 3 rfl) ?_
            obtain ⟨v9, S10, hc, hf⟩ := b2_ob hf
            refine x_all (pc := 71) X hw (va_runV (As := [.int p2]) (rest := []) ⟨hx, hb, hml, hown, hts⟩ (c_X2_addDraw l D cs a q S8 p2 v9 S10 hc _) (cwV 1 hts gX2_setOperand_X2_addDraw rfl rfl rfl (by decide +kernel) ⟨Nat.le_of_ble_eq_true rfl, Nat.le_of_ble_eq_true rfl⟩) ⟨CP_blind, va_recv hK hw.1 (ci := 2) (q0 := 0) rfl rfl, x_preA X hw [.ref a, .int p2]⟩ rfl rfl hl.1 rfl (lv_room (Nat.le_of_ble_eq_true rfl)) dX2_setOperand_71 ⟨Nat.zero_le _, Nat.zero_le _⟩) (fun H locs hw => ?_)
            obtain ⟨v11, ev11, hf⟩ := b1_ob hf
            refine x_topi (ckB_ob ev11).1.symm ?_
            cases hf
            exact hret _ _ 74 _ hw ⟨_, rfl, ckB_nar (ckB_ob ev11).2⟩ dX2_setOperand_74
          · have hf := ineg c7 hf
            refine lv_aload_n (pc := 44) hx hb dX2_setOperand_44 rfl (lv_at hl 1 rfl) ?_
            refine x_get (pc := 45) X hw in_X2_setOperand_X2 0 rfl rfl 3 (by decide) (List.mem_of_getElem? (i := 3) rfl) rfl dX2_setOperand_45 ?_
            refine lv_iconst (pc := 48) (v := 3) hx hb dX2_setOperand_48 (by decide) ?_
            refine lv_iload_n (pc := 49) hx hb dX2_setOperand_49 rfl (lv_at hl 0 rfl) ?_
            refine lv_imul (pc := 50) hx hb dX2_setOperand_50 ?_
            refine lv_iload_n (pc := 51) hx hb dX2_setOperand_51 rfl (lv_at hl 2 rfl) ?_
            refine lv_iadd (pc := 52) hx hb dX2_setOperand_52 ?_
            refine lv_iload_n (pc := 53) hx hb dX2_setOperand_53 rfl (lv_at hl 3 rfl) ?_
            obtain ⟨S12, eS12, hf⟩ := b1_ob hf
            refine x_iast (pc := 54) X hw 3 0 rfl rfl (wA_ob eS12).1 dX2_setOperand_54 (ws2 := wX2 cs a q S12) (by rw [(wA_ob eS12).2]; rfl) (fun H locs hw => ?_)
            refine lv_iconst (pc := 55) (v := 1) hx hb dX2_setOperand_55 (by decide) ?_
            cases hf
            exact hret _ _ 56 _ hw ⟨_, rfl, by decide⟩ dX2_setOperand_56
        · have hf := ineg c4 hf
          refine lv_iconst (pc := 26) (v := 0) hx hb dX2_setOperand_26 (by decide) ?_
          cases hf
          exact hret _ _ 27 _ hw ⟨_, rfl, by decide⟩ dX2_setOperand_27

theorem in_X2_spreadRow_X2 : ∀ w ∈ wsX20, w ∈ wsX2_spreadRow := fun _ h => List.mem_cons_of_mem _ (List.mem_append_right _ h)
abbrev rmX2_spreadRow : Room := { frames := 0, cells := 0, slots := 0, locals := 0 }
def B_X2_spreadRow_9 (v2 : Int32) (v3 : Int32) (S4 : PS) : Option ((Int32 × Int32 × PS) ⊕ (PS)) :=
  if v3 < 0 then
    some (.inr S4)
  else
  b1 (rdI 6 (S4.2.1 6) v3) fun v6 =>
  b2 (
    if v6 ≤ 0 then
      some (v2, S4)
    else
    b1 (rmI v2 v6) fun v10 =>
    b1 (wA 6 S4 7 v3 v10) fun S11 =>
    b1 (dvI v2 v6) fun v12 =>
    some (v12, S11)) fun v7 S8 =>
  bn (v3 + (-1)) fun v13 =>
  some (.inl (v7, v13, S8))
def L_X2_spreadRow_9 (n : Nat) (v2 : Int32) (v3 : Int32) (S4 : PS) : Option (PS) := loopF (fun x : Int32 × Int32 × PS => B_X2_spreadRow_9 x.1 x.2.1 x.2.2) n (v2, v3, S4)
def f_X2_spreadRow (S : PS) (p1 : Int32) : Option (PS) :=
  bn ((S.1 4) - 1) fun v1 =>
  b1 (L_X2_spreadRow_9 FU p1 v1 S) fun S14 =>
  some S14
set_option maxHeartbeats 4000000 in
set_option maxRecDepth 100000 in
theorem c_X2_spreadRow (l : Launch) (D : va_G) (cs : CS) (a : Nat) (q : Nat → Nat) (S : PS) (p1 : Int32) (S' : PS) (hf : f_X2_spreadRow S p1 = some S') : CT l D (TY cs) yX2_spreadRow wsX2_spreadRow rmX2_spreadRow [.ref a, .int p1] (wX2 cs a q S) none (wX2 cs a q S') := by
  refine CT.ofW (own := RX2) (cc := cX2_spreadRow) (maxL := 5) (ret := none) (by decide) rfl rfl (Nat.le_of_ble_eq_true rfl) ?_
  intro p e s m args below meth c A Q X hret ls hl hw
  obtain ⟨hx, hb, hml, hown, hts, hK, hA, hr, hlk⟩ := id X
  have hl : lv_has ls 5 [(0, .ref a), (1, .int p1)] := hl
  unfold f_X2_spreadRow at hf
  refine lv_iload_n (pc := 0) hx hb dX2_spreadRow_0 rfl (lv_at hl 1 rfl) ?_
  refine lv_istore_n (lv' := [(2, .int p1), (0, .ref a), (1, .int p1)]) (pc := 1) hx hb dX2_spreadRow_1 rfl hl (by decide) rfl (fun ls hl => ?_)
  refine lv_aload_n (pc := 2) hx hb dX2_spreadRow_2 rfl (lv_at hl 1 rfl) ?_
  refine x_get (pc := 3) X hw in_X2_spreadRow_X2 0 rfl rfl 4 (by decide) (List.mem_of_getElem? (i := 1) rfl) rfl dX2_spreadRow_3 ?_
  refine lv_iconst (pc := 6) (v := 1) hx hb dX2_spreadRow_6 (by decide) ?_
  refine lv_isub (pc := 7) hx hb dX2_spreadRow_7 ?_
  obtain ⟨v1, ev1, hf⟩ := bn_ob hf
  refine x_topi ev1 ?_
  refine lv_istore_n (lv' := [(3, .int v1), (2, .int p1), (0, .ref a), (1, .int p1)]) (pc := 8) hx hb dX2_spreadRow_8 rfl hl (by decide) rfl (fun ls hl => ?_)
  have L9 : ∀ (n : Nat) (v2 : Int32) (v3 : Int32) (S4 : PS) (rS4 : PS), L_X2_spreadRow_9 n v2 v3 S4 = some rS4 → ∀ (H : Heap) (locs : List Loc) (ls : Array Slot), WD D A s (wX2 cs a q S4) H locs → lv_has ls 5 [(0, .ref a), (2, .int v2), (3, .int v3)] → (∀ (H : Heap) (locs : List Loc) (ls : Array Slot), WD D A s (wX2 cs a q rS4) H locs → lv_has ls 5 [] → W p l e rmX2_spreadRow s m args below meth c H locs 0 0 Q (F0 m 47 ls [])) → W p l e rmX2_spreadRow s m args below meth c H locs 0 0 Q (F0 m 9 ls []) := by
    intro n
    induction n with
    | zero => intro v2 v3 S4 rS4 hf; exact (loopF_z hf).elim
    | succ n ih =>
      intro v2 v3 S4 rS4 hf H locs ls hw hl K
      obtain ⟨x, hf, hx0⟩ := loopF_ob hf
      have hf : B_X2_spreadRow_9 v2 v3 S4 = some x := hf
      unfold B_X2_spreadRow_9 at hf
      refine lv_iload_n (pc := 9) hx hb dX2_spreadRow_9 rfl (lv_at hl 2 rfl) ?_
      refine lv_if_lt (pc := 10) (tgt := 47) hx hb dX2_spreadRow_10 (by decide) (fun c5 => ?_) (fun c5 => ?_)
      · have hf := ipos c5 hf
        cases hf
        cases (hx0 : S4 = rS4)
        exact K _ _ _ hw (lv_sub hl [] rfl)
      · have hf := ineg c5 hf
        refine lv_aload_n (pc := 13) hx hb dX2_spreadRow_13 rfl (lv_at hl 0 rfl) ?_
        refine x_get (pc := 14) X hw in_X2_spreadRow_X2 0 rfl rfl 6 (by decide) (List.mem_of_getElem? (i := 2) rfl) rfl dX2_spreadRow_14 ?_
        refine lv_iload_n (pc := 17) hx hb dX2_spreadRow_17 rfl (lv_at hl 2 rfl) ?_
        obtain ⟨v6, ev6, hf⟩ := b1_ob hf
        refine x_iald (pc := 18) X hw 4 0 rfl rfl ev6 dX2_spreadRow_18 ?_
        refine lv_istore (lv' := [(4, .int v6), (0, .ref a), (2, .int v2), (3, .int v3)]) (pc := 19) hx hb dX2_spreadRow_19 hl (by decide) rfl (fun ls hl => ?_)
        refine lv_iload (pc := 21) hx hb dX2_spreadRow_21 (lv_at hl 0 rfl) ?_
        obtain ⟨v7, S8, hj, hf⟩ := b2_ob hf
        have J41_6 : ∀ (H : Heap) (locs : List Loc) (ls : Array Slot), WD D A s (wX2 cs a q S8) H locs → lv_has ls 5 [(0, .ref a), (2, .int v7), (3, .int v3)] → W p l e rmX2_spreadRow s m args below meth c H locs 0 0 Q (F0 m 41 ls []) := by
          intro H locs ls hw hl
          obtain ⟨v13, ev13, hf⟩ := bn_ob hf
          refine lv_iinc (pc := 41) (v := v13) (lv' := [(3, .int v13), (0, .ref a), (2, .int v7)]) hx hb dX2_spreadRow_41 hl (k := 2) rfl (by rw [ev13]; rfl) (by decide) rfl (fun ls hl => ?_)
          refine lv_goto (pc := 44) (tgt := 9) hx hb dX2_spreadRow_44 (by decide) ?_
          cases hf
          exact ih v7 v13 S8 rS4 hx0 _ _ _ hw (lv_sub hl [1, 2, 0] rfl) K
        clear hf; have hf := hj; clear hj
        refine lv_if_le (pc := 23) (tgt := 41) hx hb dX2_spreadRow_23 (by decide) (fun c9 => ?_) (fun c9 => ?_)
        · have hf := ipos c9 hf
          cases hf
          exact J41_6 _ _ _ hw (lv_sub hl [1, 2, 3] rfl)
        · have hf := ineg c9 hf
          refine lv_aload_n (pc := 26) hx hb dX2_spreadRow_26 rfl (lv_at hl 1 rfl) ?_
          refine x_get (pc := 27) X hw in_X2_spreadRow_X2 0 rfl rfl 7 (by decide) (List.mem_of_getElem? (i := 3) rfl) rfl dX2_spreadRow_27 ?_
          refine lv_iload_n (pc := 30) hx hb dX2_spreadRow_30 rfl (lv_at hl 3 rfl) ?_
          refine lv_iload_n (pc := 31) hx hb dX2_spreadRow_31 rfl (lv_at hl 2 rfl) ?_
          refine lv_iload (pc := 32) hx hb dX2_spreadRow_32 (lv_at hl 0 rfl) ?_
          obtain ⟨v10, ev10, hf⟩ := b1_ob hf
          refine lv_irem (pc := 34) hx hb dX2_spreadRow_34 (rmI_ob ev10).1 ?_
          refine x_topi (rmI_ob ev10).2.symm ?_
          obtain ⟨S11, eS11, hf⟩ := b1_ob hf
          refine x_iast (pc := 35) X hw 5 0 rfl rfl (wA_ob eS11).1 dX2_spreadRow_35 (ws2 := wX2 cs a q S11) (by rw [(wA_ob eS11).2]; rfl) (fun H locs hw => ?_)
          refine lv_iload_n (pc := 36) hx hb dX2_spreadRow_36 rfl (lv_at hl 2 rfl) ?_
          refine lv_iload (pc := 37) hx hb dX2_spreadRow_37 (lv_at hl 0 rfl) ?_
          obtain ⟨v12, ev12, hf⟩ := b1_ob hf
          refine lv_idiv (pc := 39) hx hb dX2_spreadRow_39 (dvI_ob ev12).1 ?_
          refine x_topi (dvI_ob ev12).2.symm ?_
          refine lv_istore_n (lv' := [(2, .int v12), (4, .int v6), (0, .ref a), (3, .int v3)]) (pc := 40) hx hb dX2_spreadRow_40 rfl hl (by decide) rfl (fun ls hl => ?_)
          cases hf
          exact J41_6 _ _ _ hw (lv_sub hl [2, 0, 3] rfl)
  obtain ⟨S14, hj, hf⟩ := b1_ob hf
  refine L9 _ p1 v1 S S14 hj _ _ _ hw (lv_sub hl [2, 1, 0] rfl) (fun H locs ls hw hl => ?_)
  clear hj L9
  cases hf
  exact hret _ _ 47 _ hw rfl dX2_spreadRow_47

theorem in_X2_joined_X2 : ∀ w ∈ wsX20, w ∈ wsX2_joined := fun _ h => List.mem_cons_of_mem _ (List.mem_append_right _ h)
abbrev rmX2_joined : Room := { frames := 0, cells := 0, slots := 0, locals := 0 }
def f_X2_joined (S : PS) (p1 : Int32) (p2 : Int32) : Option (Int32) :=
  b1 (rdI 60 (S.2.1 3) ((3 * p1) + 1)) fun v1 =>
  b1 (rdI 8 (S.2.1 8) v1) fun v2 =>
  b1 (rdI 20 (S.2.1 1) p1) fun v3 =>
  if v3 = 3 then
    some ((p2 + v2) &&& 15)
  else
  if v3 = 4 then
    some ((p2 * v2) &&& 15)
  else
  if v3 = 5 then
    some (p2 ^^^ v2)
  else
  if v3 = 6 then
    b1 (
      if v2 ≤ p2 then
        some (0 : Int32)
      else
      some (1 : Int32)) fun v8 =>
    some v8
  else
  b1 (
    if p2 = 0 then
      b1 (rdI 60 (S.2.1 3) ((3 * p1) + 2)) fun v12 =>
      b1 (rdI 8 (S.2.1 8) v12) fun v13 =>
      some v13
    else
    some v2) fun v10 =>
  some v10
set_option maxHeartbeats 4000000 in
set_option maxRecDepth 100000 in
theorem c_X2_joined (l : Launch) (D : va_G) (cs : CS) (a : Nat) (q : Nat → Nat) (S : PS) (p1 : Int32) (p2 : Int32) (r : Int32) (hf : f_X2_joined S p1 p2 = some r) : CT l D (TY cs) yX2_joined wsX2_joined rmX2_joined [.ref a, .int p1, .int p2] (wX2 cs a q S) (some (.int r)) (wX2 cs a q S) := by
  refine CT.ofW (own := RX2) (cc := cX2_joined) (maxL := 4) (ret := some .int) (by decide) rfl rfl (Nat.le_of_ble_eq_true rfl) ?_
  intro p e s m args below meth c A Q X hret ls hl hw
  obtain ⟨hx, hb, hml, hown, hts, hK, hA, hr, hlk⟩ := id X
  have hl : lv_has ls 4 [(0, .ref a), (1, .int p1), (2, .int p2)] := hl
  unfold f_X2_joined at hf
  refine lv_aload_n (pc := 0) hx hb dX2_joined_0 rfl (lv_at hl 0 rfl) ?_
  refine x_get (pc := 1) X hw in_X2_joined_X2 0 rfl rfl 8 (by decide) (List.mem_of_getElem? (i := 1) rfl) rfl dX2_joined_1 ?_
  refine lv_aload_n (pc := 4) hx hb dX2_joined_4 rfl (lv_at hl 0 rfl) ?_
  refine x_get (pc := 5) X hw in_X2_joined_X2 0 rfl rfl 3 (by decide) (List.mem_of_getElem? (i := 2) rfl) rfl dX2_joined_5 ?_
  refine lv_iconst (pc := 8) (v := 3) hx hb dX2_joined_8 (by decide) ?_
  refine lv_iload_n (pc := 9) hx hb dX2_joined_9 rfl (lv_at hl 1 rfl) ?_
  refine lv_imul (pc := 10) hx hb dX2_joined_10 ?_
  refine lv_iconst (pc := 11) (v := 1) hx hb dX2_joined_11 (by decide) ?_
  refine lv_iadd (pc := 12) hx hb dX2_joined_12 ?_
  obtain ⟨v1, ev1, hf⟩ := b1_ob hf
  refine x_iald (pc := 13) X hw 3 0 rfl rfl ev1 dX2_joined_13 ?_
  obtain ⟨v2, ev2, hf⟩ := b1_ob hf
  refine x_iald (pc := 14) X hw 6 0 rfl rfl ev2 dX2_joined_14 ?_
  refine lv_istore_n (lv' := [(3, .int v2), (0, .ref a), (1, .int p1), (2, .int p2)]) (pc := 15) hx hb dX2_joined_15 rfl hl (by decide) rfl (fun ls hl => ?_)
  refine lv_aload_n (pc := 16) hx hb dX2_joined_16 rfl (lv_at hl 1 rfl) ?_
  refine x_get (pc := 17) X hw in_X2_joined_X2 0 rfl rfl 1 (by decide) (List.mem_of_getElem? (i := 3) rfl) rfl dX2_joined_17 ?_
  refine lv_iload_n (pc := 20) hx hb dX2_joined_20 rfl (lv_at hl 2 rfl) ?_
  obtain ⟨v3, ev3, hf⟩ := b1_ob hf
  refine x_iald (pc := 21) X hw 1 0 rfl rfl ev3 dX2_joined_21 ?_
  by_cases c4 : v3 = 3
  · have hf := ipos c4 hf
    refine lv_tableIn (pc := 22) (tgt := 52) hx hb dX2_joined_22 (by rw [c4]; decide) (by rw [c4]; decide) (off := 30) (by rw [c4]; decide) (by decide) ?_
    refine lv_iload_n (pc := 52) hx hb dX2_joined_52 rfl (lv_at hl 3 rfl) ?_
    refine lv_iload_n (pc := 53) hx hb dX2_joined_53 rfl (lv_at hl 0 rfl) ?_
    refine lv_iadd (pc := 54) hx hb dX2_joined_54 ?_
    refine lv_bipush (pc := 55) (v := 15) hx hb dX2_joined_55 (by decide) ?_
    refine lv_iand (pc := 57) hx hb dX2_joined_57 ?_
    cases hf
    exact hret _ _ 58 _ hw ⟨_, rfl, rfl⟩ dX2_joined_58
  replace hf := ineg c4 hf
  by_cases c5 : v3 = 4
  · have hf := ipos c5 hf
    refine lv_tableIn (pc := 22) (tgt := 59) hx hb dX2_joined_22 (by rw [c5]; decide) (by rw [c5]; decide) (off := 37) (by rw [c5]; decide) (by decide) ?_
    refine lv_iload_n (pc := 59) hx hb dX2_joined_59 rfl (lv_at hl 3 rfl) ?_
    refine lv_iload_n (pc := 60) hx hb dX2_joined_60 rfl (lv_at hl 0 rfl) ?_
    refine lv_imul (pc := 61) hx hb dX2_joined_61 ?_
    refine lv_bipush (pc := 62) (v := 15) hx hb dX2_joined_62 (by decide) ?_
    refine lv_iand (pc := 64) hx hb dX2_joined_64 ?_
    cases hf
    exact hret _ _ 65 _ hw ⟨_, rfl, rfl⟩ dX2_joined_65
  replace hf := ineg c5 hf
  by_cases c6 : v3 = 5
  · have hf := ipos c6 hf
    refine lv_tableIn (pc := 22) (tgt := 66) hx hb dX2_joined_22 (by rw [c6]; decide) (by rw [c6]; decide) (off := 44) (by rw [c6]; decide) (by decide) ?_
    refine lv_iload_n (pc := 66) hx hb dX2_joined_66 rfl (lv_at hl 3 rfl) ?_
    refine lv_iload_n (pc := 67) hx hb dX2_joined_67 rfl (lv_at hl 0 rfl) ?_
    refine lv_ixor (pc := 68) hx hb dX2_joined_68 ?_
    cases hf
    exact hret _ _ 69 _ hw ⟨_, rfl, rfl⟩ dX2_joined_69
  replace hf := ineg c6 hf
  by_cases c7 : v3 = 6
  · have hf := ipos c7 hf
    refine lv_tableIn (pc := 22) (tgt := 70) hx hb dX2_joined_22 (by rw [c7]; decide) (by rw [c7]; decide) (off := 48) (by rw [c7]; decide) (by decide) ?_
    refine lv_iload_n (pc := 70) hx hb dX2_joined_70 rfl (lv_at hl 3 rfl) ?_
    refine lv_iload_n (pc := 71) hx hb dX2_joined_71 rfl (lv_at hl 0 rfl) ?_
    obtain ⟨v8, hj, hf⟩ := b1_ob hf
    have J80_7 : ∀ (H : Heap) (locs : List Loc) (ls : Array Slot), WD D A s (wX2 cs a q S) H locs → lv_has ls 4 [] → W p l e rmX2_joined s m args below meth c H locs 0 0 Q (F0 m 80 ls [.int v8]) := by
      intro H locs ls hw hl
      cases hf
      exact hret _ _ 80 _ hw ⟨_, rfl, rfl⟩ dX2_joined_80
    clear hf; have hf := hj; clear hj
    refine lv_icmp_ge (pc := 72) (tgt := 79) hx hb dX2_joined_72 (by decide) (fun c9 => ?_) (fun c9 => ?_)
    · have hf := ipos c9 hf
      refine lv_iconst (pc := 79) (v := 0) hx hb dX2_joined_79 (by decide) ?_
      cases hf
      exact J80_7 _ _ _ hw (lv_sub hl [] rfl)
    · have hf := ineg c9 hf
      refine lv_iconst (pc := 75) (v := 1) hx hb dX2_joined_75 (by decide) ?_
      refine lv_goto (pc := 76) (tgt := 80) hx hb dX2_joined_76 (by decide) ?_
      cases hf
      exact J80_7 _ _ _ hw (lv_sub hl [] rfl)
  replace hf := ineg c7 hf
  refine lv_tableOut (pc := 22) (tgt := 81) hx hb dX2_joined_22 (by have zc4 := lv_neT (a := 3) c4 (by decide); have zc5 := lv_neT (a := 4) c5 (by decide); have zc6 := lv_neT (a := 5) c6 (by decide); have zc7 := lv_neT (a := 6) c7 (by decide); omega) (by decide) ?_
  refine lv_iload_n (pc := 81) hx hb dX2_joined_81 rfl (lv_at hl 3 rfl) ?_
  obtain ⟨v10, hj, hf⟩ := b1_ob hf
  have J104_9 : ∀ (H : Heap) (locs : List Loc) (ls : Array Slot), WD D A s (wX2 cs a q S) H locs → lv_has ls 4 [] → W p l e rmX2_joined s m args below meth c H locs 0 0 Q (F0 m 104 ls [.int v10]) := by
    intro H locs ls hw hl
    cases hf
    exact hret _ _ 104 _ hw ⟨_, rfl, rfl⟩ dX2_joined_104
  clear hf; have hf := hj; clear hj
  refine lv_if_eq (pc := 82) (tgt := 89) hx hb dX2_joined_82 (by decide) (fun c11 => ?_) (fun c11 => ?_)
  · have hf := ipos c11 hf
    refine lv_aload_n (pc := 89) hx hb dX2_joined_89 rfl (lv_at hl 1 rfl) ?_
    refine x_get (pc := 90) X hw in_X2_joined_X2 0 rfl rfl 8 (by decide) (List.mem_of_getElem? (i := 1) rfl) rfl dX2_joined_90 ?_
    refine lv_aload_n (pc := 93) hx hb dX2_joined_93 rfl (lv_at hl 1 rfl) ?_
    refine x_get (pc := 94) X hw in_X2_joined_X2 0 rfl rfl 3 (by decide) (List.mem_of_getElem? (i := 2) rfl) rfl dX2_joined_94 ?_
    refine lv_iconst (pc := 97) (v := 3) hx hb dX2_joined_97 (by decide) ?_
    refine lv_iload_n (pc := 98) hx hb dX2_joined_98 rfl (lv_at hl 2 rfl) ?_
    refine lv_imul (pc := 99) hx hb dX2_joined_99 ?_
    refine lv_iconst (pc := 100) (v := 2) hx hb dX2_joined_100 (by decide) ?_
    refine lv_iadd (pc := 101) hx hb dX2_joined_101 ?_
    obtain ⟨v12, ev12, hf⟩ := b1_ob hf
    refine x_iald (pc := 102) X hw 3 0 rfl rfl ev12 dX2_joined_102 ?_
    obtain ⟨v13, ev13, hf⟩ := b1_ob hf
    refine x_iald (pc := 103) X hw 6 0 rfl rfl ev13 dX2_joined_103 ?_
    cases hf
    exact J104_9 _ _ _ hw (lv_sub hl [] rfl)
  · have hf := ineg c11 hf
    refine lv_iload_n (pc := 85) hx hb dX2_joined_85 rfl (lv_at hl 0 rfl) ?_
    refine lv_goto (pc := 86) (tgt := 104) hx hb dX2_joined_86 (by decide) ?_
    cases hf
    exact J104_9 _ _ _ hw (lv_sub hl [] rfl)

theorem in_X2_resultOf_X2 : ∀ w ∈ wsX20, w ∈ wsX2_resultOf := fun _ h => List.mem_cons_of_mem _ (List.mem_append_right _ h)
abbrev rmX2_resultOf : Room := { frames := 1, cells := 0, slots := 0, locals := 23 }
def f_X2_resultOf (S : PS) (p1 : Int32) (p2 : Int32) : Option (Int32) :=
  b1 (rdI 60 (S.2.1 3) (3 * p1)) fun v1 =>
  b1 (rdI 20 (S.2.1 1) p1) fun v2 =>
  if v2 = 0 then
    b1 (rdI 6 (S.2.1 7) v1) fun v4 =>
    some v4
  else
  if v2 = 1 then
    some ((p2 >>> (v1 &&& 31)) &&& 1)
  else
  if v2 = 2 then
    some v1
  else
  b1 (rdI 8 (S.2.1 8) v1) fun v7 =>
  b1 (f_X2_joined S p1 v7) fun v8 =>
  some v8
set_option maxHeartbeats 4000000 in
set_option maxRecDepth 100000 in
theorem c_X2_resultOf (l : Launch) (D : va_G) (cs : CS) (a : Nat) (q : Nat → Nat) (S : PS) (p1 : Int32) (p2 : Int32) (r : Int32) (hf : f_X2_resultOf S p1 p2 = some r) : CT l D (TY cs) yX2_resultOf wsX2_resultOf rmX2_resultOf [.ref a, .int p1, .int p2] (wX2 cs a q S) (some (.int r)) (wX2 cs a q S) := by
  refine CT.ofW (own := RX2) (cc := cX2_resultOf) (maxL := 4) (ret := some .int) (by decide) rfl rfl (Nat.le_of_ble_eq_true rfl) ?_
  intro p e s m args below meth c A Q X hret ls hl hw
  obtain ⟨hx, hb, hml, hown, hts, hK, hA, hr, hlk⟩ := id X
  have hl : lv_has ls 4 [(0, .ref a), (1, .int p1), (2, .int p2)] := hl
  unfold f_X2_resultOf at hf
  refine lv_aload_n (pc := 0) hx hb dX2_resultOf_0 rfl (lv_at hl 0 rfl) ?_
  refine x_get (pc := 1) X hw in_X2_resultOf_X2 0 rfl rfl 3 (by decide) (List.mem_of_getElem? (i := 1) rfl) rfl dX2_resultOf_1 ?_
  refine lv_iconst (pc := 4) (v := 3) hx hb dX2_resultOf_4 (by decide) ?_
  refine lv_iload_n (pc := 5) hx hb dX2_resultOf_5 rfl (lv_at hl 1 rfl) ?_
  refine lv_imul (pc := 6) hx hb dX2_resultOf_6 ?_
  obtain ⟨v1, ev1, hf⟩ := b1_ob hf
  refine x_iald (pc := 7) X hw 3 0 rfl rfl ev1 dX2_resultOf_7 ?_
  refine lv_istore_n (lv' := [(3, .int v1), (0, .ref a), (1, .int p1), (2, .int p2)]) (pc := 8) hx hb dX2_resultOf_8 rfl hl (by decide) rfl (fun ls hl => ?_)
  refine lv_aload_n (pc := 9) hx hb dX2_resultOf_9 rfl (lv_at hl 1 rfl) ?_
  refine x_get (pc := 10) X hw in_X2_resultOf_X2 0 rfl rfl 1 (by decide) (List.mem_of_getElem? (i := 2) rfl) rfl dX2_resultOf_10 ?_
  refine lv_iload_n (pc := 13) hx hb dX2_resultOf_13 rfl (lv_at hl 2 rfl) ?_
  obtain ⟨v2, ev2, hf⟩ := b1_ob hf
  refine x_iald (pc := 14) X hw 1 0 rfl rfl ev2 dX2_resultOf_14 ?_
  by_cases c3 : v2 = 0
  · have hf := ipos c3 hf
    refine lv_tableIn (pc := 15) (tgt := 40) hx hb dX2_resultOf_15 (by rw [c3]; decide) (by rw [c3]; decide) (off := 25) (by rw [c3]; decide) (by decide) ?_
    refine lv_aload_n (pc := 40) hx hb dX2_resultOf_40 rfl (lv_at hl 1 rfl) ?_
    refine x_get (pc := 41) X hw in_X2_resultOf_X2 0 rfl rfl 7 (by decide) (List.mem_of_getElem? (i := 3) rfl) rfl dX2_resultOf_41 ?_
    refine lv_iload_n (pc := 44) hx hb dX2_resultOf_44 rfl (lv_at hl 0 rfl) ?_
    obtain ⟨v4, ev4, hf⟩ := b1_ob hf
    refine x_iald (pc := 45) X hw 5 0 rfl rfl ev4 dX2_resultOf_45 ?_
    cases hf
    exact hret _ _ 46 _ hw ⟨_, rfl, rfl⟩ dX2_resultOf_46
  replace hf := ineg c3 hf
  by_cases c5 : v2 = 1
  · have hf := ipos c5 hf
    refine lv_tableIn (pc := 15) (tgt := 47) hx hb dX2_resultOf_15 (by rw [c5]; decide) (by rw [c5]; decide) (off := 32) (by rw [c5]; decide) (by decide) ?_
    refine lv_iload_n (pc := 47) hx hb dX2_resultOf_47 rfl (lv_at hl 3 rfl) ?_
    refine lv_iload_n (pc := 48) hx hb dX2_resultOf_48 rfl (lv_at hl 0 rfl) ?_
    refine lv_ishr (pc := 49) hx hb dX2_resultOf_49 ?_
    refine lv_iconst (pc := 50) (v := 1) hx hb dX2_resultOf_50 (by decide) ?_
    refine lv_iand (pc := 51) hx hb dX2_resultOf_51 ?_
    cases hf
    exact hret _ _ 52 _ hw ⟨_, rfl, rfl⟩ dX2_resultOf_52
  replace hf := ineg c5 hf
  by_cases c6 : v2 = 2
  · have hf := ipos c6 hf
    refine lv_tableIn (pc := 15) (tgt := 53) hx hb dX2_resultOf_15 (by rw [c6]; decide) (by rw [c6]; decide) (off := 38) (by rw [c6]; decide) (by decide) ?_
    refine lv_iload_n (pc := 53) hx hb dX2_resultOf_53 rfl (lv_at hl 0 rfl) ?_
    cases hf
    exact hret _ _ 54 _ hw ⟨_, rfl, rfl⟩ dX2_resultOf_54
  replace hf := ineg c6 hf
  refine lv_tableOut (pc := 15) (tgt := 55) hx hb dX2_resultOf_15 (by have zc3 := lv_neT (a := 0) c3 (by decide); have zc5 := lv_neT (a := 1) c5 (by decide); have zc6 := lv_neT (a := 2) c6 (by decide); omega) (by decide) ?_
  refine lv_aload_n (pc := 55) hx hb dX2_resultOf_55 rfl (lv_at hl 1 rfl) ?_
  refine lv_iload_n (pc := 56) hx hb dX2_resultOf_56 rfl (lv_at hl 2 rfl) ?_
  refine lv_aload_n (pc := 57) hx hb dX2_resultOf_57 rfl (lv_at hl 1 rfl) ?_
  refine x_get (pc := 58) X hw in_X2_resultOf_X2 0 rfl rfl 8 (by decide) (List.mem_of_getElem? (i := 4) rfl) rfl dX2_resultOf_58 ?_
  refine lv_iload_n (pc := 61) hx hb dX2_resultOf_61 rfl (lv_at hl 0 rfl) ?_
  obtain ⟨v7, ev7, hf⟩ := b1_ob hf
  refine x_iald (pc := 62) X hw 6 0 rfl rfl ev7 dX2_resultOf_62 ?_
  obtain ⟨v8, hc, hf⟩ := b1_ob hf
  refine x_all (pc := 63) X hw (va_runV (As := [.int p1, .int v7]) (rest := []) ⟨hx, hb, hml, hown, hts⟩ (c_X2_joined l D cs a q S p1 v7 v8 hc _) (cwV 2 hts gX2_resultOf_X2_joined rfl rfl rfl (by decide +kernel) ⟨Nat.le_of_ble_eq_true rfl, Nat.le_of_ble_eq_true rfl⟩) ⟨CP_blind, va_recv hK hw.1 (ci := 2) (q0 := 0) rfl rfl, x_preA X hw [.ref a, .int p1, .int v7]⟩ rfl rfl hl.1 rfl (lv_room (Nat.le_of_ble_eq_true rfl)) dX2_resultOf_63 ⟨Nat.zero_le _, Nat.zero_le _⟩) (fun H locs hw => ?_)
  cases hf
  exact hret _ _ 66 _ hw ⟨_, rfl, rfl⟩ dX2_resultOf_66

theorem in_X2_outOf_X2 : ∀ w ∈ wsX20, w ∈ wsX2_outOf := fun _ h => List.mem_cons_of_mem _ (List.mem_append_right _ h)
abbrev rmX2_outOf : Room := { frames := 2, cells := 0, slots := 0, locals := 46 }
def B_X2_outOf_18 (p1 : Int32) (v4 : Int32) (v5 : Int32) (S6 : PS) : Option ((Int32 × Int32 × PS) ⊕ (Int32 × PS)) :=
  if (S6.1 0) ≤ v5 then
    some (.inr (v4, S6))
  else
  b1 (rdI 20 (S6.2.1 1) v5) fun v8 =>
  b2 (
    if v8 = 8 then
      b1 (rdI 60 (S6.2.1 3) (3 * v5)) fun v15 =>
      b1 (rdI 8 (S6.2.1 8) v15) fun v16 =>
      some (v16, S6)
    else
    b1 (rdI 20 (S6.2.1 2) v5) fun v12 =>
    b1 (f_X2_resultOf S6 v5 p1) fun v13 =>
    b1 (wA 8 S6 8 v12 v13) fun S14 =>
    some (v4, S14)) fun v9 S10 =>
  bn (v5 + 1) fun v17 =>
  some (.inl (v9, v17, S10))
def L_X2_outOf_18 (p1 : Int32) (n : Nat) (v4 : Int32) (v5 : Int32) (S6 : PS) : Option (Int32 × PS) := loopF (fun x : Int32 × Int32 × PS => B_X2_outOf_18 p1 x.1 x.2.1 x.2.2) n (v4, v5, S6)
def f_X2_outOf (S : PS) (p1 : Int32) (p2 : Int32) : Option (Int32 × PS) :=
  b1 (f_X2_spreadRow S p2) fun S1 =>
  b1 (f_J7_fill_53178 8 (S1.2.1 8) 0) fun f2 =>
  bn (sA S1 8 f2) fun S3 =>
  b2 (L_X2_outOf_18 p1 FU 0 0 S3) fun v18 S19 =>
  some (v18, S19)
set_option maxHeartbeats 4000000 in
set_option maxRecDepth 100000 in
theorem c_X2_outOf (l : Launch) (D : va_G) (cs : CS) (a : Nat) (q : Nat → Nat) (S : PS) (p1 : Int32) (p2 : Int32) (r : Int32) (S' : PS) (hf : f_X2_outOf S p1 p2 = some (r, S')) : CT l D (TY cs) yX2_outOf wsX2_outOf rmX2_outOf [.ref a, .int p1, .int p2] (wX2 cs a q S) (some (.int r)) (wX2 cs a q S') := by
  refine CT.ofW (own := RX2) (cc := cX2_outOf) (maxL := 5) (ret := some .int) (by decide) rfl rfl (Nat.le_of_ble_eq_true rfl) ?_
  intro p e s m args below meth c A Q X hret ls hl hw
  obtain ⟨hx, hb, hml, hown, hts, hK, hA, hr, hlk⟩ := id X
  have hl : lv_has ls 5 [(0, .ref a), (1, .int p1), (2, .int p2)] := hl
  unfold f_X2_outOf at hf
  refine lv_aload_n (pc := 0) hx hb dX2_outOf_0 rfl (lv_at hl 0 rfl) ?_
  refine lv_iload_n (pc := 1) hx hb dX2_outOf_1 rfl (lv_at hl 2 rfl) ?_
  obtain ⟨S1, hc, hf⟩ := b1_ob hf
  refine x_all (pc := 2) X hw (va_runV (As := [.int p2]) (rest := []) ⟨hx, hb, hml, hown, hts⟩ (c_X2_spreadRow l D cs a q S p2 S1 hc _) (cwV 1 hts gX2_outOf_X2_spreadRow rfl rfl rfl (by decide +kernel) ⟨Nat.le_of_ble_eq_true rfl, Nat.le_of_ble_eq_true rfl⟩) ⟨CP_blind, va_recv hK hw.1 (ci := 2) (q0 := 0) rfl rfl, x_preA X hw [.ref a, .int p2]⟩ rfl rfl hl.1 rfl (lv_room (Nat.le_of_ble_eq_true rfl)) dX2_outOf_2 ⟨Nat.zero_le _, Nat.zero_le _⟩) (fun H locs hw => ?_)
  refine lv_aload_n (pc := 5) hx hb dX2_outOf_5 rfl (lv_at hl 0 rfl) ?_
  refine x_get (pc := 6) X hw in_X2_outOf_X2 0 rfl rfl 8 (by decide) (List.mem_of_getElem? (i := 1) rfl) rfl dX2_outOf_6 ?_
  refine lv_iconst (pc := 9) (v := 0) hx hb dX2_outOf_9 (by decide) ?_
  obtain ⟨f2, hc, hf⟩ := b1_ob hf
  obtain ⟨S3, eS3, hf⟩ := bn_ob hf
  refine x_cut (pc := 10) (wr := ([0, 1, 2, 3, 4, 5, 7].filterMap (fun i => (wX2 cs a q S1)[i]?))) (ws2 := wX2 cs a q S3) X hw [6] [0, 1, 2, 3, 4, 5, 7] [0, 1, 2, 3, 4, 5, 7, 6] rfl rfl (by decide) (by decide) (by rw [eS3]; rfl) (by decide) (va_runS (As := [.ref (q 8), .int 0]) (rest := []) ⟨hx, hb, hml, hown, hts⟩ (c_J7_fill_53178 l D cs (q 8) 8 (S1.2.1 8) 0 f2 hc _) (va_cwS 2 hts gX2_outOf_J7_fill_53178 rfl rfl rfl (by decide +kernel) ⟨Nat.le_of_ble_eq_true rfl, Nat.le_of_ble_eq_true rfl⟩) ⟨CP_blind, x_preC X hw [6] rfl (by decide) [.ref (q 8), .int 0]⟩ rfl rfl hl.1 rfl (lv_room (Nat.le_of_ble_eq_true rfl)) dX2_outOf_10 ⟨Nat.zero_le _, Nat.zero_le _⟩) (fun H locs hw => ?_)
  refine lv_iconst (pc := 13) (v := 0) hx hb dX2_outOf_13 (by decide) ?_
  refine lv_istore_n (lv' := [(3, .int 0), (0, .ref a), (1, .int p1), (2, .int p2)]) (pc := 14) hx hb dX2_outOf_14 rfl hl (by decide) rfl (fun ls hl => ?_)
  refine lv_iconst (pc := 15) (v := 0) hx hb dX2_outOf_15 (by decide) ?_
  refine lv_istore (lv' := [(4, .int 0), (3, .int 0), (0, .ref a), (1, .int p1), (2, .int p2)]) (pc := 16) hx hb dX2_outOf_16 hl (by decide) rfl (fun ls hl => ?_)
  have L18 : ∀ (n : Nat) (v4 : Int32) (v5 : Int32) (S6 : PS) (rv4 : Int32) (rS6 : PS), L_X2_outOf_18 p1 n v4 v5 S6 = some (rv4, rS6) → ∀ (H : Heap) (locs : List Loc) (ls : Array Slot), WD D A s (wX2 cs a q S6) H locs → lv_has ls 5 [(0, .ref a), (1, .int p1), (3, .int v4), (4, .int v5)] → (∀ (H : Heap) (locs : List Loc) (ls : Array Slot), WD D A s (wX2 cs a q rS6) H locs → lv_has ls 5 [(3, .int rv4)] → W p l e rmX2_outOf s m args below meth c H locs 0 0 Q (F0 m 82 ls [])) → W p l e rmX2_outOf s m args below meth c H locs 0 0 Q (F0 m 18 ls []) := by
    intro n
    induction n with
    | zero => intro v4 v5 S6 rv4 rS6 hf; exact (loopF_z hf).elim
    | succ n ih =>
      intro v4 v5 S6 rv4 rS6 hf H locs ls hw hl K
      obtain ⟨x, hf, hx0⟩ := loopF_ob hf
      have hf : B_X2_outOf_18 p1 v4 v5 S6 = some x := hf
      unfold B_X2_outOf_18 at hf
      refine lv_iload (pc := 18) hx hb dX2_outOf_18 (lv_at hl 3 rfl) ?_
      refine lv_aload_n (pc := 20) hx hb dX2_outOf_20 rfl (lv_at hl 0 rfl) ?_
      refine x_get (pc := 21) X hw in_X2_outOf_X2 0 rfl rfl 0 (by decide) (List.mem_of_getElem? (i := 2) rfl) rfl dX2_outOf_21 ?_
      refine lv_icmp_ge (pc := 24) (tgt := 82) hx hb dX2_outOf_24 (by decide) (fun c7 => ?_) (fun c7 => ?_)
      · have hf := ipos c7 hf
        cases hf
        cases (hx0 : (v4, S6) = (rv4, rS6))
        exact K _ _ _ hw (lv_sub hl [2] rfl)
      · have hf := ineg c7 hf
        refine lv_aload_n (pc := 27) hx hb dX2_outOf_27 rfl (lv_at hl 0 rfl) ?_
        refine x_get (pc := 28) X hw in_X2_outOf_X2 0 rfl rfl 1 (by decide) (List.mem_of_getElem? (i := 3) rfl) rfl dX2_outOf_28 ?_
        refine lv_iload (pc := 31) hx hb dX2_outOf_31 (lv_at hl 3 rfl) ?_
        obtain ⟨v8, ev8, hf⟩ := b1_ob hf
        refine x_iald (pc := 33) X hw 1 0 rfl rfl ev8 dX2_outOf_33 ?_
        refine lv_bipush (pc := 34) (v := 8) hx hb dX2_outOf_34 (by decide) ?_
        obtain ⟨v9, S10, hj, hf⟩ := b2_ob hf
        have J76_8 : ∀ (H : Heap) (locs : List Loc) (ls : Array Slot), WD D A s (wX2 cs a q S10) H locs → lv_has ls 5 [(0, .ref a), (1, .int p1), (3, .int v9), (4, .int v5)] → W p l e rmX2_outOf s m args below meth c H locs 0 0 Q (F0 m 76 ls []) := by
          intro H locs ls hw hl
          obtain ⟨v17, ev17, hf⟩ := bn_ob hf
          refine lv_iinc (pc := 76) (v := v17) (lv' := [(4, .int v17), (0, .ref a), (1, .int p1), (3, .int v9)]) hx hb dX2_outOf_76 hl (k := 3) rfl (by rw [ev17]; rfl) (by decide) rfl (fun ls hl => ?_)
          refine lv_goto (pc := 79) (tgt := 18) hx hb dX2_outOf_79 (by decide) ?_
          cases hf
          exact ih v9 v17 S10 rv4 rS6 hx0 _ _ _ hw (lv_sub hl [1, 2, 3, 0] rfl) K
        clear hf; have hf := hj; clear hj
        refine lv_icmp_ne (pc := 36) (tgt := 57) hx hb dX2_outOf_36 (by decide) (fun c11 => ?_) (fun c11 => ?_)
        · have hf := ineg c11 hf
          refine lv_aload_n (pc := 57) hx hb dX2_outOf_57 rfl (lv_at hl 0 rfl) ?_
          refine x_get (pc := 58) X hw in_X2_outOf_X2 0 rfl rfl 8 (by decide) (List.mem_of_getElem? (i := 1) rfl) rfl dX2_outOf_58 ?_
          refine lv_aload_n (pc := 61) hx hb dX2_outOf_61 rfl (lv_at hl 0 rfl) ?_
          refine x_get (pc := 62) X hw in_X2_outOf_X2 0 rfl rfl 2 (by decide) (List.mem_of_getElem? (i := 5) rfl) rfl dX2_outOf_62 ?_
          refine lv_iload (pc := 65) hx hb dX2_outOf_65 (lv_at hl 3 rfl) ?_
          obtain ⟨v12, ev12, hf⟩ := b1_ob hf
          refine x_iald (pc := 67) X hw 2 0 rfl rfl ev12 dX2_outOf_67 ?_
          refine lv_aload_n (pc := 68) hx hb dX2_outOf_68 rfl (lv_at hl 0 rfl) ?_
          refine lv_iload (pc := 69) hx hb dX2_outOf_69 (lv_at hl 3 rfl) ?_
          refine lv_iload_n (pc := 71) hx hb dX2_outOf_71 rfl (lv_at hl 1 rfl) ?_
          obtain ⟨v13, hc, hf⟩ := b1_ob hf
          refine x_all (pc := 72) X hw (va_runV (As := [.int v5, .int p1]) (rest := [.int v12, .ref (q 8)]) ⟨hx, hb, hml, hown, hts⟩ (c_X2_resultOf l D cs a q S6 v5 p1 v13 hc _) (cwV 2 hts gX2_outOf_X2_resultOf rfl rfl rfl (by decide +kernel) ⟨Nat.le_of_ble_eq_true rfl, Nat.le_of_ble_eq_true rfl⟩) ⟨CP_blind, va_recv hK hw.1 (ci := 2) (q0 := 0) rfl rfl, x_preA X hw [.ref a, .int v5, .int p1]⟩ rfl rfl hl.1 rfl (lv_room (Nat.le_of_ble_eq_true rfl)) dX2_outOf_72 ⟨Nat.zero_le _, Nat.zero_le _⟩) (fun H locs hw => ?_)
          obtain ⟨S14, eS14, hf⟩ := b1_ob hf
          refine x_iast (pc := 75) X hw 6 0 rfl rfl (wA_ob eS14).1 dX2_outOf_75 (ws2 := wX2 cs a q S14) (by rw [(wA_ob eS14).2]; rfl) (fun H locs hw => ?_)
          cases hf
          exact J76_8 _ _ _ hw (lv_sub hl [0, 1, 2, 3] rfl)
        · have hf := ipos c11 hf
          refine lv_aload_n (pc := 39) hx hb dX2_outOf_39 rfl (lv_at hl 0 rfl) ?_
          refine x_get (pc := 40) X hw in_X2_outOf_X2 0 rfl rfl 8 (by decide) (List.mem_of_getElem? (i := 1) rfl) rfl dX2_outOf_40 ?_
          refine lv_aload_n (pc := 43) hx hb dX2_outOf_43 rfl (lv_at hl 0 rfl) ?_
          refine x_get (pc := 44) X hw in_X2_outOf_X2 0 rfl rfl 3 (by decide) (List.mem_of_getElem? (i := 4) rfl) rfl dX2_outOf_44 ?_
          refine lv_iconst (pc := 47) (v := 3) hx hb dX2_outOf_47 (by decide) ?_
          refine lv_iload (pc := 48) hx hb dX2_outOf_48 (lv_at hl 3 rfl) ?_
          refine lv_imul (pc := 50) hx hb dX2_outOf_50 ?_
          obtain ⟨v15, ev15, hf⟩ := b1_ob hf
          refine x_iald (pc := 51) X hw 3 0 rfl rfl ev15 dX2_outOf_51 ?_
          obtain ⟨v16, ev16, hf⟩ := b1_ob hf
          refine x_iald (pc := 52) X hw 6 0 rfl rfl ev16 dX2_outOf_52 ?_
          refine lv_istore_n (lv' := [(3, .int v16), (0, .ref a), (1, .int p1), (4, .int v5)]) (pc := 53) hx hb dX2_outOf_53 rfl hl (by decide) rfl (fun ls hl => ?_)
          refine lv_goto (pc := 54) (tgt := 76) hx hb dX2_outOf_54 (by decide) ?_
          cases hf
          exact J76_8 _ _ _ hw (lv_sub hl [1, 2, 0, 3] rfl)
  obtain ⟨v18, S19, hj, hf⟩ := b2_ob hf
  refine L18 _ 0 0 S3 v18 S19 hj _ _ _ hw (lv_sub hl [2, 3, 1, 0] rfl) (fun H locs ls hw hl => ?_)
  clear hj L18
  refine lv_iload_n (pc := 82) hx hb dX2_outOf_82 rfl (lv_at hl 0 rfl) ?_
  cases hf
  exact hret _ _ 83 _ hw ⟨_, rfl, rfl⟩ dX2_outOf_83

theorem in_X2_notZeroRows_X2 : ∀ w ∈ wsX20, w ∈ wsX2_notZeroRows := fun _ h => List.mem_cons_of_mem _ (List.mem_append_right _ h)
abbrev rmX2_notZeroRows : Room := { frames := 3, cells := 0, slots := 0, locals := 70 }
def B_X2_notZeroRows_28 (p1 : Int32) (v5 : Int64) (v6 : Int32) (S7 : PS) : Option ((Int64 × Int32 × PS) ⊕ (Int64 × PS)) :=
  if (S7.1 5) ≤ v6 then
    some (.inr (v5, S7))
  else
  b2 (f_X2_outOf S7 p1 v6) fun v9 S10 =>
  b1 (
    if v9 = 0 then
      some v5
    else
    bn (v5 ||| ((1 : Int64) <<< (v6.toInt64 &&& 63))) fun v13 =>
    some v13) fun v11 =>
  bn (v6 + 1) fun v14 =>
  some (.inl (v11, v14, S10))
def L_X2_notZeroRows_28 (p1 : Int32) (n : Nat) (v5 : Int64) (v6 : Int32) (S7 : PS) : Option (Int64 × PS) := loopF (fun x : Int64 × Int32 × PS => B_X2_notZeroRows_28 p1 x.1 x.2.1 x.2.2) n (v5, v6, S7)
def f_X2_notZeroRows (S : PS) (p1 : Int32) : Option (Int64 × PS) :=
  if p1 < 0 then
    some (0, S)
  else
  if p1 < 32 then
    b1 (
      if (((S.1 10) >>> (p1 &&& 31)) &&& 1) = 0 then
        b2 (L_X2_notZeroRows_28 p1 FU 0 0 S) fun v15 S16 =>
        b1 (wL 32 S16 9 p1 v15) fun S17 =>
        bn (sI S17 10 ((S17.1 10) ||| ((1 : Int32) <<< (p1 &&& 31)))) fun S18 =>
        some S18
      else
      some S) fun S3 =>
    b1 (rdL 32 (S3.2.2 9) p1) fun v19 =>
    some (v19, S3)
  else
  some (0, S)
set_option maxHeartbeats 4000000 in
set_option maxRecDepth 100000 in
theorem c_X2_notZeroRows (l : Launch) (D : va_G) (cs : CS) (a : Nat) (q : Nat → Nat) (S : PS) (p1 : Int32) (r : Int64) (S' : PS) (hf : f_X2_notZeroRows S p1 = some (r, S')) : CT l D (TY cs) yX2_notZeroRows wsX2_notZeroRows rmX2_notZeroRows [.ref a, .int p1] (wX2 cs a q S) (some (.long r)) (wX2 cs a q S') := by
  refine CT.ofW (own := RX2) (cc := cX2_notZeroRows) (maxL := 5) (ret := some .long) (by decide) rfl rfl (Nat.le_of_ble_eq_true rfl) ?_
  intro p e s m args below meth c A Q X hret ls hl hw
  obtain ⟨hx, hb, hml, hown, hts, hK, hA, hr, hlk⟩ := id X
  have hl : lv_has ls 5 [(0, .ref a), (1, .int p1)] := hl
  unfold f_X2_notZeroRows at hf
  refine lv_iload_n (pc := 0) hx hb dX2_notZeroRows_0 rfl (lv_at hl 1 rfl) ?_
  refine lv_if_lt (pc := 1) (tgt := 10) hx hb dX2_notZeroRows_1 (by decide) (fun c1 => ?_) (fun c1 => ?_)
  · have hf := ipos c1 hf
    refine lv_lconst (pc := 10) (v := 0) hx hb dX2_notZeroRows_10 (by decide) ?_
    cases hf
    exact hret _ _ 11 _ hw rfl dX2_notZeroRows_11
  · have hf := ineg c1 hf
    refine lv_iload_n (pc := 4) hx hb dX2_notZeroRows_4 rfl (lv_at hl 1 rfl) ?_
    refine lv_bipush (pc := 5) (v := 32) hx hb dX2_notZeroRows_5 (by decide) ?_
    refine lv_icmp_lt (pc := 7) (tgt := 12) hx hb dX2_notZeroRows_7 (by decide) (fun c2 => ?_) (fun c2 => ?_)
    · have hf := ipos c2 hf
      refine lv_aload_n (pc := 12) hx hb dX2_notZeroRows_12 rfl (lv_at hl 0 rfl) ?_
      refine x_get (pc := 13) X hw in_X2_notZeroRows_X2 0 rfl rfl 10 (by decide) (List.mem_of_getElem? (i := 1) rfl) rfl dX2_notZeroRows_13 ?_
      refine lv_iload_n (pc := 16) hx hb dX2_notZeroRows_16 rfl (lv_at hl 1 rfl) ?_
      refine lv_ishr (pc := 17) hx hb dX2_notZeroRows_17 ?_
      refine lv_iconst (pc := 18) (v := 1) hx hb dX2_notZeroRows_18 (by decide) ?_
      refine lv_iand (pc := 19) hx hb dX2_notZeroRows_19 ?_
      obtain ⟨S3, hj, hf⟩ := b1_ob hf
      have J79_2 : ∀ (H : Heap) (locs : List Loc) (ls : Array Slot), WD D A s (wX2 cs a q S3) H locs → lv_has ls 5 [(0, .ref a), (1, .int p1)] → W p l e rmX2_notZeroRows s m args below meth c H locs 0 0 Q (F0 m 79 ls []) := by
        intro H locs ls hw hl
        refine lv_aload_n (pc := 79) hx hb dX2_notZeroRows_79 rfl (lv_at hl 0 rfl) ?_
        refine x_get (pc := 80) X hw in_X2_notZeroRows_X2 0 rfl rfl 9 (by decide) (List.mem_of_getElem? (i := 3) rfl) rfl dX2_notZeroRows_80 ?_
        refine lv_iload_n (pc := 83) hx hb dX2_notZeroRows_83 rfl (lv_at hl 1 rfl) ?_
        obtain ⟨v19, ev19, hf⟩ := b1_ob hf
        refine x_lald (pc := 84) X hw 7 1 rfl rfl ev19 dX2_notZeroRows_84 ?_
        cases hf
        exact hret _ _ 85 _ hw rfl dX2_notZeroRows_85
      clear hf; have hf := hj; clear hj
      refine lv_if_ne (pc := 20) (tgt := 79) hx hb dX2_notZeroRows_20 (by decide) (fun c4 => ?_) (fun c4 => ?_)
      · have hf := ineg c4 hf
        cases hf
        exact J79_2 _ _ _ hw (lv_sub hl [0, 1] rfl)
      · have hf := ipos c4 hf
        refine lv_lconst (pc := 23) (v := 0) hx hb dX2_notZeroRows_23 (by decide) ?_
        refine lv_lstore_n (lv' := [(2, .long 0), (0, .ref a), (1, .int p1)]) (pc := 24) hx hb dX2_notZeroRows_24 rfl hl (by decide) rfl (fun ls hl => ?_)
        refine lv_iconst (pc := 25) (v := 0) hx hb dX2_notZeroRows_25 (by decide) ?_
        refine lv_istore (lv' := [(4, .int 0), (2, .long 0), (0, .ref a), (1, .int p1)]) (pc := 26) hx hb dX2_notZeroRows_26 hl (by decide) rfl (fun ls hl => ?_)
        have L28 : ∀ (n : Nat) (v5 : Int64) (v6 : Int32) (S7 : PS) (rv5 : Int64) (rS7 : PS), L_X2_notZeroRows_28 p1 n v5 v6 S7 = some (rv5, rS7) → ∀ (H : Heap) (locs : List Loc) (ls : Array Slot), WD D A s (wX2 cs a q S7) H locs → lv_has ls 5 [(0, .ref a), (1, .int p1), (2, .long v5), (4, .int v6)] → (∀ (H : Heap) (locs : List Loc) (ls : Array Slot), WD D A s (wX2 cs a q rS7) H locs → lv_has ls 5 [(0, .ref a), (1, .int p1), (2, .long rv5)] → W p l e rmX2_notZeroRows s m args below meth c H locs 0 0 Q (F0 m 60 ls [])) → W p l e rmX2_notZeroRows s m args below meth c H locs 0 0 Q (F0 m 28 ls []) := by
          intro n
          induction n with
          | zero => intro v5 v6 S7 rv5 rS7 hf; exact (loopF_z hf).elim
          | succ n ih =>
            intro v5 v6 S7 rv5 rS7 hf H locs ls hw hl K
            obtain ⟨x, hf, hx0⟩ := loopF_ob hf
            have hf : B_X2_notZeroRows_28 p1 v5 v6 S7 = some x := hf
            unfold B_X2_notZeroRows_28 at hf
            refine lv_iload (pc := 28) hx hb dX2_notZeroRows_28 (lv_at hl 3 rfl) ?_
            refine lv_aload_n (pc := 30) hx hb dX2_notZeroRows_30 rfl (lv_at hl 0 rfl) ?_
            refine x_get (pc := 31) X hw in_X2_notZeroRows_X2 0 rfl rfl 5 (by decide) (List.mem_of_getElem? (i := 2) rfl) rfl dX2_notZeroRows_31 ?_
            refine lv_icmp_ge (pc := 34) (tgt := 60) hx hb dX2_notZeroRows_34 (by decide) (fun c8 => ?_) (fun c8 => ?_)
            · have hf := ipos c8 hf
              cases hf
              cases (hx0 : (v5, S7) = (rv5, rS7))
              exact K _ _ _ hw (lv_sub hl [0, 1, 2] rfl)
            · have hf := ineg c8 hf
              refine lv_aload_n (pc := 37) hx hb dX2_notZeroRows_37 rfl (lv_at hl 0 rfl) ?_
              refine lv_iload_n (pc := 38) hx hb dX2_notZeroRows_38 rfl (lv_at hl 1 rfl) ?_
              refine lv_iload (pc := 39) hx hb dX2_notZeroRows_39 (lv_at hl 3 rfl) ?_
              obtain ⟨v9, S10, hc, hf⟩ := b2_ob hf
              refine x_all (pc := 41) X hw (va_runV (As := [.int p1, .int v6]) (rest := []) ⟨hx, hb, hml, hown, hts⟩ (c_X2_outOf l D cs a q S7 p1 v6 v9 S10 hc _) (cwV 2 hts gX2_notZeroRows_X2_outOf rfl rfl rfl (by decide +kernel) ⟨Nat.le_of_ble_eq_true rfl, Nat.le_of_ble_eq_true rfl⟩) ⟨CP_blind, va_recv hK hw.1 (ci := 2) (q0 := 0) rfl rfl, x_preA X hw [.ref a, .int p1, .int v6]⟩ rfl rfl hl.1 rfl (lv_room (Nat.le_of_ble_eq_true rfl)) dX2_notZeroRows_41 ⟨Nat.zero_le _, Nat.zero_le _⟩) (fun H locs hw => ?_)
              obtain ⟨v11, hj, hf⟩ := b1_ob hf
              have J54_10 : ∀ (H : Heap) (locs : List Loc) (ls : Array Slot), WD D A s (wX2 cs a q S10) H locs → lv_has ls 5 [(0, .ref a), (1, .int p1), (2, .long v11), (4, .int v6)] → W p l e rmX2_notZeroRows s m args below meth c H locs 0 0 Q (F0 m 54 ls []) := by
                intro H locs ls hw hl
                obtain ⟨v14, ev14, hf⟩ := bn_ob hf
                refine lv_iinc (pc := 54) (v := v14) (lv' := [(4, .int v14), (0, .ref a), (1, .int p1), (2, .long v11)]) hx hb dX2_notZeroRows_54 hl (k := 3) rfl (by rw [ev14]; rfl) (by decide) rfl (fun ls hl => ?_)
                refine lv_goto (pc := 57) (tgt := 28) hx hb dX2_notZeroRows_57 (by decide) ?_
                cases hf
                exact ih v11 v14 S10 rv5 rS7 hx0 _ _ _ hw (lv_sub hl [1, 2, 3, 0] rfl) K
              clear hf; have hf := hj; clear hj
              refine lv_if_eq (pc := 44) (tgt := 54) hx hb dX2_notZeroRows_44 (by decide) (fun c12 => ?_) (fun c12 => ?_)
              · have hf := ipos c12 hf
                cases hf
                exact J54_10 _ _ _ hw (lv_sub hl [0, 1, 2, 3] rfl)
              · have hf := ineg c12 hf
                refine lv_lload_n (pc := 47) hx hb dX2_notZeroRows_47 rfl (lv_at hl 2 rfl) ?_
                refine lv_lconst (pc := 48) (v := 1) hx hb dX2_notZeroRows_48 (by decide) ?_
                refine lv_iload (pc := 49) hx hb dX2_notZeroRows_49 (lv_at hl 3 rfl) ?_
                refine lv_lshl (pc := 51) hx hb dX2_notZeroRows_51 rfl ?_
                refine lv_lor (pc := 52) hx hb dX2_notZeroRows_52 ?_
                obtain ⟨v13, ev13, hf⟩ := bn_ob hf
                refine x_topl ev13 ?_
                refine lv_lstore_n (lv' := [(2, .long v13), (0, .ref a), (1, .int p1), (4, .int v6)]) (pc := 53) hx hb dX2_notZeroRows_53 rfl hl (by decide) rfl (fun ls hl => ?_)
                cases hf
                exact J54_10 _ _ _ hw (lv_sub hl [1, 2, 0, 3] rfl)
        obtain ⟨v15, S16, hj, hf⟩ := b2_ob hf
        refine L28 _ 0 0 S v15 S16 hj _ _ _ hw (lv_sub hl [2, 3, 1, 0] rfl) (fun H locs ls hw hl => ?_)
        clear hj L28
        refine lv_aload_n (pc := 60) hx hb dX2_notZeroRows_60 rfl (lv_at hl 0 rfl) ?_
        refine x_get (pc := 61) X hw in_X2_notZeroRows_X2 0 rfl rfl 9 (by decide) (List.mem_of_getElem? (i := 3) rfl) rfl dX2_notZeroRows_61 ?_
        refine lv_iload_n (pc := 64) hx hb dX2_notZeroRows_64 rfl (lv_at hl 1 rfl) ?_
        refine lv_lload_n (pc := 65) hx hb dX2_notZeroRows_65 rfl (lv_at hl 2 rfl) ?_
        obtain ⟨S17, eS17, hf⟩ := b1_ob hf
        refine x_last (pc := 66) X hw 7 1 rfl rfl (wL_ob eS17).1 dX2_notZeroRows_66 (ws2 := wX2 cs a q S17) (by rw [(wL_ob eS17).2]; rfl) (fun H locs hw => ?_)
        refine lv_aload_n (pc := 67) hx hb dX2_notZeroRows_67 rfl (lv_at hl 0 rfl) ?_
        refine lv_dup (pc := 68) hx hb dX2_notZeroRows_68 rfl ?_
        refine x_get (pc := 69) X hw in_X2_notZeroRows_X2 0 rfl rfl 10 (by decide) (List.mem_of_getElem? (i := 1) rfl) rfl dX2_notZeroRows_69 ?_
        refine lv_iconst (pc := 72) (v := 1) hx hb dX2_notZeroRows_72 (by decide) ?_
        refine lv_iload_n (pc := 73) hx hb dX2_notZeroRows_73 rfl (lv_at hl 1 rfl) ?_
        refine lv_ishl (pc := 74) hx hb dX2_notZeroRows_74 ?_
        refine lv_ior (pc := 75) hx hb dX2_notZeroRows_75 ?_
        obtain ⟨S18, eS18, hf⟩ := bn_ob hf
        refine x_put (pc := 76) X hw in_X2_notZeroRows_X2 tyX2 tyX2_ok nmX2 0 rfl rfl 10 (by decide) (List.mem_of_getElem? (i := 1) rfl) rfl rfl rfl (Nat.le_of_ble_eq_true rfl) dX2_notZeroRows_76 (ws2 := wX2 cs a q S18) (by rw [eS18]; rfl) (fun H locs hw => ?_)
        cases hf
        exact J79_2 _ _ _ hw (lv_sub hl [0, 1] rfl)
    · have hf := ineg c2 hf
      refine lv_lconst (pc := 10) (v := 0) hx hb dX2_notZeroRows_10 (by decide) ?_
      cases hf
      exact hret _ _ 11 _ hw rfl dX2_notZeroRows_11
