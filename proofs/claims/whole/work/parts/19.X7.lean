theorem in_X7_setInputs_X7 : ∀ w ∈ wsX70, w ∈ wsX7_setInputs := fun _ h => List.mem_cons_of_mem _ (List.mem_append_right _ h)
abbrev rmX7_setInputs : Room := { frames := 0, cells := 0, slots := 0, locals := 0 }
def f_X7_setInputs (S : PS) (p1 : Int32) (p2 : Int32) : Option (PS) :=
  bn (sI S 1 p1) fun S1 =>
  bn (sI S1 2 p2) fun S2 =>
  bn (sI S2 3 1) fun S3 =>
  some S3
set_option maxHeartbeats 4000000 in
set_option maxRecDepth 100000 in
theorem c_X7_setInputs (l : Launch) (D : va_G) (cs : CS) (a : Nat) (q : Nat → Nat) (S : PS) (p1 : Int32) (p2 : Int32) (S' : PS) (hf : f_X7_setInputs S p1 p2 = some S') : CT l D (TY cs) yX7_setInputs wsX7_setInputs rmX7_setInputs [.ref a, .int p1, .int p2] (wX7 cs a q S) none (wX7 cs a q S') := by
  refine CT.ofW (own := RX7) (cc := cX7_setInputs) (maxL := 3) (ret := none) (by decide) rfl rfl (Nat.le_of_ble_eq_true rfl) ?_
  intro p e s m args below meth c A Q X hret ls hl hw
  obtain ⟨hx, hb, hml, hown, hts, hK, hA, hr, hlk⟩ := id X
  have hl : lv_has ls 3 [(0, .ref a), (1, .int p1), (2, .int p2)] := hl
  unfold f_X7_setInputs at hf
  refine lv_aload_n (pc := 0) hx hb dX7_setInputs_0 rfl (lv_at hl 0 rfl) ?_
  refine lv_iload_n (pc := 1) hx hb dX7_setInputs_1 rfl (lv_at hl 1 rfl) ?_
  obtain ⟨S1, eS1, hf⟩ := bn_ob hf
  refine x_put (pc := 2) X hw in_X7_setInputs_X7 tyX7 tyX7_ok nmX7 0 rfl rfl 1 (by decide) (List.mem_of_getElem? (i := 1) rfl) rfl rfl rfl (Nat.le_of_ble_eq_true rfl) dX7_setInputs_2 (ws2 := wX7 cs a q S1) (by rw [eS1]; rfl) (fun H locs hw => ?_)
  refine lv_aload_n (pc := 5) hx hb dX7_setInputs_5 rfl (lv_at hl 0 rfl) ?_
  refine lv_iload_n (pc := 6) hx hb dX7_setInputs_6 rfl (lv_at hl 2 rfl) ?_
  obtain ⟨S2, eS2, hf⟩ := bn_ob hf
  refine x_put (pc := 7) X hw in_X7_setInputs_X7 tyX7 tyX7_ok nmX7 0 rfl rfl 2 (by decide) (List.mem_of_getElem? (i := 2) rfl) rfl rfl rfl (Nat.le_of_ble_eq_true rfl) dX7_setInputs_7 (ws2 := wX7 cs a q S2) (by rw [eS2]; rfl) (fun H locs hw => ?_)
  refine lv_aload_n (pc := 10) hx hb dX7_setInputs_10 rfl (lv_at hl 0 rfl) ?_
  refine lv_iconst (pc := 11) (v := 1) hx hb dX7_setInputs_11 (by decide) ?_
  obtain ⟨S3, eS3, hf⟩ := bn_ob hf
  refine x_put (pc := 12) X hw in_X7_setInputs_X7 tyX7 tyX7_ok nmX7 0 rfl rfl 3 (by decide) (List.mem_of_getElem? (i := 3) rfl) rfl (by decide) (by decide) (Nat.le_of_ble_eq_true rfl) dX7_setInputs_12 (ws2 := wX7 cs a q S3) (by rw [eS3]; rfl) (fun H locs hw => ?_)
  cases hf
  exact hret _ _ 15 _ hw rfl dX7_setInputs_15

theorem in_X7_inputCount_X7 : ∀ w ∈ wsX70, w ∈ wsX7_inputCount := fun _ h => List.mem_cons_of_mem _ (List.mem_append_right _ h)
abbrev rmX7_inputCount : Room := { frames := 0, cells := 0, slots := 0, locals := 0 }
def f_X7_inputCount (S : PS) : Option (Int32) :=
  some ((1 : Int32) <<< ((S.1 1) &&& 31))
set_option maxHeartbeats 4000000 in
set_option maxRecDepth 100000 in
theorem c_X7_inputCount (l : Launch) (D : va_G) (cs : CS) (a : Nat) (q : Nat → Nat) (S : PS) (r : Int32) (hf : f_X7_inputCount S = some r) : CT l D (TY cs) yX7_inputCount wsX7_inputCount rmX7_inputCount [.ref a] (wX7 cs a q S) (some (.int r)) (wX7 cs a q S) := by
  refine CT.ofW (own := RX7) (cc := cX7_inputCount) (maxL := 1) (ret := some .int) (by decide) rfl rfl (Nat.le_of_ble_eq_true rfl) ?_
  intro p e s m args below meth c A Q X hret ls hl hw
  obtain ⟨hx, hb, hml, hown, hts, hK, hA, hr, hlk⟩ := id X
  have hl : lv_has ls 1 [(0, .ref a)] := hl
  unfold f_X7_inputCount at hf
  refine lv_iconst (pc := 0) (v := 1) hx hb dX7_inputCount_0 (by decide) ?_
  refine lv_aload_n (pc := 1) hx hb dX7_inputCount_1 rfl (lv_at hl 0 rfl) ?_
  refine x_get (pc := 2) X hw in_X7_inputCount_X7 0 rfl rfl 1 (by decide) (List.mem_of_getElem? (i := 1) rfl) rfl dX7_inputCount_2 ?_
  refine lv_ishl (pc := 5) hx hb dX7_inputCount_5 ?_
  cases hf
  exact hret _ _ 6 _ hw ⟨_, rfl, rfl⟩ dX7_inputCount_6

theorem in_X7_hasInput_X7 : ∀ w ∈ wsX70, w ∈ wsX7_hasInput := fun _ h => List.mem_cons_of_mem _ (List.mem_append_right _ h)
abbrev rmX7_hasInput : Room := { frames := 1, cells := 0, slots := 0, locals := 20 }
def f_X7_hasInput (S : PS) (p1 : Int32) : Option (Int32) :=
  b1 (
    if p1 < 0 then
      some (0 : Int32)
    else
    b1 (f_X7_inputCount S) fun v3 =>
    if v3 ≤ p1 then
      some (0 : Int32)
    else
    some (1 : Int32)) fun v1 =>
  b1 (ckB v1) fun v5 =>
  some v5
set_option maxHeartbeats 4000000 in
set_option maxRecDepth 100000 in
theorem c_X7_hasInput (l : Launch) (D : va_G) (cs : CS) (a : Nat) (q : Nat → Nat) (S : PS) (p1 : Int32) (r : Int32) (hf : f_X7_hasInput S p1 = some r) : CT l D (TY cs) yX7_hasInput wsX7_hasInput rmX7_hasInput [.ref a, .int p1] (wX7 cs a q S) (some (.int r)) (wX7 cs a q S) := by
  refine CT.ofW (own := RX7) (cc := cX7_hasInput) (maxL := 2) (ret := some .boolean) (by decide) rfl rfl (Nat.le_of_ble_eq_true rfl) ?_
  intro p e s m args below meth c A Q X hret ls hl hw
  obtain ⟨hx, hb, hml, hown, hts, hK, hA, hr, hlk⟩ := id X
  have hl : lv_has ls 2 [(0, .ref a), (1, .int p1)] := hl
  unfold f_X7_hasInput at hf
  refine lv_iload_n (pc := 0) hx hb dX7_hasInput_0 rfl (lv_at hl 1 rfl) ?_
  obtain ⟨v1, hj, hf⟩ := b1_ob hf
  have J17_0 : ∀ (H : Heap) (locs : List Loc) (ls : Array Slot), WD D A s (wX7 cs a q S) H locs → lv_has ls 2 [] → W p l e rmX7_hasInput s m args below meth c H locs 0 0 Q (F0 m 17 ls [.int v1]) := by
    intro H locs ls hw hl
    obtain ⟨v5, ev5, hf⟩ := b1_ob hf
    refine x_topi (ckB_ob ev5).1.symm ?_
    cases hf
    exact hret _ _ 17 _ hw ⟨_, rfl, ckB_nar (ckB_ob ev5).2⟩ dX7_hasInput_17
  clear hf; have hf := hj; clear hj
  refine lv_if_lt (pc := 1) (tgt := 16) hx hb dX7_hasInput_1 (by decide) (fun c2 => ?_) (fun c2 => ?_)
  · have hf := ipos c2 hf
    refine lv_iconst (pc := 16) (v := 0) hx hb dX7_hasInput_16 (by decide) ?_
    cases hf
    exact J17_0 _ _ _ hw (lv_sub hl [] rfl)
  · have hf := ineg c2 hf
    refine lv_iload_n (pc := 4) hx hb dX7_hasInput_4 rfl (lv_at hl 1 rfl) ?_
    refine lv_aload_n (pc := 5) hx hb dX7_hasInput_5 rfl (lv_at hl 0 rfl) ?_
    obtain ⟨v3, hc, hf⟩ := b1_ob hf
    refine x_all (pc := 6) X hw (va_runV (As := []) (rest := [.int p1]) ⟨hx, hb, hml, hown, hts⟩ (c_X7_inputCount l D cs a q S v3 hc _) (cwV 0 hts gX7_hasInput_X7_inputCount rfl rfl rfl (by decide +kernel) ⟨Nat.le_of_ble_eq_true rfl, Nat.le_of_ble_eq_true rfl⟩) ⟨CP_blind, va_recv hK hw.1 (ci := 7) (q0 := 0) rfl rfl, x_preA X hw [.ref a]⟩ rfl rfl hl.1 rfl (lv_room (Nat.le_of_ble_eq_true rfl)) dX7_hasInput_6 ⟨Nat.zero_le _, Nat.zero_le _⟩) (fun H locs hw => ?_)
    refine lv_icmp_ge (pc := 9) (tgt := 16) hx hb dX7_hasInput_9 (by decide) (fun c4 => ?_) (fun c4 => ?_)
    · have hf := ipos c4 hf
      refine lv_iconst (pc := 16) (v := 0) hx hb dX7_hasInput_16 (by decide) ?_
      cases hf
      exact J17_0 _ _ _ hw (lv_sub hl [] rfl)
    · have hf := ineg c4 hf
      refine lv_iconst (pc := 12) (v := 1) hx hb dX7_hasInput_12 (by decide) ?_
      refine lv_goto (pc := 13) (tgt := 17) hx hb dX7_hasInput_13 (by decide) ?_
      cases hf
      exact J17_0 _ _ _ hw (lv_sub hl [] rfl)

theorem in_X7_hasRow_X7 : ∀ w ∈ wsX70, w ∈ wsX7_hasRow := fun _ h => List.mem_cons_of_mem _ (List.mem_append_left _ (List.mem_append_right _ h))
theorem in_X7_hasRow_X2 : ∀ w ∈ wsX20, w ∈ wsX7_hasRow := fun _ h => List.mem_cons_of_mem _ (List.mem_append_right _ h)
abbrev rmX7_hasRow : Room := { frames := 0, cells := 0, slots := 0, locals := 0 }
def f_X7_hasRow (S : PS) (P : PS) (p1 : Int32) : Option (Int32) :=
  b1 (
    if p1 < 0 then
      some (0 : Int32)
    else
    if (P.1 5) ≤ p1 then
      some (0 : Int32)
    else
    some (1 : Int32)) fun v1 =>
  b1 (ckB v1) fun v4 =>
  some v4
set_option maxHeartbeats 4000000 in
set_option maxRecDepth 100000 in
theorem c_X7_hasRow (l : Launch) (D : va_G) (cs : CS) (a : Nat) (q : Nat → Nat) (qP : Nat → Nat) (S : PS) (P : PS) (p1 : Int32) (r : Int32) (hf : f_X7_hasRow S P p1 = some r) : CT l D (TY cs) yX7_hasRow wsX7_hasRow rmX7_hasRow [.ref a, .int p1] (wX7 cs a q S ++ wX2 cs (q 0) qP P) (some (.int r)) (wX7 cs a q S ++ wX2 cs (q 0) qP P) := by
  refine CT.ofW (own := RX7) (cc := cX7_hasRow) (maxL := 2) (ret := some .boolean) (by decide) rfl rfl (Nat.le_of_ble_eq_true rfl) ?_
  intro p e s m args below meth c A Q X hret ls hl hw
  obtain ⟨hx, hb, hml, hown, hts, hK, hA, hr, hlk⟩ := id X
  have hl : lv_has ls 2 [(0, .ref a), (1, .int p1)] := hl
  unfold f_X7_hasRow at hf
  refine lv_iload_n (pc := 0) hx hb dX7_hasRow_0 rfl (lv_at hl 1 rfl) ?_
  obtain ⟨v1, hj, hf⟩ := b1_ob hf
  have J20_0 : ∀ (H : Heap) (locs : List Loc) (ls : Array Slot), WD D A s (wX7 cs a q S ++ wX2 cs (q 0) qP P) H locs → lv_has ls 2 [] → W p l e rmX7_hasRow s m args below meth c H locs 0 0 Q (F0 m 20 ls [.int v1]) := by
    intro H locs ls hw hl
    obtain ⟨v4, ev4, hf⟩ := b1_ob hf
    refine x_topi (ckB_ob ev4).1.symm ?_
    cases hf
    exact hret _ _ 20 _ hw ⟨_, rfl, ckB_nar (ckB_ob ev4).2⟩ dX7_hasRow_20
  clear hf; have hf := hj; clear hj
  refine lv_if_lt (pc := 1) (tgt := 19) hx hb dX7_hasRow_1 (by decide) (fun c2 => ?_) (fun c2 => ?_)
  · have hf := ipos c2 hf
    refine lv_iconst (pc := 19) (v := 0) hx hb dX7_hasRow_19 (by decide) ?_
    cases hf
    exact J20_0 _ _ _ hw (lv_sub hl [] rfl)
  · have hf := ineg c2 hf
    refine lv_iload_n (pc := 4) hx hb dX7_hasRow_4 rfl (lv_at hl 1 rfl) ?_
    refine lv_aload_n (pc := 5) hx hb dX7_hasRow_5 rfl (lv_at hl 0 rfl) ?_
    refine x_get (pc := 6) X hw in_X7_hasRow_X7 0 rfl rfl 0 (by decide) (List.mem_of_getElem? (i := 1) rfl) rfl dX7_hasRow_6 ?_
    refine x_get (pc := 9) X hw in_X7_hasRow_X2 5 rfl rfl 5 (by decide) (List.mem_of_getElem? (i := 2) rfl) rfl dX7_hasRow_9 ?_
    refine lv_icmp_ge (pc := 12) (tgt := 19) hx hb dX7_hasRow_12 (by decide) (fun c3 => ?_) (fun c3 => ?_)
    · have hf := ipos c3 hf
      refine lv_iconst (pc := 19) (v := 0) hx hb dX7_hasRow_19 (by decide) ?_
      cases hf
      exact J20_0 _ _ _ hw (lv_sub hl [] rfl)
    · have hf := ineg c3 hf
      refine lv_iconst (pc := 15) (v := 1) hx hb dX7_hasRow_15 (by decide) ?_
      refine lv_goto (pc := 16) (tgt := 20) hx hb dX7_hasRow_16 (by decide) ?_
      cases hf
      exact J20_0 _ _ _ hw (lv_sub hl [] rfl)

theorem in_X7_isTrue_X7 : ∀ w ∈ wsX70, w ∈ wsX7_isTrue := fun _ h => List.mem_cons_of_mem _ (List.mem_append_right _ h)
abbrev rmX7_isTrue : Room := { frames := 0, cells := 0, slots := 0, locals := 0 }
def f_X7_isTrue (S : PS) (p1 : Int32) : Option (Int32) :=
  b1 (
    if (((S.1 2) >>> (p1 &&& 31)) &&& 1) = 1 then
      some (1 : Int32)
    else
    some (0 : Int32)) fun v1 =>
  b1 (ckB v1) fun v3 =>
  some v3
set_option maxHeartbeats 4000000 in
set_option maxRecDepth 100000 in
theorem c_X7_isTrue (l : Launch) (D : va_G) (cs : CS) (a : Nat) (q : Nat → Nat) (S : PS) (p1 : Int32) (r : Int32) (hf : f_X7_isTrue S p1 = some r) : CT l D (TY cs) yX7_isTrue wsX7_isTrue rmX7_isTrue [.ref a, .int p1] (wX7 cs a q S) (some (.int r)) (wX7 cs a q S) := by
  refine CT.ofW (own := RX7) (cc := cX7_isTrue) (maxL := 2) (ret := some .boolean) (by decide) rfl rfl (Nat.le_of_ble_eq_true rfl) ?_
  intro p e s m args below meth c A Q X hret ls hl hw
  obtain ⟨hx, hb, hml, hown, hts, hK, hA, hr, hlk⟩ := id X
  have hl : lv_has ls 2 [(0, .ref a), (1, .int p1)] := hl
  unfold f_X7_isTrue at hf
  refine lv_aload_n (pc := 0) hx hb dX7_isTrue_0 rfl (lv_at hl 0 rfl) ?_
  refine x_get (pc := 1) X hw in_X7_isTrue_X7 0 rfl rfl 2 (by decide) (List.mem_of_getElem? (i := 1) rfl) rfl dX7_isTrue_1 ?_
  refine lv_iload_n (pc := 4) hx hb dX7_isTrue_4 rfl (lv_at hl 1 rfl) ?_
  refine lv_ishr (pc := 5) hx hb dX7_isTrue_5 ?_
  refine lv_iconst (pc := 6) (v := 1) hx hb dX7_isTrue_6 (by decide) ?_
  refine lv_iand (pc := 7) hx hb dX7_isTrue_7 ?_
  refine lv_iconst (pc := 8) (v := 1) hx hb dX7_isTrue_8 (by decide) ?_
  obtain ⟨v1, hj, hf⟩ := b1_ob hf
  have J17_0 : ∀ (H : Heap) (locs : List Loc) (ls : Array Slot), WD D A s (wX7 cs a q S) H locs → lv_has ls 2 [] → W p l e rmX7_isTrue s m args below meth c H locs 0 0 Q (F0 m 17 ls [.int v1]) := by
    intro H locs ls hw hl
    obtain ⟨v3, ev3, hf⟩ := b1_ob hf
    refine x_topi (ckB_ob ev3).1.symm ?_
    cases hf
    exact hret _ _ 17 _ hw ⟨_, rfl, ckB_nar (ckB_ob ev3).2⟩ dX7_isTrue_17
  clear hf; have hf := hj; clear hj
  refine lv_icmp_ne (pc := 9) (tgt := 16) hx hb dX7_isTrue_9 (by decide) (fun c2 => ?_) (fun c2 => ?_)
  · have hf := ineg c2 hf
    refine lv_iconst (pc := 16) (v := 0) hx hb dX7_isTrue_16 (by decide) ?_
    cases hf
    exact J17_0 _ _ _ hw (lv_sub hl [] rfl)
  · have hf := ipos c2 hf
    refine lv_iconst (pc := 12) (v := 1) hx hb dX7_isTrue_12 (by decide) ?_
    refine lv_goto (pc := 13) (tgt := 17) hx hb dX7_isTrue_13 (by decide) ?_
    cases hf
    exact J17_0 _ _ _ hw (lv_sub hl [] rfl)

theorem in_X7_isRight_X7 : ∀ w ∈ wsX70, w ∈ wsX7_isRight := fun _ h => List.mem_cons_of_mem _ (List.mem_append_left _ (List.mem_append_right _ h))
theorem in_X7_isRight_X2 : ∀ w ∈ wsX20, w ∈ wsX7_isRight := fun _ h => List.mem_cons_of_mem _ (List.mem_append_right _ h)
abbrev rmX7_isRight : Room := { frames := 3, cells := 0, slots := 0, locals := 70 }
def f_X7_isRight (S : PS) (P : PS) (p1 : Int32) (p2 : Int32) : Option (Int32 × PS) :=
  b2 (f_X2_outOf P p1 p2) fun v1 P2 =>
  b1 (
    if v1 = 0 then
      some (0 : Int32)
    else
    some (1 : Int32)) fun v3 =>
  b1 (f_X7_isTrue S p1) fun v5 =>
  b1 (
    if v3 = v5 then
      some (1 : Int32)
    else
    some (0 : Int32)) fun v6 =>
  b1 (ckB v6) fun v8 =>
  some (v8, P2)
set_option maxHeartbeats 4000000 in
set_option maxRecDepth 100000 in
theorem c_X7_isRight (l : Launch) (D : va_G) (cs : CS) (a : Nat) (q : Nat → Nat) (qP : Nat → Nat) (S : PS) (P : PS) (p1 : Int32) (p2 : Int32) (r : Int32) (P' : PS) (hf : f_X7_isRight S P p1 p2 = some (r, P')) : CT l D (TY cs) yX7_isRight wsX7_isRight rmX7_isRight [.ref a, .int p1, .int p2] (wX7 cs a q S ++ wX2 cs (q 0) qP P) (some (.int r)) (wX7 cs a q S ++ wX2 cs (q 0) qP P') := by
  refine CT.ofW (own := RX7) (cc := cX7_isRight) (maxL := 3) (ret := some .boolean) (by decide) rfl rfl (Nat.le_of_ble_eq_true rfl) ?_
  intro p e s m args below meth c A Q X hret ls hl hw
  obtain ⟨hx, hb, hml, hown, hts, hK, hA, hr, hlk⟩ := id X
  have hl : lv_has ls 3 [(0, .ref a), (1, .int p1), (2, .int p2)] := hl
  unfold f_X7_isRight at hf
  refine lv_aload_n (pc := 0) hx hb dX7_isRight_0 rfl (lv_at hl 0 rfl) ?_
  refine x_get (pc := 1) X hw in_X7_isRight_X7 0 rfl rfl 0 (by decide) (List.mem_of_getElem? (i := 1) rfl) rfl dX7_isRight_1 ?_
  refine lv_iload_n (pc := 4) hx hb dX7_isRight_4 rfl (lv_at hl 1 rfl) ?_
  refine lv_iload_n (pc := 5) hx hb dX7_isRight_5 rfl (lv_at hl 2 rfl) ?_
  obtain ⟨v1, P2, hc, hf⟩ := b2_ob hf
  refine x_cut (pc := 6) (wr := ([0, 1, 2, 3, 4].filterMap (fun i => (wX7 cs a q S ++ wX2 cs (q 0) qP P)[i]?))) (ws2 := wX7 cs a q S ++ wX2 cs (q 0) qP P2) X hw [5, 6, 7, 8, 9, 10, 11, 12] [0, 1, 2, 3, 4] [0, 1, 2, 3, 4, 5, 6, 7, 8, 9, 10, 11, 12] rfl rfl (by decide) (by decide) rfl (by decide) (va_runV (As := [.int p1, .int p2]) (rest := []) ⟨hx, hb, hml, hown, hts⟩ (c_X2_outOf l D cs (q 0) qP P p1 p2 v1 P2 hc _) (cwV 2 hts gX7_isRight_X2_outOf rfl rfl rfl (by decide +kernel) ⟨Nat.le_of_ble_eq_true rfl, Nat.le_of_ble_eq_true rfl⟩) ⟨CP_blind, va_recv hK hw.1 (ci := 2) (q0 := 5) rfl rfl, x_preC X hw [5, 6, 7, 8, 9, 10, 11, 12] rfl (by decide) [.ref (q 0), .int p1, .int p2]⟩ rfl rfl hl.1 rfl (lv_room (Nat.le_of_ble_eq_true rfl)) dX7_isRight_6 ⟨Nat.zero_le _, Nat.zero_le _⟩) (fun H locs hw => ?_)
  obtain ⟨v3, hj, hf⟩ := b1_ob hf
  have J17_2 : ∀ (H : Heap) (locs : List Loc) (ls : Array Slot), WD D A s (wX7 cs a q S ++ wX2 cs (q 0) qP P2) H locs → lv_has ls 3 [(0, .ref a), (1, .int p1)] → W p l e rmX7_isRight s m args below meth c H locs 0 0 Q (F0 m 17 ls [.int v3]) := by
    intro H locs ls hw hl
    refine lv_aload_n (pc := 17) hx hb dX7_isRight_17 rfl (lv_at hl 0 rfl) ?_
    refine lv_iload_n (pc := 18) hx hb dX7_isRight_18 rfl (lv_at hl 1 rfl) ?_
    obtain ⟨v5, hc, hf⟩ := b1_ob hf
    refine x_cut (pc := 19) (wr := ([5, 6, 7, 8, 9, 10, 11, 12].filterMap (fun i => (wX7 cs a q S ++ wX2 cs (q 0) qP P2)[i]?))) (ws2 := wX7 cs a q S ++ wX2 cs (q 0) qP P2) X hw [0, 1, 2, 3, 4] [5, 6, 7, 8, 9, 10, 11, 12] [8, 9, 10, 11, 12, 0, 1, 2, 3, 4, 5, 6, 7] rfl rfl (by decide) (by decide) rfl (by decide) (va_runV (As := [.int p1]) (rest := [.int v3]) ⟨hx, hb, hml, hown, hts⟩ (c_X7_isTrue l D cs a q S p1 v5 hc _) (cwV 1 hts gX7_isRight_X7_isTrue rfl rfl rfl (by decide +kernel) ⟨Nat.le_of_ble_eq_true rfl, Nat.le_of_ble_eq_true rfl⟩) ⟨CP_blind, va_recv hK hw.1 (ci := 7) (q0 := 0) rfl rfl, x_preC X hw [0, 1, 2, 3, 4] rfl (by decide) [.ref a, .int p1]⟩ rfl rfl hl.1 rfl (lv_room (Nat.le_of_ble_eq_true rfl)) dX7_isRight_19 ⟨Nat.zero_le _, Nat.zero_le _⟩) (fun H locs hw => ?_)
    obtain ⟨v6, hj, hf⟩ := b1_ob hf
    have J30_5 : ∀ (H : Heap) (locs : List Loc) (ls : Array Slot), WD D A s (wX7 cs a q S ++ wX2 cs (q 0) qP P2) H locs → lv_has ls 3 [] → W p l e rmX7_isRight s m args below meth c H locs 0 0 Q (F0 m 30 ls [.int v6]) := by
      intro H locs ls hw hl
      obtain ⟨v8, ev8, hf⟩ := b1_ob hf
      refine x_topi (ckB_ob ev8).1.symm ?_
      cases hf
      exact hret _ _ 30 _ hw ⟨_, rfl, ckB_nar (ckB_ob ev8).2⟩ dX7_isRight_30
    clear hf; have hf := hj; clear hj
    refine lv_icmp_ne (pc := 22) (tgt := 29) hx hb dX7_isRight_22 (by decide) (fun c7 => ?_) (fun c7 => ?_)
    · have hf := ineg c7 hf
      refine lv_iconst (pc := 29) (v := 0) hx hb dX7_isRight_29 (by decide) ?_
      cases hf
      exact J30_5 _ _ _ hw (lv_sub hl [] rfl)
    · have hf := ipos c7 hf
      refine lv_iconst (pc := 25) (v := 1) hx hb dX7_isRight_25 (by decide) ?_
      refine lv_goto (pc := 26) (tgt := 30) hx hb dX7_isRight_26 (by decide) ?_
      cases hf
      exact J30_5 _ _ _ hw (lv_sub hl [] rfl)
  clear hf; have hf := hj; clear hj
  refine lv_if_eq (pc := 9) (tgt := 16) hx hb dX7_isRight_9 (by decide) (fun c4 => ?_) (fun c4 => ?_)
  · have hf := ipos c4 hf
    refine lv_iconst (pc := 16) (v := 0) hx hb dX7_isRight_16 (by decide) ?_
    cases hf
    exact J17_2 _ _ _ hw (lv_sub hl [0, 1] rfl)
  · have hf := ineg c4 hf
    refine lv_iconst (pc := 12) (v := 1) hx hb dX7_isRight_12 (by decide) ?_
    refine lv_goto (pc := 13) (tgt := 17) hx hb dX7_isRight_13 (by decide) ?_
    cases hf
    exact J17_2 _ _ _ hw (lv_sub hl [0, 1] rfl)

abbrev rmX7_span : Room := { frames := 0, cells := 0, slots := 0, locals := 0 }
def f_X7_span (p1 : Int32) (p2 : Int32) : Option (Int64) :=
  some (((((-1) : Int64).toUInt64 >>> ((64 - p2).toInt64.toUInt64 &&& Int64.toUInt64 63)).toInt64) <<< (p1.toInt64 &&& 63))
set_option maxHeartbeats 4000000 in
set_option maxRecDepth 100000 in
theorem c_X7_span (l : Launch) (D : va_G) (cs : CS) (p1 : Int32) (p2 : Int32) (r : Int64) (hf : f_X7_span p1 p2 = some r) : CT l D (TY cs) yX7_span wsX7_span rmX7_span [.int p1, .int p2] ([]) (some (.long r)) ([]) := by
  refine CT.ofW (own := RX7) (cc := cX7_span) (maxL := 2) (ret := some .long) (by decide) rfl rfl (Nat.le_of_ble_eq_true rfl) ?_
  intro p e s m args below meth c A Q X hret ls hl hw
  obtain ⟨hx, hb, hml, hown, hts, hK, hA, hr, hlk⟩ := id X
  have hl : lv_has ls 2 [(0, .int p1), (1, .int p2)] := hl
  unfold f_X7_span at hf
  refine lv_ldc2 (pc := 0) (v := (-1)) hx hb hown (hts _ (List.mem_of_getElem? (i := 1) rfl)) dX7_span_0 ?_
  refine lv_bipush (pc := 3) (v := 64) hx hb dX7_span_3 (by decide) ?_
  refine lv_iload_n (pc := 5) hx hb dX7_span_5 rfl (lv_at hl 1 rfl) ?_
  refine lv_isub (pc := 6) hx hb dX7_span_6 ?_
  refine lv_lushr (pc := 7) hx hb dX7_span_7 rfl ?_
  refine lv_iload_n (pc := 8) hx hb dX7_span_8 rfl (lv_at hl 0 rfl) ?_
  refine lv_lshl (pc := 9) hx hb dX7_span_9 rfl ?_
  cases hf
  exact hret _ _ 10 _ hw rfl dX7_span_10

theorem in_X7_refresh_X7 : ∀ w ∈ wsX70, w ∈ wsX7_refresh := fun _ h => List.mem_cons_of_mem _ (List.mem_append_left _ (List.mem_append_right _ h))
theorem in_X7_refresh_X2 : ∀ w ∈ wsX20, w ∈ wsX7_refresh := fun _ h => List.mem_cons_of_mem _ (List.mem_append_right _ h)
abbrev rmX7_refresh : Room := { frames := 4, cells := 0, slots := 0, locals := 94 }
def B_X7_refresh_82 (v5 : Int32) (P11 : PS) (v13 : Int64) (v16 : Int32) (S17 : PS) : Option ((Int32 × PS) ⊕ (PS)) :=
  if (P11.1 5) ≤ v16 then
    some (.inr S17)
  else
  b1 (rdI 64 (S17.2.1 5) v16) fun v19 =>
  b1 (wA 64 S17 5 v16 (v19 ||| ((((v13 >>> (v16.toInt64 &&& 63)) &&& 1).toInt32) <<< (v5 &&& 31)))) fun S20 =>
  bn (v16 + 1) fun v21 =>
  some (.inl (v21, S20))
def L_X7_refresh_82 (v5 : Int32) (P11 : PS) (v13 : Int64) (n : Nat) (v16 : Int32) (S17 : PS) : Option (PS) := loopF (fun x : Int32 × PS => B_X7_refresh_82 v5 P11 v13 x.1 x.2) n (v16, S17)
def B_X7_refresh_30 (v4 : Int64) (v5 : Int32) (S6 : PS) (P7 : PS) : Option ((Int32 × PS × PS) ⊕ (PS × PS)) :=
  b1 (f_X7_inputCount S6) fun v8 =>
  if v8 ≤ v5 then
    some (.inr (S6, P7))
  else
  b2 (f_X2_notZeroRows P7 v5) fun v10 P11 =>
  b1 (f_X7_isTrue S6 v5) fun v12 =>
  b1 (
    if v12 = 0 then
      some (v4 &&& (v10 ^^^ (-1)))
    else
    some v10) fun v13 =>
  b1 (wL 32 S6 4 v5 v13) fun S15 =>
  b1 (L_X7_refresh_82 v5 P11 v13 FU 0 S15) fun S22 =>
  bn (v5 + 1) fun v23 =>
  some (.inl (v23, S22, P11))
def L_X7_refresh_30 (v4 : Int64) (n : Nat) (v5 : Int32) (S6 : PS) (P7 : PS) : Option (PS × PS) := loopF (fun x : Int32 × PS × PS => B_X7_refresh_30 v4 x.1 x.2.1 x.2.2) n (v5, S6, P7)
def f_X7_refresh (S : PS) (P : PS) : Option (PS × PS) :=
  if (S.1 3) = 0 then
    some (S, P)
  else
  b1 (f_J7_fill_53178 64 (S.2.1 5) 0) fun f2 =>
  bn (sA S 5 f2) fun S3 =>
  b1 (f_X7_span 0 (P.1 5)) fun v4 =>
  b2 (L_X7_refresh_30 v4 FU 0 S3 P) fun S24 P25 =>
  bn (sI S24 3 0) fun S26 =>
  some (S26, P25)
set_option maxHeartbeats 4000000 in
set_option maxRecDepth 100000 in
theorem c_X7_refresh (l : Launch) (D : va_G) (cs : CS) (a : Nat) (q : Nat → Nat) (qP : Nat → Nat) (S : PS) (P : PS) (S' : PS) (P' : PS) (hf : f_X7_refresh S P = some (S', P')) : CT l D (TY cs) yX7_refresh wsX7_refresh rmX7_refresh [.ref a] (wX7 cs a q S ++ wX2 cs (q 0) qP P) none (wX7 cs a q S' ++ wX2 cs (q 0) qP P') := by
  refine CT.ofW (own := RX7) (cc := cX7_refresh) (maxL := 9) (ret := none) (by decide) rfl rfl (Nat.le_of_ble_eq_true rfl) ?_
  intro p e s m args below meth c A Q X hret ls hl hw
  obtain ⟨hx, hb, hml, hown, hts, hK, hA, hr, hlk⟩ := id X
  have hl : lv_has ls 9 [(0, .ref a)] := hl
  unfold f_X7_refresh at hf
  refine lv_aload_n (pc := 0) hx hb dX7_refresh_0 rfl (lv_at hl 0 rfl) ?_
  refine x_get (pc := 1) X hw in_X7_refresh_X7 0 rfl rfl 3 (by decide) (List.mem_of_getElem? (i := 1) rfl) rfl dX7_refresh_1 ?_
  refine lv_if_ne (pc := 4) (tgt := 8) hx hb dX7_refresh_4 (by decide) (fun c1 => ?_) (fun c1 => ?_)
  · have hf := ineg c1 hf
    refine lv_aload_n (pc := 8) hx hb dX7_refresh_8 rfl (lv_at hl 0 rfl) ?_
    refine x_get (pc := 9) X hw in_X7_refresh_X7 0 rfl rfl 5 (by decide) (List.mem_of_getElem? (i := 2) rfl) rfl dX7_refresh_9 ?_
    refine lv_iconst (pc := 12) (v := 0) hx hb dX7_refresh_12 (by decide) ?_
    obtain ⟨f2, hc, hf⟩ := b1_ob hf
    obtain ⟨S3, eS3, hf⟩ := bn_ob hf
    refine x_cut (pc := 13) (wr := ([0, 1, 3, 4, 5, 6, 7, 8, 9, 10, 11, 12].filterMap (fun i => (wX7 cs a q S ++ wX2 cs (q 0) qP P)[i]?))) (ws2 := wX7 cs a q S3 ++ wX2 cs (q 0) qP P) X hw [2] [0, 1, 3, 4, 5, 6, 7, 8, 9, 10, 11, 12] [0, 1, 12, 2, 3, 4, 5, 6, 7, 8, 9, 10, 11] rfl rfl (by decide) (by decide) (by rw [eS3]; rfl) (by decide) (va_runS (As := [.ref (q 5), .int 0]) (rest := []) ⟨hx, hb, hml, hown, hts⟩ (c_J7_fill_53178 l D cs (q 5) 64 (S.2.1 5) 0 f2 hc _) (va_cwS 2 hts gX7_refresh_J7_fill_53178 rfl rfl rfl (by decide +kernel) ⟨Nat.le_of_ble_eq_true rfl, Nat.le_of_ble_eq_true rfl⟩) ⟨CP_blind, x_preC X hw [2] rfl (by decide) [.ref (q 5), .int 0]⟩ rfl rfl hl.1 rfl (lv_room (Nat.le_of_ble_eq_true rfl)) dX7_refresh_13 ⟨Nat.zero_le _, Nat.zero_le _⟩) (fun H locs hw => ?_)
    refine lv_iconst (pc := 16) (v := 0) hx hb dX7_refresh_16 (by decide) ?_
    refine lv_aload_n (pc := 17) hx hb dX7_refresh_17 rfl (lv_at hl 0 rfl) ?_
    refine x_get (pc := 18) X hw in_X7_refresh_X7 0 rfl rfl 0 (by decide) (List.mem_of_getElem? (i := 3) rfl) rfl dX7_refresh_18 ?_
    refine x_get (pc := 21) X hw in_X7_refresh_X2 5 rfl rfl 5 (by decide) (List.mem_of_getElem? (i := 4) rfl) rfl dX7_refresh_21 ?_
    obtain ⟨v4, hc, hf⟩ := b1_ob hf
    refine x_nil (pc := 24) X hw (va_runS (As := [.int 0, .int (P.1 5)]) (rest := []) ⟨hx, hb, hml, hown, hts⟩ (c_X7_span l D cs 0 (P.1 5) v4 hc _) (va_cwS 2 hts gX7_refresh_X7_span rfl rfl rfl (by decide +kernel) ⟨Nat.le_of_ble_eq_true rfl, Nat.le_of_ble_eq_true rfl⟩) ⟨CP_blind, x_preN X [.int 0, .int (P.1 5)]⟩ rfl rfl hl.1 rfl (lv_room (Nat.le_of_ble_eq_true rfl)) dX7_refresh_24 ⟨Nat.zero_le _, Nat.zero_le _⟩) (fun H locs hw => ?_)
    refine lv_lstore_n (lv' := [(1, .long v4), (0, .ref a)]) (pc := 27) hx hb dX7_refresh_27 rfl hl (by decide) rfl (fun ls hl => ?_)
    refine lv_iconst (pc := 28) (v := 0) hx hb dX7_refresh_28 (by decide) ?_
    refine lv_istore_n (lv' := [(3, .int 0), (1, .long v4), (0, .ref a)]) (pc := 29) hx hb dX7_refresh_29 rfl hl (by decide) rfl (fun ls hl => ?_)
    have L30 : ∀ (n : Nat) (v5 : Int32) (S6 : PS) (P7 : PS) (rS6 : PS) (rP7 : PS), L_X7_refresh_30 v4 n v5 S6 P7 = some (rS6, rP7) → ∀ (H : Heap) (locs : List Loc) (ls : Array Slot), WD D A s (wX7 cs a q S6 ++ wX2 cs (q 0) qP P7) H locs → lv_has ls 9 [(0, .ref a), (1, .long v4), (3, .int v5)] → (∀ (H : Heap) (locs : List Loc) (ls : Array Slot), WD D A s (wX7 cs a q rS6 ++ wX2 cs (q 0) qP rP7) H locs → lv_has ls 9 [(0, .ref a)] → W p l e rmX7_refresh s m args below meth c H locs 0 0 Q (F0 m 126 ls [])) → W p l e rmX7_refresh s m args below meth c H locs 0 0 Q (F0 m 30 ls []) := by
      intro n
      induction n with
      | zero => intro v5 S6 P7 rS6 rP7 hf; exact (loopF_z hf).elim
      | succ n ih =>
        intro v5 S6 P7 rS6 rP7 hf H locs ls hw hl K
        obtain ⟨x, hf, hx0⟩ := loopF_ob hf
        have hf : B_X7_refresh_30 v4 v5 S6 P7 = some x := hf
        unfold B_X7_refresh_30 at hf
        refine lv_iload_n (pc := 30) hx hb dX7_refresh_30 rfl (lv_at hl 2 rfl) ?_
        refine lv_aload_n (pc := 31) hx hb dX7_refresh_31 rfl (lv_at hl 0 rfl) ?_
        obtain ⟨v8, hc, hf⟩ := b1_ob hf
        refine x_cut (pc := 32) (wr := ([5, 6, 7, 8, 9, 10, 11, 12].filterMap (fun i => (wX7 cs a q S6 ++ wX2 cs (q 0) qP P7)[i]?))) (ws2 := wX7 cs a q S6 ++ wX2 cs (q 0) qP P7) X hw [0, 1, 2, 3, 4] [5, 6, 7, 8, 9, 10, 11, 12] [8, 9, 10, 11, 12, 0, 1, 2, 3, 4, 5, 6, 7] rfl rfl (by decide) (by decide) rfl (by decide) (va_runV (As := []) (rest := [.int v5]) ⟨hx, hb, hml, hown, hts⟩ (c_X7_inputCount l D cs a q S6 v8 hc _) (cwV 0 hts gX7_refresh_X7_inputCount rfl rfl rfl (by decide +kernel) ⟨Nat.le_of_ble_eq_true rfl, Nat.le_of_ble_eq_true rfl⟩) ⟨CP_blind, va_recv hK hw.1 (ci := 7) (q0 := 0) rfl rfl, x_preC X hw [0, 1, 2, 3, 4] rfl (by decide) [.ref a]⟩ rfl rfl hl.1 rfl (lv_room (Nat.le_of_ble_eq_true rfl)) dX7_refresh_32 ⟨Nat.zero_le _, Nat.zero_le _⟩) (fun H locs hw => ?_)
        refine lv_icmp_ge (pc := 35) (tgt := 126) hx hb dX7_refresh_35 (by decide) (fun c9 => ?_) (fun c9 => ?_)
        · have hf := ipos c9 hf
          cases hf
          cases (hx0 : (S6, P7) = (rS6, rP7))
          exact K _ _ _ hw (lv_sub hl [0] rfl)
        · have hf := ineg c9 hf
          refine lv_aload_n (pc := 38) hx hb dX7_refresh_38 rfl (lv_at hl 0 rfl) ?_
          refine x_get (pc := 39) X hw in_X7_refresh_X7 0 rfl rfl 0 (by decide) (List.mem_of_getElem? (i := 3) rfl) rfl dX7_refresh_39 ?_
          refine lv_iload_n (pc := 42) hx hb dX7_refresh_42 rfl (lv_at hl 2 rfl) ?_
          obtain ⟨v10, P11, hc, hf⟩ := b2_ob hf
          refine x_cut (pc := 43) (wr := ([0, 1, 2, 3, 4].filterMap (fun i => (wX7 cs a q S6 ++ wX2 cs (q 0) qP P7)[i]?))) (ws2 := wX7 cs a q S6 ++ wX2 cs (q 0) qP P11) X hw [5, 6, 7, 8, 9, 10, 11, 12] [0, 1, 2, 3, 4] [0, 1, 2, 3, 4, 5, 6, 7, 8, 9, 10, 11, 12] rfl rfl (by decide) (by decide) rfl (by decide) (va_runV (As := [.int v5]) (rest := []) ⟨hx, hb, hml, hown, hts⟩ (c_X2_notZeroRows l D cs (q 0) qP P7 v5 v10 P11 hc _) (cwV 1 hts gX7_refresh_X2_notZeroRows rfl rfl rfl (by decide +kernel) ⟨Nat.le_of_ble_eq_true rfl, Nat.le_of_ble_eq_true rfl⟩) ⟨CP_blind, va_recv hK hw.1 (ci := 2) (q0 := 5) rfl rfl, x_preC X hw [5, 6, 7, 8, 9, 10, 11, 12] rfl (by decide) [.ref (q 0), .int v5]⟩ rfl rfl hl.1 rfl (lv_room (Nat.le_of_ble_eq_true rfl)) dX7_refresh_43 ⟨Nat.zero_le _, Nat.zero_le _⟩) (fun H locs hw => ?_)
          refine lv_lstore (lv' := [(4, .long v10), (0, .ref a), (1, .long v4), (3, .int v5)]) (pc := 46) hx hb dX7_refresh_46 hl (by decide) rfl (fun ls hl => ?_)
          refine lv_aload_n (pc := 48) hx hb dX7_refresh_48 rfl (lv_at hl 1 rfl) ?_
          refine lv_iload_n (pc := 49) hx hb dX7_refresh_49 rfl (lv_at hl 3 rfl) ?_
          obtain ⟨v12, hc, hf⟩ := b1_ob hf
          refine x_cut (pc := 50) (wr := ([5, 6, 7, 8, 9, 10, 11, 12].filterMap (fun i => (wX7 cs a q S6 ++ wX2 cs (q 0) qP P11)[i]?))) (ws2 := wX7 cs a q S6 ++ wX2 cs (q 0) qP P11) X hw [0, 1, 2, 3, 4] [5, 6, 7, 8, 9, 10, 11, 12] [8, 9, 10, 11, 12, 0, 1, 2, 3, 4, 5, 6, 7] rfl rfl (by decide) (by decide) rfl (by decide) (va_runV (As := [.int v5]) (rest := []) ⟨hx, hb, hml, hown, hts⟩ (c_X7_isTrue l D cs a q S6 v5 v12 hc _) (cwV 1 hts gX7_refresh_X7_isTrue rfl rfl rfl (by decide +kernel) ⟨Nat.le_of_ble_eq_true rfl, Nat.le_of_ble_eq_true rfl⟩) ⟨CP_blind, va_recv hK hw.1 (ci := 7) (q0 := 0) rfl rfl, x_preC X hw [0, 1, 2, 3, 4] rfl (by decide) [.ref a, .int v5]⟩ rfl rfl hl.1 rfl (lv_room (Nat.le_of_ble_eq_true rfl)) dX7_refresh_50 ⟨Nat.zero_le _, Nat.zero_le _⟩) (fun H locs hw => ?_)
          obtain ⟨v13, hj, hf⟩ := b1_ob hf
          have J69_12 : ∀ (H : Heap) (locs : List Loc) (ls : Array Slot), WD D A s (wX7 cs a q S6 ++ wX2 cs (q 0) qP P11) H locs → lv_has ls 9 [(0, .ref a), (1, .long v4), (3, .int v5)] → W p l e rmX7_refresh s m args below meth c H locs 0 0 Q (F0 m 69 ls [.long v13]) := by
            intro H locs ls hw hl
            refine lv_lstore (lv' := [(6, .long v13), (0, .ref a), (1, .long v4), (3, .int v5)]) (pc := 69) hx hb dX7_refresh_69 hl (by decide) rfl (fun ls hl => ?_)
            refine lv_aload_n (pc := 71) hx hb dX7_refresh_71 rfl (lv_at hl 1 rfl) ?_
            refine x_get (pc := 72) X hw in_X7_refresh_X7 0 rfl rfl 4 (by decide) (List.mem_of_getElem? (i := 6) rfl) rfl dX7_refresh_72 ?_
            refine lv_iload_n (pc := 75) hx hb dX7_refresh_75 rfl (lv_at hl 3 rfl) ?_
            refine lv_lload (pc := 76) hx hb dX7_refresh_76 (lv_at hl 0 rfl) ?_
            obtain ⟨S15, eS15, hf⟩ := b1_ob hf
            refine x_last (pc := 78) X hw 1 1 rfl rfl (wL_ob eS15).1 dX7_refresh_78 (ws2 := wX7 cs a q S15 ++ wX2 cs (q 0) qP P11) (by rw [(wL_ob eS15).2]; rfl) (fun H locs hw => ?_)
            refine lv_iconst (pc := 79) (v := 0) hx hb dX7_refresh_79 (by decide) ?_
            refine lv_istore (lv' := [(8, .int 0), (6, .long v13), (0, .ref a), (1, .long v4), (3, .int v5)]) (pc := 80) hx hb dX7_refresh_80 hl (by decide) rfl (fun ls hl => ?_)
            have L82 : ∀ (n : Nat) (v16 : Int32) (S17 : PS) (rS17 : PS), L_X7_refresh_82 v5 P11 v13 n v16 S17 = some rS17 → ∀ (H : Heap) (locs : List Loc) (ls : Array Slot), WD D A s (wX7 cs a q S17 ++ wX2 cs (q 0) qP P11) H locs → lv_has ls 9 [(0, .ref a), (1, .long v4), (3, .int v5), (6, .long v13), (8, .int v16)] → (∀ (H : Heap) (locs : List Loc) (ls : Array Slot), WD D A s (wX7 cs a q rS17 ++ wX2 cs (q 0) qP P11) H locs → lv_has ls 9 [(0, .ref a), (1, .long v4), (3, .int v5)] → W p l e rmX7_refresh s m args below meth c H locs 0 0 Q (F0 m 120 ls [])) → W p l e rmX7_refresh s m args below meth c H locs 0 0 Q (F0 m 82 ls []) := by
              intro n
              induction n with
              | zero => intro v16 S17 rS17 hf; exact (loopF_z hf).elim
              | succ n ih =>
                intro v16 S17 rS17 hf H locs ls hw hl K
                obtain ⟨x, hf, hx0⟩ := loopF_ob hf
                have hf : B_X7_refresh_82 v5 P11 v13 v16 S17 = some x := hf
                unfold B_X7_refresh_82 at hf
                refine lv_iload (pc := 82) hx hb dX7_refresh_82 (lv_at hl 4 rfl) ?_
                refine lv_aload_n (pc := 84) hx hb dX7_refresh_84 rfl (lv_at hl 0 rfl) ?_
                refine x_get (pc := 85) X hw in_X7_refresh_X7 0 rfl rfl 0 (by decide) (List.mem_of_getElem? (i := 3) rfl) rfl dX7_refresh_85 ?_
                refine x_get (pc := 88) X hw in_X7_refresh_X2 5 rfl rfl 5 (by decide) (List.mem_of_getElem? (i := 4) rfl) rfl dX7_refresh_88 ?_
                refine lv_icmp_ge (pc := 91) (tgt := 120) hx hb dX7_refresh_91 (by decide) (fun c18 => ?_) (fun c18 => ?_)
                · have hf := ipos c18 hf
                  cases hf
                  cases (hx0 : S17 = rS17)
                  exact K _ _ _ hw (lv_sub hl [0, 1, 2] rfl)
                · have hf := ineg c18 hf
                  refine lv_aload_n (pc := 94) hx hb dX7_refresh_94 rfl (lv_at hl 0 rfl) ?_
                  refine x_get (pc := 95) X hw in_X7_refresh_X7 0 rfl rfl 5 (by decide) (List.mem_of_getElem? (i := 2) rfl) rfl dX7_refresh_95 ?_
                  refine lv_iload (pc := 98) hx hb dX7_refresh_98 (lv_at hl 4 rfl) ?_
                  refine lv_dup2_11 (pc := 100) hx hb dX7_refresh_100 rfl rfl ?_
                  obtain ⟨v19, ev19, hf⟩ := b1_ob hf
                  refine x_iald (pc := 101) X hw 2 0 rfl rfl ev19 dX7_refresh_101 ?_
                  refine lv_lload (pc := 102) hx hb dX7_refresh_102 (lv_at hl 3 rfl) ?_
                  refine lv_iload (pc := 104) hx hb dX7_refresh_104 (lv_at hl 4 rfl) ?_
                  refine lv_lshr (pc := 106) hx hb dX7_refresh_106 rfl ?_
                  refine lv_lconst (pc := 107) (v := 1) hx hb dX7_refresh_107 (by decide) ?_
                  refine lv_land (pc := 108) hx hb dX7_refresh_108 ?_
                  refine lv_l2i (pc := 109) hx hb dX7_refresh_109 rfl ?_
                  refine lv_iload_n (pc := 110) hx hb dX7_refresh_110 rfl (lv_at hl 2 rfl) ?_
                  refine lv_ishl (pc := 111) hx hb dX7_refresh_111 ?_
                  refine lv_ior (pc := 112) hx hb dX7_refresh_112 ?_
                  obtain ⟨S20, eS20, hf⟩ := b1_ob hf
                  refine x_iast (pc := 113) X hw 2 0 rfl rfl (wA_ob eS20).1 dX7_refresh_113 (ws2 := wX7 cs a q S20 ++ wX2 cs (q 0) qP P11) (by rw [(wA_ob eS20).2]; rfl) (fun H locs hw => ?_)
                  obtain ⟨v21, ev21, hf⟩ := bn_ob hf
                  refine lv_iinc (pc := 114) (v := v21) (lv' := [(8, .int v21), (0, .ref a), (1, .long v4), (3, .int v5), (6, .long v13)]) hx hb dX7_refresh_114 hl (k := 4) rfl (by rw [ev21]; rfl) (by decide) rfl (fun ls hl => ?_)
                  refine lv_goto (pc := 117) (tgt := 82) hx hb dX7_refresh_117 (by decide) ?_
                  cases hf
                  exact ih v21 S20 rS17 hx0 _ _ _ hw (lv_sub hl [1, 2, 3, 4, 0] rfl) K
            obtain ⟨S22, hj, hf⟩ := b1_ob hf
            refine L82 _ 0 S15 S22 hj _ _ _ hw (lv_sub hl [2, 3, 4, 1, 0] rfl) (fun H locs ls hw hl => ?_)
            clear hj L82
            obtain ⟨v23, ev23, hf⟩ := bn_ob hf
            refine lv_iinc (pc := 120) (v := v23) (lv' := [(3, .int v23), (0, .ref a), (1, .long v4)]) hx hb dX7_refresh_120 hl (k := 2) rfl (by rw [ev23]; rfl) (by decide) rfl (fun ls hl => ?_)
            refine lv_goto (pc := 123) (tgt := 30) hx hb dX7_refresh_123 (by decide) ?_
            cases hf
            exact ih v23 S22 P11 rS6 rP7 hx0 _ _ _ hw (lv_sub hl [1, 2, 0] rfl) K
          clear hf; have hf := hj; clear hj
          refine lv_if_eq (pc := 53) (tgt := 61) hx hb dX7_refresh_53 (by decide) (fun c14 => ?_) (fun c14 => ?_)
          · have hf := ipos c14 hf
            refine lv_lload_n (pc := 61) hx hb dX7_refresh_61 rfl (lv_at hl 2 rfl) ?_
            refine lv_lload (pc := 62) hx hb dX7_refresh_62 (lv_at hl 0 rfl) ?_
            refine lv_ldc2 (pc := 64) (v := (-1)) hx hb hown (hts _ (List.mem_of_getElem? (i := 5) rfl)) dX7_refresh_64 ?_
            refine lv_lxor (pc := 67) hx hb dX7_refresh_67 ?_
            refine lv_land (pc := 68) hx hb dX7_refresh_68 ?_
            cases hf
            exact J69_12 _ _ _ hw (lv_sub hl [1, 2, 3] rfl)
          · have hf := ineg c14 hf
            refine lv_lload (pc := 56) hx hb dX7_refresh_56 (lv_at hl 0 rfl) ?_
            refine lv_goto (pc := 58) (tgt := 69) hx hb dX7_refresh_58 (by decide) ?_
            cases hf
            exact J69_12 _ _ _ hw (lv_sub hl [1, 2, 3] rfl)
    obtain ⟨S24, P25, hj, hf⟩ := b2_ob hf
    refine L30 _ 0 S3 P S24 P25 hj _ _ _ hw (lv_sub hl [2, 1, 0] rfl) (fun H locs ls hw hl => ?_)
    clear hj L30
    refine lv_aload_n (pc := 126) hx hb dX7_refresh_126 rfl (lv_at hl 0 rfl) ?_
    refine lv_iconst (pc := 127) (v := 0) hx hb dX7_refresh_127 (by decide) ?_
    obtain ⟨S26, eS26, hf⟩ := bn_ob hf
    refine x_put (pc := 128) X hw in_X7_refresh_X7 tyX7 tyX7_ok nmX7 0 rfl rfl 3 (by decide) (List.mem_of_getElem? (i := 1) rfl) rfl (by decide) (by decide) (Nat.le_of_ble_eq_true rfl) dX7_refresh_128 (ws2 := wX7 cs a q S26 ++ wX2 cs (q 0) qP P25) (by rw [eS26]; rfl) (fun H locs hw => ?_)
    cases hf
    exact hret _ _ 131 _ hw rfl dX7_refresh_131
  · have hf := ipos c1 hf
    cases hf
    exact hret _ _ 7 _ hw rfl dX7_refresh_7

theorem in_X7_rightCount_X7 : ∀ w ∈ wsX70, w ∈ wsX7_rightCount := fun _ h => List.mem_cons_of_mem _ (List.mem_append_right _ h)
abbrev rmX7_rightCount : Room := { frames := 1, cells := 0, slots := 0, locals := 21 }
def f_X7_rightCount (S : PS) (p1 : Int32) : Option (Int32) :=
  b1 (rdL 32 (S.2.2 4) p1) fun v1 =>
  b1 (f_J13_bitCount_95d88 v1) fun v2 =>
  some v2
set_option maxHeartbeats 4000000 in
set_option maxRecDepth 100000 in
theorem c_X7_rightCount (l : Launch) (D : va_G) (cs : CS) (a : Nat) (q : Nat → Nat) (S : PS) (p1 : Int32) (r : Int32) (hf : f_X7_rightCount S p1 = some r) : CT l D (TY cs) yX7_rightCount wsX7_rightCount rmX7_rightCount [.ref a, .int p1] (wX7 cs a q S) (some (.int r)) (wX7 cs a q S) := by
  refine CT.ofW (own := RX7) (cc := cX7_rightCount) (maxL := 2) (ret := some .int) (by decide) rfl rfl (Nat.le_of_ble_eq_true rfl) ?_
  intro p e s m args below meth c A Q X hret ls hl hw
  obtain ⟨hx, hb, hml, hown, hts, hK, hA, hr, hlk⟩ := id X
  have hl : lv_has ls 2 [(0, .ref a), (1, .int p1)] := hl
  unfold f_X7_rightCount at hf
  refine lv_aload_n (pc := 0) hx hb dX7_rightCount_0 rfl (lv_at hl 0 rfl) ?_
  refine x_get (pc := 1) X hw in_X7_rightCount_X7 0 rfl rfl 4 (by decide) (List.mem_of_getElem? (i := 1) rfl) rfl dX7_rightCount_1 ?_
  refine lv_iload_n (pc := 4) hx hb dX7_rightCount_4 rfl (lv_at hl 1 rfl) ?_
  obtain ⟨v1, ev1, hf⟩ := b1_ob hf
  refine x_lald (pc := 5) X hw 1 1 rfl rfl ev1 dX7_rightCount_5 ?_
  obtain ⟨v2, hc, hf⟩ := b1_ob hf
  refine x_nil (pc := 6) X hw (va_runS (As := [.long v1]) (rest := []) ⟨hx, hb, hml, hown, hts⟩ (c_J13_bitCount_95d88 l D cs v1 v2 hc _) (va_cwS 1 hts gX7_rightCount_J13_bitCount_95d88 rfl rfl rfl (by decide +kernel) ⟨Nat.le_of_ble_eq_true rfl, Nat.le_of_ble_eq_true rfl⟩) ⟨CP_blind, x_preN X [.long v1]⟩ rfl rfl hl.1 rfl (lv_room (Nat.le_of_ble_eq_true rfl)) dX7_rightCount_6 ⟨Nat.zero_le _, Nat.zero_le _⟩) (fun H locs hw => ?_)
  cases hf
  exact hret _ _ 9 _ hw ⟨_, rfl, rfl⟩ dX7_rightCount_9

theorem in_X7_worstInput_X7 : ∀ w ∈ wsX70, w ∈ wsX7_worstInput := fun _ h => List.mem_cons_of_mem _ (List.mem_append_right _ h)
abbrev rmX7_worstInput : Room := { frames := 2, cells := 0, slots := 0, locals := 42 }
def B_X7_worstInput_4 (S : PS) (v1 : Int32) (v2 : Int32) : Option ((Int32 × Int32) ⊕ (Int32)) :=
  b1 (f_X7_inputCount S) fun v3 =>
  if v3 ≤ v2 then
    some (.inr v1)
  else
  b1 (f_X7_rightCount S v2) fun v5 =>
  b1 (f_X7_rightCount S v1) fun v6 =>
  b1 (
    if v6 ≤ v5 then
      some v1
    else
    some v2) fun v7 =>
  bn (v2 + 1) fun v9 =>
  some (.inl (v7, v9))
def L_X7_worstInput_4 (S : PS) (n : Nat) (v1 : Int32) (v2 : Int32) : Option (Int32) := loopF (fun x : Int32 × Int32 => B_X7_worstInput_4 S x.1 x.2) n (v1, v2)
def f_X7_worstInput (S : PS) : Option (Int32) :=
  b1 (L_X7_worstInput_4 S FU 0 1) fun v10 =>
  some v10
set_option maxHeartbeats 4000000 in
set_option maxRecDepth 100000 in
theorem c_X7_worstInput (l : Launch) (D : va_G) (cs : CS) (a : Nat) (q : Nat → Nat) (S : PS) (r : Int32) (hf : f_X7_worstInput S = some r) : CT l D (TY cs) yX7_worstInput wsX7_worstInput rmX7_worstInput [.ref a] (wX7 cs a q S) (some (.int r)) (wX7 cs a q S) := by
  refine CT.ofW (own := RX7) (cc := cX7_worstInput) (maxL := 3) (ret := some .int) (by decide) rfl rfl (Nat.le_of_ble_eq_true rfl) ?_
  intro p e s m args below meth c A Q X hret ls hl hw
  obtain ⟨hx, hb, hml, hown, hts, hK, hA, hr, hlk⟩ := id X
  have hl : lv_has ls 3 [(0, .ref a)] := hl
  unfold f_X7_worstInput at hf
  refine lv_iconst (pc := 0) (v := 0) hx hb dX7_worstInput_0 (by decide) ?_
  refine lv_istore_n (lv' := [(1, .int 0), (0, .ref a)]) (pc := 1) hx hb dX7_worstInput_1 rfl hl (by decide) rfl (fun ls hl => ?_)
  refine lv_iconst (pc := 2) (v := 1) hx hb dX7_worstInput_2 (by decide) ?_
  refine lv_istore_n (lv' := [(2, .int 1), (1, .int 0), (0, .ref a)]) (pc := 3) hx hb dX7_worstInput_3 rfl hl (by decide) rfl (fun ls hl => ?_)
  have L4 : ∀ (n : Nat) (v1 : Int32) (v2 : Int32) (rv1 : Int32), L_X7_worstInput_4 S n v1 v2 = some rv1 → ∀ (H : Heap) (locs : List Loc) (ls : Array Slot), WD D A s (wX7 cs a q S) H locs → lv_has ls 3 [(0, .ref a), (1, .int v1), (2, .int v2)] → (∀ (H : Heap) (locs : List Loc) (ls : Array Slot), WD D A s (wX7 cs a q S) H locs → lv_has ls 3 [(1, .int rv1)] → W p l e rmX7_worstInput s m args below meth c H locs 0 0 Q (F0 m 33 ls [])) → W p l e rmX7_worstInput s m args below meth c H locs 0 0 Q (F0 m 4 ls []) := by
    intro n
    induction n with
    | zero => intro v1 v2 rv1 hf; exact (loopF_z hf).elim
    | succ n ih =>
      intro v1 v2 rv1 hf H locs ls hw hl K
      obtain ⟨x, hf, hx0⟩ := loopF_ob hf
      have hf : B_X7_worstInput_4 S v1 v2 = some x := hf
      unfold B_X7_worstInput_4 at hf
      refine lv_iload_n (pc := 4) hx hb dX7_worstInput_4 rfl (lv_at hl 2 rfl) ?_
      refine lv_aload_n (pc := 5) hx hb dX7_worstInput_5 rfl (lv_at hl 0 rfl) ?_
      obtain ⟨v3, hc, hf⟩ := b1_ob hf
      refine x_all (pc := 6) X hw (va_runV (As := []) (rest := [.int v2]) ⟨hx, hb, hml, hown, hts⟩ (c_X7_inputCount l D cs a q S v3 hc _) (cwV 0 hts gX7_worstInput_X7_inputCount rfl rfl rfl (by decide +kernel) ⟨Nat.le_of_ble_eq_true rfl, Nat.le_of_ble_eq_true rfl⟩) ⟨CP_blind, va_recv hK hw.1 (ci := 7) (q0 := 0) rfl rfl, x_preA X hw [.ref a]⟩ rfl rfl hl.1 rfl (lv_room (Nat.le_of_ble_eq_true rfl)) dX7_worstInput_6 ⟨Nat.zero_le _, Nat.zero_le _⟩) (fun H locs hw => ?_)
      refine lv_icmp_ge (pc := 9) (tgt := 33) hx hb dX7_worstInput_9 (by decide) (fun c4 => ?_) (fun c4 => ?_)
      · have hf := ipos c4 hf
        cases hf
        cases (hx0 : v1 = rv1)
        exact K _ _ _ hw (lv_sub hl [1] rfl)
      · have hf := ineg c4 hf
        refine lv_aload_n (pc := 12) hx hb dX7_worstInput_12 rfl (lv_at hl 0 rfl) ?_
        refine lv_iload_n (pc := 13) hx hb dX7_worstInput_13 rfl (lv_at hl 2 rfl) ?_
        obtain ⟨v5, hc, hf⟩ := b1_ob hf
        refine x_all (pc := 14) X hw (va_runV (As := [.int v2]) (rest := []) ⟨hx, hb, hml, hown, hts⟩ (c_X7_rightCount l D cs a q S v2 v5 hc _) (cwV 1 hts gX7_worstInput_X7_rightCount rfl rfl rfl (by decide +kernel) ⟨Nat.le_of_ble_eq_true rfl, Nat.le_of_ble_eq_true rfl⟩) ⟨CP_blind, va_recv hK hw.1 (ci := 7) (q0 := 0) rfl rfl, x_preA X hw [.ref a, .int v2]⟩ rfl rfl hl.1 rfl (lv_room (Nat.le_of_ble_eq_true rfl)) dX7_worstInput_14 ⟨Nat.zero_le _, Nat.zero_le _⟩) (fun H locs hw => ?_)
        refine lv_aload_n (pc := 17) hx hb dX7_worstInput_17 rfl (lv_at hl 0 rfl) ?_
        refine lv_iload_n (pc := 18) hx hb dX7_worstInput_18 rfl (lv_at hl 1 rfl) ?_
        obtain ⟨v6, hc, hf⟩ := b1_ob hf
        refine x_all (pc := 19) X hw (va_runV (As := [.int v1]) (rest := [.int v5]) ⟨hx, hb, hml, hown, hts⟩ (c_X7_rightCount l D cs a q S v1 v6 hc _) (cwV 1 hts gX7_worstInput_X7_rightCount rfl rfl rfl (by decide +kernel) ⟨Nat.le_of_ble_eq_true rfl, Nat.le_of_ble_eq_true rfl⟩) ⟨CP_blind, va_recv hK hw.1 (ci := 7) (q0 := 0) rfl rfl, x_preA X hw [.ref a, .int v1]⟩ rfl rfl hl.1 rfl (lv_room (Nat.le_of_ble_eq_true rfl)) dX7_worstInput_19 ⟨Nat.zero_le _, Nat.zero_le _⟩) (fun H locs hw => ?_)
        obtain ⟨v7, hj, hf⟩ := b1_ob hf
        have J27_6 : ∀ (H : Heap) (locs : List Loc) (ls : Array Slot), WD D A s (wX7 cs a q S) H locs → lv_has ls 3 [(0, .ref a), (1, .int v7), (2, .int v2)] → W p l e rmX7_worstInput s m args below meth c H locs 0 0 Q (F0 m 27 ls []) := by
          intro H locs ls hw hl
          obtain ⟨v9, ev9, hf⟩ := bn_ob hf
          refine lv_iinc (pc := 27) (v := v9) (lv' := [(2, .int v9), (0, .ref a), (1, .int v7)]) hx hb dX7_worstInput_27 hl (k := 2) rfl (by rw [ev9]; rfl) (by decide) rfl (fun ls hl => ?_)
          refine lv_goto (pc := 30) (tgt := 4) hx hb dX7_worstInput_30 (by decide) ?_
          cases hf
          exact ih v7 v9 rv1 hx0 _ _ _ hw (lv_sub hl [1, 2, 0] rfl) K
        clear hf; have hf := hj; clear hj
        refine lv_icmp_ge (pc := 22) (tgt := 27) hx hb dX7_worstInput_22 (by decide) (fun c8 => ?_) (fun c8 => ?_)
        · have hf := ipos c8 hf
          cases hf
          exact J27_6 _ _ _ hw (lv_sub hl [0, 1, 2] rfl)
        · have hf := ineg c8 hf
          refine lv_iload_n (pc := 25) hx hb dX7_worstInput_25 rfl (lv_at hl 2 rfl) ?_
          refine lv_istore_n (lv' := [(1, .int v2), (0, .ref a), (2, .int v2)]) (pc := 26) hx hb dX7_worstInput_26 rfl hl (by decide) rfl (fun ls hl => ?_)
          cases hf
          exact J27_6 _ _ _ hw (lv_sub hl [1, 0, 2] rfl)
  obtain ⟨v10, hj, hf⟩ := b1_ob hf
  refine L4 _ 0 1 v10 hj _ _ _ hw (lv_sub hl [2, 1, 0] rfl) (fun H locs ls hw hl => ?_)
  clear hj L4
  refine lv_iload_n (pc := 33) hx hb dX7_worstInput_33 rfl (lv_at hl 0 rfl) ?_
  cases hf
  exact hret _ _ 34 _ hw ⟨_, rfl, rfl⟩ dX7_worstInput_34

theorem in_X7_rightInputsWithin_X7 : ∀ w ∈ wsX70, w ∈ wsX7_rightInputsWithin := fun _ h => List.mem_cons_of_mem _ (List.mem_append_right _ h)
abbrev rmX7_rightInputsWithin : Room := { frames := 1, cells := 0, slots := 0, locals := 20 }
def B_X7_rightInputsWithin_5 (S : PS) (p1 : Int32) (p2 : Int32) (v1 : Int32) (v2 : Int32) : Option ((Int32 × Int32) ⊕ (Int32)) :=
  if (p1 + p2) ≤ v2 then
    some (.inr v1)
  else
  b1 (rdI 64 (S.2.1 5) v2) fun v4 =>
  b1 (f_J6_bitCount_0f7a4 v4) fun v5 =>
  bn (v1 + v5) fun v6 =>
  bn (v2 + 1) fun v7 =>
  some (.inl (v6, v7))
def L_X7_rightInputsWithin_5 (S : PS) (p1 : Int32) (p2 : Int32) (n : Nat) (v1 : Int32) (v2 : Int32) : Option (Int32) := loopF (fun x : Int32 × Int32 => B_X7_rightInputsWithin_5 S p1 p2 x.1 x.2) n (v1, v2)
def f_X7_rightInputsWithin (S : PS) (p1 : Int32) (p2 : Int32) : Option (Int32) :=
  b1 (L_X7_rightInputsWithin_5 S p1 p2 FU 0 p1) fun v8 =>
  some v8
set_option maxHeartbeats 4000000 in
set_option maxRecDepth 100000 in
theorem c_X7_rightInputsWithin (l : Launch) (D : va_G) (cs : CS) (a : Nat) (q : Nat → Nat) (S : PS) (p1 : Int32) (p2 : Int32) (r : Int32) (hf : f_X7_rightInputsWithin S p1 p2 = some r) : CT l D (TY cs) yX7_rightInputsWithin wsX7_rightInputsWithin rmX7_rightInputsWithin [.ref a, .int p1, .int p2] (wX7 cs a q S) (some (.int r)) (wX7 cs a q S) := by
  refine CT.ofW (own := RX7) (cc := cX7_rightInputsWithin) (maxL := 5) (ret := some .int) (by decide) rfl rfl (Nat.le_of_ble_eq_true rfl) ?_
  intro p e s m args below meth c A Q X hret ls hl hw
  obtain ⟨hx, hb, hml, hown, hts, hK, hA, hr, hlk⟩ := id X
  have hl : lv_has ls 5 [(0, .ref a), (1, .int p1), (2, .int p2)] := hl
  unfold f_X7_rightInputsWithin at hf
  refine lv_iconst (pc := 0) (v := 0) hx hb dX7_rightInputsWithin_0 (by decide) ?_
  refine lv_istore_n (lv' := [(3, .int 0), (0, .ref a), (1, .int p1), (2, .int p2)]) (pc := 1) hx hb dX7_rightInputsWithin_1 rfl hl (by decide) rfl (fun ls hl => ?_)
  refine lv_iload_n (pc := 2) hx hb dX7_rightInputsWithin_2 rfl (lv_at hl 2 rfl) ?_
  refine lv_istore (lv' := [(4, .int p1), (3, .int 0), (0, .ref a), (1, .int p1), (2, .int p2)]) (pc := 3) hx hb dX7_rightInputsWithin_3 hl (by decide) rfl (fun ls hl => ?_)
  have L5 : ∀ (n : Nat) (v1 : Int32) (v2 : Int32) (rv1 : Int32), L_X7_rightInputsWithin_5 S p1 p2 n v1 v2 = some rv1 → ∀ (H : Heap) (locs : List Loc) (ls : Array Slot), WD D A s (wX7 cs a q S) H locs → lv_has ls 5 [(0, .ref a), (1, .int p1), (2, .int p2), (3, .int v1), (4, .int v2)] → (∀ (H : Heap) (locs : List Loc) (ls : Array Slot), WD D A s (wX7 cs a q S) H locs → lv_has ls 5 [(3, .int rv1)] → W p l e rmX7_rightInputsWithin s m args below meth c H locs 0 0 Q (F0 m 32 ls [])) → W p l e rmX7_rightInputsWithin s m args below meth c H locs 0 0 Q (F0 m 5 ls []) := by
    intro n
    induction n with
    | zero => intro v1 v2 rv1 hf; exact (loopF_z hf).elim
    | succ n ih =>
      intro v1 v2 rv1 hf H locs ls hw hl K
      obtain ⟨x, hf, hx0⟩ := loopF_ob hf
      have hf : B_X7_rightInputsWithin_5 S p1 p2 v1 v2 = some x := hf
      unfold B_X7_rightInputsWithin_5 at hf
      refine lv_iload (pc := 5) hx hb dX7_rightInputsWithin_5 (lv_at hl 4 rfl) ?_
      refine lv_iload_n (pc := 7) hx hb dX7_rightInputsWithin_7 rfl (lv_at hl 1 rfl) ?_
      refine lv_iload_n (pc := 8) hx hb dX7_rightInputsWithin_8 rfl (lv_at hl 2 rfl) ?_
      refine lv_iadd (pc := 9) hx hb dX7_rightInputsWithin_9 ?_
      refine lv_icmp_ge (pc := 10) (tgt := 32) hx hb dX7_rightInputsWithin_10 (by decide) (fun c3 => ?_) (fun c3 => ?_)
      · have hf := ipos c3 hf
        cases hf
        cases (hx0 : v1 = rv1)
        exact K _ _ _ hw (lv_sub hl [3] rfl)
      · have hf := ineg c3 hf
        refine lv_iload_n (pc := 13) hx hb dX7_rightInputsWithin_13 rfl (lv_at hl 3 rfl) ?_
        refine lv_aload_n (pc := 14) hx hb dX7_rightInputsWithin_14 rfl (lv_at hl 0 rfl) ?_
        refine x_get (pc := 15) X hw in_X7_rightInputsWithin_X7 0 rfl rfl 5 (by decide) (List.mem_of_getElem? (i := 1) rfl) rfl dX7_rightInputsWithin_15 ?_
        refine lv_iload (pc := 18) hx hb dX7_rightInputsWithin_18 (lv_at hl 4 rfl) ?_
        obtain ⟨v4, ev4, hf⟩ := b1_ob hf
        refine x_iald (pc := 20) X hw 2 0 rfl rfl ev4 dX7_rightInputsWithin_20 ?_
        obtain ⟨v5, hc, hf⟩ := b1_ob hf
        refine x_nil (pc := 21) X hw (va_runS (As := [.int v4]) (rest := [.int v1]) ⟨hx, hb, hml, hown, hts⟩ (c_J6_bitCount_0f7a4 l D cs v4 v5 hc _) (va_cwS 1 hts gX7_rightInputsWithin_J6_bitCount_0f7a4 rfl rfl rfl (by decide +kernel) ⟨Nat.le_of_ble_eq_true rfl, Nat.le_of_ble_eq_true rfl⟩) ⟨CP_blind, x_preN X [.int v4]⟩ rfl rfl hl.1 rfl (lv_room (Nat.le_of_ble_eq_true rfl)) dX7_rightInputsWithin_21 ⟨Nat.zero_le _, Nat.zero_le _⟩) (fun H locs hw => ?_)
        refine lv_iadd (pc := 24) hx hb dX7_rightInputsWithin_24 ?_
        obtain ⟨v6, ev6, hf⟩ := bn_ob hf
        refine x_topi ev6 ?_
        refine lv_istore_n (lv' := [(3, .int v6), (0, .ref a), (1, .int p1), (2, .int p2), (4, .int v2)]) (pc := 25) hx hb dX7_rightInputsWithin_25 rfl hl (by decide) rfl (fun ls hl => ?_)
        obtain ⟨v7, ev7, hf⟩ := bn_ob hf
        refine lv_iinc (pc := 26) (v := v7) (lv' := [(4, .int v7), (3, .int v6), (0, .ref a), (1, .int p1), (2, .int p2)]) hx hb dX7_rightInputsWithin_26 hl (k := 4) rfl (by rw [ev7]; rfl) (by decide) rfl (fun ls hl => ?_)
        refine lv_goto (pc := 29) (tgt := 5) hx hb dX7_rightInputsWithin_29 (by decide) ?_
        cases hf
        exact ih v6 v7 rv1 hx0 _ _ _ hw (lv_sub hl [2, 3, 4, 1, 0] rfl) K
  obtain ⟨v8, hj, hf⟩ := b1_ob hf
  refine L5 _ 0 p1 v8 hj _ _ _ hw (lv_sub hl [2, 3, 4, 1, 0] rfl) (fun H locs ls hw hl => ?_)
  clear hj L5
  refine lv_iload_n (pc := 32) hx hb dX7_rightInputsWithin_32 rfl (lv_at hl 0 rfl) ?_
  cases hf
  exact hret _ _ 33 _ hw ⟨_, rfl, rfl⟩ dX7_rightInputsWithin_33

theorem in_X7_waysOf_X7 : ∀ w ∈ wsX70, w ∈ wsX7_waysOf := fun _ h => List.mem_cons_of_mem _ (List.mem_append_left _ (List.mem_append_right _ h))
theorem in_X7_waysOf_X2 : ∀ w ∈ wsX20, w ∈ wsX7_waysOf := fun _ h => List.mem_cons_of_mem _ (List.mem_append_right _ h)
abbrev rmX7_waysOf : Room := { frames := 0, cells := 0, slots := 0, locals := 0 }
def B_X7_waysOf_5 (P : PS) (p2 : Int32) (v1 : Int32) (v2 : Int32) : Option ((Int32 × Int32) ⊕ (Int32)) :=
  if p2 ≤ v2 then
    some (.inr v1)
  else
  b1 (rdI 6 (P.2.1 6) v2) fun v4 =>
  bn (v1 * v4) fun v5 =>
  bn (v2 + 1) fun v6 =>
  some (.inl (v5, v6))
def L_X7_waysOf_5 (P : PS) (p2 : Int32) (n : Nat) (v1 : Int32) (v2 : Int32) : Option (Int32) := loopF (fun x : Int32 × Int32 => B_X7_waysOf_5 P p2 x.1 x.2) n (v1, v2)
def f_X7_waysOf (S : PS) (P : PS) (p1 : Int32) (p2 : Int32) : Option (Int32) :=
  b1 (L_X7_waysOf_5 P p2 FU 1 p1) fun v7 =>
  some v7
set_option maxHeartbeats 4000000 in
set_option maxRecDepth 100000 in
theorem c_X7_waysOf (l : Launch) (D : va_G) (cs : CS) (a : Nat) (q : Nat → Nat) (qP : Nat → Nat) (S : PS) (P : PS) (p1 : Int32) (p2 : Int32) (r : Int32) (hf : f_X7_waysOf S P p1 p2 = some r) : CT l D (TY cs) yX7_waysOf wsX7_waysOf rmX7_waysOf [.ref a, .int p1, .int p2] (wX7 cs a q S ++ wX2 cs (q 0) qP P) (some (.int r)) (wX7 cs a q S ++ wX2 cs (q 0) qP P) := by
  refine CT.ofW (own := RX7) (cc := cX7_waysOf) (maxL := 5) (ret := some .int) (by decide) rfl rfl (Nat.le_of_ble_eq_true rfl) ?_
  intro p e s m args below meth c A Q X hret ls hl hw
  obtain ⟨hx, hb, hml, hown, hts, hK, hA, hr, hlk⟩ := id X
  have hl : lv_has ls 5 [(0, .ref a), (1, .int p1), (2, .int p2)] := hl
  unfold f_X7_waysOf at hf
  refine lv_iconst (pc := 0) (v := 1) hx hb dX7_waysOf_0 (by decide) ?_
  refine lv_istore_n (lv' := [(3, .int 1), (0, .ref a), (1, .int p1), (2, .int p2)]) (pc := 1) hx hb dX7_waysOf_1 rfl hl (by decide) rfl (fun ls hl => ?_)
  refine lv_iload_n (pc := 2) hx hb dX7_waysOf_2 rfl (lv_at hl 2 rfl) ?_
  refine lv_istore (lv' := [(4, .int p1), (3, .int 1), (0, .ref a), (1, .int p1), (2, .int p2)]) (pc := 3) hx hb dX7_waysOf_3 hl (by decide) rfl (fun ls hl => ?_)
  have L5 : ∀ (n : Nat) (v1 : Int32) (v2 : Int32) (rv1 : Int32), L_X7_waysOf_5 P p2 n v1 v2 = some rv1 → ∀ (H : Heap) (locs : List Loc) (ls : Array Slot), WD D A s (wX7 cs a q S ++ wX2 cs (q 0) qP P) H locs → lv_has ls 5 [(0, .ref a), (2, .int p2), (3, .int v1), (4, .int v2)] → (∀ (H : Heap) (locs : List Loc) (ls : Array Slot), WD D A s (wX7 cs a q S ++ wX2 cs (q 0) qP P) H locs → lv_has ls 5 [(3, .int rv1)] → W p l e rmX7_waysOf s m args below meth c H locs 0 0 Q (F0 m 30 ls [])) → W p l e rmX7_waysOf s m args below meth c H locs 0 0 Q (F0 m 5 ls []) := by
    intro n
    induction n with
    | zero => intro v1 v2 rv1 hf; exact (loopF_z hf).elim
    | succ n ih =>
      intro v1 v2 rv1 hf H locs ls hw hl K
      obtain ⟨x, hf, hx0⟩ := loopF_ob hf
      have hf : B_X7_waysOf_5 P p2 v1 v2 = some x := hf
      unfold B_X7_waysOf_5 at hf
      refine lv_iload (pc := 5) hx hb dX7_waysOf_5 (lv_at hl 3 rfl) ?_
      refine lv_iload_n (pc := 7) hx hb dX7_waysOf_7 rfl (lv_at hl 1 rfl) ?_
      refine lv_icmp_ge (pc := 8) (tgt := 30) hx hb dX7_waysOf_8 (by decide) (fun c3 => ?_) (fun c3 => ?_)
      · have hf := ipos c3 hf
        cases hf
        cases (hx0 : v1 = rv1)
        exact K _ _ _ hw (lv_sub hl [2] rfl)
      · have hf := ineg c3 hf
        refine lv_iload_n (pc := 11) hx hb dX7_waysOf_11 rfl (lv_at hl 2 rfl) ?_
        refine lv_aload_n (pc := 12) hx hb dX7_waysOf_12 rfl (lv_at hl 0 rfl) ?_
        refine x_get (pc := 13) X hw in_X7_waysOf_X7 0 rfl rfl 0 (by decide) (List.mem_of_getElem? (i := 1) rfl) rfl dX7_waysOf_13 ?_
        refine x_get (pc := 16) X hw in_X7_waysOf_X2 5 rfl rfl 6 (by decide) (List.mem_of_getElem? (i := 2) rfl) rfl dX7_waysOf_16 ?_
        refine lv_iload (pc := 19) hx hb dX7_waysOf_19 (lv_at hl 3 rfl) ?_
        obtain ⟨v4, ev4, hf⟩ := b1_ob hf
        refine x_iald (pc := 21) X hw 9 0 rfl rfl ev4 dX7_waysOf_21 ?_
        refine lv_imul (pc := 22) hx hb dX7_waysOf_22 ?_
        obtain ⟨v5, ev5, hf⟩ := bn_ob hf
        refine x_topi ev5 ?_
        refine lv_istore_n (lv' := [(3, .int v5), (0, .ref a), (2, .int p2), (4, .int v2)]) (pc := 23) hx hb dX7_waysOf_23 rfl hl (by decide) rfl (fun ls hl => ?_)
        obtain ⟨v6, ev6, hf⟩ := bn_ob hf
        refine lv_iinc (pc := 24) (v := v6) (lv' := [(4, .int v6), (3, .int v5), (0, .ref a), (2, .int p2)]) hx hb dX7_waysOf_24 hl (k := 3) rfl (by rw [ev6]; rfl) (by decide) rfl (fun ls hl => ?_)
        refine lv_goto (pc := 27) (tgt := 5) hx hb dX7_waysOf_27 (by decide) ?_
        cases hf
        exact ih v5 v6 rv1 hx0 _ _ _ hw (lv_sub hl [2, 3, 1, 0] rfl) K
  obtain ⟨v7, hj, hf⟩ := b1_ob hf
  refine L5 _ 1 p1 v7 hj _ _ _ hw (lv_sub hl [2, 4, 1, 0] rfl) (fun H locs ls hw hl => ?_)
  clear hj L5
  refine lv_iload_n (pc := 30) hx hb dX7_waysOf_30 rfl (lv_at hl 0 rfl) ?_
  cases hf
  exact hret _ _ 31 _ hw ⟨_, rfl, rfl⟩ dX7_waysOf_31

theorem in_X7_leastWithin_X7 : ∀ w ∈ wsX70, w ∈ wsX7_leastWithin := fun _ h => List.mem_cons_of_mem _ (List.mem_append_right _ h)
abbrev rmX7_leastWithin : Room := { frames := 1, cells := 0, slots := 0, locals := 23 }
def B_X7_leastWithin_6 (S : PS) (p1 : Int64) (v1 : Int32) (v2 : Int32) : Option ((Int32 × Int32) ⊕ (Int32)) :=
  b1 (f_X7_inputCount S) fun v3 =>
  if v3 ≤ v2 then
    some (.inr v1)
  else
  b1 (rdL 32 (S.2.2 4) v2) fun v5 =>
  b1 (f_J13_bitCount_95d88 (v5 &&& p1)) fun v6 =>
  bn (if v6 < v1 then v6 else v1) fun v7 =>
  bn (v2 + 1) fun v8 =>
  some (.inl (v7, v8))
def L_X7_leastWithin_6 (S : PS) (p1 : Int64) (n : Nat) (v1 : Int32) (v2 : Int32) : Option (Int32) := loopF (fun x : Int32 × Int32 => B_X7_leastWithin_6 S p1 x.1 x.2) n (v1, v2)
def f_X7_leastWithin (S : PS) (p1 : Int64) : Option (Int32) :=
  b1 (L_X7_leastWithin_6 S p1 FU 64 0) fun v9 =>
  some v9
set_option maxHeartbeats 4000000 in
set_option maxRecDepth 100000 in
theorem c_X7_leastWithin (l : Launch) (D : va_G) (cs : CS) (a : Nat) (q : Nat → Nat) (S : PS) (p1 : Int64) (r : Int32) (hf : f_X7_leastWithin S p1 = some r) : CT l D (TY cs) yX7_leastWithin wsX7_leastWithin rmX7_leastWithin [.ref a, .long p1] (wX7 cs a q S) (some (.int r)) (wX7 cs a q S) := by
  refine CT.ofW (own := RX7) (cc := cX7_leastWithin) (maxL := 5) (ret := some .int) (by decide) rfl rfl (Nat.le_of_ble_eq_true rfl) ?_
  intro p e s m args below meth c A Q X hret ls hl hw
  obtain ⟨hx, hb, hml, hown, hts, hK, hA, hr, hlk⟩ := id X
  have hl : lv_has ls 5 [(0, .ref a), (1, .long p1)] := hl
  unfold f_X7_leastWithin at hf
  refine lv_bipush (pc := 0) (v := 64) hx hb dX7_leastWithin_0 (by decide) ?_
  refine lv_istore_n (lv' := [(3, .int 64), (0, .ref a), (1, .long p1)]) (pc := 2) hx hb dX7_leastWithin_2 rfl hl (by decide) rfl (fun ls hl => ?_)
  refine lv_iconst (pc := 3) (v := 0) hx hb dX7_leastWithin_3 (by decide) ?_
  refine lv_istore (lv' := [(4, .int 0), (3, .int 64), (0, .ref a), (1, .long p1)]) (pc := 4) hx hb dX7_leastWithin_4 hl (by decide) rfl (fun ls hl => ?_)
  have L6 : ∀ (n : Nat) (v1 : Int32) (v2 : Int32) (rv1 : Int32), L_X7_leastWithin_6 S p1 n v1 v2 = some rv1 → ∀ (H : Heap) (locs : List Loc) (ls : Array Slot), WD D A s (wX7 cs a q S) H locs → lv_has ls 5 [(0, .ref a), (1, .long p1), (3, .int v1), (4, .int v2)] → (∀ (H : Heap) (locs : List Loc) (ls : Array Slot), WD D A s (wX7 cs a q S) H locs → lv_has ls 5 [(3, .int rv1)] → W p l e rmX7_leastWithin s m args below meth c H locs 0 0 Q (F0 m 38 ls [])) → W p l e rmX7_leastWithin s m args below meth c H locs 0 0 Q (F0 m 6 ls []) := by
    intro n
    induction n with
    | zero => intro v1 v2 rv1 hf; exact (loopF_z hf).elim
    | succ n ih =>
      intro v1 v2 rv1 hf H locs ls hw hl K
      obtain ⟨x, hf, hx0⟩ := loopF_ob hf
      have hf : B_X7_leastWithin_6 S p1 v1 v2 = some x := hf
      unfold B_X7_leastWithin_6 at hf
      refine lv_iload (pc := 6) hx hb dX7_leastWithin_6 (lv_at hl 3 rfl) ?_
      refine lv_aload_n (pc := 8) hx hb dX7_leastWithin_8 rfl (lv_at hl 0 rfl) ?_
      obtain ⟨v3, hc, hf⟩ := b1_ob hf
      refine x_all (pc := 9) X hw (va_runV (As := []) (rest := [.int v2]) ⟨hx, hb, hml, hown, hts⟩ (c_X7_inputCount l D cs a q S v3 hc _) (cwV 0 hts gX7_leastWithin_X7_inputCount rfl rfl rfl (by decide +kernel) ⟨Nat.le_of_ble_eq_true rfl, Nat.le_of_ble_eq_true rfl⟩) ⟨CP_blind, va_recv hK hw.1 (ci := 7) (q0 := 0) rfl rfl, x_preA X hw [.ref a]⟩ rfl rfl hl.1 rfl (lv_room (Nat.le_of_ble_eq_true rfl)) dX7_leastWithin_9 ⟨Nat.zero_le _, Nat.zero_le _⟩) (fun H locs hw => ?_)
      refine lv_icmp_ge (pc := 12) (tgt := 38) hx hb dX7_leastWithin_12 (by decide) (fun c4 => ?_) (fun c4 => ?_)
      · have hf := ipos c4 hf
        cases hf
        cases (hx0 : v1 = rv1)
        exact K _ _ _ hw (lv_sub hl [2] rfl)
      · have hf := ineg c4 hf
        refine lv_iload_n (pc := 15) hx hb dX7_leastWithin_15 rfl (lv_at hl 2 rfl) ?_
        refine lv_aload_n (pc := 16) hx hb dX7_leastWithin_16 rfl (lv_at hl 0 rfl) ?_
        refine x_get (pc := 17) X hw in_X7_leastWithin_X7 0 rfl rfl 4 (by decide) (List.mem_of_getElem? (i := 1) rfl) rfl dX7_leastWithin_17 ?_
        refine lv_iload (pc := 20) hx hb dX7_leastWithin_20 (lv_at hl 3 rfl) ?_
        obtain ⟨v5, ev5, hf⟩ := b1_ob hf
        refine x_lald (pc := 22) X hw 1 1 rfl rfl ev5 dX7_leastWithin_22 ?_
        refine lv_lload_n (pc := 23) hx hb dX7_leastWithin_23 rfl (lv_at hl 1 rfl) ?_
        refine lv_land (pc := 24) hx hb dX7_leastWithin_24 ?_
        obtain ⟨v6, hc, hf⟩ := b1_ob hf
        refine x_nil (pc := 25) X hw (va_runS (As := [.long (v5 &&& p1)]) (rest := [.int v1]) ⟨hx, hb, hml, hown, hts⟩ (c_J13_bitCount_95d88 l D cs (v5 &&& p1) v6 hc _) (va_cwS 1 hts gX7_leastWithin_J13_bitCount_95d88 rfl rfl rfl (by decide +kernel) ⟨Nat.le_of_ble_eq_true rfl, Nat.le_of_ble_eq_true rfl⟩) ⟨CP_blind, x_preN X [.long (v5 &&& p1)]⟩ rfl rfl hl.1 rfl (lv_room (Nat.le_of_ble_eq_true rfl)) dX7_leastWithin_25 ⟨Nat.zero_le _, Nat.zero_le _⟩) (fun H locs hw => ?_)
        refine va_mmin (pc := 28) hx hb (hml.trans hl.1.symm) hown (hts _ (List.mem_of_getElem? (i := 2) rfl)) (hts _ (List.mem_of_getElem? (i := 3) rfl)) (hts _ (List.mem_of_getElem? (i := 4) rfl)) (hts _ (List.mem_of_getElem? (i := 5) rfl)) (Nat.le_of_ble_eq_true rfl) (Nat.le_of_ble_eq_true rfl) (Nat.zero_le _) (Nat.zero_le _) dX7_leastWithin_28 ?_
        obtain ⟨v7, ev7, hf⟩ := bn_ob hf
        refine x_topi ev7 ?_
        refine lv_istore_n (lv' := [(3, .int v7), (0, .ref a), (1, .long p1), (4, .int v2)]) (pc := 31) hx hb dX7_leastWithin_31 rfl hl (by decide) rfl (fun ls hl => ?_)
        obtain ⟨v8, ev8, hf⟩ := bn_ob hf
        refine lv_iinc (pc := 32) (v := v8) (lv' := [(4, .int v8), (3, .int v7), (0, .ref a), (1, .long p1)]) hx hb dX7_leastWithin_32 hl (k := 3) rfl (by rw [ev8]; rfl) (by decide) rfl (fun ls hl => ?_)
        refine lv_goto (pc := 35) (tgt := 6) hx hb dX7_leastWithin_35 (by decide) ?_
        cases hf
        exact ih v7 v8 rv1 hx0 _ _ _ hw (lv_sub hl [2, 3, 1, 0] rfl) K
  obtain ⟨v9, hj, hf⟩ := b1_ob hf
  refine L6 _ 64 0 v9 hj _ _ _ hw (lv_sub hl [2, 3, 1, 0] rfl) (fun H locs ls hw hl => ?_)
  clear hj L6
  refine lv_iload_n (pc := 38) hx hb dX7_leastWithin_38 rfl (lv_at hl 0 rfl) ?_
  cases hf
  exact hret _ _ 39 _ hw ⟨_, rfl, rfl⟩ dX7_leastWithin_39

theorem in_X7_rightBeforeEnemy_X7 : ∀ w ∈ wsX70, w ∈ wsX7_rightBeforeEnemy := fun _ h => List.mem_cons_of_mem _ (List.mem_append_left _ (List.mem_append_right _ h))
theorem in_X7_rightBeforeEnemy_X2 : ∀ w ∈ wsX20, w ∈ wsX7_rightBeforeEnemy := fun _ h => List.mem_cons_of_mem _ (List.mem_append_right _ h)
abbrev rmX7_rightBeforeEnemy : Room := { frames := 2, cells := 0, slots := 0, locals := 47 }
def B_X7_rightBeforeEnemy_26 (S : PS) (v1 : Int32) (v2 : Int32) (v3 : Int32) (v4 : Int32) : Option ((Int32 × Int32) ⊕ (Int32)) :=
  if v1 ≤ v4 then
    some (.inr v3)
  else
  b1 (f_X7_span (v4 * v2) v2) fun v6 =>
  b1 (f_X7_leastWithin S v6) fun v7 =>
  bn (v3 + v7) fun v8 =>
  bn (v4 + 1) fun v9 =>
  some (.inl (v8, v9))
def L_X7_rightBeforeEnemy_26 (S : PS) (v1 : Int32) (v2 : Int32) (n : Nat) (v3 : Int32) (v4 : Int32) : Option (Int32) := loopF (fun x : Int32 × Int32 => B_X7_rightBeforeEnemy_26 S v1 v2 x.1 x.2) n (v3, v4)
def f_X7_rightBeforeEnemy (S : PS) (P : PS) (p1 : Int32) : Option (Int32) :=
  b1 (f_X7_waysOf S P 0 p1) fun v1 =>
  b1 (f_X7_waysOf S P p1 (P.1 4)) fun v2 =>
  b1 (L_X7_rightBeforeEnemy_26 S v1 v2 FU 0 0) fun v10 =>
  some v10
set_option maxHeartbeats 4000000 in
set_option maxRecDepth 100000 in
theorem c_X7_rightBeforeEnemy (l : Launch) (D : va_G) (cs : CS) (a : Nat) (q : Nat → Nat) (qP : Nat → Nat) (S : PS) (P : PS) (p1 : Int32) (r : Int32) (hf : f_X7_rightBeforeEnemy S P p1 = some r) : CT l D (TY cs) yX7_rightBeforeEnemy wsX7_rightBeforeEnemy rmX7_rightBeforeEnemy [.ref a, .int p1] (wX7 cs a q S ++ wX2 cs (q 0) qP P) (some (.int r)) (wX7 cs a q S ++ wX2 cs (q 0) qP P) := by
  refine CT.ofW (own := RX7) (cc := cX7_rightBeforeEnemy) (maxL := 6) (ret := some .int) (by decide) rfl rfl (Nat.le_of_ble_eq_true rfl) ?_
  intro p e s m args below meth c A Q X hret ls hl hw
  obtain ⟨hx, hb, hml, hown, hts, hK, hA, hr, hlk⟩ := id X
  have hl : lv_has ls 6 [(0, .ref a), (1, .int p1)] := hl
  unfold f_X7_rightBeforeEnemy at hf
  refine lv_aload_n (pc := 0) hx hb dX7_rightBeforeEnemy_0 rfl (lv_at hl 0 rfl) ?_
  refine lv_iconst (pc := 1) (v := 0) hx hb dX7_rightBeforeEnemy_1 (by decide) ?_
  refine lv_iload_n (pc := 2) hx hb dX7_rightBeforeEnemy_2 rfl (lv_at hl 1 rfl) ?_
  obtain ⟨v1, hc, hf⟩ := b1_ob hf
  refine x_all (pc := 3) X hw (va_runV (As := [.int 0, .int p1]) (rest := []) ⟨hx, hb, hml, hown, hts⟩ (c_X7_waysOf l D cs a q qP S P 0 p1 v1 hc _) (cwV 2 hts gX7_rightBeforeEnemy_X7_waysOf rfl rfl rfl (by decide +kernel) ⟨Nat.le_of_ble_eq_true rfl, Nat.le_of_ble_eq_true rfl⟩) ⟨CP_blind, va_recv hK hw.1 (ci := 7) (q0 := 0) rfl rfl, x_preA X hw [.ref a, .int 0, .int p1]⟩ rfl rfl hl.1 rfl (lv_room (Nat.le_of_ble_eq_true rfl)) dX7_rightBeforeEnemy_3 ⟨Nat.zero_le _, Nat.zero_le _⟩) (fun H locs hw => ?_)
  refine lv_istore_n (lv' := [(2, .int v1), (0, .ref a), (1, .int p1)]) (pc := 6) hx hb dX7_rightBeforeEnemy_6 rfl hl (by decide) rfl (fun ls hl => ?_)
  refine lv_aload_n (pc := 7) hx hb dX7_rightBeforeEnemy_7 rfl (lv_at hl 1 rfl) ?_
  refine lv_iload_n (pc := 8) hx hb dX7_rightBeforeEnemy_8 rfl (lv_at hl 2 rfl) ?_
  refine lv_aload_n (pc := 9) hx hb dX7_rightBeforeEnemy_9 rfl (lv_at hl 1 rfl) ?_
  refine x_get (pc := 10) X hw in_X7_rightBeforeEnemy_X7 0 rfl rfl 0 (by decide) (List.mem_of_getElem? (i := 1) rfl) rfl dX7_rightBeforeEnemy_10 ?_
  refine x_get (pc := 13) X hw in_X7_rightBeforeEnemy_X2 5 rfl rfl 4 (by decide) (List.mem_of_getElem? (i := 2) rfl) rfl dX7_rightBeforeEnemy_13 ?_
  obtain ⟨v2, hc, hf⟩ := b1_ob hf
  refine x_all (pc := 16) X hw (va_runV (As := [.int p1, .int (P.1 4)]) (rest := []) ⟨hx, hb, hml, hown, hts⟩ (c_X7_waysOf l D cs a q qP S P p1 (P.1 4) v2 hc _) (cwV 2 hts gX7_rightBeforeEnemy_X7_waysOf rfl rfl rfl (by decide +kernel) ⟨Nat.le_of_ble_eq_true rfl, Nat.le_of_ble_eq_true rfl⟩) ⟨CP_blind, va_recv hK hw.1 (ci := 7) (q0 := 0) rfl rfl, x_preA X hw [.ref a, .int p1, .int (P.1 4)]⟩ rfl rfl hl.1 rfl (lv_room (Nat.le_of_ble_eq_true rfl)) dX7_rightBeforeEnemy_16 ⟨Nat.zero_le _, Nat.zero_le _⟩) (fun H locs hw => ?_)
  refine lv_istore_n (lv' := [(3, .int v2), (2, .int v1), (0, .ref a), (1, .int p1)]) (pc := 19) hx hb dX7_rightBeforeEnemy_19 rfl hl (by decide) rfl (fun ls hl => ?_)
  refine lv_iconst (pc := 20) (v := 0) hx hb dX7_rightBeforeEnemy_20 (by decide) ?_
  refine lv_istore (lv' := [(4, .int 0), (3, .int v2), (2, .int v1), (0, .ref a), (1, .int p1)]) (pc := 21) hx hb dX7_rightBeforeEnemy_21 hl (by decide) rfl (fun ls hl => ?_)
  refine lv_iconst (pc := 23) (v := 0) hx hb dX7_rightBeforeEnemy_23 (by decide) ?_
  refine lv_istore (lv' := [(5, .int 0), (4, .int 0), (3, .int v2), (2, .int v1), (0, .ref a), (1, .int p1)]) (pc := 24) hx hb dX7_rightBeforeEnemy_24 hl (by decide) rfl (fun ls hl => ?_)
  have L26 : ∀ (n : Nat) (v3 : Int32) (v4 : Int32) (rv3 : Int32), L_X7_rightBeforeEnemy_26 S v1 v2 n v3 v4 = some rv3 → ∀ (H : Heap) (locs : List Loc) (ls : Array Slot), WD D A s (wX7 cs a q S ++ wX2 cs (q 0) qP P) H locs → lv_has ls 6 [(0, .ref a), (2, .int v1), (3, .int v2), (4, .int v3), (5, .int v4)] → (∀ (H : Heap) (locs : List Loc) (ls : Array Slot), WD D A s (wX7 cs a q S ++ wX2 cs (q 0) qP P) H locs → lv_has ls 6 [(4, .int rv3)] → W p l e rmX7_rightBeforeEnemy s m args below meth c H locs 0 0 Q (F0 m 55 ls [])) → W p l e rmX7_rightBeforeEnemy s m args below meth c H locs 0 0 Q (F0 m 26 ls []) := by
    intro n
    induction n with
    | zero => intro v3 v4 rv3 hf; exact (loopF_z hf).elim
    | succ n ih =>
      intro v3 v4 rv3 hf H locs ls hw hl K
      obtain ⟨x, hf, hx0⟩ := loopF_ob hf
      have hf : B_X7_rightBeforeEnemy_26 S v1 v2 v3 v4 = some x := hf
      unfold B_X7_rightBeforeEnemy_26 at hf
      refine lv_iload (pc := 26) hx hb dX7_rightBeforeEnemy_26 (lv_at hl 4 rfl) ?_
      refine lv_iload_n (pc := 28) hx hb dX7_rightBeforeEnemy_28 rfl (lv_at hl 1 rfl) ?_
      refine lv_icmp_ge (pc := 29) (tgt := 55) hx hb dX7_rightBeforeEnemy_29 (by decide) (fun c5 => ?_) (fun c5 => ?_)
      · have hf := ipos c5 hf
        cases hf
        cases (hx0 : v3 = rv3)
        exact K _ _ _ hw (lv_sub hl [3] rfl)
      · have hf := ineg c5 hf
        refine lv_iload (pc := 32) hx hb dX7_rightBeforeEnemy_32 (lv_at hl 3 rfl) ?_
        refine lv_aload_n (pc := 34) hx hb dX7_rightBeforeEnemy_34 rfl (lv_at hl 0 rfl) ?_
        refine lv_iload (pc := 35) hx hb dX7_rightBeforeEnemy_35 (lv_at hl 4 rfl) ?_
        refine lv_iload_n (pc := 37) hx hb dX7_rightBeforeEnemy_37 rfl (lv_at hl 2 rfl) ?_
        refine lv_imul (pc := 38) hx hb dX7_rightBeforeEnemy_38 ?_
        refine lv_iload_n (pc := 39) hx hb dX7_rightBeforeEnemy_39 rfl (lv_at hl 2 rfl) ?_
        obtain ⟨v6, hc, hf⟩ := b1_ob hf
        refine x_nil (pc := 40) X hw (va_runS (As := [.int (v4 * v2), .int v2]) (rest := [.ref a, .int v3]) ⟨hx, hb, hml, hown, hts⟩ (c_X7_span l D cs (v4 * v2) v2 v6 hc _) (va_cwS 2 hts gX7_rightBeforeEnemy_X7_span rfl rfl rfl (by decide +kernel) ⟨Nat.le_of_ble_eq_true rfl, Nat.le_of_ble_eq_true rfl⟩) ⟨CP_blind, x_preN X [.int (v4 * v2), .int v2]⟩ rfl rfl hl.1 rfl (lv_room (Nat.le_of_ble_eq_true rfl)) dX7_rightBeforeEnemy_40 ⟨Nat.zero_le _, Nat.zero_le _⟩) (fun H locs hw => ?_)
        obtain ⟨v7, hc, hf⟩ := b1_ob hf
        refine x_cut (pc := 43) (wr := ([5, 6, 7, 8, 9, 10, 11, 12].filterMap (fun i => (wX7 cs a q S ++ wX2 cs (q 0) qP P)[i]?))) (ws2 := wX7 cs a q S ++ wX2 cs (q 0) qP P) X hw [0, 1, 2, 3, 4] [5, 6, 7, 8, 9, 10, 11, 12] [8, 9, 10, 11, 12, 0, 1, 2, 3, 4, 5, 6, 7] rfl rfl (by decide) (by decide) rfl (by decide) (va_runV (As := [.long v6]) (rest := [.int v3]) ⟨hx, hb, hml, hown, hts⟩ (c_X7_leastWithin l D cs a q S v6 v7 hc _) (cwV 1 hts gX7_rightBeforeEnemy_X7_leastWithin rfl rfl rfl (by decide +kernel) ⟨Nat.le_of_ble_eq_true rfl, Nat.le_of_ble_eq_true rfl⟩) ⟨CP_blind, va_recv hK hw.1 (ci := 7) (q0 := 0) rfl rfl, x_preC X hw [0, 1, 2, 3, 4] rfl (by decide) [.ref a, .long v6]⟩ rfl rfl hl.1 rfl (lv_room (Nat.le_of_ble_eq_true rfl)) dX7_rightBeforeEnemy_43 ⟨Nat.zero_le _, Nat.zero_le _⟩) (fun H locs hw => ?_)
        refine lv_iadd (pc := 46) hx hb dX7_rightBeforeEnemy_46 ?_
        obtain ⟨v8, ev8, hf⟩ := bn_ob hf
        refine x_topi ev8 ?_
        refine lv_istore (lv' := [(4, .int v8), (0, .ref a), (2, .int v1), (3, .int v2), (5, .int v4)]) (pc := 47) hx hb dX7_rightBeforeEnemy_47 hl (by decide) rfl (fun ls hl => ?_)
        obtain ⟨v9, ev9, hf⟩ := bn_ob hf
        refine lv_iinc (pc := 49) (v := v9) (lv' := [(5, .int v9), (4, .int v8), (0, .ref a), (2, .int v1), (3, .int v2)]) hx hb dX7_rightBeforeEnemy_49 hl (k := 4) rfl (by rw [ev9]; rfl) (by decide) rfl (fun ls hl => ?_)
        refine lv_goto (pc := 52) (tgt := 26) hx hb dX7_rightBeforeEnemy_52 (by decide) ?_
        cases hf
        exact ih v8 v9 rv3 hx0 _ _ _ hw (lv_sub hl [2, 3, 4, 1, 0] rfl) K
  obtain ⟨v10, hj, hf⟩ := b1_ob hf
  refine L26 _ 0 0 v10 hj _ _ _ hw (lv_sub hl [4, 3, 2, 1, 0] rfl) (fun H locs ls hw hl => ?_)
  clear hj L26
  refine lv_iload (pc := 55) hx hb dX7_rightBeforeEnemy_55 (lv_at hl 0 rfl) ?_
  cases hf
  exact hret _ _ 57 _ hw ⟨_, rfl, rfl⟩ dX7_rightBeforeEnemy_57

theorem in_X7_keptWithin_X7 : ∀ w ∈ wsX70, w ∈ wsX7_keptWithin := fun _ h => List.mem_cons_of_mem _ (List.mem_append_right _ h)
abbrev rmX7_keptWithin : Room := { frames := 2, cells := 0, slots := 0, locals := 44 }
def B_X7_keptWithin_14 (S : PS) (p1 : Int32) (p2 : Int32) (p3 : Int32) (v2 : Int32) (v3 : Int32) (v4 : Int32) : Option ((Int32 × Int32 × Int32) ⊕ (Int32)) :=
  if p3 ≤ v4 then
    some (.inr v2)
  else
  b1 (f_X7_rightInputsWithin S (p1 + (v4 * p2)) p2) fun v6 =>
  b2 (
    if v6 ≤ v3 then
      some (v2, v3)
    else
    bn (p1 + (v4 * p2)) fun v10 =>
    some (v10, v6)) fun v7 v8 =>
  bn (v4 + 1) fun v11 =>
  some (.inl (v7, v8, v11))
def L_X7_keptWithin_14 (S : PS) (p1 : Int32) (p2 : Int32) (p3 : Int32) (n : Nat) (v2 : Int32) (v3 : Int32) (v4 : Int32) : Option (Int32) := loopF (fun x : Int32 × Int32 × Int32 => B_X7_keptWithin_14 S p1 p2 p3 x.1 x.2.1 x.2.2) n (v2, v3, v4)
def f_X7_keptWithin (S : PS) (p1 : Int32) (p2 : Int32) (p3 : Int32) : Option (Int32) :=
  b1 (f_X7_rightInputsWithin S p1 p2) fun v1 =>
  b1 (L_X7_keptWithin_14 S p1 p2 p3 FU p1 v1 1) fun v12 =>
  some v12
set_option maxHeartbeats 4000000 in
set_option maxRecDepth 100000 in
theorem c_X7_keptWithin (l : Launch) (D : va_G) (cs : CS) (a : Nat) (q : Nat → Nat) (S : PS) (p1 : Int32) (p2 : Int32) (p3 : Int32) (r : Int32) (hf : f_X7_keptWithin S p1 p2 p3 = some r) : CT l D (TY cs) yX7_keptWithin wsX7_keptWithin rmX7_keptWithin [.ref a, .int p1, .int p2, .int p3] (wX7 cs a q S) (some (.int r)) (wX7 cs a q S) := by
  refine CT.ofW (own := RX7) (cc := cX7_keptWithin) (maxL := 8) (ret := some .int) (by decide) rfl rfl (Nat.le_of_ble_eq_true rfl) ?_
  intro p e s m args below meth c A Q X hret ls hl hw
  obtain ⟨hx, hb, hml, hown, hts, hK, hA, hr, hlk⟩ := id X
  have hl : lv_has ls 8 [(0, .ref a), (1, .int p1), (2, .int p2), (3, .int p3)] := hl
  unfold f_X7_keptWithin at hf
  refine lv_iload_n (pc := 0) hx hb dX7_keptWithin_0 rfl (lv_at hl 1 rfl) ?_
  refine lv_istore (lv' := [(4, .int p1), (0, .ref a), (1, .int p1), (2, .int p2), (3, .int p3)]) (pc := 1) hx hb dX7_keptWithin_1 hl (by decide) rfl (fun ls hl => ?_)
  refine lv_aload_n (pc := 3) hx hb dX7_keptWithin_3 rfl (lv_at hl 1 rfl) ?_
  refine lv_iload_n (pc := 4) hx hb dX7_keptWithin_4 rfl (lv_at hl 2 rfl) ?_
  refine lv_iload_n (pc := 5) hx hb dX7_keptWithin_5 rfl (lv_at hl 3 rfl) ?_
  obtain ⟨v1, hc, hf⟩ := b1_ob hf
  refine x_all (pc := 6) X hw (va_runV (As := [.int p1, .int p2]) (rest := []) ⟨hx, hb, hml, hown, hts⟩ (c_X7_rightInputsWithin l D cs a q S p1 p2 v1 hc _) (cwV 2 hts gX7_keptWithin_X7_rightInputsWithin rfl rfl rfl (by decide +kernel) ⟨Nat.le_of_ble_eq_true rfl, Nat.le_of_ble_eq_true rfl⟩) ⟨CP_blind, va_recv hK hw.1 (ci := 7) (q0 := 0) rfl rfl, x_preA X hw [.ref a, .int p1, .int p2]⟩ rfl rfl hl.1 rfl (lv_room (Nat.le_of_ble_eq_true rfl)) dX7_keptWithin_6 ⟨Nat.zero_le _, Nat.zero_le _⟩) (fun H locs hw => ?_)
  refine lv_istore (lv' := [(5, .int v1), (4, .int p1), (0, .ref a), (1, .int p1), (2, .int p2), (3, .int p3)]) (pc := 9) hx hb dX7_keptWithin_9 hl (by decide) rfl (fun ls hl => ?_)
  refine lv_iconst (pc := 11) (v := 1) hx hb dX7_keptWithin_11 (by decide) ?_
  refine lv_istore (lv' := [(6, .int 1), (5, .int v1), (4, .int p1), (0, .ref a), (1, .int p1), (2, .int p2), (3, .int p3)]) (pc := 12) hx hb dX7_keptWithin_12 hl (by decide) rfl (fun ls hl => ?_)
  have L14 : ∀ (n : Nat) (v2 : Int32) (v3 : Int32) (v4 : Int32) (rv2 : Int32), L_X7_keptWithin_14 S p1 p2 p3 n v2 v3 v4 = some rv2 → ∀ (H : Heap) (locs : List Loc) (ls : Array Slot), WD D A s (wX7 cs a q S) H locs → lv_has ls 8 [(0, .ref a), (1, .int p1), (2, .int p2), (3, .int p3), (4, .int v2), (5, .int v3), (6, .int v4)] → (∀ (H : Heap) (locs : List Loc) (ls : Array Slot), WD D A s (wX7 cs a q S) H locs → lv_has ls 8 [(4, .int rv2)] → W p l e rmX7_keptWithin s m args below meth c H locs 0 0 Q (F0 m 58 ls [])) → W p l e rmX7_keptWithin s m args below meth c H locs 0 0 Q (F0 m 14 ls []) := by
    intro n
    induction n with
    | zero => intro v2 v3 v4 rv2 hf; exact (loopF_z hf).elim
    | succ n ih =>
      intro v2 v3 v4 rv2 hf H locs ls hw hl K
      obtain ⟨x, hf, hx0⟩ := loopF_ob hf
      have hf : B_X7_keptWithin_14 S p1 p2 p3 v2 v3 v4 = some x := hf
      unfold B_X7_keptWithin_14 at hf
      refine lv_iload (pc := 14) hx hb dX7_keptWithin_14 (lv_at hl 6 rfl) ?_
      refine lv_iload_n (pc := 16) hx hb dX7_keptWithin_16 rfl (lv_at hl 3 rfl) ?_
      refine lv_icmp_ge (pc := 17) (tgt := 58) hx hb dX7_keptWithin_17 (by decide) (fun c5 => ?_) (fun c5 => ?_)
      · have hf := ipos c5 hf
        cases hf
        cases (hx0 : v2 = rv2)
        exact K _ _ _ hw (lv_sub hl [4] rfl)
      · have hf := ineg c5 hf
        refine lv_aload_n (pc := 20) hx hb dX7_keptWithin_20 rfl (lv_at hl 0 rfl) ?_
        refine lv_iload_n (pc := 21) hx hb dX7_keptWithin_21 rfl (lv_at hl 1 rfl) ?_
        refine lv_iload (pc := 22) hx hb dX7_keptWithin_22 (lv_at hl 6 rfl) ?_
        refine lv_iload_n (pc := 24) hx hb dX7_keptWithin_24 rfl (lv_at hl 2 rfl) ?_
        refine lv_imul (pc := 25) hx hb dX7_keptWithin_25 ?_
        refine lv_iadd (pc := 26) hx hb dX7_keptWithin_26 ?_
        refine lv_iload_n (pc := 27) hx hb dX7_keptWithin_27 rfl (lv_at hl 2 rfl) ?_
        obtain ⟨v6, hc, hf⟩ := b1_ob hf
        refine x_all (pc := 28) X hw (va_runV (As := [.int (p1 + (v4 * p2)), .int p2]) (rest := []) ⟨hx, hb, hml, hown, hts⟩ (c_X7_rightInputsWithin l D cs a q S (p1 + (v4 * p2)) p2 v6 hc _) (cwV 2 hts gX7_keptWithin_X7_rightInputsWithin rfl rfl rfl (by decide +kernel) ⟨Nat.le_of_ble_eq_true rfl, Nat.le_of_ble_eq_true rfl⟩) ⟨CP_blind, va_recv hK hw.1 (ci := 7) (q0 := 0) rfl rfl, x_preA X hw [.ref a, .int (p1 + (v4 * p2)), .int p2]⟩ rfl rfl hl.1 rfl (lv_room (Nat.le_of_ble_eq_true rfl)) dX7_keptWithin_28 ⟨Nat.zero_le _, Nat.zero_le _⟩) (fun H locs hw => ?_)
        refine lv_istore (lv' := [(7, .int v6), (0, .ref a), (1, .int p1), (2, .int p2), (3, .int p3), (4, .int v2), (5, .int v3), (6, .int v4)]) (pc := 31) hx hb dX7_keptWithin_31 hl (by decide) rfl (fun ls hl => ?_)
        refine lv_iload (pc := 33) hx hb dX7_keptWithin_33 (lv_at hl 0 rfl) ?_
        refine lv_iload (pc := 35) hx hb dX7_keptWithin_35 (lv_at hl 6 rfl) ?_
        obtain ⟨v7, v8, hj, hf⟩ := b2_ob hf
        have J52_6 : ∀ (H : Heap) (locs : List Loc) (ls : Array Slot), WD D A s (wX7 cs a q S) H locs → lv_has ls 8 [(0, .ref a), (1, .int p1), (2, .int p2), (3, .int p3), (4, .int v7), (5, .int v8), (6, .int v4)] → W p l e rmX7_keptWithin s m args below meth c H locs 0 0 Q (F0 m 52 ls []) := by
          intro H locs ls hw hl
          obtain ⟨v11, ev11, hf⟩ := bn_ob hf
          refine lv_iinc (pc := 52) (v := v11) (lv' := [(6, .int v11), (0, .ref a), (1, .int p1), (2, .int p2), (3, .int p3), (4, .int v7), (5, .int v8)]) hx hb dX7_keptWithin_52 hl (k := 6) rfl (by rw [ev11]; rfl) (by decide) rfl (fun ls hl => ?_)
          refine lv_goto (pc := 55) (tgt := 14) hx hb dX7_keptWithin_55 (by decide) ?_
          cases hf
          exact ih v7 v8 v11 rv2 hx0 _ _ _ hw (lv_sub hl [1, 2, 3, 4, 5, 6, 0] rfl) K
        clear hf; have hf := hj; clear hj
        refine lv_icmp_le (pc := 37) (tgt := 52) hx hb dX7_keptWithin_37 (by decide) (fun c9 => ?_) (fun c9 => ?_)
        · have hf := ipos c9 hf
          cases hf
          exact J52_6 _ _ _ hw (lv_sub hl [1, 2, 3, 4, 5, 6, 7] rfl)
        · have hf := ineg c9 hf
          refine lv_iload (pc := 40) hx hb dX7_keptWithin_40 (lv_at hl 0 rfl) ?_
          refine lv_istore (lv' := [(5, .int v6), (7, .int v6), (0, .ref a), (1, .int p1), (2, .int p2), (3, .int p3), (4, .int v2), (6, .int v4)]) (pc := 42) hx hb dX7_keptWithin_42 hl (by decide) rfl (fun ls hl => ?_)
          refine lv_iload_n (pc := 44) hx hb dX7_keptWithin_44 rfl (lv_at hl 3 rfl) ?_
          refine lv_iload (pc := 45) hx hb dX7_keptWithin_45 (lv_at hl 7 rfl) ?_
          refine lv_iload_n (pc := 47) hx hb dX7_keptWithin_47 rfl (lv_at hl 4 rfl) ?_
          refine lv_imul (pc := 48) hx hb dX7_keptWithin_48 ?_
          refine lv_iadd (pc := 49) hx hb dX7_keptWithin_49 ?_
          obtain ⟨v10, ev10, hf⟩ := bn_ob hf
          refine x_topi ev10 ?_
          refine lv_istore (lv' := [(4, .int v10), (5, .int v6), (7, .int v6), (0, .ref a), (1, .int p1), (2, .int p2), (3, .int p3), (6, .int v4)]) (pc := 50) hx hb dX7_keptWithin_50 hl (by decide) rfl (fun ls hl => ?_)
          cases hf
          exact J52_6 _ _ _ hw (lv_sub hl [3, 4, 5, 6, 0, 1, 7] rfl)
  obtain ⟨v12, hj, hf⟩ := b1_ob hf
  refine L14 _ p1 v1 1 v12 hj _ _ _ hw (lv_sub hl [3, 4, 5, 6, 2, 1, 0] rfl) (fun H locs ls hw hl => ?_)
  clear hj L14
  refine lv_iload (pc := 58) hx hb dX7_keptWithin_58 (lv_at hl 0 rfl) ?_
  cases hf
  exact hret _ _ 60 _ hw ⟨_, rfl, rfl⟩ dX7_keptWithin_60

theorem in_X7_keptRow_X7 : ∀ w ∈ wsX70, w ∈ wsX7_keptRow := fun _ h => List.mem_cons_of_mem _ (List.mem_append_left _ (List.mem_append_right _ h))
theorem in_X7_keptRow_X2 : ∀ w ∈ wsX20, w ∈ wsX7_keptRow := fun _ h => List.mem_cons_of_mem _ (List.mem_append_right _ h)
abbrev rmX7_keptRow : Room := { frames := 3, cells := 0, slots := 0, locals := 71 }
def B_X7_keptRow_4 (S : PS) (P : PS) (v1 : Int32) (v2 : Int32) : Option ((Int32 × Int32) ⊕ (Int32)) :=
  if (P.1 4) ≤ v2 then
    some (.inr v1)
  else
  b1 (f_X7_waysOf S P (v2 + 1) (P.1 4)) fun v4 =>
  b1 (rdI 6 (P.2.1 6) v2) fun v5 =>
  b1 (f_X7_keptWithin S v1 v4 v5) fun v6 =>
  bn (v2 + 1) fun v7 =>
  some (.inl (v6, v7))
def L_X7_keptRow_4 (S : PS) (P : PS) (n : Nat) (v1 : Int32) (v2 : Int32) : Option (Int32) := loopF (fun x : Int32 × Int32 => B_X7_keptRow_4 S P x.1 x.2) n (v1, v2)
def f_X7_keptRow (S : PS) (P : PS) : Option (Int32) :=
  b1 (L_X7_keptRow_4 S P FU 0 0) fun v8 =>
  some v8
set_option maxHeartbeats 4000000 in
set_option maxRecDepth 100000 in
theorem c_X7_keptRow (l : Launch) (D : va_G) (cs : CS) (a : Nat) (q : Nat → Nat) (qP : Nat → Nat) (S : PS) (P : PS) (r : Int32) (hf : f_X7_keptRow S P = some r) : CT l D (TY cs) yX7_keptRow wsX7_keptRow rmX7_keptRow [.ref a] (wX7 cs a q S ++ wX2 cs (q 0) qP P) (some (.int r)) (wX7 cs a q S ++ wX2 cs (q 0) qP P) := by
  refine CT.ofW (own := RX7) (cc := cX7_keptRow) (maxL := 3) (ret := some .int) (by decide) rfl rfl (Nat.le_of_ble_eq_true rfl) ?_
  intro p e s m args below meth c A Q X hret ls hl hw
  obtain ⟨hx, hb, hml, hown, hts, hK, hA, hr, hlk⟩ := id X
  have hl : lv_has ls 3 [(0, .ref a)] := hl
  unfold f_X7_keptRow at hf
  refine lv_iconst (pc := 0) (v := 0) hx hb dX7_keptRow_0 (by decide) ?_
  refine lv_istore_n (lv' := [(1, .int 0), (0, .ref a)]) (pc := 1) hx hb dX7_keptRow_1 rfl hl (by decide) rfl (fun ls hl => ?_)
  refine lv_iconst (pc := 2) (v := 0) hx hb dX7_keptRow_2 (by decide) ?_
  refine lv_istore_n (lv' := [(2, .int 0), (1, .int 0), (0, .ref a)]) (pc := 3) hx hb dX7_keptRow_3 rfl hl (by decide) rfl (fun ls hl => ?_)
  have L4 : ∀ (n : Nat) (v1 : Int32) (v2 : Int32) (rv1 : Int32), L_X7_keptRow_4 S P n v1 v2 = some rv1 → ∀ (H : Heap) (locs : List Loc) (ls : Array Slot), WD D A s (wX7 cs a q S ++ wX2 cs (q 0) qP P) H locs → lv_has ls 3 [(0, .ref a), (1, .int v1), (2, .int v2)] → (∀ (H : Heap) (locs : List Loc) (ls : Array Slot), WD D A s (wX7 cs a q S ++ wX2 cs (q 0) qP P) H locs → lv_has ls 3 [(1, .int rv1)] → W p l e rmX7_keptRow s m args below meth c H locs 0 0 Q (F0 m 50 ls [])) → W p l e rmX7_keptRow s m args below meth c H locs 0 0 Q (F0 m 4 ls []) := by
    intro n
    induction n with
    | zero => intro v1 v2 rv1 hf; exact (loopF_z hf).elim
    | succ n ih =>
      intro v1 v2 rv1 hf H locs ls hw hl K
      obtain ⟨x, hf, hx0⟩ := loopF_ob hf
      have hf : B_X7_keptRow_4 S P v1 v2 = some x := hf
      unfold B_X7_keptRow_4 at hf
      refine lv_iload_n (pc := 4) hx hb dX7_keptRow_4 rfl (lv_at hl 2 rfl) ?_
      refine lv_aload_n (pc := 5) hx hb dX7_keptRow_5 rfl (lv_at hl 0 rfl) ?_
      refine x_get (pc := 6) X hw in_X7_keptRow_X7 0 rfl rfl 0 (by decide) (List.mem_of_getElem? (i := 1) rfl) rfl dX7_keptRow_6 ?_
      refine x_get (pc := 9) X hw in_X7_keptRow_X2 5 rfl rfl 4 (by decide) (List.mem_of_getElem? (i := 2) rfl) rfl dX7_keptRow_9 ?_
      refine lv_icmp_ge (pc := 12) (tgt := 50) hx hb dX7_keptRow_12 (by decide) (fun c3 => ?_) (fun c3 => ?_)
      · have hf := ipos c3 hf
        cases hf
        cases (hx0 : v1 = rv1)
        exact K _ _ _ hw (lv_sub hl [1] rfl)
      · have hf := ineg c3 hf
        refine lv_aload_n (pc := 15) hx hb dX7_keptRow_15 rfl (lv_at hl 0 rfl) ?_
        refine lv_iload_n (pc := 16) hx hb dX7_keptRow_16 rfl (lv_at hl 1 rfl) ?_
        refine lv_aload_n (pc := 17) hx hb dX7_keptRow_17 rfl (lv_at hl 0 rfl) ?_
        refine lv_iload_n (pc := 18) hx hb dX7_keptRow_18 rfl (lv_at hl 2 rfl) ?_
        refine lv_iconst (pc := 19) (v := 1) hx hb dX7_keptRow_19 (by decide) ?_
        refine lv_iadd (pc := 20) hx hb dX7_keptRow_20 ?_
        refine lv_aload_n (pc := 21) hx hb dX7_keptRow_21 rfl (lv_at hl 0 rfl) ?_
        refine x_get (pc := 22) X hw in_X7_keptRow_X7 0 rfl rfl 0 (by decide) (List.mem_of_getElem? (i := 1) rfl) rfl dX7_keptRow_22 ?_
        refine x_get (pc := 25) X hw in_X7_keptRow_X2 5 rfl rfl 4 (by decide) (List.mem_of_getElem? (i := 2) rfl) rfl dX7_keptRow_25 ?_
        obtain ⟨v4, hc, hf⟩ := b1_ob hf
        refine x_all (pc := 28) X hw (va_runV (As := [.int (v2 + 1), .int (P.1 4)]) (rest := [.int v1, .ref a]) ⟨hx, hb, hml, hown, hts⟩ (c_X7_waysOf l D cs a q qP S P (v2 + 1) (P.1 4) v4 hc _) (cwV 2 hts gX7_keptRow_X7_waysOf rfl rfl rfl (by decide +kernel) ⟨Nat.le_of_ble_eq_true rfl, Nat.le_of_ble_eq_true rfl⟩) ⟨CP_blind, va_recv hK hw.1 (ci := 7) (q0 := 0) rfl rfl, x_preA X hw [.ref a, .int (v2 + 1), .int (P.1 4)]⟩ rfl rfl hl.1 rfl (lv_room (Nat.le_of_ble_eq_true rfl)) dX7_keptRow_28 ⟨Nat.zero_le _, Nat.zero_le _⟩) (fun H locs hw => ?_)
        refine lv_aload_n (pc := 31) hx hb dX7_keptRow_31 rfl (lv_at hl 0 rfl) ?_
        refine x_get (pc := 32) X hw in_X7_keptRow_X7 0 rfl rfl 0 (by decide) (List.mem_of_getElem? (i := 1) rfl) rfl dX7_keptRow_32 ?_
        refine x_get (pc := 35) X hw in_X7_keptRow_X2 5 rfl rfl 6 (by decide) (List.mem_of_getElem? (i := 3) rfl) rfl dX7_keptRow_35 ?_
        refine lv_iload_n (pc := 38) hx hb dX7_keptRow_38 rfl (lv_at hl 2 rfl) ?_
        obtain ⟨v5, ev5, hf⟩ := b1_ob hf
        refine x_iald (pc := 39) X hw 9 0 rfl rfl ev5 dX7_keptRow_39 ?_
        obtain ⟨v6, hc, hf⟩ := b1_ob hf
        refine x_cut (pc := 40) (wr := ([5, 6, 7, 8, 9, 10, 11, 12].filterMap (fun i => (wX7 cs a q S ++ wX2 cs (q 0) qP P)[i]?))) (ws2 := wX7 cs a q S ++ wX2 cs (q 0) qP P) X hw [0, 1, 2, 3, 4] [5, 6, 7, 8, 9, 10, 11, 12] [8, 9, 10, 11, 12, 0, 1, 2, 3, 4, 5, 6, 7] rfl rfl (by decide) (by decide) rfl (by decide) (va_runV (As := [.int v1, .int v4, .int v5]) (rest := []) ⟨hx, hb, hml, hown, hts⟩ (c_X7_keptWithin l D cs a q S v1 v4 v5 v6 hc _) (cwV 3 hts gX7_keptRow_X7_keptWithin rfl rfl rfl (by decide +kernel) ⟨Nat.le_of_ble_eq_true rfl, Nat.le_of_ble_eq_true rfl⟩) ⟨CP_blind, va_recv hK hw.1 (ci := 7) (q0 := 0) rfl rfl, x_preC X hw [0, 1, 2, 3, 4] rfl (by decide) [.ref a, .int v1, .int v4, .int v5]⟩ rfl rfl hl.1 rfl (lv_room (Nat.le_of_ble_eq_true rfl)) dX7_keptRow_40 ⟨Nat.zero_le _, Nat.zero_le _⟩) (fun H locs hw => ?_)
        refine lv_istore_n (lv' := [(1, .int v6), (0, .ref a), (2, .int v2)]) (pc := 43) hx hb dX7_keptRow_43 rfl hl (by decide) rfl (fun ls hl => ?_)
        obtain ⟨v7, ev7, hf⟩ := bn_ob hf
        refine lv_iinc (pc := 44) (v := v7) (lv' := [(2, .int v7), (1, .int v6), (0, .ref a)]) hx hb dX7_keptRow_44 hl (k := 2) rfl (by rw [ev7]; rfl) (by decide) rfl (fun ls hl => ?_)
        refine lv_goto (pc := 47) (tgt := 4) hx hb dX7_keptRow_47 (by decide) ?_
        cases hf
        exact ih v6 v7 rv1 hx0 _ _ _ hw (lv_sub hl [2, 1, 0] rfl) K
  obtain ⟨v8, hj, hf⟩ := b1_ob hf
  refine L4 _ 0 0 v8 hj _ _ _ hw (lv_sub hl [2, 1, 0] rfl) (fun H locs ls hw hl => ?_)
  clear hj L4
  refine lv_iload_n (pc := 50) hx hb dX7_keptRow_50 rfl (lv_at hl 0 rfl) ?_
  cases hf
  exact hret _ _ 51 _ hw ⟨_, rfl, rfl⟩ dX7_keptRow_51

theorem in_X7_isGood_X7 : ∀ w ∈ wsX70, w ∈ wsX7_isGood := fun _ h => List.mem_cons_of_mem _ (List.mem_append_right _ h)
abbrev rmX7_isGood : Room := { frames := 1, cells := 0, slots := 0, locals := 20 }
def f_X7_isGood (S : PS) (p1 : Int32) : Option (Int32) :=
  b1 (rdI 64 (S.2.1 5) p1) fun v1 =>
  b1 (f_J6_bitCount_0f7a4 v1) fun v2 =>
  b1 (f_X7_inputCount S) fun v3 =>
  b1 (
    if v2 = v3 then
      some (1 : Int32)
    else
    some (0 : Int32)) fun v4 =>
  b1 (ckB v4) fun v6 =>
  some v6
set_option maxHeartbeats 4000000 in
set_option maxRecDepth 100000 in
theorem c_X7_isGood (l : Launch) (D : va_G) (cs : CS) (a : Nat) (q : Nat → Nat) (S : PS) (p1 : Int32) (r : Int32) (hf : f_X7_isGood S p1 = some r) : CT l D (TY cs) yX7_isGood wsX7_isGood rmX7_isGood [.ref a, .int p1] (wX7 cs a q S) (some (.int r)) (wX7 cs a q S) := by
  refine CT.ofW (own := RX7) (cc := cX7_isGood) (maxL := 2) (ret := some .boolean) (by decide) rfl rfl (Nat.le_of_ble_eq_true rfl) ?_
  intro p e s m args below meth c A Q X hret ls hl hw
  obtain ⟨hx, hb, hml, hown, hts, hK, hA, hr, hlk⟩ := id X
  have hl : lv_has ls 2 [(0, .ref a), (1, .int p1)] := hl
  unfold f_X7_isGood at hf
  refine lv_aload_n (pc := 0) hx hb dX7_isGood_0 rfl (lv_at hl 0 rfl) ?_
  refine x_get (pc := 1) X hw in_X7_isGood_X7 0 rfl rfl 5 (by decide) (List.mem_of_getElem? (i := 1) rfl) rfl dX7_isGood_1 ?_
  refine lv_iload_n (pc := 4) hx hb dX7_isGood_4 rfl (lv_at hl 1 rfl) ?_
  obtain ⟨v1, ev1, hf⟩ := b1_ob hf
  refine x_iald (pc := 5) X hw 2 0 rfl rfl ev1 dX7_isGood_5 ?_
  obtain ⟨v2, hc, hf⟩ := b1_ob hf
  refine x_nil (pc := 6) X hw (va_runS (As := [.int v1]) (rest := []) ⟨hx, hb, hml, hown, hts⟩ (c_J6_bitCount_0f7a4 l D cs v1 v2 hc _) (va_cwS 1 hts gX7_isGood_J6_bitCount_0f7a4 rfl rfl rfl (by decide +kernel) ⟨Nat.le_of_ble_eq_true rfl, Nat.le_of_ble_eq_true rfl⟩) ⟨CP_blind, x_preN X [.int v1]⟩ rfl rfl hl.1 rfl (lv_room (Nat.le_of_ble_eq_true rfl)) dX7_isGood_6 ⟨Nat.zero_le _, Nat.zero_le _⟩) (fun H locs hw => ?_)
  refine lv_aload_n (pc := 9) hx hb dX7_isGood_9 rfl (lv_at hl 0 rfl) ?_
  obtain ⟨v3, hc, hf⟩ := b1_ob hf
  refine x_all (pc := 10) X hw (va_runV (As := []) (rest := [.int v2]) ⟨hx, hb, hml, hown, hts⟩ (c_X7_inputCount l D cs a q S v3 hc _) (cwV 0 hts gX7_isGood_X7_inputCount rfl rfl rfl (by decide +kernel) ⟨Nat.le_of_ble_eq_true rfl, Nat.le_of_ble_eq_true rfl⟩) ⟨CP_blind, va_recv hK hw.1 (ci := 7) (q0 := 0) rfl rfl, x_preA X hw [.ref a]⟩ rfl rfl hl.1 rfl (lv_room (Nat.le_of_ble_eq_true rfl)) dX7_isGood_10 ⟨Nat.zero_le _, Nat.zero_le _⟩) (fun H locs hw => ?_)
  obtain ⟨v4, hj, hf⟩ := b1_ob hf
  have J21_3 : ∀ (H : Heap) (locs : List Loc) (ls : Array Slot), WD D A s (wX7 cs a q S) H locs → lv_has ls 2 [] → W p l e rmX7_isGood s m args below meth c H locs 0 0 Q (F0 m 21 ls [.int v4]) := by
    intro H locs ls hw hl
    obtain ⟨v6, ev6, hf⟩ := b1_ob hf
    refine x_topi (ckB_ob ev6).1.symm ?_
    cases hf
    exact hret _ _ 21 _ hw ⟨_, rfl, ckB_nar (ckB_ob ev6).2⟩ dX7_isGood_21
  clear hf; have hf := hj; clear hj
  refine lv_icmp_ne (pc := 13) (tgt := 20) hx hb dX7_isGood_13 (by decide) (fun c5 => ?_) (fun c5 => ?_)
  · have hf := ineg c5 hf
    refine lv_iconst (pc := 20) (v := 0) hx hb dX7_isGood_20 (by decide) ?_
    cases hf
    exact J21_3 _ _ _ hw (lv_sub hl [] rfl)
  · have hf := ipos c5 hf
    refine lv_iconst (pc := 16) (v := 1) hx hb dX7_isGood_16 (by decide) ?_
    refine lv_goto (pc := 17) (tgt := 21) hx hb dX7_isGood_17 (by decide) ?_
    cases hf
    exact J21_3 _ _ _ hw (lv_sub hl [] rfl)

theorem in_X7_goodCount_X7 : ∀ w ∈ wsX70, w ∈ wsX7_goodCount := fun _ h => List.mem_cons_of_mem _ (List.mem_append_left _ (List.mem_append_right _ h))
theorem in_X7_goodCount_X2 : ∀ w ∈ wsX20, w ∈ wsX7_goodCount := fun _ h => List.mem_cons_of_mem _ (List.mem_append_right _ h)
abbrev rmX7_goodCount : Room := { frames := 2, cells := 0, slots := 0, locals := 41 }
def B_X7_goodCount_4 (S : PS) (P : PS) (v1 : Int32) (v2 : Int32) : Option ((Int32 × Int32) ⊕ (Int32)) :=
  if (P.1 5) ≤ v2 then
    some (.inr v1)
  else
  b1 (f_X7_isGood S v2) fun v4 =>
  b1 (
    if v4 = 0 then
      some v1
    else
    bn (v1 + 1) fun v7 =>
    some v7) fun v5 =>
  bn (v2 + 1) fun v8 =>
  some (.inl (v5, v8))
def L_X7_goodCount_4 (S : PS) (P : PS) (n : Nat) (v1 : Int32) (v2 : Int32) : Option (Int32) := loopF (fun x : Int32 × Int32 => B_X7_goodCount_4 S P x.1 x.2) n (v1, v2)
def f_X7_goodCount (S : PS) (P : PS) : Option (Int32) :=
  b1 (L_X7_goodCount_4 S P FU 0 0) fun v9 =>
  some v9
set_option maxHeartbeats 4000000 in
set_option maxRecDepth 100000 in
theorem c_X7_goodCount (l : Launch) (D : va_G) (cs : CS) (a : Nat) (q : Nat → Nat) (qP : Nat → Nat) (S : PS) (P : PS) (r : Int32) (hf : f_X7_goodCount S P = some r) : CT l D (TY cs) yX7_goodCount wsX7_goodCount rmX7_goodCount [.ref a] (wX7 cs a q S ++ wX2 cs (q 0) qP P) (some (.int r)) (wX7 cs a q S ++ wX2 cs (q 0) qP P) := by
  refine CT.ofW (own := RX7) (cc := cX7_goodCount) (maxL := 3) (ret := some .int) (by decide) rfl rfl (Nat.le_of_ble_eq_true rfl) ?_
  intro p e s m args below meth c A Q X hret ls hl hw
  obtain ⟨hx, hb, hml, hown, hts, hK, hA, hr, hlk⟩ := id X
  have hl : lv_has ls 3 [(0, .ref a)] := hl
  unfold f_X7_goodCount at hf
  refine lv_iconst (pc := 0) (v := 0) hx hb dX7_goodCount_0 (by decide) ?_
  refine lv_istore_n (lv' := [(1, .int 0), (0, .ref a)]) (pc := 1) hx hb dX7_goodCount_1 rfl hl (by decide) rfl (fun ls hl => ?_)
  refine lv_iconst (pc := 2) (v := 0) hx hb dX7_goodCount_2 (by decide) ?_
  refine lv_istore_n (lv' := [(2, .int 0), (1, .int 0), (0, .ref a)]) (pc := 3) hx hb dX7_goodCount_3 rfl hl (by decide) rfl (fun ls hl => ?_)
  have L4 : ∀ (n : Nat) (v1 : Int32) (v2 : Int32) (rv1 : Int32), L_X7_goodCount_4 S P n v1 v2 = some rv1 → ∀ (H : Heap) (locs : List Loc) (ls : Array Slot), WD D A s (wX7 cs a q S ++ wX2 cs (q 0) qP P) H locs → lv_has ls 3 [(0, .ref a), (1, .int v1), (2, .int v2)] → (∀ (H : Heap) (locs : List Loc) (ls : Array Slot), WD D A s (wX7 cs a q S ++ wX2 cs (q 0) qP P) H locs → lv_has ls 3 [(1, .int rv1)] → W p l e rmX7_goodCount s m args below meth c H locs 0 0 Q (F0 m 32 ls [])) → W p l e rmX7_goodCount s m args below meth c H locs 0 0 Q (F0 m 4 ls []) := by
    intro n
    induction n with
    | zero => intro v1 v2 rv1 hf; exact (loopF_z hf).elim
    | succ n ih =>
      intro v1 v2 rv1 hf H locs ls hw hl K
      obtain ⟨x, hf, hx0⟩ := loopF_ob hf
      have hf : B_X7_goodCount_4 S P v1 v2 = some x := hf
      unfold B_X7_goodCount_4 at hf
      refine lv_iload_n (pc := 4) hx hb dX7_goodCount_4 rfl (lv_at hl 2 rfl) ?_
      refine lv_aload_n (pc := 5) hx hb dX7_goodCount_5 rfl (lv_at hl 0 rfl) ?_
      refine x_get (pc := 6) X hw in_X7_goodCount_X7 0 rfl rfl 0 (by decide) (List.mem_of_getElem? (i := 1) rfl) rfl dX7_goodCount_6 ?_
      refine x_get (pc := 9) X hw in_X7_goodCount_X2 5 rfl rfl 5 (by decide) (List.mem_of_getElem? (i := 2) rfl) rfl dX7_goodCount_9 ?_
      refine lv_icmp_ge (pc := 12) (tgt := 32) hx hb dX7_goodCount_12 (by decide) (fun c3 => ?_) (fun c3 => ?_)
      · have hf := ipos c3 hf
        cases hf
        cases (hx0 : v1 = rv1)
        exact K _ _ _ hw (lv_sub hl [1] rfl)
      · have hf := ineg c3 hf
        refine lv_aload_n (pc := 15) hx hb dX7_goodCount_15 rfl (lv_at hl 0 rfl) ?_
        refine lv_iload_n (pc := 16) hx hb dX7_goodCount_16 rfl (lv_at hl 2 rfl) ?_
        obtain ⟨v4, hc, hf⟩ := b1_ob hf
        refine x_cut (pc := 17) (wr := ([5, 6, 7, 8, 9, 10, 11, 12].filterMap (fun i => (wX7 cs a q S ++ wX2 cs (q 0) qP P)[i]?))) (ws2 := wX7 cs a q S ++ wX2 cs (q 0) qP P) X hw [0, 1, 2, 3, 4] [5, 6, 7, 8, 9, 10, 11, 12] [8, 9, 10, 11, 12, 0, 1, 2, 3, 4, 5, 6, 7] rfl rfl (by decide) (by decide) rfl (by decide) (va_runV (As := [.int v2]) (rest := []) ⟨hx, hb, hml, hown, hts⟩ (c_X7_isGood l D cs a q S v2 v4 hc _) (cwV 1 hts gX7_goodCount_X7_isGood rfl rfl rfl (by decide +kernel) ⟨Nat.le_of_ble_eq_true rfl, Nat.le_of_ble_eq_true rfl⟩) ⟨CP_blind, va_recv hK hw.1 (ci := 7) (q0 := 0) rfl rfl, x_preC X hw [0, 1, 2, 3, 4] rfl (by decide) [.ref a, .int v2]⟩ rfl rfl hl.1 rfl (lv_room (Nat.le_of_ble_eq_true rfl)) dX7_goodCount_17 ⟨Nat.zero_le _, Nat.zero_le _⟩) (fun H locs hw => ?_)
        obtain ⟨v5, hj, hf⟩ := b1_ob hf
        have J26_4 : ∀ (H : Heap) (locs : List Loc) (ls : Array Slot), WD D A s (wX7 cs a q S ++ wX2 cs (q 0) qP P) H locs → lv_has ls 3 [(0, .ref a), (1, .int v5), (2, .int v2)] → W p l e rmX7_goodCount s m args below meth c H locs 0 0 Q (F0 m 26 ls []) := by
          intro H locs ls hw hl
          obtain ⟨v8, ev8, hf⟩ := bn_ob hf
          refine lv_iinc (pc := 26) (v := v8) (lv' := [(2, .int v8), (0, .ref a), (1, .int v5)]) hx hb dX7_goodCount_26 hl (k := 2) rfl (by rw [ev8]; rfl) (by decide) rfl (fun ls hl => ?_)
          refine lv_goto (pc := 29) (tgt := 4) hx hb dX7_goodCount_29 (by decide) ?_
          cases hf
          exact ih v5 v8 rv1 hx0 _ _ _ hw (lv_sub hl [1, 2, 0] rfl) K
        clear hf; have hf := hj; clear hj
        refine lv_if_eq (pc := 20) (tgt := 26) hx hb dX7_goodCount_20 (by decide) (fun c6 => ?_) (fun c6 => ?_)
        · have hf := ipos c6 hf
          cases hf
          exact J26_4 _ _ _ hw (lv_sub hl [0, 1, 2] rfl)
        · have hf := ineg c6 hf
          obtain ⟨v7, ev7, hf⟩ := bn_ob hf
          refine lv_iinc (pc := 23) (v := v7) (lv' := [(1, .int v7), (0, .ref a), (2, .int v2)]) hx hb dX7_goodCount_23 hl (k := 1) rfl (by rw [ev7]; rfl) (by decide) rfl (fun ls hl => ?_)
          cases hf
          exact J26_4 _ _ _ hw (lv_sub hl [1, 0, 2] rfl)
  obtain ⟨v9, hj, hf⟩ := b1_ob hf
  refine L4 _ 0 0 v9 hj _ _ _ hw (lv_sub hl [2, 1, 0] rfl) (fun H locs ls hw hl => ?_)
  clear hj L4
  refine lv_iload_n (pc := 32) hx hb dX7_goodCount_32 rfl (lv_at hl 0 rfl) ?_
  cases hf
  exact hret _ _ 33 _ hw ⟨_, rfl, rfl⟩ dX7_goodCount_33

theorem in_X7_leastGood_X7 : ∀ w ∈ wsX70, w ∈ wsX7_leastGood := fun _ h => List.mem_cons_of_mem _ (List.mem_append_left _ (List.mem_append_right _ h))
theorem in_X7_leastGood_X2 : ∀ w ∈ wsX20, w ∈ wsX7_leastGood := fun _ h => List.mem_cons_of_mem _ (List.mem_append_right _ h)
abbrev rmX7_leastGood : Room := { frames := 2, cells := 0, slots := 0, locals := 41 }
def B_X7_leastGood_2 (S : PS) (P : PS) (v1 : Int32) : Option ((Int32) ⊕ (Int32)) :=
  if (P.1 5) ≤ v1 then
    some (.inr (-1))
  else
  b1 (f_X7_isGood S v1) fun v3 =>
  if v3 = 0 then
    bn (v1 + 1) fun v5 =>
    some (.inl v5)
  else
  some (.inr v1)
def L_X7_leastGood_2 (S : PS) (P : PS) (n : Nat) (v1 : Int32) : Option (Int32) := loopF (fun x : Int32 => B_X7_leastGood_2 S P x) n v1
def f_X7_leastGood (S : PS) (P : PS) : Option (Int32) :=
  L_X7_leastGood_2 S P FU 0
set_option maxHeartbeats 4000000 in
set_option maxRecDepth 100000 in
theorem c_X7_leastGood (l : Launch) (D : va_G) (cs : CS) (a : Nat) (q : Nat → Nat) (qP : Nat → Nat) (S : PS) (P : PS) (r : Int32) (hf : f_X7_leastGood S P = some r) : CT l D (TY cs) yX7_leastGood wsX7_leastGood rmX7_leastGood [.ref a] (wX7 cs a q S ++ wX2 cs (q 0) qP P) (some (.int r)) (wX7 cs a q S ++ wX2 cs (q 0) qP P) := by
  refine CT.ofW (own := RX7) (cc := cX7_leastGood) (maxL := 2) (ret := some .int) (by decide) rfl rfl (Nat.le_of_ble_eq_true rfl) ?_
  intro p e s m args below meth c A Q X hret ls hl hw
  obtain ⟨hx, hb, hml, hown, hts, hK, hA, hr, hlk⟩ := id X
  have hl : lv_has ls 2 [(0, .ref a)] := hl
  unfold f_X7_leastGood at hf
  refine lv_iconst (pc := 0) (v := 0) hx hb dX7_leastGood_0 (by decide) ?_
  refine lv_istore_n (lv' := [(1, .int 0), (0, .ref a)]) (pc := 1) hx hb dX7_leastGood_1 rfl hl (by decide) rfl (fun ls hl => ?_)
  have L2 : ∀ (n : Nat) (v1 : Int32), L_X7_leastGood_2 S P n v1 = some r → ∀ (H : Heap) (locs : List Loc) (ls : Array Slot), WD D A s (wX7 cs a q S ++ wX2 cs (q 0) qP P) H locs → lv_has ls 2 [(0, .ref a), (1, .int v1)] → W p l e rmX7_leastGood s m args below meth c H locs 0 0 Q (F0 m 2 ls []) := by
    intro n
    induction n with
    | zero => intro v1 hf; exact (loopF_z hf).elim
    | succ n ih =>
      intro v1 hf H locs ls hw hl
      obtain ⟨x, hf, hx0⟩ := loopF_ob hf
      have hf : B_X7_leastGood_2 S P v1 = some x := hf
      unfold B_X7_leastGood_2 at hf
      refine lv_iload_n (pc := 2) hx hb dX7_leastGood_2 rfl (lv_at hl 1 rfl) ?_
      refine lv_aload_n (pc := 3) hx hb dX7_leastGood_3 rfl (lv_at hl 0 rfl) ?_
      refine x_get (pc := 4) X hw in_X7_leastGood_X7 0 rfl rfl 0 (by decide) (List.mem_of_getElem? (i := 1) rfl) rfl dX7_leastGood_4 ?_
      refine x_get (pc := 7) X hw in_X7_leastGood_X2 5 rfl rfl 5 (by decide) (List.mem_of_getElem? (i := 2) rfl) rfl dX7_leastGood_7 ?_
      refine lv_icmp_ge (pc := 10) (tgt := 29) hx hb dX7_leastGood_10 (by decide) (fun c2 => ?_) (fun c2 => ?_)
      · have hf := ipos c2 hf
        refine lv_iconst (pc := 29) (v := (-1)) hx hb dX7_leastGood_29 (by decide) ?_
        cases hf
        cases (hx0 : (-1) = r)
        exact hret _ _ 30 _ hw ⟨_, rfl, rfl⟩ dX7_leastGood_30
      · have hf := ineg c2 hf
        refine lv_aload_n (pc := 13) hx hb dX7_leastGood_13 rfl (lv_at hl 0 rfl) ?_
        refine lv_iload_n (pc := 14) hx hb dX7_leastGood_14 rfl (lv_at hl 1 rfl) ?_
        obtain ⟨v3, hc, hf⟩ := b1_ob hf
        refine x_cut (pc := 15) (wr := ([5, 6, 7, 8, 9, 10, 11, 12].filterMap (fun i => (wX7 cs a q S ++ wX2 cs (q 0) qP P)[i]?))) (ws2 := wX7 cs a q S ++ wX2 cs (q 0) qP P) X hw [0, 1, 2, 3, 4] [5, 6, 7, 8, 9, 10, 11, 12] [8, 9, 10, 11, 12, 0, 1, 2, 3, 4, 5, 6, 7] rfl rfl (by decide) (by decide) rfl (by decide) (va_runV (As := [.int v1]) (rest := []) ⟨hx, hb, hml, hown, hts⟩ (c_X7_isGood l D cs a q S v1 v3 hc _) (cwV 1 hts gX7_leastGood_X7_isGood rfl rfl rfl (by decide +kernel) ⟨Nat.le_of_ble_eq_true rfl, Nat.le_of_ble_eq_true rfl⟩) ⟨CP_blind, va_recv hK hw.1 (ci := 7) (q0 := 0) rfl rfl, x_preC X hw [0, 1, 2, 3, 4] rfl (by decide) [.ref a, .int v1]⟩ rfl rfl hl.1 rfl (lv_room (Nat.le_of_ble_eq_true rfl)) dX7_leastGood_15 ⟨Nat.zero_le _, Nat.zero_le _⟩) (fun H locs hw => ?_)
        refine lv_if_eq (pc := 18) (tgt := 23) hx hb dX7_leastGood_18 (by decide) (fun c4 => ?_) (fun c4 => ?_)
        · have hf := ipos c4 hf
          obtain ⟨v5, ev5, hf⟩ := bn_ob hf
          refine lv_iinc (pc := 23) (v := v5) (lv' := [(1, .int v5), (0, .ref a)]) hx hb dX7_leastGood_23 hl (k := 1) rfl (by rw [ev5]; rfl) (by decide) rfl (fun ls hl => ?_)
          refine lv_goto (pc := 26) (tgt := 2) hx hb dX7_leastGood_26 (by decide) ?_
          cases hf
          exact ih v5  hx0 _ _ _ hw (lv_sub hl [1, 0] rfl)
        · have hf := ineg c4 hf
          refine lv_iload_n (pc := 21) hx hb dX7_leastGood_21 rfl (lv_at hl 1 rfl) ?_
          cases hf
          cases (hx0 : v1 = r)
          exact hret _ _ 22 _ hw ⟨_, rfl, rfl⟩ dX7_leastGood_22
  exact L2 _ 0 hf _ _ _ hw (lv_sub hl [1, 0] rfl)

theorem in_X7_rowForMost_X7 : ∀ w ∈ wsX70, w ∈ wsX7_rowForMost := fun _ h => List.mem_cons_of_mem _ (List.mem_append_left _ (List.mem_append_right _ h))
theorem in_X7_rowForMost_X2 : ∀ w ∈ wsX20, w ∈ wsX7_rowForMost := fun _ h => List.mem_cons_of_mem _ (List.mem_append_right _ h)
abbrev rmX7_rowForMost : Room := { frames := 1, cells := 0, slots := 0, locals := 20 }
def B_X7_rowForMost_7 (S : PS) (P : PS) (p1 : Int32) (v1 : Int32) (v2 : Int32) (v3 : Int32) : Option ((Int32 × Int32 × Int32) ⊕ (Int32)) :=
  if (P.1 5) ≤ v3 then
    some (.inr v1)
  else
  b1 (rdI 64 (S.2.1 5) v3) fun v5 =>
  b1 (f_J6_bitCount_0f7a4 (v5 &&& p1)) fun v6 =>
  b2 (
    if v6 ≤ v2 then
      some (v1, v2)
    else
    some (v3, v6)) fun v7 v8 =>
  bn (v3 + 1) fun v10 =>
  some (.inl (v7, v8, v10))
def L_X7_rowForMost_7 (S : PS) (P : PS) (p1 : Int32) (n : Nat) (v1 : Int32) (v2 : Int32) (v3 : Int32) : Option (Int32) := loopF (fun x : Int32 × Int32 × Int32 => B_X7_rowForMost_7 S P p1 x.1 x.2.1 x.2.2) n (v1, v2, v3)
def f_X7_rowForMost (S : PS) (P : PS) (p1 : Int32) : Option (Int32) :=
  b1 (L_X7_rowForMost_7 S P p1 FU 0 0 0) fun v11 =>
  some v11
set_option maxHeartbeats 4000000 in
set_option maxRecDepth 100000 in
theorem c_X7_rowForMost (l : Launch) (D : va_G) (cs : CS) (a : Nat) (q : Nat → Nat) (qP : Nat → Nat) (S : PS) (P : PS) (p1 : Int32) (r : Int32) (hf : f_X7_rowForMost S P p1 = some r) : CT l D (TY cs) yX7_rowForMost wsX7_rowForMost rmX7_rowForMost [.ref a, .int p1] (wX7 cs a q S ++ wX2 cs (q 0) qP P) (some (.int r)) (wX7 cs a q S ++ wX2 cs (q 0) qP P) := by
  refine CT.ofW (own := RX7) (cc := cX7_rowForMost) (maxL := 6) (ret := some .int) (by decide) rfl rfl (Nat.le_of_ble_eq_true rfl) ?_
  intro p e s m args below meth c A Q X hret ls hl hw
  obtain ⟨hx, hb, hml, hown, hts, hK, hA, hr, hlk⟩ := id X
  have hl : lv_has ls 6 [(0, .ref a), (1, .int p1)] := hl
  unfold f_X7_rowForMost at hf
  refine lv_iconst (pc := 0) (v := 0) hx hb dX7_rowForMost_0 (by decide) ?_
  refine lv_istore_n (lv' := [(2, .int 0), (0, .ref a), (1, .int p1)]) (pc := 1) hx hb dX7_rowForMost_1 rfl hl (by decide) rfl (fun ls hl => ?_)
  refine lv_iconst (pc := 2) (v := 0) hx hb dX7_rowForMost_2 (by decide) ?_
  refine lv_istore_n (lv' := [(3, .int 0), (2, .int 0), (0, .ref a), (1, .int p1)]) (pc := 3) hx hb dX7_rowForMost_3 rfl hl (by decide) rfl (fun ls hl => ?_)
  refine lv_iconst (pc := 4) (v := 0) hx hb dX7_rowForMost_4 (by decide) ?_
  refine lv_istore (lv' := [(4, .int 0), (3, .int 0), (2, .int 0), (0, .ref a), (1, .int p1)]) (pc := 5) hx hb dX7_rowForMost_5 hl (by decide) rfl (fun ls hl => ?_)
  have L7 : ∀ (n : Nat) (v1 : Int32) (v2 : Int32) (v3 : Int32) (rv1 : Int32), L_X7_rowForMost_7 S P p1 n v1 v2 v3 = some rv1 → ∀ (H : Heap) (locs : List Loc) (ls : Array Slot), WD D A s (wX7 cs a q S ++ wX2 cs (q 0) qP P) H locs → lv_has ls 6 [(0, .ref a), (1, .int p1), (2, .int v1), (3, .int v2), (4, .int v3)] → (∀ (H : Heap) (locs : List Loc) (ls : Array Slot), WD D A s (wX7 cs a q S ++ wX2 cs (q 0) qP P) H locs → lv_has ls 6 [(2, .int rv1)] → W p l e rmX7_rowForMost s m args below meth c H locs 0 0 Q (F0 m 51 ls [])) → W p l e rmX7_rowForMost s m args below meth c H locs 0 0 Q (F0 m 7 ls []) := by
    intro n
    induction n with
    | zero => intro v1 v2 v3 rv1 hf; exact (loopF_z hf).elim
    | succ n ih =>
      intro v1 v2 v3 rv1 hf H locs ls hw hl K
      obtain ⟨x, hf, hx0⟩ := loopF_ob hf
      have hf : B_X7_rowForMost_7 S P p1 v1 v2 v3 = some x := hf
      unfold B_X7_rowForMost_7 at hf
      refine lv_iload (pc := 7) hx hb dX7_rowForMost_7 (lv_at hl 4 rfl) ?_
      refine lv_aload_n (pc := 9) hx hb dX7_rowForMost_9 rfl (lv_at hl 0 rfl) ?_
      refine x_get (pc := 10) X hw in_X7_rowForMost_X7 0 rfl rfl 0 (by decide) (List.mem_of_getElem? (i := 1) rfl) rfl dX7_rowForMost_10 ?_
      refine x_get (pc := 13) X hw in_X7_rowForMost_X2 5 rfl rfl 5 (by decide) (List.mem_of_getElem? (i := 2) rfl) rfl dX7_rowForMost_13 ?_
      refine lv_icmp_ge (pc := 16) (tgt := 51) hx hb dX7_rowForMost_16 (by decide) (fun c4 => ?_) (fun c4 => ?_)
      · have hf := ipos c4 hf
        cases hf
        cases (hx0 : v1 = rv1)
        exact K _ _ _ hw (lv_sub hl [2] rfl)
      · have hf := ineg c4 hf
        refine lv_aload_n (pc := 19) hx hb dX7_rowForMost_19 rfl (lv_at hl 0 rfl) ?_
        refine x_get (pc := 20) X hw in_X7_rowForMost_X7 0 rfl rfl 5 (by decide) (List.mem_of_getElem? (i := 3) rfl) rfl dX7_rowForMost_20 ?_
        refine lv_iload (pc := 23) hx hb dX7_rowForMost_23 (lv_at hl 4 rfl) ?_
        obtain ⟨v5, ev5, hf⟩ := b1_ob hf
        refine x_iald (pc := 25) X hw 2 0 rfl rfl ev5 dX7_rowForMost_25 ?_
        refine lv_iload_n (pc := 26) hx hb dX7_rowForMost_26 rfl (lv_at hl 1 rfl) ?_
        refine lv_iand (pc := 27) hx hb dX7_rowForMost_27 ?_
        obtain ⟨v6, hc, hf⟩ := b1_ob hf
        refine x_nil (pc := 28) X hw (va_runS (As := [.int (v5 &&& p1)]) (rest := []) ⟨hx, hb, hml, hown, hts⟩ (c_J6_bitCount_0f7a4 l D cs (v5 &&& p1) v6 hc _) (va_cwS 1 hts gX7_rowForMost_J6_bitCount_0f7a4 rfl rfl rfl (by decide +kernel) ⟨Nat.le_of_ble_eq_true rfl, Nat.le_of_ble_eq_true rfl⟩) ⟨CP_blind, x_preN X [.int (v5 &&& p1)]⟩ rfl rfl hl.1 rfl (lv_room (Nat.le_of_ble_eq_true rfl)) dX7_rowForMost_28 ⟨Nat.zero_le _, Nat.zero_le _⟩) (fun H locs hw => ?_)
        refine lv_istore (lv' := [(5, .int v6), (0, .ref a), (1, .int p1), (2, .int v1), (3, .int v2), (4, .int v3)]) (pc := 31) hx hb dX7_rowForMost_31 hl (by decide) rfl (fun ls hl => ?_)
        refine lv_iload (pc := 33) hx hb dX7_rowForMost_33 (lv_at hl 0 rfl) ?_
        refine lv_iload_n (pc := 35) hx hb dX7_rowForMost_35 rfl (lv_at hl 4 rfl) ?_
        obtain ⟨v7, v8, hj, hf⟩ := b2_ob hf
        have J45_6 : ∀ (H : Heap) (locs : List Loc) (ls : Array Slot), WD D A s (wX7 cs a q S ++ wX2 cs (q 0) qP P) H locs → lv_has ls 6 [(0, .ref a), (1, .int p1), (2, .int v7), (3, .int v8), (4, .int v3)] → W p l e rmX7_rowForMost s m args below meth c H locs 0 0 Q (F0 m 45 ls []) := by
          intro H locs ls hw hl
          obtain ⟨v10, ev10, hf⟩ := bn_ob hf
          refine lv_iinc (pc := 45) (v := v10) (lv' := [(4, .int v10), (0, .ref a), (1, .int p1), (2, .int v7), (3, .int v8)]) hx hb dX7_rowForMost_45 hl (k := 4) rfl (by rw [ev10]; rfl) (by decide) rfl (fun ls hl => ?_)
          refine lv_goto (pc := 48) (tgt := 7) hx hb dX7_rowForMost_48 (by decide) ?_
          cases hf
          exact ih v7 v8 v10 rv1 hx0 _ _ _ hw (lv_sub hl [1, 2, 3, 4, 0] rfl) K
        clear hf; have hf := hj; clear hj
        refine lv_icmp_le (pc := 36) (tgt := 45) hx hb dX7_rowForMost_36 (by decide) (fun c9 => ?_) (fun c9 => ?_)
        · have hf := ipos c9 hf
          cases hf
          exact J45_6 _ _ _ hw (lv_sub hl [1, 2, 3, 4, 5] rfl)
        · have hf := ineg c9 hf
          refine lv_iload (pc := 39) hx hb dX7_rowForMost_39 (lv_at hl 0 rfl) ?_
          refine lv_istore_n (lv' := [(3, .int v6), (5, .int v6), (0, .ref a), (1, .int p1), (2, .int v1), (4, .int v3)]) (pc := 41) hx hb dX7_rowForMost_41 rfl hl (by decide) rfl (fun ls hl => ?_)
          refine lv_iload (pc := 42) hx hb dX7_rowForMost_42 (lv_at hl 5 rfl) ?_
          refine lv_istore_n (lv' := [(2, .int v3), (3, .int v6), (5, .int v6), (0, .ref a), (1, .int p1), (4, .int v3)]) (pc := 44) hx hb dX7_rowForMost_44 rfl hl (by decide) rfl (fun ls hl => ?_)
          cases hf
          exact J45_6 _ _ _ hw (lv_sub hl [3, 4, 0, 1, 5] rfl)
  obtain ⟨v11, hj, hf⟩ := b1_ob hf
  refine L7 _ 0 0 0 v11 hj _ _ _ hw (lv_sub hl [3, 4, 2, 1, 0] rfl) (fun H locs ls hw hl => ?_)
  clear hj L7
  refine lv_iload_n (pc := 51) hx hb dX7_rowForMost_51 rfl (lv_at hl 0 rfl) ?_
  cases hf
  exact hret _ _ 52 _ hw ⟨_, rfl, rfl⟩ dX7_rowForMost_52

theorem in_X7_gatherRows_X7 : ∀ w ∈ wsX70, w ∈ wsX7_gatherRows := fun _ h => List.mem_cons_of_mem _ (List.mem_append_left _ (List.mem_append_right _ h))
theorem in_X7_gatherRows_X2 : ∀ w ∈ wsX20, w ∈ wsX7_gatherRows := fun _ h => List.mem_cons_of_mem _ (List.mem_append_right _ h)
abbrev rmX7_gatherRows : Room := { frames := 2, cells := 0, slots := 0, locals := 45 }
def B_X7_gatherRows_12 (P : PS) (v4 : Int32) (v5 : Int32) (S6 : PS) : Option ((Int32 × Int32 × PS) ⊕ (Int32 × PS)) :=
  if 32 ≤ v5 then
    some (.inr ((-1), S6))
  else
  b1 (f_X7_rowForMost S6 P v4) fun v8 =>
  b1 (rdI 64 (S6.2.1 5) v8) fun v9 =>
  if (v9 &&& v4) = 0 then
    some (.inr ((-1), S6))
  else
  b1 (wA 32 S6 6 v5 v8) fun S11 =>
  b1 (rdI 64 (S11.2.1 5) v8) fun v12 =>
  bn (v4 &&& (v12 ^^^ (-1))) fun v13 =>
  if v13 = 0 then
    some (.inr ((v5 + 1), S11))
  else
  bn (v5 + 1) fun v15 =>
  some (.inl (v13, v15, S11))
def L_X7_gatherRows_12 (P : PS) (n : Nat) (v4 : Int32) (v5 : Int32) (S6 : PS) : Option (Int32 × PS) := loopF (fun x : Int32 × Int32 × PS => B_X7_gatherRows_12 P x.1 x.2.1 x.2.2) n (v4, v5, S6)
def f_X7_gatherRows (S : PS) (P : PS) : Option (Int32 × PS) :=
  b1 (f_X7_inputCount S) fun v1 =>
  b1 (f_X7_span 0 v1) fun v2 =>
  bn (v2.toInt32) fun v3 =>
  L_X7_gatherRows_12 P FU v3 0 S
set_option maxHeartbeats 4000000 in
set_option maxRecDepth 100000 in
theorem c_X7_gatherRows (l : Launch) (D : va_G) (cs : CS) (a : Nat) (q : Nat → Nat) (qP : Nat → Nat) (S : PS) (P : PS) (r : Int32) (S' : PS) (hf : f_X7_gatherRows S P = some (r, S')) : CT l D (TY cs) yX7_gatherRows wsX7_gatherRows rmX7_gatherRows [.ref a] (wX7 cs a q S ++ wX2 cs (q 0) qP P) (some (.int r)) (wX7 cs a q S' ++ wX2 cs (q 0) qP P) := by
  refine CT.ofW (own := RX7) (cc := cX7_gatherRows) (maxL := 4) (ret := some .int) (by decide) rfl rfl (Nat.le_of_ble_eq_true rfl) ?_
  intro p e s m args below meth c A Q X hret ls hl hw
  obtain ⟨hx, hb, hml, hown, hts, hK, hA, hr, hlk⟩ := id X
  have hl : lv_has ls 4 [(0, .ref a)] := hl
  unfold f_X7_gatherRows at hf
  refine lv_iconst (pc := 0) (v := 0) hx hb dX7_gatherRows_0 (by decide) ?_
  refine lv_aload_n (pc := 1) hx hb dX7_gatherRows_1 rfl (lv_at hl 0 rfl) ?_
  obtain ⟨v1, hc, hf⟩ := b1_ob hf
  refine x_cut (pc := 2) (wr := ([5, 6, 7, 8, 9, 10, 11, 12].filterMap (fun i => (wX7 cs a q S ++ wX2 cs (q 0) qP P)[i]?))) (ws2 := wX7 cs a q S ++ wX2 cs (q 0) qP P) X hw [0, 1, 2, 3, 4] [5, 6, 7, 8, 9, 10, 11, 12] [8, 9, 10, 11, 12, 0, 1, 2, 3, 4, 5, 6, 7] rfl rfl (by decide) (by decide) rfl (by decide) (va_runV (As := []) (rest := [.int 0]) ⟨hx, hb, hml, hown, hts⟩ (c_X7_inputCount l D cs a q S v1 hc _) (cwV 0 hts gX7_gatherRows_X7_inputCount rfl rfl rfl (by decide +kernel) ⟨Nat.le_of_ble_eq_true rfl, Nat.le_of_ble_eq_true rfl⟩) ⟨CP_blind, va_recv hK hw.1 (ci := 7) (q0 := 0) rfl rfl, x_preC X hw [0, 1, 2, 3, 4] rfl (by decide) [.ref a]⟩ rfl rfl hl.1 rfl (lv_room (Nat.le_of_ble_eq_true rfl)) dX7_gatherRows_2 ⟨Nat.zero_le _, Nat.zero_le _⟩) (fun H locs hw => ?_)
  obtain ⟨v2, hc, hf⟩ := b1_ob hf
  refine x_nil (pc := 5) X hw (va_runS (As := [.int 0, .int v1]) (rest := []) ⟨hx, hb, hml, hown, hts⟩ (c_X7_span l D cs 0 v1 v2 hc _) (va_cwS 2 hts gX7_gatherRows_X7_span rfl rfl rfl (by decide +kernel) ⟨Nat.le_of_ble_eq_true rfl, Nat.le_of_ble_eq_true rfl⟩) ⟨CP_blind, x_preN X [.int 0, .int v1]⟩ rfl rfl hl.1 rfl (lv_room (Nat.le_of_ble_eq_true rfl)) dX7_gatherRows_5 ⟨Nat.zero_le _, Nat.zero_le _⟩) (fun H locs hw => ?_)
  refine lv_l2i (pc := 8) hx hb dX7_gatherRows_8 rfl ?_
  obtain ⟨v3, ev3, hf⟩ := bn_ob hf
  refine x_topi ev3 ?_
  refine lv_istore_n (lv' := [(1, .int v3), (0, .ref a)]) (pc := 9) hx hb dX7_gatherRows_9 rfl hl (by decide) rfl (fun ls hl => ?_)
  refine lv_iconst (pc := 10) (v := 0) hx hb dX7_gatherRows_10 (by decide) ?_
  refine lv_istore_n (lv' := [(2, .int 0), (1, .int v3), (0, .ref a)]) (pc := 11) hx hb dX7_gatherRows_11 rfl hl (by decide) rfl (fun ls hl => ?_)
  have L12 : ∀ (n : Nat) (v4 : Int32) (v5 : Int32) (S6 : PS), L_X7_gatherRows_12 P n v4 v5 S6 = some (r, S') → ∀ (H : Heap) (locs : List Loc) (ls : Array Slot), WD D A s (wX7 cs a q S6 ++ wX2 cs (q 0) qP P) H locs → lv_has ls 4 [(0, .ref a), (1, .int v4), (2, .int v5)] → W p l e rmX7_gatherRows s m args below meth c H locs 0 0 Q (F0 m 12 ls []) := by
    intro n
    induction n with
    | zero => intro v4 v5 S6 hf; exact (loopF_z hf).elim
    | succ n ih =>
      intro v4 v5 S6 hf H locs ls hw hl
      obtain ⟨x, hf, hx0⟩ := loopF_ob hf
      have hf : B_X7_gatherRows_12 P v4 v5 S6 = some x := hf
      unfold B_X7_gatherRows_12 at hf
      refine lv_iload_n (pc := 12) hx hb dX7_gatherRows_12 rfl (lv_at hl 2 rfl) ?_
      refine lv_bipush (pc := 13) (v := 32) hx hb dX7_gatherRows_13 (by decide) ?_
      refine lv_icmp_ge (pc := 15) (tgt := 69) hx hb dX7_gatherRows_15 (by decide) (fun c7 => ?_) (fun c7 => ?_)
      · have hf := ipos c7 hf
        refine lv_iconst (pc := 69) (v := (-1)) hx hb dX7_gatherRows_69 (by decide) ?_
        cases hf
        cases (hx0 : ((-1), S6) = (r, S'))
        exact hret _ _ 70 _ hw ⟨_, rfl, rfl⟩ dX7_gatherRows_70
      · have hf := ineg c7 hf
        refine lv_aload_n (pc := 18) hx hb dX7_gatherRows_18 rfl (lv_at hl 0 rfl) ?_
        refine lv_iload_n (pc := 19) hx hb dX7_gatherRows_19 rfl (lv_at hl 1 rfl) ?_
        obtain ⟨v8, hc, hf⟩ := b1_ob hf
        refine x_all (pc := 20) X hw (va_runV (As := [.int v4]) (rest := []) ⟨hx, hb, hml, hown, hts⟩ (c_X7_rowForMost l D cs a q qP S6 P v4 v8 hc _) (cwV 1 hts gX7_gatherRows_X7_rowForMost rfl rfl rfl (by decide +kernel) ⟨Nat.le_of_ble_eq_true rfl, Nat.le_of_ble_eq_true rfl⟩) ⟨CP_blind, va_recv hK hw.1 (ci := 7) (q0 := 0) rfl rfl, x_preA X hw [.ref a, .int v4]⟩ rfl rfl hl.1 rfl (lv_room (Nat.le_of_ble_eq_true rfl)) dX7_gatherRows_20 ⟨Nat.zero_le _, Nat.zero_le _⟩) (fun H locs hw => ?_)
        refine lv_istore_n (lv' := [(3, .int v8), (0, .ref a), (1, .int v4), (2, .int v5)]) (pc := 23) hx hb dX7_gatherRows_23 rfl hl (by decide) rfl (fun ls hl => ?_)
        refine lv_aload_n (pc := 24) hx hb dX7_gatherRows_24 rfl (lv_at hl 1 rfl) ?_
        refine x_get (pc := 25) X hw in_X7_gatherRows_X7 0 rfl rfl 5 (by decide) (List.mem_of_getElem? (i := 1) rfl) rfl dX7_gatherRows_25 ?_
        refine lv_iload_n (pc := 28) hx hb dX7_gatherRows_28 rfl (lv_at hl 0 rfl) ?_
        obtain ⟨v9, ev9, hf⟩ := b1_ob hf
        refine x_iald (pc := 29) X hw 2 0 rfl rfl ev9 dX7_gatherRows_29 ?_
        refine lv_iload_n (pc := 30) hx hb dX7_gatherRows_30 rfl (lv_at hl 2 rfl) ?_
        refine lv_iand (pc := 31) hx hb dX7_gatherRows_31 ?_
        refine lv_if_ne (pc := 32) (tgt := 37) hx hb dX7_gatherRows_32 (by decide) (fun c10 => ?_) (fun c10 => ?_)
        · have hf := ineg c10 hf
          refine lv_aload_n (pc := 37) hx hb dX7_gatherRows_37 rfl (lv_at hl 1 rfl) ?_
          refine x_get (pc := 38) X hw in_X7_gatherRows_X7 0 rfl rfl 6 (by decide) (List.mem_of_getElem? (i := 2) rfl) rfl dX7_gatherRows_38 ?_
          refine lv_iload_n (pc := 41) hx hb dX7_gatherRows_41 rfl (lv_at hl 3 rfl) ?_
          refine lv_iload_n (pc := 42) hx hb dX7_gatherRows_42 rfl (lv_at hl 0 rfl) ?_
          obtain ⟨S11, eS11, hf⟩ := b1_ob hf
          refine x_iast (pc := 43) X hw 3 0 rfl rfl (wA_ob eS11).1 dX7_gatherRows_43 (ws2 := wX7 cs a q S11 ++ wX2 cs (q 0) qP P) (by rw [(wA_ob eS11).2]; rfl) (fun H locs hw => ?_)
          refine lv_iload_n (pc := 44) hx hb dX7_gatherRows_44 rfl (lv_at hl 2 rfl) ?_
          refine lv_aload_n (pc := 45) hx hb dX7_gatherRows_45 rfl (lv_at hl 1 rfl) ?_
          refine x_get (pc := 46) X hw in_X7_gatherRows_X7 0 rfl rfl 5 (by decide) (List.mem_of_getElem? (i := 1) rfl) rfl dX7_gatherRows_46 ?_
          refine lv_iload_n (pc := 49) hx hb dX7_gatherRows_49 rfl (lv_at hl 0 rfl) ?_
          obtain ⟨v12, ev12, hf⟩ := b1_ob hf
          refine x_iald (pc := 50) X hw 2 0 rfl rfl ev12 dX7_gatherRows_50 ?_
          refine lv_iconst (pc := 51) (v := (-1)) hx hb dX7_gatherRows_51 (by decide) ?_
          refine lv_ixor (pc := 52) hx hb dX7_gatherRows_52 ?_
          refine lv_iand (pc := 53) hx hb dX7_gatherRows_53 ?_
          obtain ⟨v13, ev13, hf⟩ := bn_ob hf
          refine x_topi ev13 ?_
          refine lv_istore_n (lv' := [(1, .int v13), (3, .int v8), (0, .ref a), (2, .int v5)]) (pc := 54) hx hb dX7_gatherRows_54 rfl hl (by decide) rfl (fun ls hl => ?_)
          refine lv_iload_n (pc := 55) hx hb dX7_gatherRows_55 rfl (lv_at hl 0 rfl) ?_
          refine lv_if_ne (pc := 56) (tgt := 63) hx hb dX7_gatherRows_56 (by decide) (fun c14 => ?_) (fun c14 => ?_)
          · have hf := ineg c14 hf
            obtain ⟨v15, ev15, hf⟩ := bn_ob hf
            refine lv_iinc (pc := 63) (v := v15) (lv' := [(2, .int v15), (1, .int v13), (3, .int v8), (0, .ref a)]) hx hb dX7_gatherRows_63 hl (k := 3) rfl (by rw [ev15]; rfl) (by decide) rfl (fun ls hl => ?_)
            refine lv_goto (pc := 66) (tgt := 12) hx hb dX7_gatherRows_66 (by decide) ?_
            cases hf
            exact ih v13 v15 S11  hx0 _ _ _ hw (lv_sub hl [3, 1, 0] rfl)
          · have hf := ipos c14 hf
            refine lv_iload_n (pc := 59) hx hb dX7_gatherRows_59 rfl (lv_at hl 3 rfl) ?_
            refine lv_iconst (pc := 60) (v := 1) hx hb dX7_gatherRows_60 (by decide) ?_
            refine lv_iadd (pc := 61) hx hb dX7_gatherRows_61 ?_
            cases hf
            cases (hx0 : ((v5 + 1), S11) = (r, S'))
            exact hret _ _ 62 _ hw ⟨_, rfl, rfl⟩ dX7_gatherRows_62
        · have hf := ipos c10 hf
          refine lv_iconst (pc := 35) (v := (-1)) hx hb dX7_gatherRows_35 (by decide) ?_
          cases hf
          cases (hx0 : ((-1), S6) = (r, S'))
          exact hret _ _ 36 _ hw ⟨_, rfl, rfl⟩ dX7_gatherRows_36
  exact L12 _ v3 0 S hf _ _ _ hw (lv_sub hl [2, 1, 0] rfl)

theorem in_X7_addRun_X7 : ∀ w ∈ wsX70, w ∈ wsX7_addRun := fun _ h => List.mem_cons_of_mem _ (List.mem_append_left _ (List.mem_append_right _ h))
theorem in_X7_addRun_X2 : ∀ w ∈ wsX20, w ∈ wsX7_addRun := fun _ h => List.mem_cons_of_mem _ (List.mem_append_right _ h)
abbrev rmX7_addRun : Room := { frames := 0, cells := 0, slots := 0, locals := 0 }
def B_X7_addRun_13 (p1 : Int32) (v1 : Int32) (v2 : Int32) (S3 : PS) : Option ((Int32 × PS) ⊕ (PS)) :=
  if v2 ≤ 0 then
    some (.inr S3)
  else
  b1 (rdL 8 (S3.2.2 7) v2) fun v5 =>
  b1 (rdL 8 (S3.2.2 7) (v2 - 1)) fun v6 =>
  b1 (wL 8 S3 7 v2 ((v5 * (v1.toInt64)) + (v6 * (p1.toInt64)))) fun S7 =>
  bn (v2 + (-1)) fun v8 =>
  some (.inl (v8, S7))
def L_X7_addRun_13 (p1 : Int32) (v1 : Int32) (n : Nat) (v2 : Int32) (S3 : PS) : Option (PS) := loopF (fun x : Int32 × PS => B_X7_addRun_13 p1 v1 x.1 x.2) n (v2, S3)
def f_X7_addRun (S : PS) (P : PS) (p1 : Int32) : Option (PS) :=
  bn ((P.1 5) - p1) fun v1 =>
  b1 (L_X7_addRun_13 p1 v1 FU 7 S) fun S9 =>
  b1 (rdL 8 (S9.2.2 7) 0) fun v10 =>
  b1 (wL 8 S9 7 0 (v10 * (v1.toInt64))) fun S11 =>
  some S11
set_option maxHeartbeats 4000000 in
set_option maxRecDepth 100000 in
theorem c_X7_addRun (l : Launch) (D : va_G) (cs : CS) (a : Nat) (q : Nat → Nat) (qP : Nat → Nat) (S : PS) (P : PS) (p1 : Int32) (S' : PS) (hf : f_X7_addRun S P p1 = some S') : CT l D (TY cs) yX7_addRun wsX7_addRun rmX7_addRun [.ref a, .int p1] (wX7 cs a q S ++ wX2 cs (q 0) qP P) none (wX7 cs a q S' ++ wX2 cs (q 0) qP P) := by
  refine CT.ofW (own := RX7) (cc := cX7_addRun) (maxL := 4) (ret := none) (by decide) rfl rfl (Nat.le_of_ble_eq_true rfl) ?_
  intro p e s m args below meth c A Q X hret ls hl hw
  obtain ⟨hx, hb, hml, hown, hts, hK, hA, hr, hlk⟩ := id X
  have hl : lv_has ls 4 [(0, .ref a), (1, .int p1)] := hl
  unfold f_X7_addRun at hf
  refine lv_aload_n (pc := 0) hx hb dX7_addRun_0 rfl (lv_at hl 0 rfl) ?_
  refine x_get (pc := 1) X hw in_X7_addRun_X7 0 rfl rfl 0 (by decide) (List.mem_of_getElem? (i := 1) rfl) rfl dX7_addRun_1 ?_
  refine x_get (pc := 4) X hw in_X7_addRun_X2 5 rfl rfl 5 (by decide) (List.mem_of_getElem? (i := 2) rfl) rfl dX7_addRun_4 ?_
  refine lv_iload_n (pc := 7) hx hb dX7_addRun_7 rfl (lv_at hl 1 rfl) ?_
  refine lv_isub (pc := 8) hx hb dX7_addRun_8 ?_
  obtain ⟨v1, ev1, hf⟩ := bn_ob hf
  refine x_topi ev1 ?_
  refine lv_istore_n (lv' := [(2, .int v1), (0, .ref a), (1, .int p1)]) (pc := 9) hx hb dX7_addRun_9 rfl hl (by decide) rfl (fun ls hl => ?_)
  refine lv_bipush (pc := 10) (v := 7) hx hb dX7_addRun_10 (by decide) ?_
  refine lv_istore_n (lv' := [(3, .int 7), (2, .int v1), (0, .ref a), (1, .int p1)]) (pc := 12) hx hb dX7_addRun_12 rfl hl (by decide) rfl (fun ls hl => ?_)
  have L13 : ∀ (n : Nat) (v2 : Int32) (S3 : PS) (rS3 : PS), L_X7_addRun_13 p1 v1 n v2 S3 = some rS3 → ∀ (H : Heap) (locs : List Loc) (ls : Array Slot), WD D A s (wX7 cs a q S3 ++ wX2 cs (q 0) qP P) H locs → lv_has ls 4 [(0, .ref a), (1, .int p1), (2, .int v1), (3, .int v2)] → (∀ (H : Heap) (locs : List Loc) (ls : Array Slot), WD D A s (wX7 cs a q rS3 ++ wX2 cs (q 0) qP P) H locs → lv_has ls 4 [(0, .ref a), (2, .int v1)] → W p l e rmX7_addRun s m args below meth c H locs 0 0 Q (F0 m 50 ls [])) → W p l e rmX7_addRun s m args below meth c H locs 0 0 Q (F0 m 13 ls []) := by
    intro n
    induction n with
    | zero => intro v2 S3 rS3 hf; exact (loopF_z hf).elim
    | succ n ih =>
      intro v2 S3 rS3 hf H locs ls hw hl K
      obtain ⟨x, hf, hx0⟩ := loopF_ob hf
      have hf : B_X7_addRun_13 p1 v1 v2 S3 = some x := hf
      unfold B_X7_addRun_13 at hf
      refine lv_iload_n (pc := 13) hx hb dX7_addRun_13 rfl (lv_at hl 3 rfl) ?_
      refine lv_if_le (pc := 14) (tgt := 50) hx hb dX7_addRun_14 (by decide) (fun c4 => ?_) (fun c4 => ?_)
      · have hf := ipos c4 hf
        cases hf
        cases (hx0 : S3 = rS3)
        exact K _ _ _ hw (lv_sub hl [0, 2] rfl)
      · have hf := ineg c4 hf
        refine lv_aload_n (pc := 17) hx hb dX7_addRun_17 rfl (lv_at hl 0 rfl) ?_
        refine x_get (pc := 18) X hw in_X7_addRun_X7 0 rfl rfl 7 (by decide) (List.mem_of_getElem? (i := 3) rfl) rfl dX7_addRun_18 ?_
        refine lv_iload_n (pc := 21) hx hb dX7_addRun_21 rfl (lv_at hl 3 rfl) ?_
        refine lv_aload_n (pc := 22) hx hb dX7_addRun_22 rfl (lv_at hl 0 rfl) ?_
        refine x_get (pc := 23) X hw in_X7_addRun_X7 0 rfl rfl 7 (by decide) (List.mem_of_getElem? (i := 3) rfl) rfl dX7_addRun_23 ?_
        refine lv_iload_n (pc := 26) hx hb dX7_addRun_26 rfl (lv_at hl 3 rfl) ?_
        obtain ⟨v5, ev5, hf⟩ := b1_ob hf
        refine x_lald (pc := 27) X hw 4 1 rfl rfl ev5 dX7_addRun_27 ?_
        refine lv_iload_n (pc := 28) hx hb dX7_addRun_28 rfl (lv_at hl 2 rfl) ?_
        refine lv_i2l (pc := 29) hx hb dX7_addRun_29 rfl ?_
        refine lv_lmul (pc := 30) hx hb dX7_addRun_30 ?_
        refine lv_aload_n (pc := 31) hx hb dX7_addRun_31 rfl (lv_at hl 0 rfl) ?_
        refine x_get (pc := 32) X hw in_X7_addRun_X7 0 rfl rfl 7 (by decide) (List.mem_of_getElem? (i := 3) rfl) rfl dX7_addRun_32 ?_
        refine lv_iload_n (pc := 35) hx hb dX7_addRun_35 rfl (lv_at hl 3 rfl) ?_
        refine lv_iconst (pc := 36) (v := 1) hx hb dX7_addRun_36 (by decide) ?_
        refine lv_isub (pc := 37) hx hb dX7_addRun_37 ?_
        obtain ⟨v6, ev6, hf⟩ := b1_ob hf
        refine x_lald (pc := 38) X hw 4 1 rfl rfl ev6 dX7_addRun_38 ?_
        refine lv_iload_n (pc := 39) hx hb dX7_addRun_39 rfl (lv_at hl 1 rfl) ?_
        refine lv_i2l (pc := 40) hx hb dX7_addRun_40 rfl ?_
        refine lv_lmul (pc := 41) hx hb dX7_addRun_41 ?_
        refine lv_ladd (pc := 42) hx hb dX7_addRun_42 ?_
        obtain ⟨S7, eS7, hf⟩ := b1_ob hf
        refine x_last (pc := 43) X hw 4 1 rfl rfl (wL_ob eS7).1 dX7_addRun_43 (ws2 := wX7 cs a q S7 ++ wX2 cs (q 0) qP P) (by rw [(wL_ob eS7).2]; rfl) (fun H locs hw => ?_)
        obtain ⟨v8, ev8, hf⟩ := bn_ob hf
        refine lv_iinc (pc := 44) (v := v8) (lv' := [(3, .int v8), (0, .ref a), (1, .int p1), (2, .int v1)]) hx hb dX7_addRun_44 hl (k := 3) rfl (by rw [ev8]; rfl) (by decide) rfl (fun ls hl => ?_)
        refine lv_goto (pc := 47) (tgt := 13) hx hb dX7_addRun_47 (by decide) ?_
        cases hf
        exact ih v8 S7 rS3 hx0 _ _ _ hw (lv_sub hl [1, 2, 3, 0] rfl) K
  obtain ⟨S9, hj, hf⟩ := b1_ob hf
  refine L13 _ 7 S S9 hj _ _ _ hw (lv_sub hl [2, 3, 1, 0] rfl) (fun H locs ls hw hl => ?_)
  clear hj L13
  refine lv_aload_n (pc := 50) hx hb dX7_addRun_50 rfl (lv_at hl 0 rfl) ?_
  refine x_get (pc := 51) X hw in_X7_addRun_X7 0 rfl rfl 7 (by decide) (List.mem_of_getElem? (i := 3) rfl) rfl dX7_addRun_51 ?_
  refine lv_iconst (pc := 54) (v := 0) hx hb dX7_addRun_54 (by decide) ?_
  refine lv_dup2_11 (pc := 55) hx hb dX7_addRun_55 rfl rfl ?_
  obtain ⟨v10, ev10, hf⟩ := b1_ob hf
  refine x_lald (pc := 56) X hw 4 1 rfl rfl ev10 dX7_addRun_56 ?_
  refine lv_iload_n (pc := 57) hx hb dX7_addRun_57 rfl (lv_at hl 1 rfl) ?_
  refine lv_i2l (pc := 58) hx hb dX7_addRun_58 rfl ?_
  refine lv_lmul (pc := 59) hx hb dX7_addRun_59 ?_
  obtain ⟨S11, eS11, hf⟩ := b1_ob hf
  refine x_last (pc := 60) X hw 4 1 rfl rfl (wL_ob eS11).1 dX7_addRun_60 (ws2 := wX7 cs a q S11 ++ wX2 cs (q 0) qP P) (by rw [(wL_ob eS11).2]; rfl) (fun H locs hw => ?_)
  cases hf
  exact hret _ _ 61 _ hw rfl dX7_addRun_61

theorem in_X7_majorityWays_X7 : ∀ w ∈ wsX70, w ∈ wsX7_majorityWays := fun _ h => List.mem_cons_of_mem _ (List.mem_append_right _ h)
abbrev rmX7_majorityWays : Room := { frames := 0, cells := 0, slots := 0, locals := 0 }
def B_X7_majorityWays_9 (S : PS) (p1 : Int32) (v2 : Int64) (v3 : Int32) : Option ((Int64 × Int32) ⊕ (Int64)) :=
  if p1 < v3 then
    some (.inr v2)
  else
  b1 (rdL 8 (S.2.2 7) v3) fun v5 =>
  bn (v2 + v5) fun v6 =>
  bn (v3 + 1) fun v7 =>
  some (.inl (v6, v7))
def L_X7_majorityWays_9 (S : PS) (p1 : Int32) (n : Nat) (v2 : Int64) (v3 : Int32) : Option (Int64) := loopF (fun x : Int64 × Int32 => B_X7_majorityWays_9 S p1 x.1 x.2) n (v2, v3)
def f_X7_majorityWays (S : PS) (p1 : Int32) : Option (Int64) :=
  bn ((p1 / 2) + 1) fun v1 =>
  b1 (L_X7_majorityWays_9 S p1 FU 0 v1) fun v8 =>
  some v8
set_option maxHeartbeats 4000000 in
set_option maxRecDepth 100000 in
theorem c_X7_majorityWays (l : Launch) (D : va_G) (cs : CS) (a : Nat) (q : Nat → Nat) (S : PS) (p1 : Int32) (r : Int64) (hf : f_X7_majorityWays S p1 = some r) : CT l D (TY cs) yX7_majorityWays wsX7_majorityWays rmX7_majorityWays [.ref a, .int p1] (wX7 cs a q S) (some (.long r)) (wX7 cs a q S) := by
  refine CT.ofW (own := RX7) (cc := cX7_majorityWays) (maxL := 5) (ret := some .long) (by decide) rfl rfl (Nat.le_of_ble_eq_true rfl) ?_
  intro p e s m args below meth c A Q X hret ls hl hw
  obtain ⟨hx, hb, hml, hown, hts, hK, hA, hr, hlk⟩ := id X
  have hl : lv_has ls 5 [(0, .ref a), (1, .int p1)] := hl
  unfold f_X7_majorityWays at hf
  refine lv_lconst (pc := 0) (v := 0) hx hb dX7_majorityWays_0 (by decide) ?_
  refine lv_lstore_n (lv' := [(2, .long 0), (0, .ref a), (1, .int p1)]) (pc := 1) hx hb dX7_majorityWays_1 rfl hl (by decide) rfl (fun ls hl => ?_)
  refine lv_iload_n (pc := 2) hx hb dX7_majorityWays_2 rfl (lv_at hl 2 rfl) ?_
  refine lv_iconst (pc := 3) (v := 2) hx hb dX7_majorityWays_3 (by decide) ?_
  refine lv_idiv (pc := 4) hx hb dX7_majorityWays_4 (by decide) ?_
  refine lv_iconst (pc := 5) (v := 1) hx hb dX7_majorityWays_5 (by decide) ?_
  refine lv_iadd (pc := 6) hx hb dX7_majorityWays_6 ?_
  obtain ⟨v1, ev1, hf⟩ := bn_ob hf
  refine x_topi ev1 ?_
  refine lv_istore (lv' := [(4, .int v1), (2, .long 0), (0, .ref a), (1, .int p1)]) (pc := 7) hx hb dX7_majorityWays_7 hl (by decide) rfl (fun ls hl => ?_)
  have L9 : ∀ (n : Nat) (v2 : Int64) (v3 : Int32) (rv2 : Int64), L_X7_majorityWays_9 S p1 n v2 v3 = some rv2 → ∀ (H : Heap) (locs : List Loc) (ls : Array Slot), WD D A s (wX7 cs a q S) H locs → lv_has ls 5 [(0, .ref a), (1, .int p1), (2, .long v2), (4, .int v3)] → (∀ (H : Heap) (locs : List Loc) (ls : Array Slot), WD D A s (wX7 cs a q S) H locs → lv_has ls 5 [(2, .long rv2)] → W p l e rmX7_majorityWays s m args below meth c H locs 0 0 Q (F0 m 31 ls [])) → W p l e rmX7_majorityWays s m args below meth c H locs 0 0 Q (F0 m 9 ls []) := by
    intro n
    induction n with
    | zero => intro v2 v3 rv2 hf; exact (loopF_z hf).elim
    | succ n ih =>
      intro v2 v3 rv2 hf H locs ls hw hl K
      obtain ⟨x, hf, hx0⟩ := loopF_ob hf
      have hf : B_X7_majorityWays_9 S p1 v2 v3 = some x := hf
      unfold B_X7_majorityWays_9 at hf
      refine lv_iload (pc := 9) hx hb dX7_majorityWays_9 (lv_at hl 3 rfl) ?_
      refine lv_iload_n (pc := 11) hx hb dX7_majorityWays_11 rfl (lv_at hl 1 rfl) ?_
      refine lv_icmp_gt (pc := 12) (tgt := 31) hx hb dX7_majorityWays_12 (by decide) (fun c4 => ?_) (fun c4 => ?_)
      · have hf := ipos c4 hf
        cases hf
        cases (hx0 : v2 = rv2)
        exact K _ _ _ hw (lv_sub hl [2] rfl)
      · have hf := ineg c4 hf
        refine lv_lload_n (pc := 15) hx hb dX7_majorityWays_15 rfl (lv_at hl 2 rfl) ?_
        refine lv_aload_n (pc := 16) hx hb dX7_majorityWays_16 rfl (lv_at hl 0 rfl) ?_
        refine x_get (pc := 17) X hw in_X7_majorityWays_X7 0 rfl rfl 7 (by decide) (List.mem_of_getElem? (i := 1) rfl) rfl dX7_majorityWays_17 ?_
        refine lv_iload (pc := 20) hx hb dX7_majorityWays_20 (lv_at hl 3 rfl) ?_
        obtain ⟨v5, ev5, hf⟩ := b1_ob hf
        refine x_lald (pc := 22) X hw 4 1 rfl rfl ev5 dX7_majorityWays_22 ?_
        refine lv_ladd (pc := 23) hx hb dX7_majorityWays_23 ?_
        obtain ⟨v6, ev6, hf⟩ := bn_ob hf
        refine x_topl ev6 ?_
        refine lv_lstore_n (lv' := [(2, .long v6), (0, .ref a), (1, .int p1), (4, .int v3)]) (pc := 24) hx hb dX7_majorityWays_24 rfl hl (by decide) rfl (fun ls hl => ?_)
        obtain ⟨v7, ev7, hf⟩ := bn_ob hf
        refine lv_iinc (pc := 25) (v := v7) (lv' := [(4, .int v7), (2, .long v6), (0, .ref a), (1, .int p1)]) hx hb dX7_majorityWays_25 hl (k := 3) rfl (by rw [ev7]; rfl) (by decide) rfl (fun ls hl => ?_)
        refine lv_goto (pc := 28) (tgt := 9) hx hb dX7_majorityWays_28 (by decide) ?_
        cases hf
        exact ih v6 v7 rv2 hx0 _ _ _ hw (lv_sub hl [2, 3, 1, 0] rfl) K
  obtain ⟨v8, hj, hf⟩ := b1_ob hf
  refine L9 _ 0 v1 v8 hj _ _ _ hw (lv_sub hl [2, 3, 1, 0] rfl) (fun H locs ls hw hl => ?_)
  clear hj L9
  refine lv_lload_n (pc := 31) hx hb dX7_majorityWays_31 rfl (lv_at hl 0 rfl) ?_
  cases hf
  exact hret _ _ 32 _ hw rfl dX7_majorityWays_32

theorem in_X7_runsForMajority_X7 : ∀ w ∈ wsX70, w ∈ wsX7_runsForMajority := fun _ h => List.mem_cons_of_mem _ (List.mem_append_left _ (List.mem_append_right _ h))
theorem in_X7_runsForMajority_X2 : ∀ w ∈ wsX20, w ∈ wsX7_runsForMajority := fun _ h => List.mem_cons_of_mem _ (List.mem_append_right _ h)
abbrev rmX7_runsForMajority : Room := { frames := 3, cells := 0, slots := 0, locals := 64 }
def B_X7_runsForMajority_30 (P : PS) (p1 : Int32) (p2 : Int32) (v2 : Int32) (v6 : Int64) (v7 : Int32) (S8 : PS) : Option ((Int64 × Int32 × PS) ⊕ (Int32 × PS)) :=
  if 7 < v7 then
    some (.inr ((-1), S8))
  else
  b1 (f_X7_addRun S8 P v2) fun S10 =>
  bn (v6 * ((P.1 5).toInt64)) fun v11 =>
  if (v7 &&& 1) = 1 then
    b1 (f_X7_majorityWays S10 v7) fun v14 =>
    if (lg_cmp (v14 * (p2.toInt64)) ((p1.toInt64) * v11)) < 0 then
      bn (v7 + 1) fun v16 =>
      some (.inl (v11, v16, S10))
    else
    some (.inr (v7, S10))
  else
  bn (v7 + 1) fun v13 =>
  some (.inl (v11, v13, S10))
def L_X7_runsForMajority_30 (P : PS) (p1 : Int32) (p2 : Int32) (v2 : Int32) (n : Nat) (v6 : Int64) (v7 : Int32) (S8 : PS) : Option (Int32 × PS) := loopF (fun x : Int64 × Int32 × PS => B_X7_runsForMajority_30 P p1 p2 v2 x.1 x.2.1 x.2.2) n (v6, v7, S8)
def f_X7_runsForMajority (S : PS) (P : PS) (p1 : Int32) (p2 : Int32) : Option (Int32 × PS) :=
  b1 (f_X7_worstInput S) fun v1 =>
  b1 (f_X7_rightCount S v1) fun v2 =>
  b1 (f_J7_fill_d0a16 8 (S.2.2 7) 0) fun f3 =>
  bn (sL S 7 f3) fun S4 =>
  b1 (wL 8 S4 7 0 1) fun S5 =>
  L_X7_runsForMajority_30 P p1 p2 v2 FU 1 1 S5
set_option maxHeartbeats 4000000 in
set_option maxRecDepth 100000 in
theorem c_X7_runsForMajority (l : Launch) (D : va_G) (cs : CS) (a : Nat) (q : Nat → Nat) (qP : Nat → Nat) (S : PS) (P : PS) (p1 : Int32) (p2 : Int32) (r : Int32) (S' : PS) (hf : f_X7_runsForMajority S P p1 p2 = some (r, S')) : CT l D (TY cs) yX7_runsForMajority wsX7_runsForMajority rmX7_runsForMajority [.ref a, .int p1, .int p2] (wX7 cs a q S ++ wX2 cs (q 0) qP P) (some (.int r)) (wX7 cs a q S' ++ wX2 cs (q 0) qP P) := by
  refine CT.ofW (own := RX7) (cc := cX7_runsForMajority) (maxL := 7) (ret := some .int) (by decide) rfl rfl (Nat.le_of_ble_eq_true rfl) ?_
  intro p e s m args below meth c A Q X hret ls hl hw
  obtain ⟨hx, hb, hml, hown, hts, hK, hA, hr, hlk⟩ := id X
  have hl : lv_has ls 7 [(0, .ref a), (1, .int p1), (2, .int p2)] := hl
  unfold f_X7_runsForMajority at hf
  refine lv_aload_n (pc := 0) hx hb dX7_runsForMajority_0 rfl (lv_at hl 0 rfl) ?_
  refine lv_aload_n (pc := 1) hx hb dX7_runsForMajority_1 rfl (lv_at hl 0 rfl) ?_
  obtain ⟨v1, hc, hf⟩ := b1_ob hf
  refine x_cut (pc := 2) (wr := ([5, 6, 7, 8, 9, 10, 11, 12].filterMap (fun i => (wX7 cs a q S ++ wX2 cs (q 0) qP P)[i]?))) (ws2 := wX7 cs a q S ++ wX2 cs (q 0) qP P) X hw [0, 1, 2, 3, 4] [5, 6, 7, 8, 9, 10, 11, 12] [8, 9, 10, 11, 12, 0, 1, 2, 3, 4, 5, 6, 7] rfl rfl (by decide) (by decide) rfl (by decide) (va_runV (As := []) (rest := [.ref a]) ⟨hx, hb, hml, hown, hts⟩ (c_X7_worstInput l D cs a q S v1 hc _) (cwV 0 hts gX7_runsForMajority_X7_worstInput rfl rfl rfl (by decide +kernel) ⟨Nat.le_of_ble_eq_true rfl, Nat.le_of_ble_eq_true rfl⟩) ⟨CP_blind, va_recv hK hw.1 (ci := 7) (q0 := 0) rfl rfl, x_preC X hw [0, 1, 2, 3, 4] rfl (by decide) [.ref a]⟩ rfl rfl hl.1 rfl (lv_room (Nat.le_of_ble_eq_true rfl)) dX7_runsForMajority_2 ⟨Nat.zero_le _, Nat.zero_le _⟩) (fun H locs hw => ?_)
  obtain ⟨v2, hc, hf⟩ := b1_ob hf
  refine x_cut (pc := 5) (wr := ([5, 6, 7, 8, 9, 10, 11, 12].filterMap (fun i => (wX7 cs a q S ++ wX2 cs (q 0) qP P)[i]?))) (ws2 := wX7 cs a q S ++ wX2 cs (q 0) qP P) X hw [0, 1, 2, 3, 4] [5, 6, 7, 8, 9, 10, 11, 12] [8, 9, 10, 11, 12, 0, 1, 2, 3, 4, 5, 6, 7] rfl rfl (by decide) (by decide) rfl (by decide) (va_runV (As := [.int v1]) (rest := []) ⟨hx, hb, hml, hown, hts⟩ (c_X7_rightCount l D cs a q S v1 v2 hc _) (cwV 1 hts gX7_runsForMajority_X7_rightCount rfl rfl rfl (by decide +kernel) ⟨Nat.le_of_ble_eq_true rfl, Nat.le_of_ble_eq_true rfl⟩) ⟨CP_blind, va_recv hK hw.1 (ci := 7) (q0 := 0) rfl rfl, x_preC X hw [0, 1, 2, 3, 4] rfl (by decide) [.ref a, .int v1]⟩ rfl rfl hl.1 rfl (lv_room (Nat.le_of_ble_eq_true rfl)) dX7_runsForMajority_5 ⟨Nat.zero_le _, Nat.zero_le _⟩) (fun H locs hw => ?_)
  refine lv_istore_n (lv' := [(3, .int v2), (0, .ref a), (1, .int p1), (2, .int p2)]) (pc := 8) hx hb dX7_runsForMajority_8 rfl hl (by decide) rfl (fun ls hl => ?_)
  refine lv_lconst (pc := 9) (v := 1) hx hb dX7_runsForMajority_9 (by decide) ?_
  refine lv_lstore (lv' := [(4, .long 1), (3, .int v2), (0, .ref a), (1, .int p1), (2, .int p2)]) (pc := 10) hx hb dX7_runsForMajority_10 hl (by decide) rfl (fun ls hl => ?_)
  refine lv_aload_n (pc := 12) hx hb dX7_runsForMajority_12 rfl (lv_at hl 2 rfl) ?_
  refine x_get (pc := 13) X hw in_X7_runsForMajority_X7 0 rfl rfl 7 (by decide) (List.mem_of_getElem? (i := 1) rfl) rfl dX7_runsForMajority_13 ?_
  refine lv_lconst (pc := 16) (v := 0) hx hb dX7_runsForMajority_16 (by decide) ?_
  obtain ⟨f3, hc, hf⟩ := b1_ob hf
  obtain ⟨S4, eS4, hf⟩ := bn_ob hf
  refine x_cut (pc := 17) (wr := ([0, 1, 2, 3, 5, 6, 7, 8, 9, 10, 11, 12].filterMap (fun i => (wX7 cs a q S ++ wX2 cs (q 0) qP P)[i]?))) (ws2 := wX7 cs a q S4 ++ wX2 cs (q 0) qP P) X hw [4] [0, 1, 2, 3, 5, 6, 7, 8, 9, 10, 11, 12] [0, 1, 2, 3, 12, 4, 5, 6, 7, 8, 9, 10, 11] rfl rfl (by decide) (by decide) (by rw [eS4]; rfl) (by decide) (va_runS (As := [.ref (q 7), .long 0]) (rest := []) ⟨hx, hb, hml, hown, hts⟩ (c_J7_fill_d0a16 l D cs (q 7) 8 (S.2.2 7) 0 f3 hc _) (va_cwS 2 hts gX7_runsForMajority_J7_fill_d0a16 rfl rfl rfl (by decide +kernel) ⟨Nat.le_of_ble_eq_true rfl, Nat.le_of_ble_eq_true rfl⟩) ⟨CP_blind, x_preC X hw [4] rfl (by decide) [.ref (q 7), .long 0]⟩ rfl rfl hl.1 rfl (lv_room (Nat.le_of_ble_eq_true rfl)) dX7_runsForMajority_17 ⟨Nat.zero_le _, Nat.zero_le _⟩) (fun H locs hw => ?_)
  refine lv_aload_n (pc := 20) hx hb dX7_runsForMajority_20 rfl (lv_at hl 2 rfl) ?_
  refine x_get (pc := 21) X hw in_X7_runsForMajority_X7 0 rfl rfl 7 (by decide) (List.mem_of_getElem? (i := 1) rfl) rfl dX7_runsForMajority_21 ?_
  refine lv_iconst (pc := 24) (v := 0) hx hb dX7_runsForMajority_24 (by decide) ?_
  refine lv_lconst (pc := 25) (v := 1) hx hb dX7_runsForMajority_25 (by decide) ?_
  obtain ⟨S5, eS5, hf⟩ := b1_ob hf
  refine x_last (pc := 26) X hw 4 1 rfl rfl (wL_ob eS5).1 dX7_runsForMajority_26 (ws2 := wX7 cs a q S5 ++ wX2 cs (q 0) qP P) (by rw [(wL_ob eS5).2]; rfl) (fun H locs hw => ?_)
  refine lv_iconst (pc := 27) (v := 1) hx hb dX7_runsForMajority_27 (by decide) ?_
  refine lv_istore (lv' := [(6, .int 1), (4, .long 1), (3, .int v2), (0, .ref a), (1, .int p1), (2, .int p2)]) (pc := 28) hx hb dX7_runsForMajority_28 hl (by decide) rfl (fun ls hl => ?_)
  have L30 : ∀ (n : Nat) (v6 : Int64) (v7 : Int32) (S8 : PS), L_X7_runsForMajority_30 P p1 p2 v2 n v6 v7 S8 = some (r, S') → ∀ (H : Heap) (locs : List Loc) (ls : Array Slot), WD D A s (wX7 cs a q S8 ++ wX2 cs (q 0) qP P) H locs → lv_has ls 7 [(0, .ref a), (1, .int p1), (2, .int p2), (3, .int v2), (4, .long v6), (6, .int v7)] → W p l e rmX7_runsForMajority s m args below meth c H locs 0 0 Q (F0 m 30 ls []) := by
    intro n
    induction n with
    | zero => intro v6 v7 S8 hf; exact (loopF_z hf).elim
    | succ n ih =>
      intro v6 v7 S8 hf H locs ls hw hl
      obtain ⟨x, hf, hx0⟩ := loopF_ob hf
      have hf : B_X7_runsForMajority_30 P p1 p2 v2 v6 v7 S8 = some x := hf
      unfold B_X7_runsForMajority_30 at hf
      refine lv_iload (pc := 30) hx hb dX7_runsForMajority_30 (lv_at hl 5 rfl) ?_
      refine lv_bipush (pc := 32) (v := 7) hx hb dX7_runsForMajority_32 (by decide) ?_
      refine lv_icmp_gt (pc := 34) (tgt := 90) hx hb dX7_runsForMajority_34 (by decide) (fun c9 => ?_) (fun c9 => ?_)
      · have hf := ipos c9 hf
        refine lv_iconst (pc := 90) (v := (-1)) hx hb dX7_runsForMajority_90 (by decide) ?_
        cases hf
        cases (hx0 : ((-1), S8) = (r, S'))
        exact hret _ _ 91 _ hw ⟨_, rfl, rfl⟩ dX7_runsForMajority_91
      · have hf := ineg c9 hf
        refine lv_aload_n (pc := 37) hx hb dX7_runsForMajority_37 rfl (lv_at hl 0 rfl) ?_
        refine lv_iload_n (pc := 38) hx hb dX7_runsForMajority_38 rfl (lv_at hl 3 rfl) ?_
        obtain ⟨S10, hc, hf⟩ := b1_ob hf
        refine x_all (pc := 39) X hw (va_runV (As := [.int v2]) (rest := []) ⟨hx, hb, hml, hown, hts⟩ (c_X7_addRun l D cs a q qP S8 P v2 S10 hc _) (cwV 1 hts gX7_runsForMajority_X7_addRun rfl rfl rfl (by decide +kernel) ⟨Nat.le_of_ble_eq_true rfl, Nat.le_of_ble_eq_true rfl⟩) ⟨CP_blind, va_recv hK hw.1 (ci := 7) (q0 := 0) rfl rfl, x_preA X hw [.ref a, .int v2]⟩ rfl rfl hl.1 rfl (lv_room (Nat.le_of_ble_eq_true rfl)) dX7_runsForMajority_39 ⟨Nat.zero_le _, Nat.zero_le _⟩) (fun H locs hw => ?_)
        refine lv_lload (pc := 42) hx hb dX7_runsForMajority_42 (lv_at hl 4 rfl) ?_
        refine lv_aload_n (pc := 44) hx hb dX7_runsForMajority_44 rfl (lv_at hl 0 rfl) ?_
        refine x_get (pc := 45) X hw in_X7_runsForMajority_X7 0 rfl rfl 0 (by decide) (List.mem_of_getElem? (i := 2) rfl) rfl dX7_runsForMajority_45 ?_
        refine x_get (pc := 48) X hw in_X7_runsForMajority_X2 5 rfl rfl 5 (by decide) (List.mem_of_getElem? (i := 3) rfl) rfl dX7_runsForMajority_48 ?_
        refine lv_i2l (pc := 51) hx hb dX7_runsForMajority_51 rfl ?_
        refine lv_lmul (pc := 52) hx hb dX7_runsForMajority_52 ?_
        obtain ⟨v11, ev11, hf⟩ := bn_ob hf
        refine x_topl ev11 ?_
        refine lv_lstore (lv' := [(4, .long v11), (0, .ref a), (1, .int p1), (2, .int p2), (3, .int v2), (6, .int v7)]) (pc := 53) hx hb dX7_runsForMajority_53 hl (by decide) rfl (fun ls hl => ?_)
        refine lv_iload (pc := 55) hx hb dX7_runsForMajority_55 (lv_at hl 5 rfl) ?_
        refine lv_iconst (pc := 57) (v := 1) hx hb dX7_runsForMajority_57 (by decide) ?_
        refine lv_iand (pc := 58) hx hb dX7_runsForMajority_58 ?_
        refine lv_iconst (pc := 59) (v := 1) hx hb dX7_runsForMajority_59 (by decide) ?_
        refine lv_icmp_ne (pc := 60) (tgt := 84) hx hb dX7_runsForMajority_60 (by decide) (fun c12 => ?_) (fun c12 => ?_)
        · have hf := ineg c12 hf
          obtain ⟨v13, ev13, hf⟩ := bn_ob hf
          refine lv_iinc (pc := 84) (v := v13) (lv' := [(6, .int v13), (4, .long v11), (0, .ref a), (1, .int p1), (2, .int p2), (3, .int v2)]) hx hb dX7_runsForMajority_84 hl (k := 5) rfl (by rw [ev13]; rfl) (by decide) rfl (fun ls hl => ?_)
          refine lv_goto (pc := 87) (tgt := 30) hx hb dX7_runsForMajority_87 (by decide) ?_
          cases hf
          exact ih v11 v13 S10  hx0 _ _ _ hw (lv_sub hl [2, 3, 4, 5, 1, 0] rfl)
        · have hf := ipos c12 hf
          refine lv_aload_n (pc := 63) hx hb dX7_runsForMajority_63 rfl (lv_at hl 1 rfl) ?_
          refine lv_iload (pc := 64) hx hb dX7_runsForMajority_64 (lv_at hl 5 rfl) ?_
          obtain ⟨v14, hc, hf⟩ := b1_ob hf
          refine x_cut (pc := 66) (wr := ([5, 6, 7, 8, 9, 10, 11, 12].filterMap (fun i => (wX7 cs a q S10 ++ wX2 cs (q 0) qP P)[i]?))) (ws2 := wX7 cs a q S10 ++ wX2 cs (q 0) qP P) X hw [0, 1, 2, 3, 4] [5, 6, 7, 8, 9, 10, 11, 12] [8, 9, 10, 11, 12, 0, 1, 2, 3, 4, 5, 6, 7] rfl rfl (by decide) (by decide) rfl (by decide) (va_runV (As := [.int v7]) (rest := []) ⟨hx, hb, hml, hown, hts⟩ (c_X7_majorityWays l D cs a q S10 v7 v14 hc _) (cwV 1 hts gX7_runsForMajority_X7_majorityWays rfl rfl rfl (by decide +kernel) ⟨Nat.le_of_ble_eq_true rfl, Nat.le_of_ble_eq_true rfl⟩) ⟨CP_blind, va_recv hK hw.1 (ci := 7) (q0 := 0) rfl rfl, x_preC X hw [0, 1, 2, 3, 4] rfl (by decide) [.ref a, .int v7]⟩ rfl rfl hl.1 rfl (lv_room (Nat.le_of_ble_eq_true rfl)) dX7_runsForMajority_66 ⟨Nat.zero_le _, Nat.zero_le _⟩) (fun H locs hw => ?_)
          refine lv_iload_n (pc := 69) hx hb dX7_runsForMajority_69 rfl (lv_at hl 3 rfl) ?_
          refine lv_i2l (pc := 70) hx hb dX7_runsForMajority_70 rfl ?_
          refine lv_lmul (pc := 71) hx hb dX7_runsForMajority_71 ?_
          refine lv_iload_n (pc := 72) hx hb dX7_runsForMajority_72 rfl (lv_at hl 2 rfl) ?_
          refine lv_i2l (pc := 73) hx hb dX7_runsForMajority_73 rfl ?_
          refine lv_lload (pc := 74) hx hb dX7_runsForMajority_74 (lv_at hl 0 rfl) ?_
          refine lv_lmul (pc := 76) hx hb dX7_runsForMajority_76 ?_
          refine W.lcmp (pc := 77) hx hb dX7_runsForMajority_77 ?_
          refine lv_if_lt (pc := 78) (tgt := 84) hx hb dX7_runsForMajority_78 (by decide) (fun c15 => ?_) (fun c15 => ?_)
          · have hf := ipos c15 hf
            obtain ⟨v16, ev16, hf⟩ := bn_ob hf
            refine lv_iinc (pc := 84) (v := v16) (lv' := [(6, .int v16), (4, .long v11), (0, .ref a), (1, .int p1), (2, .int p2), (3, .int v2)]) hx hb dX7_runsForMajority_84 hl (k := 5) rfl (by rw [ev16]; rfl) (by decide) rfl (fun ls hl => ?_)
            refine lv_goto (pc := 87) (tgt := 30) hx hb dX7_runsForMajority_87 (by decide) ?_
            cases hf
            exact ih v11 v16 S10  hx0 _ _ _ hw (lv_sub hl [2, 3, 4, 5, 1, 0] rfl)
          · have hf := ineg c15 hf
            refine lv_iload (pc := 81) hx hb dX7_runsForMajority_81 (lv_at hl 5 rfl) ?_
            cases hf
            cases (hx0 : (v7, S10) = (r, S'))
            exact hret _ _ 83 _ hw ⟨_, rfl, rfl⟩ dX7_runsForMajority_83
  exact L30 _ 1 1 S5 hf _ _ _ hw (lv_sub hl [3, 4, 5, 2, 1, 0] rfl)

theorem in_X7_runsForOne_X7 : ∀ w ∈ wsX70, w ∈ wsX7_runsForOne := fun _ h => List.mem_cons_of_mem _ (List.mem_append_left _ (List.mem_append_right _ h))
theorem in_X7_runsForOne_X2 : ∀ w ∈ wsX20, w ∈ wsX7_runsForOne := fun _ h => List.mem_cons_of_mem _ (List.mem_append_right _ h)
abbrev rmX7_runsForOne : Room := { frames := 3, cells := 0, slots := 0, locals := 64 }
def B_X7_runsForOne_26 (P : PS) (p1 : Int32) (p2 : Int32) (v3 : Int32) (v4 : Int64) (v5 : Int64) (v6 : Int32) : Option ((Int64 × Int64 × Int32) ⊕ (Int32)) :=
  if 7 < v6 then
    some (.inr (-1))
  else
  bn (v4 * ((P.1 5).toInt64)) fun v8 =>
  bn (v5 * (v3.toInt64)) fun v9 =>
  if 0 < (lg_cmp (v9 * (p2.toInt64)) ((p1.toInt64) * v8)) then
    bn (v6 + 1) fun v11 =>
    some (.inl (v8, v9, v11))
  else
  some (.inr v6)
def L_X7_runsForOne_26 (P : PS) (p1 : Int32) (p2 : Int32) (v3 : Int32) (n : Nat) (v4 : Int64) (v5 : Int64) (v6 : Int32) : Option (Int32) := loopF (fun x : Int64 × Int64 × Int32 => B_X7_runsForOne_26 P p1 p2 v3 x.1 x.2.1 x.2.2) n (v4, v5, v6)
def f_X7_runsForOne (S : PS) (P : PS) (p1 : Int32) (p2 : Int32) : Option (Int32) :=
  b1 (f_X7_worstInput S) fun v1 =>
  b1 (f_X7_rightCount S v1) fun v2 =>
  bn ((P.1 5) - v2) fun v3 =>
  L_X7_runsForOne_26 P p1 p2 v3 FU 1 1 1
set_option maxHeartbeats 4000000 in
set_option maxRecDepth 100000 in
theorem c_X7_runsForOne (l : Launch) (D : va_G) (cs : CS) (a : Nat) (q : Nat → Nat) (qP : Nat → Nat) (S : PS) (P : PS) (p1 : Int32) (p2 : Int32) (r : Int32) (hf : f_X7_runsForOne S P p1 p2 = some r) : CT l D (TY cs) yX7_runsForOne wsX7_runsForOne rmX7_runsForOne [.ref a, .int p1, .int p2] (wX7 cs a q S ++ wX2 cs (q 0) qP P) (some (.int r)) (wX7 cs a q S ++ wX2 cs (q 0) qP P) := by
  refine CT.ofW (own := RX7) (cc := cX7_runsForOne) (maxL := 9) (ret := some .int) (by decide) rfl rfl (Nat.le_of_ble_eq_true rfl) ?_
  intro p e s m args below meth c A Q X hret ls hl hw
  obtain ⟨hx, hb, hml, hown, hts, hK, hA, hr, hlk⟩ := id X
  have hl : lv_has ls 9 [(0, .ref a), (1, .int p1), (2, .int p2)] := hl
  unfold f_X7_runsForOne at hf
  refine lv_aload_n (pc := 0) hx hb dX7_runsForOne_0 rfl (lv_at hl 0 rfl) ?_
  refine x_get (pc := 1) X hw in_X7_runsForOne_X7 0 rfl rfl 0 (by decide) (List.mem_of_getElem? (i := 1) rfl) rfl dX7_runsForOne_1 ?_
  refine x_get (pc := 4) X hw in_X7_runsForOne_X2 5 rfl rfl 5 (by decide) (List.mem_of_getElem? (i := 2) rfl) rfl dX7_runsForOne_4 ?_
  refine lv_aload_n (pc := 7) hx hb dX7_runsForOne_7 rfl (lv_at hl 0 rfl) ?_
  refine lv_aload_n (pc := 8) hx hb dX7_runsForOne_8 rfl (lv_at hl 0 rfl) ?_
  obtain ⟨v1, hc, hf⟩ := b1_ob hf
  refine x_cut (pc := 9) (wr := ([5, 6, 7, 8, 9, 10, 11, 12].filterMap (fun i => (wX7 cs a q S ++ wX2 cs (q 0) qP P)[i]?))) (ws2 := wX7 cs a q S ++ wX2 cs (q 0) qP P) X hw [0, 1, 2, 3, 4] [5, 6, 7, 8, 9, 10, 11, 12] [8, 9, 10, 11, 12, 0, 1, 2, 3, 4, 5, 6, 7] rfl rfl (by decide) (by decide) rfl (by decide) (va_runV (As := []) (rest := [.ref a, .int (P.1 5)]) ⟨hx, hb, hml, hown, hts⟩ (c_X7_worstInput l D cs a q S v1 hc _) (cwV 0 hts gX7_runsForOne_X7_worstInput rfl rfl rfl (by decide +kernel) ⟨Nat.le_of_ble_eq_true rfl, Nat.le_of_ble_eq_true rfl⟩) ⟨CP_blind, va_recv hK hw.1 (ci := 7) (q0 := 0) rfl rfl, x_preC X hw [0, 1, 2, 3, 4] rfl (by decide) [.ref a]⟩ rfl rfl hl.1 rfl (lv_room (Nat.le_of_ble_eq_true rfl)) dX7_runsForOne_9 ⟨Nat.zero_le _, Nat.zero_le _⟩) (fun H locs hw => ?_)
  obtain ⟨v2, hc, hf⟩ := b1_ob hf
  refine x_cut (pc := 12) (wr := ([5, 6, 7, 8, 9, 10, 11, 12].filterMap (fun i => (wX7 cs a q S ++ wX2 cs (q 0) qP P)[i]?))) (ws2 := wX7 cs a q S ++ wX2 cs (q 0) qP P) X hw [0, 1, 2, 3, 4] [5, 6, 7, 8, 9, 10, 11, 12] [8, 9, 10, 11, 12, 0, 1, 2, 3, 4, 5, 6, 7] rfl rfl (by decide) (by decide) rfl (by decide) (va_runV (As := [.int v1]) (rest := [.int (P.1 5)]) ⟨hx, hb, hml, hown, hts⟩ (c_X7_rightCount l D cs a q S v1 v2 hc _) (cwV 1 hts gX7_runsForOne_X7_rightCount rfl rfl rfl (by decide +kernel) ⟨Nat.le_of_ble_eq_true rfl, Nat.le_of_ble_eq_true rfl⟩) ⟨CP_blind, va_recv hK hw.1 (ci := 7) (q0 := 0) rfl rfl, x_preC X hw [0, 1, 2, 3, 4] rfl (by decide) [.ref a, .int v1]⟩ rfl rfl hl.1 rfl (lv_room (Nat.le_of_ble_eq_true rfl)) dX7_runsForOne_12 ⟨Nat.zero_le _, Nat.zero_le _⟩) (fun H locs hw => ?_)
  refine lv_isub (pc := 15) hx hb dX7_runsForOne_15 ?_
  obtain ⟨v3, ev3, hf⟩ := bn_ob hf
  refine x_topi ev3 ?_
  refine lv_istore_n (lv' := [(3, .int v3), (0, .ref a), (1, .int p1), (2, .int p2)]) (pc := 16) hx hb dX7_runsForOne_16 rfl hl (by decide) rfl (fun ls hl => ?_)
  refine lv_lconst (pc := 17) (v := 1) hx hb dX7_runsForOne_17 (by decide) ?_
  refine lv_lstore (lv' := [(4, .long 1), (3, .int v3), (0, .ref a), (1, .int p1), (2, .int p2)]) (pc := 18) hx hb dX7_runsForOne_18 hl (by decide) rfl (fun ls hl => ?_)
  refine lv_lconst (pc := 20) (v := 1) hx hb dX7_runsForOne_20 (by decide) ?_
  refine lv_lstore (lv' := [(6, .long 1), (4, .long 1), (3, .int v3), (0, .ref a), (1, .int p1), (2, .int p2)]) (pc := 21) hx hb dX7_runsForOne_21 hl (by decide) rfl (fun ls hl => ?_)
  refine lv_iconst (pc := 23) (v := 1) hx hb dX7_runsForOne_23 (by decide) ?_
  refine lv_istore (lv' := [(8, .int 1), (6, .long 1), (4, .long 1), (3, .int v3), (0, .ref a), (1, .int p1), (2, .int p2)]) (pc := 24) hx hb dX7_runsForOne_24 hl (by decide) rfl (fun ls hl => ?_)
  have L26 : ∀ (n : Nat) (v4 : Int64) (v5 : Int64) (v6 : Int32), L_X7_runsForOne_26 P p1 p2 v3 n v4 v5 v6 = some r → ∀ (H : Heap) (locs : List Loc) (ls : Array Slot), WD D A s (wX7 cs a q S ++ wX2 cs (q 0) qP P) H locs → lv_has ls 9 [(0, .ref a), (1, .int p1), (2, .int p2), (3, .int v3), (4, .long v4), (6, .long v5), (8, .int v6)] → W p l e rmX7_runsForOne s m args below meth c H locs 0 0 Q (F0 m 26 ls []) := by
    intro n
    induction n with
    | zero => intro v4 v5 v6 hf; exact (loopF_z hf).elim
    | succ n ih =>
      intro v4 v5 v6 hf H locs ls hw hl
      obtain ⟨x, hf, hx0⟩ := loopF_ob hf
      have hf : B_X7_runsForOne_26 P p1 p2 v3 v4 v5 v6 = some x := hf
      unfold B_X7_runsForOne_26 at hf
      refine lv_iload (pc := 26) hx hb dX7_runsForOne_26 (lv_at hl 6 rfl) ?_
      refine lv_bipush (pc := 28) (v := 7) hx hb dX7_runsForOne_28 (by decide) ?_
      refine lv_icmp_gt (pc := 30) (tgt := 76) hx hb dX7_runsForOne_30 (by decide) (fun c7 => ?_) (fun c7 => ?_)
      · have hf := ipos c7 hf
        refine lv_iconst (pc := 76) (v := (-1)) hx hb dX7_runsForOne_76 (by decide) ?_
        cases hf
        cases (hx0 : (-1) = r)
        exact hret _ _ 77 _ hw ⟨_, rfl, rfl⟩ dX7_runsForOne_77
      · have hf := ineg c7 hf
        refine lv_lload (pc := 33) hx hb dX7_runsForOne_33 (lv_at hl 4 rfl) ?_
        refine lv_aload_n (pc := 35) hx hb dX7_runsForOne_35 rfl (lv_at hl 0 rfl) ?_
        refine x_get (pc := 36) X hw in_X7_runsForOne_X7 0 rfl rfl 0 (by decide) (List.mem_of_getElem? (i := 1) rfl) rfl dX7_runsForOne_36 ?_
        refine x_get (pc := 39) X hw in_X7_runsForOne_X2 5 rfl rfl 5 (by decide) (List.mem_of_getElem? (i := 2) rfl) rfl dX7_runsForOne_39 ?_
        refine lv_i2l (pc := 42) hx hb dX7_runsForOne_42 rfl ?_
        refine lv_lmul (pc := 43) hx hb dX7_runsForOne_43 ?_
        obtain ⟨v8, ev8, hf⟩ := bn_ob hf
        refine x_topl ev8 ?_
        refine lv_lstore (lv' := [(4, .long v8), (0, .ref a), (1, .int p1), (2, .int p2), (3, .int v3), (6, .long v5), (8, .int v6)]) (pc := 44) hx hb dX7_runsForOne_44 hl (by decide) rfl (fun ls hl => ?_)
        refine lv_lload (pc := 46) hx hb dX7_runsForOne_46 (lv_at hl 5 rfl) ?_
        refine lv_iload_n (pc := 48) hx hb dX7_runsForOne_48 rfl (lv_at hl 4 rfl) ?_
        refine lv_i2l (pc := 49) hx hb dX7_runsForOne_49 rfl ?_
        refine lv_lmul (pc := 50) hx hb dX7_runsForOne_50 ?_
        obtain ⟨v9, ev9, hf⟩ := bn_ob hf
        refine x_topl ev9 ?_
        refine lv_lstore (lv' := [(6, .long v9), (4, .long v8), (0, .ref a), (1, .int p1), (2, .int p2), (3, .int v3), (8, .int v6)]) (pc := 51) hx hb dX7_runsForOne_51 hl (by decide) rfl (fun ls hl => ?_)
        refine lv_lload (pc := 53) hx hb dX7_runsForOne_53 (lv_at hl 0 rfl) ?_
        refine lv_iload_n (pc := 55) hx hb dX7_runsForOne_55 rfl (lv_at hl 4 rfl) ?_
        refine lv_i2l (pc := 56) hx hb dX7_runsForOne_56 rfl ?_
        refine lv_lmul (pc := 57) hx hb dX7_runsForOne_57 ?_
        refine lv_iload_n (pc := 58) hx hb dX7_runsForOne_58 rfl (lv_at hl 3 rfl) ?_
        refine lv_i2l (pc := 59) hx hb dX7_runsForOne_59 rfl ?_
        refine lv_lload (pc := 60) hx hb dX7_runsForOne_60 (lv_at hl 1 rfl) ?_
        refine lv_lmul (pc := 62) hx hb dX7_runsForOne_62 ?_
        refine W.lcmp (pc := 63) hx hb dX7_runsForOne_63 ?_
        refine lv_if_gt (pc := 64) (tgt := 70) hx hb dX7_runsForOne_64 (by decide) (fun c10 => ?_) (fun c10 => ?_)
        · have hf := ipos c10 hf
          obtain ⟨v11, ev11, hf⟩ := bn_ob hf
          refine lv_iinc (pc := 70) (v := v11) (lv' := [(8, .int v11), (6, .long v9), (4, .long v8), (0, .ref a), (1, .int p1), (2, .int p2), (3, .int v3)]) hx hb dX7_runsForOne_70 hl (k := 6) rfl (by rw [ev11]; rfl) (by decide) rfl (fun ls hl => ?_)
          refine lv_goto (pc := 73) (tgt := 26) hx hb dX7_runsForOne_73 (by decide) ?_
          cases hf
          exact ih v8 v9 v11  hx0 _ _ _ hw (lv_sub hl [3, 4, 5, 6, 2, 1, 0] rfl)
        · have hf := ineg c10 hf
          refine lv_iload (pc := 67) hx hb dX7_runsForOne_67 (lv_at hl 6 rfl) ?_
          cases hf
          cases (hx0 : v6 = r)
          exact hret _ _ 69 _ hw ⟨_, rfl, rfl⟩ dX7_runsForOne_69
  exact L26 _ 1 1 1 hf _ _ _ hw (lv_sub hl [4, 5, 6, 3, 2, 1, 0] rfl)
