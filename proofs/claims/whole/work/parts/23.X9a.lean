theorem in_X9_write_X9 : ∀ w ∈ wsX90, w ∈ wsX9_write := fun _ h => List.mem_cons_of_mem _ (List.mem_append_left _ (List.mem_append_right _ h))
theorem in_X9_write_X6 : ∀ w ∈ wsX60, w ∈ wsX9_write := fun _ h => List.mem_cons_of_mem _ (List.mem_append_right _ h)
abbrev rmX9_write : Room := { frames := 1, cells := 0, slots := 0, locals := 21 }
def B_X9_write_35 (p1 : Int64) (p2 : Int32) (v4 : Int32) (T5 : PS) : Option ((Int32 × PS) ⊕ (PS)) :=
  if p2 ≤ v4 then
    some (.inr T5)
  else
  b1 (f_X6_add T5 (((p1 >>> ((8 * v4).toInt64 &&& 63)) &&& (255)).toInt32)) fun T7 =>
  bn (v4 + 1) fun v8 =>
  some (.inl (v8, T7))
def L_X9_write_35 (p1 : Int64) (p2 : Int32) (n : Nat) (v4 : Int32) (T5 : PS) : Option (PS) := loopF (fun x : Int32 × PS => B_X9_write_35 p1 p2 x.1 x.2) n (v4, T5)
def f_X9_write (T : PS) (p1 : Int64) (p2 : Int32) : Option (Int32 × PS) :=
  if p2 < 1 then
    some ((-3), T)
  else
  if p2 ≤ 8 then
    if p2 ≤ (200 - (T.1 1)) then
      b1 (L_X9_write_35 p1 p2 FU 0 T) fun T9 =>
      some ((T9.1 1), T9)
    else
    some ((-5), T)
  else
  some ((-3), T)
set_option maxHeartbeats 4000000 in
set_option maxRecDepth 100000 in
theorem c_X9_write (l : Launch) (D : va_G) (cs : CS) (a : Nat) (q : Nat → Nat) (qT : Nat → Nat) (T : PS) (p1 : Int64) (p2 : Int32) (r : Int32) (T' : PS) (hf : f_X9_write T p1 p2 = some (r, T')) : CT l D (TY cs) yX9_write wsX9_write rmX9_write [.ref a, .long p1, .int p2] (wX9 cs a q ++ wX6 cs (q 0) qT T) (some (.int r)) (wX9 cs a q ++ wX6 cs (q 0) qT T') := by
  refine CT.ofW (own := RX9) (cc := cX9_write) (maxL := 5) (ret := some .int) (by decide) rfl rfl (Nat.le_of_ble_eq_true rfl) ?_
  intro p e s m args below meth c A Q X hret ls hl hw
  obtain ⟨hx, hb, hml, hown, hts, hK, hA, hr, hlk⟩ := id X
  have hl : lv_has ls 5 [(0, .ref a), (1, .long p1), (3, .int p2)] := hl
  unfold f_X9_write at hf
  refine lv_iload_n (pc := 0) hx hb dX9_write_0 rfl (lv_at hl 2 rfl) ?_
  refine lv_iconst (pc := 1) (v := 1) hx hb dX9_write_1 (by decide) ?_
  refine lv_icmp_lt (pc := 2) (tgt := 11) hx hb dX9_write_2 (by decide) (fun c1 => ?_) (fun c1 => ?_)
  · have hf := ipos c1 hf
    refine lv_bipush (pc := 11) (v := (-3)) hx hb dX9_write_11 (by decide) ?_
    cases hf
    exact hret _ _ 13 _ hw ⟨_, rfl, rfl⟩ dX9_write_13
  · have hf := ineg c1 hf
    refine lv_iload_n (pc := 5) hx hb dX9_write_5 rfl (lv_at hl 2 rfl) ?_
    refine lv_bipush (pc := 6) (v := 8) hx hb dX9_write_6 (by decide) ?_
    refine lv_icmp_le (pc := 8) (tgt := 14) hx hb dX9_write_8 (by decide) (fun c2 => ?_) (fun c2 => ?_)
    · have hf := ipos c2 hf
      refine lv_iload_n (pc := 14) hx hb dX9_write_14 rfl (lv_at hl 2 rfl) ?_
      refine lv_sipush (pc := 15) (v := 200) hx hb dX9_write_15 (by decide) ?_
      refine lv_aload_n (pc := 18) hx hb dX9_write_18 rfl (lv_at hl 0 rfl) ?_
      refine x_get (pc := 19) X hw in_X9_write_X9 0 rfl rfl 0 (by decide) (List.mem_of_getElem? (i := 1) rfl) rfl dX9_write_19 ?_
      refine x_get (pc := 22) X hw in_X9_write_X6 1 rfl rfl 1 (by decide) (List.mem_of_getElem? (i := 2) rfl) rfl dX9_write_22 ?_
      refine lv_isub (pc := 25) hx hb dX9_write_25 ?_
      refine lv_icmp_le (pc := 26) (tgt := 32) hx hb dX9_write_26 (by decide) (fun c3 => ?_) (fun c3 => ?_)
      · have hf := ipos c3 hf
        refine lv_iconst (pc := 32) (v := 0) hx hb dX9_write_32 (by decide) ?_
        refine lv_istore (lv' := [(4, .int 0), (0, .ref a), (1, .long p1), (3, .int p2)]) (pc := 33) hx hb dX9_write_33 hl (by decide) rfl (fun ls hl => ?_)
        have L35 : ∀ (n : Nat) (v4 : Int32) (T5 : PS) (rT5 : PS), L_X9_write_35 p1 p2 n v4 T5 = some rT5 → ∀ (H : Heap) (locs : List Loc) (ls : Array Slot), WD D A s (wX9 cs a q ++ wX6 cs (q 0) qT T5) H locs → lv_has ls 5 [(0, .ref a), (1, .long p1), (3, .int p2), (4, .int v4)] → (∀ (H : Heap) (locs : List Loc) (ls : Array Slot), WD D A s (wX9 cs a q ++ wX6 cs (q 0) qT rT5) H locs → lv_has ls 5 [(0, .ref a)] → W p l e rmX9_write s m args below meth c H locs 0 0 Q (F0 m 66 ls [])) → W p l e rmX9_write s m args below meth c H locs 0 0 Q (F0 m 35 ls []) := by
          intro n
          induction n with
          | zero => intro v4 T5 rT5 hf; exact (loopF_z hf).elim
          | succ n ih =>
            intro v4 T5 rT5 hf H locs ls hw hl K
            obtain ⟨x, hf, hx0⟩ := loopF_ob hf
            have hf : B_X9_write_35 p1 p2 v4 T5 = some x := hf
            unfold B_X9_write_35 at hf
            refine lv_iload (pc := 35) hx hb dX9_write_35 (lv_at hl 3 rfl) ?_
            refine lv_iload_n (pc := 37) hx hb dX9_write_37 rfl (lv_at hl 2 rfl) ?_
            refine lv_icmp_ge (pc := 38) (tgt := 66) hx hb dX9_write_38 (by decide) (fun c6 => ?_) (fun c6 => ?_)
            · have hf := ipos c6 hf
              cases hf
              cases (hx0 : T5 = rT5)
              exact K _ _ _ hw (lv_sub hl [0] rfl)
            · have hf := ineg c6 hf
              refine lv_aload_n (pc := 41) hx hb dX9_write_41 rfl (lv_at hl 0 rfl) ?_
              refine x_get (pc := 42) X hw in_X9_write_X9 0 rfl rfl 0 (by decide) (List.mem_of_getElem? (i := 1) rfl) rfl dX9_write_42 ?_
              refine lv_lload_n (pc := 45) hx hb dX9_write_45 rfl (lv_at hl 1 rfl) ?_
              refine lv_bipush (pc := 46) (v := 8) hx hb dX9_write_46 (by decide) ?_
              refine lv_iload (pc := 48) hx hb dX9_write_48 (lv_at hl 3 rfl) ?_
              refine lv_imul (pc := 50) hx hb dX9_write_50 ?_
              refine lv_lshr (pc := 51) hx hb dX9_write_51 rfl ?_
              refine lv_ldc2 (pc := 52) (v := (255)) hx hb hown (hts _ (List.mem_of_getElem? (i := 3) rfl)) dX9_write_52 ?_
              refine lv_land (pc := 55) hx hb dX9_write_55 ?_
              refine lv_l2i (pc := 56) hx hb dX9_write_56 rfl ?_
              obtain ⟨T7, hc, hf⟩ := b1_ob hf
              refine x_cut (pc := 57) (wr := ([0].filterMap (fun i => (wX9 cs a q ++ wX6 cs (q 0) qT T5)[i]?))) (ws2 := wX9 cs a q ++ wX6 cs (q 0) qT T7) X hw [1, 2] [0] [0, 1, 2] rfl rfl (by decide) (by decide) rfl (by decide) (va_runV (As := [.int (((p1 >>> ((8 * v4).toInt64 &&& 63)) &&& (255)).toInt32)]) (rest := []) ⟨hx, hb, hml, hown, hts⟩ (c_X6_add l D cs (q 0) qT T5 (((p1 >>> ((8 * v4).toInt64 &&& 63)) &&& (255)).toInt32) T7 hc _) (cwV 1 hts gX9_write_X6_add rfl rfl rfl (by decide +kernel) ⟨Nat.le_of_ble_eq_true rfl, Nat.le_of_ble_eq_true rfl⟩) ⟨CP_blind, va_recv hK hw.1 (ci := 6) (q0 := 1) rfl rfl, x_preC X hw [1, 2] rfl (by decide) [.ref (q 0), .int (((p1 >>> ((8 * v4).toInt64 &&& 63)) &&& (255)).toInt32)]⟩ rfl rfl hl.1 rfl (lv_room (Nat.le_of_ble_eq_true rfl)) dX9_write_57 ⟨Nat.zero_le _, Nat.zero_le _⟩) (fun H locs hw => ?_)
              obtain ⟨v8, ev8, hf⟩ := bn_ob hf
              refine lv_iinc (pc := 60) (v := v8) (lv' := [(4, .int v8), (0, .ref a), (1, .long p1), (3, .int p2)]) hx hb dX9_write_60 hl (k := 3) rfl (by rw [ev8]; rfl) (by decide) rfl (fun ls hl => ?_)
              refine lv_goto (pc := 63) (tgt := 35) hx hb dX9_write_63 (by decide) ?_
              cases hf
              exact ih v8 T7 rT5 hx0 _ _ _ hw (lv_sub hl [1, 2, 3, 0] rfl) K
        obtain ⟨T9, hj, hf⟩ := b1_ob hf
        refine L35 _ 0 T T9 hj _ _ _ hw (lv_sub hl [1, 2, 3, 0] rfl) (fun H locs ls hw hl => ?_)
        clear hj L35
        refine lv_aload_n (pc := 66) hx hb dX9_write_66 rfl (lv_at hl 0 rfl) ?_
        refine x_get (pc := 67) X hw in_X9_write_X9 0 rfl rfl 0 (by decide) (List.mem_of_getElem? (i := 1) rfl) rfl dX9_write_67 ?_
        refine x_get (pc := 70) X hw in_X9_write_X6 1 rfl rfl 1 (by decide) (List.mem_of_getElem? (i := 2) rfl) rfl dX9_write_70 ?_
        cases hf
        exact hret _ _ 73 _ hw ⟨_, rfl, rfl⟩ dX9_write_73
      · have hf := ineg c3 hf
        refine lv_bipush (pc := 29) (v := (-5)) hx hb dX9_write_29 (by decide) ?_
        cases hf
        exact hret _ _ 31 _ hw ⟨_, rfl, rfl⟩ dX9_write_31
    · have hf := ineg c2 hf
      refine lv_bipush (pc := 11) (v := (-3)) hx hb dX9_write_11 (by decide) ?_
      cases hf
      exact hret _ _ 13 _ hw ⟨_, rfl, rfl⟩ dX9_write_13

theorem in_X9_erase_X9 : ∀ w ∈ wsX90, w ∈ wsX9_erase := fun _ h => List.mem_cons_of_mem _ (List.mem_append_left _ (List.mem_append_right _ h))
theorem in_X9_erase_X6 : ∀ w ∈ wsX60, w ∈ wsX9_erase := fun _ h => List.mem_cons_of_mem _ (List.mem_append_right _ h)
abbrev rmX9_erase : Room := { frames := 0, cells := 0, slots := 0, locals := 0 }
def f_X9_erase (T : PS) : Option (Int32 × PS) :=
  bn (T.1 1) fun v1 =>
  bn (sI T 1 0) fun T2 =>
  some (v1, T2)
set_option maxHeartbeats 4000000 in
set_option maxRecDepth 100000 in
theorem c_X9_erase (l : Launch) (D : va_G) (cs : CS) (a : Nat) (q : Nat → Nat) (qT : Nat → Nat) (T : PS) (r : Int32) (T' : PS) (hf : f_X9_erase T = some (r, T')) : CT l D (TY cs) yX9_erase wsX9_erase rmX9_erase [.ref a] (wX9 cs a q ++ wX6 cs (q 0) qT T) (some (.int r)) (wX9 cs a q ++ wX6 cs (q 0) qT T') := by
  refine CT.ofW (own := RX9) (cc := cX9_erase) (maxL := 2) (ret := some .int) (by decide) rfl rfl (Nat.le_of_ble_eq_true rfl) ?_
  intro p e s m args below meth c A Q X hret ls hl hw
  obtain ⟨hx, hb, hml, hown, hts, hK, hA, hr, hlk⟩ := id X
  have hl : lv_has ls 2 [(0, .ref a)] := hl
  unfold f_X9_erase at hf
  refine lv_aload_n (pc := 0) hx hb dX9_erase_0 rfl (lv_at hl 0 rfl) ?_
  refine x_get (pc := 1) X hw in_X9_erase_X9 0 rfl rfl 0 (by decide) (List.mem_of_getElem? (i := 1) rfl) rfl dX9_erase_1 ?_
  refine x_get (pc := 4) X hw in_X9_erase_X6 1 rfl rfl 1 (by decide) (List.mem_of_getElem? (i := 2) rfl) rfl dX9_erase_4 ?_
  obtain ⟨v1, ev1, hf⟩ := bn_ob hf
  refine x_topi ev1 ?_
  refine lv_istore_n (lv' := [(1, .int v1), (0, .ref a)]) (pc := 7) hx hb dX9_erase_7 rfl hl (by decide) rfl (fun ls hl => ?_)
  refine lv_aload_n (pc := 8) hx hb dX9_erase_8 rfl (lv_at hl 1 rfl) ?_
  refine x_get (pc := 9) X hw in_X9_erase_X9 0 rfl rfl 0 (by decide) (List.mem_of_getElem? (i := 1) rfl) rfl dX9_erase_9 ?_
  refine lv_iconst (pc := 12) (v := 0) hx hb dX9_erase_12 (by decide) ?_
  obtain ⟨T2, eT2, hf⟩ := bn_ob hf
  refine x_put (pc := 13) X hw in_X9_erase_X6 tyX6 tyX6_ok nmX6 1 rfl rfl 1 (by decide) (List.mem_of_getElem? (i := 2) rfl) rfl rfl rfl (Nat.le_of_ble_eq_true rfl) dX9_erase_13 (ws2 := wX9 cs a q ++ wX6 cs (q 0) qT T2) (by rw [eT2]; rfl) (fun H locs hw => ?_)
  refine lv_iload_n (pc := 16) hx hb dX9_erase_16 rfl (lv_at hl 0 rfl) ?_
  cases hf
  exact hret _ _ 17 _ hw ⟨_, rfl, rfl⟩ dX9_erase_17

theorem in_X9_draw_X9 : ∀ w ∈ wsX90, w ∈ wsX9_draw := fun _ h => List.mem_cons_of_mem _ (List.mem_append_left _ (List.mem_append_left _ (List.mem_append_right _ h)))
theorem in_X9_draw_X7 : ∀ w ∈ wsX70, w ∈ wsX9_draw := fun _ h => List.mem_cons_of_mem _ (List.mem_append_left _ (List.mem_append_right _ h))
theorem in_X9_draw_X2 : ∀ w ∈ wsX20, w ∈ wsX9_draw := fun _ h => List.mem_cons_of_mem _ (List.mem_append_right _ h)
abbrev rmX9_draw : Room := { frames := 0, cells := 0, slots := 0, locals := 0 }
def f_X9_draw (S : PS) (P : PS) (p1 : Int32) : Option (Int32) :=
  b1 (
    if p1 < 0 then
      some ((-2) : Int32)
    else
    if (P.1 4) ≤ p1 then
      some ((-2) : Int32)
    else
    b1 (rdI 6 (P.2.1 6) p1) fun v4 =>
    some v4) fun v1 =>
  some v1
set_option maxHeartbeats 4000000 in
set_option maxRecDepth 100000 in
theorem c_X9_draw (l : Launch) (D : va_G) (cs : CS) (a : Nat) (q : Nat → Nat) (qS : Nat → Nat) (qP : Nat → Nat) (S : PS) (P : PS) (p1 : Int32) (r : Int32) (hf : f_X9_draw S P p1 = some r) : CT l D (TY cs) yX9_draw wsX9_draw rmX9_draw [.ref a, .int p1] (wX9 cs a q ++ wX7 cs (q 2) qS S ++ wX2 cs (qS 0) qP P) (some (.int r)) (wX9 cs a q ++ wX7 cs (q 2) qS S ++ wX2 cs (qS 0) qP P) := by
  refine CT.ofW (own := RX9) (cc := cX9_draw) (maxL := 3) (ret := some .int) (by decide) rfl rfl (Nat.le_of_ble_eq_true rfl) ?_
  intro p e s m args below meth c A Q X hret ls hl hw
  obtain ⟨hx, hb, hml, hown, hts, hK, hA, hr, hlk⟩ := id X
  have hl : lv_has ls 3 [(0, .ref a), (1, .int p1)] := hl
  unfold f_X9_draw at hf
  refine lv_aload_n (pc := 0) hx hb dX9_draw_0 rfl (lv_at hl 0 rfl) ?_
  refine x_get (pc := 1) X hw in_X9_draw_X9 0 rfl rfl 2 (by decide) (List.mem_of_getElem? (i := 1) rfl) rfl dX9_draw_1 ?_
  refine x_get (pc := 4) X hw in_X9_draw_X7 1 rfl rfl 0 (by decide) (List.mem_of_getElem? (i := 2) rfl) rfl dX9_draw_4 ?_
  refine lv_astore_n (lv' := [(2, .ref (qS 0)), (0, .ref a), (1, .int p1)]) (pc := 7) hx hb dX9_draw_7 rfl hl (by decide) rfl (fun ls hl => ?_)
  refine lv_iload_n (pc := 8) hx hb dX9_draw_8 rfl (lv_at hl 2 rfl) ?_
  obtain ⟨v1, hj, hf⟩ := b1_ob hf
  have J31_0 : ∀ (H : Heap) (locs : List Loc) (ls : Array Slot), WD D A s (wX9 cs a q ++ wX7 cs (q 2) qS S ++ wX2 cs (qS 0) qP P) H locs → lv_has ls 3 [] → W p l e rmX9_draw s m args below meth c H locs 0 0 Q (F0 m 31 ls [.int v1]) := by
    intro H locs ls hw hl
    cases hf
    exact hret _ _ 31 _ hw ⟨_, rfl, rfl⟩ dX9_draw_31
  clear hf; have hf := hj; clear hj
  refine lv_if_lt (pc := 9) (tgt := 29) hx hb dX9_draw_9 (by decide) (fun c2 => ?_) (fun c2 => ?_)
  · have hf := ipos c2 hf
    refine lv_bipush (pc := 29) (v := (-2)) hx hb dX9_draw_29 (by decide) ?_
    cases hf
    exact J31_0 _ _ _ hw (lv_sub hl [] rfl)
  · have hf := ineg c2 hf
    refine lv_iload_n (pc := 12) hx hb dX9_draw_12 rfl (lv_at hl 2 rfl) ?_
    refine lv_aload_n (pc := 13) hx hb dX9_draw_13 rfl (lv_at hl 0 rfl) ?_
    refine x_get (pc := 14) X hw in_X9_draw_X2 6 rfl rfl 4 (by decide) (List.mem_of_getElem? (i := 3) rfl) rfl dX9_draw_14 ?_
    refine lv_icmp_ge (pc := 17) (tgt := 29) hx hb dX9_draw_17 (by decide) (fun c3 => ?_) (fun c3 => ?_)
    · have hf := ipos c3 hf
      refine lv_bipush (pc := 29) (v := (-2)) hx hb dX9_draw_29 (by decide) ?_
      cases hf
      exact J31_0 _ _ _ hw (lv_sub hl [] rfl)
    · have hf := ineg c3 hf
      refine lv_aload_n (pc := 20) hx hb dX9_draw_20 rfl (lv_at hl 0 rfl) ?_
      refine x_get (pc := 21) X hw in_X9_draw_X2 6 rfl rfl 6 (by decide) (List.mem_of_getElem? (i := 4) rfl) rfl dX9_draw_21 ?_
      refine lv_iload_n (pc := 24) hx hb dX9_draw_24 rfl (lv_at hl 2 rfl) ?_
      obtain ⟨v4, ev4, hf⟩ := b1_ob hf
      refine x_iald (pc := 25) X hw 10 0 rfl rfl ev4 dX9_draw_25 ?_
      refine lv_goto (pc := 26) (tgt := 31) hx hb dX9_draw_26 (by decide) ?_
      cases hf
      exact J31_0 _ _ _ hw (lv_sub hl [] rfl)

theorem in_X9_inputs_X9 : ∀ w ∈ wsX90, w ∈ wsX9_inputs := fun _ h => List.mem_cons_of_mem _ (List.mem_append_left _ (List.mem_append_right _ h))
theorem in_X9_inputs_X7 : ∀ w ∈ wsX70, w ∈ wsX9_inputs := fun _ h => List.mem_cons_of_mem _ (List.mem_append_right _ h)
abbrev rmX9_inputs : Room := { frames := 1, cells := 0, slots := 0, locals := 22 }
def f_X9_inputs (S : PS) (p1 : Int32) (p2 : Int32) : Option (Int32 × PS) :=
  if p1 < 0 then
    some ((-3), S)
  else
  if p1 ≤ 5 then
    b1 (f_X7_setInputs S p1 p2) fun S3 =>
    b1 (f_X7_inputCount S3) fun v4 =>
    some (v4, S3)
  else
  some ((-3), S)
set_option maxHeartbeats 4000000 in
set_option maxRecDepth 100000 in
theorem c_X9_inputs (l : Launch) (D : va_G) (cs : CS) (a : Nat) (q : Nat → Nat) (qS : Nat → Nat) (S : PS) (p1 : Int32) (p2 : Int32) (r : Int32) (S' : PS) (hf : f_X9_inputs S p1 p2 = some (r, S')) : CT l D (TY cs) yX9_inputs wsX9_inputs rmX9_inputs [.ref a, .int p1, .int p2] (wX9 cs a q ++ wX7 cs (q 2) qS S) (some (.int r)) (wX9 cs a q ++ wX7 cs (q 2) qS S') := by
  refine CT.ofW (own := RX9) (cc := cX9_inputs) (maxL := 3) (ret := some .int) (by decide) rfl rfl (Nat.le_of_ble_eq_true rfl) ?_
  intro p e s m args below meth c A Q X hret ls hl hw
  obtain ⟨hx, hb, hml, hown, hts, hK, hA, hr, hlk⟩ := id X
  have hl : lv_has ls 3 [(0, .ref a), (1, .int p1), (2, .int p2)] := hl
  unfold f_X9_inputs at hf
  refine lv_iload_n (pc := 0) hx hb dX9_inputs_0 rfl (lv_at hl 1 rfl) ?_
  refine lv_if_lt (pc := 1) (tgt := 9) hx hb dX9_inputs_1 (by decide) (fun c1 => ?_) (fun c1 => ?_)
  · have hf := ipos c1 hf
    refine lv_bipush (pc := 9) (v := (-3)) hx hb dX9_inputs_9 (by decide) ?_
    cases hf
    exact hret _ _ 11 _ hw ⟨_, rfl, rfl⟩ dX9_inputs_11
  · have hf := ineg c1 hf
    refine lv_iload_n (pc := 4) hx hb dX9_inputs_4 rfl (lv_at hl 1 rfl) ?_
    refine lv_iconst (pc := 5) (v := 5) hx hb dX9_inputs_5 (by decide) ?_
    refine lv_icmp_le (pc := 6) (tgt := 12) hx hb dX9_inputs_6 (by decide) (fun c2 => ?_) (fun c2 => ?_)
    · have hf := ipos c2 hf
      refine lv_aload_n (pc := 12) hx hb dX9_inputs_12 rfl (lv_at hl 0 rfl) ?_
      refine x_get (pc := 13) X hw in_X9_inputs_X9 0 rfl rfl 2 (by decide) (List.mem_of_getElem? (i := 1) rfl) rfl dX9_inputs_13 ?_
      refine lv_iload_n (pc := 16) hx hb dX9_inputs_16 rfl (lv_at hl 1 rfl) ?_
      refine lv_iload_n (pc := 17) hx hb dX9_inputs_17 rfl (lv_at hl 2 rfl) ?_
      obtain ⟨S3, hc, hf⟩ := b1_ob hf
      refine x_cut (pc := 18) (wr := ([0].filterMap (fun i => (wX9 cs a q ++ wX7 cs (q 2) qS S)[i]?))) (ws2 := wX9 cs a q ++ wX7 cs (q 2) qS S3) X hw [1, 2, 3, 4, 5] [0] [0, 1, 2, 3, 4, 5] rfl rfl (by decide) (by decide) rfl (by decide) (va_runV (As := [.int p1, .int p2]) (rest := []) ⟨hx, hb, hml, hown, hts⟩ (c_X7_setInputs l D cs (q 2) qS S p1 p2 S3 hc _) (cwV 2 hts gX9_inputs_X7_setInputs rfl rfl rfl (by decide +kernel) ⟨Nat.le_of_ble_eq_true rfl, Nat.le_of_ble_eq_true rfl⟩) ⟨CP_blind, va_recv hK hw.1 (ci := 7) (q0 := 1) rfl rfl, x_preC X hw [1, 2, 3, 4, 5] rfl (by decide) [.ref (q 2), .int p1, .int p2]⟩ rfl rfl hl.1 rfl (lv_room (Nat.le_of_ble_eq_true rfl)) dX9_inputs_18 ⟨Nat.zero_le _, Nat.zero_le _⟩) (fun H locs hw => ?_)
      refine lv_aload_n (pc := 21) hx hb dX9_inputs_21 rfl (lv_at hl 0 rfl) ?_
      refine x_get (pc := 22) X hw in_X9_inputs_X9 0 rfl rfl 2 (by decide) (List.mem_of_getElem? (i := 1) rfl) rfl dX9_inputs_22 ?_
      obtain ⟨v4, hc, hf⟩ := b1_ob hf
      refine x_cut (pc := 25) (wr := ([0].filterMap (fun i => (wX9 cs a q ++ wX7 cs (q 2) qS S3)[i]?))) (ws2 := wX9 cs a q ++ wX7 cs (q 2) qS S3) X hw [1, 2, 3, 4, 5] [0] [0, 1, 2, 3, 4, 5] rfl rfl (by decide) (by decide) rfl (by decide) (va_runV (As := []) (rest := []) ⟨hx, hb, hml, hown, hts⟩ (c_X7_inputCount l D cs (q 2) qS S3 v4 hc _) (cwV 0 hts gX9_inputs_X7_inputCount rfl rfl rfl (by decide +kernel) ⟨Nat.le_of_ble_eq_true rfl, Nat.le_of_ble_eq_true rfl⟩) ⟨CP_blind, va_recv hK hw.1 (ci := 7) (q0 := 1) rfl rfl, x_preC X hw [1, 2, 3, 4, 5] rfl (by decide) [.ref (q 2)]⟩ rfl rfl hl.1 rfl (lv_room (Nat.le_of_ble_eq_true rfl)) dX9_inputs_25 ⟨Nat.zero_le _, Nat.zero_le _⟩) (fun H locs hw => ?_)
      cases hf
      exact hret _ _ 28 _ hw ⟨_, rfl, rfl⟩ dX9_inputs_28
    · have hf := ineg c2 hf
      refine lv_bipush (pc := 9) (v := (-3)) hx hb dX9_inputs_9 (by decide) ?_
      cases hf
      exact hret _ _ 11 _ hw ⟨_, rfl, rfl⟩ dX9_inputs_11

theorem in_X9_run_X9 : ∀ w ∈ wsX90, w ∈ wsX9_run := fun _ h => List.mem_cons_of_mem _ (List.mem_append_left _ (List.mem_append_left _ (List.mem_append_right _ h)))
theorem in_X9_run_X7 : ∀ w ∈ wsX70, w ∈ wsX9_run := fun _ h => List.mem_cons_of_mem _ (List.mem_append_left _ (List.mem_append_right _ h))
theorem in_X9_run_X2 : ∀ w ∈ wsX20, w ∈ wsX9_run := fun _ h => List.mem_cons_of_mem _ (List.mem_append_right _ h)
abbrev rmX9_run : Room := { frames := 3, cells := 0, slots := 0, locals := 70 }
def f_X9_run (S : PS) (P : PS) (p1 : Int32) (p2 : Int32) : Option (Int32 × PS) :=
  b1 (f_X7_hasInput S p1) fun v1 =>
  b2 (
    if v1 = 0 then
      some (((-2) : Int32), P)
    else
    b1 (f_X7_hasRow S P p2) fun v5 =>
    if v5 = 0 then
      some (((-2) : Int32), P)
    else
    b2 (f_X2_outOf P p1 p2) fun v7 P8 =>
    some (v7, P8)) fun v2 P3 =>
  some (v2, P3)
set_option maxHeartbeats 4000000 in
set_option maxRecDepth 100000 in
theorem c_X9_run (l : Launch) (D : va_G) (cs : CS) (a : Nat) (q : Nat → Nat) (qS : Nat → Nat) (qP : Nat → Nat) (S : PS) (P : PS) (p1 : Int32) (p2 : Int32) (r : Int32) (P' : PS) (hf : f_X9_run S P p1 p2 = some (r, P')) : CT l D (TY cs) yX9_run wsX9_run rmX9_run [.ref a, .int p1, .int p2] (wX9 cs a q ++ wX7 cs (q 2) qS S ++ wX2 cs (qS 0) qP P) (some (.int r)) (wX9 cs a q ++ wX7 cs (q 2) qS S ++ wX2 cs (qS 0) qP P') := by
  refine CT.ofW (own := RX9) (cc := cX9_run) (maxL := 3) (ret := some .int) (by decide) rfl rfl (Nat.le_of_ble_eq_true rfl) ?_
  intro p e s m args below meth c A Q X hret ls hl hw
  obtain ⟨hx, hb, hml, hown, hts, hK, hA, hr, hlk⟩ := id X
  have hl : lv_has ls 3 [(0, .ref a), (1, .int p1), (2, .int p2)] := hl
  unfold f_X9_run at hf
  refine lv_aload_n (pc := 0) hx hb dX9_run_0 rfl (lv_at hl 0 rfl) ?_
  refine x_get (pc := 1) X hw in_X9_run_X9 0 rfl rfl 2 (by decide) (List.mem_of_getElem? (i := 1) rfl) rfl dX9_run_1 ?_
  refine lv_iload_n (pc := 4) hx hb dX9_run_4 rfl (lv_at hl 1 rfl) ?_
  obtain ⟨v1, hc, hf⟩ := b1_ob hf
  refine x_cut (pc := 5) (wr := ([0, 6, 7, 8, 9, 10, 11, 12, 13].filterMap (fun i => (wX9 cs a q ++ wX7 cs (q 2) qS S ++ wX2 cs (qS 0) qP P)[i]?))) (ws2 := wX9 cs a q ++ wX7 cs (q 2) qS S ++ wX2 cs (qS 0) qP P) X hw [1, 2, 3, 4, 5] [0, 6, 7, 8, 9, 10, 11, 12, 13] [0, 9, 10, 11, 12, 13, 1, 2, 3, 4, 5, 6, 7, 8] rfl rfl (by decide) (by decide) rfl (by decide) (va_runV (As := [.int p1]) (rest := []) ⟨hx, hb, hml, hown, hts⟩ (c_X7_hasInput l D cs (q 2) qS S p1 v1 hc _) (cwV 1 hts gX9_run_X7_hasInput rfl rfl rfl (by decide +kernel) ⟨Nat.le_of_ble_eq_true rfl, Nat.le_of_ble_eq_true rfl⟩) ⟨CP_blind, va_recv hK hw.1 (ci := 7) (q0 := 1) rfl rfl, x_preC X hw [1, 2, 3, 4, 5] rfl (by decide) [.ref (q 2), .int p1]⟩ rfl rfl hl.1 rfl (lv_room (Nat.le_of_ble_eq_true rfl)) dX9_run_5 ⟨Nat.zero_le _, Nat.zero_le _⟩) (fun H locs hw => ?_)
  obtain ⟨v2, P3, hj, hf⟩ := b2_ob hf
  have J39_1 : ∀ (H : Heap) (locs : List Loc) (ls : Array Slot), WD D A s (wX9 cs a q ++ wX7 cs (q 2) qS S ++ wX2 cs (qS 0) qP P3) H locs → lv_has ls 3 [] → W p l e rmX9_run s m args below meth c H locs 0 0 Q (F0 m 39 ls [.int v2]) := by
    intro H locs ls hw hl
    cases hf
    exact hret _ _ 39 _ hw ⟨_, rfl, rfl⟩ dX9_run_39
  clear hf; have hf := hj; clear hj
  refine lv_if_eq (pc := 8) (tgt := 37) hx hb dX9_run_8 (by decide) (fun c4 => ?_) (fun c4 => ?_)
  · have hf := ipos c4 hf
    refine lv_bipush (pc := 37) (v := (-2)) hx hb dX9_run_37 (by decide) ?_
    cases hf
    exact J39_1 _ _ _ hw (lv_sub hl [] rfl)
  · have hf := ineg c4 hf
    refine lv_aload_n (pc := 11) hx hb dX9_run_11 rfl (lv_at hl 0 rfl) ?_
    refine x_get (pc := 12) X hw in_X9_run_X9 0 rfl rfl 2 (by decide) (List.mem_of_getElem? (i := 1) rfl) rfl dX9_run_12 ?_
    refine lv_iload_n (pc := 15) hx hb dX9_run_15 rfl (lv_at hl 2 rfl) ?_
    obtain ⟨v5, hc, hf⟩ := b1_ob hf
    refine x_cut (pc := 16) (wr := ([0].filterMap (fun i => (wX9 cs a q ++ wX7 cs (q 2) qS S ++ wX2 cs (qS 0) qP P)[i]?))) (ws2 := wX9 cs a q ++ wX7 cs (q 2) qS S ++ wX2 cs (qS 0) qP P) X hw [1, 2, 3, 4, 5, 6, 7, 8, 9, 10, 11, 12, 13] [0] [0, 1, 2, 3, 4, 5, 6, 7, 8, 9, 10, 11, 12, 13] rfl rfl (by decide) (by decide) rfl (by decide) (va_runV (As := [.int p2]) (rest := []) ⟨hx, hb, hml, hown, hts⟩ (c_X7_hasRow l D cs (q 2) qS qP S P p2 v5 hc _) (cwV 1 hts gX9_run_X7_hasRow rfl rfl rfl (by decide +kernel) ⟨Nat.le_of_ble_eq_true rfl, Nat.le_of_ble_eq_true rfl⟩) ⟨CP_blind, va_recv hK hw.1 (ci := 7) (q0 := 1) rfl rfl, x_preC X hw [1, 2, 3, 4, 5, 6, 7, 8, 9, 10, 11, 12, 13] rfl (by decide) [.ref (q 2), .int p2]⟩ rfl rfl hl.1 rfl (lv_room (Nat.le_of_ble_eq_true rfl)) dX9_run_16 ⟨Nat.zero_le _, Nat.zero_le _⟩) (fun H locs hw => ?_)
    refine lv_if_eq (pc := 19) (tgt := 37) hx hb dX9_run_19 (by decide) (fun c6 => ?_) (fun c6 => ?_)
    · have hf := ipos c6 hf
      refine lv_bipush (pc := 37) (v := (-2)) hx hb dX9_run_37 (by decide) ?_
      cases hf
      exact J39_1 _ _ _ hw (lv_sub hl [] rfl)
    · have hf := ineg c6 hf
      refine lv_aload_n (pc := 22) hx hb dX9_run_22 rfl (lv_at hl 0 rfl) ?_
      refine x_get (pc := 23) X hw in_X9_run_X9 0 rfl rfl 2 (by decide) (List.mem_of_getElem? (i := 1) rfl) rfl dX9_run_23 ?_
      refine x_get (pc := 26) X hw in_X9_run_X7 1 rfl rfl 0 (by decide) (List.mem_of_getElem? (i := 2) rfl) rfl dX9_run_26 ?_
      refine lv_iload_n (pc := 29) hx hb dX9_run_29 rfl (lv_at hl 1 rfl) ?_
      refine lv_iload_n (pc := 30) hx hb dX9_run_30 rfl (lv_at hl 2 rfl) ?_
      obtain ⟨v7, P8, hc, hf⟩ := b2_ob hf
      refine x_cut (pc := 31) (wr := ([0, 1, 2, 3, 4, 5].filterMap (fun i => (wX9 cs a q ++ wX7 cs (q 2) qS S ++ wX2 cs (qS 0) qP P)[i]?))) (ws2 := wX9 cs a q ++ wX7 cs (q 2) qS S ++ wX2 cs (qS 0) qP P8) X hw [6, 7, 8, 9, 10, 11, 12, 13] [0, 1, 2, 3, 4, 5] [0, 1, 2, 3, 4, 5, 6, 7, 8, 9, 10, 11, 12, 13] rfl rfl (by decide) (by decide) rfl (by decide) (va_runV (As := [.int p1, .int p2]) (rest := []) ⟨hx, hb, hml, hown, hts⟩ (c_X2_outOf l D cs (qS 0) qP P p1 p2 v7 P8 hc _) (cwV 2 hts gX9_run_X2_outOf rfl rfl rfl (by decide +kernel) ⟨Nat.le_of_ble_eq_true rfl, Nat.le_of_ble_eq_true rfl⟩) ⟨CP_blind, va_recv hK hw.1 (ci := 2) (q0 := 6) rfl rfl, x_preC X hw [6, 7, 8, 9, 10, 11, 12, 13] rfl (by decide) [.ref (qS 0), .int p1, .int p2]⟩ rfl rfl hl.1 rfl (lv_room (Nat.le_of_ble_eq_true rfl)) dX9_run_31 ⟨Nat.zero_le _, Nat.zero_le _⟩) (fun H locs hw => ?_)
      refine lv_goto (pc := 34) (tgt := 39) hx hb dX9_run_34 (by decide) ?_
      cases hf
      exact J39_1 _ _ _ hw (lv_sub hl [] rfl)

theorem in_X9_right_X9 : ∀ w ∈ wsX90, w ∈ wsX9_right := fun _ h => List.mem_cons_of_mem _ (List.mem_append_left _ (List.mem_append_left _ (List.mem_append_right _ h)))
theorem in_X9_right_X7 : ∀ w ∈ wsX70, w ∈ wsX9_right := fun _ h => List.mem_cons_of_mem _ (List.mem_append_left _ (List.mem_append_right _ h))
theorem in_X9_right_X2 : ∀ w ∈ wsX20, w ∈ wsX9_right := fun _ h => List.mem_cons_of_mem _ (List.mem_append_right _ h)
abbrev rmX9_right : Room := { frames := 4, cells := 0, slots := 0, locals := 92 }
def f_X9_right (S : PS) (P : PS) (p1 : Int32) (p2 : Int32) : Option (Int32 × PS) :=
  b1 (f_X7_hasInput S p1) fun v1 =>
  if v1 = 0 then
    some ((-2), P)
  else
  b1 (f_X7_hasRow S P p2) fun v3 =>
  if v3 = 0 then
    some ((-2), P)
  else
  b2 (f_X7_isRight S P p1 p2) fun v5 P6 =>
  b1 (
    if v5 = 0 then
      some (0 : Int32)
    else
    some (1 : Int32)) fun v7 =>
  some (v7, P6)
set_option maxHeartbeats 4000000 in
set_option maxRecDepth 100000 in
theorem c_X9_right (l : Launch) (D : va_G) (cs : CS) (a : Nat) (q : Nat → Nat) (qS : Nat → Nat) (qP : Nat → Nat) (S : PS) (P : PS) (p1 : Int32) (p2 : Int32) (r : Int32) (P' : PS) (hf : f_X9_right S P p1 p2 = some (r, P')) : CT l D (TY cs) yX9_right wsX9_right rmX9_right [.ref a, .int p1, .int p2] (wX9 cs a q ++ wX7 cs (q 2) qS S ++ wX2 cs (qS 0) qP P) (some (.int r)) (wX9 cs a q ++ wX7 cs (q 2) qS S ++ wX2 cs (qS 0) qP P') := by
  refine CT.ofW (own := RX9) (cc := cX9_right) (maxL := 3) (ret := some .int) (by decide) rfl rfl (Nat.le_of_ble_eq_true rfl) ?_
  intro p e s m args below meth c A Q X hret ls hl hw
  obtain ⟨hx, hb, hml, hown, hts, hK, hA, hr, hlk⟩ := id X
  have hl : lv_has ls 3 [(0, .ref a), (1, .int p1), (2, .int p2)] := hl
  unfold f_X9_right at hf
  refine lv_aload_n (pc := 0) hx hb dX9_right_0 rfl (lv_at hl 0 rfl) ?_
  refine x_get (pc := 1) X hw in_X9_right_X9 0 rfl rfl 2 (by decide) (List.mem_of_getElem? (i := 1) rfl) rfl dX9_right_1 ?_
  refine lv_iload_n (pc := 4) hx hb dX9_right_4 rfl (lv_at hl 1 rfl) ?_
  obtain ⟨v1, hc, hf⟩ := b1_ob hf
  refine x_cut (pc := 5) (wr := ([0, 6, 7, 8, 9, 10, 11, 12, 13].filterMap (fun i => (wX9 cs a q ++ wX7 cs (q 2) qS S ++ wX2 cs (qS 0) qP P)[i]?))) (ws2 := wX9 cs a q ++ wX7 cs (q 2) qS S ++ wX2 cs (qS 0) qP P) X hw [1, 2, 3, 4, 5] [0, 6, 7, 8, 9, 10, 11, 12, 13] [0, 9, 10, 11, 12, 13, 1, 2, 3, 4, 5, 6, 7, 8] rfl rfl (by decide) (by decide) rfl (by decide) (va_runV (As := [.int p1]) (rest := []) ⟨hx, hb, hml, hown, hts⟩ (c_X7_hasInput l D cs (q 2) qS S p1 v1 hc _) (cwV 1 hts gX9_right_X7_hasInput rfl rfl rfl (by decide +kernel) ⟨Nat.le_of_ble_eq_true rfl, Nat.le_of_ble_eq_true rfl⟩) ⟨CP_blind, va_recv hK hw.1 (ci := 7) (q0 := 1) rfl rfl, x_preC X hw [1, 2, 3, 4, 5] rfl (by decide) [.ref (q 2), .int p1]⟩ rfl rfl hl.1 rfl (lv_room (Nat.le_of_ble_eq_true rfl)) dX9_right_5 ⟨Nat.zero_le _, Nat.zero_le _⟩) (fun H locs hw => ?_)
  refine lv_if_eq (pc := 8) (tgt := 22) hx hb dX9_right_8 (by decide) (fun c2 => ?_) (fun c2 => ?_)
  · have hf := ipos c2 hf
    refine lv_bipush (pc := 22) (v := (-2)) hx hb dX9_right_22 (by decide) ?_
    cases hf
    exact hret _ _ 24 _ hw ⟨_, rfl, rfl⟩ dX9_right_24
  · have hf := ineg c2 hf
    refine lv_aload_n (pc := 11) hx hb dX9_right_11 rfl (lv_at hl 0 rfl) ?_
    refine x_get (pc := 12) X hw in_X9_right_X9 0 rfl rfl 2 (by decide) (List.mem_of_getElem? (i := 1) rfl) rfl dX9_right_12 ?_
    refine lv_iload_n (pc := 15) hx hb dX9_right_15 rfl (lv_at hl 2 rfl) ?_
    obtain ⟨v3, hc, hf⟩ := b1_ob hf
    refine x_cut (pc := 16) (wr := ([0].filterMap (fun i => (wX9 cs a q ++ wX7 cs (q 2) qS S ++ wX2 cs (qS 0) qP P)[i]?))) (ws2 := wX9 cs a q ++ wX7 cs (q 2) qS S ++ wX2 cs (qS 0) qP P) X hw [1, 2, 3, 4, 5, 6, 7, 8, 9, 10, 11, 12, 13] [0] [0, 1, 2, 3, 4, 5, 6, 7, 8, 9, 10, 11, 12, 13] rfl rfl (by decide) (by decide) rfl (by decide) (va_runV (As := [.int p2]) (rest := []) ⟨hx, hb, hml, hown, hts⟩ (c_X7_hasRow l D cs (q 2) qS qP S P p2 v3 hc _) (cwV 1 hts gX9_right_X7_hasRow rfl rfl rfl (by decide +kernel) ⟨Nat.le_of_ble_eq_true rfl, Nat.le_of_ble_eq_true rfl⟩) ⟨CP_blind, va_recv hK hw.1 (ci := 7) (q0 := 1) rfl rfl, x_preC X hw [1, 2, 3, 4, 5, 6, 7, 8, 9, 10, 11, 12, 13] rfl (by decide) [.ref (q 2), .int p2]⟩ rfl rfl hl.1 rfl (lv_room (Nat.le_of_ble_eq_true rfl)) dX9_right_16 ⟨Nat.zero_le _, Nat.zero_le _⟩) (fun H locs hw => ?_)
    refine lv_if_ne (pc := 19) (tgt := 25) hx hb dX9_right_19 (by decide) (fun c4 => ?_) (fun c4 => ?_)
    · have hf := ineg c4 hf
      refine lv_aload_n (pc := 25) hx hb dX9_right_25 rfl (lv_at hl 0 rfl) ?_
      refine x_get (pc := 26) X hw in_X9_right_X9 0 rfl rfl 2 (by decide) (List.mem_of_getElem? (i := 1) rfl) rfl dX9_right_26 ?_
      refine lv_iload_n (pc := 29) hx hb dX9_right_29 rfl (lv_at hl 1 rfl) ?_
      refine lv_iload_n (pc := 30) hx hb dX9_right_30 rfl (lv_at hl 2 rfl) ?_
      obtain ⟨v5, P6, hc, hf⟩ := b2_ob hf
      refine x_cut (pc := 31) (wr := ([0].filterMap (fun i => (wX9 cs a q ++ wX7 cs (q 2) qS S ++ wX2 cs (qS 0) qP P)[i]?))) (ws2 := wX9 cs a q ++ wX7 cs (q 2) qS S ++ wX2 cs (qS 0) qP P6) X hw [1, 2, 3, 4, 5, 6, 7, 8, 9, 10, 11, 12, 13] [0] [0, 1, 2, 3, 4, 5, 6, 7, 8, 9, 10, 11, 12, 13] rfl rfl (by decide) (by decide) rfl (by decide) (va_runV (As := [.int p1, .int p2]) (rest := []) ⟨hx, hb, hml, hown, hts⟩ (c_X7_isRight l D cs (q 2) qS qP S P p1 p2 v5 P6 hc _) (cwV 2 hts gX9_right_X7_isRight rfl rfl rfl (by decide +kernel) ⟨Nat.le_of_ble_eq_true rfl, Nat.le_of_ble_eq_true rfl⟩) ⟨CP_blind, va_recv hK hw.1 (ci := 7) (q0 := 1) rfl rfl, x_preC X hw [1, 2, 3, 4, 5, 6, 7, 8, 9, 10, 11, 12, 13] rfl (by decide) [.ref (q 2), .int p1, .int p2]⟩ rfl rfl hl.1 rfl (lv_room (Nat.le_of_ble_eq_true rfl)) dX9_right_31 ⟨Nat.zero_le _, Nat.zero_le _⟩) (fun H locs hw => ?_)
      obtain ⟨v7, hj, hf⟩ := b1_ob hf
      have J42_6 : ∀ (H : Heap) (locs : List Loc) (ls : Array Slot), WD D A s (wX9 cs a q ++ wX7 cs (q 2) qS S ++ wX2 cs (qS 0) qP P6) H locs → lv_has ls 3 [] → W p l e rmX9_right s m args below meth c H locs 0 0 Q (F0 m 42 ls [.int v7]) := by
        intro H locs ls hw hl
        cases hf
        exact hret _ _ 42 _ hw ⟨_, rfl, rfl⟩ dX9_right_42
      clear hf; have hf := hj; clear hj
      refine lv_if_eq (pc := 34) (tgt := 41) hx hb dX9_right_34 (by decide) (fun c8 => ?_) (fun c8 => ?_)
      · have hf := ipos c8 hf
        refine lv_iconst (pc := 41) (v := 0) hx hb dX9_right_41 (by decide) ?_
        cases hf
        exact J42_6 _ _ _ hw (lv_sub hl [] rfl)
      · have hf := ineg c8 hf
        refine lv_iconst (pc := 37) (v := 1) hx hb dX9_right_37 (by decide) ?_
        refine lv_goto (pc := 38) (tgt := 42) hx hb dX9_right_38 (by decide) ?_
        cases hf
        exact J42_6 _ _ _ hw (lv_sub hl [] rfl)
    · have hf := ipos c4 hf
      refine lv_bipush (pc := 22) (v := (-2)) hx hb dX9_right_22 (by decide) ?_
      cases hf
      exact hret _ _ 24 _ hw ⟨_, rfl, rfl⟩ dX9_right_24

abbrev rmX9_isPart : Room := { frames := 0, cells := 0, slots := 0, locals := 0 }
def f_X9_isPart (p1 : Int32) : Option (Int32) :=
  b1 (
    if p1 = 0 then
      some (1 : Int32)
    else
    if p1 = 1 then
      some (1 : Int32)
    else
    some (0 : Int32)) fun v1 =>
  b1 (ckB v1) fun v4 =>
  some v4
set_option maxHeartbeats 4000000 in
set_option maxRecDepth 100000 in
theorem c_X9_isPart (l : Launch) (D : va_G) (cs : CS) (p1 : Int32) (r : Int32) (hf : f_X9_isPart p1 = some r) : CT l D (TY cs) yX9_isPart wsX9_isPart rmX9_isPart [.int p1] ([]) (some (.int r)) ([]) := by
  refine CT.ofW (own := RX9) (cc := cX9_isPart) (maxL := 1) (ret := some .boolean) (by decide) rfl rfl (Nat.le_of_ble_eq_true rfl) ?_
  intro p e s m args below meth c A Q X hret ls hl hw
  obtain ⟨hx, hb, hml, hown, hts, hK, hA, hr, hlk⟩ := id X
  have hl : lv_has ls 1 [(0, .int p1)] := hl
  unfold f_X9_isPart at hf
  refine lv_iload_n (pc := 0) hx hb dX9_isPart_0 rfl (lv_at hl 0 rfl) ?_
  obtain ⟨v1, hj, hf⟩ := b1_ob hf
  have J14_0 : ∀ (H : Heap) (locs : List Loc) (ls : Array Slot), WD D A s ([]) H locs → lv_has ls 1 [] → W p l e rmX9_isPart s m args below meth c H locs 0 0 Q (F0 m 14 ls [.int v1]) := by
    intro H locs ls hw hl
    obtain ⟨v4, ev4, hf⟩ := b1_ob hf
    refine x_topi (ckB_ob ev4).1.symm ?_
    cases hf
    exact hret _ _ 14 _ hw ⟨_, rfl, ckB_nar (ckB_ob ev4).2⟩ dX9_isPart_14
  clear hf; have hf := hj; clear hj
  refine lv_if_eq (pc := 1) (tgt := 9) hx hb dX9_isPart_1 (by decide) (fun c2 => ?_) (fun c2 => ?_)
  · have hf := ipos c2 hf
    refine lv_iconst (pc := 9) (v := 1) hx hb dX9_isPart_9 (by decide) ?_
    refine lv_goto (pc := 10) (tgt := 14) hx hb dX9_isPart_10 (by decide) ?_
    cases hf
    exact J14_0 _ _ _ hw (lv_sub hl [] rfl)
  · have hf := ineg c2 hf
    refine lv_iload_n (pc := 4) hx hb dX9_isPart_4 rfl (lv_at hl 0 rfl) ?_
    refine lv_iconst (pc := 5) (v := 1) hx hb dX9_isPart_5 (by decide) ?_
    refine lv_icmp_ne (pc := 6) (tgt := 13) hx hb dX9_isPart_6 (by decide) (fun c3 => ?_) (fun c3 => ?_)
    · have hf := ineg c3 hf
      refine lv_iconst (pc := 13) (v := 0) hx hb dX9_isPart_13 (by decide) ?_
      cases hf
      exact J14_0 _ _ _ hw (lv_sub hl [] rfl)
    · have hf := ipos c3 hf
      refine lv_iconst (pc := 9) (v := 1) hx hb dX9_isPart_9 (by decide) ?_
      refine lv_goto (pc := 10) (tgt := 14) hx hb dX9_isPart_10 (by decide) ?_
      cases hf
      exact J14_0 _ _ _ hw (lv_sub hl [] rfl)

theorem in_X9_fresh_X9 : ∀ w ∈ wsX90, w ∈ wsX9_fresh := fun _ h => List.mem_cons_of_mem _ (List.mem_append_left _ (List.mem_append_left _ (List.mem_append_right _ h)))
theorem in_X9_fresh_X7 : ∀ w ∈ wsX70, w ∈ wsX9_fresh := fun _ h => List.mem_cons_of_mem _ (List.mem_append_left _ (List.mem_append_right _ h))
theorem in_X9_fresh_X2 : ∀ w ∈ wsX20, w ∈ wsX9_fresh := fun _ h => List.mem_cons_of_mem _ (List.mem_append_right _ h)
abbrev rmX9_fresh : Room := { frames := 5, cells := 0, slots := 0, locals := 122 }
def f_X9_fresh (S : PS) (P : PS) : Option (PS × PS) :=
  b2 (f_X7_refresh S P) fun S1 P2 =>
  some (S1, P2)
set_option maxHeartbeats 4000000 in
set_option maxRecDepth 100000 in
theorem c_X9_fresh (l : Launch) (D : va_G) (cs : CS) (a : Nat) (q : Nat → Nat) (qS : Nat → Nat) (qP : Nat → Nat) (S : PS) (P : PS) (S' : PS) (P' : PS) (hf : f_X9_fresh S P = some (S', P')) : CT l D (TY cs) yX9_fresh wsX9_fresh rmX9_fresh [.ref a] (wX9 cs a q ++ wX7 cs (q 2) qS S ++ wX2 cs (qS 0) qP P) (some (.ref (q 2))) (wX9 cs a q ++ wX7 cs (q 2) qS S' ++ wX2 cs (qS 0) qP P') := by
  refine CT.ofW (own := RX9) (cc := cX9_fresh) (maxL := 1) (ret := some (.object "DrawsOut$Trial")) (by decide) rfl rfl (Nat.le_of_ble_eq_true rfl) ?_
  intro p e s m args below meth c A Q X hret ls hl hw
  obtain ⟨hx, hb, hml, hown, hts, hK, hA, hr, hlk⟩ := id X
  have hl : lv_has ls 1 [(0, .ref a)] := hl
  unfold f_X9_fresh at hf
  refine lv_aload_n (pc := 0) hx hb dX9_fresh_0 rfl (lv_at hl 0 rfl) ?_
  refine x_get (pc := 1) X hw in_X9_fresh_X9 0 rfl rfl 2 (by decide) (List.mem_of_getElem? (i := 1) rfl) rfl dX9_fresh_1 ?_
  obtain ⟨S1, P2, hc, hf⟩ := b2_ob hf
  refine x_cut (pc := 4) (wr := ([0].filterMap (fun i => (wX9 cs a q ++ wX7 cs (q 2) qS S ++ wX2 cs (qS 0) qP P)[i]?))) (ws2 := wX9 cs a q ++ wX7 cs (q 2) qS S1 ++ wX2 cs (qS 0) qP P2) X hw [1, 2, 3, 4, 5, 6, 7, 8, 9, 10, 11, 12, 13] [0] [0, 1, 2, 3, 4, 5, 6, 7, 8, 9, 10, 11, 12, 13] rfl rfl (by decide) (by decide) rfl (by decide) (va_runV (As := []) (rest := []) ⟨hx, hb, hml, hown, hts⟩ (c_X7_refresh l D cs (q 2) qS qP S P S1 P2 hc _) (cwV 0 hts gX9_fresh_X7_refresh rfl rfl rfl (by decide +kernel) ⟨Nat.le_of_ble_eq_true rfl, Nat.le_of_ble_eq_true rfl⟩) ⟨CP_blind, va_recv hK hw.1 (ci := 7) (q0 := 1) rfl rfl, x_preC X hw [1, 2, 3, 4, 5, 6, 7, 8, 9, 10, 11, 12, 13] rfl (by decide) [.ref (q 2)]⟩ rfl rfl hl.1 rfl (lv_room (Nat.le_of_ble_eq_true rfl)) dX9_fresh_4 ⟨Nat.zero_le _, Nat.zero_le _⟩) (fun H locs hw => ?_)
  refine lv_aload_n (pc := 7) hx hb dX9_fresh_7 rfl (lv_at hl 0 rfl) ?_
  refine x_get (pc := 8) X hw in_X9_fresh_X9 0 rfl rfl 2 (by decide) (List.mem_of_getElem? (i := 1) rfl) rfl dX9_fresh_8 ?_
  cases hf
  exact hret _ _ 11 _ hw ⟨_, rfl⟩ dX9_fresh_11

abbrev rmX9_lowest : Room := { frames := 0, cells := 0, slots := 0, locals := 0 }
def B_X9_lowest_8 (v1 : Int32) (v2 : Int32) (v3 : Int32) : Option ((Int32 × Int32 × Int32) ⊕ (Int32)) :=
  if 100 ≤ v3 then
    some (.inr v1)
  else
  if v2 = 0 then
    some (.inr v1)
  else
  b1 (rmI v1 v2) fun v6 =>
  bn (v3 + 1) fun v7 =>
  some (.inl (v2, v6, v7))
def L_X9_lowest_8 (n : Nat) (v1 : Int32) (v2 : Int32) (v3 : Int32) : Option (Int32) := loopF (fun x : Int32 × Int32 × Int32 => B_X9_lowest_8 x.1 x.2.1 x.2.2) n (v1, v2, v3)
def f_X9_lowest (p1 : Int32) (p2 : Int32) (p3 : Int32) : Option (Int32) :=
  b1 (L_X9_lowest_8 FU p2 p1 0) fun v8 =>
  if v8 = 0 then
    some (-1)
  else
  b1 (
    if p3 = 0 then
      b1 (dvI p1 v8) fun v13 =>
      some v13
    else
    b1 (dvI p2 v8) fun v12 =>
    some v12) fun v10 =>
  some v10
set_option maxHeartbeats 4000000 in
set_option maxRecDepth 100000 in
theorem c_X9_lowest (l : Launch) (D : va_G) (cs : CS) (p1 : Int32) (p2 : Int32) (p3 : Int32) (r : Int32) (hf : f_X9_lowest p1 p2 p3 = some r) : CT l D (TY cs) yX9_lowest wsX9_lowest rmX9_lowest [.int p1, .int p2, .int p3] ([]) (some (.int r)) ([]) := by
  refine CT.ofW (own := RX9) (cc := cX9_lowest) (maxL := 7) (ret := some .int) (by decide) rfl rfl (Nat.le_of_ble_eq_true rfl) ?_
  intro p e s m args below meth c A Q X hret ls hl hw
  obtain ⟨hx, hb, hml, hown, hts, hK, hA, hr, hlk⟩ := id X
  have hl : lv_has ls 7 [(0, .int p1), (1, .int p2), (2, .int p3)] := hl
  unfold f_X9_lowest at hf
  refine lv_iload_n (pc := 0) hx hb dX9_lowest_0 rfl (lv_at hl 1 rfl) ?_
  refine lv_istore_n (lv' := [(3, .int p2), (0, .int p1), (1, .int p2), (2, .int p3)]) (pc := 1) hx hb dX9_lowest_1 rfl hl (by decide) rfl (fun ls hl => ?_)
  refine lv_iload_n (pc := 2) hx hb dX9_lowest_2 rfl (lv_at hl 1 rfl) ?_
  refine lv_istore (lv' := [(4, .int p1), (3, .int p2), (0, .int p1), (1, .int p2), (2, .int p3)]) (pc := 3) hx hb dX9_lowest_3 hl (by decide) rfl (fun ls hl => ?_)
  refine lv_iconst (pc := 5) (v := 0) hx hb dX9_lowest_5 (by decide) ?_
  refine lv_istore (lv' := [(5, .int 0), (4, .int p1), (3, .int p2), (0, .int p1), (1, .int p2), (2, .int p3)]) (pc := 6) hx hb dX9_lowest_6 hl (by decide) rfl (fun ls hl => ?_)
  have L8 : ∀ (n : Nat) (v1 : Int32) (v2 : Int32) (v3 : Int32) (rv1 : Int32), L_X9_lowest_8 n v1 v2 v3 = some rv1 → ∀ (H : Heap) (locs : List Loc) (ls : Array Slot), WD D A s ([]) H locs → lv_has ls 7 [(0, .int p1), (1, .int p2), (2, .int p3), (3, .int v1), (4, .int v2), (5, .int v3)] → (∀ (H : Heap) (locs : List Loc) (ls : Array Slot), WD D A s ([]) H locs → lv_has ls 7 [(0, .int p1), (1, .int p2), (2, .int p3), (3, .int rv1)] → W p l e rmX9_lowest s m args below meth c H locs 0 0 Q (F0 m 39 ls [])) → W p l e rmX9_lowest s m args below meth c H locs 0 0 Q (F0 m 8 ls []) := by
    intro n
    induction n with
    | zero => intro v1 v2 v3 rv1 hf; exact (loopF_z hf).elim
    | succ n ih =>
      intro v1 v2 v3 rv1 hf H locs ls hw hl K
      obtain ⟨x, hf, hx0⟩ := loopF_ob hf
      have hf : B_X9_lowest_8 v1 v2 v3 = some x := hf
      unfold B_X9_lowest_8 at hf
      refine lv_iload (pc := 8) hx hb dX9_lowest_8 (lv_at hl 5 rfl) ?_
      refine lv_bipush (pc := 10) (v := 100) hx hb dX9_lowest_10 (by decide) ?_
      refine lv_icmp_ge (pc := 12) (tgt := 39) hx hb dX9_lowest_12 (by decide) (fun c4 => ?_) (fun c4 => ?_)
      · have hf := ipos c4 hf
        cases hf
        cases (hx0 : v1 = rv1)
        exact K _ _ _ hw (lv_sub hl [0, 1, 2, 3] rfl)
      · have hf := ineg c4 hf
        refine lv_iload (pc := 15) hx hb dX9_lowest_15 (lv_at hl 4 rfl) ?_
        refine lv_if_eq (pc := 17) (tgt := 39) hx hb dX9_lowest_17 (by decide) (fun c5 => ?_) (fun c5 => ?_)
        · have hf := ipos c5 hf
          cases hf
          cases (hx0 : v1 = rv1)
          exact K _ _ _ hw (lv_sub hl [0, 1, 2, 3] rfl)
        · have hf := ineg c5 hf
          refine lv_iload_n (pc := 20) hx hb dX9_lowest_20 rfl (lv_at hl 3 rfl) ?_
          refine lv_iload (pc := 21) hx hb dX9_lowest_21 (lv_at hl 4 rfl) ?_
          obtain ⟨v6, ev6, hf⟩ := b1_ob hf
          refine lv_irem (pc := 23) hx hb dX9_lowest_23 (rmI_ob ev6).1 ?_
          refine x_topi (rmI_ob ev6).2.symm ?_
          refine lv_istore (lv' := [(6, .int v6), (0, .int p1), (1, .int p2), (2, .int p3), (3, .int v1), (4, .int v2), (5, .int v3)]) (pc := 24) hx hb dX9_lowest_24 hl (by decide) rfl (fun ls hl => ?_)
          refine lv_iload (pc := 26) hx hb dX9_lowest_26 (lv_at hl 5 rfl) ?_
          refine lv_istore_n (lv' := [(3, .int v2), (6, .int v6), (0, .int p1), (1, .int p2), (2, .int p3), (4, .int v2), (5, .int v3)]) (pc := 28) hx hb dX9_lowest_28 rfl hl (by decide) rfl (fun ls hl => ?_)
          refine lv_iload (pc := 29) hx hb dX9_lowest_29 (lv_at hl 1 rfl) ?_
          refine lv_istore (lv' := [(4, .int v6), (3, .int v2), (6, .int v6), (0, .int p1), (1, .int p2), (2, .int p3), (5, .int v3)]) (pc := 31) hx hb dX9_lowest_31 hl (by decide) rfl (fun ls hl => ?_)
          obtain ⟨v7, ev7, hf⟩ := bn_ob hf
          refine lv_iinc (pc := 33) (v := v7) (lv' := [(5, .int v7), (4, .int v6), (3, .int v2), (6, .int v6), (0, .int p1), (1, .int p2), (2, .int p3)]) hx hb dX9_lowest_33 hl (k := 6) rfl (by rw [ev7]; rfl) (by decide) rfl (fun ls hl => ?_)
          refine lv_goto (pc := 36) (tgt := 8) hx hb dX9_lowest_36 (by decide) ?_
          cases hf
          exact ih v2 v6 v7 rv1 hx0 _ _ _ hw (lv_sub hl [4, 5, 6, 2, 1, 0] rfl) K
  obtain ⟨v8, hj, hf⟩ := b1_ob hf
  refine L8 _ p2 p1 0 v8 hj _ _ _ hw (lv_sub hl [3, 4, 5, 2, 1, 0] rfl) (fun H locs ls hw hl => ?_)
  clear hj L8
  refine lv_iload_n (pc := 39) hx hb dX9_lowest_39 rfl (lv_at hl 3 rfl) ?_
  refine lv_if_ne (pc := 40) (tgt := 45) hx hb dX9_lowest_40 (by decide) (fun c9 => ?_) (fun c9 => ?_)
  · have hf := ineg c9 hf
    refine lv_iload_n (pc := 45) hx hb dX9_lowest_45 rfl (lv_at hl 2 rfl) ?_
    obtain ⟨v10, hj, hf⟩ := b1_ob hf
    have J58_9 : ∀ (H : Heap) (locs : List Loc) (ls : Array Slot), WD D A s ([]) H locs → lv_has ls 7 [] → W p l e rmX9_lowest s m args below meth c H locs 0 0 Q (F0 m 58 ls [.int v10]) := by
      intro H locs ls hw hl
      cases hf
      exact hret _ _ 58 _ hw ⟨_, rfl, rfl⟩ dX9_lowest_58
    clear hf; have hf := hj; clear hj
    refine lv_if_ne (pc := 46) (tgt := 55) hx hb dX9_lowest_46 (by decide) (fun c11 => ?_) (fun c11 => ?_)
    · have hf := ineg c11 hf
      refine lv_iload_n (pc := 55) hx hb dX9_lowest_55 rfl (lv_at hl 1 rfl) ?_
      refine lv_iload_n (pc := 56) hx hb dX9_lowest_56 rfl (lv_at hl 3 rfl) ?_
      obtain ⟨v12, ev12, hf⟩ := b1_ob hf
      refine lv_idiv (pc := 57) hx hb dX9_lowest_57 (dvI_ob ev12).1 ?_
      refine x_topi (dvI_ob ev12).2.symm ?_
      cases hf
      exact J58_9 _ _ _ hw (lv_sub hl [] rfl)
    · have hf := ipos c11 hf
      refine lv_iload_n (pc := 49) hx hb dX9_lowest_49 rfl (lv_at hl 0 rfl) ?_
      refine lv_iload_n (pc := 50) hx hb dX9_lowest_50 rfl (lv_at hl 3 rfl) ?_
      obtain ⟨v13, ev13, hf⟩ := b1_ob hf
      refine lv_idiv (pc := 51) hx hb dX9_lowest_51 (dvI_ob ev13).1 ?_
      refine x_topi (dvI_ob ev13).2.symm ?_
      refine lv_goto (pc := 52) (tgt := 58) hx hb dX9_lowest_52 (by decide) ?_
      cases hf
      exact J58_9 _ _ _ hw (lv_sub hl [] rfl)
  · have hf := ipos c9 hf
    refine lv_iconst (pc := 43) (v := (-1)) hx hb dX9_lowest_43 (by decide) ?_
    cases hf
    exact hret _ _ 44 _ hw ⟨_, rfl, rfl⟩ dX9_lowest_44

theorem in_X9_odds_X9 : ∀ w ∈ wsX90, w ∈ wsX9_odds := fun _ h => List.mem_cons_of_mem _ (List.mem_append_left _ (List.mem_append_left _ (List.mem_append_right _ h)))
theorem in_X9_odds_X7 : ∀ w ∈ wsX70, w ∈ wsX9_odds := fun _ h => List.mem_cons_of_mem _ (List.mem_append_left _ (List.mem_append_right _ h))
theorem in_X9_odds_X2 : ∀ w ∈ wsX20, w ∈ wsX9_odds := fun _ h => List.mem_cons_of_mem _ (List.mem_append_right _ h)
abbrev rmX9_odds : Room := { frames := 6, cells := 0, slots := 0, locals := 142 }
def f_X9_odds (S : PS) (P : PS) (p1 : Int32) (p2 : Int32) : Option (Int32 × PS × PS) :=
  b1 (f_X7_hasInput S p1) fun v1 =>
  if v1 = 0 then
    some ((-2), S, P)
  else
  b1 (f_X9_isPart p2) fun v3 =>
  b3 (
    if v3 = 0 then
      some (((-3) : Int32), S, P)
    else
    b2 (f_X9_fresh S P) fun S8 P9 =>
    b1 (f_X7_rightCount S8 p1) fun v10 =>
    b1 (f_X9_lowest v10 (P9.1 5) p2) fun v11 =>
    some (v11, S8, P9)) fun v4 S5 P6 =>
  some (v4, S5, P6)
set_option maxHeartbeats 4000000 in
set_option maxRecDepth 100000 in
theorem c_X9_odds (l : Launch) (D : va_G) (cs : CS) (a : Nat) (q : Nat → Nat) (qS : Nat → Nat) (qP : Nat → Nat) (S : PS) (P : PS) (p1 : Int32) (p2 : Int32) (r : Int32) (S' : PS) (P' : PS) (hf : f_X9_odds S P p1 p2 = some (r, S', P')) : CT l D (TY cs) yX9_odds wsX9_odds rmX9_odds [.ref a, .int p1, .int p2] (wX9 cs a q ++ wX7 cs (q 2) qS S ++ wX2 cs (qS 0) qP P) (some (.int r)) (wX9 cs a q ++ wX7 cs (q 2) qS S' ++ wX2 cs (qS 0) qP P') := by
  refine CT.ofW (own := RX9) (cc := cX9_odds) (maxL := 3) (ret := some .int) (by decide) rfl rfl (Nat.le_of_ble_eq_true rfl) ?_
  intro p e s m args below meth c A Q X hret ls hl hw
  obtain ⟨hx, hb, hml, hown, hts, hK, hA, hr, hlk⟩ := id X
  have hl : lv_has ls 3 [(0, .ref a), (1, .int p1), (2, .int p2)] := hl
  unfold f_X9_odds at hf
  refine lv_aload_n (pc := 0) hx hb dX9_odds_0 rfl (lv_at hl 0 rfl) ?_
  refine x_get (pc := 1) X hw in_X9_odds_X9 0 rfl rfl 2 (by decide) (List.mem_of_getElem? (i := 1) rfl) rfl dX9_odds_1 ?_
  refine lv_iload_n (pc := 4) hx hb dX9_odds_4 rfl (lv_at hl 1 rfl) ?_
  obtain ⟨v1, hc, hf⟩ := b1_ob hf
  refine x_cut (pc := 5) (wr := ([0, 6, 7, 8, 9, 10, 11, 12, 13].filterMap (fun i => (wX9 cs a q ++ wX7 cs (q 2) qS S ++ wX2 cs (qS 0) qP P)[i]?))) (ws2 := wX9 cs a q ++ wX7 cs (q 2) qS S ++ wX2 cs (qS 0) qP P) X hw [1, 2, 3, 4, 5] [0, 6, 7, 8, 9, 10, 11, 12, 13] [0, 9, 10, 11, 12, 13, 1, 2, 3, 4, 5, 6, 7, 8] rfl rfl (by decide) (by decide) rfl (by decide) (va_runV (As := [.int p1]) (rest := []) ⟨hx, hb, hml, hown, hts⟩ (c_X7_hasInput l D cs (q 2) qS S p1 v1 hc _) (cwV 1 hts gX9_odds_X7_hasInput rfl rfl rfl (by decide +kernel) ⟨Nat.le_of_ble_eq_true rfl, Nat.le_of_ble_eq_true rfl⟩) ⟨CP_blind, va_recv hK hw.1 (ci := 7) (q0 := 1) rfl rfl, x_preC X hw [1, 2, 3, 4, 5] rfl (by decide) [.ref (q 2), .int p1]⟩ rfl rfl hl.1 rfl (lv_room (Nat.le_of_ble_eq_true rfl)) dX9_odds_5 ⟨Nat.zero_le _, Nat.zero_le _⟩) (fun H locs hw => ?_)
  refine lv_if_ne (pc := 8) (tgt := 14) hx hb dX9_odds_8 (by decide) (fun c2 => ?_) (fun c2 => ?_)
  · have hf := ineg c2 hf
    refine lv_iload_n (pc := 14) hx hb dX9_odds_14 rfl (lv_at hl 2 rfl) ?_
    obtain ⟨v3, hc, hf⟩ := b1_ob hf
    refine x_nil (pc := 15) X hw (va_runS (As := [.int p2]) (rest := []) ⟨hx, hb, hml, hown, hts⟩ (c_X9_isPart l D cs p2 v3 hc _) (va_cwS 1 hts gX9_odds_X9_isPart rfl rfl rfl (by decide +kernel) ⟨Nat.le_of_ble_eq_true rfl, Nat.le_of_ble_eq_true rfl⟩) ⟨CP_blind, x_preN X [.int p2]⟩ rfl rfl hl.1 rfl (lv_room (Nat.le_of_ble_eq_true rfl)) dX9_odds_15 ⟨Nat.zero_le _, Nat.zero_le _⟩) (fun H locs hw => ?_)
    obtain ⟨v4, S5, P6, hj, hf⟩ := b3_ob hf
    have J48_3 : ∀ (H : Heap) (locs : List Loc) (ls : Array Slot), WD D A s (wX9 cs a q ++ wX7 cs (q 2) qS S5 ++ wX2 cs (qS 0) qP P6) H locs → lv_has ls 3 [] → W p l e rmX9_odds s m args below meth c H locs 0 0 Q (F0 m 48 ls [.int v4]) := by
      intro H locs ls hw hl
      cases hf
      exact hret _ _ 48 _ hw ⟨_, rfl, rfl⟩ dX9_odds_48
    clear hf; have hf := hj; clear hj
    refine lv_if_eq (pc := 18) (tgt := 46) hx hb dX9_odds_18 (by decide) (fun c7 => ?_) (fun c7 => ?_)
    · have hf := ipos c7 hf
      refine lv_bipush (pc := 46) (v := (-3)) hx hb dX9_odds_46 (by decide) ?_
      cases hf
      exact J48_3 _ _ _ hw (lv_sub hl [] rfl)
    · have hf := ineg c7 hf
      refine lv_aload_n (pc := 21) hx hb dX9_odds_21 rfl (lv_at hl 0 rfl) ?_
      obtain ⟨S8, P9, hc, hf⟩ := b2_ob hf
      refine x_all (pc := 22) X hw (va_runV (As := []) (rest := []) ⟨hx, hb, hml, hown, hts⟩ (c_X9_fresh l D cs a q qS qP S P S8 P9 hc _) (cwV 0 hts gX9_odds_X9_fresh rfl rfl rfl (by decide +kernel) ⟨Nat.le_of_ble_eq_true rfl, Nat.le_of_ble_eq_true rfl⟩) ⟨CP_blind, va_recv hK hw.1 (ci := 9) (q0 := 0) rfl rfl, x_preA X hw [.ref a]⟩ rfl rfl hl.1 rfl (lv_room (Nat.le_of_ble_eq_true rfl)) dX9_odds_22 ⟨Nat.zero_le _, Nat.zero_le _⟩) (fun H locs hw => ?_)
      refine lv_iload_n (pc := 25) hx hb dX9_odds_25 rfl (lv_at hl 1 rfl) ?_
      obtain ⟨v10, hc, hf⟩ := b1_ob hf
      refine x_cut (pc := 26) (wr := ([0, 6, 7, 8, 9, 10, 11, 12, 13].filterMap (fun i => (wX9 cs a q ++ wX7 cs (q 2) qS S8 ++ wX2 cs (qS 0) qP P9)[i]?))) (ws2 := wX9 cs a q ++ wX7 cs (q 2) qS S8 ++ wX2 cs (qS 0) qP P9) X hw [1, 2, 3, 4, 5] [0, 6, 7, 8, 9, 10, 11, 12, 13] [0, 9, 10, 11, 12, 13, 1, 2, 3, 4, 5, 6, 7, 8] rfl rfl (by decide) (by decide) rfl (by decide) (va_runV (As := [.int p1]) (rest := []) ⟨hx, hb, hml, hown, hts⟩ (c_X7_rightCount l D cs (q 2) qS S8 p1 v10 hc _) (cwV 1 hts gX9_odds_X7_rightCount rfl rfl rfl (by decide +kernel) ⟨Nat.le_of_ble_eq_true rfl, Nat.le_of_ble_eq_true rfl⟩) ⟨CP_blind, va_recv hK hw.1 (ci := 7) (q0 := 1) rfl rfl, x_preC X hw [1, 2, 3, 4, 5] rfl (by decide) [.ref (q 2), .int p1]⟩ rfl rfl hl.1 rfl (lv_room (Nat.le_of_ble_eq_true rfl)) dX9_odds_26 ⟨Nat.zero_le _, Nat.zero_le _⟩) (fun H locs hw => ?_)
      refine lv_aload_n (pc := 29) hx hb dX9_odds_29 rfl (lv_at hl 0 rfl) ?_
      refine x_get (pc := 30) X hw in_X9_odds_X9 0 rfl rfl 2 (by decide) (List.mem_of_getElem? (i := 1) rfl) rfl dX9_odds_30 ?_
      refine x_get (pc := 33) X hw in_X9_odds_X7 1 rfl rfl 0 (by decide) (List.mem_of_getElem? (i := 2) rfl) rfl dX9_odds_33 ?_
      refine x_get (pc := 36) X hw in_X9_odds_X2 6 rfl rfl 5 (by decide) (List.mem_of_getElem? (i := 3) rfl) rfl dX9_odds_36 ?_
      refine lv_iload_n (pc := 39) hx hb dX9_odds_39 rfl (lv_at hl 2 rfl) ?_
      obtain ⟨v11, hc, hf⟩ := b1_ob hf
      refine x_nil (pc := 40) X hw (va_runS (As := [.int v10, .int (P9.1 5), .int p2]) (rest := []) ⟨hx, hb, hml, hown, hts⟩ (c_X9_lowest l D cs v10 (P9.1 5) p2 v11 hc _) (va_cwS 3 hts gX9_odds_X9_lowest rfl rfl rfl (by decide +kernel) ⟨Nat.le_of_ble_eq_true rfl, Nat.le_of_ble_eq_true rfl⟩) ⟨CP_blind, x_preN X [.int v10, .int (P9.1 5), .int p2]⟩ rfl rfl hl.1 rfl (lv_room (Nat.le_of_ble_eq_true rfl)) dX9_odds_40 ⟨Nat.zero_le _, Nat.zero_le _⟩) (fun H locs hw => ?_)
      refine lv_goto (pc := 43) (tgt := 48) hx hb dX9_odds_43 (by decide) ?_
      cases hf
      exact J48_3 _ _ _ hw (lv_sub hl [] rfl)
  · have hf := ipos c2 hf
    refine lv_bipush (pc := 11) (v := (-2)) hx hb dX9_odds_11 (by decide) ?_
    cases hf
    exact hret _ _ 13 _ hw ⟨_, rfl, rfl⟩ dX9_odds_13

theorem in_X9_worst_X9 : ∀ w ∈ wsX90, w ∈ wsX9_worst := fun _ h => List.mem_cons_of_mem _ (List.mem_append_left _ (List.mem_append_left _ (List.mem_append_right _ h)))
theorem in_X9_worst_X7 : ∀ w ∈ wsX70, w ∈ wsX9_worst := fun _ h => List.mem_cons_of_mem _ (List.mem_append_left _ (List.mem_append_right _ h))
theorem in_X9_worst_X2 : ∀ w ∈ wsX20, w ∈ wsX9_worst := fun _ h => List.mem_cons_of_mem _ (List.mem_append_right _ h)
abbrev rmX9_worst : Room := { frames := 6, cells := 0, slots := 0, locals := 142 }
def f_X9_worst (S : PS) (P : PS) (p1 : Int32) : Option (Int32 × PS × PS) :=
  if p1 < 0 then
    some ((-3), S, P)
  else
  if p1 ≤ 2 then
    b2 (f_X9_fresh S P) fun S3 P4 =>
    b1 (f_X7_worstInput S3) fun v5 =>
    b1 (
      if p1 = 2 then
        some v5
      else
      b1 (f_X7_rightCount S3 v5) fun v8 =>
      b1 (f_X9_lowest v8 (P4.1 5) p1) fun v9 =>
      some v9) fun v6 =>
    some (v6, S3, P4)
  else
  some ((-3), S, P)
set_option maxHeartbeats 4000000 in
set_option maxRecDepth 100000 in
theorem c_X9_worst (l : Launch) (D : va_G) (cs : CS) (a : Nat) (q : Nat → Nat) (qS : Nat → Nat) (qP : Nat → Nat) (S : PS) (P : PS) (p1 : Int32) (r : Int32) (S' : PS) (P' : PS) (hf : f_X9_worst S P p1 = some (r, S', P')) : CT l D (TY cs) yX9_worst wsX9_worst rmX9_worst [.ref a, .int p1] (wX9 cs a q ++ wX7 cs (q 2) qS S ++ wX2 cs (qS 0) qP P) (some (.int r)) (wX9 cs a q ++ wX7 cs (q 2) qS S' ++ wX2 cs (qS 0) qP P') := by
  refine CT.ofW (own := RX9) (cc := cX9_worst) (maxL := 3) (ret := some .int) (by decide) rfl rfl (Nat.le_of_ble_eq_true rfl) ?_
  intro p e s m args below meth c A Q X hret ls hl hw
  obtain ⟨hx, hb, hml, hown, hts, hK, hA, hr, hlk⟩ := id X
  have hl : lv_has ls 3 [(0, .ref a), (1, .int p1)] := hl
  unfold f_X9_worst at hf
  refine lv_iload_n (pc := 0) hx hb dX9_worst_0 rfl (lv_at hl 1 rfl) ?_
  refine lv_if_lt (pc := 1) (tgt := 9) hx hb dX9_worst_1 (by decide) (fun c1 => ?_) (fun c1 => ?_)
  · have hf := ipos c1 hf
    refine lv_bipush (pc := 9) (v := (-3)) hx hb dX9_worst_9 (by decide) ?_
    cases hf
    exact hret _ _ 11 _ hw ⟨_, rfl, rfl⟩ dX9_worst_11
  · have hf := ineg c1 hf
    refine lv_iload_n (pc := 4) hx hb dX9_worst_4 rfl (lv_at hl 1 rfl) ?_
    refine lv_iconst (pc := 5) (v := 2) hx hb dX9_worst_5 (by decide) ?_
    refine lv_icmp_le (pc := 6) (tgt := 12) hx hb dX9_worst_6 (by decide) (fun c2 => ?_) (fun c2 => ?_)
    · have hf := ipos c2 hf
      refine lv_aload_n (pc := 12) hx hb dX9_worst_12 rfl (lv_at hl 0 rfl) ?_
      obtain ⟨S3, P4, hc, hf⟩ := b2_ob hf
      refine x_all (pc := 13) X hw (va_runV (As := []) (rest := []) ⟨hx, hb, hml, hown, hts⟩ (c_X9_fresh l D cs a q qS qP S P S3 P4 hc _) (cwV 0 hts gX9_worst_X9_fresh rfl rfl rfl (by decide +kernel) ⟨Nat.le_of_ble_eq_true rfl, Nat.le_of_ble_eq_true rfl⟩) ⟨CP_blind, va_recv hK hw.1 (ci := 9) (q0 := 0) rfl rfl, x_preA X hw [.ref a]⟩ rfl rfl hl.1 rfl (lv_room (Nat.le_of_ble_eq_true rfl)) dX9_worst_13 ⟨Nat.zero_le _, Nat.zero_le _⟩) (fun H locs hw => ?_)
      obtain ⟨v5, hc, hf⟩ := b1_ob hf
      refine x_cut (pc := 16) (wr := ([0, 6, 7, 8, 9, 10, 11, 12, 13].filterMap (fun i => (wX9 cs a q ++ wX7 cs (q 2) qS S3 ++ wX2 cs (qS 0) qP P4)[i]?))) (ws2 := wX9 cs a q ++ wX7 cs (q 2) qS S3 ++ wX2 cs (qS 0) qP P4) X hw [1, 2, 3, 4, 5] [0, 6, 7, 8, 9, 10, 11, 12, 13] [0, 9, 10, 11, 12, 13, 1, 2, 3, 4, 5, 6, 7, 8] rfl rfl (by decide) (by decide) rfl (by decide) (va_runV (As := []) (rest := []) ⟨hx, hb, hml, hown, hts⟩ (c_X7_worstInput l D cs (q 2) qS S3 v5 hc _) (cwV 0 hts gX9_worst_X7_worstInput rfl rfl rfl (by decide +kernel) ⟨Nat.le_of_ble_eq_true rfl, Nat.le_of_ble_eq_true rfl⟩) ⟨CP_blind, va_recv hK hw.1 (ci := 7) (q0 := 1) rfl rfl, x_preC X hw [1, 2, 3, 4, 5] rfl (by decide) [.ref (q 2)]⟩ rfl rfl hl.1 rfl (lv_room (Nat.le_of_ble_eq_true rfl)) dX9_worst_16 ⟨Nat.zero_le _, Nat.zero_le _⟩) (fun H locs hw => ?_)
      refine lv_istore_n (lv' := [(2, .int v5), (0, .ref a), (1, .int p1)]) (pc := 19) hx hb dX9_worst_19 rfl hl (by decide) rfl (fun ls hl => ?_)
      refine lv_iload_n (pc := 20) hx hb dX9_worst_20 rfl (lv_at hl 2 rfl) ?_
      refine lv_iconst (pc := 21) (v := 2) hx hb dX9_worst_21 (by decide) ?_
      obtain ⟨v6, hj, hf⟩ := b1_ob hf
      have J51_5 : ∀ (H : Heap) (locs : List Loc) (ls : Array Slot), WD D A s (wX9 cs a q ++ wX7 cs (q 2) qS S3 ++ wX2 cs (qS 0) qP P4) H locs → lv_has ls 3 [] → W p l e rmX9_worst s m args below meth c H locs 0 0 Q (F0 m 51 ls [.int v6]) := by
        intro H locs ls hw hl
        cases hf
        exact hret _ _ 51 _ hw ⟨_, rfl, rfl⟩ dX9_worst_51
      clear hf; have hf := hj; clear hj
      refine lv_icmp_ne (pc := 22) (tgt := 29) hx hb dX9_worst_22 (by decide) (fun c7 => ?_) (fun c7 => ?_)
      · have hf := ineg c7 hf
        refine lv_aload_n (pc := 29) hx hb dX9_worst_29 rfl (lv_at hl 1 rfl) ?_
        refine x_get (pc := 30) X hw in_X9_worst_X9 0 rfl rfl 2 (by decide) (List.mem_of_getElem? (i := 1) rfl) rfl dX9_worst_30 ?_
        refine lv_iload_n (pc := 33) hx hb dX9_worst_33 rfl (lv_at hl 0 rfl) ?_
        obtain ⟨v8, hc, hf⟩ := b1_ob hf
        refine x_cut (pc := 34) (wr := ([0, 6, 7, 8, 9, 10, 11, 12, 13].filterMap (fun i => (wX9 cs a q ++ wX7 cs (q 2) qS S3 ++ wX2 cs (qS 0) qP P4)[i]?))) (ws2 := wX9 cs a q ++ wX7 cs (q 2) qS S3 ++ wX2 cs (qS 0) qP P4) X hw [1, 2, 3, 4, 5] [0, 6, 7, 8, 9, 10, 11, 12, 13] [0, 9, 10, 11, 12, 13, 1, 2, 3, 4, 5, 6, 7, 8] rfl rfl (by decide) (by decide) rfl (by decide) (va_runV (As := [.int v5]) (rest := []) ⟨hx, hb, hml, hown, hts⟩ (c_X7_rightCount l D cs (q 2) qS S3 v5 v8 hc _) (cwV 1 hts gX9_worst_X7_rightCount rfl rfl rfl (by decide +kernel) ⟨Nat.le_of_ble_eq_true rfl, Nat.le_of_ble_eq_true rfl⟩) ⟨CP_blind, va_recv hK hw.1 (ci := 7) (q0 := 1) rfl rfl, x_preC X hw [1, 2, 3, 4, 5] rfl (by decide) [.ref (q 2), .int v5]⟩ rfl rfl hl.1 rfl (lv_room (Nat.le_of_ble_eq_true rfl)) dX9_worst_34 ⟨Nat.zero_le _, Nat.zero_le _⟩) (fun H locs hw => ?_)
        refine lv_aload_n (pc := 37) hx hb dX9_worst_37 rfl (lv_at hl 1 rfl) ?_
        refine x_get (pc := 38) X hw in_X9_worst_X9 0 rfl rfl 2 (by decide) (List.mem_of_getElem? (i := 1) rfl) rfl dX9_worst_38 ?_
        refine x_get (pc := 41) X hw in_X9_worst_X7 1 rfl rfl 0 (by decide) (List.mem_of_getElem? (i := 2) rfl) rfl dX9_worst_41 ?_
        refine x_get (pc := 44) X hw in_X9_worst_X2 6 rfl rfl 5 (by decide) (List.mem_of_getElem? (i := 3) rfl) rfl dX9_worst_44 ?_
        refine lv_iload_n (pc := 47) hx hb dX9_worst_47 rfl (lv_at hl 2 rfl) ?_
        obtain ⟨v9, hc, hf⟩ := b1_ob hf
        refine x_nil (pc := 48) X hw (va_runS (As := [.int v8, .int (P4.1 5), .int p1]) (rest := []) ⟨hx, hb, hml, hown, hts⟩ (c_X9_lowest l D cs v8 (P4.1 5) p1 v9 hc _) (va_cwS 3 hts gX9_worst_X9_lowest rfl rfl rfl (by decide +kernel) ⟨Nat.le_of_ble_eq_true rfl, Nat.le_of_ble_eq_true rfl⟩) ⟨CP_blind, x_preN X [.int v8, .int (P4.1 5), .int p1]⟩ rfl rfl hl.1 rfl (lv_room (Nat.le_of_ble_eq_true rfl)) dX9_worst_48 ⟨Nat.zero_le _, Nat.zero_le _⟩) (fun H locs hw => ?_)
        cases hf
        exact J51_5 _ _ _ hw (lv_sub hl [] rfl)
      · have hf := ipos c7 hf
        refine lv_iload_n (pc := 25) hx hb dX9_worst_25 rfl (lv_at hl 0 rfl) ?_
        refine lv_goto (pc := 26) (tgt := 51) hx hb dX9_worst_26 (by decide) ?_
        cases hf
        exact J51_5 _ _ _ hw (lv_sub hl [] rfl)
    · have hf := ineg c2 hf
      refine lv_bipush (pc := 9) (v := (-3)) hx hb dX9_worst_9 (by decide) ?_
      cases hf
      exact hret _ _ 11 _ hw ⟨_, rfl, rfl⟩ dX9_worst_11

theorem in_X9_mean_X9 : ∀ w ∈ wsX90, w ∈ wsX9_mean := fun _ h => List.mem_cons_of_mem _ (List.mem_append_left _ (List.mem_append_left _ (List.mem_append_right _ h)))
theorem in_X9_mean_X7 : ∀ w ∈ wsX70, w ∈ wsX9_mean := fun _ h => List.mem_cons_of_mem _ (List.mem_append_left _ (List.mem_append_right _ h))
theorem in_X9_mean_X2 : ∀ w ∈ wsX20, w ∈ wsX9_mean := fun _ h => List.mem_cons_of_mem _ (List.mem_append_right _ h)
abbrev rmX9_mean : Room := { frames := 6, cells := 0, slots := 0, locals := 142 }
def f_X9_mean (S : PS) (P : PS) (p1 : Int32) : Option (Int32 × PS × PS) :=
  b1 (f_X9_isPart p1) fun v1 =>
  if v1 = 0 then
    some ((-3), S, P)
  else
  bn (P.1 5) fun v3 =>
  b2 (f_X9_fresh S P) fun S4 P5 =>
  b1 (f_X7_rightInputsWithin S4 0 v3) fun v6 =>
  b1 (f_X7_inputCount S4) fun v7 =>
  b1 (f_X9_lowest v6 (v3 * v7) p1) fun v8 =>
  some (v8, S4, P5)
set_option maxHeartbeats 4000000 in
set_option maxRecDepth 100000 in
theorem c_X9_mean (l : Launch) (D : va_G) (cs : CS) (a : Nat) (q : Nat → Nat) (qS : Nat → Nat) (qP : Nat → Nat) (S : PS) (P : PS) (p1 : Int32) (r : Int32) (S' : PS) (P' : PS) (hf : f_X9_mean S P p1 = some (r, S', P')) : CT l D (TY cs) yX9_mean wsX9_mean rmX9_mean [.ref a, .int p1] (wX9 cs a q ++ wX7 cs (q 2) qS S ++ wX2 cs (qS 0) qP P) (some (.int r)) (wX9 cs a q ++ wX7 cs (q 2) qS S' ++ wX2 cs (qS 0) qP P') := by
  refine CT.ofW (own := RX9) (cc := cX9_mean) (maxL := 3) (ret := some .int) (by decide) rfl rfl (Nat.le_of_ble_eq_true rfl) ?_
  intro p e s m args below meth c A Q X hret ls hl hw
  obtain ⟨hx, hb, hml, hown, hts, hK, hA, hr, hlk⟩ := id X
  have hl : lv_has ls 3 [(0, .ref a), (1, .int p1)] := hl
  unfold f_X9_mean at hf
  refine lv_iload_n (pc := 0) hx hb dX9_mean_0 rfl (lv_at hl 1 rfl) ?_
  obtain ⟨v1, hc, hf⟩ := b1_ob hf
  refine x_nil (pc := 1) X hw (va_runS (As := [.int p1]) (rest := []) ⟨hx, hb, hml, hown, hts⟩ (c_X9_isPart l D cs p1 v1 hc _) (va_cwS 1 hts gX9_mean_X9_isPart rfl rfl rfl (by decide +kernel) ⟨Nat.le_of_ble_eq_true rfl, Nat.le_of_ble_eq_true rfl⟩) ⟨CP_blind, x_preN X [.int p1]⟩ rfl rfl hl.1 rfl (lv_room (Nat.le_of_ble_eq_true rfl)) dX9_mean_1 ⟨Nat.zero_le _, Nat.zero_le _⟩) (fun H locs hw => ?_)
  refine lv_if_ne (pc := 4) (tgt := 10) hx hb dX9_mean_4 (by decide) (fun c2 => ?_) (fun c2 => ?_)
  · have hf := ineg c2 hf
    refine lv_aload_n (pc := 10) hx hb dX9_mean_10 rfl (lv_at hl 0 rfl) ?_
    refine x_get (pc := 11) X hw in_X9_mean_X9 0 rfl rfl 2 (by decide) (List.mem_of_getElem? (i := 1) rfl) rfl dX9_mean_11 ?_
    refine x_get (pc := 14) X hw in_X9_mean_X7 1 rfl rfl 0 (by decide) (List.mem_of_getElem? (i := 2) rfl) rfl dX9_mean_14 ?_
    refine x_get (pc := 17) X hw in_X9_mean_X2 6 rfl rfl 5 (by decide) (List.mem_of_getElem? (i := 3) rfl) rfl dX9_mean_17 ?_
    obtain ⟨v3, ev3, hf⟩ := bn_ob hf
    refine x_topi ev3 ?_
    refine lv_istore_n (lv' := [(2, .int v3), (0, .ref a), (1, .int p1)]) (pc := 20) hx hb dX9_mean_20 rfl hl (by decide) rfl (fun ls hl => ?_)
    refine lv_aload_n (pc := 21) hx hb dX9_mean_21 rfl (lv_at hl 1 rfl) ?_
    obtain ⟨S4, P5, hc, hf⟩ := b2_ob hf
    refine x_all (pc := 22) X hw (va_runV (As := []) (rest := []) ⟨hx, hb, hml, hown, hts⟩ (c_X9_fresh l D cs a q qS qP S P S4 P5 hc _) (cwV 0 hts gX9_mean_X9_fresh rfl rfl rfl (by decide +kernel) ⟨Nat.le_of_ble_eq_true rfl, Nat.le_of_ble_eq_true rfl⟩) ⟨CP_blind, va_recv hK hw.1 (ci := 9) (q0 := 0) rfl rfl, x_preA X hw [.ref a]⟩ rfl rfl hl.1 rfl (lv_room (Nat.le_of_ble_eq_true rfl)) dX9_mean_22 ⟨Nat.zero_le _, Nat.zero_le _⟩) (fun H locs hw => ?_)
    refine lv_iconst (pc := 25) (v := 0) hx hb dX9_mean_25 (by decide) ?_
    refine lv_iload_n (pc := 26) hx hb dX9_mean_26 rfl (lv_at hl 0 rfl) ?_
    obtain ⟨v6, hc, hf⟩ := b1_ob hf
    refine x_cut (pc := 27) (wr := ([0, 6, 7, 8, 9, 10, 11, 12, 13].filterMap (fun i => (wX9 cs a q ++ wX7 cs (q 2) qS S4 ++ wX2 cs (qS 0) qP P5)[i]?))) (ws2 := wX9 cs a q ++ wX7 cs (q 2) qS S4 ++ wX2 cs (qS 0) qP P5) X hw [1, 2, 3, 4, 5] [0, 6, 7, 8, 9, 10, 11, 12, 13] [0, 9, 10, 11, 12, 13, 1, 2, 3, 4, 5, 6, 7, 8] rfl rfl (by decide) (by decide) rfl (by decide) (va_runV (As := [.int 0, .int v3]) (rest := []) ⟨hx, hb, hml, hown, hts⟩ (c_X7_rightInputsWithin l D cs (q 2) qS S4 0 v3 v6 hc _) (cwV 2 hts gX9_mean_X7_rightInputsWithin rfl rfl rfl (by decide +kernel) ⟨Nat.le_of_ble_eq_true rfl, Nat.le_of_ble_eq_true rfl⟩) ⟨CP_blind, va_recv hK hw.1 (ci := 7) (q0 := 1) rfl rfl, x_preC X hw [1, 2, 3, 4, 5] rfl (by decide) [.ref (q 2), .int 0, .int v3]⟩ rfl rfl hl.1 rfl (lv_room (Nat.le_of_ble_eq_true rfl)) dX9_mean_27 ⟨Nat.zero_le _, Nat.zero_le _⟩) (fun H locs hw => ?_)
    refine lv_iload_n (pc := 30) hx hb dX9_mean_30 rfl (lv_at hl 0 rfl) ?_
    refine lv_aload_n (pc := 31) hx hb dX9_mean_31 rfl (lv_at hl 1 rfl) ?_
    refine x_get (pc := 32) X hw in_X9_mean_X9 0 rfl rfl 2 (by decide) (List.mem_of_getElem? (i := 1) rfl) rfl dX9_mean_32 ?_
    obtain ⟨v7, hc, hf⟩ := b1_ob hf
    refine x_cut (pc := 35) (wr := ([0, 6, 7, 8, 9, 10, 11, 12, 13].filterMap (fun i => (wX9 cs a q ++ wX7 cs (q 2) qS S4 ++ wX2 cs (qS 0) qP P5)[i]?))) (ws2 := wX9 cs a q ++ wX7 cs (q 2) qS S4 ++ wX2 cs (qS 0) qP P5) X hw [1, 2, 3, 4, 5] [0, 6, 7, 8, 9, 10, 11, 12, 13] [0, 9, 10, 11, 12, 13, 1, 2, 3, 4, 5, 6, 7, 8] rfl rfl (by decide) (by decide) rfl (by decide) (va_runV (As := []) (rest := [.int v3, .int v6]) ⟨hx, hb, hml, hown, hts⟩ (c_X7_inputCount l D cs (q 2) qS S4 v7 hc _) (cwV 0 hts gX9_mean_X7_inputCount rfl rfl rfl (by decide +kernel) ⟨Nat.le_of_ble_eq_true rfl, Nat.le_of_ble_eq_true rfl⟩) ⟨CP_blind, va_recv hK hw.1 (ci := 7) (q0 := 1) rfl rfl, x_preC X hw [1, 2, 3, 4, 5] rfl (by decide) [.ref (q 2)]⟩ rfl rfl hl.1 rfl (lv_room (Nat.le_of_ble_eq_true rfl)) dX9_mean_35 ⟨Nat.zero_le _, Nat.zero_le _⟩) (fun H locs hw => ?_)
    refine lv_imul (pc := 38) hx hb dX9_mean_38 ?_
    refine lv_iload_n (pc := 39) hx hb dX9_mean_39 rfl (lv_at hl 2 rfl) ?_
    obtain ⟨v8, hc, hf⟩ := b1_ob hf
    refine x_nil (pc := 40) X hw (va_runS (As := [.int v6, .int (v3 * v7), .int p1]) (rest := []) ⟨hx, hb, hml, hown, hts⟩ (c_X9_lowest l D cs v6 (v3 * v7) p1 v8 hc _) (va_cwS 3 hts gX9_mean_X9_lowest rfl rfl rfl (by decide +kernel) ⟨Nat.le_of_ble_eq_true rfl, Nat.le_of_ble_eq_true rfl⟩) ⟨CP_blind, x_preN X [.int v6, .int (v3 * v7), .int p1]⟩ rfl rfl hl.1 rfl (lv_room (Nat.le_of_ble_eq_true rfl)) dX9_mean_40 ⟨Nat.zero_le _, Nat.zero_le _⟩) (fun H locs hw => ?_)
    cases hf
    exact hret _ _ 43 _ hw ⟨_, rfl, rfl⟩ dX9_mean_43
  · have hf := ipos c2 hf
    refine lv_bipush (pc := 7) (v := (-3)) hx hb dX9_mean_7 (by decide) ?_
    cases hf
    exact hret _ _ 9 _ hw ⟨_, rfl, rfl⟩ dX9_mean_9

theorem in_X9_seen_X9 : ∀ w ∈ wsX90, w ∈ wsX9_seen := fun _ h => List.mem_cons_of_mem _ (List.mem_append_left _ (List.mem_append_left _ (List.mem_append_right _ h)))
theorem in_X9_seen_X7 : ∀ w ∈ wsX70, w ∈ wsX9_seen := fun _ h => List.mem_cons_of_mem _ (List.mem_append_left _ (List.mem_append_right _ h))
theorem in_X9_seen_X2 : ∀ w ∈ wsX20, w ∈ wsX9_seen := fun _ h => List.mem_cons_of_mem _ (List.mem_append_right _ h)
abbrev rmX9_seen : Room := { frames := 6, cells := 0, slots := 0, locals := 142 }
def f_X9_seen (S : PS) (P : PS) (p1 : Int32) (p2 : Int32) : Option (Int32 × PS × PS) :=
  if p1 < 0 then
    some ((-2), S, P)
  else
  if p1 ≤ (P.1 4) then
    b1 (f_X9_isPart p2) fun v3 =>
    b3 (
      if v3 = 0 then
        some (((-3) : Int32), S, P)
      else
      b2 (f_X9_fresh S P) fun S8 P9 =>
      b1 (f_X7_rightBeforeEnemy S8 P9 p1) fun v10 =>
      b1 (f_X9_lowest v10 (P9.1 5) p2) fun v11 =>
      some (v11, S8, P9)) fun v4 S5 P6 =>
    some (v4, S5, P6)
  else
  some ((-2), S, P)
set_option maxHeartbeats 4000000 in
set_option maxRecDepth 100000 in
theorem c_X9_seen (l : Launch) (D : va_G) (cs : CS) (a : Nat) (q : Nat → Nat) (qS : Nat → Nat) (qP : Nat → Nat) (S : PS) (P : PS) (p1 : Int32) (p2 : Int32) (r : Int32) (S' : PS) (P' : PS) (hf : f_X9_seen S P p1 p2 = some (r, S', P')) : CT l D (TY cs) yX9_seen wsX9_seen rmX9_seen [.ref a, .int p1, .int p2] (wX9 cs a q ++ wX7 cs (q 2) qS S ++ wX2 cs (qS 0) qP P) (some (.int r)) (wX9 cs a q ++ wX7 cs (q 2) qS S' ++ wX2 cs (qS 0) qP P') := by
  refine CT.ofW (own := RX9) (cc := cX9_seen) (maxL := 3) (ret := some .int) (by decide) rfl rfl (Nat.le_of_ble_eq_true rfl) ?_
  intro p e s m args below meth c A Q X hret ls hl hw
  obtain ⟨hx, hb, hml, hown, hts, hK, hA, hr, hlk⟩ := id X
  have hl : lv_has ls 3 [(0, .ref a), (1, .int p1), (2, .int p2)] := hl
  unfold f_X9_seen at hf
  refine lv_iload_n (pc := 0) hx hb dX9_seen_0 rfl (lv_at hl 1 rfl) ?_
  refine lv_if_lt (pc := 1) (tgt := 18) hx hb dX9_seen_1 (by decide) (fun c1 => ?_) (fun c1 => ?_)
  · have hf := ipos c1 hf
    refine lv_bipush (pc := 18) (v := (-2)) hx hb dX9_seen_18 (by decide) ?_
    cases hf
    exact hret _ _ 20 _ hw ⟨_, rfl, rfl⟩ dX9_seen_20
  · have hf := ineg c1 hf
    refine lv_iload_n (pc := 4) hx hb dX9_seen_4 rfl (lv_at hl 1 rfl) ?_
    refine lv_aload_n (pc := 5) hx hb dX9_seen_5 rfl (lv_at hl 0 rfl) ?_
    refine x_get (pc := 6) X hw in_X9_seen_X9 0 rfl rfl 2 (by decide) (List.mem_of_getElem? (i := 1) rfl) rfl dX9_seen_6 ?_
    refine x_get (pc := 9) X hw in_X9_seen_X7 1 rfl rfl 0 (by decide) (List.mem_of_getElem? (i := 2) rfl) rfl dX9_seen_9 ?_
    refine x_get (pc := 12) X hw in_X9_seen_X2 6 rfl rfl 4 (by decide) (List.mem_of_getElem? (i := 3) rfl) rfl dX9_seen_12 ?_
    refine lv_icmp_le (pc := 15) (tgt := 21) hx hb dX9_seen_15 (by decide) (fun c2 => ?_) (fun c2 => ?_)
    · have hf := ipos c2 hf
      refine lv_iload_n (pc := 21) hx hb dX9_seen_21 rfl (lv_at hl 2 rfl) ?_
      obtain ⟨v3, hc, hf⟩ := b1_ob hf
      refine x_nil (pc := 22) X hw (va_runS (As := [.int p2]) (rest := []) ⟨hx, hb, hml, hown, hts⟩ (c_X9_isPart l D cs p2 v3 hc _) (va_cwS 1 hts gX9_seen_X9_isPart rfl rfl rfl (by decide +kernel) ⟨Nat.le_of_ble_eq_true rfl, Nat.le_of_ble_eq_true rfl⟩) ⟨CP_blind, x_preN X [.int p2]⟩ rfl rfl hl.1 rfl (lv_room (Nat.le_of_ble_eq_true rfl)) dX9_seen_22 ⟨Nat.zero_le _, Nat.zero_le _⟩) (fun H locs hw => ?_)
      obtain ⟨v4, S5, P6, hj, hf⟩ := b3_ob hf
      have J55_3 : ∀ (H : Heap) (locs : List Loc) (ls : Array Slot), WD D A s (wX9 cs a q ++ wX7 cs (q 2) qS S5 ++ wX2 cs (qS 0) qP P6) H locs → lv_has ls 3 [] → W p l e rmX9_seen s m args below meth c H locs 0 0 Q (F0 m 55 ls [.int v4]) := by
        intro H locs ls hw hl
        cases hf
        exact hret _ _ 55 _ hw ⟨_, rfl, rfl⟩ dX9_seen_55
      clear hf; have hf := hj; clear hj
      refine lv_if_eq (pc := 25) (tgt := 53) hx hb dX9_seen_25 (by decide) (fun c7 => ?_) (fun c7 => ?_)
      · have hf := ipos c7 hf
        refine lv_bipush (pc := 53) (v := (-3)) hx hb dX9_seen_53 (by decide) ?_
        cases hf
        exact J55_3 _ _ _ hw (lv_sub hl [] rfl)
      · have hf := ineg c7 hf
        refine lv_aload_n (pc := 28) hx hb dX9_seen_28 rfl (lv_at hl 0 rfl) ?_
        obtain ⟨S8, P9, hc, hf⟩ := b2_ob hf
        refine x_all (pc := 29) X hw (va_runV (As := []) (rest := []) ⟨hx, hb, hml, hown, hts⟩ (c_X9_fresh l D cs a q qS qP S P S8 P9 hc _) (cwV 0 hts gX9_seen_X9_fresh rfl rfl rfl (by decide +kernel) ⟨Nat.le_of_ble_eq_true rfl, Nat.le_of_ble_eq_true rfl⟩) ⟨CP_blind, va_recv hK hw.1 (ci := 9) (q0 := 0) rfl rfl, x_preA X hw [.ref a]⟩ rfl rfl hl.1 rfl (lv_room (Nat.le_of_ble_eq_true rfl)) dX9_seen_29 ⟨Nat.zero_le _, Nat.zero_le _⟩) (fun H locs hw => ?_)
        refine lv_iload_n (pc := 32) hx hb dX9_seen_32 rfl (lv_at hl 1 rfl) ?_
        obtain ⟨v10, hc, hf⟩ := b1_ob hf
        refine x_cut (pc := 33) (wr := ([0].filterMap (fun i => (wX9 cs a q ++ wX7 cs (q 2) qS S8 ++ wX2 cs (qS 0) qP P9)[i]?))) (ws2 := wX9 cs a q ++ wX7 cs (q 2) qS S8 ++ wX2 cs (qS 0) qP P9) X hw [1, 2, 3, 4, 5, 6, 7, 8, 9, 10, 11, 12, 13] [0] [0, 1, 2, 3, 4, 5, 6, 7, 8, 9, 10, 11, 12, 13] rfl rfl (by decide) (by decide) rfl (by decide) (va_runV (As := [.int p1]) (rest := []) ⟨hx, hb, hml, hown, hts⟩ (c_X7_rightBeforeEnemy l D cs (q 2) qS qP S8 P9 p1 v10 hc _) (cwV 1 hts gX9_seen_X7_rightBeforeEnemy rfl rfl rfl (by decide +kernel) ⟨Nat.le_of_ble_eq_true rfl, Nat.le_of_ble_eq_true rfl⟩) ⟨CP_blind, va_recv hK hw.1 (ci := 7) (q0 := 1) rfl rfl, x_preC X hw [1, 2, 3, 4, 5, 6, 7, 8, 9, 10, 11, 12, 13] rfl (by decide) [.ref (q 2), .int p1]⟩ rfl rfl hl.1 rfl (lv_room (Nat.le_of_ble_eq_true rfl)) dX9_seen_33 ⟨Nat.zero_le _, Nat.zero_le _⟩) (fun H locs hw => ?_)
        refine lv_aload_n (pc := 36) hx hb dX9_seen_36 rfl (lv_at hl 0 rfl) ?_
        refine x_get (pc := 37) X hw in_X9_seen_X9 0 rfl rfl 2 (by decide) (List.mem_of_getElem? (i := 1) rfl) rfl dX9_seen_37 ?_
        refine x_get (pc := 40) X hw in_X9_seen_X7 1 rfl rfl 0 (by decide) (List.mem_of_getElem? (i := 2) rfl) rfl dX9_seen_40 ?_
        refine x_get (pc := 43) X hw in_X9_seen_X2 6 rfl rfl 5 (by decide) (List.mem_of_getElem? (i := 4) rfl) rfl dX9_seen_43 ?_
        refine lv_iload_n (pc := 46) hx hb dX9_seen_46 rfl (lv_at hl 2 rfl) ?_
        obtain ⟨v11, hc, hf⟩ := b1_ob hf
        refine x_nil (pc := 47) X hw (va_runS (As := [.int v10, .int (P9.1 5), .int p2]) (rest := []) ⟨hx, hb, hml, hown, hts⟩ (c_X9_lowest l D cs v10 (P9.1 5) p2 v11 hc _) (va_cwS 3 hts gX9_seen_X9_lowest rfl rfl rfl (by decide +kernel) ⟨Nat.le_of_ble_eq_true rfl, Nat.le_of_ble_eq_true rfl⟩) ⟨CP_blind, x_preN X [.int v10, .int (P9.1 5), .int p2]⟩ rfl rfl hl.1 rfl (lv_room (Nat.le_of_ble_eq_true rfl)) dX9_seen_47 ⟨Nat.zero_le _, Nat.zero_le _⟩) (fun H locs hw => ?_)
        refine lv_goto (pc := 50) (tgt := 55) hx hb dX9_seen_50 (by decide) ?_
        cases hf
        exact J55_3 _ _ _ hw (lv_sub hl [] rfl)
    · have hf := ineg c2 hf
      refine lv_bipush (pc := 18) (v := (-2)) hx hb dX9_seen_18 (by decide) ?_
      cases hf
      exact hret _ _ 20 _ hw ⟨_, rfl, rfl⟩ dX9_seen_20

abbrev rmX9_isChoice : Room := { frames := 0, cells := 0, slots := 0, locals := 0 }
def f_X9_isChoice (p1 : Int32) : Option (Int32) :=
  b1 (
    if p1 = 0 then
      some (1 : Int32)
    else
    if p1 = 1 then
      some (1 : Int32)
    else
    some (0 : Int32)) fun v1 =>
  b1 (ckB v1) fun v4 =>
  some v4
set_option maxHeartbeats 4000000 in
set_option maxRecDepth 100000 in
theorem c_X9_isChoice (l : Launch) (D : va_G) (cs : CS) (p1 : Int32) (r : Int32) (hf : f_X9_isChoice p1 = some r) : CT l D (TY cs) yX9_isChoice wsX9_isChoice rmX9_isChoice [.int p1] ([]) (some (.int r)) ([]) := by
  refine CT.ofW (own := RX9) (cc := cX9_isChoice) (maxL := 1) (ret := some .boolean) (by decide) rfl rfl (Nat.le_of_ble_eq_true rfl) ?_
  intro p e s m args below meth c A Q X hret ls hl hw
  obtain ⟨hx, hb, hml, hown, hts, hK, hA, hr, hlk⟩ := id X
  have hl : lv_has ls 1 [(0, .int p1)] := hl
  unfold f_X9_isChoice at hf
  refine lv_iload_n (pc := 0) hx hb dX9_isChoice_0 rfl (lv_at hl 0 rfl) ?_
  obtain ⟨v1, hj, hf⟩ := b1_ob hf
  have J14_0 : ∀ (H : Heap) (locs : List Loc) (ls : Array Slot), WD D A s ([]) H locs → lv_has ls 1 [] → W p l e rmX9_isChoice s m args below meth c H locs 0 0 Q (F0 m 14 ls [.int v1]) := by
    intro H locs ls hw hl
    obtain ⟨v4, ev4, hf⟩ := b1_ob hf
    refine x_topi (ckB_ob ev4).1.symm ?_
    cases hf
    exact hret _ _ 14 _ hw ⟨_, rfl, ckB_nar (ckB_ob ev4).2⟩ dX9_isChoice_14
  clear hf; have hf := hj; clear hj
  refine lv_if_eq (pc := 1) (tgt := 9) hx hb dX9_isChoice_1 (by decide) (fun c2 => ?_) (fun c2 => ?_)
  · have hf := ipos c2 hf
    refine lv_iconst (pc := 9) (v := 1) hx hb dX9_isChoice_9 (by decide) ?_
    refine lv_goto (pc := 10) (tgt := 14) hx hb dX9_isChoice_10 (by decide) ?_
    cases hf
    exact J14_0 _ _ _ hw (lv_sub hl [] rfl)
  · have hf := ineg c2 hf
    refine lv_iload_n (pc := 4) hx hb dX9_isChoice_4 rfl (lv_at hl 0 rfl) ?_
    refine lv_iconst (pc := 5) (v := 1) hx hb dX9_isChoice_5 (by decide) ?_
    refine lv_icmp_ne (pc := 6) (tgt := 13) hx hb dX9_isChoice_6 (by decide) (fun c3 => ?_) (fun c3 => ?_)
    · have hf := ineg c3 hf
      refine lv_iconst (pc := 13) (v := 0) hx hb dX9_isChoice_13 (by decide) ?_
      cases hf
      exact J14_0 _ _ _ hw (lv_sub hl [] rfl)
    · have hf := ipos c3 hf
      refine lv_iconst (pc := 9) (v := 1) hx hb dX9_isChoice_9 (by decide) ?_
      refine lv_goto (pc := 10) (tgt := 14) hx hb dX9_isChoice_10 (by decide) ?_
      cases hf
      exact J14_0 _ _ _ hw (lv_sub hl [] rfl)

theorem in_X9_kept_X9 : ∀ w ∈ wsX90, w ∈ wsX9_kept := fun _ h => List.mem_cons_of_mem _ (List.mem_append_left _ (List.mem_append_left _ (List.mem_append_right _ h)))
theorem in_X9_kept_X7 : ∀ w ∈ wsX70, w ∈ wsX9_kept := fun _ h => List.mem_cons_of_mem _ (List.mem_append_left _ (List.mem_append_right _ h))
theorem in_X9_kept_X2 : ∀ w ∈ wsX20, w ∈ wsX9_kept := fun _ h => List.mem_cons_of_mem _ (List.mem_append_right _ h)
abbrev rmX9_kept : Room := { frames := 6, cells := 0, slots := 0, locals := 142 }
def f_X9_kept (S : PS) (P : PS) (p1 : Int32) : Option (Int32 × PS × PS) :=
  b1 (f_X9_isChoice p1) fun v1 =>
  if v1 = 0 then
    some ((-3), S, P)
  else
  b2 (f_X9_fresh S P) fun S3 P4 =>
  b1 (f_X7_keptRow S3 P4) fun v5 =>
  b1 (
    if p1 = 0 then
      b1 (f_X7_rightInputsWithin S3 v5 1) fun v8 =>
      some v8
    else
    some v5) fun v6 =>
  some (v6, S3, P4)
set_option maxHeartbeats 4000000 in
set_option maxRecDepth 100000 in
theorem c_X9_kept (l : Launch) (D : va_G) (cs : CS) (a : Nat) (q : Nat → Nat) (qS : Nat → Nat) (qP : Nat → Nat) (S : PS) (P : PS) (p1 : Int32) (r : Int32) (S' : PS) (P' : PS) (hf : f_X9_kept S P p1 = some (r, S', P')) : CT l D (TY cs) yX9_kept wsX9_kept rmX9_kept [.ref a, .int p1] (wX9 cs a q ++ wX7 cs (q 2) qS S ++ wX2 cs (qS 0) qP P) (some (.int r)) (wX9 cs a q ++ wX7 cs (q 2) qS S' ++ wX2 cs (qS 0) qP P') := by
  refine CT.ofW (own := RX9) (cc := cX9_kept) (maxL := 3) (ret := some .int) (by decide) rfl rfl (Nat.le_of_ble_eq_true rfl) ?_
  intro p e s m args below meth c A Q X hret ls hl hw
  obtain ⟨hx, hb, hml, hown, hts, hK, hA, hr, hlk⟩ := id X
  have hl : lv_has ls 3 [(0, .ref a), (1, .int p1)] := hl
  unfold f_X9_kept at hf
  refine lv_iload_n (pc := 0) hx hb dX9_kept_0 rfl (lv_at hl 1 rfl) ?_
  obtain ⟨v1, hc, hf⟩ := b1_ob hf
  refine x_nil (pc := 1) X hw (va_runS (As := [.int p1]) (rest := []) ⟨hx, hb, hml, hown, hts⟩ (c_X9_isChoice l D cs p1 v1 hc _) (va_cwS 1 hts gX9_kept_X9_isChoice rfl rfl rfl (by decide +kernel) ⟨Nat.le_of_ble_eq_true rfl, Nat.le_of_ble_eq_true rfl⟩) ⟨CP_blind, x_preN X [.int p1]⟩ rfl rfl hl.1 rfl (lv_room (Nat.le_of_ble_eq_true rfl)) dX9_kept_1 ⟨Nat.zero_le _, Nat.zero_le _⟩) (fun H locs hw => ?_)
  refine lv_if_ne (pc := 4) (tgt := 10) hx hb dX9_kept_4 (by decide) (fun c2 => ?_) (fun c2 => ?_)
  · have hf := ineg c2 hf
    refine lv_aload_n (pc := 10) hx hb dX9_kept_10 rfl (lv_at hl 0 rfl) ?_
    obtain ⟨S3, P4, hc, hf⟩ := b2_ob hf
    refine x_all (pc := 11) X hw (va_runV (As := []) (rest := []) ⟨hx, hb, hml, hown, hts⟩ (c_X9_fresh l D cs a q qS qP S P S3 P4 hc _) (cwV 0 hts gX9_kept_X9_fresh rfl rfl rfl (by decide +kernel) ⟨Nat.le_of_ble_eq_true rfl, Nat.le_of_ble_eq_true rfl⟩) ⟨CP_blind, va_recv hK hw.1 (ci := 9) (q0 := 0) rfl rfl, x_preA X hw [.ref a]⟩ rfl rfl hl.1 rfl (lv_room (Nat.le_of_ble_eq_true rfl)) dX9_kept_11 ⟨Nat.zero_le _, Nat.zero_le _⟩) (fun H locs hw => ?_)
    obtain ⟨v5, hc, hf⟩ := b1_ob hf
    refine x_cut (pc := 14) (wr := ([0].filterMap (fun i => (wX9 cs a q ++ wX7 cs (q 2) qS S3 ++ wX2 cs (qS 0) qP P4)[i]?))) (ws2 := wX9 cs a q ++ wX7 cs (q 2) qS S3 ++ wX2 cs (qS 0) qP P4) X hw [1, 2, 3, 4, 5, 6, 7, 8, 9, 10, 11, 12, 13] [0] [0, 1, 2, 3, 4, 5, 6, 7, 8, 9, 10, 11, 12, 13] rfl rfl (by decide) (by decide) rfl (by decide) (va_runV (As := []) (rest := []) ⟨hx, hb, hml, hown, hts⟩ (c_X7_keptRow l D cs (q 2) qS qP S3 P4 v5 hc _) (cwV 0 hts gX9_kept_X7_keptRow rfl rfl rfl (by decide +kernel) ⟨Nat.le_of_ble_eq_true rfl, Nat.le_of_ble_eq_true rfl⟩) ⟨CP_blind, va_recv hK hw.1 (ci := 7) (q0 := 1) rfl rfl, x_preC X hw [1, 2, 3, 4, 5, 6, 7, 8, 9, 10, 11, 12, 13] rfl (by decide) [.ref (q 2)]⟩ rfl rfl hl.1 rfl (lv_room (Nat.le_of_ble_eq_true rfl)) dX9_kept_14 ⟨Nat.zero_le _, Nat.zero_le _⟩) (fun H locs hw => ?_)
    refine lv_istore_n (lv' := [(2, .int v5), (0, .ref a), (1, .int p1)]) (pc := 17) hx hb dX9_kept_17 rfl hl (by decide) rfl (fun ls hl => ?_)
    refine lv_iload_n (pc := 18) hx hb dX9_kept_18 rfl (lv_at hl 2 rfl) ?_
    obtain ⟨v6, hj, hf⟩ := b1_ob hf
    have J35_5 : ∀ (H : Heap) (locs : List Loc) (ls : Array Slot), WD D A s (wX9 cs a q ++ wX7 cs (q 2) qS S3 ++ wX2 cs (qS 0) qP P4) H locs → lv_has ls 3 [] → W p l e rmX9_kept s m args below meth c H locs 0 0 Q (F0 m 35 ls [.int v6]) := by
      intro H locs ls hw hl
      cases hf
      exact hret _ _ 35 _ hw ⟨_, rfl, rfl⟩ dX9_kept_35
    clear hf; have hf := hj; clear hj
    refine lv_if_ne (pc := 19) (tgt := 34) hx hb dX9_kept_19 (by decide) (fun c7 => ?_) (fun c7 => ?_)
    · have hf := ineg c7 hf
      refine lv_iload_n (pc := 34) hx hb dX9_kept_34 rfl (lv_at hl 0 rfl) ?_
      cases hf
      exact J35_5 _ _ _ hw (lv_sub hl [] rfl)
    · have hf := ipos c7 hf
      refine lv_aload_n (pc := 22) hx hb dX9_kept_22 rfl (lv_at hl 1 rfl) ?_
      refine x_get (pc := 23) X hw in_X9_kept_X9 0 rfl rfl 2 (by decide) (List.mem_of_getElem? (i := 1) rfl) rfl dX9_kept_23 ?_
      refine lv_iload_n (pc := 26) hx hb dX9_kept_26 rfl (lv_at hl 0 rfl) ?_
      refine lv_iconst (pc := 27) (v := 1) hx hb dX9_kept_27 (by decide) ?_
      obtain ⟨v8, hc, hf⟩ := b1_ob hf
      refine x_cut (pc := 28) (wr := ([0, 6, 7, 8, 9, 10, 11, 12, 13].filterMap (fun i => (wX9 cs a q ++ wX7 cs (q 2) qS S3 ++ wX2 cs (qS 0) qP P4)[i]?))) (ws2 := wX9 cs a q ++ wX7 cs (q 2) qS S3 ++ wX2 cs (qS 0) qP P4) X hw [1, 2, 3, 4, 5] [0, 6, 7, 8, 9, 10, 11, 12, 13] [0, 9, 10, 11, 12, 13, 1, 2, 3, 4, 5, 6, 7, 8] rfl rfl (by decide) (by decide) rfl (by decide) (va_runV (As := [.int v5, .int 1]) (rest := []) ⟨hx, hb, hml, hown, hts⟩ (c_X7_rightInputsWithin l D cs (q 2) qS S3 v5 1 v8 hc _) (cwV 2 hts gX9_kept_X7_rightInputsWithin rfl rfl rfl (by decide +kernel) ⟨Nat.le_of_ble_eq_true rfl, Nat.le_of_ble_eq_true rfl⟩) ⟨CP_blind, va_recv hK hw.1 (ci := 7) (q0 := 1) rfl rfl, x_preC X hw [1, 2, 3, 4, 5] rfl (by decide) [.ref (q 2), .int v5, .int 1]⟩ rfl rfl hl.1 rfl (lv_room (Nat.le_of_ble_eq_true rfl)) dX9_kept_28 ⟨Nat.zero_le _, Nat.zero_le _⟩) (fun H locs hw => ?_)
      refine lv_goto (pc := 31) (tgt := 35) hx hb dX9_kept_31 (by decide) ?_
      cases hf
      exact J35_5 _ _ _ hw (lv_sub hl [] rfl)
  · have hf := ipos c2 hf
    refine lv_bipush (pc := 7) (v := (-3)) hx hb dX9_kept_7 (by decide) ?_
    cases hf
    exact hret _ _ 9 _ hw ⟨_, rfl, rfl⟩ dX9_kept_9

theorem in_X9_good_X9 : ∀ w ∈ wsX90, w ∈ wsX9_good := fun _ h => List.mem_cons_of_mem _ (List.mem_append_left _ (List.mem_append_left _ (List.mem_append_right _ h)))
theorem in_X9_good_X7 : ∀ w ∈ wsX70, w ∈ wsX9_good := fun _ h => List.mem_cons_of_mem _ (List.mem_append_left _ (List.mem_append_right _ h))
theorem in_X9_good_X2 : ∀ w ∈ wsX20, w ∈ wsX9_good := fun _ h => List.mem_cons_of_mem _ (List.mem_append_right _ h)
abbrev rmX9_good : Room := { frames := 6, cells := 0, slots := 0, locals := 142 }
def f_X9_good (S : PS) (P : PS) (p1 : Int32) : Option (Int32 × PS × PS) :=
  b1 (f_X9_isChoice p1) fun v1 =>
  if v1 = 0 then
    some ((-3), S, P)
  else
  b3 (
    if p1 = 0 then
      b2 (f_X9_fresh S P) fun S10 P11 =>
      b1 (f_X7_goodCount S10 P11) fun v12 =>
      some (v12, S10, P11)
    else
    b2 (f_X9_fresh S P) fun S7 P8 =>
    b1 (f_X7_leastGood S7 P8) fun v9 =>
    some (v9, S7, P8)) fun v3 S4 P5 =>
  some (v3, S4, P5)
set_option maxHeartbeats 4000000 in
set_option maxRecDepth 100000 in
theorem c_X9_good (l : Launch) (D : va_G) (cs : CS) (a : Nat) (q : Nat → Nat) (qS : Nat → Nat) (qP : Nat → Nat) (S : PS) (P : PS) (p1 : Int32) (r : Int32) (S' : PS) (P' : PS) (hf : f_X9_good S P p1 = some (r, S', P')) : CT l D (TY cs) yX9_good wsX9_good rmX9_good [.ref a, .int p1] (wX9 cs a q ++ wX7 cs (q 2) qS S ++ wX2 cs (qS 0) qP P) (some (.int r)) (wX9 cs a q ++ wX7 cs (q 2) qS S' ++ wX2 cs (qS 0) qP P') := by
  refine CT.ofW (own := RX9) (cc := cX9_good) (maxL := 2) (ret := some .int) (by decide) rfl rfl (Nat.le_of_ble_eq_true rfl) ?_
  intro p e s m args below meth c A Q X hret ls hl hw
  obtain ⟨hx, hb, hml, hown, hts, hK, hA, hr, hlk⟩ := id X
  have hl : lv_has ls 2 [(0, .ref a), (1, .int p1)] := hl
  unfold f_X9_good at hf
  refine lv_iload_n (pc := 0) hx hb dX9_good_0 rfl (lv_at hl 1 rfl) ?_
  obtain ⟨v1, hc, hf⟩ := b1_ob hf
  refine x_nil (pc := 1) X hw (va_runS (As := [.int p1]) (rest := []) ⟨hx, hb, hml, hown, hts⟩ (c_X9_isChoice l D cs p1 v1 hc _) (va_cwS 1 hts gX9_good_X9_isChoice rfl rfl rfl (by decide +kernel) ⟨Nat.le_of_ble_eq_true rfl, Nat.le_of_ble_eq_true rfl⟩) ⟨CP_blind, x_preN X [.int p1]⟩ rfl rfl hl.1 rfl (lv_room (Nat.le_of_ble_eq_true rfl)) dX9_good_1 ⟨Nat.zero_le _, Nat.zero_le _⟩) (fun H locs hw => ?_)
  refine lv_if_ne (pc := 4) (tgt := 10) hx hb dX9_good_4 (by decide) (fun c2 => ?_) (fun c2 => ?_)
  · have hf := ineg c2 hf
    refine lv_iload_n (pc := 10) hx hb dX9_good_10 rfl (lv_at hl 1 rfl) ?_
    obtain ⟨v3, S4, P5, hj, hf⟩ := b3_ob hf
    have J31_2 : ∀ (H : Heap) (locs : List Loc) (ls : Array Slot), WD D A s (wX9 cs a q ++ wX7 cs (q 2) qS S4 ++ wX2 cs (qS 0) qP P5) H locs → lv_has ls 2 [] → W p l e rmX9_good s m args below meth c H locs 0 0 Q (F0 m 31 ls [.int v3]) := by
      intro H locs ls hw hl
      cases hf
      exact hret _ _ 31 _ hw ⟨_, rfl, rfl⟩ dX9_good_31
    clear hf; have hf := hj; clear hj
    refine lv_if_ne (pc := 11) (tgt := 24) hx hb dX9_good_11 (by decide) (fun c6 => ?_) (fun c6 => ?_)
    · have hf := ineg c6 hf
      refine lv_aload_n (pc := 24) hx hb dX9_good_24 rfl (lv_at hl 0 rfl) ?_
      obtain ⟨S7, P8, hc, hf⟩ := b2_ob hf
      refine x_all (pc := 25) X hw (va_runV (As := []) (rest := []) ⟨hx, hb, hml, hown, hts⟩ (c_X9_fresh l D cs a q qS qP S P S7 P8 hc _) (cwV 0 hts gX9_good_X9_fresh rfl rfl rfl (by decide +kernel) ⟨Nat.le_of_ble_eq_true rfl, Nat.le_of_ble_eq_true rfl⟩) ⟨CP_blind, va_recv hK hw.1 (ci := 9) (q0 := 0) rfl rfl, x_preA X hw [.ref a]⟩ rfl rfl hl.1 rfl (lv_room (Nat.le_of_ble_eq_true rfl)) dX9_good_25 ⟨Nat.zero_le _, Nat.zero_le _⟩) (fun H locs hw => ?_)
      obtain ⟨v9, hc, hf⟩ := b1_ob hf
      refine x_cut (pc := 28) (wr := ([0].filterMap (fun i => (wX9 cs a q ++ wX7 cs (q 2) qS S7 ++ wX2 cs (qS 0) qP P8)[i]?))) (ws2 := wX9 cs a q ++ wX7 cs (q 2) qS S7 ++ wX2 cs (qS 0) qP P8) X hw [1, 2, 3, 4, 5, 6, 7, 8, 9, 10, 11, 12, 13] [0] [0, 1, 2, 3, 4, 5, 6, 7, 8, 9, 10, 11, 12, 13] rfl rfl (by decide) (by decide) rfl (by decide) (va_runV (As := []) (rest := []) ⟨hx, hb, hml, hown, hts⟩ (c_X7_leastGood l D cs (q 2) qS qP S7 P8 v9 hc _) (cwV 0 hts gX9_good_X7_leastGood rfl rfl rfl (by decide +kernel) ⟨Nat.le_of_ble_eq_true rfl, Nat.le_of_ble_eq_true rfl⟩) ⟨CP_blind, va_recv hK hw.1 (ci := 7) (q0 := 1) rfl rfl, x_preC X hw [1, 2, 3, 4, 5, 6, 7, 8, 9, 10, 11, 12, 13] rfl (by decide) [.ref (q 2)]⟩ rfl rfl hl.1 rfl (lv_room (Nat.le_of_ble_eq_true rfl)) dX9_good_28 ⟨Nat.zero_le _, Nat.zero_le _⟩) (fun H locs hw => ?_)
      cases hf
      exact J31_2 _ _ _ hw (lv_sub hl [] rfl)
    · have hf := ipos c6 hf
      refine lv_aload_n (pc := 14) hx hb dX9_good_14 rfl (lv_at hl 0 rfl) ?_
      obtain ⟨S10, P11, hc, hf⟩ := b2_ob hf
      refine x_all (pc := 15) X hw (va_runV (As := []) (rest := []) ⟨hx, hb, hml, hown, hts⟩ (c_X9_fresh l D cs a q qS qP S P S10 P11 hc _) (cwV 0 hts gX9_good_X9_fresh rfl rfl rfl (by decide +kernel) ⟨Nat.le_of_ble_eq_true rfl, Nat.le_of_ble_eq_true rfl⟩) ⟨CP_blind, va_recv hK hw.1 (ci := 9) (q0 := 0) rfl rfl, x_preA X hw [.ref a]⟩ rfl rfl hl.1 rfl (lv_room (Nat.le_of_ble_eq_true rfl)) dX9_good_15 ⟨Nat.zero_le _, Nat.zero_le _⟩) (fun H locs hw => ?_)
      obtain ⟨v12, hc, hf⟩ := b1_ob hf
      refine x_cut (pc := 18) (wr := ([0].filterMap (fun i => (wX9 cs a q ++ wX7 cs (q 2) qS S10 ++ wX2 cs (qS 0) qP P11)[i]?))) (ws2 := wX9 cs a q ++ wX7 cs (q 2) qS S10 ++ wX2 cs (qS 0) qP P11) X hw [1, 2, 3, 4, 5, 6, 7, 8, 9, 10, 11, 12, 13] [0] [0, 1, 2, 3, 4, 5, 6, 7, 8, 9, 10, 11, 12, 13] rfl rfl (by decide) (by decide) rfl (by decide) (va_runV (As := []) (rest := []) ⟨hx, hb, hml, hown, hts⟩ (c_X7_goodCount l D cs (q 2) qS qP S10 P11 v12 hc _) (cwV 0 hts gX9_good_X7_goodCount rfl rfl rfl (by decide +kernel) ⟨Nat.le_of_ble_eq_true rfl, Nat.le_of_ble_eq_true rfl⟩) ⟨CP_blind, va_recv hK hw.1 (ci := 7) (q0 := 1) rfl rfl, x_preC X hw [1, 2, 3, 4, 5, 6, 7, 8, 9, 10, 11, 12, 13] rfl (by decide) [.ref (q 2)]⟩ rfl rfl hl.1 rfl (lv_room (Nat.le_of_ble_eq_true rfl)) dX9_good_18 ⟨Nat.zero_le _, Nat.zero_le _⟩) (fun H locs hw => ?_)
      refine lv_goto (pc := 21) (tgt := 31) hx hb dX9_good_21 (by decide) ?_
      cases hf
      exact J31_2 _ _ _ hw (lv_sub hl [] rfl)
  · have hf := ipos c2 hf
    refine lv_bipush (pc := 7) (v := (-3)) hx hb dX9_good_7 (by decide) ?_
    cases hf
    exact hret _ _ 9 _ hw ⟨_, rfl, rfl⟩ dX9_good_9

theorem in_X9_together_X9 : ∀ w ∈ wsX90, w ∈ wsX9_together := fun _ h => List.mem_cons_of_mem _ (List.mem_append_left _ (List.mem_append_left _ (List.mem_append_right _ h)))
theorem in_X9_together_X7 : ∀ w ∈ wsX70, w ∈ wsX9_together := fun _ h => List.mem_cons_of_mem _ (List.mem_append_left _ (List.mem_append_right _ h))
theorem in_X9_together_X2 : ∀ w ∈ wsX20, w ∈ wsX9_together := fun _ h => List.mem_cons_of_mem _ (List.mem_append_right _ h)
abbrev rmX9_together : Room := { frames := 6, cells := 0, slots := 0, locals := 142 }
def f_X9_together (S : PS) (P : PS) (p1 : Int32) : Option (Int32 × PS × PS) :=
  if (-1) ≤ p1 then
    b2 (f_X9_fresh S P) fun S2 P3 =>
    b2 (f_X7_gatherRows S2 P3) fun v4 S5 =>
    if p1 = (-1) then
      some (v4, S5, P3)
    else
    b1 (
      if v4 ≤ p1 then
        some ((-1) : Int32)
      else
      b1 (rdI 32 (S5.2.1 6) p1) fun v9 =>
      some v9) fun v7 =>
    some (v7, S5, P3)
  else
  some ((-3), S, P)
set_option maxHeartbeats 4000000 in
set_option maxRecDepth 100000 in
theorem c_X9_together (l : Launch) (D : va_G) (cs : CS) (a : Nat) (q : Nat → Nat) (qS : Nat → Nat) (qP : Nat → Nat) (S : PS) (P : PS) (p1 : Int32) (r : Int32) (S' : PS) (P' : PS) (hf : f_X9_together S P p1 = some (r, S', P')) : CT l D (TY cs) yX9_together wsX9_together rmX9_together [.ref a, .int p1] (wX9 cs a q ++ wX7 cs (q 2) qS S ++ wX2 cs (qS 0) qP P) (some (.int r)) (wX9 cs a q ++ wX7 cs (q 2) qS S' ++ wX2 cs (qS 0) qP P') := by
  refine CT.ofW (own := RX9) (cc := cX9_together) (maxL := 3) (ret := some .int) (by decide) rfl rfl (Nat.le_of_ble_eq_true rfl) ?_
  intro p e s m args below meth c A Q X hret ls hl hw
  obtain ⟨hx, hb, hml, hown, hts, hK, hA, hr, hlk⟩ := id X
  have hl : lv_has ls 3 [(0, .ref a), (1, .int p1)] := hl
  unfold f_X9_together at hf
  refine lv_iload_n (pc := 0) hx hb dX9_together_0 rfl (lv_at hl 1 rfl) ?_
  refine lv_iconst (pc := 1) (v := (-1)) hx hb dX9_together_1 (by decide) ?_
  refine lv_icmp_ge (pc := 2) (tgt := 8) hx hb dX9_together_2 (by decide) (fun c1 => ?_) (fun c1 => ?_)
  · have hf := ipos c1 hf
    refine lv_aload_n (pc := 8) hx hb dX9_together_8 rfl (lv_at hl 0 rfl) ?_
    obtain ⟨S2, P3, hc, hf⟩ := b2_ob hf
    refine x_all (pc := 9) X hw (va_runV (As := []) (rest := []) ⟨hx, hb, hml, hown, hts⟩ (c_X9_fresh l D cs a q qS qP S P S2 P3 hc _) (cwV 0 hts gX9_together_X9_fresh rfl rfl rfl (by decide +kernel) ⟨Nat.le_of_ble_eq_true rfl, Nat.le_of_ble_eq_true rfl⟩) ⟨CP_blind, va_recv hK hw.1 (ci := 9) (q0 := 0) rfl rfl, x_preA X hw [.ref a]⟩ rfl rfl hl.1 rfl (lv_room (Nat.le_of_ble_eq_true rfl)) dX9_together_9 ⟨Nat.zero_le _, Nat.zero_le _⟩) (fun H locs hw => ?_)
    obtain ⟨v4, S5, hc, hf⟩ := b2_ob hf
    refine x_cut (pc := 12) (wr := ([0].filterMap (fun i => (wX9 cs a q ++ wX7 cs (q 2) qS S2 ++ wX2 cs (qS 0) qP P3)[i]?))) (ws2 := wX9 cs a q ++ wX7 cs (q 2) qS S5 ++ wX2 cs (qS 0) qP P3) X hw [1, 2, 3, 4, 5, 6, 7, 8, 9, 10, 11, 12, 13] [0] [0, 1, 2, 3, 4, 5, 6, 7, 8, 9, 10, 11, 12, 13] rfl rfl (by decide) (by decide) rfl (by decide) (va_runV (As := []) (rest := []) ⟨hx, hb, hml, hown, hts⟩ (c_X7_gatherRows l D cs (q 2) qS qP S2 P3 v4 S5 hc _) (cwV 0 hts gX9_together_X7_gatherRows rfl rfl rfl (by decide +kernel) ⟨Nat.le_of_ble_eq_true rfl, Nat.le_of_ble_eq_true rfl⟩) ⟨CP_blind, va_recv hK hw.1 (ci := 7) (q0 := 1) rfl rfl, x_preC X hw [1, 2, 3, 4, 5, 6, 7, 8, 9, 10, 11, 12, 13] rfl (by decide) [.ref (q 2)]⟩ rfl rfl hl.1 rfl (lv_room (Nat.le_of_ble_eq_true rfl)) dX9_together_12 ⟨Nat.zero_le _, Nat.zero_le _⟩) (fun H locs hw => ?_)
    refine lv_istore_n (lv' := [(2, .int v4), (0, .ref a), (1, .int p1)]) (pc := 15) hx hb dX9_together_15 rfl hl (by decide) rfl (fun ls hl => ?_)
    refine lv_iload_n (pc := 16) hx hb dX9_together_16 rfl (lv_at hl 2 rfl) ?_
    refine lv_iconst (pc := 17) (v := (-1)) hx hb dX9_together_17 (by decide) ?_
    refine lv_icmp_ne (pc := 18) (tgt := 23) hx hb dX9_together_18 (by decide) (fun c6 => ?_) (fun c6 => ?_)
    · have hf := ineg c6 hf
      refine lv_iload_n (pc := 23) hx hb dX9_together_23 rfl (lv_at hl 2 rfl) ?_
      refine lv_iload_n (pc := 24) hx hb dX9_together_24 rfl (lv_at hl 0 rfl) ?_
      obtain ⟨v7, hj, hf⟩ := b1_ob hf
      have J41_6 : ∀ (H : Heap) (locs : List Loc) (ls : Array Slot), WD D A s (wX9 cs a q ++ wX7 cs (q 2) qS S5 ++ wX2 cs (qS 0) qP P3) H locs → lv_has ls 3 [] → W p l e rmX9_together s m args below meth c H locs 0 0 Q (F0 m 41 ls [.int v7]) := by
        intro H locs ls hw hl
        cases hf
        exact hret _ _ 41 _ hw ⟨_, rfl, rfl⟩ dX9_together_41
      clear hf; have hf := hj; clear hj
      refine lv_icmp_ge (pc := 25) (tgt := 40) hx hb dX9_together_25 (by decide) (fun c8 => ?_) (fun c8 => ?_)
      · have hf := ipos c8 hf
        refine lv_iconst (pc := 40) (v := (-1)) hx hb dX9_together_40 (by decide) ?_
        cases hf
        exact J41_6 _ _ _ hw (lv_sub hl [] rfl)
      · have hf := ineg c8 hf
        refine lv_aload_n (pc := 28) hx hb dX9_together_28 rfl (lv_at hl 1 rfl) ?_
        refine x_get (pc := 29) X hw in_X9_together_X9 0 rfl rfl 2 (by decide) (List.mem_of_getElem? (i := 1) rfl) rfl dX9_together_29 ?_
        refine x_get (pc := 32) X hw in_X9_together_X7 1 rfl rfl 6 (by decide) (List.mem_of_getElem? (i := 2) rfl) rfl dX9_together_32 ?_
        refine lv_iload_n (pc := 35) hx hb dX9_together_35 rfl (lv_at hl 2 rfl) ?_
        obtain ⟨v9, ev9, hf⟩ := b1_ob hf
        refine x_iald (pc := 36) X hw 4 0 rfl rfl ev9 dX9_together_36 ?_
        refine lv_goto (pc := 37) (tgt := 41) hx hb dX9_together_37 (by decide) ?_
        cases hf
        exact J41_6 _ _ _ hw (lv_sub hl [] rfl)
    · have hf := ipos c6 hf
      refine lv_iload_n (pc := 21) hx hb dX9_together_21 rfl (lv_at hl 0 rfl) ?_
      cases hf
      exact hret _ _ 22 _ hw ⟨_, rfl, rfl⟩ dX9_together_22
  · have hf := ineg c1 hf
    refine lv_bipush (pc := 5) (v := (-3)) hx hb dX9_together_5 (by decide) ?_
    cases hf
    exact hret _ _ 7 _ hw ⟨_, rfl, rfl⟩ dX9_together_7

abbrev rmX9_isRatio : Room := { frames := 0, cells := 0, slots := 0, locals := 0 }
def f_X9_isRatio (p1 : Int32) (p2 : Int32) : Option (Int32) :=
  b1 (
    if p1 < 0 then
      some (0 : Int32)
    else
    if 100 < p1 then
      some (0 : Int32)
    else
    if p2 < 1 then
      some (0 : Int32)
    else
    if 100 < p2 then
      some (0 : Int32)
    else
    some (1 : Int32)) fun v1 =>
  b1 (ckB v1) fun v6 =>
  some v6
set_option maxHeartbeats 4000000 in
set_option maxRecDepth 100000 in
theorem c_X9_isRatio (l : Launch) (D : va_G) (cs : CS) (p1 : Int32) (p2 : Int32) (r : Int32) (hf : f_X9_isRatio p1 p2 = some r) : CT l D (TY cs) yX9_isRatio wsX9_isRatio rmX9_isRatio [.int p1, .int p2] ([]) (some (.int r)) ([]) := by
  refine CT.ofW (own := RX9) (cc := cX9_isRatio) (maxL := 2) (ret := some .boolean) (by decide) rfl rfl (Nat.le_of_ble_eq_true rfl) ?_
  intro p e s m args below meth c A Q X hret ls hl hw
  obtain ⟨hx, hb, hml, hown, hts, hK, hA, hr, hlk⟩ := id X
  have hl : lv_has ls 2 [(0, .int p1), (1, .int p2)] := hl
  unfold f_X9_isRatio at hf
  refine lv_iload_n (pc := 0) hx hb dX9_isRatio_0 rfl (lv_at hl 0 rfl) ?_
  obtain ⟨v1, hj, hf⟩ := b1_ob hf
  have J26_0 : ∀ (H : Heap) (locs : List Loc) (ls : Array Slot), WD D A s ([]) H locs → lv_has ls 2 [] → W p l e rmX9_isRatio s m args below meth c H locs 0 0 Q (F0 m 26 ls [.int v1]) := by
    intro H locs ls hw hl
    obtain ⟨v6, ev6, hf⟩ := b1_ob hf
    refine x_topi (ckB_ob ev6).1.symm ?_
    cases hf
    exact hret _ _ 26 _ hw ⟨_, rfl, ckB_nar (ckB_ob ev6).2⟩ dX9_isRatio_26
  clear hf; have hf := hj; clear hj
  refine lv_if_lt (pc := 1) (tgt := 25) hx hb dX9_isRatio_1 (by decide) (fun c2 => ?_) (fun c2 => ?_)
  · have hf := ipos c2 hf
    refine lv_iconst (pc := 25) (v := 0) hx hb dX9_isRatio_25 (by decide) ?_
    cases hf
    exact J26_0 _ _ _ hw (lv_sub hl [] rfl)
  · have hf := ineg c2 hf
    refine lv_iload_n (pc := 4) hx hb dX9_isRatio_4 rfl (lv_at hl 0 rfl) ?_
    refine lv_bipush (pc := 5) (v := 100) hx hb dX9_isRatio_5 (by decide) ?_
    refine lv_icmp_gt (pc := 7) (tgt := 25) hx hb dX9_isRatio_7 (by decide) (fun c3 => ?_) (fun c3 => ?_)
    · have hf := ipos c3 hf
      refine lv_iconst (pc := 25) (v := 0) hx hb dX9_isRatio_25 (by decide) ?_
      cases hf
      exact J26_0 _ _ _ hw (lv_sub hl [] rfl)
    · have hf := ineg c3 hf
      refine lv_iload_n (pc := 10) hx hb dX9_isRatio_10 rfl (lv_at hl 1 rfl) ?_
      refine lv_iconst (pc := 11) (v := 1) hx hb dX9_isRatio_11 (by decide) ?_
      refine lv_icmp_lt (pc := 12) (tgt := 25) hx hb dX9_isRatio_12 (by decide) (fun c4 => ?_) (fun c4 => ?_)
      · have hf := ipos c4 hf
        refine lv_iconst (pc := 25) (v := 0) hx hb dX9_isRatio_25 (by decide) ?_
        cases hf
        exact J26_0 _ _ _ hw (lv_sub hl [] rfl)
      · have hf := ineg c4 hf
        refine lv_iload_n (pc := 15) hx hb dX9_isRatio_15 rfl (lv_at hl 1 rfl) ?_
        refine lv_bipush (pc := 16) (v := 100) hx hb dX9_isRatio_16 (by decide) ?_
        refine lv_icmp_gt (pc := 18) (tgt := 25) hx hb dX9_isRatio_18 (by decide) (fun c5 => ?_) (fun c5 => ?_)
        · have hf := ipos c5 hf
          refine lv_iconst (pc := 25) (v := 0) hx hb dX9_isRatio_25 (by decide) ?_
          cases hf
          exact J26_0 _ _ _ hw (lv_sub hl [] rfl)
        · have hf := ineg c5 hf
          refine lv_iconst (pc := 21) (v := 1) hx hb dX9_isRatio_21 (by decide) ?_
          refine lv_goto (pc := 22) (tgt := 26) hx hb dX9_isRatio_22 (by decide) ?_
          cases hf
          exact J26_0 _ _ _ hw (lv_sub hl [] rfl)

theorem in_X9_again_X9 : ∀ w ∈ wsX90, w ∈ wsX9_again := fun _ h => List.mem_cons_of_mem _ (List.mem_append_left _ (List.mem_append_left _ (List.mem_append_right _ h)))
theorem in_X9_again_X7 : ∀ w ∈ wsX70, w ∈ wsX9_again := fun _ h => List.mem_cons_of_mem _ (List.mem_append_left _ (List.mem_append_right _ h))
theorem in_X9_again_X2 : ∀ w ∈ wsX20, w ∈ wsX9_again := fun _ h => List.mem_cons_of_mem _ (List.mem_append_right _ h)
abbrev rmX9_again : Room := { frames := 6, cells := 0, slots := 0, locals := 142 }
def f_X9_again (S : PS) (P : PS) (p1 : Int32) (p2 : Int32) : Option (Int32 × PS × PS) :=
  b1 (f_X9_isRatio p1 p2) fun v1 =>
  b3 (
    if v1 = 0 then
      some (((-3) : Int32), S, P)
    else
    b2 (f_X9_fresh S P) fun S6 P7 =>
    b2 (f_X7_runsForMajority S6 P7 p1 p2) fun v8 S9 =>
    some (v8, S9, P7)) fun v2 S3 P4 =>
  some (v2, S3, P4)
set_option maxHeartbeats 4000000 in
set_option maxRecDepth 100000 in
theorem c_X9_again (l : Launch) (D : va_G) (cs : CS) (a : Nat) (q : Nat → Nat) (qS : Nat → Nat) (qP : Nat → Nat) (S : PS) (P : PS) (p1 : Int32) (p2 : Int32) (r : Int32) (S' : PS) (P' : PS) (hf : f_X9_again S P p1 p2 = some (r, S', P')) : CT l D (TY cs) yX9_again wsX9_again rmX9_again [.ref a, .int p1, .int p2] (wX9 cs a q ++ wX7 cs (q 2) qS S ++ wX2 cs (qS 0) qP P) (some (.int r)) (wX9 cs a q ++ wX7 cs (q 2) qS S' ++ wX2 cs (qS 0) qP P') := by
  refine CT.ofW (own := RX9) (cc := cX9_again) (maxL := 3) (ret := some .int) (by decide) rfl rfl (Nat.le_of_ble_eq_true rfl) ?_
  intro p e s m args below meth c A Q X hret ls hl hw
  obtain ⟨hx, hb, hml, hown, hts, hK, hA, hr, hlk⟩ := id X
  have hl : lv_has ls 3 [(0, .ref a), (1, .int p1), (2, .int p2)] := hl
  unfold f_X9_again at hf
  refine lv_iload_n (pc := 0) hx hb dX9_again_0 rfl (lv_at hl 1 rfl) ?_
  refine lv_iload_n (pc := 1) hx hb dX9_again_1 rfl (lv_at hl 2 rfl) ?_
  obtain ⟨v1, hc, hf⟩ := b1_ob hf
  refine x_nil (pc := 2) X hw (va_runS (As := [.int p1, .int p2]) (rest := []) ⟨hx, hb, hml, hown, hts⟩ (c_X9_isRatio l D cs p1 p2 v1 hc _) (va_cwS 2 hts gX9_again_X9_isRatio rfl rfl rfl (by decide +kernel) ⟨Nat.le_of_ble_eq_true rfl, Nat.le_of_ble_eq_true rfl⟩) ⟨CP_blind, x_preN X [.int p1, .int p2]⟩ rfl rfl hl.1 rfl (lv_room (Nat.le_of_ble_eq_true rfl)) dX9_again_2 ⟨Nat.zero_le _, Nat.zero_le _⟩) (fun H locs hw => ?_)
  obtain ⟨v2, S3, P4, hj, hf⟩ := b3_ob hf
  have J22_1 : ∀ (H : Heap) (locs : List Loc) (ls : Array Slot), WD D A s (wX9 cs a q ++ wX7 cs (q 2) qS S3 ++ wX2 cs (qS 0) qP P4) H locs → lv_has ls 3 [] → W p l e rmX9_again s m args below meth c H locs 0 0 Q (F0 m 22 ls [.int v2]) := by
    intro H locs ls hw hl
    cases hf
    exact hret _ _ 22 _ hw ⟨_, rfl, rfl⟩ dX9_again_22
  clear hf; have hf := hj; clear hj
  refine lv_if_eq (pc := 5) (tgt := 20) hx hb dX9_again_5 (by decide) (fun c5 => ?_) (fun c5 => ?_)
  · have hf := ipos c5 hf
    refine lv_bipush (pc := 20) (v := (-3)) hx hb dX9_again_20 (by decide) ?_
    cases hf
    exact J22_1 _ _ _ hw (lv_sub hl [] rfl)
  · have hf := ineg c5 hf
    refine lv_aload_n (pc := 8) hx hb dX9_again_8 rfl (lv_at hl 0 rfl) ?_
    obtain ⟨S6, P7, hc, hf⟩ := b2_ob hf
    refine x_all (pc := 9) X hw (va_runV (As := []) (rest := []) ⟨hx, hb, hml, hown, hts⟩ (c_X9_fresh l D cs a q qS qP S P S6 P7 hc _) (cwV 0 hts gX9_again_X9_fresh rfl rfl rfl (by decide +kernel) ⟨Nat.le_of_ble_eq_true rfl, Nat.le_of_ble_eq_true rfl⟩) ⟨CP_blind, va_recv hK hw.1 (ci := 9) (q0 := 0) rfl rfl, x_preA X hw [.ref a]⟩ rfl rfl hl.1 rfl (lv_room (Nat.le_of_ble_eq_true rfl)) dX9_again_9 ⟨Nat.zero_le _, Nat.zero_le _⟩) (fun H locs hw => ?_)
    refine lv_iload_n (pc := 12) hx hb dX9_again_12 rfl (lv_at hl 1 rfl) ?_
    refine lv_iload_n (pc := 13) hx hb dX9_again_13 rfl (lv_at hl 2 rfl) ?_
    obtain ⟨v8, S9, hc, hf⟩ := b2_ob hf
    refine x_cut (pc := 14) (wr := ([0].filterMap (fun i => (wX9 cs a q ++ wX7 cs (q 2) qS S6 ++ wX2 cs (qS 0) qP P7)[i]?))) (ws2 := wX9 cs a q ++ wX7 cs (q 2) qS S9 ++ wX2 cs (qS 0) qP P7) X hw [1, 2, 3, 4, 5, 6, 7, 8, 9, 10, 11, 12, 13] [0] [0, 1, 2, 3, 4, 5, 6, 7, 8, 9, 10, 11, 12, 13] rfl rfl (by decide) (by decide) rfl (by decide) (va_runV (As := [.int p1, .int p2]) (rest := []) ⟨hx, hb, hml, hown, hts⟩ (c_X7_runsForMajority l D cs (q 2) qS qP S6 P7 p1 p2 v8 S9 hc _) (cwV 2 hts gX9_again_X7_runsForMajority rfl rfl rfl (by decide +kernel) ⟨Nat.le_of_ble_eq_true rfl, Nat.le_of_ble_eq_true rfl⟩) ⟨CP_blind, va_recv hK hw.1 (ci := 7) (q0 := 1) rfl rfl, x_preC X hw [1, 2, 3, 4, 5, 6, 7, 8, 9, 10, 11, 12, 13] rfl (by decide) [.ref (q 2), .int p1, .int p2]⟩ rfl rfl hl.1 rfl (lv_room (Nat.le_of_ble_eq_true rfl)) dX9_again_14 ⟨Nat.zero_le _, Nat.zero_le _⟩) (fun H locs hw => ?_)
    refine lv_goto (pc := 17) (tgt := 22) hx hb dX9_again_17 (by decide) ?_
    cases hf
    exact J22_1 _ _ _ hw (lv_sub hl [] rfl)

theorem in_X9_cap_X9 : ∀ w ∈ wsX90, w ∈ wsX9_cap := fun _ h => List.mem_cons_of_mem _ (List.mem_append_left _ (List.mem_append_left _ (List.mem_append_right _ h)))
theorem in_X9_cap_X7 : ∀ w ∈ wsX70, w ∈ wsX9_cap := fun _ h => List.mem_cons_of_mem _ (List.mem_append_left _ (List.mem_append_right _ h))
theorem in_X9_cap_X2 : ∀ w ∈ wsX20, w ∈ wsX9_cap := fun _ h => List.mem_cons_of_mem _ (List.mem_append_right _ h)
abbrev rmX9_cap : Room := { frames := 6, cells := 0, slots := 0, locals := 142 }
def f_X9_cap (S : PS) (P : PS) (p1 : Int32) (p2 : Int32) : Option (Int32 × PS × PS) :=
  b1 (f_X9_isRatio p1 p2) fun v1 =>
  b3 (
    if v1 = 0 then
      some (((-3) : Int32), S, P)
    else
    b2 (f_X9_fresh S P) fun S6 P7 =>
    b1 (f_X7_runsForOne S6 P7 p1 p2) fun v8 =>
    some (v8, S6, P7)) fun v2 S3 P4 =>
  some (v2, S3, P4)
set_option maxHeartbeats 4000000 in
set_option maxRecDepth 100000 in
theorem c_X9_cap (l : Launch) (D : va_G) (cs : CS) (a : Nat) (q : Nat → Nat) (qS : Nat → Nat) (qP : Nat → Nat) (S : PS) (P : PS) (p1 : Int32) (p2 : Int32) (r : Int32) (S' : PS) (P' : PS) (hf : f_X9_cap S P p1 p2 = some (r, S', P')) : CT l D (TY cs) yX9_cap wsX9_cap rmX9_cap [.ref a, .int p1, .int p2] (wX9 cs a q ++ wX7 cs (q 2) qS S ++ wX2 cs (qS 0) qP P) (some (.int r)) (wX9 cs a q ++ wX7 cs (q 2) qS S' ++ wX2 cs (qS 0) qP P') := by
  refine CT.ofW (own := RX9) (cc := cX9_cap) (maxL := 3) (ret := some .int) (by decide) rfl rfl (Nat.le_of_ble_eq_true rfl) ?_
  intro p e s m args below meth c A Q X hret ls hl hw
  obtain ⟨hx, hb, hml, hown, hts, hK, hA, hr, hlk⟩ := id X
  have hl : lv_has ls 3 [(0, .ref a), (1, .int p1), (2, .int p2)] := hl
  unfold f_X9_cap at hf
  refine lv_iload_n (pc := 0) hx hb dX9_cap_0 rfl (lv_at hl 1 rfl) ?_
  refine lv_iload_n (pc := 1) hx hb dX9_cap_1 rfl (lv_at hl 2 rfl) ?_
  obtain ⟨v1, hc, hf⟩ := b1_ob hf
  refine x_nil (pc := 2) X hw (va_runS (As := [.int p1, .int p2]) (rest := []) ⟨hx, hb, hml, hown, hts⟩ (c_X9_isRatio l D cs p1 p2 v1 hc _) (va_cwS 2 hts gX9_cap_X9_isRatio rfl rfl rfl (by decide +kernel) ⟨Nat.le_of_ble_eq_true rfl, Nat.le_of_ble_eq_true rfl⟩) ⟨CP_blind, x_preN X [.int p1, .int p2]⟩ rfl rfl hl.1 rfl (lv_room (Nat.le_of_ble_eq_true rfl)) dX9_cap_2 ⟨Nat.zero_le _, Nat.zero_le _⟩) (fun H locs hw => ?_)
  obtain ⟨v2, S3, P4, hj, hf⟩ := b3_ob hf
  have J22_1 : ∀ (H : Heap) (locs : List Loc) (ls : Array Slot), WD D A s (wX9 cs a q ++ wX7 cs (q 2) qS S3 ++ wX2 cs (qS 0) qP P4) H locs → lv_has ls 3 [] → W p l e rmX9_cap s m args below meth c H locs 0 0 Q (F0 m 22 ls [.int v2]) := by
    intro H locs ls hw hl
    cases hf
    exact hret _ _ 22 _ hw ⟨_, rfl, rfl⟩ dX9_cap_22
  clear hf; have hf := hj; clear hj
  refine lv_if_eq (pc := 5) (tgt := 20) hx hb dX9_cap_5 (by decide) (fun c5 => ?_) (fun c5 => ?_)
  · have hf := ipos c5 hf
    refine lv_bipush (pc := 20) (v := (-3)) hx hb dX9_cap_20 (by decide) ?_
    cases hf
    exact J22_1 _ _ _ hw (lv_sub hl [] rfl)
  · have hf := ineg c5 hf
    refine lv_aload_n (pc := 8) hx hb dX9_cap_8 rfl (lv_at hl 0 rfl) ?_
    obtain ⟨S6, P7, hc, hf⟩ := b2_ob hf
    refine x_all (pc := 9) X hw (va_runV (As := []) (rest := []) ⟨hx, hb, hml, hown, hts⟩ (c_X9_fresh l D cs a q qS qP S P S6 P7 hc _) (cwV 0 hts gX9_cap_X9_fresh rfl rfl rfl (by decide +kernel) ⟨Nat.le_of_ble_eq_true rfl, Nat.le_of_ble_eq_true rfl⟩) ⟨CP_blind, va_recv hK hw.1 (ci := 9) (q0 := 0) rfl rfl, x_preA X hw [.ref a]⟩ rfl rfl hl.1 rfl (lv_room (Nat.le_of_ble_eq_true rfl)) dX9_cap_9 ⟨Nat.zero_le _, Nat.zero_le _⟩) (fun H locs hw => ?_)
    refine lv_iload_n (pc := 12) hx hb dX9_cap_12 rfl (lv_at hl 1 rfl) ?_
    refine lv_iload_n (pc := 13) hx hb dX9_cap_13 rfl (lv_at hl 2 rfl) ?_
    obtain ⟨v8, hc, hf⟩ := b1_ob hf
    refine x_cut (pc := 14) (wr := ([0].filterMap (fun i => (wX9 cs a q ++ wX7 cs (q 2) qS S6 ++ wX2 cs (qS 0) qP P7)[i]?))) (ws2 := wX9 cs a q ++ wX7 cs (q 2) qS S6 ++ wX2 cs (qS 0) qP P7) X hw [1, 2, 3, 4, 5, 6, 7, 8, 9, 10, 11, 12, 13] [0] [0, 1, 2, 3, 4, 5, 6, 7, 8, 9, 10, 11, 12, 13] rfl rfl (by decide) (by decide) rfl (by decide) (va_runV (As := [.int p1, .int p2]) (rest := []) ⟨hx, hb, hml, hown, hts⟩ (c_X7_runsForOne l D cs (q 2) qS qP S6 P7 p1 p2 v8 hc _) (cwV 2 hts gX9_cap_X7_runsForOne rfl rfl rfl (by decide +kernel) ⟨Nat.le_of_ble_eq_true rfl, Nat.le_of_ble_eq_true rfl⟩) ⟨CP_blind, va_recv hK hw.1 (ci := 7) (q0 := 1) rfl rfl, x_preC X hw [1, 2, 3, 4, 5, 6, 7, 8, 9, 10, 11, 12, 13] rfl (by decide) [.ref (q 2), .int p1, .int p2]⟩ rfl rfl hl.1 rfl (lv_room (Nat.le_of_ble_eq_true rfl)) dX9_cap_14 ⟨Nat.zero_le _, Nat.zero_le _⟩) (fun H locs hw => ?_)
    refine lv_goto (pc := 17) (tgt := 22) hx hb dX9_cap_17 (by decide) ?_
    cases hf
    exact J22_1 _ _ _ hw (lv_sub hl [] rfl)

theorem in_X9_knots_X9 : ∀ w ∈ wsX90, w ∈ wsX9_knots := fun _ h => List.mem_cons_of_mem _ (List.mem_append_left _ (List.mem_append_left _ (List.mem_append_right _ h)))
theorem in_X9_knots_X0 : ∀ w ∈ wsX00, w ∈ wsX9_knots := fun _ h => List.mem_cons_of_mem _ (List.mem_append_left _ (List.mem_append_right _ h))
theorem in_X9_knots_X8 : ∀ w ∈ wsX80, w ∈ wsX9_knots := fun _ h => List.mem_cons_of_mem _ (List.mem_append_right _ h)
abbrev rmX9_knots : Room := { frames := 1, cells := 0, slots := 0, locals := 21 }
def f_X9_knots (V : PS) (Hp : PS) (p1 : Int32) : Option (Int32 × PS × PS) :=
  if p1 < 1 then
    some ((-3), V, Hp)
  else
  if p1 ≤ 8 then
    b1 (f_X8_restart V p1) fun V3 =>
    bn (sI Hp 1 0) fun Hp4 =>
    some (1, V3, Hp4)
  else
  some ((-3), V, Hp)
set_option maxHeartbeats 4000000 in
set_option maxRecDepth 100000 in
theorem c_X9_knots (l : Launch) (D : va_G) (cs : CS) (a : Nat) (q : Nat → Nat) (qV : Nat → Nat) (qH : Nat → Nat) (V : PS) (Hp : PS) (p1 : Int32) (r : Int32) (V' : PS) (Hp' : PS) (hf : f_X9_knots V Hp p1 = some (r, V', Hp')) : CT l D (TY cs) yX9_knots wsX9_knots rmX9_knots [.ref a, .int p1] (wX9 cs a q ++ wX8 cs (q 4) qV V ++ wX0 cs (q 5) qH Hp) (some (.int r)) (wX9 cs a q ++ wX8 cs (q 4) qV V' ++ wX0 cs (q 5) qH Hp') := by
  refine CT.ofW (own := RX9) (cc := cX9_knots) (maxL := 2) (ret := some .int) (by decide) rfl rfl (Nat.le_of_ble_eq_true rfl) ?_
  intro p e s m args below meth c A Q X hret ls hl hw
  obtain ⟨hx, hb, hml, hown, hts, hK, hA, hr, hlk⟩ := id X
  have hl : lv_has ls 2 [(0, .ref a), (1, .int p1)] := hl
  unfold f_X9_knots at hf
  refine lv_iload_n (pc := 0) hx hb dX9_knots_0 rfl (lv_at hl 1 rfl) ?_
  refine lv_iconst (pc := 1) (v := 1) hx hb dX9_knots_1 (by decide) ?_
  refine lv_icmp_lt (pc := 2) (tgt := 11) hx hb dX9_knots_2 (by decide) (fun c1 => ?_) (fun c1 => ?_)
  · have hf := ipos c1 hf
    refine lv_bipush (pc := 11) (v := (-3)) hx hb dX9_knots_11 (by decide) ?_
    cases hf
    exact hret _ _ 13 _ hw ⟨_, rfl, rfl⟩ dX9_knots_13
  · have hf := ineg c1 hf
    refine lv_iload_n (pc := 5) hx hb dX9_knots_5 rfl (lv_at hl 1 rfl) ?_
    refine lv_bipush (pc := 6) (v := 8) hx hb dX9_knots_6 (by decide) ?_
    refine lv_icmp_le (pc := 8) (tgt := 14) hx hb dX9_knots_8 (by decide) (fun c2 => ?_) (fun c2 => ?_)
    · have hf := ipos c2 hf
      refine lv_aload_n (pc := 14) hx hb dX9_knots_14 rfl (lv_at hl 0 rfl) ?_
      refine x_get (pc := 15) X hw in_X9_knots_X9 0 rfl rfl 4 (by decide) (List.mem_of_getElem? (i := 1) rfl) rfl dX9_knots_15 ?_
      refine lv_iload_n (pc := 18) hx hb dX9_knots_18 rfl (lv_at hl 1 rfl) ?_
      obtain ⟨V3, hc, hf⟩ := b1_ob hf
      refine x_cut (pc := 19) (wr := ([0, 8, 9].filterMap (fun i => (wX9 cs a q ++ wX8 cs (q 4) qV V ++ wX0 cs (q 5) qH Hp)[i]?))) (ws2 := wX9 cs a q ++ wX8 cs (q 4) qV V3 ++ wX0 cs (q 5) qH Hp) X hw [1, 2, 3, 4, 5, 6, 7] [0, 8, 9] [0, 3, 4, 5, 6, 7, 8, 9, 1, 2] rfl rfl (by decide) (by decide) rfl (by decide) (va_runV (As := [.int p1]) (rest := []) ⟨hx, hb, hml, hown, hts⟩ (c_X8_restart l D cs (q 4) qV V p1 V3 hc _) (cwV 1 hts gX9_knots_X8_restart rfl rfl rfl (by decide +kernel) ⟨Nat.le_of_ble_eq_true rfl, Nat.le_of_ble_eq_true rfl⟩) ⟨CP_blind, va_recv hK hw.1 (ci := 8) (q0 := 1) rfl rfl, x_preC X hw [1, 2, 3, 4, 5, 6, 7] rfl (by decide) [.ref (q 4), .int p1]⟩ rfl rfl hl.1 rfl (lv_room (Nat.le_of_ble_eq_true rfl)) dX9_knots_19 ⟨Nat.zero_le _, Nat.zero_le _⟩) (fun H locs hw => ?_)
      refine lv_aload_n (pc := 22) hx hb dX9_knots_22 rfl (lv_at hl 0 rfl) ?_
      refine x_get (pc := 23) X hw in_X9_knots_X9 0 rfl rfl 5 (by decide) (List.mem_of_getElem? (i := 2) rfl) rfl dX9_knots_23 ?_
      refine lv_iconst (pc := 26) (v := 0) hx hb dX9_knots_26 (by decide) ?_
      obtain ⟨Hp4, eHp4, hf⟩ := bn_ob hf
      refine x_put (pc := 27) X hw in_X9_knots_X0 tyX0 tyX0_ok nmX0 8 rfl rfl 1 (by decide) (List.mem_of_getElem? (i := 3) rfl) rfl rfl rfl (Nat.le_of_ble_eq_true rfl) dX9_knots_27 (ws2 := wX9 cs a q ++ wX8 cs (q 4) qV V3 ++ wX0 cs (q 5) qH Hp4) (by rw [eHp4]; rfl) (fun H locs hw => ?_)
      refine lv_iconst (pc := 30) (v := 1) hx hb dX9_knots_30 (by decide) ?_
      cases hf
      exact hret _ _ 31 _ hw ⟨_, rfl, rfl⟩ dX9_knots_31
    · have hf := ineg c2 hf
      refine lv_bipush (pc := 11) (v := (-3)) hx hb dX9_knots_11 (by decide) ?_
      cases hf
      exact hret _ _ 13 _ hw ⟨_, rfl, rfl⟩ dX9_knots_13

theorem in_X9_edge_X9 : ∀ w ∈ wsX90, w ∈ wsX9_edge := fun _ h => List.mem_cons_of_mem _ (List.mem_append_left _ (List.mem_append_right _ h))
theorem in_X9_edge_X8 : ∀ w ∈ wsX80, w ∈ wsX9_edge := fun _ h => List.mem_cons_of_mem _ (List.mem_append_right _ h)
abbrev rmX9_edge : Room := { frames := 1, cells := 0, slots := 0, locals := 23 }
def f_X9_edge (V : PS) (p1 : Int32) (p2 : Int32) (p3 : Int32) : Option (Int32 × PS) :=
  b1 (f_X8_hasKnot V p1) fun v1 =>
  if v1 = 0 then
    some ((-2), V)
  else
  b1 (f_X8_hasKnot V p2) fun v3 =>
  if v3 = 0 then
    some ((-2), V)
  else
  if p1 = p2 then
    some ((-2), V)
  else
  if p3 < 1 then
    some ((-3), V)
  else
  if p3 ≤ 99 then
    b2 (f_X8_addEdge V p1 p2 p3) fun v8 V9 =>
    some (v8, V9)
  else
  some ((-3), V)
set_option maxHeartbeats 4000000 in
set_option maxRecDepth 100000 in
theorem c_X9_edge (l : Launch) (D : va_G) (cs : CS) (a : Nat) (q : Nat → Nat) (qV : Nat → Nat) (V : PS) (p1 : Int32) (p2 : Int32) (p3 : Int32) (r : Int32) (V' : PS) (hf : f_X9_edge V p1 p2 p3 = some (r, V')) : CT l D (TY cs) yX9_edge wsX9_edge rmX9_edge [.ref a, .int p1, .int p2, .int p3] (wX9 cs a q ++ wX8 cs (q 4) qV V) (some (.int r)) (wX9 cs a q ++ wX8 cs (q 4) qV V') := by
  refine CT.ofW (own := RX9) (cc := cX9_edge) (maxL := 4) (ret := some .int) (by decide) rfl rfl (Nat.le_of_ble_eq_true rfl) ?_
  intro p e s m args below meth c A Q X hret ls hl hw
  obtain ⟨hx, hb, hml, hown, hts, hK, hA, hr, hlk⟩ := id X
  have hl : lv_has ls 4 [(0, .ref a), (1, .int p1), (2, .int p2), (3, .int p3)] := hl
  unfold f_X9_edge at hf
  refine lv_aload_n (pc := 0) hx hb dX9_edge_0 rfl (lv_at hl 0 rfl) ?_
  refine x_get (pc := 1) X hw in_X9_edge_X9 0 rfl rfl 4 (by decide) (List.mem_of_getElem? (i := 1) rfl) rfl dX9_edge_1 ?_
  refine lv_iload_n (pc := 4) hx hb dX9_edge_4 rfl (lv_at hl 1 rfl) ?_
  obtain ⟨v1, hc, hf⟩ := b1_ob hf
  refine x_cut (pc := 5) (wr := ([0].filterMap (fun i => (wX9 cs a q ++ wX8 cs (q 4) qV V)[i]?))) (ws2 := wX9 cs a q ++ wX8 cs (q 4) qV V) X hw [1, 2, 3, 4, 5, 6, 7] [0] [0, 1, 2, 3, 4, 5, 6, 7] rfl rfl (by decide) (by decide) rfl (by decide) (va_runV (As := [.int p1]) (rest := []) ⟨hx, hb, hml, hown, hts⟩ (c_X8_hasKnot l D cs (q 4) qV V p1 v1 hc _) (cwV 1 hts gX9_edge_X8_hasKnot rfl rfl rfl (by decide +kernel) ⟨Nat.le_of_ble_eq_true rfl, Nat.le_of_ble_eq_true rfl⟩) ⟨CP_blind, va_recv hK hw.1 (ci := 8) (q0 := 1) rfl rfl, x_preC X hw [1, 2, 3, 4, 5, 6, 7] rfl (by decide) [.ref (q 4), .int p1]⟩ rfl rfl hl.1 rfl (lv_room (Nat.le_of_ble_eq_true rfl)) dX9_edge_5 ⟨Nat.zero_le _, Nat.zero_le _⟩) (fun H locs hw => ?_)
  refine lv_if_eq (pc := 8) (tgt := 27) hx hb dX9_edge_8 (by decide) (fun c2 => ?_) (fun c2 => ?_)
  · have hf := ipos c2 hf
    refine lv_bipush (pc := 27) (v := (-2)) hx hb dX9_edge_27 (by decide) ?_
    cases hf
    exact hret _ _ 29 _ hw ⟨_, rfl, rfl⟩ dX9_edge_29
  · have hf := ineg c2 hf
    refine lv_aload_n (pc := 11) hx hb dX9_edge_11 rfl (lv_at hl 0 rfl) ?_
    refine x_get (pc := 12) X hw in_X9_edge_X9 0 rfl rfl 4 (by decide) (List.mem_of_getElem? (i := 1) rfl) rfl dX9_edge_12 ?_
    refine lv_iload_n (pc := 15) hx hb dX9_edge_15 rfl (lv_at hl 2 rfl) ?_
    obtain ⟨v3, hc, hf⟩ := b1_ob hf
    refine x_cut (pc := 16) (wr := ([0].filterMap (fun i => (wX9 cs a q ++ wX8 cs (q 4) qV V)[i]?))) (ws2 := wX9 cs a q ++ wX8 cs (q 4) qV V) X hw [1, 2, 3, 4, 5, 6, 7] [0] [0, 1, 2, 3, 4, 5, 6, 7] rfl rfl (by decide) (by decide) rfl (by decide) (va_runV (As := [.int p2]) (rest := []) ⟨hx, hb, hml, hown, hts⟩ (c_X8_hasKnot l D cs (q 4) qV V p2 v3 hc _) (cwV 1 hts gX9_edge_X8_hasKnot rfl rfl rfl (by decide +kernel) ⟨Nat.le_of_ble_eq_true rfl, Nat.le_of_ble_eq_true rfl⟩) ⟨CP_blind, va_recv hK hw.1 (ci := 8) (q0 := 1) rfl rfl, x_preC X hw [1, 2, 3, 4, 5, 6, 7] rfl (by decide) [.ref (q 4), .int p2]⟩ rfl rfl hl.1 rfl (lv_room (Nat.le_of_ble_eq_true rfl)) dX9_edge_16 ⟨Nat.zero_le _, Nat.zero_le _⟩) (fun H locs hw => ?_)
    refine lv_if_eq (pc := 19) (tgt := 27) hx hb dX9_edge_19 (by decide) (fun c4 => ?_) (fun c4 => ?_)
    · have hf := ipos c4 hf
      refine lv_bipush (pc := 27) (v := (-2)) hx hb dX9_edge_27 (by decide) ?_
      cases hf
      exact hret _ _ 29 _ hw ⟨_, rfl, rfl⟩ dX9_edge_29
    · have hf := ineg c4 hf
      refine lv_iload_n (pc := 22) hx hb dX9_edge_22 rfl (lv_at hl 1 rfl) ?_
      refine lv_iload_n (pc := 23) hx hb dX9_edge_23 rfl (lv_at hl 2 rfl) ?_
      refine lv_icmp_ne (pc := 24) (tgt := 30) hx hb dX9_edge_24 (by decide) (fun c5 => ?_) (fun c5 => ?_)
      · have hf := ineg c5 hf
        refine lv_iload_n (pc := 30) hx hb dX9_edge_30 rfl (lv_at hl 3 rfl) ?_
        refine lv_iconst (pc := 31) (v := 1) hx hb dX9_edge_31 (by decide) ?_
        refine lv_icmp_lt (pc := 32) (tgt := 41) hx hb dX9_edge_32 (by decide) (fun c6 => ?_) (fun c6 => ?_)
        · have hf := ipos c6 hf
          refine lv_bipush (pc := 41) (v := (-3)) hx hb dX9_edge_41 (by decide) ?_
          cases hf
          exact hret _ _ 43 _ hw ⟨_, rfl, rfl⟩ dX9_edge_43
        · have hf := ineg c6 hf
          refine lv_iload_n (pc := 35) hx hb dX9_edge_35 rfl (lv_at hl 3 rfl) ?_
          refine lv_bipush (pc := 36) (v := 99) hx hb dX9_edge_36 (by decide) ?_
          refine lv_icmp_le (pc := 38) (tgt := 44) hx hb dX9_edge_38 (by decide) (fun c7 => ?_) (fun c7 => ?_)
          · have hf := ipos c7 hf
            refine lv_aload_n (pc := 44) hx hb dX9_edge_44 rfl (lv_at hl 0 rfl) ?_
            refine x_get (pc := 45) X hw in_X9_edge_X9 0 rfl rfl 4 (by decide) (List.mem_of_getElem? (i := 1) rfl) rfl dX9_edge_45 ?_
            refine lv_iload_n (pc := 48) hx hb dX9_edge_48 rfl (lv_at hl 1 rfl) ?_
            refine lv_iload_n (pc := 49) hx hb dX9_edge_49 rfl (lv_at hl 2 rfl) ?_
            refine lv_iload_n (pc := 50) hx hb dX9_edge_50 rfl (lv_at hl 3 rfl) ?_
            obtain ⟨v8, V9, hc, hf⟩ := b2_ob hf
            refine x_cut (pc := 51) (wr := ([0].filterMap (fun i => (wX9 cs a q ++ wX8 cs (q 4) qV V)[i]?))) (ws2 := wX9 cs a q ++ wX8 cs (q 4) qV V9) X hw [1, 2, 3, 4, 5, 6, 7] [0] [0, 1, 2, 3, 4, 5, 6, 7] rfl rfl (by decide) (by decide) rfl (by decide) (va_runV (As := [.int p1, .int p2, .int p3]) (rest := []) ⟨hx, hb, hml, hown, hts⟩ (c_X8_addEdge l D cs (q 4) qV V p1 p2 p3 v8 V9 hc _) (cwV 3 hts gX9_edge_X8_addEdge rfl rfl rfl (by decide +kernel) ⟨Nat.le_of_ble_eq_true rfl, Nat.le_of_ble_eq_true rfl⟩) ⟨CP_blind, va_recv hK hw.1 (ci := 8) (q0 := 1) rfl rfl, x_preC X hw [1, 2, 3, 4, 5, 6, 7] rfl (by decide) [.ref (q 4), .int p1, .int p2, .int p3]⟩ rfl rfl hl.1 rfl (lv_room (Nat.le_of_ble_eq_true rfl)) dX9_edge_51 ⟨Nat.zero_le _, Nat.zero_le _⟩) (fun H locs hw => ?_)
            cases hf
            exact hret _ _ 54 _ hw ⟨_, rfl, rfl⟩ dX9_edge_54
          · have hf := ineg c7 hf
            refine lv_bipush (pc := 41) (v := (-3)) hx hb dX9_edge_41 (by decide) ?_
            cases hf
            exact hret _ _ 43 _ hw ⟨_, rfl, rfl⟩ dX9_edge_43
      · have hf := ipos c5 hf
        refine lv_bipush (pc := 27) (v := (-2)) hx hb dX9_edge_27 (by decide) ?_
        cases hf
        exact hret _ _ 29 _ hw ⟨_, rfl, rfl⟩ dX9_edge_29

theorem in_X9_cord_X9 : ∀ w ∈ wsX90, w ∈ wsX9_cord := fun _ h => List.mem_cons_of_mem _ (List.mem_append_left _ (List.mem_append_right _ h))
theorem in_X9_cord_X8 : ∀ w ∈ wsX80, w ∈ wsX9_cord := fun _ h => List.mem_cons_of_mem _ (List.mem_append_right _ h)
abbrev rmX9_cord : Room := { frames := 1, cells := 0, slots := 0, locals := 21 }
def f_X9_cord (V : PS) (p1 : Int32) : Option (Int32 × PS) :=
  b1 (f_X8_hasKnotsOf V p1) fun v1 =>
  if v1 = 0 then
    some ((-3), V)
  else
  b1 (f_J6_bitCount_0f7a4 p1) fun v3 =>
  if 2 ≤ v3 then
    b2 (f_X8_addCord V p1) fun v5 V6 =>
    some (v5, V6)
  else
  some ((-3), V)
set_option maxHeartbeats 4000000 in
set_option maxRecDepth 100000 in
theorem c_X9_cord (l : Launch) (D : va_G) (cs : CS) (a : Nat) (q : Nat → Nat) (qV : Nat → Nat) (V : PS) (p1 : Int32) (r : Int32) (V' : PS) (hf : f_X9_cord V p1 = some (r, V')) : CT l D (TY cs) yX9_cord wsX9_cord rmX9_cord [.ref a, .int p1] (wX9 cs a q ++ wX8 cs (q 4) qV V) (some (.int r)) (wX9 cs a q ++ wX8 cs (q 4) qV V') := by
  refine CT.ofW (own := RX9) (cc := cX9_cord) (maxL := 2) (ret := some .int) (by decide) rfl rfl (Nat.le_of_ble_eq_true rfl) ?_
  intro p e s m args below meth c A Q X hret ls hl hw
  obtain ⟨hx, hb, hml, hown, hts, hK, hA, hr, hlk⟩ := id X
  have hl : lv_has ls 2 [(0, .ref a), (1, .int p1)] := hl
  unfold f_X9_cord at hf
  refine lv_aload_n (pc := 0) hx hb dX9_cord_0 rfl (lv_at hl 0 rfl) ?_
  refine x_get (pc := 1) X hw in_X9_cord_X9 0 rfl rfl 4 (by decide) (List.mem_of_getElem? (i := 1) rfl) rfl dX9_cord_1 ?_
  refine lv_iload_n (pc := 4) hx hb dX9_cord_4 rfl (lv_at hl 1 rfl) ?_
  obtain ⟨v1, hc, hf⟩ := b1_ob hf
  refine x_cut (pc := 5) (wr := ([0].filterMap (fun i => (wX9 cs a q ++ wX8 cs (q 4) qV V)[i]?))) (ws2 := wX9 cs a q ++ wX8 cs (q 4) qV V) X hw [1, 2, 3, 4, 5, 6, 7] [0] [0, 1, 2, 3, 4, 5, 6, 7] rfl rfl (by decide) (by decide) rfl (by decide) (va_runV (As := [.int p1]) (rest := []) ⟨hx, hb, hml, hown, hts⟩ (c_X8_hasKnotsOf l D cs (q 4) qV V p1 v1 hc _) (cwV 1 hts gX9_cord_X8_hasKnotsOf rfl rfl rfl (by decide +kernel) ⟨Nat.le_of_ble_eq_true rfl, Nat.le_of_ble_eq_true rfl⟩) ⟨CP_blind, va_recv hK hw.1 (ci := 8) (q0 := 1) rfl rfl, x_preC X hw [1, 2, 3, 4, 5, 6, 7] rfl (by decide) [.ref (q 4), .int p1]⟩ rfl rfl hl.1 rfl (lv_room (Nat.le_of_ble_eq_true rfl)) dX9_cord_5 ⟨Nat.zero_le _, Nat.zero_le _⟩) (fun H locs hw => ?_)
  refine lv_if_eq (pc := 8) (tgt := 19) hx hb dX9_cord_8 (by decide) (fun c2 => ?_) (fun c2 => ?_)
  · have hf := ipos c2 hf
    refine lv_bipush (pc := 19) (v := (-3)) hx hb dX9_cord_19 (by decide) ?_
    cases hf
    exact hret _ _ 21 _ hw ⟨_, rfl, rfl⟩ dX9_cord_21
  · have hf := ineg c2 hf
    refine lv_iload_n (pc := 11) hx hb dX9_cord_11 rfl (lv_at hl 1 rfl) ?_
    obtain ⟨v3, hc, hf⟩ := b1_ob hf
    refine x_nil (pc := 12) X hw (va_runS (As := [.int p1]) (rest := []) ⟨hx, hb, hml, hown, hts⟩ (c_J6_bitCount_0f7a4 l D cs p1 v3 hc _) (va_cwS 1 hts gX9_cord_J6_bitCount_0f7a4 rfl rfl rfl (by decide +kernel) ⟨Nat.le_of_ble_eq_true rfl, Nat.le_of_ble_eq_true rfl⟩) ⟨CP_blind, x_preN X [.int p1]⟩ rfl rfl hl.1 rfl (lv_room (Nat.le_of_ble_eq_true rfl)) dX9_cord_12 ⟨Nat.zero_le _, Nat.zero_le _⟩) (fun H locs hw => ?_)
    refine lv_iconst (pc := 15) (v := 2) hx hb dX9_cord_15 (by decide) ?_
    refine lv_icmp_ge (pc := 16) (tgt := 22) hx hb dX9_cord_16 (by decide) (fun c4 => ?_) (fun c4 => ?_)
    · have hf := ipos c4 hf
      refine lv_aload_n (pc := 22) hx hb dX9_cord_22 rfl (lv_at hl 0 rfl) ?_
      refine x_get (pc := 23) X hw in_X9_cord_X9 0 rfl rfl 4 (by decide) (List.mem_of_getElem? (i := 1) rfl) rfl dX9_cord_23 ?_
      refine lv_iload_n (pc := 26) hx hb dX9_cord_26 rfl (lv_at hl 1 rfl) ?_
      obtain ⟨v5, V6, hc, hf⟩ := b2_ob hf
      refine x_cut (pc := 27) (wr := ([0].filterMap (fun i => (wX9 cs a q ++ wX8 cs (q 4) qV V)[i]?))) (ws2 := wX9 cs a q ++ wX8 cs (q 4) qV V6) X hw [1, 2, 3, 4, 5, 6, 7] [0] [0, 1, 2, 3, 4, 5, 6, 7] rfl rfl (by decide) (by decide) rfl (by decide) (va_runV (As := [.int p1]) (rest := []) ⟨hx, hb, hml, hown, hts⟩ (c_X8_addCord l D cs (q 4) qV V p1 v5 V6 hc _) (cwV 1 hts gX9_cord_X8_addCord rfl rfl rfl (by decide +kernel) ⟨Nat.le_of_ble_eq_true rfl, Nat.le_of_ble_eq_true rfl⟩) ⟨CP_blind, va_recv hK hw.1 (ci := 8) (q0 := 1) rfl rfl, x_preC X hw [1, 2, 3, 4, 5, 6, 7] rfl (by decide) [.ref (q 4), .int p1]⟩ rfl rfl hl.1 rfl (lv_room (Nat.le_of_ble_eq_true rfl)) dX9_cord_27 ⟨Nat.zero_le _, Nat.zero_le _⟩) (fun H locs hw => ?_)
      cases hf
      exact hret _ _ 30 _ hw ⟨_, rfl, rfl⟩ dX9_cord_30
    · have hf := ineg c4 hf
      refine lv_bipush (pc := 19) (v := (-3)) hx hb dX9_cord_19 (by decide) ?_
      cases hf
      exact hret _ _ 21 _ hw ⟨_, rfl, rfl⟩ dX9_cord_21

theorem in_X9_measure_X9 : ∀ w ∈ wsX90, w ∈ wsX9_measure := fun _ h => List.mem_cons_of_mem _ (List.mem_append_left _ (List.mem_append_right _ h))
theorem in_X9_measure_X8 : ∀ w ∈ wsX80, w ∈ wsX9_measure := fun _ h => List.mem_cons_of_mem _ (List.mem_append_right _ h)
abbrev rmX9_measure : Room := { frames := 2, cells := 0, slots := 0, locals := 46 }
def f_X9_measure (V : PS) (p1 : Int32) (p2 : Int32) : Option (Int32) :=
  b1 (f_X9_isChoice p1) fun v1 =>
  b1 (
    if v1 = 0 then
      some ((-3) : Int32)
    else
    b1 (f_X8_hasKnotsOf V p2) fun v4 =>
    if v4 = 0 then
      some ((-3) : Int32)
    else
    b1 (f_X8_measureOf V p1 p2) fun v6 =>
    some v6) fun v2 =>
  some v2
set_option maxHeartbeats 4000000 in
set_option maxRecDepth 100000 in
theorem c_X9_measure (l : Launch) (D : va_G) (cs : CS) (a : Nat) (q : Nat → Nat) (qV : Nat → Nat) (V : PS) (p1 : Int32) (p2 : Int32) (r : Int32) (hf : f_X9_measure V p1 p2 = some r) : CT l D (TY cs) yX9_measure wsX9_measure rmX9_measure [.ref a, .int p1, .int p2] (wX9 cs a q ++ wX8 cs (q 4) qV V) (some (.int r)) (wX9 cs a q ++ wX8 cs (q 4) qV V) := by
  refine CT.ofW (own := RX9) (cc := cX9_measure) (maxL := 3) (ret := some .int) (by decide) rfl rfl (Nat.le_of_ble_eq_true rfl) ?_
  intro p e s m args below meth c A Q X hret ls hl hw
  obtain ⟨hx, hb, hml, hown, hts, hK, hA, hr, hlk⟩ := id X
  have hl : lv_has ls 3 [(0, .ref a), (1, .int p1), (2, .int p2)] := hl
  unfold f_X9_measure at hf
  refine lv_iload_n (pc := 0) hx hb dX9_measure_0 rfl (lv_at hl 1 rfl) ?_
  obtain ⟨v1, hc, hf⟩ := b1_ob hf
  refine x_nil (pc := 1) X hw (va_runS (As := [.int p1]) (rest := []) ⟨hx, hb, hml, hown, hts⟩ (c_X9_isChoice l D cs p1 v1 hc _) (va_cwS 1 hts gX9_measure_X9_isChoice rfl rfl rfl (by decide +kernel) ⟨Nat.le_of_ble_eq_true rfl, Nat.le_of_ble_eq_true rfl⟩) ⟨CP_blind, x_preN X [.int p1]⟩ rfl rfl hl.1 rfl (lv_room (Nat.le_of_ble_eq_true rfl)) dX9_measure_1 ⟨Nat.zero_le _, Nat.zero_le _⟩) (fun H locs hw => ?_)
  obtain ⟨v2, hj, hf⟩ := b1_ob hf
  have J32_1 : ∀ (H : Heap) (locs : List Loc) (ls : Array Slot), WD D A s (wX9 cs a q ++ wX8 cs (q 4) qV V) H locs → lv_has ls 3 [] → W p l e rmX9_measure s m args below meth c H locs 0 0 Q (F0 m 32 ls [.int v2]) := by
    intro H locs ls hw hl
    cases hf
    exact hret _ _ 32 _ hw ⟨_, rfl, rfl⟩ dX9_measure_32
  clear hf; have hf := hj; clear hj
  refine lv_if_eq (pc := 4) (tgt := 30) hx hb dX9_measure_4 (by decide) (fun c3 => ?_) (fun c3 => ?_)
  · have hf := ipos c3 hf
    refine lv_bipush (pc := 30) (v := (-3)) hx hb dX9_measure_30 (by decide) ?_
    cases hf
    exact J32_1 _ _ _ hw (lv_sub hl [] rfl)
  · have hf := ineg c3 hf
    refine lv_aload_n (pc := 7) hx hb dX9_measure_7 rfl (lv_at hl 0 rfl) ?_
    refine x_get (pc := 8) X hw in_X9_measure_X9 0 rfl rfl 4 (by decide) (List.mem_of_getElem? (i := 1) rfl) rfl dX9_measure_8 ?_
    refine lv_iload_n (pc := 11) hx hb dX9_measure_11 rfl (lv_at hl 2 rfl) ?_
    obtain ⟨v4, hc, hf⟩ := b1_ob hf
    refine x_cut (pc := 12) (wr := ([0].filterMap (fun i => (wX9 cs a q ++ wX8 cs (q 4) qV V)[i]?))) (ws2 := wX9 cs a q ++ wX8 cs (q 4) qV V) X hw [1, 2, 3, 4, 5, 6, 7] [0] [0, 1, 2, 3, 4, 5, 6, 7] rfl rfl (by decide) (by decide) rfl (by decide) (va_runV (As := [.int p2]) (rest := []) ⟨hx, hb, hml, hown, hts⟩ (c_X8_hasKnotsOf l D cs (q 4) qV V p2 v4 hc _) (cwV 1 hts gX9_measure_X8_hasKnotsOf rfl rfl rfl (by decide +kernel) ⟨Nat.le_of_ble_eq_true rfl, Nat.le_of_ble_eq_true rfl⟩) ⟨CP_blind, va_recv hK hw.1 (ci := 8) (q0 := 1) rfl rfl, x_preC X hw [1, 2, 3, 4, 5, 6, 7] rfl (by decide) [.ref (q 4), .int p2]⟩ rfl rfl hl.1 rfl (lv_room (Nat.le_of_ble_eq_true rfl)) dX9_measure_12 ⟨Nat.zero_le _, Nat.zero_le _⟩) (fun H locs hw => ?_)
    refine lv_if_eq (pc := 15) (tgt := 30) hx hb dX9_measure_15 (by decide) (fun c5 => ?_) (fun c5 => ?_)
    · have hf := ipos c5 hf
      refine lv_bipush (pc := 30) (v := (-3)) hx hb dX9_measure_30 (by decide) ?_
      cases hf
      exact J32_1 _ _ _ hw (lv_sub hl [] rfl)
    · have hf := ineg c5 hf
      refine lv_aload_n (pc := 18) hx hb dX9_measure_18 rfl (lv_at hl 0 rfl) ?_
      refine x_get (pc := 19) X hw in_X9_measure_X9 0 rfl rfl 4 (by decide) (List.mem_of_getElem? (i := 1) rfl) rfl dX9_measure_19 ?_
      refine lv_iload_n (pc := 22) hx hb dX9_measure_22 rfl (lv_at hl 1 rfl) ?_
      refine lv_iload_n (pc := 23) hx hb dX9_measure_23 rfl (lv_at hl 2 rfl) ?_
      obtain ⟨v6, hc, hf⟩ := b1_ob hf
      refine x_cut (pc := 24) (wr := ([0].filterMap (fun i => (wX9 cs a q ++ wX8 cs (q 4) qV V)[i]?))) (ws2 := wX9 cs a q ++ wX8 cs (q 4) qV V) X hw [1, 2, 3, 4, 5, 6, 7] [0] [0, 1, 2, 3, 4, 5, 6, 7] rfl rfl (by decide) (by decide) rfl (by decide) (va_runV (As := [.int p1, .int p2]) (rest := []) ⟨hx, hb, hml, hown, hts⟩ (c_X8_measureOf l D cs (q 4) qV V p1 p2 v6 hc _) (cwV 2 hts gX9_measure_X8_measureOf rfl rfl rfl (by decide +kernel) ⟨Nat.le_of_ble_eq_true rfl, Nat.le_of_ble_eq_true rfl⟩) ⟨CP_blind, va_recv hK hw.1 (ci := 8) (q0 := 1) rfl rfl, x_preC X hw [1, 2, 3, 4, 5, 6, 7] rfl (by decide) [.ref (q 4), .int p1, .int p2]⟩ rfl rfl hl.1 rfl (lv_room (Nat.le_of_ble_eq_true rfl)) dX9_measure_24 ⟨Nat.zero_le _, Nat.zero_le _⟩) (fun H locs hw => ?_)
      refine lv_goto (pc := 27) (tgt := 32) hx hb dX9_measure_27 (by decide) ?_
      cases hf
      exact J32_1 _ _ _ hw (lv_sub hl [] rfl)

theorem in_X9_expect_X9 : ∀ w ∈ wsX90, w ∈ wsX9_expect := fun _ h => List.mem_cons_of_mem _ (List.mem_append_left _ (List.mem_append_right _ h))
theorem in_X9_expect_X8 : ∀ w ∈ wsX80, w ∈ wsX9_expect := fun _ h => List.mem_cons_of_mem _ (List.mem_append_right _ h)
abbrev rmX9_expect : Room := { frames := 3, cells := 0, slots := 0, locals := 70 }
def f_X9_expect (V : PS) (p1 : Int32) (p2 : Int32) (p3 : Int32) (p4 : Int32) : Option (Int32) :=
  b1 (f_X9_isChoice p1) fun v1 =>
  if v1 = 0 then
    some (-3)
  else
  b1 (f_X9_isPart p4) fun v3 =>
  if v3 = 0 then
    some (-3)
  else
  b1 (f_X8_hasKnotsOf V p2) fun v5 =>
  if v5 = 0 then
    some (-3)
  else
  if (p3 &&& (p2 ^^^ (-1))) = 0 then
    b1 (f_X8_meanAbove V p1 p2 p3) fun v8 =>
    b1 (f_X8_meanBelow p1) fun v9 =>
    b1 (f_X9_lowest v8 v9 p4) fun v10 =>
    some v10
  else
  some (-3)
set_option maxHeartbeats 4000000 in
set_option maxRecDepth 100000 in
theorem c_X9_expect (l : Launch) (D : va_G) (cs : CS) (a : Nat) (q : Nat → Nat) (qV : Nat → Nat) (V : PS) (p1 : Int32) (p2 : Int32) (p3 : Int32) (p4 : Int32) (r : Int32) (hf : f_X9_expect V p1 p2 p3 p4 = some r) : CT l D (TY cs) yX9_expect wsX9_expect rmX9_expect [.ref a, .int p1, .int p2, .int p3, .int p4] (wX9 cs a q ++ wX8 cs (q 4) qV V) (some (.int r)) (wX9 cs a q ++ wX8 cs (q 4) qV V) := by
  refine CT.ofW (own := RX9) (cc := cX9_expect) (maxL := 5) (ret := some .int) (by decide) rfl rfl (Nat.le_of_ble_eq_true rfl) ?_
  intro p e s m args below meth c A Q X hret ls hl hw
  obtain ⟨hx, hb, hml, hown, hts, hK, hA, hr, hlk⟩ := id X
  have hl : lv_has ls 5 [(0, .ref a), (1, .int p1), (2, .int p2), (3, .int p3), (4, .int p4)] := hl
  unfold f_X9_expect at hf
  refine lv_iload_n (pc := 0) hx hb dX9_expect_0 rfl (lv_at hl 1 rfl) ?_
  obtain ⟨v1, hc, hf⟩ := b1_ob hf
  refine x_nil (pc := 1) X hw (va_runS (As := [.int p1]) (rest := []) ⟨hx, hb, hml, hown, hts⟩ (c_X9_isChoice l D cs p1 v1 hc _) (va_cwS 1 hts gX9_expect_X9_isChoice rfl rfl rfl (by decide +kernel) ⟨Nat.le_of_ble_eq_true rfl, Nat.le_of_ble_eq_true rfl⟩) ⟨CP_blind, x_preN X [.int p1]⟩ rfl rfl hl.1 rfl (lv_room (Nat.le_of_ble_eq_true rfl)) dX9_expect_1 ⟨Nat.zero_le _, Nat.zero_le _⟩) (fun H locs hw => ?_)
  refine lv_if_eq (pc := 4) (tgt := 34) hx hb dX9_expect_4 (by decide) (fun c2 => ?_) (fun c2 => ?_)
  · have hf := ipos c2 hf
    refine lv_bipush (pc := 34) (v := (-3)) hx hb dX9_expect_34 (by decide) ?_
    cases hf
    exact hret _ _ 36 _ hw ⟨_, rfl, rfl⟩ dX9_expect_36
  · have hf := ineg c2 hf
    refine lv_iload (pc := 7) hx hb dX9_expect_7 (lv_at hl 4 rfl) ?_
    obtain ⟨v3, hc, hf⟩ := b1_ob hf
    refine x_nil (pc := 9) X hw (va_runS (As := [.int p4]) (rest := []) ⟨hx, hb, hml, hown, hts⟩ (c_X9_isPart l D cs p4 v3 hc _) (va_cwS 1 hts gX9_expect_X9_isPart rfl rfl rfl (by decide +kernel) ⟨Nat.le_of_ble_eq_true rfl, Nat.le_of_ble_eq_true rfl⟩) ⟨CP_blind, x_preN X [.int p4]⟩ rfl rfl hl.1 rfl (lv_room (Nat.le_of_ble_eq_true rfl)) dX9_expect_9 ⟨Nat.zero_le _, Nat.zero_le _⟩) (fun H locs hw => ?_)
    refine lv_if_eq (pc := 12) (tgt := 34) hx hb dX9_expect_12 (by decide) (fun c4 => ?_) (fun c4 => ?_)
    · have hf := ipos c4 hf
      refine lv_bipush (pc := 34) (v := (-3)) hx hb dX9_expect_34 (by decide) ?_
      cases hf
      exact hret _ _ 36 _ hw ⟨_, rfl, rfl⟩ dX9_expect_36
    · have hf := ineg c4 hf
      refine lv_aload_n (pc := 15) hx hb dX9_expect_15 rfl (lv_at hl 0 rfl) ?_
      refine x_get (pc := 16) X hw in_X9_expect_X9 0 rfl rfl 4 (by decide) (List.mem_of_getElem? (i := 1) rfl) rfl dX9_expect_16 ?_
      refine lv_iload_n (pc := 19) hx hb dX9_expect_19 rfl (lv_at hl 2 rfl) ?_
      obtain ⟨v5, hc, hf⟩ := b1_ob hf
      refine x_cut (pc := 20) (wr := ([0].filterMap (fun i => (wX9 cs a q ++ wX8 cs (q 4) qV V)[i]?))) (ws2 := wX9 cs a q ++ wX8 cs (q 4) qV V) X hw [1, 2, 3, 4, 5, 6, 7] [0] [0, 1, 2, 3, 4, 5, 6, 7] rfl rfl (by decide) (by decide) rfl (by decide) (va_runV (As := [.int p2]) (rest := []) ⟨hx, hb, hml, hown, hts⟩ (c_X8_hasKnotsOf l D cs (q 4) qV V p2 v5 hc _) (cwV 1 hts gX9_expect_X8_hasKnotsOf rfl rfl rfl (by decide +kernel) ⟨Nat.le_of_ble_eq_true rfl, Nat.le_of_ble_eq_true rfl⟩) ⟨CP_blind, va_recv hK hw.1 (ci := 8) (q0 := 1) rfl rfl, x_preC X hw [1, 2, 3, 4, 5, 6, 7] rfl (by decide) [.ref (q 4), .int p2]⟩ rfl rfl hl.1 rfl (lv_room (Nat.le_of_ble_eq_true rfl)) dX9_expect_20 ⟨Nat.zero_le _, Nat.zero_le _⟩) (fun H locs hw => ?_)
      refine lv_if_eq (pc := 23) (tgt := 34) hx hb dX9_expect_23 (by decide) (fun c6 => ?_) (fun c6 => ?_)
      · have hf := ipos c6 hf
        refine lv_bipush (pc := 34) (v := (-3)) hx hb dX9_expect_34 (by decide) ?_
        cases hf
        exact hret _ _ 36 _ hw ⟨_, rfl, rfl⟩ dX9_expect_36
      · have hf := ineg c6 hf
        refine lv_iload_n (pc := 26) hx hb dX9_expect_26 rfl (lv_at hl 3 rfl) ?_
        refine lv_iload_n (pc := 27) hx hb dX9_expect_27 rfl (lv_at hl 2 rfl) ?_
        refine lv_iconst (pc := 28) (v := (-1)) hx hb dX9_expect_28 (by decide) ?_
        refine lv_ixor (pc := 29) hx hb dX9_expect_29 ?_
        refine lv_iand (pc := 30) hx hb dX9_expect_30 ?_
        refine lv_if_eq (pc := 31) (tgt := 37) hx hb dX9_expect_31 (by decide) (fun c7 => ?_) (fun c7 => ?_)
        · have hf := ipos c7 hf
          refine lv_aload_n (pc := 37) hx hb dX9_expect_37 rfl (lv_at hl 0 rfl) ?_
          refine x_get (pc := 38) X hw in_X9_expect_X9 0 rfl rfl 4 (by decide) (List.mem_of_getElem? (i := 1) rfl) rfl dX9_expect_38 ?_
          refine lv_iload_n (pc := 41) hx hb dX9_expect_41 rfl (lv_at hl 1 rfl) ?_
          refine lv_iload_n (pc := 42) hx hb dX9_expect_42 rfl (lv_at hl 2 rfl) ?_
          refine lv_iload_n (pc := 43) hx hb dX9_expect_43 rfl (lv_at hl 3 rfl) ?_
          obtain ⟨v8, hc, hf⟩ := b1_ob hf
          refine x_cut (pc := 44) (wr := ([0].filterMap (fun i => (wX9 cs a q ++ wX8 cs (q 4) qV V)[i]?))) (ws2 := wX9 cs a q ++ wX8 cs (q 4) qV V) X hw [1, 2, 3, 4, 5, 6, 7] [0] [0, 1, 2, 3, 4, 5, 6, 7] rfl rfl (by decide) (by decide) rfl (by decide) (va_runV (As := [.int p1, .int p2, .int p3]) (rest := []) ⟨hx, hb, hml, hown, hts⟩ (c_X8_meanAbove l D cs (q 4) qV V p1 p2 p3 v8 hc _) (cwV 3 hts gX9_expect_X8_meanAbove rfl rfl rfl (by decide +kernel) ⟨Nat.le_of_ble_eq_true rfl, Nat.le_of_ble_eq_true rfl⟩) ⟨CP_blind, va_recv hK hw.1 (ci := 8) (q0 := 1) rfl rfl, x_preC X hw [1, 2, 3, 4, 5, 6, 7] rfl (by decide) [.ref (q 4), .int p1, .int p2, .int p3]⟩ rfl rfl hl.1 rfl (lv_room (Nat.le_of_ble_eq_true rfl)) dX9_expect_44 ⟨Nat.zero_le _, Nat.zero_le _⟩) (fun H locs hw => ?_)
          refine lv_iload_n (pc := 47) hx hb dX9_expect_47 rfl (lv_at hl 1 rfl) ?_
          obtain ⟨v9, hc, hf⟩ := b1_ob hf
          refine x_nil (pc := 48) X hw (va_runS (As := [.int p1]) (rest := [.int v8]) ⟨hx, hb, hml, hown, hts⟩ (c_X8_meanBelow l D cs p1 v9 hc _) (va_cwS 1 hts gX9_expect_X8_meanBelow rfl rfl rfl (by decide +kernel) ⟨Nat.le_of_ble_eq_true rfl, Nat.le_of_ble_eq_true rfl⟩) ⟨CP_blind, x_preN X [.int p1]⟩ rfl rfl hl.1 rfl (lv_room (Nat.le_of_ble_eq_true rfl)) dX9_expect_48 ⟨Nat.zero_le _, Nat.zero_le _⟩) (fun H locs hw => ?_)
          refine lv_iload (pc := 51) hx hb dX9_expect_51 (lv_at hl 4 rfl) ?_
          obtain ⟨v10, hc, hf⟩ := b1_ob hf
          refine x_nil (pc := 53) X hw (va_runS (As := [.int v8, .int v9, .int p4]) (rest := []) ⟨hx, hb, hml, hown, hts⟩ (c_X9_lowest l D cs v8 v9 p4 v10 hc _) (va_cwS 3 hts gX9_expect_X9_lowest rfl rfl rfl (by decide +kernel) ⟨Nat.le_of_ble_eq_true rfl, Nat.le_of_ble_eq_true rfl⟩) ⟨CP_blind, x_preN X [.int v8, .int v9, .int p4]⟩ rfl rfl hl.1 rfl (lv_room (Nat.le_of_ble_eq_true rfl)) dX9_expect_53 ⟨Nat.zero_le _, Nat.zero_le _⟩) (fun H locs hw => ?_)
          cases hf
          exact hret _ _ 56 _ hw ⟨_, rfl, rfl⟩ dX9_expect_56
        · have hf := ineg c7 hf
          refine lv_bipush (pc := 34) (v := (-3)) hx hb dX9_expect_34 (by decide) ?_
          cases hf
          exact hret _ _ 36 _ hw ⟨_, rfl, rfl⟩ dX9_expect_36
