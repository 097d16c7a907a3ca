theorem in_X7_replaceProgram_X7 : ∀ w ∈ wsX70, w ∈ wsX7_replaceProgram := fun _ h => List.mem_cons_of_mem _ (List.mem_append_right _ h)
abbrev rmX7_replaceProgram : Room := { frames := 0, cells := 0, slots := 0, locals := 0 }
set_option maxHeartbeats 4000000 in
set_option maxRecDepth 100000 in
theorem c_X7_replaceProgram (l : Launch) (D : va_G) (cs : CS) (a b1 : Nat) (q : Nat → Nat) (S : PS) : CT l D (TY cs) yX7_replaceProgram wsX7_replaceProgram rmX7_replaceProgram [.ref a, .ref b1] (wX7 cs a q S) (some (.ref (q 0))) (wX7 cs a (va_up q 0 b1) (sI S 3 1)) := by
  refine CT.ofW (own := RX7) (cc := cX7_replaceProgram) (maxL := 3) (ret := some (.object "DrawsOut$Program")) (by decide) rfl rfl (Nat.le_of_ble_eq_true rfl) ?_
  intro p e s m args below meth c A Q X hret ls hl hw
  obtain ⟨hx, hb, hml, hown, hts, hK, hA, hr, hlk⟩ := id X
  have hl : lv_has ls 3 [(0, .ref a), (1, .ref b1)] := hl
  refine lv_aload_n (pc := 0) hx hb dX7_replaceProgram_0 rfl (lv_at hl 0 rfl) ?_
  refine x_get (pc := 1) X hw in_X7_replaceProgram_X7 0 rfl rfl 0 (by decide) (List.mem_of_getElem? (i := 1) rfl) rfl dX7_replaceProgram_1 ?_
  refine lv_astore_n (lv' := [(2, .ref (q 0)), (0, .ref a), (1, .ref b1)]) (pc := 4) hx hb dX7_replaceProgram_4 rfl hl (by decide) rfl (fun ls hl => ?_)
  refine lv_aload_n (pc := 5) hx hb dX7_replaceProgram_5 rfl (lv_at hl 1 rfl) ?_
  refine lv_aload_n (pc := 6) hx hb dX7_replaceProgram_6 rfl (lv_at hl 2 rfl) ?_
  refine x_put (pc := 7) X hw in_X7_replaceProgram_X7 tyX7 tyX7_ok nmX7 0 rfl rfl 0 (by decide) (List.mem_of_getElem? (i := 1) rfl) rfl rfl rfl (Nat.le_of_ble_eq_true rfl) dX7_replaceProgram_7 (ws2 := wX7 cs a (va_up q 0 b1) S) rfl (fun H locs hw => ?_)
  refine lv_aload_n (pc := 10) hx hb dX7_replaceProgram_10 rfl (lv_at hl 1 rfl) ?_
  refine lv_iconst (pc := 11) (v := 1) hx hb dX7_replaceProgram_11 (by decide) ?_
  refine x_put (pc := 12) X hw in_X7_replaceProgram_X7 tyX7 tyX7_ok nmX7 0 rfl rfl 3 (by decide) (List.mem_of_getElem? (i := 2) rfl) rfl (by decide) (by decide) (Nat.le_of_ble_eq_true rfl) dX7_replaceProgram_12 (ws2 := wX7 cs a (va_up q 0 b1) (sI S 3 1)) rfl (fun H locs hw => ?_)
  refine lv_aload_n (pc := 15) hx hb dX7_replaceProgram_15 rfl (lv_at hl 0 rfl) ?_
  exact hret _ _ 16 _ hw ⟨_, rfl⟩ dX7_replaceProgram_16

theorem in_X9_program_X9 : ∀ w ∈ wsX90, w ∈ wsX9_program := fun _ h => List.mem_cons_of_mem _ (List.mem_append_left _ (List.mem_append_left _ (List.mem_append_left _ (List.mem_append_left _ (List.mem_append_right _ h)))))
theorem in_X9_program_X6 : ∀ w ∈ wsX60, w ∈ wsX9_program := fun _ h => List.mem_cons_of_mem _ (List.mem_append_left _ (List.mem_append_left _ (List.mem_append_left _ (List.mem_append_right _ h))))
theorem in_X9_program_X7 : ∀ w ∈ wsX70, w ∈ wsX9_program := fun _ h => List.mem_cons_of_mem _ (List.mem_append_left _ (List.mem_append_left _ (List.mem_append_right _ h)))
theorem in_X9_program_X2 : ∀ w ∈ wsX20, w ∈ wsX9_program := fun _ h => List.mem_cons_of_mem _ (List.mem_append_left _ (List.mem_append_right _ h))
theorem in_X9_program_X3 : ∀ w ∈ wsX30, w ∈ wsX9_program := fun _ h => List.mem_cons_of_mem _ (List.mem_append_right _ h)
abbrev rmX9_program : Room := { frames := 8, cells := 0, slots := 0, locals := 174 }
set_option maxHeartbeats 4000000 in
set_option maxRecDepth 100000 in
theorem c_X9_program_no (l : Launch) (D : va_G) (cs : CS) (ad ar : Nat → Nat) (a : Nat) (q qT qS qDr : Nat → Nat) (R T S Dr : PS) (r : Int32) (R' Dr' : PS) (hc : f_X3_readInto R T Dr = some (r, R', Dr')) (hv : ¬ r = -1) : CTE l D (TY cs) ad ar yX9_program wsX9_program rmX9_program [.ref a] (wX9 cs a q ++ wX3 cs (q 1) (fun _ => q 0) R ++ wX6 cs (q 0) qT T ++ wX7 cs (q 2) qS S ++ wX2 cs (q 3) qDr Dr) (some (.int (-4))) (wX9 cs a q ++ wX3 cs (q 1) (fun _ => q 0) R' ++ wX6 cs (q 0) qT T ++ wX7 cs (q 2) qS S ++ wX2 cs (q 3) qDr Dr') := by
  refine CTE.ofW (own := RX9) (cc := cX9_program) (maxL := 2) (ret := some .int) (by decide) rfl rfl (Nat.le_of_ble_eq_true rfl) ?_
  intro p e s m args below meth c A Q hE X hret ls hl hw
  obtain ⟨hx, hb, hml, hown, hts, hK, hA, hr, hlk⟩ := id X
  have hl : lv_has ls 2 [(0, .ref a)] := hl
  refine lv_aload_n (pc := 0) hx hb dX9_program_0 rfl (lv_at hl 0 rfl) ?_
  refine x_get (pc := 1) X hw in_X9_program_X9 0 rfl rfl 1 (by decide) (List.mem_of_getElem? (i := 1) rfl) rfl dX9_program_1 ?_
  refine lv_aload_n (pc := 4) hx hb dX9_program_4 rfl (lv_at hl 0 rfl) ?_
  refine x_get (pc := 5) X hw in_X9_program_X9 0 rfl rfl 3 (by decide) (List.mem_of_getElem? (i := 2) rfl) rfl dX9_program_5 ?_
  refine x_cut (pc := 8) (wr := ([0, 4, 5, 6, 7, 8].filterMap (fun i => (wX9 cs a q ++ wX3 cs (q 1) (fun _ => q 0) R ++ wX6 cs (q 0) qT T ++ wX7 cs (q 2) qS S ++ wX2 cs (q 3) qDr Dr)[i]?))) (ws2 := wX9 cs a q ++ wX3 cs (q 1) (fun _ => q 0) R' ++ wX6 cs (q 0) qT T ++ wX7 cs (q 2) qS S ++ wX2 cs (q 3) qDr Dr') X hw [1, 2, 3, 9, 10, 11, 12, 13, 14, 15, 16] [0, 4, 5, 6, 7, 8] [0, 6, 7, 8, 1, 2, 3, 4, 5, 9, 10, 11, 12, 13, 14, 15, 16] rfl rfl (by decide) (by decide) rfl (by decide) (va_runV (As := [.ref (q 3)]) (rest := []) ⟨hx, hb, hml, hown, hts⟩ (c_X3_readInto l D cs ad ar (q 1) (q 3) (fun _ => q 0) qT qDr R T Dr r R' Dr' hc _) (cwV 1 hts gX9_program_X3_readInto rfl rfl rfl (by decide +kernel) ⟨Nat.le_of_ble_eq_true rfl, Nat.le_of_ble_eq_true rfl⟩) ⟨CPE_blind, va_recv hK hw.1 (ci := 3) (q0 := 1) rfl rfl, x_preCE X hE hw [1, 2, 3, 9, 10, 11, 12, 13, 14, 15, 16] rfl (by decide) [.ref (q 1), .ref (q 3)]⟩ rfl rfl hl.1 rfl (lv_room (Nat.le_of_ble_eq_true rfl)) dX9_program_8 ⟨Nat.zero_le _, Nat.zero_le _⟩) (fun H locs hw => ?_)
  refine lv_iconst (pc := 11) (v := (-1)) hx hb dX9_program_11 (by decide) ?_
  refine lv_icmp_eq (pc := 12) (tgt := 18) hx hb dX9_program_12 (by decide) (fun c1 => absurd c1 hv) (fun c1 => ?_)
  refine lv_bipush (pc := 15) (v := (-4)) hx hb dX9_program_15 (by decide) ?_
  exact hret _ _ 17 _ hw ⟨_, rfl, rfl⟩ dX9_program_17
set_option maxHeartbeats 4000000 in
set_option maxRecDepth 100000 in
theorem c_X9_program_ok (l : Launch) (D : va_G) (cs : CS) (ad ar : Nat → Nat) (a : Nat) (q qT qS qDr : Nat → Nat) (R T S Dr : PS) (r : Int32) (R' Dr' : PS) (hc : f_X3_readInto R T Dr = some (r, R', Dr')) (hv : r = -1) : CTE l D (TY cs) ad ar yX9_program wsX9_program rmX9_program [.ref a] (wX9 cs a q ++ wX3 cs (q 1) (fun _ => q 0) R ++ wX6 cs (q 0) qT T ++ wX7 cs (q 2) qS S ++ wX2 cs (q 3) qDr Dr) (some (.int (Dr'.1 5))) (wX9 cs a (va_up q 3 (qS 0)) ++ wX3 cs (q 1) (fun _ => q 0) R' ++ wX6 cs (q 0) qT (sI T 1 0) ++ wX7 cs (q 2) (va_up qS 0 (q 3)) (sI S 3 1) ++ wX2 cs (q 3) qDr Dr') := by
  refine CTE.ofW (own := RX9) (cc := cX9_program) (maxL := 2) (ret := some .int) (by decide) rfl rfl (Nat.le_of_ble_eq_true rfl) ?_
  intro p e s m args below meth c A Q hE X hret ls hl hw
  obtain ⟨hx, hb, hml, hown, hts, hK, hA, hr, hlk⟩ := id X
  have hl : lv_has ls 2 [(0, .ref a)] := hl
  refine lv_aload_n (pc := 0) hx hb dX9_program_0 rfl (lv_at hl 0 rfl) ?_
  refine x_get (pc := 1) X hw in_X9_program_X9 0 rfl rfl 1 (by decide) (List.mem_of_getElem? (i := 1) rfl) rfl dX9_program_1 ?_
  refine lv_aload_n (pc := 4) hx hb dX9_program_4 rfl (lv_at hl 0 rfl) ?_
  refine x_get (pc := 5) X hw in_X9_program_X9 0 rfl rfl 3 (by decide) (List.mem_of_getElem? (i := 2) rfl) rfl dX9_program_5 ?_
  refine x_cut (pc := 8) (wr := ([0, 4, 5, 6, 7, 8].filterMap (fun i => (wX9 cs a q ++ wX3 cs (q 1) (fun _ => q 0) R ++ wX6 cs (q 0) qT T ++ wX7 cs (q 2) qS S ++ wX2 cs (q 3) qDr Dr)[i]?))) (ws2 := wX9 cs a q ++ wX3 cs (q 1) (fun _ => q 0) R' ++ wX6 cs (q 0) qT T ++ wX7 cs (q 2) qS S ++ wX2 cs (q 3) qDr Dr') X hw [1, 2, 3, 9, 10, 11, 12, 13, 14, 15, 16] [0, 4, 5, 6, 7, 8] [0, 6, 7, 8, 1, 2, 3, 4, 5, 9, 10, 11, 12, 13, 14, 15, 16] rfl rfl (by decide) (by decide) rfl (by decide) (va_runV (As := [.ref (q 3)]) (rest := []) ⟨hx, hb, hml, hown, hts⟩ (c_X3_readInto l D cs ad ar (q 1) (q 3) (fun _ => q 0) qT qDr R T Dr r R' Dr' hc _) (cwV 1 hts gX9_program_X3_readInto rfl rfl rfl (by decide +kernel) ⟨Nat.le_of_ble_eq_true rfl, Nat.le_of_ble_eq_true rfl⟩) ⟨CPE_blind, va_recv hK hw.1 (ci := 3) (q0 := 1) rfl rfl, x_preCE X hE hw [1, 2, 3, 9, 10, 11, 12, 13, 14, 15, 16] rfl (by decide) [.ref (q 1), .ref (q 3)]⟩ rfl rfl hl.1 rfl (lv_room (Nat.le_of_ble_eq_true rfl)) dX9_program_8 ⟨Nat.zero_le _, Nat.zero_le _⟩) (fun H locs hw => ?_)
  refine lv_iconst (pc := 11) (v := (-1)) hx hb dX9_program_11 (by decide) ?_
  refine lv_icmp_eq (pc := 12) (tgt := 18) hx hb dX9_program_12 (by decide) (fun c1 => ?_) (fun c1 => absurd hv c1)
  refine lv_aload_n (pc := 18) hx hb dX9_program_18 rfl (lv_at hl 0 rfl) ?_
  refine x_get (pc := 19) X hw in_X9_program_X9 0 rfl rfl 2 (by decide) (List.mem_of_getElem? (i := 3) rfl) rfl dX9_program_19 ?_
  refine lv_aload_n (pc := 22) hx hb dX9_program_22 rfl (lv_at hl 0 rfl) ?_
  refine x_get (pc := 23) X hw in_X9_program_X9 0 rfl rfl 3 (by decide) (List.mem_of_getElem? (i := 2) rfl) rfl dX9_program_23 ?_
  refine x_cut (pc := 26) (wr := ([0, 1, 2, 3, 9, 10, 11, 12, 13, 14, 15, 16].filterMap (fun i => (wX9 cs a q ++ wX3 cs (q 1) (fun _ => q 0) R' ++ wX6 cs (q 0) qT T ++ wX7 cs (q 2) qS S ++ wX2 cs (q 3) qDr Dr')[i]?))) (ws2 := wX9 cs a q ++ wX3 cs (q 1) (fun _ => q 0) R' ++ wX6 cs (q 0) qT T ++ wX7 cs (q 2) (va_up qS 0 (q 3)) (sI S 3 1) ++ wX2 cs (q 3) qDr Dr') X hw [4, 5, 6, 7, 8] [0, 1, 2, 3, 9, 10, 11, 12, 13, 14, 15, 16] [0, 1, 2, 3, 12, 13, 14, 15, 16, 4, 5, 6, 7, 8, 9, 10, 11] rfl rfl (by decide) (by decide) rfl (by decide) (va_runV (As := [.ref (q 3)]) (rest := []) ⟨hx, hb, hml, hown, hts⟩ (c_X7_replaceProgram l D cs (q 2) (q 3) qS S _) (cwV 1 hts gX9_program_X7_replaceProgram rfl rfl rfl (by decide +kernel) ⟨Nat.le_of_ble_eq_true rfl, Nat.le_of_ble_eq_true rfl⟩) ⟨CP_blind, va_recv hK hw.1 (ci := 7) (q0 := 4) rfl rfl, x_preC X hw [4, 5, 6, 7, 8] rfl (by decide) [.ref (q 2), .ref (q 3)]⟩ rfl rfl hl.1 rfl (lv_room (Nat.le_of_ble_eq_true rfl)) dX9_program_26 ⟨Nat.zero_le _, Nat.zero_le _⟩) (fun H locs hw => ?_)
  refine lv_astore_n (lv' := [(1, .ref (qS 0)), (0, .ref a)]) (pc := 29) hx hb dX9_program_29 rfl hl (by decide) rfl (fun ls hl => ?_)
  refine lv_aload_n (pc := 30) hx hb dX9_program_30 rfl (lv_at hl 1 rfl) ?_
  refine lv_aload_n (pc := 31) hx hb dX9_program_31 rfl (lv_at hl 0 rfl) ?_
  refine x_put (pc := 32) X hw in_X9_program_X9 tyX9 tyX9_ok nmX9 0 rfl rfl 3 (by decide) (List.mem_of_getElem? (i := 2) rfl) rfl rfl rfl (Nat.le_of_ble_eq_true rfl) dX9_program_32 (ws2 := wX9 cs a (va_up q 3 (qS 0)) ++ wX3 cs (q 1) (fun _ => q 0) R' ++ wX6 cs (q 0) qT T ++ wX7 cs (q 2) (va_up qS 0 (q 3)) (sI S 3 1) ++ wX2 cs (q 3) qDr Dr') rfl (fun H locs hw => ?_)
  refine lv_aload_n (pc := 35) hx hb dX9_program_35 rfl (lv_at hl 1 rfl) ?_
  refine x_get (pc := 36) X hw in_X9_program_X9 0 rfl rfl 0 (by decide) (List.mem_of_getElem? (i := 4) rfl) rfl dX9_program_36 ?_
  refine lv_iconst (pc := 39) (v := 0) hx hb dX9_program_39 (by decide) ?_
  refine x_put (pc := 40) X hw in_X9_program_X6 tyX6 tyX6_ok nmX6 2 rfl rfl 1 (by decide) (List.mem_of_getElem? (i := 5) rfl) rfl rfl rfl (Nat.le_of_ble_eq_true rfl) dX9_program_40 (ws2 := wX9 cs a (va_up q 3 (qS 0)) ++ wX3 cs (q 1) (fun _ => q 0) R' ++ wX6 cs (q 0) qT (sI T 1 0) ++ wX7 cs (q 2) (va_up qS 0 (q 3)) (sI S 3 1) ++ wX2 cs (q 3) qDr Dr') rfl (fun H locs hw => ?_)
  refine lv_aload_n (pc := 43) hx hb dX9_program_43 rfl (lv_at hl 1 rfl) ?_
  refine x_get (pc := 44) X hw in_X9_program_X9 0 rfl rfl 2 (by decide) (List.mem_of_getElem? (i := 3) rfl) rfl dX9_program_44 ?_
  refine x_get (pc := 47) X hw in_X9_program_X7 4 rfl rfl 0 (by decide) (List.mem_of_getElem? (i := 6) rfl) rfl dX9_program_47 ?_
  refine x_get (pc := 50) X hw in_X9_program_X2 9 rfl rfl 5 (by decide) (List.mem_of_getElem? (i := 7) rfl) rfl dX9_program_50 ?_
  exact hret _ _ 53 _ hw ⟨_, rfl, rfl⟩ dX9_program_53
