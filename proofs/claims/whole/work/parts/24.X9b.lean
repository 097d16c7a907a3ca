theorem in_X9_byMeans_X9 : ∀ w ∈ wsX90, w ∈ wsX9_byMeans := fun _ h => List.mem_cons_of_mem _ (List.mem_append_left _ (List.mem_append_right _ h))
theorem in_X9_byMeans_X8 : ∀ w ∈ wsX80, w ∈ wsX9_byMeans := fun _ h => List.mem_cons_of_mem _ (List.mem_append_right _ h)
abbrev rmX9_byMeans : Room := { frames := 4, cells := 0, slots := 0, locals := 95 }
def f_X9_byMeans (V : PS) (p1 : Int32) : Option (Int32) :=
  b1 (f_X9_isChoice p1) fun v1 =>
  b1 (
    if v1 = 0 then
      some ((-3) : Int32)
    else
    b1 (f_X8_sidesByMeans V p1) fun v4 =>
    some v4) fun v2 =>
  some v2
set_option maxHeartbeats 4000000 in
set_option maxRecDepth 100000 in
theorem c_X9_byMeans (l : Launch) (D : va_G) (cs : CS) (a : Nat) (q : Nat → Nat) (qV : Nat → Nat) (V : PS) (p1 : Int32) (r : Int32) (hf : f_X9_byMeans V p1 = some r) : CT l D (TY cs) yX9_byMeans wsX9_byMeans rmX9_byMeans [.ref a, .int p1] (wX9 cs a q ++ wX8 cs (q 4) qV V) (some (.int r)) (wX9 cs a q ++ wX8 cs (q 4) qV V) := by
  refine CT.ofW (own := RX9) (cc := cX9_byMeans) (maxL := 2) (ret := some .int) (by decide) rfl rfl (Nat.le_of_ble_eq_true rfl) ?_
  intro p e s m args below meth c A Q X hret ls hl hw
  obtain ⟨hx, hb, hml, hown, hts, hK, hA, hr, hlk⟩ := id X
  have hl : lv_has ls 2 [(0, .ref a), (1, .int p1)] := hl
  unfold f_X9_byMeans at hf
  refine lv_iload_n (pc := 0) hx hb dX9_byMeans_0 rfl (lv_at hl 1 rfl) ?_
  obtain ⟨v1, hc, hf⟩ := b1_ob hf
  refine x_nil (pc := 1) X hw (va_runS (As := [.int p1]) (rest := []) ⟨hx, hb, hml, hown, hts⟩ (c_X9_isChoice l D cs p1 v1 hc _) (va_cwS 1 hts gX9_byMeans_X9_isChoice rfl rfl rfl (by decide +kernel) ⟨Nat.le_of_ble_eq_true rfl, Nat.le_of_ble_eq_true rfl⟩) ⟨CP_blind, x_preN X [.int p1]⟩ rfl rfl hl.1 rfl (lv_room (Nat.le_of_ble_eq_true rfl)) dX9_byMeans_1 ⟨Nat.zero_le _, Nat.zero_le _⟩) (fun H locs hw => ?_)
  obtain ⟨v2, hj, hf⟩ := b1_ob hf
  have J20_1 : ∀ (H : Heap) (locs : List Loc) (ls : Array Slot), WD D A s (wX9 cs a q ++ wX8 cs (q 4) qV V) H locs → lv_has ls 2 [] → W p l e rmX9_byMeans s m args below meth c H locs 0 0 Q (F0 m 20 ls [.int v2]) := by
    intro H locs ls hw hl
    cases hf
    exact hret _ _ 20 _ hw ⟨_, rfl, rfl⟩ dX9_byMeans_20
  clear hf; have hf := hj; clear hj
  refine lv_if_eq (pc := 4) (tgt := 18) hx hb dX9_byMeans_4 (by decide) (fun c3 => ?_) (fun c3 => ?_)
  · have hf := ipos c3 hf
    refine lv_bipush (pc := 18) (v := (-3)) hx hb dX9_byMeans_18 (by decide) ?_
    cases hf
    exact J20_1 _ _ _ hw (lv_sub hl [] rfl)
  · have hf := ineg c3 hf
    refine lv_aload_n (pc := 7) hx hb dX9_byMeans_7 rfl (lv_at hl 0 rfl) ?_
    refine x_get (pc := 8) X hw in_X9_byMeans_X9 0 rfl rfl 4 (by decide) (List.mem_of_getElem? (i := 1) rfl) rfl dX9_byMeans_8 ?_
    refine lv_iload_n (pc := 11) hx hb dX9_byMeans_11 rfl (lv_at hl 1 rfl) ?_
    obtain ⟨v4, hc, hf⟩ := b1_ob hf
    refine x_cut (pc := 12) (wr := ([0].filterMap (fun i => (wX9 cs a q ++ wX8 cs (q 4) qV V)[i]?))) (ws2 := wX9 cs a q ++ wX8 cs (q 4) qV V) X hw [1, 2, 3, 4, 5, 6, 7] [0] [0, 1, 2, 3, 4, 5, 6, 7] rfl rfl (by decide) (by decide) rfl (by decide) (va_runV (As := [.int p1]) (rest := []) ⟨hx, hb, hml, hown, hts⟩ (c_X8_sidesByMeans l D cs (q 4) qV V p1 v4 hc _) (cwV 1 hts gX9_byMeans_X8_sidesByMeans rfl rfl rfl (by decide +kernel) ⟨Nat.le_of_ble_eq_true rfl, Nat.le_of_ble_eq_true rfl⟩) ⟨CP_blind, va_recv hK hw.1 (ci := 8) (q0 := 1) rfl rfl, x_preC X hw [1, 2, 3, 4, 5, 6, 7] rfl (by decide) [.ref (q 4), .int p1]⟩ rfl rfl hl.1 rfl (lv_room (Nat.le_of_ble_eq_true rfl)) dX9_byMeans_12 ⟨Nat.zero_le _, Nat.zero_le _⟩) (fun H locs hw => ?_)
    refine lv_goto (pc := 15) (tgt := 20) hx hb dX9_byMeans_15 (by decide) ?_
    cases hf
    exact J20_1 _ _ _ hw (lv_sub hl [] rfl)

theorem in_X9_best_X9 : ∀ w ∈ wsX90, w ∈ wsX9_best := fun _ h => List.mem_cons_of_mem _ (List.mem_append_left _ (List.mem_append_right _ h))
theorem in_X9_best_X8 : ∀ w ∈ wsX80, w ∈ wsX9_best := fun _ h => List.mem_cons_of_mem _ (List.mem_append_right _ h)
abbrev rmX9_best : Room := { frames := 3, cells := 0, slots := 0, locals := 71 }
def f_X9_best (V : PS) (p1 : Int32) : Option (Int32) :=
  b1 (f_X9_isChoice p1) fun v1 =>
  b1 (
    if v1 = 0 then
      some ((-3) : Int32)
    else
    b1 (f_X8_bestSides V p1) fun v4 =>
    some v4) fun v2 =>
  some v2
set_option maxHeartbeats 4000000 in
set_option maxRecDepth 100000 in
theorem c_X9_best (l : Launch) (D : va_G) (cs : CS) (a : Nat) (q : Nat → Nat) (qV : Nat → Nat) (V : PS) (p1 : Int32) (r : Int32) (hf : f_X9_best V p1 = some r) : CT l D (TY cs) yX9_best wsX9_best rmX9_best [.ref a, .int p1] (wX9 cs a q ++ wX8 cs (q 4) qV V) (some (.int r)) (wX9 cs a q ++ wX8 cs (q 4) qV V) := by
  refine CT.ofW (own := RX9) (cc := cX9_best) (maxL := 2) (ret := some .int) (by decide) rfl rfl (Nat.le_of_ble_eq_true rfl) ?_
  intro p e s m args below meth c A Q X hret ls hl hw
  obtain ⟨hx, hb, hml, hown, hts, hK, hA, hr, hlk⟩ := id X
  have hl : lv_has ls 2 [(0, .ref a), (1, .int p1)] := hl
  unfold f_X9_best at hf
  refine lv_iload_n (pc := 0) hx hb dX9_best_0 rfl (lv_at hl 1 rfl) ?_
  obtain ⟨v1, hc, hf⟩ := b1_ob hf
  refine x_nil (pc := 1) X hw (va_runS (As := [.int p1]) (rest := []) ⟨hx, hb, hml, hown, hts⟩ (c_X9_isChoice l D cs p1 v1 hc _) (va_cwS 1 hts gX9_best_X9_isChoice rfl rfl rfl (by decide +kernel) ⟨Nat.le_of_ble_eq_true rfl, Nat.le_of_ble_eq_true rfl⟩) ⟨CP_blind, x_preN X [.int p1]⟩ rfl rfl hl.1 rfl (lv_room (Nat.le_of_ble_eq_true rfl)) dX9_best_1 ⟨Nat.zero_le _, Nat.zero_le _⟩) (fun H locs hw => ?_)
  obtain ⟨v2, hj, hf⟩ := b1_ob hf
  have J20_1 : ∀ (H : Heap) (locs : List Loc) (ls : Array Slot), WD D A s (wX9 cs a q ++ wX8 cs (q 4) qV V) H locs → lv_has ls 2 [] → W p l e rmX9_best s m args below meth c H locs 0 0 Q (F0 m 20 ls [.int v2]) := by
    intro H locs ls hw hl
    cases hf
    exact hret _ _ 20 _ hw ⟨_, rfl, rfl⟩ dX9_best_20
  clear hf; have hf := hj; clear hj
  refine lv_if_eq (pc := 4) (tgt := 18) hx hb dX9_best_4 (by decide) (fun c3 => ?_) (fun c3 => ?_)
  · have hf := ipos c3 hf
    refine lv_bipush (pc := 18) (v := (-3)) hx hb dX9_best_18 (by decide) ?_
    cases hf
    exact J20_1 _ _ _ hw (lv_sub hl [] rfl)
  · have hf := ineg c3 hf
    refine lv_aload_n (pc := 7) hx hb dX9_best_7 rfl (lv_at hl 0 rfl) ?_
    refine x_get (pc := 8) X hw in_X9_best_X9 0 rfl rfl 4 (by decide) (List.mem_of_getElem? (i := 1) rfl) rfl dX9_best_8 ?_
    refine lv_iload_n (pc := 11) hx hb dX9_best_11 rfl (lv_at hl 1 rfl) ?_
    obtain ⟨v4, hc, hf⟩ := b1_ob hf
    refine x_cut (pc := 12) (wr := ([0].filterMap (fun i => (wX9 cs a q ++ wX8 cs (q 4) qV V)[i]?))) (ws2 := wX9 cs a q ++ wX8 cs (q 4) qV V) X hw [1, 2, 3, 4, 5, 6, 7] [0] [0, 1, 2, 3, 4, 5, 6, 7] rfl rfl (by decide) (by decide) rfl (by decide) (va_runV (As := [.int p1]) (rest := []) ⟨hx, hb, hml, hown, hts⟩ (c_X8_bestSides l D cs (q 4) qV V p1 v4 hc _) (cwV 1 hts gX9_best_X8_bestSides rfl rfl rfl (by decide +kernel) ⟨Nat.le_of_ble_eq_true rfl, Nat.le_of_ble_eq_true rfl⟩) ⟨CP_blind, va_recv hK hw.1 (ci := 8) (q0 := 1) rfl rfl, x_preC X hw [1, 2, 3, 4, 5, 6, 7] rfl (by decide) [.ref (q 4), .int p1]⟩ rfl rfl hl.1 rfl (lv_room (Nat.le_of_ble_eq_true rfl)) dX9_best_12 ⟨Nat.zero_le _, Nat.zero_le _⟩) (fun H locs hw => ?_)
    refine lv_goto (pc := 15) (tgt := 20) hx hb dX9_best_15 (by decide) ?_
    cases hf
    exact J20_1 _ _ _ hw (lv_sub hl [] rfl)

theorem in_X9_heap_X9 : ∀ w ∈ wsX90, w ∈ wsX9_heap := fun _ h => List.mem_cons_of_mem _ (List.mem_append_left _ (List.mem_append_left _ (List.mem_append_right _ h)))
theorem in_X9_heap_X8 : ∀ w ∈ wsX80, w ∈ wsX9_heap := fun _ h => List.mem_cons_of_mem _ (List.mem_append_left _ (List.mem_append_right _ h))
theorem in_X9_heap_X0 : ∀ w ∈ wsX00, w ∈ wsX9_heap := fun _ h => List.mem_cons_of_mem _ (List.mem_append_right _ h)
abbrev rmX9_heap : Room := { frames := 1, cells := 0, slots := 0, locals := 21 }
def f_X9_heap (V : PS) (Hp : PS) (p1 : Int32) : Option (Int32 × PS) :=
  b1 (f_X8_hasKnotsOf V p1) fun v1 =>
  b2 (
    if v1 = 0 then
      some (((-3) : Int32), Hp)
    else
    b2 (f_X0_add Hp p1) fun v5 Hp6 =>
    some (v5, Hp6)) fun v2 Hp3 =>
  some (v2, Hp3)
set_option maxHeartbeats 4000000 in
set_option maxRecDepth 100000 in
theorem c_X9_heap (l : Launch) (D : va_G) (cs : CS) (a : Nat) (q : Nat → Nat) (qV : Nat → Nat) (qH : Nat → Nat) (V : PS) (Hp : PS) (p1 : Int32) (r : Int32) (Hp' : PS) (hf : f_X9_heap V Hp p1 = some (r, Hp')) : CT l D (TY cs) yX9_heap wsX9_heap rmX9_heap [.ref a, .int p1] (wX9 cs a q ++ wX8 cs (q 4) qV V ++ wX0 cs (q 5) qH Hp) (some (.int r)) (wX9 cs a q ++ wX8 cs (q 4) qV V ++ wX0 cs (q 5) qH Hp') := by
  refine CT.ofW (own := RX9) (cc := cX9_heap) (maxL := 2) (ret := some .int) (by decide) rfl rfl (Nat.le_of_ble_eq_true rfl) ?_
  intro p e s m args below meth c A Q X hret ls hl hw
  obtain ⟨hx, hb, hml, hown, hts, hK, hA, hr, hlk⟩ := id X
  have hl : lv_has ls 2 [(0, .ref a), (1, .int p1)] := hl
  unfold f_X9_heap at hf
  refine lv_aload_n (pc := 0) hx hb dX9_heap_0 rfl (lv_at hl 0 rfl) ?_
  refine x_get (pc := 1) X hw in_X9_heap_X9 0 rfl rfl 4 (by decide) (List.mem_of_getElem? (i := 1) rfl) rfl dX9_heap_1 ?_
  refine lv_iload_n (pc := 4) hx hb dX9_heap_4 rfl (lv_at hl 1 rfl) ?_
  obtain ⟨v1, hc, hf⟩ := b1_ob hf
  refine x_cut (pc := 5) (wr := ([0, 8, 9].filterMap (fun i => (wX9 cs a q ++ wX8 cs (q 4) qV V ++ wX0 cs (q 5) qH Hp)[i]?))) (ws2 := wX9 cs a q ++ wX8 cs (q 4) qV V ++ wX0 cs (q 5) qH Hp) X hw [1, 2, 3, 4, 5, 6, 7] [0, 8, 9] [0, 3, 4, 5, 6, 7, 8, 9, 1, 2] rfl rfl (by decide) (by decide) rfl (by decide) (va_runV (As := [.int p1]) (rest := []) ⟨hx, hb, hml, hown, hts⟩ (c_X8_hasKnotsOf l D cs (q 4) qV V p1 v1 hc _) (cwV 1 hts gX9_heap_X8_hasKnotsOf rfl rfl rfl (by decide +kernel) ⟨Nat.le_of_ble_eq_true rfl, Nat.le_of_ble_eq_true rfl⟩) ⟨CP_blind, va_recv hK hw.1 (ci := 8) (q0 := 1) rfl rfl, x_preC X hw [1, 2, 3, 4, 5, 6, 7] rfl (by decide) [.ref (q 4), .int p1]⟩ rfl rfl hl.1 rfl (lv_room (Nat.le_of_ble_eq_true rfl)) dX9_heap_5 ⟨Nat.zero_le _, Nat.zero_le _⟩) (fun H locs hw => ?_)
  obtain ⟨v2, Hp3, hj, hf⟩ := b2_ob hf
  have J24_1 : ∀ (H : Heap) (locs : List Loc) (ls : Array Slot), WD D A s (wX9 cs a q ++ wX8 cs (q 4) qV V ++ wX0 cs (q 5) qH Hp3) H locs → lv_has ls 2 [] → W p l e rmX9_heap s m args below meth c H locs 0 0 Q (F0 m 24 ls [.int v2]) := by
    intro H locs ls hw hl
    cases hf
    exact hret _ _ 24 _ hw ⟨_, rfl, rfl⟩ dX9_heap_24
  clear hf; have hf := hj; clear hj
  refine lv_if_eq (pc := 8) (tgt := 22) hx hb dX9_heap_8 (by decide) (fun c4 => ?_) (fun c4 => ?_)
  · have hf := ipos c4 hf
    refine lv_bipush (pc := 22) (v := (-3)) hx hb dX9_heap_22 (by decide) ?_
    cases hf
    exact J24_1 _ _ _ hw (lv_sub hl [] rfl)
  · have hf := ineg c4 hf
    refine lv_aload_n (pc := 11) hx hb dX9_heap_11 rfl (lv_at hl 0 rfl) ?_
    refine x_get (pc := 12) X hw in_X9_heap_X9 0 rfl rfl 5 (by decide) (List.mem_of_getElem? (i := 2) rfl) rfl dX9_heap_12 ?_
    refine lv_iload_n (pc := 15) hx hb dX9_heap_15 rfl (lv_at hl 1 rfl) ?_
    obtain ⟨v5, Hp6, hc, hf⟩ := b2_ob hf
    refine x_cut (pc := 16) (wr := ([0, 1, 2, 3, 4, 5, 6, 7].filterMap (fun i => (wX9 cs a q ++ wX8 cs (q 4) qV V ++ wX0 cs (q 5) qH Hp)[i]?))) (ws2 := wX9 cs a q ++ wX8 cs (q 4) qV V ++ wX0 cs (q 5) qH Hp6) X hw [8, 9] [0, 1, 2, 3, 4, 5, 6, 7] [0, 1, 2, 3, 4, 5, 6, 7, 8, 9] rfl rfl (by decide) (by decide) rfl (by decide) (va_runV (As := [.int p1]) (rest := []) ⟨hx, hb, hml, hown, hts⟩ (c_X0_add l D cs (q 5) qH Hp p1 v5 Hp6 hc _) (cwV 1 hts gX9_heap_X0_add rfl rfl rfl (by decide +kernel) ⟨Nat.le_of_ble_eq_true rfl, Nat.le_of_ble_eq_true rfl⟩) ⟨CP_blind, va_recv hK hw.1 (ci := 0) (q0 := 8) rfl rfl, x_preC X hw [8, 9] rfl (by decide) [.ref (q 5), .int p1]⟩ rfl rfl hl.1 rfl (lv_room (Nat.le_of_ble_eq_true rfl)) dX9_heap_16 ⟨Nat.zero_le _, Nat.zero_le _⟩) (fun H locs hw => ?_)
    refine lv_goto (pc := 19) (tgt := 24) hx hb dX9_heap_19 (by decide) ?_
    cases hf
    exact J24_1 _ _ _ hw (lv_sub hl [] rfl)

theorem in_X9_made_X9 : ∀ w ∈ wsX90, w ∈ wsX9_made := fun _ h => List.mem_cons_of_mem _ (List.mem_append_left _ (List.mem_append_left _ (List.mem_append_right _ h)))
theorem in_X9_made_X8 : ∀ w ∈ wsX80, w ∈ wsX9_made := fun _ h => List.mem_cons_of_mem _ (List.mem_append_left _ (List.mem_append_right _ h))
theorem in_X9_made_X0 : ∀ w ∈ wsX00, w ∈ wsX9_made := fun _ h => List.mem_cons_of_mem _ (List.mem_append_right _ h)
abbrev rmX9_made : Room := { frames := 3, cells := 0, slots := 0, locals := 69 }
def f_X9_made (V : PS) (Hp : PS) (p1 : Int32) : Option (Int32 × PS) :=
  if p1 = 2 then
    b1 (
      if p1 = 3 then
        some (1 : Int32)
      else
      some (0 : Int32)) fun v2 =>
    b1 (f_X0_make Hp (V.1 0) v2) fun Hp4 =>
    some ((Hp4.1 1), Hp4)
  else
  if p1 = 3 then
    b1 (
      if p1 = 3 then
        some (1 : Int32)
      else
      some (0 : Int32)) fun v6 =>
    b1 (f_X0_make Hp (V.1 0) v6) fun Hp8 =>
    some ((Hp8.1 1), Hp8)
  else
  some ((-3), Hp)
set_option maxHeartbeats 4000000 in
set_option maxRecDepth 100000 in
theorem c_X9_made (l : Launch) (D : va_G) (cs : CS) (a : Nat) (q : Nat → Nat) (qV : Nat → Nat) (qH : Nat → Nat) (V : PS) (Hp : PS) (p1 : Int32) (r : Int32) (Hp' : PS) (hf : f_X9_made V Hp p1 = some (r, Hp')) : CT l D (TY cs) yX9_made wsX9_made rmX9_made [.ref a, .int p1] (wX9 cs a q ++ wX8 cs (q 4) qV V ++ wX0 cs (q 5) qH Hp) (some (.int r)) (wX9 cs a q ++ wX8 cs (q 4) qV V ++ wX0 cs (q 5) qH Hp') := by
  refine CT.ofW (own := RX9) (cc := cX9_made) (maxL := 2) (ret := some .int) (by decide) rfl rfl (Nat.le_of_ble_eq_true rfl) ?_
  intro p e s m args below meth c A Q X hret ls hl hw
  obtain ⟨hx, hb, hml, hown, hts, hK, hA, hr, hlk⟩ := id X
  have hl : lv_has ls 2 [(0, .ref a), (1, .int p1)] := hl
  unfold f_X9_made at hf
  refine lv_iload_n (pc := 0) hx hb dX9_made_0 rfl (lv_at hl 1 rfl) ?_
  refine lv_iconst (pc := 1) (v := 2) hx hb dX9_made_1 (by decide) ?_
  refine lv_icmp_eq (pc := 2) (tgt := 13) hx hb dX9_made_2 (by decide) (fun c1 => ?_) (fun c1 => ?_)
  · have hf := ipos c1 hf
    refine lv_aload_n (pc := 13) hx hb dX9_made_13 rfl (lv_at hl 0 rfl) ?_
    refine x_get (pc := 14) X hw in_X9_made_X9 0 rfl rfl 5 (by decide) (List.mem_of_getElem? (i := 1) rfl) rfl dX9_made_14 ?_
    refine lv_aload_n (pc := 17) hx hb dX9_made_17 rfl (lv_at hl 0 rfl) ?_
    refine x_get (pc := 18) X hw in_X9_made_X9 0 rfl rfl 4 (by decide) (List.mem_of_getElem? (i := 2) rfl) rfl dX9_made_18 ?_
    refine x_get (pc := 21) X hw in_X9_made_X8 1 rfl rfl 0 (by decide) (List.mem_of_getElem? (i := 3) rfl) rfl dX9_made_21 ?_
    refine lv_iload_n (pc := 24) hx hb dX9_made_24 rfl (lv_at hl 1 rfl) ?_
    refine lv_iconst (pc := 25) (v := 3) hx hb dX9_made_25 (by decide) ?_
    obtain ⟨v2, hj, hf⟩ := b1_ob hf
    have J34_1 : ∀ (H : Heap) (locs : List Loc) (ls : Array Slot), WD D A s (wX9 cs a q ++ wX8 cs (q 4) qV V ++ wX0 cs (q 5) qH Hp) H locs → lv_has ls 2 [(0, .ref a)] → W p l e rmX9_made s m args below meth c H locs 0 0 Q (F0 m 34 ls [.int v2, .int (V.1 0), .ref (q 5)]) := by
      intro H locs ls hw hl
      obtain ⟨Hp4, hc, hf⟩ := b1_ob hf
      refine x_cut (pc := 34) (wr := ([0, 1, 2, 3, 4, 5, 6, 7].filterMap (fun i => (wX9 cs a q ++ wX8 cs (q 4) qV V ++ wX0 cs (q 5) qH Hp)[i]?))) (ws2 := wX9 cs a q ++ wX8 cs (q 4) qV V ++ wX0 cs (q 5) qH Hp4) X hw [8, 9] [0, 1, 2, 3, 4, 5, 6, 7] [0, 1, 2, 3, 4, 5, 6, 7, 8, 9] rfl rfl (by decide) (by decide) rfl (by decide) (va_runV (As := [.int (V.1 0), .int v2]) (rest := []) ⟨hx, hb, hml, hown, hts⟩ (c_X0_make l D cs (q 5) qH Hp (V.1 0) v2 Hp4 hc _) (cwV 2 hts gX9_made_X0_make rfl rfl rfl (by decide +kernel) ⟨Nat.le_of_ble_eq_true rfl, Nat.le_of_ble_eq_true rfl⟩) ⟨CP_blind, va_recv hK hw.1 (ci := 0) (q0 := 8) rfl rfl, x_preC X hw [8, 9] rfl (by decide) [.ref (q 5), .int (V.1 0), .int v2]⟩ rfl rfl hl.1 rfl (lv_room (Nat.le_of_ble_eq_true rfl)) dX9_made_34 ⟨Nat.zero_le _, Nat.zero_le _⟩) (fun H locs hw => ?_)
      refine lv_aload_n (pc := 37) hx hb dX9_made_37 rfl (lv_at hl 0 rfl) ?_
      refine x_get (pc := 38) X hw in_X9_made_X9 0 rfl rfl 5 (by decide) (List.mem_of_getElem? (i := 1) rfl) rfl dX9_made_38 ?_
      refine x_get (pc := 41) X hw in_X9_made_X0 8 rfl rfl 1 (by decide) (List.mem_of_getElem? (i := 4) rfl) rfl dX9_made_41 ?_
      cases hf
      exact hret _ _ 44 _ hw ⟨_, rfl, rfl⟩ dX9_made_44
    clear hf; have hf := hj; clear hj
    refine lv_icmp_ne (pc := 26) (tgt := 33) hx hb dX9_made_26 (by decide) (fun c3 => ?_) (fun c3 => ?_)
    · have hf := ineg c3 hf
      refine lv_iconst (pc := 33) (v := 0) hx hb dX9_made_33 (by decide) ?_
      cases hf
      exact J34_1 _ _ _ hw (lv_sub hl [0] rfl)
    · have hf := ipos c3 hf
      refine lv_iconst (pc := 29) (v := 1) hx hb dX9_made_29 (by decide) ?_
      refine lv_goto (pc := 30) (tgt := 34) hx hb dX9_made_30 (by decide) ?_
      cases hf
      exact J34_1 _ _ _ hw (lv_sub hl [0] rfl)
  · have hf := ineg c1 hf
    refine lv_iload_n (pc := 5) hx hb dX9_made_5 rfl (lv_at hl 1 rfl) ?_
    refine lv_iconst (pc := 6) (v := 3) hx hb dX9_made_6 (by decide) ?_
    refine lv_icmp_eq (pc := 7) (tgt := 13) hx hb dX9_made_7 (by decide) (fun c5 => ?_) (fun c5 => ?_)
    · have hf := ipos c5 hf
      refine lv_aload_n (pc := 13) hx hb dX9_made_13 rfl (lv_at hl 0 rfl) ?_
      refine x_get (pc := 14) X hw in_X9_made_X9 0 rfl rfl 5 (by decide) (List.mem_of_getElem? (i := 1) rfl) rfl dX9_made_14 ?_
      refine lv_aload_n (pc := 17) hx hb dX9_made_17 rfl (lv_at hl 0 rfl) ?_
      refine x_get (pc := 18) X hw in_X9_made_X9 0 rfl rfl 4 (by decide) (List.mem_of_getElem? (i := 2) rfl) rfl dX9_made_18 ?_
      refine x_get (pc := 21) X hw in_X9_made_X8 1 rfl rfl 0 (by decide) (List.mem_of_getElem? (i := 3) rfl) rfl dX9_made_21 ?_
      refine lv_iload_n (pc := 24) hx hb dX9_made_24 rfl (lv_at hl 1 rfl) ?_
      refine lv_iconst (pc := 25) (v := 3) hx hb dX9_made_25 (by decide) ?_
      obtain ⟨v6, hj, hf⟩ := b1_ob hf
      have J34_5 : ∀ (H : Heap) (locs : List Loc) (ls : Array Slot), WD D A s (wX9 cs a q ++ wX8 cs (q 4) qV V ++ wX0 cs (q 5) qH Hp) H locs → lv_has ls 2 [(0, .ref a)] → W p l e rmX9_made s m args below meth c H locs 0 0 Q (F0 m 34 ls [.int v6, .int (V.1 0), .ref (q 5)]) := by
        intro H locs ls hw hl
        obtain ⟨Hp8, hc, hf⟩ := b1_ob hf
        refine x_cut (pc := 34) (wr := ([0, 1, 2, 3, 4, 5, 6, 7].filterMap (fun i => (wX9 cs a q ++ wX8 cs (q 4) qV V ++ wX0 cs (q 5) qH Hp)[i]?))) (ws2 := wX9 cs a q ++ wX8 cs (q 4) qV V ++ wX0 cs (q 5) qH Hp8) X hw [8, 9] [0, 1, 2, 3, 4, 5, 6, 7] [0, 1, 2, 3, 4, 5, 6, 7, 8, 9] rfl rfl (by decide) (by decide) rfl (by decide) (va_runV (As := [.int (V.1 0), .int v6]) (rest := []) ⟨hx, hb, hml, hown, hts⟩ (c_X0_make l D cs (q 5) qH Hp (V.1 0) v6 Hp8 hc _) (cwV 2 hts gX9_made_X0_make rfl rfl rfl (by decide +kernel) ⟨Nat.le_of_ble_eq_true rfl, Nat.le_of_ble_eq_true rfl⟩) ⟨CP_blind, va_recv hK hw.1 (ci := 0) (q0 := 8) rfl rfl, x_preC X hw [8, 9] rfl (by decide) [.ref (q 5), .int (V.1 0), .int v6]⟩ rfl rfl hl.1 rfl (lv_room (Nat.le_of_ble_eq_true rfl)) dX9_made_34 ⟨Nat.zero_le _, Nat.zero_le _⟩) (fun H locs hw => ?_)
        refine lv_aload_n (pc := 37) hx hb dX9_made_37 rfl (lv_at hl 0 rfl) ?_
        refine x_get (pc := 38) X hw in_X9_made_X9 0 rfl rfl 5 (by decide) (List.mem_of_getElem? (i := 1) rfl) rfl dX9_made_38 ?_
        refine x_get (pc := 41) X hw in_X9_made_X0 8 rfl rfl 1 (by decide) (List.mem_of_getElem? (i := 4) rfl) rfl dX9_made_41 ?_
        cases hf
        exact hret _ _ 44 _ hw ⟨_, rfl, rfl⟩ dX9_made_44
      clear hf; have hf := hj; clear hj
      refine lv_icmp_ne (pc := 26) (tgt := 33) hx hb dX9_made_26 (by decide) (fun c7 => ?_) (fun c7 => ?_)
      · have hf := ineg c7 hf
        refine lv_iconst (pc := 33) (v := 0) hx hb dX9_made_33 (by decide) ?_
        cases hf
        exact J34_5 _ _ _ hw (lv_sub hl [0] rfl)
      · have hf := ipos c7 hf
        refine lv_iconst (pc := 29) (v := 1) hx hb dX9_made_29 (by decide) ?_
        refine lv_goto (pc := 30) (tgt := 34) hx hb dX9_made_30 (by decide) ?_
        cases hf
        exact J34_5 _ _ _ hw (lv_sub hl [0] rfl)
    · have hf := ineg c5 hf
      refine lv_bipush (pc := 10) (v := (-3)) hx hb dX9_made_10 (by decide) ?_
      cases hf
      exact hret _ _ 12 _ hw ⟨_, rfl, rfl⟩ dX9_made_12

theorem in_X9_of_X9 : ∀ w ∈ wsX90, w ∈ wsX9_of := fun _ h => List.mem_cons_of_mem _ (List.mem_append_left _ (List.mem_append_left _ (List.mem_append_right _ h)))
theorem in_X9_of_X0 : ∀ w ∈ wsX00, w ∈ wsX9_of := fun _ h => List.mem_cons_of_mem _ (List.mem_append_left _ (List.mem_append_right _ h))
theorem in_X9_of_X8 : ∀ w ∈ wsX80, w ∈ wsX9_of := fun _ h => List.mem_cons_of_mem _ (List.mem_append_right _ h)
abbrev rmX9_of : Room := { frames := 3, cells := 0, slots := 0, locals := 70 }
def f_X9_of (V : PS) (Hp : PS) (p1 : Int32) : Option (Int32) :=
  b1 (f_X9_isChoice p1) fun v1 =>
  b1 (
    if v1 = 0 then
      some ((-3) : Int32)
    else
    b1 (f_X0_bestBy Hp V p1) fun v4 =>
    some v4) fun v2 =>
  some v2
set_option maxHeartbeats 4000000 in
set_option maxRecDepth 100000 in
theorem c_X9_of (l : Launch) (D : va_G) (cs : CS) (a : Nat) (q : Nat → Nat) (qV : Nat → Nat) (qH : Nat → Nat) (V : PS) (Hp : PS) (p1 : Int32) (r : Int32) (hf : f_X9_of V Hp p1 = some r) : CT l D (TY cs) yX9_of wsX9_of rmX9_of [.ref a, .int p1] (wX9 cs a q ++ wX8 cs (q 4) qV V ++ wX0 cs (q 5) qH Hp) (some (.int r)) (wX9 cs a q ++ wX8 cs (q 4) qV V ++ wX0 cs (q 5) qH Hp) := by
  refine CT.ofW (own := RX9) (cc := cX9_of) (maxL := 2) (ret := some .int) (by decide) rfl rfl (Nat.le_of_ble_eq_true rfl) ?_
  intro p e s m args below meth c A Q X hret ls hl hw
  obtain ⟨hx, hb, hml, hown, hts, hK, hA, hr, hlk⟩ := id X
  have hl : lv_has ls 2 [(0, .ref a), (1, .int p1)] := hl
  unfold f_X9_of at hf
  refine lv_iload_n (pc := 0) hx hb dX9_of_0 rfl (lv_at hl 1 rfl) ?_
  obtain ⟨v1, hc, hf⟩ := b1_ob hf
  refine x_nil (pc := 1) X hw (va_runS (As := [.int p1]) (rest := []) ⟨hx, hb, hml, hown, hts⟩ (c_X9_isChoice l D cs p1 v1 hc _) (va_cwS 1 hts gX9_of_X9_isChoice rfl rfl rfl (by decide +kernel) ⟨Nat.le_of_ble_eq_true rfl, Nat.le_of_ble_eq_true rfl⟩) ⟨CP_blind, x_preN X [.int p1]⟩ rfl rfl hl.1 rfl (lv_room (Nat.le_of_ble_eq_true rfl)) dX9_of_1 ⟨Nat.zero_le _, Nat.zero_le _⟩) (fun H locs hw => ?_)
  obtain ⟨v2, hj, hf⟩ := b1_ob hf
  have J24_1 : ∀ (H : Heap) (locs : List Loc) (ls : Array Slot), WD D A s (wX9 cs a q ++ wX8 cs (q 4) qV V ++ wX0 cs (q 5) qH Hp) H locs → lv_has ls 2 [] → W p l e rmX9_of s m args below meth c H locs 0 0 Q (F0 m 24 ls [.int v2]) := by
    intro H locs ls hw hl
    cases hf
    exact hret _ _ 24 _ hw ⟨_, rfl, rfl⟩ dX9_of_24
  clear hf; have hf := hj; clear hj
  refine lv_if_eq (pc := 4) (tgt := 22) hx hb dX9_of_4 (by decide) (fun c3 => ?_) (fun c3 => ?_)
  · have hf := ipos c3 hf
    refine lv_bipush (pc := 22) (v := (-3)) hx hb dX9_of_22 (by decide) ?_
    cases hf
    exact J24_1 _ _ _ hw (lv_sub hl [] rfl)
  · have hf := ineg c3 hf
    refine lv_aload_n (pc := 7) hx hb dX9_of_7 rfl (lv_at hl 0 rfl) ?_
    refine x_get (pc := 8) X hw in_X9_of_X9 0 rfl rfl 5 (by decide) (List.mem_of_getElem? (i := 1) rfl) rfl dX9_of_8 ?_
    refine lv_aload_n (pc := 11) hx hb dX9_of_11 rfl (lv_at hl 0 rfl) ?_
    refine x_get (pc := 12) X hw in_X9_of_X9 0 rfl rfl 4 (by decide) (List.mem_of_getElem? (i := 2) rfl) rfl dX9_of_12 ?_
    refine lv_iload_n (pc := 15) hx hb dX9_of_15 rfl (lv_at hl 1 rfl) ?_
    obtain ⟨v4, hc, hf⟩ := b1_ob hf
    refine x_cut (pc := 16) (wr := ([0].filterMap (fun i => (wX9 cs a q ++ wX8 cs (q 4) qV V ++ wX0 cs (q 5) qH Hp)[i]?))) (ws2 := wX9 cs a q ++ wX8 cs (q 4) qV V ++ wX0 cs (q 5) qH Hp) X hw [8, 9, 1, 2, 3, 4, 5, 6, 7] [0] [0, 3, 4, 5, 6, 7, 8, 9, 1, 2] rfl rfl (by decide) (by decide) rfl (by decide) (va_runV (As := [.ref (q 4), .int p1]) (rest := []) ⟨hx, hb, hml, hown, hts⟩ (c_X0_bestBy l D cs (q 5) (q 4) qH qV Hp V p1 v4 hc _) (cwV 2 hts gX9_of_X0_bestBy rfl rfl rfl (by decide +kernel) ⟨Nat.le_of_ble_eq_true rfl, Nat.le_of_ble_eq_true rfl⟩) ⟨CP_blind, va_recv hK hw.1 (ci := 0) (q0 := 8) rfl rfl, x_preC X hw [8, 9, 1, 2, 3, 4, 5, 6, 7] rfl (by decide) [.ref (q 5), .ref (q 4), .int p1]⟩ rfl rfl hl.1 rfl (lv_room (Nat.le_of_ble_eq_true rfl)) dX9_of_16 ⟨Nat.zero_le _, Nat.zero_le _⟩) (fun H locs hw => ?_)
    refine lv_goto (pc := 19) (tgt := 24) hx hb dX9_of_19 (by decide) ?_
    cases hf
    exact J24_1 _ _ _ hw (lv_sub hl [] rfl)

theorem in_X9_even_X9 : ∀ w ∈ wsX90, w ∈ wsX9_even := fun _ h => List.mem_cons_of_mem _ (List.mem_append_left _ (List.mem_append_left _ (List.mem_append_right _ h)))
theorem in_X9_even_X8 : ∀ w ∈ wsX80, w ∈ wsX9_even := fun _ h => List.mem_cons_of_mem _ (List.mem_append_left _ (List.mem_append_right _ h))
theorem in_X9_even_X0 : ∀ w ∈ wsX00, w ∈ wsX9_even := fun _ h => List.mem_cons_of_mem _ (List.mem_append_right _ h)
abbrev rmX9_even : Room := { frames := 3, cells := 0, slots := 0, locals := 70 }
def f_X9_even (V : PS) (Hp : PS) (p1 : Int32) : Option (Int32) :=
  if p1 < 1 then
    some (-3)
  else
  if 3 < p1 then
    some (-3)
  else
  if p1 ≤ (V.1 0) then
    if (Hp.1 1) = 0 then
      some (-4)
    else
    b1 (f_X0_greatestLean Hp (V.1 0) p1) fun v5 =>
    b1 (
      if v5 = 0 then
        some (1 : Int32)
      else
      some (0 : Int32)) fun v6 =>
    some v6
  else
  some (-3)
set_option maxHeartbeats 4000000 in
set_option maxRecDepth 100000 in
theorem c_X9_even (l : Launch) (D : va_G) (cs : CS) (a : Nat) (q : Nat → Nat) (qV : Nat → Nat) (qH : Nat → Nat) (V : PS) (Hp : PS) (p1 : Int32) (r : Int32) (hf : f_X9_even V Hp p1 = some r) : CT l D (TY cs) yX9_even wsX9_even rmX9_even [.ref a, .int p1] (wX9 cs a q ++ wX8 cs (q 4) qV V ++ wX0 cs (q 5) qH Hp) (some (.int r)) (wX9 cs a q ++ wX8 cs (q 4) qV V ++ wX0 cs (q 5) qH Hp) := by
  refine CT.ofW (own := RX9) (cc := cX9_even) (maxL := 2) (ret := some .int) (by decide) rfl rfl (Nat.le_of_ble_eq_true rfl) ?_
  intro p e s m args below meth c A Q X hret ls hl hw
  obtain ⟨hx, hb, hml, hown, hts, hK, hA, hr, hlk⟩ := id X
  have hl : lv_has ls 2 [(0, .ref a), (1, .int p1)] := hl
  unfold f_X9_even at hf
  refine lv_iload_n (pc := 0) hx hb dX9_even_0 rfl (lv_at hl 1 rfl) ?_
  refine lv_iconst (pc := 1) (v := 1) hx hb dX9_even_1 (by decide) ?_
  refine lv_icmp_lt (pc := 2) (tgt := 21) hx hb dX9_even_2 (by decide) (fun c1 => ?_) (fun c1 => ?_)
  · have hf := ipos c1 hf
    refine lv_bipush (pc := 21) (v := (-3)) hx hb dX9_even_21 (by decide) ?_
    cases hf
    exact hret _ _ 23 _ hw ⟨_, rfl, rfl⟩ dX9_even_23
  · have hf := ineg c1 hf
    refine lv_iload_n (pc := 5) hx hb dX9_even_5 rfl (lv_at hl 1 rfl) ?_
    refine lv_iconst (pc := 6) (v := 3) hx hb dX9_even_6 (by decide) ?_
    refine lv_icmp_gt (pc := 7) (tgt := 21) hx hb dX9_even_7 (by decide) (fun c2 => ?_) (fun c2 => ?_)
    · have hf := ipos c2 hf
      refine lv_bipush (pc := 21) (v := (-3)) hx hb dX9_even_21 (by decide) ?_
      cases hf
      exact hret _ _ 23 _ hw ⟨_, rfl, rfl⟩ dX9_even_23
    · have hf := ineg c2 hf
      refine lv_iload_n (pc := 10) hx hb dX9_even_10 rfl (lv_at hl 1 rfl) ?_
      refine lv_aload_n (pc := 11) hx hb dX9_even_11 rfl (lv_at hl 0 rfl) ?_
      refine x_get (pc := 12) X hw in_X9_even_X9 0 rfl rfl 4 (by decide) (List.mem_of_getElem? (i := 1) rfl) rfl dX9_even_12 ?_
      refine x_get (pc := 15) X hw in_X9_even_X8 1 rfl rfl 0 (by decide) (List.mem_of_getElem? (i := 2) rfl) rfl dX9_even_15 ?_
      refine lv_icmp_le (pc := 18) (tgt := 24) hx hb dX9_even_18 (by decide) (fun c3 => ?_) (fun c3 => ?_)
      · have hf := ipos c3 hf
        refine lv_aload_n (pc := 24) hx hb dX9_even_24 rfl (lv_at hl 0 rfl) ?_
        refine x_get (pc := 25) X hw in_X9_even_X9 0 rfl rfl 5 (by decide) (List.mem_of_getElem? (i := 3) rfl) rfl dX9_even_25 ?_
        refine x_get (pc := 28) X hw in_X9_even_X0 8 rfl rfl 1 (by decide) (List.mem_of_getElem? (i := 4) rfl) rfl dX9_even_28 ?_
        refine lv_if_ne (pc := 31) (tgt := 37) hx hb dX9_even_31 (by decide) (fun c4 => ?_) (fun c4 => ?_)
        · have hf := ineg c4 hf
          refine lv_aload_n (pc := 37) hx hb dX9_even_37 rfl (lv_at hl 0 rfl) ?_
          refine x_get (pc := 38) X hw in_X9_even_X9 0 rfl rfl 5 (by decide) (List.mem_of_getElem? (i := 3) rfl) rfl dX9_even_38 ?_
          refine lv_aload_n (pc := 41) hx hb dX9_even_41 rfl (lv_at hl 0 rfl) ?_
          refine x_get (pc := 42) X hw in_X9_even_X9 0 rfl rfl 4 (by decide) (List.mem_of_getElem? (i := 1) rfl) rfl dX9_even_42 ?_
          refine x_get (pc := 45) X hw in_X9_even_X8 1 rfl rfl 0 (by decide) (List.mem_of_getElem? (i := 2) rfl) rfl dX9_even_45 ?_
          refine lv_iload_n (pc := 48) hx hb dX9_even_48 rfl (lv_at hl 1 rfl) ?_
          obtain ⟨v5, hc, hf⟩ := b1_ob hf
          refine x_cut (pc := 49) (wr := ([0, 1, 2, 3, 4, 5, 6, 7].filterMap (fun i => (wX9 cs a q ++ wX8 cs (q 4) qV V ++ wX0 cs (q 5) qH Hp)[i]?))) (ws2 := wX9 cs a q ++ wX8 cs (q 4) qV V ++ wX0 cs (q 5) qH Hp) X hw [8, 9] [0, 1, 2, 3, 4, 5, 6, 7] [0, 1, 2, 3, 4, 5, 6, 7, 8, 9] rfl rfl (by decide) (by decide) rfl (by decide) (va_runV (As := [.int (V.1 0), .int p1]) (rest := []) ⟨hx, hb, hml, hown, hts⟩ (c_X0_greatestLean l D cs (q 5) qH Hp (V.1 0) p1 v5 hc _) (cwV 2 hts gX9_even_X0_greatestLean rfl rfl rfl (by decide +kernel) ⟨Nat.le_of_ble_eq_true rfl, Nat.le_of_ble_eq_true rfl⟩) ⟨CP_blind, va_recv hK hw.1 (ci := 0) (q0 := 8) rfl rfl, x_preC X hw [8, 9] rfl (by decide) [.ref (q 5), .int (V.1 0), .int p1]⟩ rfl rfl hl.1 rfl (lv_room (Nat.le_of_ble_eq_true rfl)) dX9_even_49 ⟨Nat.zero_le _, Nat.zero_le _⟩) (fun H locs hw => ?_)
          obtain ⟨v6, hj, hf⟩ := b1_ob hf
          have J60_5 : ∀ (H : Heap) (locs : List Loc) (ls : Array Slot), WD D A s (wX9 cs a q ++ wX8 cs (q 4) qV V ++ wX0 cs (q 5) qH Hp) H locs → lv_has ls 2 [] → W p l e rmX9_even s m args below meth c H locs 0 0 Q (F0 m 60 ls [.int v6]) := by
            intro H locs ls hw hl
            cases hf
            exact hret _ _ 60 _ hw ⟨_, rfl, rfl⟩ dX9_even_60
          clear hf; have hf := hj; clear hj
          refine lv_if_ne (pc := 52) (tgt := 59) hx hb dX9_even_52 (by decide) (fun c7 => ?_) (fun c7 => ?_)
          · have hf := ineg c7 hf
            refine lv_iconst (pc := 59) (v := 0) hx hb dX9_even_59 (by decide) ?_
            cases hf
            exact J60_5 _ _ _ hw (lv_sub hl [] rfl)
          · have hf := ipos c7 hf
            refine lv_iconst (pc := 55) (v := 1) hx hb dX9_even_55 (by decide) ?_
            refine lv_goto (pc := 56) (tgt := 60) hx hb dX9_even_56 (by decide) ?_
            cases hf
            exact J60_5 _ _ _ hw (lv_sub hl [] rfl)
        · have hf := ipos c4 hf
          refine lv_bipush (pc := 34) (v := (-4)) hx hb dX9_even_34 (by decide) ?_
          cases hf
          exact hret _ _ 36 _ hw ⟨_, rfl, rfl⟩ dX9_even_36
      · have hf := ineg c3 hf
        refine lv_bipush (pc := 21) (v := (-3)) hx hb dX9_even_21 (by decide) ?_
        cases hf
        exact hret _ _ 23 _ hw ⟨_, rfl, rfl⟩ dX9_even_23

theorem in_X9_error_X9 : ∀ w ∈ wsX90, w ∈ wsX9_error := fun _ h => List.mem_cons_of_mem _ (List.mem_append_left _ (List.mem_append_left _ (List.mem_append_right _ h)))
theorem in_X9_error_X0 : ∀ w ∈ wsX00, w ∈ wsX9_error := fun _ h => List.mem_cons_of_mem _ (List.mem_append_left _ (List.mem_append_right _ h))
theorem in_X9_error_X8 : ∀ w ∈ wsX80, w ∈ wsX9_error := fun _ h => List.mem_cons_of_mem _ (List.mem_append_right _ h)
abbrev rmX9_error : Room := { frames := 3, cells := 0, slots := 0, locals := 70 }
def f_X9_error (V : PS) (Hp : PS) (p1 : Int32) (p2 : Int32) : Option (Int32) :=
  if p1 < 1 then
    some (-3)
  else
  if 8 < p1 then
    some (-3)
  else
  b1 (f_X9_isPart p2) fun v3 =>
  if v3 = 0 then
    some (-3)
  else
  if (Hp.1 1) = 0 then
    some (-4)
  else
  b1 (f_X0_greatestLean Hp (V.1 0) p1) fun v6 =>
  b1 (f_X9_lowest v6 (Hp.1 1) p2) fun v7 =>
  some v7
set_option maxHeartbeats 4000000 in
set_option maxRecDepth 100000 in
theorem c_X9_error (l : Launch) (D : va_G) (cs : CS) (a : Nat) (q : Nat → Nat) (qV : Nat → Nat) (qH : Nat → Nat) (V : PS) (Hp : PS) (p1 : Int32) (p2 : Int32) (r : Int32) (hf : f_X9_error V Hp p1 p2 = some r) : CT l D (TY cs) yX9_error wsX9_error rmX9_error [.ref a, .int p1, .int p2] (wX9 cs a q ++ wX8 cs (q 4) qV V ++ wX0 cs (q 5) qH Hp) (some (.int r)) (wX9 cs a q ++ wX8 cs (q 4) qV V ++ wX0 cs (q 5) qH Hp) := by
  refine CT.ofW (own := RX9) (cc := cX9_error) (maxL := 3) (ret := some .int) (by decide) rfl rfl (Nat.le_of_ble_eq_true rfl) ?_
  intro p e s m args below meth c A Q X hret ls hl hw
  obtain ⟨hx, hb, hml, hown, hts, hK, hA, hr, hlk⟩ := id X
  have hl : lv_has ls 3 [(0, .ref a), (1, .int p1), (2, .int p2)] := hl
  unfold f_X9_error at hf
  refine lv_iload_n (pc := 0) hx hb dX9_error_0 rfl (lv_at hl 1 rfl) ?_
  refine lv_iconst (pc := 1) (v := 1) hx hb dX9_error_1 (by decide) ?_
  refine lv_icmp_lt (pc := 2) (tgt := 18) hx hb dX9_error_2 (by decide) (fun c1 => ?_) (fun c1 => ?_)
  · have hf := ipos c1 hf
    refine lv_bipush (pc := 18) (v := (-3)) hx hb dX9_error_18 (by decide) ?_
    cases hf
    exact hret _ _ 20 _ hw ⟨_, rfl, rfl⟩ dX9_error_20
  · have hf := ineg c1 hf
    refine lv_iload_n (pc := 5) hx hb dX9_error_5 rfl (lv_at hl 1 rfl) ?_
    refine lv_bipush (pc := 6) (v := 8) hx hb dX9_error_6 (by decide) ?_
    refine lv_icmp_gt (pc := 8) (tgt := 18) hx hb dX9_error_8 (by decide) (fun c2 => ?_) (fun c2 => ?_)
    · have hf := ipos c2 hf
      refine lv_bipush (pc := 18) (v := (-3)) hx hb dX9_error_18 (by decide) ?_
      cases hf
      exact hret _ _ 20 _ hw ⟨_, rfl, rfl⟩ dX9_error_20
    · have hf := ineg c2 hf
      refine lv_iload_n (pc := 11) hx hb dX9_error_11 rfl (lv_at hl 2 rfl) ?_
      obtain ⟨v3, hc, hf⟩ := b1_ob hf
      refine x_nil (pc := 12) X hw (va_runS (As := [.int p2]) (rest := []) ⟨hx, hb, hml, hown, hts⟩ (c_X9_isPart l D cs p2 v3 hc _) (va_cwS 1 hts gX9_error_X9_isPart rfl rfl rfl (by decide +kernel) ⟨Nat.le_of_ble_eq_true rfl, Nat.le_of_ble_eq_true rfl⟩) ⟨CP_blind, x_preN X [.int p2]⟩ rfl rfl hl.1 rfl (lv_room (Nat.le_of_ble_eq_true rfl)) dX9_error_12 ⟨Nat.zero_le _, Nat.zero_le _⟩) (fun H locs hw => ?_)
      refine lv_if_ne (pc := 15) (tgt := 21) hx hb dX9_error_15 (by decide) (fun c4 => ?_) (fun c4 => ?_)
      · have hf := ineg c4 hf
        refine lv_aload_n (pc := 21) hx hb dX9_error_21 rfl (lv_at hl 0 rfl) ?_
        refine x_get (pc := 22) X hw in_X9_error_X9 0 rfl rfl 5 (by decide) (List.mem_of_getElem? (i := 1) rfl) rfl dX9_error_22 ?_
        refine x_get (pc := 25) X hw in_X9_error_X0 8 rfl rfl 1 (by decide) (List.mem_of_getElem? (i := 2) rfl) rfl dX9_error_25 ?_
        refine lv_if_ne (pc := 28) (tgt := 34) hx hb dX9_error_28 (by decide) (fun c5 => ?_) (fun c5 => ?_)
        · have hf := ineg c5 hf
          refine lv_aload_n (pc := 34) hx hb dX9_error_34 rfl (lv_at hl 0 rfl) ?_
          refine x_get (pc := 35) X hw in_X9_error_X9 0 rfl rfl 5 (by decide) (List.mem_of_getElem? (i := 1) rfl) rfl dX9_error_35 ?_
          refine lv_aload_n (pc := 38) hx hb dX9_error_38 rfl (lv_at hl 0 rfl) ?_
          refine x_get (pc := 39) X hw in_X9_error_X9 0 rfl rfl 4 (by decide) (List.mem_of_getElem? (i := 3) rfl) rfl dX9_error_39 ?_
          refine x_get (pc := 42) X hw in_X9_error_X8 1 rfl rfl 0 (by decide) (List.mem_of_getElem? (i := 4) rfl) rfl dX9_error_42 ?_
          refine lv_iload_n (pc := 45) hx hb dX9_error_45 rfl (lv_at hl 1 rfl) ?_
          obtain ⟨v6, hc, hf⟩ := b1_ob hf
          refine x_cut (pc := 46) (wr := ([0, 1, 2, 3, 4, 5, 6, 7].filterMap (fun i => (wX9 cs a q ++ wX8 cs (q 4) qV V ++ wX0 cs (q 5) qH Hp)[i]?))) (ws2 := wX9 cs a q ++ wX8 cs (q 4) qV V ++ wX0 cs (q 5) qH Hp) X hw [8, 9] [0, 1, 2, 3, 4, 5, 6, 7] [0, 1, 2, 3, 4, 5, 6, 7, 8, 9] rfl rfl (by decide) (by decide) rfl (by decide) (va_runV (As := [.int (V.1 0), .int p1]) (rest := []) ⟨hx, hb, hml, hown, hts⟩ (c_X0_greatestLean l D cs (q 5) qH Hp (V.1 0) p1 v6 hc _) (cwV 2 hts gX9_error_X0_greatestLean rfl rfl rfl (by decide +kernel) ⟨Nat.le_of_ble_eq_true rfl, Nat.le_of_ble_eq_true rfl⟩) ⟨CP_blind, va_recv hK hw.1 (ci := 0) (q0 := 8) rfl rfl, x_preC X hw [8, 9] rfl (by decide) [.ref (q 5), .int (V.1 0), .int p1]⟩ rfl rfl hl.1 rfl (lv_room (Nat.le_of_ble_eq_true rfl)) dX9_error_46 ⟨Nat.zero_le _, Nat.zero_le _⟩) (fun H locs hw => ?_)
          refine lv_aload_n (pc := 49) hx hb dX9_error_49 rfl (lv_at hl 0 rfl) ?_
          refine x_get (pc := 50) X hw in_X9_error_X9 0 rfl rfl 5 (by decide) (List.mem_of_getElem? (i := 1) rfl) rfl dX9_error_50 ?_
          refine x_get (pc := 53) X hw in_X9_error_X0 8 rfl rfl 1 (by decide) (List.mem_of_getElem? (i := 2) rfl) rfl dX9_error_53 ?_
          refine lv_iload_n (pc := 56) hx hb dX9_error_56 rfl (lv_at hl 2 rfl) ?_
          obtain ⟨v7, hc, hf⟩ := b1_ob hf
          refine x_nil (pc := 57) X hw (va_runS (As := [.int v6, .int (Hp.1 1), .int p2]) (rest := []) ⟨hx, hb, hml, hown, hts⟩ (c_X9_lowest l D cs v6 (Hp.1 1) p2 v7 hc _) (va_cwS 3 hts gX9_error_X9_lowest rfl rfl rfl (by decide +kernel) ⟨Nat.le_of_ble_eq_true rfl, Nat.le_of_ble_eq_true rfl⟩) ⟨CP_blind, x_preN X [.int v6, .int (Hp.1 1), .int p2]⟩ rfl rfl hl.1 rfl (lv_room (Nat.le_of_ble_eq_true rfl)) dX9_error_57 ⟨Nat.zero_le _, Nat.zero_le _⟩) (fun H locs hw => ?_)
          cases hf
          exact hret _ _ 60 _ hw ⟨_, rfl, rfl⟩ dX9_error_60
        · have hf := ipos c5 hf
          refine lv_bipush (pc := 31) (v := (-4)) hx hb dX9_error_31 (by decide) ?_
          cases hf
          exact hret _ _ 33 _ hw ⟨_, rfl, rfl⟩ dX9_error_33
      · have hf := ipos c4 hf
        refine lv_bipush (pc := 18) (v := (-3)) hx hb dX9_error_18 (by decide) ?_
        cases hf
        exact hret _ _ 20 _ hw ⟨_, rfl, rfl⟩ dX9_error_20

theorem in_X9_least_X9 : ∀ w ∈ wsX90, w ∈ wsX9_least := fun _ h => List.mem_cons_of_mem _ (List.mem_append_left _ (List.mem_append_right _ h))
theorem in_X9_least_X4 : ∀ w ∈ wsX40, w ∈ wsX9_least := fun _ h => List.mem_cons_of_mem _ (List.mem_append_right _ h)
abbrev rmX9_least : Room := { frames := 4, cells := 0, slots := 0, locals := 104 }
def f_X9_least (Sm : PS) (p1 : Int32) (p2 : Int32) (p3 : Int32) (p4 : Int32) : Option (Int32) :=
  if p1 < 1 then
    some (-3)
  else
  if 4 < p1 then
    some (-3)
  else
  if p2 < 1 then
    some (-3)
  else
  if 4 < p2 then
    some (-3)
  else
  b1 (f_X9_isRatio p3 p4) fun v5 =>
  if v5 = 0 then
    some (-3)
  else
  b1 (f_X4_leastHeap Sm p1 p2 p3 p4) fun v7 =>
  some v7
set_option maxHeartbeats 4000000 in
set_option maxRecDepth 100000 in
theorem c_X9_least (l : Launch) (D : va_G) (cs : CS) (a : Nat) (q : Nat → Nat) (qSm : Nat → Nat) (Sm : PS) (p1 : Int32) (p2 : Int32) (p3 : Int32) (p4 : Int32) (r : Int32) (hf : f_X9_least Sm p1 p2 p3 p4 = some r) : CT l D (TY cs) yX9_least wsX9_least rmX9_least [.ref a, .int p1, .int p2, .int p3, .int p4] (wX9 cs a q ++ wX4 cs (q 6) qSm Sm) (some (.int r)) (wX9 cs a q ++ wX4 cs (q 6) qSm Sm) := by
  refine CT.ofW (own := RX9) (cc := cX9_least) (maxL := 5) (ret := some .int) (by decide) rfl rfl (Nat.le_of_ble_eq_true rfl) ?_
  intro p e s m args below meth c A Q X hret ls hl hw
  obtain ⟨hx, hb, hml, hown, hts, hK, hA, hr, hlk⟩ := id X
  have hl : lv_has ls 5 [(0, .ref a), (1, .int p1), (2, .int p2), (3, .int p3), (4, .int p4)] := hl
  unfold f_X9_least at hf
  refine lv_iload_n (pc := 0) hx hb dX9_least_0 rfl (lv_at hl 1 rfl) ?_
  refine lv_iconst (pc := 1) (v := 1) hx hb dX9_least_1 (by decide) ?_
  refine lv_icmp_lt (pc := 2) (tgt := 29) hx hb dX9_least_2 (by decide) (fun c1 => ?_) (fun c1 => ?_)
  · have hf := ipos c1 hf
    refine lv_bipush (pc := 29) (v := (-3)) hx hb dX9_least_29 (by decide) ?_
    cases hf
    exact hret _ _ 31 _ hw ⟨_, rfl, rfl⟩ dX9_least_31
  · have hf := ineg c1 hf
    refine lv_iload_n (pc := 5) hx hb dX9_least_5 rfl (lv_at hl 1 rfl) ?_
    refine lv_iconst (pc := 6) (v := 4) hx hb dX9_least_6 (by decide) ?_
    refine lv_icmp_gt (pc := 7) (tgt := 29) hx hb dX9_least_7 (by decide) (fun c2 => ?_) (fun c2 => ?_)
    · have hf := ipos c2 hf
      refine lv_bipush (pc := 29) (v := (-3)) hx hb dX9_least_29 (by decide) ?_
      cases hf
      exact hret _ _ 31 _ hw ⟨_, rfl, rfl⟩ dX9_least_31
    · have hf := ineg c2 hf
      refine lv_iload_n (pc := 10) hx hb dX9_least_10 rfl (lv_at hl 2 rfl) ?_
      refine lv_iconst (pc := 11) (v := 1) hx hb dX9_least_11 (by decide) ?_
      refine lv_icmp_lt (pc := 12) (tgt := 29) hx hb dX9_least_12 (by decide) (fun c3 => ?_) (fun c3 => ?_)
      · have hf := ipos c3 hf
        refine lv_bipush (pc := 29) (v := (-3)) hx hb dX9_least_29 (by decide) ?_
        cases hf
        exact hret _ _ 31 _ hw ⟨_, rfl, rfl⟩ dX9_least_31
      · have hf := ineg c3 hf
        refine lv_iload_n (pc := 15) hx hb dX9_least_15 rfl (lv_at hl 2 rfl) ?_
        refine lv_iconst (pc := 16) (v := 4) hx hb dX9_least_16 (by decide) ?_
        refine lv_icmp_gt (pc := 17) (tgt := 29) hx hb dX9_least_17 (by decide) (fun c4 => ?_) (fun c4 => ?_)
        · have hf := ipos c4 hf
          refine lv_bipush (pc := 29) (v := (-3)) hx hb dX9_least_29 (by decide) ?_
          cases hf
          exact hret _ _ 31 _ hw ⟨_, rfl, rfl⟩ dX9_least_31
        · have hf := ineg c4 hf
          refine lv_iload_n (pc := 20) hx hb dX9_least_20 rfl (lv_at hl 3 rfl) ?_
          refine lv_iload (pc := 21) hx hb dX9_least_21 (lv_at hl 4 rfl) ?_
          obtain ⟨v5, hc, hf⟩ := b1_ob hf
          refine x_nil (pc := 23) X hw (va_runS (As := [.int p3, .int p4]) (rest := []) ⟨hx, hb, hml, hown, hts⟩ (c_X9_isRatio l D cs p3 p4 v5 hc _) (va_cwS 2 hts gX9_least_X9_isRatio rfl rfl rfl (by decide +kernel) ⟨Nat.le_of_ble_eq_true rfl, Nat.le_of_ble_eq_true rfl⟩) ⟨CP_blind, x_preN X [.int p3, .int p4]⟩ rfl rfl hl.1 rfl (lv_room (Nat.le_of_ble_eq_true rfl)) dX9_least_23 ⟨Nat.zero_le _, Nat.zero_le _⟩) (fun H locs hw => ?_)
          refine lv_if_ne (pc := 26) (tgt := 32) hx hb dX9_least_26 (by decide) (fun c6 => ?_) (fun c6 => ?_)
          · have hf := ineg c6 hf
            refine lv_aload_n (pc := 32) hx hb dX9_least_32 rfl (lv_at hl 0 rfl) ?_
            refine x_get (pc := 33) X hw in_X9_least_X9 0 rfl rfl 6 (by decide) (List.mem_of_getElem? (i := 1) rfl) rfl dX9_least_33 ?_
            refine lv_iload_n (pc := 36) hx hb dX9_least_36 rfl (lv_at hl 1 rfl) ?_
            refine lv_iload_n (pc := 37) hx hb dX9_least_37 rfl (lv_at hl 2 rfl) ?_
            refine lv_iload_n (pc := 38) hx hb dX9_least_38 rfl (lv_at hl 3 rfl) ?_
            refine lv_iload (pc := 39) hx hb dX9_least_39 (lv_at hl 4 rfl) ?_
            obtain ⟨v7, hc, hf⟩ := b1_ob hf
            refine x_cut (pc := 41) (wr := ([0].filterMap (fun i => (wX9 cs a q ++ wX4 cs (q 6) qSm Sm)[i]?))) (ws2 := wX9 cs a q ++ wX4 cs (q 6) qSm Sm) X hw [1, 2] [0] [0, 1, 2] rfl rfl (by decide) (by decide) rfl (by decide) (va_runV (As := [.int p1, .int p2, .int p3, .int p4]) (rest := []) ⟨hx, hb, hml, hown, hts⟩ (c_X4_leastHeap l D cs (q 6) qSm Sm p1 p2 p3 p4 v7 hc _) (cwV 4 hts gX9_least_X4_leastHeap rfl rfl rfl (by decide +kernel) ⟨Nat.le_of_ble_eq_true rfl, Nat.le_of_ble_eq_true rfl⟩) ⟨CP_blind, va_recv hK hw.1 (ci := 4) (q0 := 1) rfl rfl, x_preC X hw [1, 2] rfl (by decide) [.ref (q 6), .int p1, .int p2, .int p3, .int p4]⟩ rfl rfl hl.1 rfl (lv_room (Nat.le_of_ble_eq_true rfl)) dX9_least_41 ⟨Nat.zero_le _, Nat.zero_le _⟩) (fun H locs hw => ?_)
            cases hf
            exact hret _ _ 44 _ hw ⟨_, rfl, rfl⟩ dX9_least_44
          · have hf := ipos c6 hf
            refine lv_bipush (pc := 29) (v := (-3)) hx hb dX9_least_29 (by decide) ?_
            cases hf
            exact hret _ _ 31 _ hw ⟨_, rfl, rfl⟩ dX9_least_31

theorem in_X9_same_X9 : ∀ w ∈ wsX90, w ∈ wsX9_same := fun _ h => List.mem_cons_of_mem _ (List.mem_append_left _ (List.mem_append_left _ (List.mem_append_right _ h)))
theorem in_X9_same_X1 : ∀ w ∈ wsX10, w ∈ wsX9_same := fun _ h => List.mem_cons_of_mem _ (List.mem_append_left _ (List.mem_append_right _ h))
theorem in_X9_same_X5 : ∀ w ∈ wsX50, w ∈ wsX9_same := fun _ h => List.mem_cons_of_mem _ (List.mem_append_right _ h)
abbrev rmX9_same : Room := { frames := 3, cells := 0, slots := 0, locals := 74 }
def f_X9_same (F1 : PS) (F2 : PS) (Pt : PS) (p1 : Int32) (p2 : Int32) : Option (Int32 × PS) :=
  if p1 < 1 then
    some ((-3), Pt)
  else
  if 12 < p1 then
    some ((-3), Pt)
  else
  b1 (f_X9_isChoice p2) fun v3 =>
  if v3 = 0 then
    some ((-3), Pt)
  else
  b1 (f_X1_compare Pt F1 F2 p1) fun Pt5 =>
  b1 (
    if p2 = 0 then
      some (Pt5.1 4)
    else
    some (Pt5.1 5)) fun v6 =>
  some (v6, Pt5)
set_option maxHeartbeats 4000000 in
set_option maxRecDepth 100000 in
theorem c_X9_same (l : Launch) (D : va_G) (cs : CS) (a : Nat) (q : Nat → Nat) (qF1 : Nat → Nat) (qF2 : Nat → Nat) (qPt : Nat → Nat) (F1 : PS) (F2 : PS) (Pt : PS) (p1 : Int32) (p2 : Int32) (r : Int32) (Pt' : PS) (hf : f_X9_same F1 F2 Pt p1 p2 = some (r, Pt')) : CT l D (TY cs) yX9_same wsX9_same rmX9_same [.ref a, .int p1, .int p2] (wX9 cs a q ++ wX5 cs (q 7) qF1 F1 ++ wX5 cs (q 8) qF2 F2 ++ wX1 cs (q 9) qPt Pt) (some (.int r)) (wX9 cs a q ++ wX5 cs (q 7) qF1 F1 ++ wX5 cs (q 8) qF2 F2 ++ wX1 cs (q 9) qPt Pt') := by
  refine CT.ofW (own := RX9) (cc := cX9_same) (maxL := 3) (ret := some .int) (by decide) rfl rfl (Nat.le_of_ble_eq_true rfl) ?_
  intro p e s m args below meth c A Q X hret ls hl hw
  obtain ⟨hx, hb, hml, hown, hts, hK, hA, hr, hlk⟩ := id X
  have hl : lv_has ls 3 [(0, .ref a), (1, .int p1), (2, .int p2)] := hl
  unfold f_X9_same at hf
  refine lv_iload_n (pc := 0) hx hb dX9_same_0 rfl (lv_at hl 1 rfl) ?_
  refine lv_iconst (pc := 1) (v := 1) hx hb dX9_same_1 (by decide) ?_
  refine lv_icmp_lt (pc := 2) (tgt := 18) hx hb dX9_same_2 (by decide) (fun c1 => ?_) (fun c1 => ?_)
  · have hf := ipos c1 hf
    refine lv_bipush (pc := 18) (v := (-3)) hx hb dX9_same_18 (by decide) ?_
    cases hf
    exact hret _ _ 20 _ hw ⟨_, rfl, rfl⟩ dX9_same_20
  · have hf := ineg c1 hf
    refine lv_iload_n (pc := 5) hx hb dX9_same_5 rfl (lv_at hl 1 rfl) ?_
    refine lv_bipush (pc := 6) (v := 12) hx hb dX9_same_6 (by decide) ?_
    refine lv_icmp_gt (pc := 8) (tgt := 18) hx hb dX9_same_8 (by decide) (fun c2 => ?_) (fun c2 => ?_)
    · have hf := ipos c2 hf
      refine lv_bipush (pc := 18) (v := (-3)) hx hb dX9_same_18 (by decide) ?_
      cases hf
      exact hret _ _ 20 _ hw ⟨_, rfl, rfl⟩ dX9_same_20
    · have hf := ineg c2 hf
      refine lv_iload_n (pc := 11) hx hb dX9_same_11 rfl (lv_at hl 2 rfl) ?_
      obtain ⟨v3, hc, hf⟩ := b1_ob hf
      refine x_nil (pc := 12) X hw (va_runS (As := [.int p2]) (rest := []) ⟨hx, hb, hml, hown, hts⟩ (c_X9_isChoice l D cs p2 v3 hc _) (va_cwS 1 hts gX9_same_X9_isChoice rfl rfl rfl (by decide +kernel) ⟨Nat.le_of_ble_eq_true rfl, Nat.le_of_ble_eq_true rfl⟩) ⟨CP_blind, x_preN X [.int p2]⟩ rfl rfl hl.1 rfl (lv_room (Nat.le_of_ble_eq_true rfl)) dX9_same_12 ⟨Nat.zero_le _, Nat.zero_le _⟩) (fun H locs hw => ?_)
      refine lv_if_ne (pc := 15) (tgt := 21) hx hb dX9_same_15 (by decide) (fun c4 => ?_) (fun c4 => ?_)
      · have hf := ineg c4 hf
        refine lv_aload_n (pc := 21) hx hb dX9_same_21 rfl (lv_at hl 0 rfl) ?_
        refine x_get (pc := 22) X hw in_X9_same_X9 0 rfl rfl 9 (by decide) (List.mem_of_getElem? (i := 1) rfl) rfl dX9_same_22 ?_
        refine lv_aload_n (pc := 25) hx hb dX9_same_25 rfl (lv_at hl 0 rfl) ?_
        refine x_get (pc := 26) X hw in_X9_same_X9 0 rfl rfl 7 (by decide) (List.mem_of_getElem? (i := 2) rfl) rfl dX9_same_26 ?_
        refine lv_aload_n (pc := 29) hx hb dX9_same_29 rfl (lv_at hl 0 rfl) ?_
        refine x_get (pc := 30) X hw in_X9_same_X9 0 rfl rfl 8 (by decide) (List.mem_of_getElem? (i := 3) rfl) rfl dX9_same_30 ?_
        refine lv_iload_n (pc := 33) hx hb dX9_same_33 rfl (lv_at hl 1 rfl) ?_
        obtain ⟨Pt5, hc, hf⟩ := b1_ob hf
        refine x_cut (pc := 34) (wr := ([0].filterMap (fun i => (wX9 cs a q ++ wX5 cs (q 7) qF1 F1 ++ wX5 cs (q 8) qF2 F2 ++ wX1 cs (q 9) qPt Pt)[i]?))) (ws2 := wX9 cs a q ++ wX5 cs (q 7) qF1 F1 ++ wX5 cs (q 8) qF2 F2 ++ wX1 cs (q 9) qPt Pt5) X hw [5, 6, 7, 8, 9, 1, 2, 3, 4] [0] [0, 6, 7, 8, 9, 1, 2, 3, 4, 5] rfl rfl (by decide) (by decide) rfl (by decide) (va_runV (As := [.ref (q 7), .ref (q 8), .int p1]) (rest := []) ⟨hx, hb, hml, hown, hts⟩ (c_X1_compare l D cs (q 9) (q 7) (q 8) qPt qF1 qF2 Pt F1 F2 p1 Pt5 hc _) (cwV 3 hts gX9_same_X1_compare rfl rfl rfl (by decide +kernel) ⟨Nat.le_of_ble_eq_true rfl, Nat.le_of_ble_eq_true rfl⟩) ⟨CP_blind, va_recv hK hw.1 (ci := 1) (q0 := 5) rfl rfl, x_preC X hw [5, 6, 7, 8, 9, 1, 2, 3, 4] rfl (by decide) [.ref (q 9), .ref (q 7), .ref (q 8), .int p1]⟩ rfl rfl hl.1 rfl (lv_room (Nat.le_of_ble_eq_true rfl)) dX9_same_34 ⟨Nat.zero_le _, Nat.zero_le _⟩) (fun H locs hw => ?_)
        refine lv_iload_n (pc := 37) hx hb dX9_same_37 rfl (lv_at hl 2 rfl) ?_
        obtain ⟨v6, hj, hf⟩ := b1_ob hf
        have J58_5 : ∀ (H : Heap) (locs : List Loc) (ls : Array Slot), WD D A s (wX9 cs a q ++ wX5 cs (q 7) qF1 F1 ++ wX5 cs (q 8) qF2 F2 ++ wX1 cs (q 9) qPt Pt5) H locs → lv_has ls 3 [] → W p l e rmX9_same s m args below meth c H locs 0 0 Q (F0 m 58 ls [.int v6]) := by
          intro H locs ls hw hl
          cases hf
          exact hret _ _ 58 _ hw ⟨_, rfl, rfl⟩ dX9_same_58
        clear hf; have hf := hj; clear hj
        refine lv_if_ne (pc := 38) (tgt := 51) hx hb dX9_same_38 (by decide) (fun c7 => ?_) (fun c7 => ?_)
        · have hf := ineg c7 hf
          refine lv_aload_n (pc := 51) hx hb dX9_same_51 rfl (lv_at hl 0 rfl) ?_
          refine x_get (pc := 52) X hw in_X9_same_X9 0 rfl rfl 9 (by decide) (List.mem_of_getElem? (i := 1) rfl) rfl dX9_same_52 ?_
          refine x_get (pc := 55) X hw in_X9_same_X1 5 rfl rfl 5 (by decide) (List.mem_of_getElem? (i := 5) rfl) rfl dX9_same_55 ?_
          cases hf
          exact J58_5 _ _ _ hw (lv_sub hl [] rfl)
        · have hf := ipos c7 hf
          refine lv_aload_n (pc := 41) hx hb dX9_same_41 rfl (lv_at hl 0 rfl) ?_
          refine x_get (pc := 42) X hw in_X9_same_X9 0 rfl rfl 9 (by decide) (List.mem_of_getElem? (i := 1) rfl) rfl dX9_same_42 ?_
          refine x_get (pc := 45) X hw in_X9_same_X1 5 rfl rfl 4 (by decide) (List.mem_of_getElem? (i := 4) rfl) rfl dX9_same_45 ?_
          refine lv_goto (pc := 48) (tgt := 58) hx hb dX9_same_48 (by decide) ?_
          cases hf
          exact J58_5 _ _ _ hw (lv_sub hl [] rfl)
      · have hf := ipos c4 hf
        refine lv_bipush (pc := 18) (v := (-3)) hx hb dX9_same_18 (by decide) ?_
        cases hf
        exact hret _ _ 20 _ hw ⟨_, rfl, rfl⟩ dX9_same_20

abbrev rmX9_pressed : Room := { frames := 0, cells := 0, slots := 0, locals := 0 }
def B_X9_pressed_25 (p1 : Int64) (p2 : Int32) (p3 : Int32) (v4 : Int32) (v5 : Int32) : Option ((Int32 × Int32) ⊕ (Int32)) :=
  if p2 ≤ (v5 + 1) then
    if p3 = (-1) then
      some (.inr v4)
    else
    some (.inr (-1))
  else
  bn (((p1 >>> (v5.toInt64 &&& 63)) &&& 1).toInt32) fun v8 =>
  bn (((p1 >>> ((v5 + 1).toInt64 &&& 63)) &&& 1).toInt32) fun v9 =>
  if v8 = v9 then
    bn (v5 + 2) fun v11 =>
    some (.inl (v4, v11))
  else
  if v4 = p3 then
    some (.inr v8)
  else
  bn (v4 + 1) fun v13 =>
  bn (v5 + 2) fun v14 =>
  some (.inl (v13, v14))
def L_X9_pressed_25 (p1 : Int64) (p2 : Int32) (p3 : Int32) (n : Nat) (v4 : Int32) (v5 : Int32) : Option (Int32) := loopF (fun x : Int32 × Int32 => B_X9_pressed_25 p1 p2 p3 x.1 x.2) n (v4, v5)
def f_X9_pressed (p1 : Int64) (p2 : Int32) (p3 : Int32) : Option (Int32) :=
  if p2 < 0 then
    some (-3)
  else
  if 32 < p2 then
    some (-3)
  else
  if (-1) ≤ p3 then
    L_X9_pressed_25 p1 p2 p3 FU 0 0
  else
  some (-3)
set_option maxHeartbeats 4000000 in
set_option maxRecDepth 100000 in
theorem c_X9_pressed (l : Launch) (D : va_G) (cs : CS) (a : Nat) (q : Nat → Nat) (p1 : Int64) (p2 : Int32) (p3 : Int32) (r : Int32) (hf : f_X9_pressed p1 p2 p3 = some r) : CT l D (TY cs) yX9_pressed wsX9_pressed rmX9_pressed [.ref a, .long p1, .int p2, .int p3] (wX9 cs a q) (some (.int r)) (wX9 cs a q) := by
  refine CT.ofW (own := RX9) (cc := cX9_pressed) (maxL := 9) (ret := some .int) (by decide) rfl rfl (Nat.le_of_ble_eq_true rfl) ?_
  intro p e s m args below meth c A Q X hret ls hl hw
  obtain ⟨hx, hb, hml, hown, hts, hK, hA, hr, hlk⟩ := id X
  have hl : lv_has ls 9 [(0, .ref a), (1, .long p1), (3, .int p2), (4, .int p3)] := hl
  unfold f_X9_pressed at hf
  refine lv_iload_n (pc := 0) hx hb dX9_pressed_0 rfl (lv_at hl 2 rfl) ?_
  refine lv_if_lt (pc := 1) (tgt := 16) hx hb dX9_pressed_1 (by decide) (fun c1 => ?_) (fun c1 => ?_)
  · have hf := ipos c1 hf
    refine lv_bipush (pc := 16) (v := (-3)) hx hb dX9_pressed_16 (by decide) ?_
    cases hf
    exact hret _ _ 18 _ hw ⟨_, rfl, rfl⟩ dX9_pressed_18
  · have hf := ineg c1 hf
    refine lv_iload_n (pc := 4) hx hb dX9_pressed_4 rfl (lv_at hl 2 rfl) ?_
    refine lv_bipush (pc := 5) (v := 32) hx hb dX9_pressed_5 (by decide) ?_
    refine lv_icmp_gt (pc := 7) (tgt := 16) hx hb dX9_pressed_7 (by decide) (fun c2 => ?_) (fun c2 => ?_)
    · have hf := ipos c2 hf
      refine lv_bipush (pc := 16) (v := (-3)) hx hb dX9_pressed_16 (by decide) ?_
      cases hf
      exact hret _ _ 18 _ hw ⟨_, rfl, rfl⟩ dX9_pressed_18
    · have hf := ineg c2 hf
      refine lv_iload (pc := 10) hx hb dX9_pressed_10 (lv_at hl 3 rfl) ?_
      refine lv_iconst (pc := 12) (v := (-1)) hx hb dX9_pressed_12 (by decide) ?_
      refine lv_icmp_ge (pc := 13) (tgt := 19) hx hb dX9_pressed_13 (by decide) (fun c3 => ?_) (fun c3 => ?_)
      · have hf := ipos c3 hf
        refine lv_iconst (pc := 19) (v := 0) hx hb dX9_pressed_19 (by decide) ?_
        refine lv_istore (lv' := [(5, .int 0), (0, .ref a), (1, .long p1), (3, .int p2), (4, .int p3)]) (pc := 20) hx hb dX9_pressed_20 hl (by decide) rfl (fun ls hl => ?_)
        refine lv_iconst (pc := 22) (v := 0) hx hb dX9_pressed_22 (by decide) ?_
        refine lv_istore (lv' := [(6, .int 0), (5, .int 0), (0, .ref a), (1, .long p1), (3, .int p2), (4, .int p3)]) (pc := 23) hx hb dX9_pressed_23 hl (by decide) rfl (fun ls hl => ?_)
        have L25 : ∀ (n : Nat) (v4 : Int32) (v5 : Int32), L_X9_pressed_25 p1 p2 p3 n v4 v5 = some r → ∀ (H : Heap) (locs : List Loc) (ls : Array Slot), WD D A s (wX9 cs a q) H locs → lv_has ls 9 [(1, .long p1), (3, .int p2), (4, .int p3), (5, .int v4), (6, .int v5)] → W p l e rmX9_pressed s m args below meth c H locs 0 0 Q (F0 m 25 ls []) := by
          intro n
          induction n with
          | zero => intro v4 v5 hf; exact (loopF_z hf).elim
          | succ n ih =>
            intro v4 v5 hf H locs ls hw hl
            obtain ⟨x, hf, hx0⟩ := loopF_ob hf
            have hf : B_X9_pressed_25 p1 p2 p3 v4 v5 = some x := hf
            unfold B_X9_pressed_25 at hf
            refine lv_iload (pc := 25) hx hb dX9_pressed_25 (lv_at hl 4 rfl) ?_
            refine lv_iconst (pc := 27) (v := 1) hx hb dX9_pressed_27 (by decide) ?_
            refine lv_iadd (pc := 28) hx hb dX9_pressed_28 ?_
            refine lv_iload_n (pc := 29) hx hb dX9_pressed_29 rfl (lv_at hl 1 rfl) ?_
            refine lv_icmp_ge (pc := 30) (tgt := 79) hx hb dX9_pressed_30 (by decide) (fun c6 => ?_) (fun c6 => ?_)
            · have hf := ipos c6 hf
              refine lv_iload (pc := 79) hx hb dX9_pressed_79 (lv_at hl 2 rfl) ?_
              refine lv_iconst (pc := 81) (v := (-1)) hx hb dX9_pressed_81 (by decide) ?_
              refine lv_icmp_ne (pc := 82) (tgt := 90) hx hb dX9_pressed_82 (by decide) (fun c7 => ?_) (fun c7 => ?_)
              · have hf := ineg c7 hf
                refine lv_iconst (pc := 90) (v := (-1)) hx hb dX9_pressed_90 (by decide) ?_
                cases hf
                cases (hx0 : (-1) = r)
                exact hret _ _ 91 _ hw ⟨_, rfl, rfl⟩ dX9_pressed_91
              · have hf := ipos c7 hf
                refine lv_iload (pc := 85) hx hb dX9_pressed_85 (lv_at hl 3 rfl) ?_
                refine lv_goto (pc := 87) (tgt := 91) hx hb dX9_pressed_87 (by decide) ?_
                cases hf
                cases (hx0 : v4 = r)
                exact hret _ _ 91 _ hw ⟨_, rfl, rfl⟩ dX9_pressed_91
            · have hf := ineg c6 hf
              refine lv_lload_n (pc := 33) hx hb dX9_pressed_33 rfl (lv_at hl 0 rfl) ?_
              refine lv_iload (pc := 34) hx hb dX9_pressed_34 (lv_at hl 4 rfl) ?_
              refine lv_lshr (pc := 36) hx hb dX9_pressed_36 rfl ?_
              refine lv_lconst (pc := 37) (v := 1) hx hb dX9_pressed_37 (by decide) ?_
              refine lv_land (pc := 38) hx hb dX9_pressed_38 ?_
              refine lv_l2i (pc := 39) hx hb dX9_pressed_39 rfl ?_
              obtain ⟨v8, ev8, hf⟩ := bn_ob hf
              refine x_topi ev8 ?_
              refine lv_istore (lv' := [(7, .int v8), (1, .long p1), (3, .int p2), (4, .int p3), (5, .int v4), (6, .int v5)]) (pc := 40) hx hb dX9_pressed_40 hl (by decide) rfl (fun ls hl => ?_)
              refine lv_lload_n (pc := 42) hx hb dX9_pressed_42 rfl (lv_at hl 1 rfl) ?_
              refine lv_iload (pc := 43) hx hb dX9_pressed_43 (lv_at hl 5 rfl) ?_
              refine lv_iconst (pc := 45) (v := 1) hx hb dX9_pressed_45 (by decide) ?_
              refine lv_iadd (pc := 46) hx hb dX9_pressed_46 ?_
              refine lv_lshr (pc := 47) hx hb dX9_pressed_47 rfl ?_
              refine lv_lconst (pc := 48) (v := 1) hx hb dX9_pressed_48 (by decide) ?_
              refine lv_land (pc := 49) hx hb dX9_pressed_49 ?_
              refine lv_l2i (pc := 50) hx hb dX9_pressed_50 rfl ?_
              obtain ⟨v9, ev9, hf⟩ := bn_ob hf
              refine x_topi ev9 ?_
              refine lv_istore (lv' := [(8, .int v9), (7, .int v8), (1, .long p1), (3, .int p2), (4, .int p3), (5, .int v4), (6, .int v5)]) (pc := 51) hx hb dX9_pressed_51 hl (by decide) rfl (fun ls hl => ?_)
              refine lv_iload (pc := 53) hx hb dX9_pressed_53 (lv_at hl 1 rfl) ?_
              refine lv_iload (pc := 55) hx hb dX9_pressed_55 (lv_at hl 0 rfl) ?_
              refine lv_icmp_eq (pc := 57) (tgt := 73) hx hb dX9_pressed_57 (by decide) (fun c10 => ?_) (fun c10 => ?_)
              · have hf := ipos c10 hf
                obtain ⟨v11, ev11, hf⟩ := bn_ob hf
                refine lv_iinc (pc := 73) (v := v11) (lv' := [(6, .int v11), (8, .int v9), (7, .int v8), (1, .long p1), (3, .int p2), (4, .int p3), (5, .int v4)]) hx hb dX9_pressed_73 hl (k := 6) rfl (by rw [ev11]; rfl) (by decide) rfl (fun ls hl => ?_)
                refine lv_goto (pc := 76) (tgt := 25) hx hb dX9_pressed_76 (by decide) ?_
                cases hf
                exact ih v4 v11  hx0 _ _ _ hw (lv_sub hl [3, 4, 5, 6, 0] rfl)
              · have hf := ineg c10 hf
                refine lv_iload (pc := 60) hx hb dX9_pressed_60 (lv_at hl 5 rfl) ?_
                refine lv_iload (pc := 62) hx hb dX9_pressed_62 (lv_at hl 4 rfl) ?_
                refine lv_icmp_ne (pc := 64) (tgt := 70) hx hb dX9_pressed_64 (by decide) (fun c12 => ?_) (fun c12 => ?_)
                · have hf := ineg c12 hf
                  obtain ⟨v13, ev13, hf⟩ := bn_ob hf
                  refine lv_iinc (pc := 70) (v := v13) (lv' := [(5, .int v13), (8, .int v9), (7, .int v8), (1, .long p1), (3, .int p2), (4, .int p3), (6, .int v5)]) hx hb dX9_pressed_70 hl (k := 5) rfl (by rw [ev13]; rfl) (by decide) rfl (fun ls hl => ?_)
                  obtain ⟨v14, ev14, hf⟩ := bn_ob hf
                  refine lv_iinc (pc := 73) (v := v14) (lv' := [(6, .int v14), (5, .int v13), (8, .int v9), (7, .int v8), (1, .long p1), (3, .int p2), (4, .int p3)]) hx hb dX9_pressed_73 hl (k := 6) rfl (by rw [ev14]; rfl) (by decide) rfl (fun ls hl => ?_)
                  refine lv_goto (pc := 76) (tgt := 25) hx hb dX9_pressed_76 (by decide) ?_
                  cases hf
                  exact ih v13 v14  hx0 _ _ _ hw (lv_sub hl [4, 5, 6, 1, 0] rfl)
                · have hf := ipos c12 hf
                  refine lv_iload (pc := 67) hx hb dX9_pressed_67 (lv_at hl 1 rfl) ?_
                  cases hf
                  cases (hx0 : v8 = r)
                  exact hret _ _ 69 _ hw ⟨_, rfl, rfl⟩ dX9_pressed_69
        exact L25 _ 0 0 hf _ _ _ hw (lv_sub hl [3, 4, 5, 1, 0] rfl)
      · have hf := ineg c3 hf
        refine lv_bipush (pc := 16) (v := (-3)) hx hb dX9_pressed_16 (by decide) ?_
        cases hf
        exact hret _ _ 18 _ hw ⟨_, rfl, rfl⟩ dX9_pressed_18

theorem in_X9_mixed_X9 : ∀ w ∈ wsX90, w ∈ wsX9_mixed := fun _ h => List.mem_cons_of_mem _ (List.mem_append_left _ (List.mem_append_right _ h))
theorem in_X9_mixed_X4 : ∀ w ∈ wsX40, w ∈ wsX9_mixed := fun _ h => List.mem_cons_of_mem _ (List.mem_append_right _ h)
abbrev rmX9_mixed : Room := { frames := 2, cells := 0, slots := 0, locals := 44 }
def f_X9_mixed (Sm : PS) (p1 : Int32) (p2 : Int32) (p3 : Int32) : Option (Int32) :=
  b1 (f_X4_isSet p1) fun v1 =>
  if v1 = 0 then
    some (-3)
  else
  b1 (f_X4_isSet p2) fun v3 =>
  if v3 = 0 then
    some (-3)
  else
  b1 (f_X9_isPart p3) fun v5 =>
  if v5 = 0 then
    some (-3)
  else
  b1 (f_J6_bitCount_0f7a4 p1) fun v7 =>
  b1 (f_J6_bitCount_0f7a4 p2) fun v8 =>
  bn (v7 * v8) fun v9 =>
  b1 (f_X4_oddPairs Sm p1 p2) fun v10 =>
  b1 (f_X9_lowest (if 0 ≤ (v9 - (2 * v10)) then (v9 - (2 * v10)) else 0 - (v9 - (2 * v10))) v9 p3) fun v11 =>
  some v11
set_option maxHeartbeats 4000000 in
set_option maxRecDepth 100000 in
theorem c_X9_mixed (l : Launch) (D : va_G) (cs : CS) (a : Nat) (q : Nat → Nat) (qSm : Nat → Nat) (Sm : PS) (p1 : Int32) (p2 : Int32) (p3 : Int32) (r : Int32) (hf : f_X9_mixed Sm p1 p2 p3 = some r) : CT l D (TY cs) yX9_mixed wsX9_mixed rmX9_mixed [.ref a, .int p1, .int p2, .int p3] (wX9 cs a q ++ wX4 cs (q 6) qSm Sm) (some (.int r)) (wX9 cs a q ++ wX4 cs (q 6) qSm Sm) := by
  refine CT.ofW (own := RX9) (cc := cX9_mixed) (maxL := 5) (ret := some .int) (by decide) rfl rfl (Nat.le_of_ble_eq_true rfl) ?_
  intro p e s m args below meth c A Q X hret ls hl hw
  obtain ⟨hx, hb, hml, hown, hts, hK, hA, hr, hlk⟩ := id X
  have hl : lv_has ls 5 [(0, .ref a), (1, .int p1), (2, .int p2), (3, .int p3)] := hl
  unfold f_X9_mixed at hf
  refine lv_iload_n (pc := 0) hx hb dX9_mixed_0 rfl (lv_at hl 1 rfl) ?_
  obtain ⟨v1, hc, hf⟩ := b1_ob hf
  refine x_nil (pc := 1) X hw (va_runS (As := [.int p1]) (rest := []) ⟨hx, hb, hml, hown, hts⟩ (c_X4_isSet l D cs p1 v1 hc _) (va_cwS 1 hts gX9_mixed_X4_isSet rfl rfl rfl (by decide +kernel) ⟨Nat.le_of_ble_eq_true rfl, Nat.le_of_ble_eq_true rfl⟩) ⟨CP_blind, x_preN X [.int p1]⟩ rfl rfl hl.1 rfl (lv_room (Nat.le_of_ble_eq_true rfl)) dX9_mixed_1 ⟨Nat.zero_le _, Nat.zero_le _⟩) (fun H locs hw => ?_)
  refine lv_if_eq (pc := 4) (tgt := 21) hx hb dX9_mixed_4 (by decide) (fun c2 => ?_) (fun c2 => ?_)
  · have hf := ipos c2 hf
    refine lv_bipush (pc := 21) (v := (-3)) hx hb dX9_mixed_21 (by decide) ?_
    cases hf
    exact hret _ _ 23 _ hw ⟨_, rfl, rfl⟩ dX9_mixed_23
  · have hf := ineg c2 hf
    refine lv_iload_n (pc := 7) hx hb dX9_mixed_7 rfl (lv_at hl 2 rfl) ?_
    obtain ⟨v3, hc, hf⟩ := b1_ob hf
    refine x_nil (pc := 8) X hw (va_runS (As := [.int p2]) (rest := []) ⟨hx, hb, hml, hown, hts⟩ (c_X4_isSet l D cs p2 v3 hc _) (va_cwS 1 hts gX9_mixed_X4_isSet rfl rfl rfl (by decide +kernel) ⟨Nat.le_of_ble_eq_true rfl, Nat.le_of_ble_eq_true rfl⟩) ⟨CP_blind, x_preN X [.int p2]⟩ rfl rfl hl.1 rfl (lv_room (Nat.le_of_ble_eq_true rfl)) dX9_mixed_8 ⟨Nat.zero_le _, Nat.zero_le _⟩) (fun H locs hw => ?_)
    refine lv_if_eq (pc := 11) (tgt := 21) hx hb dX9_mixed_11 (by decide) (fun c4 => ?_) (fun c4 => ?_)
    · have hf := ipos c4 hf
      refine lv_bipush (pc := 21) (v := (-3)) hx hb dX9_mixed_21 (by decide) ?_
      cases hf
      exact hret _ _ 23 _ hw ⟨_, rfl, rfl⟩ dX9_mixed_23
    · have hf := ineg c4 hf
      refine lv_iload_n (pc := 14) hx hb dX9_mixed_14 rfl (lv_at hl 3 rfl) ?_
      obtain ⟨v5, hc, hf⟩ := b1_ob hf
      refine x_nil (pc := 15) X hw (va_runS (As := [.int p3]) (rest := []) ⟨hx, hb, hml, hown, hts⟩ (c_X9_isPart l D cs p3 v5 hc _) (va_cwS 1 hts gX9_mixed_X9_isPart rfl rfl rfl (by decide +kernel) ⟨Nat.le_of_ble_eq_true rfl, Nat.le_of_ble_eq_true rfl⟩) ⟨CP_blind, x_preN X [.int p3]⟩ rfl rfl hl.1 rfl (lv_room (Nat.le_of_ble_eq_true rfl)) dX9_mixed_15 ⟨Nat.zero_le _, Nat.zero_le _⟩) (fun H locs hw => ?_)
      refine lv_if_ne (pc := 18) (tgt := 24) hx hb dX9_mixed_18 (by decide) (fun c6 => ?_) (fun c6 => ?_)
      · have hf := ineg c6 hf
        refine lv_iload_n (pc := 24) hx hb dX9_mixed_24 rfl (lv_at hl 1 rfl) ?_
        obtain ⟨v7, hc, hf⟩ := b1_ob hf
        refine x_nil (pc := 25) X hw (va_runS (As := [.int p1]) (rest := []) ⟨hx, hb, hml, hown, hts⟩ (c_J6_bitCount_0f7a4 l D cs p1 v7 hc _) (va_cwS 1 hts gX9_mixed_J6_bitCount_0f7a4 rfl rfl rfl (by decide +kernel) ⟨Nat.le_of_ble_eq_true rfl, Nat.le_of_ble_eq_true rfl⟩) ⟨CP_blind, x_preN X [.int p1]⟩ rfl rfl hl.1 rfl (lv_room (Nat.le_of_ble_eq_true rfl)) dX9_mixed_25 ⟨Nat.zero_le _, Nat.zero_le _⟩) (fun H locs hw => ?_)
        refine lv_iload_n (pc := 28) hx hb dX9_mixed_28 rfl (lv_at hl 2 rfl) ?_
        obtain ⟨v8, hc, hf⟩ := b1_ob hf
        refine x_nil (pc := 29) X hw (va_runS (As := [.int p2]) (rest := [.int v7]) ⟨hx, hb, hml, hown, hts⟩ (c_J6_bitCount_0f7a4 l D cs p2 v8 hc _) (va_cwS 1 hts gX9_mixed_J6_bitCount_0f7a4 rfl rfl rfl (by decide +kernel) ⟨Nat.le_of_ble_eq_true rfl, Nat.le_of_ble_eq_true rfl⟩) ⟨CP_blind, x_preN X [.int p2]⟩ rfl rfl hl.1 rfl (lv_room (Nat.le_of_ble_eq_true rfl)) dX9_mixed_29 ⟨Nat.zero_le _, Nat.zero_le _⟩) (fun H locs hw => ?_)
        refine lv_imul (pc := 32) hx hb dX9_mixed_32 ?_
        obtain ⟨v9, ev9, hf⟩ := bn_ob hf
        refine x_topi ev9 ?_
        refine lv_istore (lv' := [(4, .int v9), (0, .ref a), (1, .int p1), (2, .int p2), (3, .int p3)]) (pc := 33) hx hb dX9_mixed_33 hl (by decide) rfl (fun ls hl => ?_)
        refine lv_iload (pc := 35) hx hb dX9_mixed_35 (lv_at hl 0 rfl) ?_
        refine lv_iconst (pc := 37) (v := 2) hx hb dX9_mixed_37 (by decide) ?_
        refine lv_aload_n (pc := 38) hx hb dX9_mixed_38 rfl (lv_at hl 1 rfl) ?_
        refine x_get (pc := 39) X hw in_X9_mixed_X9 0 rfl rfl 6 (by decide) (List.mem_of_getElem? (i := 1) rfl) rfl dX9_mixed_39 ?_
        refine lv_iload_n (pc := 42) hx hb dX9_mixed_42 rfl (lv_at hl 2 rfl) ?_
        refine lv_iload_n (pc := 43) hx hb dX9_mixed_43 rfl (lv_at hl 3 rfl) ?_
        obtain ⟨v10, hc, hf⟩ := b1_ob hf
        refine x_cut (pc := 44) (wr := ([0].filterMap (fun i => (wX9 cs a q ++ wX4 cs (q 6) qSm Sm)[i]?))) (ws2 := wX9 cs a q ++ wX4 cs (q 6) qSm Sm) X hw [1, 2] [0] [0, 1, 2] rfl rfl (by decide) (by decide) rfl (by decide) (va_runV (As := [.int p1, .int p2]) (rest := [.int 2, .int v9]) ⟨hx, hb, hml, hown, hts⟩ (c_X4_oddPairs l D cs (q 6) qSm Sm p1 p2 v10 hc _) (cwV 2 hts gX9_mixed_X4_oddPairs rfl rfl rfl (by decide +kernel) ⟨Nat.le_of_ble_eq_true rfl, Nat.le_of_ble_eq_true rfl⟩) ⟨CP_blind, va_recv hK hw.1 (ci := 4) (q0 := 1) rfl rfl, x_preC X hw [1, 2] rfl (by decide) [.ref (q 6), .int p1, .int p2]⟩ rfl rfl hl.1 rfl (lv_room (Nat.le_of_ble_eq_true rfl)) dX9_mixed_44 ⟨Nat.zero_le _, Nat.zero_le _⟩) (fun H locs hw => ?_)
        refine lv_imul (pc := 47) hx hb dX9_mixed_47 ?_
        refine lv_isub (pc := 48) hx hb dX9_mixed_48 ?_
        refine va_mabs (pc := 49) hx hb (hml.trans hl.1.symm) hown (hts _ (List.mem_of_getElem? (i := 2) rfl)) (hts _ (List.mem_of_getElem? (i := 3) rfl)) (hts _ (List.mem_of_getElem? (i := 4) rfl)) (hts _ (List.mem_of_getElem? (i := 5) rfl)) (Nat.le_of_ble_eq_true rfl) (Nat.le_of_ble_eq_true rfl) (Nat.zero_le _) (Nat.zero_le _) dX9_mixed_49 ?_
        refine lv_iload (pc := 52) hx hb dX9_mixed_52 (lv_at hl 0 rfl) ?_
        refine lv_iload_n (pc := 54) hx hb dX9_mixed_54 rfl (lv_at hl 4 rfl) ?_
        obtain ⟨v11, hc, hf⟩ := b1_ob hf
        refine x_nil (pc := 55) X hw (va_runS (As := [.int (if 0 ≤ (v9 - (2 * v10)) then (v9 - (2 * v10)) else 0 - (v9 - (2 * v10))), .int v9, .int p3]) (rest := []) ⟨hx, hb, hml, hown, hts⟩ (c_X9_lowest l D cs (if 0 ≤ (v9 - (2 * v10)) then (v9 - (2 * v10)) else 0 - (v9 - (2 * v10))) v9 p3 v11 hc _) (va_cwS 3 hts gX9_mixed_X9_lowest rfl rfl rfl (by decide +kernel) ⟨Nat.le_of_ble_eq_true rfl, Nat.le_of_ble_eq_true rfl⟩) ⟨CP_blind, x_preN X [.int (if 0 ≤ (v9 - (2 * v10)) then (v9 - (2 * v10)) else 0 - (v9 - (2 * v10))), .int v9, .int p3]⟩ rfl rfl hl.1 rfl (lv_room (Nat.le_of_ble_eq_true rfl)) dX9_mixed_55 ⟨Nat.zero_le _, Nat.zero_le _⟩) (fun H locs hw => ?_)
        cases hf
        exact hret _ _ 58 _ hw ⟨_, rfl, rfl⟩ dX9_mixed_58
      · have hf := ipos c6 hf
        refine lv_bipush (pc := 21) (v := (-3)) hx hb dX9_mixed_21 (by decide) ?_
        cases hf
        exact hret _ _ 23 _ hw ⟨_, rfl, rfl⟩ dX9_mixed_23

theorem in_X9_count_X9 : ∀ w ∈ wsX90, w ∈ wsX9_count := fun _ h => List.mem_cons_of_mem _ (List.mem_append_left _ (List.mem_append_left _ (List.mem_append_left _ (List.mem_append_left _ (List.mem_append_left _ (List.mem_append_right _ h))))))
theorem in_X9_count_X6 : ∀ w ∈ wsX60, w ∈ wsX9_count := fun _ h => List.mem_cons_of_mem _ (List.mem_append_left _ (List.mem_append_left _ (List.mem_append_left _ (List.mem_append_left _ (List.mem_append_right _ h)))))
theorem in_X9_count_X7 : ∀ w ∈ wsX70, w ∈ wsX9_count := fun _ h => List.mem_cons_of_mem _ (List.mem_append_left _ (List.mem_append_left _ (List.mem_append_left _ (List.mem_append_right _ h))))
theorem in_X9_count_X2 : ∀ w ∈ wsX20, w ∈ wsX9_count := fun _ h => List.mem_cons_of_mem _ (List.mem_append_left _ (List.mem_append_left _ (List.mem_append_right _ h)))
theorem in_X9_count_X8 : ∀ w ∈ wsX80, w ∈ wsX9_count := fun _ h => List.mem_cons_of_mem _ (List.mem_append_left _ (List.mem_append_right _ h))
theorem in_X9_count_X0 : ∀ w ∈ wsX00, w ∈ wsX9_count := fun _ h => List.mem_cons_of_mem _ (List.mem_append_right _ h)
abbrev rmX9_count : Room := { frames := 1, cells := 0, slots := 0, locals := 20 }
def f_X9_count (T : PS) (S : PS) (P : PS) (V : PS) (Hp : PS) (p1 : Int32) : Option (Int32) :=
  if p1 = 0 then
    some (T.1 1)
  else
  if p1 = 1 then
    some (P.1 0)
  else
  if p1 = 2 then
    some (P.1 4)
  else
  if p1 = 3 then
    some (P.1 5)
  else
  if p1 = 4 then
    b1 (f_X7_inputCount S) fun v6 =>
    some v6
  else
  if p1 = 5 then
    some (V.1 1)
  else
  if p1 = 6 then
    some (V.1 2)
  else
  if p1 = 7 then
    some (Hp.1 1)
  else
  some (-3)
set_option maxHeartbeats 4000000 in
set_option maxRecDepth 100000 in
theorem c_X9_count (l : Launch) (D : va_G) (cs : CS) (a : Nat) (q : Nat → Nat) (qT : Nat → Nat) (qS : Nat → Nat) (qP : Nat → Nat) (qV : Nat → Nat) (qH : Nat → Nat) (T : PS) (S : PS) (P : PS) (V : PS) (Hp : PS) (p1 : Int32) (r : Int32) (hf : f_X9_count T S P V Hp p1 = some r) : CT l D (TY cs) yX9_count wsX9_count rmX9_count [.ref a, .int p1] (wX9 cs a q ++ wX6 cs (q 0) qT T ++ wX7 cs (q 2) qS S ++ wX2 cs (qS 0) qP P ++ wX8 cs (q 4) qV V ++ wX0 cs (q 5) qH Hp) (some (.int r)) (wX9 cs a q ++ wX6 cs (q 0) qT T ++ wX7 cs (q 2) qS S ++ wX2 cs (qS 0) qP P ++ wX8 cs (q 4) qV V ++ wX0 cs (q 5) qH Hp) := by
  refine CT.ofW (own := RX9) (cc := cX9_count) (maxL := 2) (ret := some .int) (by decide) rfl rfl (Nat.le_of_ble_eq_true rfl) ?_
  intro p e s m args below meth c A Q X hret ls hl hw
  obtain ⟨hx, hb, hml, hown, hts, hK, hA, hr, hlk⟩ := id X
  have hl : lv_has ls 2 [(0, .ref a), (1, .int p1)] := hl
  unfold f_X9_count at hf
  refine lv_iload_n (pc := 0) hx hb dX9_count_0 rfl (lv_at hl 1 rfl) ?_
  by_cases c1 : p1 = 0
  · have hf := ipos c1 hf
    refine lv_tableIn (pc := 1) (tgt := 48) hx hb dX9_count_1 (by rw [c1]; decide) (by rw [c1]; decide) (off := 47) (by rw [c1]; decide) (by decide) ?_
    refine lv_aload_n (pc := 48) hx hb dX9_count_48 rfl (lv_at hl 0 rfl) ?_
    refine x_get (pc := 49) X hw in_X9_count_X9 0 rfl rfl 0 (by decide) (List.mem_of_getElem? (i := 1) rfl) rfl dX9_count_49 ?_
    refine x_get (pc := 52) X hw in_X9_count_X6 1 rfl rfl 1 (by decide) (List.mem_of_getElem? (i := 2) rfl) rfl dX9_count_52 ?_
    cases hf
    exact hret _ _ 55 _ hw ⟨_, rfl, rfl⟩ dX9_count_55
  replace hf := ineg c1 hf
  by_cases c2 : p1 = 1
  · have hf := ipos c2 hf
    refine lv_tableIn (pc := 1) (tgt := 56) hx hb dX9_count_1 (by rw [c2]; decide) (by rw [c2]; decide) (off := 55) (by rw [c2]; decide) (by decide) ?_
    refine lv_aload_n (pc := 56) hx hb dX9_count_56 rfl (lv_at hl 0 rfl) ?_
    refine x_get (pc := 57) X hw in_X9_count_X9 0 rfl rfl 2 (by decide) (List.mem_of_getElem? (i := 3) rfl) rfl dX9_count_57 ?_
    refine x_get (pc := 60) X hw in_X9_count_X7 3 rfl rfl 0 (by decide) (List.mem_of_getElem? (i := 4) rfl) rfl dX9_count_60 ?_
    refine x_get (pc := 63) X hw in_X9_count_X2 8 rfl rfl 0 (by decide) (List.mem_of_getElem? (i := 5) rfl) rfl dX9_count_63 ?_
    cases hf
    exact hret _ _ 66 _ hw ⟨_, rfl, rfl⟩ dX9_count_66
  replace hf := ineg c2 hf
  by_cases c3 : p1 = 2
  · have hf := ipos c3 hf
    refine lv_tableIn (pc := 1) (tgt := 67) hx hb dX9_count_1 (by rw [c3]; decide) (by rw [c3]; decide) (off := 66) (by rw [c3]; decide) (by decide) ?_
    refine lv_aload_n (pc := 67) hx hb dX9_count_67 rfl (lv_at hl 0 rfl) ?_
    refine x_get (pc := 68) X hw in_X9_count_X9 0 rfl rfl 2 (by decide) (List.mem_of_getElem? (i := 3) rfl) rfl dX9_count_68 ?_
    refine x_get (pc := 71) X hw in_X9_count_X7 3 rfl rfl 0 (by decide) (List.mem_of_getElem? (i := 4) rfl) rfl dX9_count_71 ?_
    refine x_get (pc := 74) X hw in_X9_count_X2 8 rfl rfl 4 (by decide) (List.mem_of_getElem? (i := 6) rfl) rfl dX9_count_74 ?_
    cases hf
    exact hret _ _ 77 _ hw ⟨_, rfl, rfl⟩ dX9_count_77
  replace hf := ineg c3 hf
  by_cases c4 : p1 = 3
  · have hf := ipos c4 hf
    refine lv_tableIn (pc := 1) (tgt := 78) hx hb dX9_count_1 (by rw [c4]; decide) (by rw [c4]; decide) (off := 77) (by rw [c4]; decide) (by decide) ?_
    refine lv_aload_n (pc := 78) hx hb dX9_count_78 rfl (lv_at hl 0 rfl) ?_
    refine x_get (pc := 79) X hw in_X9_count_X9 0 rfl rfl 2 (by decide) (List.mem_of_getElem? (i := 3) rfl) rfl dX9_count_79 ?_
    refine x_get (pc := 82) X hw in_X9_count_X7 3 rfl rfl 0 (by decide) (List.mem_of_getElem? (i := 4) rfl) rfl dX9_count_82 ?_
    refine x_get (pc := 85) X hw in_X9_count_X2 8 rfl rfl 5 (by decide) (List.mem_of_getElem? (i := 7) rfl) rfl dX9_count_85 ?_
    cases hf
    exact hret _ _ 88 _ hw ⟨_, rfl, rfl⟩ dX9_count_88
  replace hf := ineg c4 hf
  by_cases c5 : p1 = 4
  · have hf := ipos c5 hf
    refine lv_tableIn (pc := 1) (tgt := 89) hx hb dX9_count_1 (by rw [c5]; decide) (by rw [c5]; decide) (off := 88) (by rw [c5]; decide) (by decide) ?_
    refine lv_aload_n (pc := 89) hx hb dX9_count_89 rfl (lv_at hl 0 rfl) ?_
    refine x_get (pc := 90) X hw in_X9_count_X9 0 rfl rfl 2 (by decide) (List.mem_of_getElem? (i := 3) rfl) rfl dX9_count_90 ?_
    obtain ⟨v6, hc, hf⟩ := b1_ob hf
    refine x_cut (pc := 93) (wr := ([0, 1, 2, 8, 9, 10, 11, 12, 13, 14, 15, 16, 17, 18, 19, 20, 21, 22, 23, 24].filterMap (fun i => (wX9 cs a q ++ wX6 cs (q 0) qT T ++ wX7 cs (q 2) qS S ++ wX2 cs (qS 0) qP P ++ wX8 cs (q 4) qV V ++ wX0 cs (q 5) qH Hp)[i]?))) (ws2 := wX9 cs a q ++ wX6 cs (q 0) qT T ++ wX7 cs (q 2) qS S ++ wX2 cs (qS 0) qP P ++ wX8 cs (q 4) qV V ++ wX0 cs (q 5) qH Hp) X hw [3, 4, 5, 6, 7] [0, 1, 2, 8, 9, 10, 11, 12, 13, 14, 15, 16, 17, 18, 19, 20, 21, 22, 23, 24] [0, 1, 2, 20, 21, 22, 23, 24, 3, 4, 5, 6, 7, 8, 9, 10, 11, 12, 13, 14, 15, 16, 17, 18, 19] rfl rfl (by decide) (by decide) rfl (by decide) (va_runV (As := []) (rest := []) ⟨hx, hb, hml, hown, hts⟩ (c_X7_inputCount l D cs (q 2) qS S v6 hc _) (cwV 0 hts gX9_count_X7_inputCount rfl rfl rfl (by decide +kernel) ⟨Nat.le_of_ble_eq_true rfl, Nat.le_of_ble_eq_true rfl⟩) ⟨CP_blind, va_recv hK hw.1 (ci := 7) (q0 := 3) rfl rfl, x_preC X hw [3, 4, 5, 6, 7] rfl (by decide) [.ref (q 2)]⟩ rfl rfl hl.1 rfl (lv_room (Nat.le_of_ble_eq_true rfl)) dX9_count_93 ⟨Nat.zero_le _, Nat.zero_le _⟩) (fun H locs hw => ?_)
    cases hf
    exact hret _ _ 96 _ hw ⟨_, rfl, rfl⟩ dX9_count_96
  replace hf := ineg c5 hf
  by_cases c7 : p1 = 5
  · have hf := ipos c7 hf
    refine lv_tableIn (pc := 1) (tgt := 97) hx hb dX9_count_1 (by rw [c7]; decide) (by rw [c7]; decide) (off := 96) (by rw [c7]; decide) (by decide) ?_
    refine lv_aload_n (pc := 97) hx hb dX9_count_97 rfl (lv_at hl 0 rfl) ?_
    refine x_get (pc := 98) X hw in_X9_count_X9 0 rfl rfl 4 (by decide) (List.mem_of_getElem? (i := 8) rfl) rfl dX9_count_98 ?_
    refine x_get (pc := 101) X hw in_X9_count_X8 16 rfl rfl 1 (by decide) (List.mem_of_getElem? (i := 9) rfl) rfl dX9_count_101 ?_
    cases hf
    exact hret _ _ 104 _ hw ⟨_, rfl, rfl⟩ dX9_count_104
  replace hf := ineg c7 hf
  by_cases c8 : p1 = 6
  · have hf := ipos c8 hf
    refine lv_tableIn (pc := 1) (tgt := 105) hx hb dX9_count_1 (by rw [c8]; decide) (by rw [c8]; decide) (off := 104) (by rw [c8]; decide) (by decide) ?_
    refine lv_aload_n (pc := 105) hx hb dX9_count_105 rfl (lv_at hl 0 rfl) ?_
    refine x_get (pc := 106) X hw in_X9_count_X9 0 rfl rfl 4 (by decide) (List.mem_of_getElem? (i := 8) rfl) rfl dX9_count_106 ?_
    refine x_get (pc := 109) X hw in_X9_count_X8 16 rfl rfl 2 (by decide) (List.mem_of_getElem? (i := 10) rfl) rfl dX9_count_109 ?_
    cases hf
    exact hret _ _ 112 _ hw ⟨_, rfl, rfl⟩ dX9_count_112
  replace hf := ineg c8 hf
  by_cases c9 : p1 = 7
  · have hf := ipos c9 hf
    refine lv_tableIn (pc := 1) (tgt := 113) hx hb dX9_count_1 (by rw [c9]; decide) (by rw [c9]; decide) (off := 112) (by rw [c9]; decide) (by decide) ?_
    refine lv_aload_n (pc := 113) hx hb dX9_count_113 rfl (lv_at hl 0 rfl) ?_
    refine x_get (pc := 114) X hw in_X9_count_X9 0 rfl rfl 5 (by decide) (List.mem_of_getElem? (i := 11) rfl) rfl dX9_count_114 ?_
    refine x_get (pc := 117) X hw in_X9_count_X0 23 rfl rfl 1 (by decide) (List.mem_of_getElem? (i := 12) rfl) rfl dX9_count_117 ?_
    cases hf
    exact hret _ _ 120 _ hw ⟨_, rfl, rfl⟩ dX9_count_120
  replace hf := ineg c9 hf
  refine lv_tableOut (pc := 1) (tgt := 121) hx hb dX9_count_1 (by have zc1 := lv_neT (a := 0) c1 (by decide); have zc2 := lv_neT (a := 1) c2 (by decide); have zc3 := lv_neT (a := 2) c3 (by decide); have zc4 := lv_neT (a := 3) c4 (by decide); have zc5 := lv_neT (a := 4) c5 (by decide); have zc7 := lv_neT (a := 5) c7 (by decide); have zc8 := lv_neT (a := 6) c8 (by decide); have zc9 := lv_neT (a := 7) c9 (by decide); omega) (by decide) ?_
  refine lv_bipush (pc := 121) (v := (-3)) hx hb dX9_count_121 (by decide) ?_
  cases hf
  exact hret _ _ 123 _ hw ⟨_, rfl, rfl⟩ dX9_count_123
