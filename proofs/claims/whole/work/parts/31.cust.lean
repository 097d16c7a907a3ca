def qsw (q : Nat → Nat) : Nat → Nat := fun k => if k = 7 then q 8 else if k = 8 then q 7 else q k
def ssw (S : PS) : PS := sL (sL S 7 (S.2.2 8)) 8 (S.2.2 7)
theorem WD_perm {D : va_G} {A : Nat → Prop} {s : State} {ws ws2 : va_W} {H : Heap} {locs : List Loc} (hw : WD D A s ws H locs) (is : List Nat) (h : is.map (fun i => ws[i]?) = ws2.map some) (hn : va_nd is = true) : WD D A s ws2 H locs := ⟨hw.1.sub is (fm_of h), hw.2.1.sub is hn h, hw.2.2⟩

theorem in_X9_sumNumbered_X9 : ∀ w ∈ wsX90, w ∈ wsX9_sumNumbered := fun _ h => List.mem_cons_of_mem _ (List.mem_append_right _ h)
abbrev rmX9_sumNumbered : Room := { frames := 0, cells := 0, slots := 0, locals := 0 }
set_option maxHeartbeats 4000000 in
set_option maxRecDepth 100000 in
theorem c_X9_sumNumbered0 (l : Launch) (D : va_G) (cs : CS) (a : Nat) (q : Nat → Nat) (p1 : Int32) (hc : p1 = 0) : CT l D (TY cs) yX9_sumNumbered wsX9_sumNumbered rmX9_sumNumbered [.ref a, .int p1] (wX9 cs a q) (some (.ref (q 7))) (wX9 cs a q) := by
  refine CT.ofW (own := RX9) (cc := cX9_sumNumbered) (maxL := 2) (ret := some (.object "DrawsOut$Sum")) (by decide) rfl rfl (Nat.le_of_ble_eq_true rfl) ?_
  intro p e s m args below meth c A Q X hret ls hl hw
  obtain ⟨hx, hb, hml, hown, hts, hK, hA, hr, hlk⟩ := id X
  have hl : lv_has ls 2 [(0, .ref a), (1, .int p1)] := hl
  refine lv_iload_n (pc := 0) hx hb dX9_sumNumbered_0 rfl (lv_at hl 1 rfl) ?_
  refine lv_if_ne (pc := 1) (tgt := 11) hx hb dX9_sumNumbered_1 (by decide) (fun c1 => ?_) (fun c1 => ?_)
  · exact absurd hc c1
  · skip
    refine lv_aload_n (pc := 4) hx hb dX9_sumNumbered_4 rfl (lv_at hl 0 rfl) ?_
    refine x_get (pc := 5) X hw in_X9_sumNumbered_X9 0 rfl rfl 7 (by decide) (List.mem_of_getElem? (i := 1) rfl) rfl dX9_sumNumbered_5 ?_
    refine lv_goto (pc := 8) (tgt := 15) hx hb dX9_sumNumbered_8 (by decide) ?_
    exact hret _ _ 15 _ hw ⟨_, rfl⟩ dX9_sumNumbered_15
set_option maxHeartbeats 4000000 in
set_option maxRecDepth 100000 in
theorem c_X9_sumNumbered1 (l : Launch) (D : va_G) (cs : CS) (a : Nat) (q : Nat → Nat) (p1 : Int32) (hc : ¬ p1 = 0) : CT l D (TY cs) yX9_sumNumbered wsX9_sumNumbered rmX9_sumNumbered [.ref a, .int p1] (wX9 cs a q) (some (.ref (q 8))) (wX9 cs a q) := by
  refine CT.ofW (own := RX9) (cc := cX9_sumNumbered) (maxL := 2) (ret := some (.object "DrawsOut$Sum")) (by decide) rfl rfl (Nat.le_of_ble_eq_true rfl) ?_
  intro p e s m args below meth c A Q X hret ls hl hw
  obtain ⟨hx, hb, hml, hown, hts, hK, hA, hr, hlk⟩ := id X
  have hl : lv_has ls 2 [(0, .ref a), (1, .int p1)] := hl
  refine lv_iload_n (pc := 0) hx hb dX9_sumNumbered_0 rfl (lv_at hl 1 rfl) ?_
  refine lv_if_ne (pc := 1) (tgt := 11) hx hb dX9_sumNumbered_1 (by decide) (fun c1 => ?_) (fun c1 => ?_)
  · skip
    refine lv_aload_n (pc := 11) hx hb dX9_sumNumbered_11 rfl (lv_at hl 0 rfl) ?_
    refine x_get (pc := 12) X hw in_X9_sumNumbered_X9 0 rfl rfl 8 (by decide) (List.mem_of_getElem? (i := 2) rfl) rfl dX9_sumNumbered_12 ?_
    exact hret _ _ 15 _ hw ⟨_, rfl⟩ dX9_sumNumbered_15
  · exact absurd c1 hc

theorem in_X9_term_X9 : ∀ w ∈ wsX90, w ∈ wsX9_term := fun _ h => List.mem_cons_of_mem _ (List.mem_append_left _ (List.mem_append_right _ h))
theorem in_X9_term_X5 : ∀ w ∈ wsX50, w ∈ wsX9_term := fun _ h => List.mem_cons_of_mem _ (List.mem_append_right _ h)
abbrev rmX9_term : Room := { frames := 1, cells := 0, slots := 0, locals := 24 }
def f_X9_term (F1 : PS) (F2 : PS) (p1 : Int32) (p2 : Int32) (p3 : Int32) (p4 : Int32) (p5 : Int32) : Option (Int32 × PS × PS) :=
  b1 (f_X9_isChoice p1) fun v1 =>
  if v1 = 0 then
    some ((-2), F1, F2)
  else
  if p2 < (-9) then
    some ((-3), F1, F2)
  else
  if 9 < p2 then
    some ((-3), F1, F2)
  else
  b1 (f_X5_isPower p3) fun v5 =>
  if v5 = 0 then
    some ((-3), F1, F2)
  else
  b1 (f_X5_isPower p4) fun v7 =>
  if v7 = 0 then
    some ((-3), F1, F2)
  else
  b1 (f_X5_isPower p5) fun v9 =>
  if v9 = 0 then
    some ((-3), F1, F2)
  else
  if p1 = 0 then
    b2 (f_X5_add F1 p2 p3 p4 p5) fun v12 F113 =>
    some (v12, F113, F2)
  else
  b2 (f_X5_add F2 p2 p3 p4 p5) fun v14 F215 =>
  some (v14, F1, F215)
set_option maxHeartbeats 4000000 in
set_option maxRecDepth 100000 in
theorem c_X9_term (l : Launch) (D : va_G) (cs : CS) (a : Nat) (q : Nat → Nat) (qF1 : Nat → Nat) (qF2 : Nat → Nat) (F1 : PS) (F2 : PS) (p1 : Int32) (p2 : Int32) (p3 : Int32) (p4 : Int32) (p5 : Int32) (r : Int32) (F1' : PS) (F2' : PS) (hf : f_X9_term F1 F2 p1 p2 p3 p4 p5 = some (r, F1', F2')) : CT l D (TY cs) yX9_term wsX9_term rmX9_term [.ref a, .int p1, .int p2, .int p3, .int p4, .int p5] (wX9 cs a q ++ wX5 cs (q 7) qF1 F1 ++ wX5 cs (q 8) qF2 F2) (some (.int r)) (wX9 cs a q ++ wX5 cs (q 7) qF1 F1' ++ wX5 cs (q 8) qF2 F2') := by
  refine CT.ofW (own := RX9) (cc := cX9_term) (maxL := 6) (ret := some .int) (by decide) rfl rfl (Nat.le_of_ble_eq_true rfl) ?_
  intro p e s m args below meth c A Q X hret ls hl hw
  obtain ⟨hx, hb, hml, hown, hts, hK, hA, hr, hlk⟩ := id X
  have hl : lv_has ls 6 [(0, .ref a), (1, .int p1), (2, .int p2), (3, .int p3), (4, .int p4), (5, .int p5)] := hl
  unfold f_X9_term at hf
  refine lv_iload_n (pc := 0) hx hb dX9_term_0 rfl (lv_at hl 1 rfl) ?_
  obtain ⟨v1, hc, hf⟩ := b1_ob hf
  refine x_nil (pc := 1) X hw (va_runS (As := [.int p1]) (rest := []) ⟨hx, hb, hml, hown, hts⟩ (c_X9_isChoice l D cs p1 v1 hc _) (va_cwS 1 hts gX9_term_X9_isChoice rfl rfl rfl (by decide +kernel) ⟨Nat.le_of_ble_eq_true rfl, Nat.le_of_ble_eq_true rfl⟩) ⟨CP_blind, x_preN X [.int p1]⟩ rfl rfl hl.1 rfl (lv_room (Nat.le_of_ble_eq_true rfl)) dX9_term_1 ⟨Nat.zero_le _, Nat.zero_le _⟩) (fun H locs hw => ?_)
  refine lv_if_ne (pc := 4) (tgt := 10) hx hb dX9_term_4 (by decide) (fun c2 => ?_) (fun c2 => ?_)
  · have hf := ineg c2 hf
    refine lv_iload_n (pc := 10) hx hb dX9_term_10 rfl (lv_at hl 2 rfl) ?_
    refine lv_bipush (pc := 11) (v := (-9)) hx hb dX9_term_11 (by decide) ?_
    refine lv_icmp_lt (pc := 13) (tgt := 45) hx hb dX9_term_13 (by decide) (fun c3 => ?_) (fun c3 => ?_)
    · have hf := ipos c3 hf
      refine lv_bipush (pc := 45) (v := (-3)) hx hb dX9_term_45 (by decide) ?_
      cases hf
      exact hret _ _ 47 _ hw ⟨_, rfl, rfl⟩ dX9_term_47
    · have hf := ineg c3 hf
      refine lv_iload_n (pc := 16) hx hb dX9_term_16 rfl (lv_at hl 2 rfl) ?_
      refine lv_bipush (pc := 17) (v := 9) hx hb dX9_term_17 (by decide) ?_
      refine lv_icmp_gt (pc := 19) (tgt := 45) hx hb dX9_term_19 (by decide) (fun c4 => ?_) (fun c4 => ?_)
      · have hf := ipos c4 hf
        refine lv_bipush (pc := 45) (v := (-3)) hx hb dX9_term_45 (by decide) ?_
        cases hf
        exact hret _ _ 47 _ hw ⟨_, rfl, rfl⟩ dX9_term_47
      · have hf := ineg c4 hf
        refine lv_iload_n (pc := 22) hx hb dX9_term_22 rfl (lv_at hl 3 rfl) ?_
        obtain ⟨v5, hc, hf⟩ := b1_ob hf
        refine x_nil (pc := 23) X hw (va_runS (As := [.int p3]) (rest := []) ⟨hx, hb, hml, hown, hts⟩ (c_X5_isPower l D cs p3 v5 hc _) (va_cwS 1 hts gX9_term_X5_isPower rfl rfl rfl (by decide +kernel) ⟨Nat.le_of_ble_eq_true rfl, Nat.le_of_ble_eq_true rfl⟩) ⟨CP_blind, x_preN X [.int p3]⟩ rfl rfl hl.1 rfl (lv_room (Nat.le_of_ble_eq_true rfl)) dX9_term_23 ⟨Nat.zero_le _, Nat.zero_le _⟩) (fun H locs hw => ?_)
        refine lv_if_eq (pc := 26) (tgt := 45) hx hb dX9_term_26 (by decide) (fun c6 => ?_) (fun c6 => ?_)
        · have hf := ipos c6 hf
          refine lv_bipush (pc := 45) (v := (-3)) hx hb dX9_term_45 (by decide) ?_
          cases hf
          exact hret _ _ 47 _ hw ⟨_, rfl, rfl⟩ dX9_term_47
        · have hf := ineg c6 hf
          refine lv_iload (pc := 29) hx hb dX9_term_29 (lv_at hl 4 rfl) ?_
          obtain ⟨v7, hc, hf⟩ := b1_ob hf
          refine x_nil (pc := 31) X hw (va_runS (As := [.int p4]) (rest := []) ⟨hx, hb, hml, hown, hts⟩ (c_X5_isPower l D cs p4 v7 hc _) (va_cwS 1 hts gX9_term_X5_isPower rfl rfl rfl (by decide +kernel) ⟨Nat.le_of_ble_eq_true rfl, Nat.le_of_ble_eq_true rfl⟩) ⟨CP_blind, x_preN X [.int p4]⟩ rfl rfl hl.1 rfl (lv_room (Nat.le_of_ble_eq_true rfl)) dX9_term_31 ⟨Nat.zero_le _, Nat.zero_le _⟩) (fun H locs hw => ?_)
          refine lv_if_eq (pc := 34) (tgt := 45) hx hb dX9_term_34 (by decide) (fun c8 => ?_) (fun c8 => ?_)
          · have hf := ipos c8 hf
            refine lv_bipush (pc := 45) (v := (-3)) hx hb dX9_term_45 (by decide) ?_
            cases hf
            exact hret _ _ 47 _ hw ⟨_, rfl, rfl⟩ dX9_term_47
          · have hf := ineg c8 hf
            refine lv_iload (pc := 37) hx hb dX9_term_37 (lv_at hl 5 rfl) ?_
            obtain ⟨v9, hc, hf⟩ := b1_ob hf
            refine x_nil (pc := 39) X hw (va_runS (As := [.int p5]) (rest := []) ⟨hx, hb, hml, hown, hts⟩ (c_X5_isPower l D cs p5 v9 hc _) (va_cwS 1 hts gX9_term_X5_isPower rfl rfl rfl (by decide +kernel) ⟨Nat.le_of_ble_eq_true rfl, Nat.le_of_ble_eq_true rfl⟩) ⟨CP_blind, x_preN X [.int p5]⟩ rfl rfl hl.1 rfl (lv_room (Nat.le_of_ble_eq_true rfl)) dX9_term_39 ⟨Nat.zero_le _, Nat.zero_le _⟩) (fun H locs hw => ?_)
            refine lv_if_ne (pc := 42) (tgt := 48) hx hb dX9_term_42 (by decide) (fun c10 => ?_) (fun c10 => ?_)
            · have hf := ineg c10 hf
              refine lv_aload_n (pc := 48) hx hb dX9_term_48 rfl (lv_at hl 0 rfl) ?_
              refine lv_iload_n (pc := 49) hx hb dX9_term_49 rfl (lv_at hl 1 rfl) ?_
              by_cases c11 : p1 = 0
              · have hf := ipos c11 hf
                refine x_cut (pc := 50) (wr := ([1, 2, 3, 4].filterMap (fun i => (wX9 cs a q ++ wX5 cs (q 7) qF1 F1 ++ wX5 cs (q 8) qF2 F2)[i]?))) (ws2 := wX9 cs a q ++ wX5 cs (q 7) qF1 F1 ++ wX5 cs (q 8) qF2 F2) X hw [0] [1, 2, 3, 4] [4, 0, 1, 2, 3] rfl rfl (by decide) (by decide) rfl (by decide) (va_runV (As := [.int p1]) (rest := []) ⟨hx, hb, hml, hown, hts⟩ (c_X9_sumNumbered0 l D cs a q p1 c11 _) (cwV 1 hts gX9_term_X9_sumNumbered rfl rfl rfl (by decide +kernel) ⟨Nat.le_of_ble_eq_true rfl, Nat.le_of_ble_eq_true rfl⟩) ⟨CP_blind, va_recv hK hw.1 (ci := 9) (q0 := 0) rfl rfl, x_preC X hw [0] rfl (by decide) [.ref a, .int p1]⟩ rfl rfl hl.1 rfl (lv_room (Nat.le_of_ble_eq_true rfl)) dX9_term_50 ⟨Nat.zero_le _, Nat.zero_le _⟩) (fun H locs hw => ?_)
                refine lv_iload_n (pc := 53) hx hb dX9_term_53 rfl (lv_at hl 2 rfl) ?_
                refine lv_iload_n (pc := 54) hx hb dX9_term_54 rfl (lv_at hl 3 rfl) ?_
                refine lv_iload (pc := 55) hx hb dX9_term_55 (lv_at hl 4 rfl) ?_
                refine lv_iload (pc := 57) hx hb dX9_term_57 (lv_at hl 5 rfl) ?_
                obtain ⟨v12, F113, hc, hf⟩ := b2_ob hf
                refine x_cut (pc := 59) (wr := ([0, 3, 4].filterMap (fun i => (wX9 cs a q ++ wX5 cs (q 7) qF1 F1 ++ wX5 cs (q 8) qF2 F2)[i]?))) (ws2 := wX9 cs a q ++ wX5 cs (q 7) qF1 F113 ++ wX5 cs (q 8) qF2 F2) X hw [1, 2] [0, 3, 4] [0, 3, 4, 1, 2] rfl rfl (by decide) (by decide) rfl (by decide) (va_runV (As := [.int p2, .int p3, .int p4, .int p5]) (rest := []) ⟨hx, hb, hml, hown, hts⟩ (c_X5_add l D cs (q 7) qF1 F1 p2 p3 p4 p5 v12 F113 hc _) (cwV 4 hts gX9_term_X5_add rfl rfl rfl (by decide +kernel) ⟨Nat.le_of_ble_eq_true rfl, Nat.le_of_ble_eq_true rfl⟩) ⟨CP_blind, va_recv hK hw.1 (ci := 5) (q0 := 1) rfl rfl, x_preC X hw [1, 2] rfl (by decide) [.ref (q 7), .int p2, .int p3, .int p4, .int p5]⟩ rfl rfl hl.1 rfl (lv_room (Nat.le_of_ble_eq_true rfl)) dX9_term_59 ⟨Nat.zero_le _, Nat.zero_le _⟩) (fun H locs hw => ?_)
                cases hf
                exact hret _ _ 62 _ hw ⟨_, rfl, rfl⟩ dX9_term_62
              · have hf := ineg c11 hf
                refine x_cut (pc := 50) (wr := ([1, 2, 3, 4].filterMap (fun i => (wX9 cs a q ++ wX5 cs (q 7) qF1 F1 ++ wX5 cs (q 8) qF2 F2)[i]?))) (ws2 := wX9 cs a q ++ wX5 cs (q 7) qF1 F1 ++ wX5 cs (q 8) qF2 F2) X hw [0] [1, 2, 3, 4] [4, 0, 1, 2, 3] rfl rfl (by decide) (by decide) rfl (by decide) (va_runV (As := [.int p1]) (rest := []) ⟨hx, hb, hml, hown, hts⟩ (c_X9_sumNumbered1 l D cs a q p1 c11 _) (cwV 1 hts gX9_term_X9_sumNumbered rfl rfl rfl (by decide +kernel) ⟨Nat.le_of_ble_eq_true rfl, Nat.le_of_ble_eq_true rfl⟩) ⟨CP_blind, va_recv hK hw.1 (ci := 9) (q0 := 0) rfl rfl, x_preC X hw [0] rfl (by decide) [.ref a, .int p1]⟩ rfl rfl hl.1 rfl (lv_room (Nat.le_of_ble_eq_true rfl)) dX9_term_50 ⟨Nat.zero_le _, Nat.zero_le _⟩) (fun H locs hw => ?_)
                refine lv_iload_n (pc := 53) hx hb dX9_term_53 rfl (lv_at hl 2 rfl) ?_
                refine lv_iload_n (pc := 54) hx hb dX9_term_54 rfl (lv_at hl 3 rfl) ?_
                refine lv_iload (pc := 55) hx hb dX9_term_55 (lv_at hl 4 rfl) ?_
                refine lv_iload (pc := 57) hx hb dX9_term_57 (lv_at hl 5 rfl) ?_
                obtain ⟨v14, F215, hc, hf⟩ := b2_ob hf
                refine x_cut (pc := 59) (wr := ([0, 1, 2].filterMap (fun i => (wX9 cs a q ++ wX5 cs (q 7) qF1 F1 ++ wX5 cs (q 8) qF2 F2)[i]?))) (ws2 := wX9 cs a q ++ wX5 cs (q 7) qF1 F1 ++ wX5 cs (q 8) qF2 F215) X hw [3, 4] [0, 1, 2] [0, 1, 2, 3, 4] rfl rfl (by decide) (by decide) rfl (by decide) (va_runV (As := [.int p2, .int p3, .int p4, .int p5]) (rest := []) ⟨hx, hb, hml, hown, hts⟩ (c_X5_add l D cs (q 8) qF2 F2 p2 p3 p4 p5 v14 F215 hc _) (cwV 4 hts gX9_term_X5_add rfl rfl rfl (by decide +kernel) ⟨Nat.le_of_ble_eq_true rfl, Nat.le_of_ble_eq_true rfl⟩) ⟨CP_blind, va_recv hK hw.1 (ci := 5) (q0 := 3) rfl rfl, x_preC X hw [3, 4] rfl (by decide) [.ref (q 8), .int p2, .int p3, .int p4, .int p5]⟩ rfl rfl hl.1 rfl (lv_room (Nat.le_of_ble_eq_true rfl)) dX9_term_59 ⟨Nat.zero_le _, Nat.zero_le _⟩) (fun H locs hw => ?_)
                cases hf
                exact hret _ _ 62 _ hw ⟨_, rfl, rfl⟩ dX9_term_62
            · have hf := ipos c10 hf
              refine lv_bipush (pc := 45) (v := (-3)) hx hb dX9_term_45 (by decide) ?_
              cases hf
              exact hret _ _ 47 _ hw ⟨_, rfl, rfl⟩ dX9_term_47
  · have hf := ipos c2 hf
    refine lv_bipush (pc := 7) (v := (-2)) hx hb dX9_term_7 (by decide) ?_
    cases hf
    exact hret _ _ 9 _ hw ⟨_, rfl, rfl⟩ dX9_term_9

theorem in_X9_value_X9 : ∀ w ∈ wsX90, w ∈ wsX9_value := fun _ h => List.mem_cons_of_mem _ (List.mem_append_left _ (List.mem_append_left _ (List.mem_append_right _ h)))
theorem in_X9_value_X5 : ∀ w ∈ wsX50, w ∈ wsX9_value := fun _ h => List.mem_cons_of_mem _ (List.mem_append_left _ (List.mem_append_right _ h))
theorem in_X9_value_X1 : ∀ w ∈ wsX10, w ∈ wsX9_value := fun _ h => List.mem_cons_of_mem _ (List.mem_append_right _ h)
abbrev rmX9_value : Room := { frames := 2, cells := 0, slots := 0, locals := 50 }
def f_X9_value (F1 : PS) (F2 : PS) (Pt : PS) (p1 : Int32) (p2 : Int32) (p3 : Int32) (p4 : Int32) : Option (Int64 × PS) :=
  b1 (f_X9_isChoice p1) fun v1 =>
  if v1 = 0 then
    some ((-9223372036854775808), Pt)
  else
  b1 (f_X1_isPlace p2) fun v3 =>
  if v3 = 0 then
    some ((-9223372036854775808), Pt)
  else
  b1 (f_X1_isPlace p3) fun v5 =>
  if v5 = 0 then
    some ((-9223372036854775808), Pt)
  else
  b1 (f_X1_isPlace p4) fun v7 =>
  if v7 = 0 then
    some ((-9223372036854775808), Pt)
  else
  if p1 = 0 then
    b2 (f_X1_valueAt Pt F1 p2 p3 p4) fun v10 Pt11 =>
    some (v10, Pt11)
  else
  b2 (f_X1_valueAt Pt F2 p2 p3 p4) fun v12 Pt13 =>
  some (v12, Pt13)
set_option maxHeartbeats 4000000 in
set_option maxRecDepth 100000 in
theorem c_X9_value (l : Launch) (D : va_G) (cs : CS) (a : Nat) (q : Nat → Nat) (qF1 : Nat → Nat) (qF2 : Nat → Nat) (qPt : Nat → Nat) (F1 : PS) (F2 : PS) (Pt : PS) (p1 : Int32) (p2 : Int32) (p3 : Int32) (p4 : Int32) (r : Int64) (Pt' : PS) (hf : f_X9_value F1 F2 Pt p1 p2 p3 p4 = some (r, Pt')) : CT l D (TY cs) yX9_value wsX9_value rmX9_value [.ref a, .int p1, .int p2, .int p3, .int p4] (wX9 cs a q ++ wX5 cs (q 7) qF1 F1 ++ wX5 cs (q 8) qF2 F2 ++ wX1 cs (q 9) qPt Pt) (some (.long r)) (wX9 cs a q ++ wX5 cs (q 7) qF1 F1 ++ wX5 cs (q 8) qF2 F2 ++ wX1 cs (q 9) qPt Pt') := by
  refine CT.ofW (own := RX9) (cc := cX9_value) (maxL := 5) (ret := some .long) (by decide) rfl rfl (Nat.le_of_ble_eq_true rfl) ?_
  intro p e s m args below meth c A Q X hret ls hl hw
  obtain ⟨hx, hb, hml, hown, hts, hK, hA, hr, hlk⟩ := id X
  have hl : lv_has ls 5 [(0, .ref a), (1, .int p1), (2, .int p2), (3, .int p3), (4, .int p4)] := hl
  unfold f_X9_value at hf
  refine lv_iload_n (pc := 0) hx hb dX9_value_0 rfl (lv_at hl 1 rfl) ?_
  obtain ⟨v1, hc, hf⟩ := b1_ob hf
  refine x_nil (pc := 1) X hw (va_runS (As := [.int p1]) (rest := []) ⟨hx, hb, hml, hown, hts⟩ (c_X9_isChoice l D cs p1 v1 hc _) (va_cwS 1 hts gX9_value_X9_isChoice rfl rfl rfl (by decide +kernel) ⟨Nat.le_of_ble_eq_true rfl, Nat.le_of_ble_eq_true rfl⟩) ⟨CP_blind, x_preN X [.int p1]⟩ rfl rfl hl.1 rfl (lv_room (Nat.le_of_ble_eq_true rfl)) dX9_value_1 ⟨Nat.zero_le _, Nat.zero_le _⟩) (fun H locs hw => ?_)
  refine lv_if_eq (pc := 4) (tgt := 29) hx hb dX9_value_4 (by decide) (fun c2 => ?_) (fun c2 => ?_)
  · have hf := ipos c2 hf
    refine lv_ldc2 (pc := 29) (v := (-9223372036854775808)) hx hb hown (hts _ (List.mem_of_getElem? (i := 1) rfl)) dX9_value_29 ?_
    cases hf
    exact hret _ _ 32 _ hw rfl dX9_value_32
  · have hf := ineg c2 hf
    refine lv_iload_n (pc := 7) hx hb dX9_value_7 rfl (lv_at hl 2 rfl) ?_
    obtain ⟨v3, hc, hf⟩ := b1_ob hf
    refine x_nil (pc := 8) X hw (va_runS (As := [.int p2]) (rest := []) ⟨hx, hb, hml, hown, hts⟩ (c_X1_isPlace l D cs p2 v3 hc _) (va_cwS 1 hts gX9_value_X1_isPlace rfl rfl rfl (by decide +kernel) ⟨Nat.le_of_ble_eq_true rfl, Nat.le_of_ble_eq_true rfl⟩) ⟨CP_blind, x_preN X [.int p2]⟩ rfl rfl hl.1 rfl (lv_room (Nat.le_of_ble_eq_true rfl)) dX9_value_8 ⟨Nat.zero_le _, Nat.zero_le _⟩) (fun H locs hw => ?_)
    refine lv_if_eq (pc := 11) (tgt := 29) hx hb dX9_value_11 (by decide) (fun c4 => ?_) (fun c4 => ?_)
    · have hf := ipos c4 hf
      refine lv_ldc2 (pc := 29) (v := (-9223372036854775808)) hx hb hown (hts _ (List.mem_of_getElem? (i := 1) rfl)) dX9_value_29 ?_
      cases hf
      exact hret _ _ 32 _ hw rfl dX9_value_32
    · have hf := ineg c4 hf
      refine lv_iload_n (pc := 14) hx hb dX9_value_14 rfl (lv_at hl 3 rfl) ?_
      obtain ⟨v5, hc, hf⟩ := b1_ob hf
      refine x_nil (pc := 15) X hw (va_runS (As := [.int p3]) (rest := []) ⟨hx, hb, hml, hown, hts⟩ (c_X1_isPlace l D cs p3 v5 hc _) (va_cwS 1 hts gX9_value_X1_isPlace rfl rfl rfl (by decide +kernel) ⟨Nat.le_of_ble_eq_true rfl, Nat.le_of_ble_eq_true rfl⟩) ⟨CP_blind, x_preN X [.int p3]⟩ rfl rfl hl.1 rfl (lv_room (Nat.le_of_ble_eq_true rfl)) dX9_value_15 ⟨Nat.zero_le _, Nat.zero_le _⟩) (fun H locs hw => ?_)
      refine lv_if_eq (pc := 18) (tgt := 29) hx hb dX9_value_18 (by decide) (fun c6 => ?_) (fun c6 => ?_)
      · have hf := ipos c6 hf
        refine lv_ldc2 (pc := 29) (v := (-9223372036854775808)) hx hb hown (hts _ (List.mem_of_getElem? (i := 1) rfl)) dX9_value_29 ?_
        cases hf
        exact hret _ _ 32 _ hw rfl dX9_value_32
      · have hf := ineg c6 hf
        refine lv_iload (pc := 21) hx hb dX9_value_21 (lv_at hl 4 rfl) ?_
        obtain ⟨v7, hc, hf⟩ := b1_ob hf
        refine x_nil (pc := 23) X hw (va_runS (As := [.int p4]) (rest := []) ⟨hx, hb, hml, hown, hts⟩ (c_X1_isPlace l D cs p4 v7 hc _) (va_cwS 1 hts gX9_value_X1_isPlace rfl rfl rfl (by decide +kernel) ⟨Nat.le_of_ble_eq_true rfl, Nat.le_of_ble_eq_true rfl⟩) ⟨CP_blind, x_preN X [.int p4]⟩ rfl rfl hl.1 rfl (lv_room (Nat.le_of_ble_eq_true rfl)) dX9_value_23 ⟨Nat.zero_le _, Nat.zero_le _⟩) (fun H locs hw => ?_)
        refine lv_if_ne (pc := 26) (tgt := 33) hx hb dX9_value_26 (by decide) (fun c8 => ?_) (fun c8 => ?_)
        · have hf := ineg c8 hf
          refine lv_aload_n (pc := 33) hx hb dX9_value_33 rfl (lv_at hl 0 rfl) ?_
          refine x_get (pc := 34) X hw in_X9_value_X9 0 rfl rfl 9 (by decide) (List.mem_of_getElem? (i := 2) rfl) rfl dX9_value_34 ?_
          refine lv_aload_n (pc := 37) hx hb dX9_value_37 rfl (lv_at hl 0 rfl) ?_
          refine lv_iload_n (pc := 38) hx hb dX9_value_38 rfl (lv_at hl 1 rfl) ?_
          by_cases c9 : p1 = 0
          · have hf := ipos c9 hf
            refine x_cut (pc := 39) (wr := ([1, 2, 3, 4, 5, 6, 7, 8, 9].filterMap (fun i => (wX9 cs a q ++ wX5 cs (q 7) qF1 F1 ++ wX5 cs (q 8) qF2 F2 ++ wX1 cs (q 9) qPt Pt)[i]?))) (ws2 := wX9 cs a q ++ wX5 cs (q 7) qF1 F1 ++ wX5 cs (q 8) qF2 F2 ++ wX1 cs (q 9) qPt Pt) X hw [0] [1, 2, 3, 4, 5, 6, 7, 8, 9] [9, 0, 1, 2, 3, 4, 5, 6, 7, 8] rfl rfl (by decide) (by decide) rfl (by decide) (va_runV (As := [.int p1]) (rest := [.ref (q 9)]) ⟨hx, hb, hml, hown, hts⟩ (c_X9_sumNumbered0 l D cs a q p1 c9 _) (cwV 1 hts gX9_value_X9_sumNumbered rfl rfl rfl (by decide +kernel) ⟨Nat.le_of_ble_eq_true rfl, Nat.le_of_ble_eq_true rfl⟩) ⟨CP_blind, va_recv hK hw.1 (ci := 9) (q0 := 0) rfl rfl, x_preC X hw [0] rfl (by decide) [.ref a, .int p1]⟩ rfl rfl hl.1 rfl (lv_room (Nat.le_of_ble_eq_true rfl)) dX9_value_39 ⟨Nat.zero_le _, Nat.zero_le _⟩) (fun H locs hw => ?_)
            refine lv_iload_n (pc := 42) hx hb dX9_value_42 rfl (lv_at hl 2 rfl) ?_
            refine lv_iload_n (pc := 43) hx hb dX9_value_43 rfl (lv_at hl 3 rfl) ?_
            refine lv_iload (pc := 44) hx hb dX9_value_44 (lv_at hl 4 rfl) ?_
            obtain ⟨v10, Pt11, hc, hf⟩ := b2_ob hf
            refine x_cut (pc := 46) (wr := ([0, 3, 4].filterMap (fun i => (wX9 cs a q ++ wX5 cs (q 7) qF1 F1 ++ wX5 cs (q 8) qF2 F2 ++ wX1 cs (q 9) qPt Pt)[i]?))) (ws2 := wX9 cs a q ++ wX5 cs (q 7) qF1 F1 ++ wX5 cs (q 8) qF2 F2 ++ wX1 cs (q 9) qPt Pt11) X hw [5, 6, 7, 8, 9, 1, 2] [0, 3, 4] [0, 8, 9, 1, 2, 3, 4, 5, 6, 7] rfl rfl (by decide) (by decide) rfl (by decide) (va_runV (As := [.ref (q 7), .int p2, .int p3, .int p4]) (rest := []) ⟨hx, hb, hml, hown, hts⟩ (c_X1_valueAt l D cs (q 9) (q 7) qPt qF1 Pt F1 p2 p3 p4 v10 Pt11 hc _) (cwV 4 hts gX9_value_X1_valueAt rfl rfl rfl (by decide +kernel) ⟨Nat.le_of_ble_eq_true rfl, Nat.le_of_ble_eq_true rfl⟩) ⟨CP_blind, va_recv hK hw.1 (ci := 1) (q0 := 5) rfl rfl, x_preC X hw [5, 6, 7, 8, 9, 1, 2] rfl (by decide) [.ref (q 9), .ref (q 7), .int p2, .int p3, .int p4]⟩ rfl rfl hl.1 rfl (lv_room (Nat.le_of_ble_eq_true rfl)) dX9_value_46 ⟨Nat.zero_le _, Nat.zero_le _⟩) (fun H locs hw => ?_)
            cases hf
            exact hret _ _ 49 _ hw rfl dX9_value_49
          · have hf := ineg c9 hf
            refine x_cut (pc := 39) (wr := ([1, 2, 3, 4, 5, 6, 7, 8, 9].filterMap (fun i => (wX9 cs a q ++ wX5 cs (q 7) qF1 F1 ++ wX5 cs (q 8) qF2 F2 ++ wX1 cs (q 9) qPt Pt)[i]?))) (ws2 := wX9 cs a q ++ wX5 cs (q 7) qF1 F1 ++ wX5 cs (q 8) qF2 F2 ++ wX1 cs (q 9) qPt Pt) X hw [0] [1, 2, 3, 4, 5, 6, 7, 8, 9] [9, 0, 1, 2, 3, 4, 5, 6, 7, 8] rfl rfl (by decide) (by decide) rfl (by decide) (va_runV (As := [.int p1]) (rest := [.ref (q 9)]) ⟨hx, hb, hml, hown, hts⟩ (c_X9_sumNumbered1 l D cs a q p1 c9 _) (cwV 1 hts gX9_value_X9_sumNumbered rfl rfl rfl (by decide +kernel) ⟨Nat.le_of_ble_eq_true rfl, Nat.le_of_ble_eq_true rfl⟩) ⟨CP_blind, va_recv hK hw.1 (ci := 9) (q0 := 0) rfl rfl, x_preC X hw [0] rfl (by decide) [.ref a, .int p1]⟩ rfl rfl hl.1 rfl (lv_room (Nat.le_of_ble_eq_true rfl)) dX9_value_39 ⟨Nat.zero_le _, Nat.zero_le _⟩) (fun H locs hw => ?_)
            refine lv_iload_n (pc := 42) hx hb dX9_value_42 rfl (lv_at hl 2 rfl) ?_
            refine lv_iload_n (pc := 43) hx hb dX9_value_43 rfl (lv_at hl 3 rfl) ?_
            refine lv_iload (pc := 44) hx hb dX9_value_44 (lv_at hl 4 rfl) ?_
            obtain ⟨v12, Pt13, hc, hf⟩ := b2_ob hf
            refine x_cut (pc := 46) (wr := ([0, 1, 2].filterMap (fun i => (wX9 cs a q ++ wX5 cs (q 7) qF1 F1 ++ wX5 cs (q 8) qF2 F2 ++ wX1 cs (q 9) qPt Pt)[i]?))) (ws2 := wX9 cs a q ++ wX5 cs (q 7) qF1 F1 ++ wX5 cs (q 8) qF2 F2 ++ wX1 cs (q 9) qPt Pt13) X hw [5, 6, 7, 8, 9, 3, 4] [0, 1, 2] [0, 1, 2, 8, 9, 3, 4, 5, 6, 7] rfl rfl (by decide) (by decide) rfl (by decide) (va_runV (As := [.ref (q 8), .int p2, .int p3, .int p4]) (rest := []) ⟨hx, hb, hml, hown, hts⟩ (c_X1_valueAt l D cs (q 9) (q 8) qPt qF2 Pt F2 p2 p3 p4 v12 Pt13 hc _) (cwV 4 hts gX9_value_X1_valueAt rfl rfl rfl (by decide +kernel) ⟨Nat.le_of_ble_eq_true rfl, Nat.le_of_ble_eq_true rfl⟩) ⟨CP_blind, va_recv hK hw.1 (ci := 1) (q0 := 5) rfl rfl, x_preC X hw [5, 6, 7, 8, 9, 3, 4] rfl (by decide) [.ref (q 9), .ref (q 8), .int p2, .int p3, .int p4]⟩ rfl rfl hl.1 rfl (lv_room (Nat.le_of_ble_eq_true rfl)) dX9_value_46 ⟨Nat.zero_le _, Nat.zero_le _⟩) (fun H locs hw => ?_)
            cases hf
            exact hret _ _ 49 _ hw rfl dX9_value_49
        · have hf := ipos c8 hf
          refine lv_ldc2 (pc := 29) (v := (-9223372036854775808)) hx hb hown (hts _ (List.mem_of_getElem? (i := 1) rfl)) dX9_value_29 ?_
          cases hf
          exact hret _ _ 32 _ hw rfl dX9_value_32

theorem in_X9_degree_X9 : ∀ w ∈ wsX90, w ∈ wsX9_degree := fun _ h => List.mem_cons_of_mem _ (List.mem_append_left _ (List.mem_append_right _ h))
theorem in_X9_degree_X5 : ∀ w ∈ wsX50, w ∈ wsX9_degree := fun _ h => List.mem_cons_of_mem _ (List.mem_append_right _ h)
abbrev rmX9_degree : Room := { frames := 2, cells := 0, slots := 0, locals := 45 }
def f_X9_degree (F1 : PS) (F2 : PS) (p1 : Int32) : Option (Int32) :=
  b1 (f_X9_isChoice p1) fun v1 =>
  b1 (
    if v1 = 0 then
      some ((-2) : Int32)
    else
    if p1 = 0 then
      b1 (f_X5_greatestPower F1) fun v5 =>
      some v5
    else
    b1 (f_X5_greatestPower F2) fun v6 =>
    some v6) fun v2 =>
  some v2
set_option maxHeartbeats 4000000 in
set_option maxRecDepth 100000 in
theorem c_X9_degree (l : Launch) (D : va_G) (cs : CS) (a : Nat) (q : Nat → Nat) (qF1 : Nat → Nat) (qF2 : Nat → Nat) (F1 : PS) (F2 : PS) (p1 : Int32) (r : Int32) (hf : f_X9_degree F1 F2 p1 = some r) : CT l D (TY cs) yX9_degree wsX9_degree rmX9_degree [.ref a, .int p1] (wX9 cs a q ++ wX5 cs (q 7) qF1 F1 ++ wX5 cs (q 8) qF2 F2) (some (.int r)) (wX9 cs a q ++ wX5 cs (q 7) qF1 F1 ++ wX5 cs (q 8) qF2 F2) := by
  refine CT.ofW (own := RX9) (cc := cX9_degree) (maxL := 2) (ret := some .int) (by decide) rfl rfl (Nat.le_of_ble_eq_true rfl) ?_
  intro p e s m args below meth c A Q X hret ls hl hw
  obtain ⟨hx, hb, hml, hown, hts, hK, hA, hr, hlk⟩ := id X
  have hl : lv_has ls 2 [(0, .ref a), (1, .int p1)] := hl
  unfold f_X9_degree at hf
  refine lv_iload_n (pc := 0) hx hb dX9_degree_0 rfl (lv_at hl 1 rfl) ?_
  obtain ⟨v1, hc, hf⟩ := b1_ob hf
  refine x_nil (pc := 1) X hw (va_runS (As := [.int p1]) (rest := []) ⟨hx, hb, hml, hown, hts⟩ (c_X9_isChoice l D cs p1 v1 hc _) (va_cwS 1 hts gX9_degree_X9_isChoice rfl rfl rfl (by decide +kernel) ⟨Nat.le_of_ble_eq_true rfl, Nat.le_of_ble_eq_true rfl⟩) ⟨CP_blind, x_preN X [.int p1]⟩ rfl rfl hl.1 rfl (lv_room (Nat.le_of_ble_eq_true rfl)) dX9_degree_1 ⟨Nat.zero_le _, Nat.zero_le _⟩) (fun H locs hw => ?_)
  obtain ⟨v2, hj, hf⟩ := b1_ob hf
  have J20_1 : ∀ (H : Heap) (locs : List Loc) (ls : Array Slot), WD D A s (wX9 cs a q ++ wX5 cs (q 7) qF1 F1 ++ wX5 cs (q 8) qF2 F2) H locs → lv_has ls 2 [] → W p l e rmX9_degree s m args below meth c H locs 0 0 Q (F0 m 20 ls [.int v2]) := by
    intro H locs ls hw hl
    cases hf
    exact hret _ _ 20 _ hw ⟨_, rfl, rfl⟩ dX9_degree_20
  clear hf; have hf := hj; clear hj
  refine lv_if_eq (pc := 4) (tgt := 18) hx hb dX9_degree_4 (by decide) (fun c3 => ?_) (fun c3 => ?_)
  · have hf := ipos c3 hf
    refine lv_bipush (pc := 18) (v := (-2)) hx hb dX9_degree_18 (by decide) ?_
    cases hf
    exact J20_1 _ _ _ hw (lv_sub hl [] rfl)
  · have hf := ineg c3 hf
    refine lv_aload_n (pc := 7) hx hb dX9_degree_7 rfl (lv_at hl 0 rfl) ?_
    refine lv_iload_n (pc := 8) hx hb dX9_degree_8 rfl (lv_at hl 1 rfl) ?_
    by_cases c4 : p1 = 0
    · have hf := ipos c4 hf
      refine x_cut (pc := 9) (wr := ([1, 2, 3, 4].filterMap (fun i => (wX9 cs a q ++ wX5 cs (q 7) qF1 F1 ++ wX5 cs (q 8) qF2 F2)[i]?))) (ws2 := wX9 cs a q ++ wX5 cs (q 7) qF1 F1 ++ wX5 cs (q 8) qF2 F2) X hw [0] [1, 2, 3, 4] [4, 0, 1, 2, 3] rfl rfl (by decide) (by decide) rfl (by decide) (va_runV (As := [.int p1]) (rest := []) ⟨hx, hb, hml, hown, hts⟩ (c_X9_sumNumbered0 l D cs a q p1 c4 _) (cwV 1 hts gX9_degree_X9_sumNumbered rfl rfl rfl (by decide +kernel) ⟨Nat.le_of_ble_eq_true rfl, Nat.le_of_ble_eq_true rfl⟩) ⟨CP_blind, va_recv hK hw.1 (ci := 9) (q0 := 0) rfl rfl, x_preC X hw [0] rfl (by decide) [.ref a, .int p1]⟩ rfl rfl hl.1 rfl (lv_room (Nat.le_of_ble_eq_true rfl)) dX9_degree_9 ⟨Nat.zero_le _, Nat.zero_le _⟩) (fun H locs hw => ?_)
      obtain ⟨v5, hc, hf⟩ := b1_ob hf
      refine x_cut (pc := 12) (wr := ([0, 3, 4].filterMap (fun i => (wX9 cs a q ++ wX5 cs (q 7) qF1 F1 ++ wX5 cs (q 8) qF2 F2)[i]?))) (ws2 := wX9 cs a q ++ wX5 cs (q 7) qF1 F1 ++ wX5 cs (q 8) qF2 F2) X hw [1, 2] [0, 3, 4] [0, 3, 4, 1, 2] rfl rfl (by decide) (by decide) rfl (by decide) (va_runV (As := []) (rest := []) ⟨hx, hb, hml, hown, hts⟩ (c_X5_greatestPower l D cs (q 7) qF1 F1 v5 hc _) (cwV 0 hts gX9_degree_X5_greatestPower rfl rfl rfl (by decide +kernel) ⟨Nat.le_of_ble_eq_true rfl, Nat.le_of_ble_eq_true rfl⟩) ⟨CP_blind, va_recv hK hw.1 (ci := 5) (q0 := 1) rfl rfl, x_preC X hw [1, 2] rfl (by decide) [.ref (q 7)]⟩ rfl rfl hl.1 rfl (lv_room (Nat.le_of_ble_eq_true rfl)) dX9_degree_12 ⟨Nat.zero_le _, Nat.zero_le _⟩) (fun H locs hw => ?_)
      refine lv_goto (pc := 15) (tgt := 20) hx hb dX9_degree_15 (by decide) ?_
      cases hf
      exact J20_1 _ _ _ hw (lv_sub hl [] rfl)
    · have hf := ineg c4 hf
      refine x_cut (pc := 9) (wr := ([1, 2, 3, 4].filterMap (fun i => (wX9 cs a q ++ wX5 cs (q 7) qF1 F1 ++ wX5 cs (q 8) qF2 F2)[i]?))) (ws2 := wX9 cs a q ++ wX5 cs (q 7) qF1 F1 ++ wX5 cs (q 8) qF2 F2) X hw [0] [1, 2, 3, 4] [4, 0, 1, 2, 3] rfl rfl (by decide) (by decide) rfl (by decide) (va_runV (As := [.int p1]) (rest := []) ⟨hx, hb, hml, hown, hts⟩ (c_X9_sumNumbered1 l D cs a q p1 c4 _) (cwV 1 hts gX9_degree_X9_sumNumbered rfl rfl rfl (by decide +kernel) ⟨Nat.le_of_ble_eq_true rfl, Nat.le_of_ble_eq_true rfl⟩) ⟨CP_blind, va_recv hK hw.1 (ci := 9) (q0 := 0) rfl rfl, x_preC X hw [0] rfl (by decide) [.ref a, .int p1]⟩ rfl rfl hl.1 rfl (lv_room (Nat.le_of_ble_eq_true rfl)) dX9_degree_9 ⟨Nat.zero_le _, Nat.zero_le _⟩) (fun H locs hw => ?_)
      obtain ⟨v6, hc, hf⟩ := b1_ob hf
      refine x_cut (pc := 12) (wr := ([0, 1, 2].filterMap (fun i => (wX9 cs a q ++ wX5 cs (q 7) qF1 F1 ++ wX5 cs (q 8) qF2 F2)[i]?))) (ws2 := wX9 cs a q ++ wX5 cs (q 7) qF1 F1 ++ wX5 cs (q 8) qF2 F2) X hw [3, 4] [0, 1, 2] [0, 1, 2, 3, 4] rfl rfl (by decide) (by decide) rfl (by decide) (va_runV (As := []) (rest := []) ⟨hx, hb, hml, hown, hts⟩ (c_X5_greatestPower l D cs (q 8) qF2 F2 v6 hc _) (cwV 0 hts gX9_degree_X5_greatestPower rfl rfl rfl (by decide +kernel) ⟨Nat.le_of_ble_eq_true rfl, Nat.le_of_ble_eq_true rfl⟩) ⟨CP_blind, va_recv hK hw.1 (ci := 5) (q0 := 3) rfl rfl, x_preC X hw [3, 4] rfl (by decide) [.ref (q 8)]⟩ rfl rfl hl.1 rfl (lv_room (Nat.le_of_ble_eq_true rfl)) dX9_degree_12 ⟨Nat.zero_le _, Nat.zero_le _⟩) (fun H locs hw => ?_)
      refine lv_goto (pc := 15) (tgt := 20) hx hb dX9_degree_15 (by decide) ?_
      cases hf
      exact J20_1 _ _ _ hw (lv_sub hl [] rfl)

theorem in_X8_lengthenWalks_X8 : ∀ w ∈ wsX80, w ∈ wsX8_lengthenWalks := fun _ h => List.mem_cons_of_mem _ (List.mem_append_right _ h)
abbrev rmX8_lengthenWalks : Room := { frames := 1, cells := 0, slots := 0, locals := 24 }
def B_X8_lengthenWalks_10 (p1 : Int32) (v3 : Int32) (S4 : PS) : Option ((Int32 × PS) ⊕ (PS)) :=
  if (S4.1 1) ≤ v3 then
    some (.inr S4)
  else
  b1 (rdI 16 (S4.2.1 3) v3) fun v6 =>
  b1 (rdI 16 (S4.2.1 4) v3) fun v7 =>
  b1 (
    if (((p1 >>> (v6 &&& 31)) &&& (p1 >>> (v7 &&& 31))) &&& 1) = 1 then
      b1 (rdL 8 (S4.2.2 8) v6) fun v10 =>
      b1 (rdL 8 (S4.2.2 7) v7) fun v11 =>
      b1 (wL 8 S4 8 v6 (v10 + v11)) fun S12 =>
      b1 (rdL 8 (S12.2.2 8) v7) fun v13 =>
      b1 (rdL 8 (S12.2.2 7) v6) fun v14 =>
      b1 (wL 8 S12 8 v7 (v13 + v14)) fun S15 =>
      some S15
    else
    some S4) fun S8 =>
  bn (v3 + 1) fun v16 =>
  some (.inl (v16, S8))
def L_X8_lengthenWalks_10 (p1 : Int32) (n : Nat) (v3 : Int32) (S4 : PS) : Option (PS) := loopF (fun x : Int32 × PS => B_X8_lengthenWalks_10 p1 x.1 x.2) n (v3, S4)
def f_X8_lengthenWalks (S : PS) (q : Nat → Nat) (p1 : Int32) : Option (PS × (Nat → Nat)) :=
  b1 (f_J7_fill_d0a16 8 (S.2.2 8) 0) fun f1 =>
  bn (sL S 8 f1) fun S2 =>
  b1 (L_X8_lengthenWalks_10 p1 FU 0 S2) fun S17 =>
  some ((ssw S17), (qsw q))
set_option maxHeartbeats 4000000 in
set_option maxRecDepth 100000 in
theorem c_X8_lengthenWalks (l : Launch) (D : va_G) (cs : CS) (a : Nat) (S : PS) (q : Nat → Nat) (p1 : Int32) (S' : PS) (q' : Nat → Nat) (hf : f_X8_lengthenWalks S q p1 = some (S', q')) : CT l D (TY cs) yX8_lengthenWalks wsX8_lengthenWalks rmX8_lengthenWalks [.ref a, .int p1] (wX8 cs a q S) none (wX8 cs a q' S') := by
  refine CT.ofW (own := RX8) (cc := cX8_lengthenWalks) (maxL := 5) (ret := none) (by decide) rfl rfl (Nat.le_of_ble_eq_true rfl) ?_
  intro p e s m args below meth c A Q X hret ls hl hw
  obtain ⟨hx, hb, hml, hown, hts, hK, hA, hr, hlk⟩ := id X
  have hl : lv_has ls 5 [(0, .ref a), (1, .int p1)] := hl
  unfold f_X8_lengthenWalks at hf
  refine lv_aload_n (pc := 0) hx hb dX8_lengthenWalks_0 rfl (lv_at hl 0 rfl) ?_
  refine x_get (pc := 1) X hw in_X8_lengthenWalks_X8 0 rfl rfl 8 (by decide) (List.mem_of_getElem? (i := 1) rfl) rfl dX8_lengthenWalks_1 ?_
  refine lv_lconst (pc := 4) (v := 0) hx hb dX8_lengthenWalks_4 (by decide) ?_
  obtain ⟨f1, hc, hf⟩ := b1_ob hf
  obtain ⟨S2, eS2, hf⟩ := bn_ob hf
  refine x_cut (pc := 5) (wr := ([0, 1, 2, 3, 4, 5].filterMap (fun i => (wX8 cs a q S)[i]?))) (ws2 := wX8 cs a q S2) X hw [6] [0, 1, 2, 3, 4, 5] [0, 1, 2, 3, 4, 5, 6] rfl rfl (by decide) (by decide) (by rw [eS2]; rfl) (by decide) (va_runS (As := [.ref (q 8), .long 0]) (rest := []) ⟨hx, hb, hml, hown, hts⟩ (c_J7_fill_d0a16 l D cs (q 8) 8 (S.2.2 8) 0 f1 hc _) (va_cwS 2 hts gX8_lengthenWalks_J7_fill_d0a16 rfl rfl rfl (by decide +kernel) ⟨Nat.le_of_ble_eq_true rfl, Nat.le_of_ble_eq_true rfl⟩) ⟨CP_blind, x_preC X hw [6] rfl (by decide) [.ref (q 8), .long 0]⟩ rfl rfl hl.1 rfl (lv_room (Nat.le_of_ble_eq_true rfl)) dX8_lengthenWalks_5 ⟨Nat.zero_le _, Nat.zero_le _⟩) (fun H locs hw => ?_)
  refine lv_iconst (pc := 8) (v := 0) hx hb dX8_lengthenWalks_8 (by decide) ?_
  refine lv_istore_n (lv' := [(2, .int 0), (0, .ref a), (1, .int p1)]) (pc := 9) hx hb dX8_lengthenWalks_9 rfl hl (by decide) rfl (fun ls hl => ?_)
  have L10 : ∀ (n : Nat) (v3 : Int32) (S4 : PS) (rS4 : PS), L_X8_lengthenWalks_10 p1 n v3 S4 = some rS4 → ∀ (H : Heap) (locs : List Loc) (ls : Array Slot), WD D A s (wX8 cs a q S4) H locs → lv_has ls 5 [(0, .ref a), (1, .int p1), (2, .int v3)] → (∀ (H : Heap) (locs : List Loc) (ls : Array Slot), WD D A s (wX8 cs a q rS4) H locs → lv_has ls 5 [(0, .ref a)] → W p l e rmX8_lengthenWalks s m args below meth c H locs 0 0 Q (F0 m 85 ls [])) → W p l e rmX8_lengthenWalks s m args below meth c H locs 0 0 Q (F0 m 10 ls []) := by
    intro n
    induction n with
    | zero => intro v3 S4 rS4 hf; exact (loopF_z hf).elim
    | succ n ih =>
      intro v3 S4 rS4 hf H locs ls hw hl K
      obtain ⟨x, hf, hx0⟩ := loopF_ob hf
      have hf : B_X8_lengthenWalks_10 p1 v3 S4 = some x := hf
      unfold B_X8_lengthenWalks_10 at hf
      refine lv_iload_n (pc := 10) hx hb dX8_lengthenWalks_10 rfl (lv_at hl 2 rfl) ?_
      refine lv_aload_n (pc := 11) hx hb dX8_lengthenWalks_11 rfl (lv_at hl 0 rfl) ?_
      refine x_get (pc := 12) X hw in_X8_lengthenWalks_X8 0 rfl rfl 1 (by decide) (List.mem_of_getElem? (i := 2) rfl) rfl dX8_lengthenWalks_12 ?_
      refine lv_icmp_ge (pc := 15) (tgt := 85) hx hb dX8_lengthenWalks_15 (by decide) (fun c5 => ?_) (fun c5 => ?_)
      · have hf := ipos c5 hf
        cases hf
        cases (hx0 : S4 = rS4)
        exact K _ _ _ hw (lv_sub hl [0] rfl)
      · have hf := ineg c5 hf
        refine lv_aload_n (pc := 18) hx hb dX8_lengthenWalks_18 rfl (lv_at hl 0 rfl) ?_
        refine x_get (pc := 19) X hw in_X8_lengthenWalks_X8 0 rfl rfl 3 (by decide) (List.mem_of_getElem? (i := 3) rfl) rfl dX8_lengthenWalks_19 ?_
        refine lv_iload_n (pc := 22) hx hb dX8_lengthenWalks_22 rfl (lv_at hl 2 rfl) ?_
        obtain ⟨v6, ev6, hf⟩ := b1_ob hf
        refine x_iald (pc := 23) X hw 1 0 rfl rfl ev6 dX8_lengthenWalks_23 ?_
        refine lv_istore_n (lv' := [(3, .int v6), (0, .ref a), (1, .int p1), (2, .int v3)]) (pc := 24) hx hb dX8_lengthenWalks_24 rfl hl (by decide) rfl (fun ls hl => ?_)
        refine lv_aload_n (pc := 25) hx hb dX8_lengthenWalks_25 rfl (lv_at hl 1 rfl) ?_
        refine x_get (pc := 26) X hw in_X8_lengthenWalks_X8 0 rfl rfl 4 (by decide) (List.mem_of_getElem? (i := 4) rfl) rfl dX8_lengthenWalks_26 ?_
        refine lv_iload_n (pc := 29) hx hb dX8_lengthenWalks_29 rfl (lv_at hl 3 rfl) ?_
        obtain ⟨v7, ev7, hf⟩ := b1_ob hf
        refine x_iald (pc := 30) X hw 2 0 rfl rfl ev7 dX8_lengthenWalks_30 ?_
        refine lv_istore (lv' := [(4, .int v7), (3, .int v6), (0, .ref a), (1, .int p1), (2, .int v3)]) (pc := 31) hx hb dX8_lengthenWalks_31 hl (by decide) rfl (fun ls hl => ?_)
        refine lv_iload_n (pc := 33) hx hb dX8_lengthenWalks_33 rfl (lv_at hl 3 rfl) ?_
        refine lv_iload_n (pc := 34) hx hb dX8_lengthenWalks_34 rfl (lv_at hl 1 rfl) ?_
        refine lv_ishr (pc := 35) hx hb dX8_lengthenWalks_35 ?_
        refine lv_iload_n (pc := 36) hx hb dX8_lengthenWalks_36 rfl (lv_at hl 3 rfl) ?_
        refine lv_iload (pc := 37) hx hb dX8_lengthenWalks_37 (lv_at hl 0 rfl) ?_
        refine lv_ishr (pc := 39) hx hb dX8_lengthenWalks_39 ?_
        refine lv_iand (pc := 40) hx hb dX8_lengthenWalks_40 ?_
        refine lv_iconst (pc := 41) (v := 1) hx hb dX8_lengthenWalks_41 (by decide) ?_
        refine lv_iand (pc := 42) hx hb dX8_lengthenWalks_42 ?_
        refine lv_iconst (pc := 43) (v := 1) hx hb dX8_lengthenWalks_43 (by decide) ?_
        obtain ⟨S8, hj, hf⟩ := b1_ob hf
        have J79_7 : ∀ (H : Heap) (locs : List Loc) (ls : Array Slot), WD D A s (wX8 cs a q S8) H locs → lv_has ls 5 [(0, .ref a), (1, .int p1), (2, .int v3)] → W p l e rmX8_lengthenWalks s m args below meth c H locs 0 0 Q (F0 m 79 ls []) := by
          intro H locs ls hw hl
          obtain ⟨v16, ev16, hf⟩ := bn_ob hf
          refine lv_iinc (pc := 79) (v := v16) (lv' := [(2, .int v16), (0, .ref a), (1, .int p1)]) hx hb dX8_lengthenWalks_79 hl (k := 2) rfl (by rw [ev16]; rfl) (by decide) rfl (fun ls hl => ?_)
          refine lv_goto (pc := 82) (tgt := 10) hx hb dX8_lengthenWalks_82 (by decide) ?_
          cases hf
          exact ih v16 S8 rS4 hx0 _ _ _ hw (lv_sub hl [1, 2, 0] rfl) K
        clear hf; have hf := hj; clear hj
        refine lv_icmp_ne (pc := 44) (tgt := 79) hx hb dX8_lengthenWalks_44 (by decide) (fun c9 => ?_) (fun c9 => ?_)
        · have hf := ineg c9 hf
          cases hf
          exact J79_7 _ _ _ hw (lv_sub hl [2, 3, 4] rfl)
        · have hf := ipos c9 hf
          refine lv_aload_n (pc := 47) hx hb dX8_lengthenWalks_47 rfl (lv_at hl 2 rfl) ?_
          refine x_get (pc := 48) X hw in_X8_lengthenWalks_X8 0 rfl rfl 8 (by decide) (List.mem_of_getElem? (i := 1) rfl) rfl dX8_lengthenWalks_48 ?_
          refine lv_iload_n (pc := 51) hx hb dX8_lengthenWalks_51 rfl (lv_at hl 1 rfl) ?_
          refine lv_dup2_11 (pc := 52) hx hb dX8_lengthenWalks_52 rfl rfl ?_
          obtain ⟨v10, ev10, hf⟩ := b1_ob hf
          refine x_lald (pc := 53) X hw 6 1 rfl rfl ev10 dX8_lengthenWalks_53 ?_
          refine lv_aload_n (pc := 54) hx hb dX8_lengthenWalks_54 rfl (lv_at hl 2 rfl) ?_
          refine x_get (pc := 55) X hw in_X8_lengthenWalks_X8 0 rfl rfl 7 (by decide) (List.mem_of_getElem? (i := 5) rfl) rfl dX8_lengthenWalks_55 ?_
          refine lv_iload (pc := 58) hx hb dX8_lengthenWalks_58 (lv_at hl 0 rfl) ?_
          obtain ⟨v11, ev11, hf⟩ := b1_ob hf
          refine x_lald (pc := 60) X hw 5 1 rfl rfl ev11 dX8_lengthenWalks_60 ?_
          refine lv_ladd (pc := 61) hx hb dX8_lengthenWalks_61 ?_
          obtain ⟨S12, eS12, hf⟩ := b1_ob hf
          refine x_last (pc := 62) X hw 6 1 rfl rfl (wL_ob eS12).1 dX8_lengthenWalks_62 (ws2 := wX8 cs a q S12) (by rw [(wL_ob eS12).2]; rfl) (fun H locs hw => ?_)
          refine lv_aload_n (pc := 63) hx hb dX8_lengthenWalks_63 rfl (lv_at hl 2 rfl) ?_
          refine x_get (pc := 64) X hw in_X8_lengthenWalks_X8 0 rfl rfl 8 (by decide) (List.mem_of_getElem? (i := 1) rfl) rfl dX8_lengthenWalks_64 ?_
          refine lv_iload (pc := 67) hx hb dX8_lengthenWalks_67 (lv_at hl 0 rfl) ?_
          refine lv_dup2_11 (pc := 69) hx hb dX8_lengthenWalks_69 rfl rfl ?_
          obtain ⟨v13, ev13, hf⟩ := b1_ob hf
          refine x_lald (pc := 70) X hw 6 1 rfl rfl ev13 dX8_lengthenWalks_70 ?_
          refine lv_aload_n (pc := 71) hx hb dX8_lengthenWalks_71 rfl (lv_at hl 2 rfl) ?_
          refine x_get (pc := 72) X hw in_X8_lengthenWalks_X8 0 rfl rfl 7 (by decide) (List.mem_of_getElem? (i := 5) rfl) rfl dX8_lengthenWalks_72 ?_
          refine lv_iload_n (pc := 75) hx hb dX8_lengthenWalks_75 rfl (lv_at hl 1 rfl) ?_
          obtain ⟨v14, ev14, hf⟩ := b1_ob hf
          refine x_lald (pc := 76) X hw 5 1 rfl rfl ev14 dX8_lengthenWalks_76 ?_
          refine lv_ladd (pc := 77) hx hb dX8_lengthenWalks_77 ?_
          obtain ⟨S15, eS15, hf⟩ := b1_ob hf
          refine x_last (pc := 78) X hw 6 1 rfl rfl (wL_ob eS15).1 dX8_lengthenWalks_78 (ws2 := wX8 cs a q S15) (by rw [(wL_ob eS15).2]; rfl) (fun H locs hw => ?_)
          cases hf
          exact J79_7 _ _ _ hw (lv_sub hl [2, 3, 4] rfl)
  obtain ⟨S17, hj, hf⟩ := b1_ob hf
  refine L10 _ 0 S2 S17 hj _ _ _ hw (lv_sub hl [1, 2, 0] rfl) (fun H locs ls hw hl => ?_)
  clear hj L10
  refine lv_aload_n (pc := 85) hx hb dX8_lengthenWalks_85 rfl (lv_at hl 0 rfl) ?_
  refine x_get (pc := 86) X hw in_X8_lengthenWalks_X8 0 rfl rfl 7 (by decide) (List.mem_of_getElem? (i := 5) rfl) rfl dX8_lengthenWalks_86 ?_
  refine lv_astore_n (lv' := [(2, .ref (q 7)), (0, .ref a)]) (pc := 89) hx hb dX8_lengthenWalks_89 rfl hl (by decide) rfl (fun ls hl => ?_)
  refine lv_aload_n (pc := 90) hx hb dX8_lengthenWalks_90 rfl (lv_at hl 1 rfl) ?_
  refine lv_aload_n (pc := 91) hx hb dX8_lengthenWalks_91 rfl (lv_at hl 1 rfl) ?_
  refine x_get (pc := 92) X hw in_X8_lengthenWalks_X8 0 rfl rfl 8 (by decide) (List.mem_of_getElem? (i := 1) rfl) rfl dX8_lengthenWalks_92 ?_
  refine x_put (pc := 95) X hw in_X8_lengthenWalks_X8 tyX8 tyX8_ok nmX8 0 rfl rfl 7 (by decide) (List.mem_of_getElem? (i := 5) rfl) rfl rfl rfl (Nat.le_of_ble_eq_true rfl) dX8_lengthenWalks_95 (ws2 := [(a, .inr (8, [.int (S17.1 0), .int (S17.1 1), .int (S17.1 2), .ref (q 3), .ref (q 4), .ref (q 5), .ref (q 6), .ref (q 8), .ref (q 8)])), (q 3, .inl (cs.1, 16, .inl (S17.2.1 3))), (q 4, .inl (cs.1, 16, .inl (S17.2.1 4))), (q 5, .inl (cs.1, 16, .inl (S17.2.1 5))), (q 6, .inl (cs.1, 10, .inl (S17.2.1 6))), (q 7, .inl (cs.2.1, 8, .inr (.inl (S17.2.2 7)))), (q 8, .inl (cs.2.1, 8, .inr (.inl (S17.2.2 8))))]) rfl (fun H locs hw => ?_)
  refine lv_aload_n (pc := 98) hx hb dX8_lengthenWalks_98 rfl (lv_at hl 1 rfl) ?_
  refine lv_aload_n (pc := 99) hx hb dX8_lengthenWalks_99 rfl (lv_at hl 0 rfl) ?_
  refine x_put (pc := 100) X hw in_X8_lengthenWalks_X8 tyX8 tyX8_ok nmX8 0 rfl rfl 8 (by decide) (List.mem_of_getElem? (i := 1) rfl) rfl rfl rfl (Nat.le_of_ble_eq_true rfl) dX8_lengthenWalks_100 (ws2 := [(a, .inr (8, [.int (S17.1 0), .int (S17.1 1), .int (S17.1 2), .ref (q 3), .ref (q 4), .ref (q 5), .ref (q 6), .ref (q 8), .ref (q 7)])), (q 3, .inl (cs.1, 16, .inl (S17.2.1 3))), (q 4, .inl (cs.1, 16, .inl (S17.2.1 4))), (q 5, .inl (cs.1, 16, .inl (S17.2.1 5))), (q 6, .inl (cs.1, 10, .inl (S17.2.1 6))), (q 7, .inl (cs.2.1, 8, .inr (.inl (S17.2.2 7)))), (q 8, .inl (cs.2.1, 8, .inr (.inl (S17.2.2 8))))]) rfl (fun H locs hw => ?_)
  have hw := WD_perm (ws2 := wX8 cs a (qsw q) (ssw S17)) hw [0, 1, 2, 3, 4, 6, 5] rfl (by decide)
  cases hf
  exact hret _ _ 103 _ hw rfl dX8_lengthenWalks_103

theorem in_X8_walkCount_X8 : ∀ w ∈ wsX80, w ∈ wsX8_walkCount := fun _ h => List.mem_cons_of_mem _ (List.mem_append_right _ h)
abbrev rmX8_walkCount : Room := { frames := 2, cells := 0, slots := 0, locals := 48 }
def B_X8_walkCount_2 (p1 : Int32) (v1 : Int32) (S2 : PS) : Option ((Int32 × PS) ⊕ (PS)) :=
  if 8 ≤ v1 then
    some (.inr S2)
  else
  b1 (wL 8 S2 7 v1 (((p1 >>> (v1 &&& 31)) &&& 1).toInt64)) fun S4 =>
  bn (v1 + 1) fun v5 =>
  some (.inl (v5, S4))
def L_X8_walkCount_2 (p1 : Int32) (n : Nat) (v1 : Int32) (S2 : PS) : Option (PS) := loopF (fun x : Int32 × PS => B_X8_walkCount_2 p1 x.1 x.2) n (v1, S2)
def B_X8_walkCount_28 (p1 : Int32) (p2 : Int32) (v7 : Int32) (S8 : PS) (q9 : Nat → Nat) : Option ((Int32 × PS × (Nat → Nat)) ⊕ (PS × (Nat → Nat))) :=
  if p2 ≤ v7 then
    some (.inr (S8, q9))
  else
  b2 (f_X8_lengthenWalks S8 q9 p1) fun S11 q12 =>
  bn (v7 + 1) fun v13 =>
  some (.inl (v13, S11, q12))
def L_X8_walkCount_28 (p1 : Int32) (p2 : Int32) (n : Nat) (v7 : Int32) (S8 : PS) (q9 : Nat → Nat) : Option (PS × (Nat → Nat)) := loopF (fun x : Int32 × PS × (Nat → Nat) => B_X8_walkCount_28 p1 p2 x.1 x.2.1 x.2.2) n (v7, S8, q9)
def B_X8_walkCount_49 (S14 : PS) (v16 : Int64) (v17 : Int32) : Option ((Int64 × Int32) ⊕ (Int64)) :=
  if 8 ≤ v17 then
    some (.inr v16)
  else
  b1 (rdL 8 (S14.2.2 7) v17) fun v19 =>
  bn (v16 + v19) fun v20 =>
  bn (v17 + 1) fun v21 =>
  some (.inl (v20, v21))
def L_X8_walkCount_49 (S14 : PS) (n : Nat) (v16 : Int64) (v17 : Int32) : Option (Int64) := loopF (fun x : Int64 × Int32 => B_X8_walkCount_49 S14 x.1 x.2) n (v16, v17)
def f_X8_walkCount (S : PS) (q : Nat → Nat) (p1 : Int32) (p2 : Int32) : Option (Int32 × PS × (Nat → Nat)) :=
  b1 (L_X8_walkCount_2 p1 FU 0 S) fun S6 =>
  b2 (L_X8_walkCount_28 p1 p2 FU 0 S6 q) fun S14 q15 =>
  b1 (L_X8_walkCount_49 S14 FU 0 0) fun v22 =>
  some (((if (999999999) < v22 then (999999999) else v22).toInt32), S14, q15)
set_option maxHeartbeats 4000000 in
set_option maxRecDepth 100000 in
theorem c_X8_walkCount (l : Launch) (D : va_G) (cs : CS) (a : Nat) (S : PS) (q : Nat → Nat) (p1 : Int32) (p2 : Int32) (r : Int32) (S' : PS) (q' : Nat → Nat) (hf : f_X8_walkCount S q p1 p2 = some (r, S', q')) : CT l D (TY cs) yX8_walkCount wsX8_walkCount rmX8_walkCount [.ref a, .int p1, .int p2] (wX8 cs a q S) (some (.int r)) (wX8 cs a q' S') := by
  refine CT.ofW (own := RX8) (cc := cX8_walkCount) (maxL := 6) (ret := some .int) (by decide) rfl rfl (Nat.le_of_ble_eq_true rfl) ?_
  intro p e s m args below meth c A Q X hret ls hl hw
  obtain ⟨hx, hb, hml, hown, hts, hK, hA, hr, hlk⟩ := id X
  have hl : lv_has ls 6 [(0, .ref a), (1, .int p1), (2, .int p2)] := hl
  unfold f_X8_walkCount at hf
  refine lv_iconst (pc := 0) (v := 0) hx hb dX8_walkCount_0 (by decide) ?_
  refine lv_istore_n (lv' := [(3, .int 0), (0, .ref a), (1, .int p1), (2, .int p2)]) (pc := 1) hx hb dX8_walkCount_1 rfl hl (by decide) rfl (fun ls hl => ?_)
  have L2 : ∀ (n : Nat) (v1 : Int32) (S2 : PS) (rS2 : PS), L_X8_walkCount_2 p1 n v1 S2 = some rS2 → ∀ (H : Heap) (locs : List Loc) (ls : Array Slot), WD D A s (wX8 cs a q S2) H locs → lv_has ls 6 [(0, .ref a), (1, .int p1), (2, .int p2), (3, .int v1)] → (∀ (H : Heap) (locs : List Loc) (ls : Array Slot), WD D A s (wX8 cs a q rS2) H locs → lv_has ls 6 [(0, .ref a), (1, .int p1), (2, .int p2)] → W p l e rmX8_walkCount s m args below meth c H locs 0 0 Q (F0 m 26 ls [])) → W p l e rmX8_walkCount s m args below meth c H locs 0 0 Q (F0 m 2 ls []) := by
    intro n
    induction n with
    | zero => intro v1 S2 rS2 hf; exact (loopF_z hf).elim
    | succ n ih =>
      intro v1 S2 rS2 hf H locs ls hw hl K
      obtain ⟨x, hf, hx0⟩ := loopF_ob hf
      have hf : B_X8_walkCount_2 p1 v1 S2 = some x := hf
      unfold B_X8_walkCount_2 at hf
      refine lv_iload_n (pc := 2) hx hb dX8_walkCount_2 rfl (lv_at hl 3 rfl) ?_
      refine lv_bipush (pc := 3) (v := 8) hx hb dX8_walkCount_3 (by decide) ?_
      refine lv_icmp_ge (pc := 5) (tgt := 26) hx hb dX8_walkCount_5 (by decide) (fun c3 => ?_) (fun c3 => ?_)
      · have hf := ipos c3 hf
        cases hf
        cases (hx0 : S2 = rS2)
        exact K _ _ _ hw (lv_sub hl [0, 1, 2] rfl)
      · have hf := ineg c3 hf
        refine lv_aload_n (pc := 8) hx hb dX8_walkCount_8 rfl (lv_at hl 0 rfl) ?_
        refine x_get (pc := 9) X hw in_X8_walkCount_X8 0 rfl rfl 7 (by decide) (List.mem_of_getElem? (i := 1) rfl) rfl dX8_walkCount_9 ?_
        refine lv_iload_n (pc := 12) hx hb dX8_walkCount_12 rfl (lv_at hl 3 rfl) ?_
        refine lv_iload_n (pc := 13) hx hb dX8_walkCount_13 rfl (lv_at hl 1 rfl) ?_
        refine lv_iload_n (pc := 14) hx hb dX8_walkCount_14 rfl (lv_at hl 3 rfl) ?_
        refine lv_ishr (pc := 15) hx hb dX8_walkCount_15 ?_
        refine lv_iconst (pc := 16) (v := 1) hx hb dX8_walkCount_16 (by decide) ?_
        refine lv_iand (pc := 17) hx hb dX8_walkCount_17 ?_
        refine lv_i2l (pc := 18) hx hb dX8_walkCount_18 rfl ?_
        obtain ⟨S4, eS4, hf⟩ := b1_ob hf
        refine x_last (pc := 19) X hw 5 1 rfl rfl (wL_ob eS4).1 dX8_walkCount_19 (ws2 := wX8 cs a q S4) (by rw [(wL_ob eS4).2]; rfl) (fun H locs hw => ?_)
        obtain ⟨v5, ev5, hf⟩ := bn_ob hf
        refine lv_iinc (pc := 20) (v := v5) (lv' := [(3, .int v5), (0, .ref a), (1, .int p1), (2, .int p2)]) hx hb dX8_walkCount_20 hl (k := 3) rfl (by rw [ev5]; rfl) (by decide) rfl (fun ls hl => ?_)
        refine lv_goto (pc := 23) (tgt := 2) hx hb dX8_walkCount_23 (by decide) ?_
        cases hf
        exact ih v5 S4 rS2 hx0 _ _ _ hw (lv_sub hl [1, 2, 3, 0] rfl) K
  obtain ⟨S6, hj, hf⟩ := b1_ob hf
  refine L2 _ 0 S S6 hj _ _ _ hw (lv_sub hl [1, 2, 3, 0] rfl) (fun H locs ls hw hl => ?_)
  clear hj L2
  refine lv_iconst (pc := 26) (v := 0) hx hb dX8_walkCount_26 (by decide) ?_
  refine lv_istore_n (lv' := [(3, .int 0), (0, .ref a), (1, .int p1), (2, .int p2)]) (pc := 27) hx hb dX8_walkCount_27 rfl hl (by decide) rfl (fun ls hl => ?_)
  have L28 : ∀ (n : Nat) (v7 : Int32) (S8 : PS) (q9 : Nat → Nat) (rS8 : PS) (rq9 : Nat → Nat), L_X8_walkCount_28 p1 p2 n v7 S8 q9 = some (rS8, rq9) → ∀ (H : Heap) (locs : List Loc) (ls : Array Slot), WD D A s (wX8 cs a q9 S8) H locs → lv_has ls 6 [(0, .ref a), (1, .int p1), (2, .int p2), (3, .int v7)] → (∀ (H : Heap) (locs : List Loc) (ls : Array Slot), WD D A s (wX8 cs a rq9 rS8) H locs → lv_has ls 6 [(0, .ref a)] → W p l e rmX8_walkCount s m args below meth c H locs 0 0 Q (F0 m 44 ls [])) → W p l e rmX8_walkCount s m args below meth c H locs 0 0 Q (F0 m 28 ls []) := by
    intro n
    induction n with
    | zero => intro v7 S8 q9 rS8 rq9 hf; exact (loopF_z hf).elim
    | succ n ih =>
      intro v7 S8 q9 rS8 rq9 hf H locs ls hw hl K
      obtain ⟨x, hf, hx0⟩ := loopF_ob hf
      have hf : B_X8_walkCount_28 p1 p2 v7 S8 q9 = some x := hf
      unfold B_X8_walkCount_28 at hf
      refine lv_iload_n (pc := 28) hx hb dX8_walkCount_28 rfl (lv_at hl 3 rfl) ?_
      refine lv_iload_n (pc := 29) hx hb dX8_walkCount_29 rfl (lv_at hl 2 rfl) ?_
      refine lv_icmp_ge (pc := 30) (tgt := 44) hx hb dX8_walkCount_30 (by decide) (fun c10 => ?_) (fun c10 => ?_)
      · have hf := ipos c10 hf
        cases hf
        cases (hx0 : (S8, q9) = (rS8, rq9))
        exact K _ _ _ hw (lv_sub hl [0] rfl)
      · have hf := ineg c10 hf
        refine lv_aload_n (pc := 33) hx hb dX8_walkCount_33 rfl (lv_at hl 0 rfl) ?_
        refine lv_iload_n (pc := 34) hx hb dX8_walkCount_34 rfl (lv_at hl 1 rfl) ?_
        obtain ⟨S11, q12, hc, hf⟩ := b2_ob hf
        refine x_all (pc := 35) X hw (va_runV (As := [.int p1]) (rest := []) ⟨hx, hb, hml, hown, hts⟩ (c_X8_lengthenWalks l D cs a S8 q9 p1 S11 q12 hc _) (cwV 1 hts gX8_walkCount_X8_lengthenWalks rfl rfl rfl (by decide +kernel) ⟨Nat.le_of_ble_eq_true rfl, Nat.le_of_ble_eq_true rfl⟩) ⟨CP_blind, va_recv hK hw.1 (ci := 8) (q0 := 0) rfl rfl, x_preA X hw [.ref a, .int p1]⟩ rfl rfl hl.1 rfl (lv_room (Nat.le_of_ble_eq_true rfl)) dX8_walkCount_35 ⟨Nat.zero_le _, Nat.zero_le _⟩) (fun H locs hw => ?_)
        obtain ⟨v13, ev13, hf⟩ := bn_ob hf
        refine lv_iinc (pc := 38) (v := v13) (lv' := [(3, .int v13), (0, .ref a), (1, .int p1), (2, .int p2)]) hx hb dX8_walkCount_38 hl (k := 3) rfl (by rw [ev13]; rfl) (by decide) rfl (fun ls hl => ?_)
        refine lv_goto (pc := 41) (tgt := 28) hx hb dX8_walkCount_41 (by decide) ?_
        cases hf
        exact ih v13 S11 q12 rS8 rq9 hx0 _ _ _ hw (lv_sub hl [1, 2, 3, 0] rfl) K
  obtain ⟨S14, q15, hj, hf⟩ := b2_ob hf
  refine L28 _ 0 S6 q S14 q15 hj _ _ _ hw (lv_sub hl [1, 2, 3, 0] rfl) (fun H locs ls hw hl => ?_)
  clear hj L28
  refine lv_lconst (pc := 44) (v := 0) hx hb dX8_walkCount_44 (by decide) ?_
  refine lv_lstore_n (lv' := [(3, .long 0), (0, .ref a)]) (pc := 45) hx hb dX8_walkCount_45 rfl hl (by decide) rfl (fun ls hl => ?_)
  refine lv_iconst (pc := 46) (v := 0) hx hb dX8_walkCount_46 (by decide) ?_
  refine lv_istore (lv' := [(5, .int 0), (3, .long 0), (0, .ref a)]) (pc := 47) hx hb dX8_walkCount_47 hl (by decide) rfl (fun ls hl => ?_)
  have L49 : ∀ (n : Nat) (v16 : Int64) (v17 : Int32) (rv16 : Int64), L_X8_walkCount_49 S14 n v16 v17 = some rv16 → ∀ (H : Heap) (locs : List Loc) (ls : Array Slot), WD D A s (wX8 cs a q15 S14) H locs → lv_has ls 6 [(0, .ref a), (3, .long v16), (5, .int v17)] → (∀ (H : Heap) (locs : List Loc) (ls : Array Slot), WD D A s (wX8 cs a q15 S14) H locs → lv_has ls 6 [(3, .long rv16)] → W p l e rmX8_walkCount s m args below meth c H locs 0 0 Q (F0 m 72 ls [])) → W p l e rmX8_walkCount s m args below meth c H locs 0 0 Q (F0 m 49 ls []) := by
    intro n
    induction n with
    | zero => intro v16 v17 rv16 hf; exact (loopF_z hf).elim
    | succ n ih =>
      intro v16 v17 rv16 hf H locs ls hw hl K
      obtain ⟨x, hf, hx0⟩ := loopF_ob hf
      have hf : B_X8_walkCount_49 S14 v16 v17 = some x := hf
      unfold B_X8_walkCount_49 at hf
      refine lv_iload (pc := 49) hx hb dX8_walkCount_49 (lv_at hl 2 rfl) ?_
      refine lv_bipush (pc := 51) (v := 8) hx hb dX8_walkCount_51 (by decide) ?_
      refine lv_icmp_ge (pc := 53) (tgt := 72) hx hb dX8_walkCount_53 (by decide) (fun c18 => ?_) (fun c18 => ?_)
      · have hf := ipos c18 hf
        cases hf
        cases (hx0 : v16 = rv16)
        exact K _ _ _ hw (lv_sub hl [1] rfl)
      · have hf := ineg c18 hf
        refine lv_lload_n (pc := 56) hx hb dX8_walkCount_56 rfl (lv_at hl 1 rfl) ?_
        refine lv_aload_n (pc := 57) hx hb dX8_walkCount_57 rfl (lv_at hl 0 rfl) ?_
        refine x_get (pc := 58) X hw in_X8_walkCount_X8 0 rfl rfl 7 (by decide) (List.mem_of_getElem? (i := 1) rfl) rfl dX8_walkCount_58 ?_
        refine lv_iload (pc := 61) hx hb dX8_walkCount_61 (lv_at hl 2 rfl) ?_
        obtain ⟨v19, ev19, hf⟩ := b1_ob hf
        refine x_lald (pc := 63) X hw 5 1 rfl rfl ev19 dX8_walkCount_63 ?_
        refine lv_ladd (pc := 64) hx hb dX8_walkCount_64 ?_
        obtain ⟨v20, ev20, hf⟩ := bn_ob hf
        refine x_topl ev20 ?_
        refine lv_lstore_n (lv' := [(3, .long v20), (0, .ref a), (5, .int v17)]) (pc := 65) hx hb dX8_walkCount_65 rfl hl (by decide) rfl (fun ls hl => ?_)
        obtain ⟨v21, ev21, hf⟩ := bn_ob hf
        refine lv_iinc (pc := 66) (v := v21) (lv' := [(5, .int v21), (3, .long v20), (0, .ref a)]) hx hb dX8_walkCount_66 hl (k := 2) rfl (by rw [ev21]; rfl) (by decide) rfl (fun ls hl => ?_)
        refine lv_goto (pc := 69) (tgt := 49) hx hb dX8_walkCount_69 (by decide) ?_
        cases hf
        exact ih v20 v21 rv16 hx0 _ _ _ hw (lv_sub hl [2, 1, 0] rfl) K
  obtain ⟨v22, hj, hf⟩ := b1_ob hf
  refine L49 _ 0 0 v22 hj _ _ _ hw (lv_sub hl [2, 1, 0] rfl) (fun H locs ls hw hl => ?_)
  clear hj L49
  refine lv_lload_n (pc := 72) hx hb dX8_walkCount_72 rfl (lv_at hl 0 rfl) ?_
  refine lv_ldc2 (pc := 73) (v := (999999999)) hx hb hown (hts _ (List.mem_of_getElem? (i := 2) rfl)) dX8_walkCount_73 ?_
  refine va_mmin_long (pc := 76) hx hb (hml.trans hl.1.symm) hown (hts _ (List.mem_of_getElem? (i := 3) rfl)) (hts _ (List.mem_of_getElem? (i := 4) rfl)) (hts _ (List.mem_of_getElem? (i := 5) rfl)) (hts _ (List.mem_of_getElem? (i := 6) rfl)) (Nat.le_of_ble_eq_true rfl) (Nat.le_of_ble_eq_true rfl) (Nat.zero_le _) (Nat.zero_le _) dX8_walkCount_76 ?_
  refine lv_l2i (pc := 79) hx hb dX8_walkCount_79 rfl ?_
  cases hf
  exact hret _ _ 80 _ hw ⟨_, rfl, rfl⟩ dX8_walkCount_80

theorem in_X9_walks_X9 : ∀ w ∈ wsX90, w ∈ wsX9_walks := fun _ h => List.mem_cons_of_mem _ (List.mem_append_left _ (List.mem_append_right _ h))
theorem in_X9_walks_X8 : ∀ w ∈ wsX80, w ∈ wsX9_walks := fun _ h => List.mem_cons_of_mem _ (List.mem_append_right _ h)
abbrev rmX9_walks : Room := { frames := 3, cells := 0, slots := 0, locals := 73 }
def f_X9_walks (V : PS) (qV : Nat → Nat) (p1 : Int32) (p2 : Int32) : Option (Int32 × PS × (Nat → Nat)) :=
  b1 (f_X8_hasKnotsOf V p1) fun v1 =>
  b3 (
    if v1 = 0 then
      some (((-3) : Int32), V, qV)
    else
    if p2 < 0 then
      some (((-3) : Int32), V, qV)
    else
    if 8 < p2 then
      some (((-3) : Int32), V, qV)
    else
    b3 (f_X8_walkCount V qV p1 p2) fun v8 V9 qV10 =>
    some (v8, V9, qV10)) fun v2 V3 qV4 =>
  some (v2, V3, qV4)
set_option maxHeartbeats 4000000 in
set_option maxRecDepth 100000 in
theorem c_X9_walks (l : Launch) (D : va_G) (cs : CS) (a : Nat) (q : Nat → Nat) (V : PS) (qV : Nat → Nat) (p1 : Int32) (p2 : Int32) (r : Int32) (V' : PS) (qV' : Nat → Nat) (hf : f_X9_walks V qV p1 p2 = some (r, V', qV')) : CT l D (TY cs) yX9_walks wsX9_walks rmX9_walks [.ref a, .int p1, .int p2] (wX9 cs a q ++ wX8 cs (q 4) qV V) (some (.int r)) (wX9 cs a q ++ wX8 cs (q 4) qV' V') := by
  refine CT.ofW (own := RX9) (cc := cX9_walks) (maxL := 3) (ret := some .int) (by decide) rfl rfl (Nat.le_of_ble_eq_true rfl) ?_
  intro p e s m args below meth c A Q X hret ls hl hw
  obtain ⟨hx, hb, hml, hown, hts, hK, hA, hr, hlk⟩ := id X
  have hl : lv_has ls 3 [(0, .ref a), (1, .int p1), (2, .int p2)] := hl
  unfold f_X9_walks at hf
  refine lv_aload_n (pc := 0) hx hb dX9_walks_0 rfl (lv_at hl 0 rfl) ?_
  refine x_get (pc := 1) X hw in_X9_walks_X9 0 rfl rfl 4 (by decide) (List.mem_of_getElem? (i := 1) rfl) rfl dX9_walks_1 ?_
  refine lv_iload_n (pc := 4) hx hb dX9_walks_4 rfl (lv_at hl 1 rfl) ?_
  obtain ⟨v1, hc, hf⟩ := b1_ob hf
  refine x_cut (pc := 5) (wr := ([0].filterMap (fun i => (wX9 cs a q ++ wX8 cs (q 4) qV V)[i]?))) (ws2 := wX9 cs a q ++ wX8 cs (q 4) qV V) X hw [1, 2, 3, 4, 5, 6, 7] [0] [0, 1, 2, 3, 4, 5, 6, 7] rfl rfl (by decide) (by decide) rfl (by decide) (va_runV (As := [.int p1]) (rest := []) ⟨hx, hb, hml, hown, hts⟩ (c_X8_hasKnotsOf l D cs (q 4) qV V p1 v1 hc _) (cwV 1 hts gX9_walks_X8_hasKnotsOf rfl rfl rfl (by decide +kernel) ⟨Nat.le_of_ble_eq_true rfl, Nat.le_of_ble_eq_true rfl⟩) ⟨CP_blind, va_recv hK hw.1 (ci := 8) (q0 := 1) rfl rfl, x_preC X hw [1, 2, 3, 4, 5, 6, 7] rfl (by decide) [.ref (q 4), .int p1]⟩ rfl rfl hl.1 rfl (lv_room (Nat.le_of_ble_eq_true rfl)) dX9_walks_5 ⟨Nat.zero_le _, Nat.zero_le _⟩) (fun H locs hw => ?_)
  obtain ⟨v2, V3, qV4, hj, hf⟩ := b3_ob hf
  have J35_1 : ∀ (H : Heap) (locs : List Loc) (ls : Array Slot), WD D A s (wX9 cs a q ++ wX8 cs (q 4) qV4 V3) H locs → lv_has ls 3 [] → W p l e rmX9_walks s m args below meth c H locs 0 0 Q (F0 m 35 ls [.int v2]) := by
    intro H locs ls hw hl
    cases hf
    exact hret _ _ 35 _ hw ⟨_, rfl, rfl⟩ dX9_walks_35
  clear hf; have hf := hj; clear hj
  refine lv_if_eq (pc := 8) (tgt := 33) hx hb dX9_walks_8 (by decide) (fun c5 => ?_) (fun c5 => ?_)
  · have hf := ipos c5 hf
    refine lv_bipush (pc := 33) (v := (-3)) hx hb dX9_walks_33 (by decide) ?_
    cases hf
    exact J35_1 _ _ _ hw (lv_sub hl [] rfl)
  · have hf := ineg c5 hf
    refine lv_iload_n (pc := 11) hx hb dX9_walks_11 rfl (lv_at hl 2 rfl) ?_
    refine lv_if_lt (pc := 12) (tgt := 33) hx hb dX9_walks_12 (by decide) (fun c6 => ?_) (fun c6 => ?_)
    · have hf := ipos c6 hf
      refine lv_bipush (pc := 33) (v := (-3)) hx hb dX9_walks_33 (by decide) ?_
      cases hf
      exact J35_1 _ _ _ hw (lv_sub hl [] rfl)
    · have hf := ineg c6 hf
      refine lv_iload_n (pc := 15) hx hb dX9_walks_15 rfl (lv_at hl 2 rfl) ?_
      refine lv_bipush (pc := 16) (v := 8) hx hb dX9_walks_16 (by decide) ?_
      refine lv_icmp_gt (pc := 18) (tgt := 33) hx hb dX9_walks_18 (by decide) (fun c7 => ?_) (fun c7 => ?_)
      · have hf := ipos c7 hf
        refine lv_bipush (pc := 33) (v := (-3)) hx hb dX9_walks_33 (by decide) ?_
        cases hf
        exact J35_1 _ _ _ hw (lv_sub hl [] rfl)
      · have hf := ineg c7 hf
        refine lv_aload_n (pc := 21) hx hb dX9_walks_21 rfl (lv_at hl 0 rfl) ?_
        refine x_get (pc := 22) X hw in_X9_walks_X9 0 rfl rfl 4 (by decide) (List.mem_of_getElem? (i := 1) rfl) rfl dX9_walks_22 ?_
        refine lv_iload_n (pc := 25) hx hb dX9_walks_25 rfl (lv_at hl 1 rfl) ?_
        refine lv_iload_n (pc := 26) hx hb dX9_walks_26 rfl (lv_at hl 2 rfl) ?_
        obtain ⟨v8, V9, qV10, hc, hf⟩ := b3_ob hf
        refine x_cut (pc := 27) (wr := ([0].filterMap (fun i => (wX9 cs a q ++ wX8 cs (q 4) qV V)[i]?))) (ws2 := wX9 cs a q ++ wX8 cs (q 4) qV10 V9) X hw [1, 2, 3, 4, 5, 6, 7] [0] [0, 1, 2, 3, 4, 5, 6, 7] rfl rfl (by decide) (by decide) rfl (by decide) (va_runV (As := [.int p1, .int p2]) (rest := []) ⟨hx, hb, hml, hown, hts⟩ (c_X8_walkCount l D cs (q 4) V qV p1 p2 v8 V9 qV10 hc _) (cwV 2 hts gX9_walks_X8_walkCount rfl rfl rfl (by decide +kernel) ⟨Nat.le_of_ble_eq_true rfl, Nat.le_of_ble_eq_true rfl⟩) ⟨CP_blind, va_recv hK hw.1 (ci := 8) (q0 := 1) rfl rfl, x_preC X hw [1, 2, 3, 4, 5, 6, 7] rfl (by decide) [.ref (q 4), .int p1, .int p2]⟩ rfl rfl hl.1 rfl (lv_room (Nat.le_of_ble_eq_true rfl)) dX9_walks_27 ⟨Nat.zero_le _, Nat.zero_le _⟩) (fun H locs hw => ?_)
        refine lv_goto (pc := 30) (tgt := 35) hx hb dX9_walks_30 (by decide) ?_
        cases hf
        exact J35_1 _ _ _ hw (lv_sub hl [] rfl)
