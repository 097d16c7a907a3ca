theorem in_X3_isWord_X3 : ∀ w ∈ wsX30, w ∈ wsX3_isWord := fun _ h => List.mem_cons_of_mem _ (List.mem_append_left _ (List.mem_append_right _ h))
theorem in_X3_isWord_X6 : ∀ w ∈ wsX60, w ∈ wsX3_isWord := fun _ h => List.mem_cons_of_mem _ (List.mem_append_right _ h)
abbrev rmX3_isWord : Room := { frames := 4, cells := 0, slots := 0, locals := 85 }
def B_X3_isWord_28 (S : PS) (T : PS) (w : Nat) (v4 : Int32) : Option ((Int32) ⊕ (Int32)) :=
  bn (nI (sLen.getD w 0)) fun v5 =>
  if v5 ≤ v4 then
    some (.inr 1)
  else
  b1 (f_X6_at T ((S.1 1) + v4)) fun v7 =>
  b1 (sCh w v4) fun v8 =>
  if v7 = v8 then
    bn (v4 + 1) fun v10 =>
    some (.inl v10)
  else
  some (.inr 0)
def L_X3_isWord_28 (S : PS) (T : PS) (w : Nat) (n : Nat) (v4 : Int32) : Option (Int32) := loopF (fun x : Int32 => B_X3_isWord_28 S T w x) n v4
def f_X3_isWord (S : PS) (T : PS) (w : Nat) : Option (Int32) :=
  if (S.1 3) = 1 then
    bn (nI (sLen.getD w 0)) fun v2 =>
    if ((S.1 2) - (S.1 1)) = v2 then
      L_X3_isWord_28 S T w FU 0
    else
    some 0
  else
  some 0
set_option maxHeartbeats 4000000 in
set_option maxRecDepth 100000 in
theorem c_X3_isWord (l : Launch) (D : va_G) (cs : CS) (ad ar : Nat → Nat) (a : Nat) (q : Nat → Nat) (qT : Nat → Nat) (S : PS) (T : PS) (w : Nat) (r : Int32) (hw9 : w < 9) (hf : f_X3_isWord S T w = some r) : CTE l D (TY cs) ad ar yX3_isWord wsX3_isWord rmX3_isWord [.ref a, .ref (ad w)] (wX3 cs a q S ++ wX6 cs (q 0) qT T) (some (.int r)) (wX3 cs a q S ++ wX6 cs (q 0) qT T) := by
  refine CTE.ofW (own := RX3) (cc := cX3_isWord) (maxL := 3) (ret := some .boolean) (by decide) rfl rfl (Nat.le_of_ble_eq_true rfl) ?_
  intro p e s m args below meth c A Q hE X hret ls hl hw
  obtain ⟨hx, hb, hml, hown, hts, hK, hA, hr, hlk⟩ := id X
  have hl : lv_has ls 3 [(0, .ref a), (1, .ref (ad w))] := hl
  unfold f_X3_isWord at hf
  refine lv_aload_n (pc := 0) hx hb dX3_isWord_0 rfl (lv_at hl 0 rfl) ?_
  refine x_get (pc := 1) X hw in_X3_isWord_X3 0 rfl rfl 3 (by decide) (List.mem_of_getElem? (i := 1) rfl) rfl dX3_isWord_1 ?_
  refine lv_iconst (pc := 4) (v := 1) hx hb dX3_isWord_4 (by decide) ?_
  refine lv_icmp_ne (pc := 5) (tgt := 24) hx hb dX3_isWord_5 (by decide) (fun c1 => ?_) (fun c1 => ?_)
  · have hf := ineg c1 hf
    refine lv_iconst (pc := 24) (v := 0) hx hb dX3_isWord_24 (by decide) ?_
    cases hf
    exact hret _ _ 25 _ hw ⟨_, rfl, by decide⟩ dX3_isWord_25
  · have hf := ipos c1 hf
    refine lv_aload_n (pc := 8) hx hb dX3_isWord_8 rfl (lv_at hl 0 rfl) ?_
    refine x_get (pc := 9) X hw in_X3_isWord_X3 0 rfl rfl 2 (by decide) (List.mem_of_getElem? (i := 2) rfl) rfl dX3_isWord_9 ?_
    refine lv_aload_n (pc := 12) hx hb dX3_isWord_12 rfl (lv_at hl 0 rfl) ?_
    refine x_get (pc := 13) X hw in_X3_isWord_X3 0 rfl rfl 1 (by decide) (List.mem_of_getElem? (i := 3) rfl) rfl dX3_isWord_13 ?_
    refine lv_isub (pc := 16) hx hb dX3_isWord_16 ?_
    refine lv_aload_n (pc := 17) hx hb dX3_isWord_17 rfl (lv_at hl 1 rfl) ?_
    obtain ⟨v2, ev2, hf⟩ := bn_ob hf
    refine x_nil (pc := 18) X hw (va_runV (As := []) (rest := [.int ((S.1 2) - (S.1 1))]) ⟨hx, hb, hml, hown, hts⟩ (c_J0_length l D cs ad ar w hw9 _) (cwV 0 hts gX3_isWord_J0_length_8abf5 rfl rfl rfl (by decide +kernel) ⟨Nat.le_of_ble_eq_true rfl, Nat.le_of_ble_eq_true rfl⟩) ⟨CPE_blind, vk_recv hE.1 hw9 hw.2.2, x_preNE X hE hw [.ref (ad w)]⟩ rfl rfl hl.1 rfl (lv_room (Nat.le_of_ble_eq_true rfl)) dX3_isWord_18 ⟨Nat.zero_le _, Nat.zero_le _⟩) (fun H locs hw => ?_)
    refine x_topi ev2 ?_
    refine lv_icmp_eq (pc := 21) (tgt := 26) hx hb dX3_isWord_21 (by decide) (fun c3 => ?_) (fun c3 => ?_)
    · have hf := ipos c3 hf
      refine lv_iconst (pc := 26) (v := 0) hx hb dX3_isWord_26 (by decide) ?_
      refine lv_istore_n (lv' := [(2, .int 0), (0, .ref a), (1, .ref (ad w))]) (pc := 27) hx hb dX3_isWord_27 rfl hl (by decide) rfl (fun ls hl => ?_)
      have L28 : ∀ (n : Nat) (v4 : Int32), L_X3_isWord_28 S T w n v4 = some r → ∀ (H : Heap) (locs : List Loc) (ls : Array Slot), WD D A s (wX3 cs a q S ++ wX6 cs (q 0) qT T) H locs → lv_has ls 3 [(0, .ref a), (1, .ref (ad w)), (2, .int v4)] → W p l e rmX3_isWord s m args below meth c H locs 0 0 Q (F0 m 28 ls []) := by
        intro n
        induction n with
        | zero => intro v4 hf; exact (loopF_z hf).elim
        | succ n ih =>
          intro v4 hf H locs ls hw hl
          obtain ⟨x, hf, hx0⟩ := loopF_ob hf
          have hf : B_X3_isWord_28 S T w v4 = some x := hf
          unfold B_X3_isWord_28 at hf
          refine lv_iload_n (pc := 28) hx hb dX3_isWord_28 rfl (lv_at hl 2 rfl) ?_
          refine lv_aload_n (pc := 29) hx hb dX3_isWord_29 rfl (lv_at hl 1 rfl) ?_
          obtain ⟨v5, ev5, hf⟩ := bn_ob hf
          refine x_nil (pc := 30) X hw (va_runV (As := []) (rest := [.int v4]) ⟨hx, hb, hml, hown, hts⟩ (c_J0_length l D cs ad ar w hw9 _) (cwV 0 hts gX3_isWord_J0_length_8abf5 rfl rfl rfl (by decide +kernel) ⟨Nat.le_of_ble_eq_true rfl, Nat.le_of_ble_eq_true rfl⟩) ⟨CPE_blind, vk_recv hE.1 hw9 hw.2.2, x_preNE X hE hw [.ref (ad w)]⟩ rfl rfl hl.1 rfl (lv_room (Nat.le_of_ble_eq_true rfl)) dX3_isWord_30 ⟨Nat.zero_le _, Nat.zero_le _⟩) (fun H locs hw => ?_)
          refine x_topi ev5 ?_
          refine lv_icmp_ge (pc := 33) (tgt := 65) hx hb dX3_isWord_33 (by decide) (fun c6 => ?_) (fun c6 => ?_)
          · have hf := ipos c6 hf
            refine lv_iconst (pc := 65) (v := 1) hx hb dX3_isWord_65 (by decide) ?_
            cases hf
            cases (hx0 : 1 = r)
            exact hret _ _ 66 _ hw ⟨_, rfl, by decide⟩ dX3_isWord_66
          · have hf := ineg c6 hf
            refine lv_aload_n (pc := 36) hx hb dX3_isWord_36 rfl (lv_at hl 0 rfl) ?_
            refine x_get (pc := 37) X hw in_X3_isWord_X3 0 rfl rfl 0 (by decide) (List.mem_of_getElem? (i := 4) rfl) rfl dX3_isWord_37 ?_
            refine lv_aload_n (pc := 40) hx hb dX3_isWord_40 rfl (lv_at hl 0 rfl) ?_
            refine x_get (pc := 41) X hw in_X3_isWord_X3 0 rfl rfl 1 (by decide) (List.mem_of_getElem? (i := 3) rfl) rfl dX3_isWord_41 ?_
            refine lv_iload_n (pc := 44) hx hb dX3_isWord_44 rfl (lv_at hl 2 rfl) ?_
            refine lv_iadd (pc := 45) hx hb dX3_isWord_45 ?_
            obtain ⟨v7, hc, hf⟩ := b1_ob hf
            refine x_cut (pc := 46) (wr := ([0].filterMap (fun i => (wX3 cs a q S ++ wX6 cs (q 0) qT T)[i]?))) (ws2 := wX3 cs a q S ++ wX6 cs (q 0) qT T) X hw [1, 2] [0] [0, 1, 2] rfl rfl (by decide) (by decide) rfl (by decide) (va_runV (As := [.int ((S.1 1) + v4)]) (rest := []) ⟨hx, hb, hml, hown, hts⟩ (c_X6_at l D cs (q 0) qT T ((S.1 1) + v4) v7 hc _) (cwV 1 hts gX3_isWord_X6_at rfl rfl rfl (by decide +kernel) ⟨Nat.le_of_ble_eq_true rfl, Nat.le_of_ble_eq_true rfl⟩) ⟨CP_blind, va_recv hK hw.1 (ci := 6) (q0 := 1) rfl rfl, x_preC X hw [1, 2] rfl (by decide) [.ref (q 0), .int ((S.1 1) + v4)]⟩ rfl rfl hl.1 rfl (lv_room (Nat.le_of_ble_eq_true rfl)) dX3_isWord_46 ⟨Nat.zero_le _, Nat.zero_le _⟩) (fun H locs hw => ?_)
            refine lv_aload_n (pc := 49) hx hb dX3_isWord_49 rfl (lv_at hl 1 rfl) ?_
            refine lv_iload_n (pc := 50) hx hb dX3_isWord_50 rfl (lv_at hl 2 rfl) ?_
            obtain ⟨v8, hc, hf⟩ := b1_ob hf
            refine x_nil (pc := 51) X hw (va_runV (As := [.int v4]) (rest := [.int v7]) ⟨hx, hb, hml, hown, hts⟩ (c_J0_charAt l D cs ad ar w hw9 v4 v8 hc _) (cwV 1 hts gX3_isWord_J0_charAt_5068e rfl rfl rfl (by decide +kernel) ⟨Nat.le_of_ble_eq_true rfl, Nat.le_of_ble_eq_true rfl⟩) ⟨CPE_blind, vk_recv hE.1 hw9 hw.2.2, x_preNE X hE hw [.ref (ad w), .int v4]⟩ rfl rfl hl.1 rfl (lv_room (Nat.le_of_ble_eq_true rfl)) dX3_isWord_51 ⟨Nat.zero_le _, Nat.zero_le _⟩) (fun H locs hw => ?_)
            refine lv_icmp_eq (pc := 54) (tgt := 59) hx hb dX3_isWord_54 (by decide) (fun c9 => ?_) (fun c9 => ?_)
            · have hf := ipos c9 hf
              obtain ⟨v10, ev10, hf⟩ := bn_ob hf
              refine lv_iinc (pc := 59) (v := v10) (lv' := [(2, .int v10), (0, .ref a), (1, .ref (ad w))]) hx hb dX3_isWord_59 hl (k := 2) rfl (by rw [ev10]; rfl) (by decide) rfl (fun ls hl => ?_)
              refine lv_goto (pc := 62) (tgt := 28) hx hb dX3_isWord_62 (by decide) ?_
              cases hf
              exact ih v10  hx0 _ _ _ hw (lv_sub hl [1, 2, 0] rfl)
            · have hf := ineg c9 hf
              refine lv_iconst (pc := 57) (v := 0) hx hb dX3_isWord_57 (by decide) ?_
              cases hf
              cases (hx0 : 0 = r)
              exact hret _ _ 58 _ hw ⟨_, rfl, by decide⟩ dX3_isWord_58
      exact L28 _ 0 hf _ _ _ hw (lv_sub hl [1, 2, 0] rfl)
    · have hf := ineg c3 hf
      refine lv_iconst (pc := 24) (v := 0) hx hb dX3_isWord_24 (by decide) ?_
      cases hf
      exact hret _ _ 25 _ hw ⟨_, rfl, by decide⟩ dX3_isWord_25

theorem in_X3_verbHere_X3 : ∀ w ∈ wsX30, w ∈ wsX3_verbHere := fun _ h => List.mem_cons_of_mem _ (List.mem_append_left _ (List.mem_append_right _ h))
theorem in_X3_verbHere_X6 : ∀ w ∈ wsX60, w ∈ wsX3_verbHere := fun _ h => List.mem_cons_of_mem _ (List.mem_append_right _ h)
abbrev rmX3_verbHere : Room := { frames := 5, cells := 0, slots := 0, locals := 107 }
def f_X3_verbHere (S : PS) (T : PS) : Option (Int32) :=
  b1 (f_X3_isWord S T 0) fun v1 =>
  if v1 = 0 then
    b1 (f_X3_isWord S T 1) fun v3 =>
    if v3 = 0 then
      b1 (f_X3_isWord S T 2) fun v5 =>
      if v5 = 0 then
        b1 (f_X3_isWord S T 3) fun v7 =>
        if v7 = 0 then
          b1 (f_X3_isWord S T 4) fun v9 =>
          if v9 = 0 then
            b1 (f_X3_isWord S T 5) fun v11 =>
            if v11 = 0 then
              b1 (f_X3_isWord S T 6) fun v13 =>
              if v13 = 0 then
                b1 (f_X3_isWord S T 7) fun v15 =>
                if v15 = 0 then
                  b1 (f_X3_isWord S T 8) fun v17 =>
                  b1 (
                    if v17 = 0 then
                      some ((-1) : Int32)
                    else
                    some (8 : Int32)) fun v18 =>
                  some v18
                else
                some 7
              else
              some 6
            else
            some 5
          else
          some 4
        else
        some 3
      else
      some 2
    else
    some 1
  else
  some 0
set_option maxHeartbeats 4000000 in
set_option maxRecDepth 100000 in
theorem c_X3_verbHere (l : Launch) (D : va_G) (cs : CS) (ad ar : Nat → Nat) (a : Nat) (q : Nat → Nat) (qT : Nat → Nat) (S : PS) (T : PS) (r : Int32) (hf : f_X3_verbHere S T = some r) : CTE l D (TY cs) ad ar yX3_verbHere wsX3_verbHere rmX3_verbHere [.ref a] (wX3 cs a q S ++ wX6 cs (q 0) qT T) (some (.int r)) (wX3 cs a q S ++ wX6 cs (q 0) qT T) := by
  refine CTE.ofW (own := RX3) (cc := cX3_verbHere) (maxL := 1) (ret := some .int) (by decide) rfl rfl (Nat.le_of_ble_eq_true rfl) ?_
  intro p e s m args below meth c A Q hE X hret ls hl hw
  obtain ⟨hx, hb, hml, hown, hts, hK, hA, hr, hlk⟩ := id X
  have hl : lv_has ls 1 [(0, .ref a)] := hl
  unfold f_X3_verbHere at hf
  refine lv_aload_n (pc := 0) hx hb dX3_verbHere_0 rfl (lv_at hl 0 rfl) ?_
  refine va_ldcS (pc := 1) hx hb hown (hE.2.2.2 0 (by decide)) dX3_verbHere_1 ?_
  obtain ⟨v1, hc, hf⟩ := b1_ob hf
  refine x_all (pc := 3) X hw (va_runV (As := [.ref (ad 0)]) (rest := []) ⟨hx, hb, hml, hown, hts⟩ (c_X3_isWord l D cs ad ar a q qT S T 0 v1 (by decide) hc _) (cwV 1 hts gX3_verbHere_X3_isWord rfl rfl rfl (by decide +kernel) ⟨Nat.le_of_ble_eq_true rfl, Nat.le_of_ble_eq_true rfl⟩) ⟨CPE_blind, va_recv hK hw.1 (ci := 3) (q0 := 0) rfl rfl, x_preAE X hE hw [.ref a, .ref (ad 0)]⟩ rfl rfl hl.1 rfl (lv_room (Nat.le_of_ble_eq_true rfl)) dX3_verbHere_3 ⟨Nat.zero_le _, Nat.zero_le _⟩) (fun H locs hw => ?_)
  refine lv_if_eq (pc := 6) (tgt := 11) hx hb dX3_verbHere_6 (by decide) (fun c2 => ?_) (fun c2 => ?_)
  · have hf := ipos c2 hf
    refine lv_aload_n (pc := 11) hx hb dX3_verbHere_11 rfl (lv_at hl 0 rfl) ?_
    refine va_ldcS (pc := 12) hx hb hown (hE.2.2.2 1 (by decide)) dX3_verbHere_12 ?_
    obtain ⟨v3, hc, hf⟩ := b1_ob hf
    refine x_all (pc := 14) X hw (va_runV (As := [.ref (ad 1)]) (rest := []) ⟨hx, hb, hml, hown, hts⟩ (c_X3_isWord l D cs ad ar a q qT S T 1 v3 (by decide) hc _) (cwV 1 hts gX3_verbHere_X3_isWord rfl rfl rfl (by decide +kernel) ⟨Nat.le_of_ble_eq_true rfl, Nat.le_of_ble_eq_true rfl⟩) ⟨CPE_blind, va_recv hK hw.1 (ci := 3) (q0 := 0) rfl rfl, x_preAE X hE hw [.ref a, .ref (ad 1)]⟩ rfl rfl hl.1 rfl (lv_room (Nat.le_of_ble_eq_true rfl)) dX3_verbHere_14 ⟨Nat.zero_le _, Nat.zero_le _⟩) (fun H locs hw => ?_)
    refine lv_if_eq (pc := 17) (tgt := 22) hx hb dX3_verbHere_17 (by decide) (fun c4 => ?_) (fun c4 => ?_)
    · have hf := ipos c4 hf
      refine lv_aload_n (pc := 22) hx hb dX3_verbHere_22 rfl (lv_at hl 0 rfl) ?_
      refine va_ldcS (pc := 23) hx hb hown (hE.2.2.2 2 (by decide)) dX3_verbHere_23 ?_
      obtain ⟨v5, hc, hf⟩ := b1_ob hf
      refine x_all (pc := 25) X hw (va_runV (As := [.ref (ad 2)]) (rest := []) ⟨hx, hb, hml, hown, hts⟩ (c_X3_isWord l D cs ad ar a q qT S T 2 v5 (by decide) hc _) (cwV 1 hts gX3_verbHere_X3_isWord rfl rfl rfl (by decide +kernel) ⟨Nat.le_of_ble_eq_true rfl, Nat.le_of_ble_eq_true rfl⟩) ⟨CPE_blind, va_recv hK hw.1 (ci := 3) (q0 := 0) rfl rfl, x_preAE X hE hw [.ref a, .ref (ad 2)]⟩ rfl rfl hl.1 rfl (lv_room (Nat.le_of_ble_eq_true rfl)) dX3_verbHere_25 ⟨Nat.zero_le _, Nat.zero_le _⟩) (fun H locs hw => ?_)
      refine lv_if_eq (pc := 28) (tgt := 33) hx hb dX3_verbHere_28 (by decide) (fun c6 => ?_) (fun c6 => ?_)
      · have hf := ipos c6 hf
        refine lv_aload_n (pc := 33) hx hb dX3_verbHere_33 rfl (lv_at hl 0 rfl) ?_
        refine va_ldcS (pc := 34) hx hb hown (hE.2.2.2 3 (by decide)) dX3_verbHere_34 ?_
        obtain ⟨v7, hc, hf⟩ := b1_ob hf
        refine x_all (pc := 36) X hw (va_runV (As := [.ref (ad 3)]) (rest := []) ⟨hx, hb, hml, hown, hts⟩ (c_X3_isWord l D cs ad ar a q qT S T 3 v7 (by decide) hc _) (cwV 1 hts gX3_verbHere_X3_isWord rfl rfl rfl (by decide +kernel) ⟨Nat.le_of_ble_eq_true rfl, Nat.le_of_ble_eq_true rfl⟩) ⟨CPE_blind, va_recv hK hw.1 (ci := 3) (q0 := 0) rfl rfl, x_preAE X hE hw [.ref a, .ref (ad 3)]⟩ rfl rfl hl.1 rfl (lv_room (Nat.le_of_ble_eq_true rfl)) dX3_verbHere_36 ⟨Nat.zero_le _, Nat.zero_le _⟩) (fun H locs hw => ?_)
        refine lv_if_eq (pc := 39) (tgt := 44) hx hb dX3_verbHere_39 (by decide) (fun c8 => ?_) (fun c8 => ?_)
        · have hf := ipos c8 hf
          refine lv_aload_n (pc := 44) hx hb dX3_verbHere_44 rfl (lv_at hl 0 rfl) ?_
          refine va_ldcS (pc := 45) hx hb hown (hE.2.2.2 4 (by decide)) dX3_verbHere_45 ?_
          obtain ⟨v9, hc, hf⟩ := b1_ob hf
          refine x_all (pc := 47) X hw (va_runV (As := [.ref (ad 4)]) (rest := []) ⟨hx, hb, hml, hown, hts⟩ (c_X3_isWord l D cs ad ar a q qT S T 4 v9 (by decide) hc _) (cwV 1 hts gX3_verbHere_X3_isWord rfl rfl rfl (by decide +kernel) ⟨Nat.le_of_ble_eq_true rfl, Nat.le_of_ble_eq_true rfl⟩) ⟨CPE_blind, va_recv hK hw.1 (ci := 3) (q0 := 0) rfl rfl, x_preAE X hE hw [.ref a, .ref (ad 4)]⟩ rfl rfl hl.1 rfl (lv_room (Nat.le_of_ble_eq_true rfl)) dX3_verbHere_47 ⟨Nat.zero_le _, Nat.zero_le _⟩) (fun H locs hw => ?_)
          refine lv_if_eq (pc := 50) (tgt := 55) hx hb dX3_verbHere_50 (by decide) (fun c10 => ?_) (fun c10 => ?_)
          · have hf := ipos c10 hf
            refine lv_aload_n (pc := 55) hx hb dX3_verbHere_55 rfl (lv_at hl 0 rfl) ?_
            refine va_ldcS (pc := 56) hx hb hown (hE.2.2.2 5 (by decide)) dX3_verbHere_56 ?_
            obtain ⟨v11, hc, hf⟩ := b1_ob hf
            refine x_all (pc := 58) X hw (va_runV (As := [.ref (ad 5)]) (rest := []) ⟨hx, hb, hml, hown, hts⟩ (c_X3_isWord l D cs ad ar a q qT S T 5 v11 (by decide) hc _) (cwV 1 hts gX3_verbHere_X3_isWord rfl rfl rfl (by decide +kernel) ⟨Nat.le_of_ble_eq_true rfl, Nat.le_of_ble_eq_true rfl⟩) ⟨CPE_blind, va_recv hK hw.1 (ci := 3) (q0 := 0) rfl rfl, x_preAE X hE hw [.ref a, .ref (ad 5)]⟩ rfl rfl hl.1 rfl (lv_room (Nat.le_of_ble_eq_true rfl)) dX3_verbHere_58 ⟨Nat.zero_le _, Nat.zero_le _⟩) (fun H locs hw => ?_)
            refine lv_if_eq (pc := 61) (tgt := 66) hx hb dX3_verbHere_61 (by decide) (fun c12 => ?_) (fun c12 => ?_)
            · have hf := ipos c12 hf
              refine lv_aload_n (pc := 66) hx hb dX3_verbHere_66 rfl (lv_at hl 0 rfl) ?_
              refine va_ldcS (pc := 67) hx hb hown (hE.2.2.2 6 (by decide)) dX3_verbHere_67 ?_
              obtain ⟨v13, hc, hf⟩ := b1_ob hf
              refine x_all (pc := 69) X hw (va_runV (As := [.ref (ad 6)]) (rest := []) ⟨hx, hb, hml, hown, hts⟩ (c_X3_isWord l D cs ad ar a q qT S T 6 v13 (by decide) hc _) (cwV 1 hts gX3_verbHere_X3_isWord rfl rfl rfl (by decide +kernel) ⟨Nat.le_of_ble_eq_true rfl, Nat.le_of_ble_eq_true rfl⟩) ⟨CPE_blind, va_recv hK hw.1 (ci := 3) (q0 := 0) rfl rfl, x_preAE X hE hw [.ref a, .ref (ad 6)]⟩ rfl rfl hl.1 rfl (lv_room (Nat.le_of_ble_eq_true rfl)) dX3_verbHere_69 ⟨Nat.zero_le _, Nat.zero_le _⟩) (fun H locs hw => ?_)
              refine lv_if_eq (pc := 72) (tgt := 78) hx hb dX3_verbHere_72 (by decide) (fun c14 => ?_) (fun c14 => ?_)
              · have hf := ipos c14 hf
                refine lv_aload_n (pc := 78) hx hb dX3_verbHere_78 rfl (lv_at hl 0 rfl) ?_
                refine va_ldcS (pc := 79) hx hb hown (hE.2.2.2 7 (by decide)) dX3_verbHere_79 ?_
                obtain ⟨v15, hc, hf⟩ := b1_ob hf
                refine x_all (pc := 81) X hw (va_runV (As := [.ref (ad 7)]) (rest := []) ⟨hx, hb, hml, hown, hts⟩ (c_X3_isWord l D cs ad ar a q qT S T 7 v15 (by decide) hc _) (cwV 1 hts gX3_verbHere_X3_isWord rfl rfl rfl (by decide +kernel) ⟨Nat.le_of_ble_eq_true rfl, Nat.le_of_ble_eq_true rfl⟩) ⟨CPE_blind, va_recv hK hw.1 (ci := 3) (q0 := 0) rfl rfl, x_preAE X hE hw [.ref a, .ref (ad 7)]⟩ rfl rfl hl.1 rfl (lv_room (Nat.le_of_ble_eq_true rfl)) dX3_verbHere_81 ⟨Nat.zero_le _, Nat.zero_le _⟩) (fun H locs hw => ?_)
                refine lv_if_eq (pc := 84) (tgt := 90) hx hb dX3_verbHere_84 (by decide) (fun c16 => ?_) (fun c16 => ?_)
                · have hf := ipos c16 hf
                  refine lv_aload_n (pc := 90) hx hb dX3_verbHere_90 rfl (lv_at hl 0 rfl) ?_
                  refine va_ldcS (pc := 91) hx hb hown (hE.2.2.2 8 (by decide)) dX3_verbHere_91 ?_
                  obtain ⟨v17, hc, hf⟩ := b1_ob hf
                  refine x_all (pc := 93) X hw (va_runV (As := [.ref (ad 8)]) (rest := []) ⟨hx, hb, hml, hown, hts⟩ (c_X3_isWord l D cs ad ar a q qT S T 8 v17 (by decide) hc _) (cwV 1 hts gX3_verbHere_X3_isWord rfl rfl rfl (by decide +kernel) ⟨Nat.le_of_ble_eq_true rfl, Nat.le_of_ble_eq_true rfl⟩) ⟨CPE_blind, va_recv hK hw.1 (ci := 3) (q0 := 0) rfl rfl, x_preAE X hE hw [.ref a, .ref (ad 8)]⟩ rfl rfl hl.1 rfl (lv_room (Nat.le_of_ble_eq_true rfl)) dX3_verbHere_93 ⟨Nat.zero_le _, Nat.zero_le _⟩) (fun H locs hw => ?_)
                  obtain ⟨v18, hj, hf⟩ := b1_ob hf
                  have J105_17 : ∀ (H : Heap) (locs : List Loc) (ls : Array Slot), WD D A s (wX3 cs a q S ++ wX6 cs (q 0) qT T) H locs → lv_has ls 1 [] → W p l e rmX3_verbHere s m args below meth c H locs 0 0 Q (F0 m 105 ls [.int v18]) := by
                    intro H locs ls hw hl
                    cases hf
                    exact hret _ _ 105 _ hw ⟨_, rfl, rfl⟩ dX3_verbHere_105
                  clear hf; have hf := hj; clear hj
                  refine lv_if_eq (pc := 96) (tgt := 104) hx hb dX3_verbHere_96 (by decide) (fun c19 => ?_) (fun c19 => ?_)
                  · have hf := ipos c19 hf
                    refine lv_iconst (pc := 104) (v := (-1)) hx hb dX3_verbHere_104 (by decide) ?_
                    cases hf
                    exact J105_17 _ _ _ hw (lv_sub hl [] rfl)
                  · have hf := ineg c19 hf
                    refine lv_bipush (pc := 99) (v := 8) hx hb dX3_verbHere_99 (by decide) ?_
                    refine lv_goto (pc := 101) (tgt := 105) hx hb dX3_verbHere_101 (by decide) ?_
                    cases hf
                    exact J105_17 _ _ _ hw (lv_sub hl [] rfl)
                · have hf := ineg c16 hf
                  refine lv_bipush (pc := 87) (v := 7) hx hb dX3_verbHere_87 (by decide) ?_
                  cases hf
                  exact hret _ _ 89 _ hw ⟨_, rfl, rfl⟩ dX3_verbHere_89
              · have hf := ineg c14 hf
                refine lv_bipush (pc := 75) (v := 6) hx hb dX3_verbHere_75 (by decide) ?_
                cases hf
                exact hret _ _ 77 _ hw ⟨_, rfl, rfl⟩ dX3_verbHere_77
            · have hf := ineg c12 hf
              refine lv_iconst (pc := 64) (v := 5) hx hb dX3_verbHere_64 (by decide) ?_
              cases hf
              exact hret _ _ 65 _ hw ⟨_, rfl, rfl⟩ dX3_verbHere_65
          · have hf := ineg c10 hf
            refine lv_iconst (pc := 53) (v := 4) hx hb dX3_verbHere_53 (by decide) ?_
            cases hf
            exact hret _ _ 54 _ hw ⟨_, rfl, rfl⟩ dX3_verbHere_54
        · have hf := ineg c8 hf
          refine lv_iconst (pc := 42) (v := 3) hx hb dX3_verbHere_42 (by decide) ?_
          cases hf
          exact hret _ _ 43 _ hw ⟨_, rfl, rfl⟩ dX3_verbHere_43
      · have hf := ineg c6 hf
        refine lv_iconst (pc := 31) (v := 2) hx hb dX3_verbHere_31 (by decide) ?_
        cases hf
        exact hret _ _ 32 _ hw ⟨_, rfl, rfl⟩ dX3_verbHere_32
    · have hf := ineg c4 hf
      refine lv_iconst (pc := 20) (v := 1) hx hb dX3_verbHere_20 (by decide) ?_
      cases hf
      exact hret _ _ 21 _ hw ⟨_, rfl, rfl⟩ dX3_verbHere_21
  · have hf := ineg c2 hf
    refine lv_iconst (pc := 9) (v := 0) hx hb dX3_verbHere_9 (by decide) ?_
    cases hf
    exact hret _ _ 10 _ hw ⟨_, rfl, rfl⟩ dX3_verbHere_10

theorem in_X3_readLine_X3 : ∀ w ∈ wsX30, w ∈ wsX3_readLine := fun _ h => List.mem_cons_of_mem _ (List.mem_append_left _ (List.mem_append_left _ (List.mem_append_right _ h)))
theorem in_X3_readLine_X6 : ∀ w ∈ wsX60, w ∈ wsX3_readLine := fun _ h => List.mem_cons_of_mem _ (List.mem_append_left _ (List.mem_append_right _ h))
theorem in_X3_readLine_X2 : ∀ w ∈ wsX20, w ∈ wsX3_readLine := fun _ h => List.mem_cons_of_mem _ (List.mem_append_right _ h)
abbrev rmX3_readLine : Room := { frames := 6, cells := 0, slots := 0, locals := 127 }
def B_X3_readLine_85 (T : PS) (v4 : Int32) (v11 : Int32) (S12 : PS) (U113 : PS) : Option ((Int32 × PS × PS) ⊕ (Int32 × PS × PS)) :=
  b1 (f_X2_operandCount v4) fun v14 =>
  if v14 ≤ v11 then
    some (.inr (1, S12, U113))
  else
  b1 (f_X2_leastOperand v4) fun v16 =>
  b1 (f_X2_greatestOperand v4) fun v17 =>
  b1 (f_X3_isNumberWithin S12 T v16 v17) fun v18 =>
  if v18 = 0 then
    some (.inr (0, S12, U113))
  else
  b1 (f_X3_number S12 T) fun v20 =>
  b2 (f_X2_setOperand U113 v11 v20) fun v21 U122 =>
  if v21 = 0 then
    some (.inr (0, S12, U122))
  else
  b1 (f_X3_step S12 T) fun S24 =>
  bn (v11 + 1) fun v25 =>
  some (.inl (v25, S24, U122))
def L_X3_readLine_85 (T : PS) (v4 : Int32) (n : Nat) (v11 : Int32) (S12 : PS) (U113 : PS) : Option (Int32 × PS × PS) := loopF (fun x : Int32 × PS × PS => B_X3_readLine_85 T v4 x.1 x.2.1 x.2.2) n (v11, S12, U113)
def f_X3_readLine (S : PS) (T : PS) (U1 : PS) : Option (Int32 × PS × PS) :=
  b1 (
    if (S.1 3) = 1 then
      some (0 : Int32)
    else
    some (1 : Int32)) fun v1 =>
  if v1 = 0 then
    b1 (f_X3_verbHere S T) fun v4 =>
    if v4 = (-1) then
      some (0, S, U1)
    else
    b1 (
      if v4 = 8 then
        some (1 : Int32)
      else
      some (0 : Int32)) fun v6 =>
    if v1 = v6 then
      some (0, S, U1)
    else
    b1 (f_X3_step S T) fun S9 =>
    b1 (f_X2_addLine U1 v4 0) fun U110 =>
    L_X3_readLine_85 T v4 FU 0 S9 U110
  else
  b1 (f_X3_isNumberWithin S T 0 7) fun v26 =>
  if v26 = 0 then
    some (0, S, U1)
  else
  b1 (f_X3_number S T) fun v28 =>
  b1 (f_X3_step S T) fun S29 =>
  b1 (f_X3_verbHere S29 T) fun v30 =>
  if v30 = (-1) then
    some (0, S29, U1)
  else
  b1 (
    if v30 = 8 then
      some (1 : Int32)
    else
    some (0 : Int32)) fun v32 =>
  if v1 = v32 then
    some (0, S29, U1)
  else
  b1 (f_X3_step S29 T) fun S35 =>
  b1 (f_X2_addLine U1 v30 v28) fun U136 =>
  L_X3_readLine_85 T v30 FU 0 S35 U136
set_option maxHeartbeats 4000000 in
set_option maxRecDepth 100000 in
theorem c_X3_readLine (l : Launch) (D : va_G) (cs : CS) (ad ar : Nat → Nat) (a : Nat) (b1 : Nat) (q : Nat → Nat) (qT : Nat → Nat) (qU1 : Nat → Nat) (S : PS) (T : PS) (U1 : PS) (r : Int32) (S' : PS) (U1' : PS) (hf : f_X3_readLine S T U1 = some (r, S', U1')) : CTE l D (TY cs) ad ar yX3_readLine wsX3_readLine rmX3_readLine [.ref a, .ref b1] (wX3 cs a q S ++ wX6 cs (q 0) qT T ++ wX2 cs b1 qU1 U1) (some (.int r)) (wX3 cs a q S' ++ wX6 cs (q 0) qT T ++ wX2 cs b1 qU1 U1') := by
  refine CTE.ofW (own := RX3) (cc := cX3_readLine) (maxL := 6) (ret := some .boolean) (by decide) rfl rfl (Nat.le_of_ble_eq_true rfl) ?_
  intro p e s m args below meth c A Q hE X hret ls hl hw
  obtain ⟨hx, hb, hml, hown, hts, hK, hA, hr, hlk⟩ := id X
  have hl : lv_has ls 6 [(0, .ref a), (1, .ref b1)] := hl
  unfold f_X3_readLine at hf
  refine lv_iconst (pc := 0) (v := 0) hx hb dX3_readLine_0 (by decide) ?_
  refine lv_istore_n (lv' := [(2, .int 0), (0, .ref a), (1, .ref b1)]) (pc := 1) hx hb dX3_readLine_1 rfl hl (by decide) rfl (fun ls hl => ?_)
  refine lv_aload_n (pc := 2) hx hb dX3_readLine_2 rfl (lv_at hl 1 rfl) ?_
  refine x_get (pc := 3) X hw in_X3_readLine_X3 0 rfl rfl 3 (by decide) (List.mem_of_getElem? (i := 1) rfl) rfl dX3_readLine_3 ?_
  refine lv_iconst (pc := 6) (v := 1) hx hb dX3_readLine_6 (by decide) ?_
  obtain ⟨v1, hj, hf⟩ := b1_ob hf
  have J15_0 : ∀ (H : Heap) (locs : List Loc) (ls : Array Slot), WD D A s (wX3 cs a q S ++ wX6 cs (q 0) qT T ++ wX2 cs b1 qU1 U1) H locs → lv_has ls 6 [(0, .ref a), (1, .ref b1), (2, .int 0)] → W p l e rmX3_readLine s m args below meth c H locs 0 0 Q (F0 m 15 ls [.int v1]) := by
    intro H locs ls hw hl
    refine lv_istore_n (lv' := [(3, .int v1), (0, .ref a), (1, .ref b1), (2, .int 0)]) (pc := 15) hx hb dX3_readLine_15 rfl hl (by decide) rfl (fun ls hl => ?_)
    refine lv_iload_n (pc := 16) hx hb dX3_readLine_16 rfl (lv_at hl 0 rfl) ?_
    refine lv_if_eq (pc := 17) (tgt := 41) hx hb dX3_readLine_17 (by decide) (fun c3 => ?_) (fun c3 => ?_)
    · have hf := ipos c3 hf
      refine lv_aload_n (pc := 41) hx hb dX3_readLine_41 rfl (lv_at hl 1 rfl) ?_
      obtain ⟨v4, hc, hf⟩ := b1_ob hf
      refine x_cut (pc := 42) (wr := ([3, 4, 5, 6, 7, 8, 9, 10].filterMap (fun i => (wX3 cs a q S ++ wX6 cs (q 0) qT T ++ wX2 cs b1 qU1 U1)[i]?))) (ws2 := wX3 cs a q S ++ wX6 cs (q 0) qT T ++ wX2 cs b1 qU1 U1) X hw [0, 1, 2] [3, 4, 5, 6, 7, 8, 9, 10] [8, 9, 10, 0, 1, 2, 3, 4, 5, 6, 7] rfl rfl (by decide) (by decide) rfl (by decide) (va_runV (As := []) (rest := []) ⟨hx, hb, hml, hown, hts⟩ (c_X3_verbHere l D cs ad ar a q qT S T v4 hc _) (cwV 0 hts gX3_readLine_X3_verbHere rfl rfl rfl (by decide +kernel) ⟨Nat.le_of_ble_eq_true rfl, Nat.le_of_ble_eq_true rfl⟩) ⟨CPE_blind, va_recv hK hw.1 (ci := 3) (q0 := 0) rfl rfl, x_preCE X hE hw [0, 1, 2] rfl (by decide) [.ref a]⟩ rfl rfl hl.1 rfl (lv_room (Nat.le_of_ble_eq_true rfl)) dX3_readLine_42 ⟨Nat.zero_le _, Nat.zero_le _⟩) (fun H locs hw => ?_)
      refine lv_istore (lv' := [(4, .int v4), (3, .int v1), (0, .ref a), (1, .ref b1), (2, .int 0)]) (pc := 45) hx hb dX3_readLine_45 hl (by decide) rfl (fun ls hl => ?_)
      refine lv_iload (pc := 47) hx hb dX3_readLine_47 (lv_at hl 0 rfl) ?_
      refine lv_iconst (pc := 49) (v := (-1)) hx hb dX3_readLine_49 (by decide) ?_
      refine lv_icmp_eq (pc := 50) (tgt := 69) hx hb dX3_readLine_50 (by decide) (fun c5 => ?_) (fun c5 => ?_)
      · have hf := ipos c5 hf
        refine lv_iconst (pc := 69) (v := 0) hx hb dX3_readLine_69 (by decide) ?_
        cases hf
        exact hret _ _ 70 _ hw ⟨_, rfl, by decide⟩ dX3_readLine_70
      · have hf := ineg c5 hf
        refine lv_iload_n (pc := 53) hx hb dX3_readLine_53 rfl (lv_at hl 1 rfl) ?_
        refine lv_iload (pc := 54) hx hb dX3_readLine_54 (lv_at hl 0 rfl) ?_
        refine lv_bipush (pc := 56) (v := 8) hx hb dX3_readLine_56 (by decide) ?_
        obtain ⟨v6, hj, hf⟩ := b1_ob hf
        have J66_5 : ∀ (H : Heap) (locs : List Loc) (ls : Array Slot), WD D A s (wX3 cs a q S ++ wX6 cs (q 0) qT T ++ wX2 cs b1 qU1 U1) H locs → lv_has ls 6 [(0, .ref a), (1, .ref b1), (2, .int 0), (4, .int v4)] → W p l e rmX3_readLine s m args below meth c H locs 0 0 Q (F0 m 66 ls [.int v6, .int v1]) := by
          intro H locs ls hw hl
          refine lv_icmp_ne (pc := 66) (tgt := 71) hx hb dX3_readLine_66 (by decide) (fun c8 => ?_) (fun c8 => ?_)
          · have hf := ineg c8 hf
            refine lv_aload_n (pc := 71) hx hb dX3_readLine_71 rfl (lv_at hl 0 rfl) ?_
            obtain ⟨S9, hc, hf⟩ := b1_ob hf
            refine x_cut (pc := 72) (wr := ([3, 4, 5, 6, 7, 8, 9, 10].filterMap (fun i => (wX3 cs a q S ++ wX6 cs (q 0) qT T ++ wX2 cs b1 qU1 U1)[i]?))) (ws2 := wX3 cs a q S9 ++ wX6 cs (q 0) qT T ++ wX2 cs b1 qU1 U1) X hw [0, 1, 2] [3, 4, 5, 6, 7, 8, 9, 10] [8, 9, 10, 0, 1, 2, 3, 4, 5, 6, 7] rfl rfl (by decide) (by decide) rfl (by decide) (va_runV (As := []) (rest := []) ⟨hx, hb, hml, hown, hts⟩ (c_X3_step l D cs a q qT S T S9 hc _) (cwV 0 hts gX3_readLine_X3_step rfl rfl rfl (by decide +kernel) ⟨Nat.le_of_ble_eq_true rfl, Nat.le_of_ble_eq_true rfl⟩) ⟨CP_blind, va_recv hK hw.1 (ci := 3) (q0 := 0) rfl rfl, x_preC X hw [0, 1, 2] rfl (by decide) [.ref a]⟩ rfl rfl hl.1 rfl (lv_room (Nat.le_of_ble_eq_true rfl)) dX3_readLine_72 ⟨Nat.zero_le _, Nat.zero_le _⟩) (fun H locs hw => ?_)
            refine lv_aload_n (pc := 75) hx hb dX3_readLine_75 rfl (lv_at hl 1 rfl) ?_
            refine lv_iload (pc := 76) hx hb dX3_readLine_76 (lv_at hl 3 rfl) ?_
            refine lv_iload_n (pc := 78) hx hb dX3_readLine_78 rfl (lv_at hl 2 rfl) ?_
            obtain ⟨U110, hc, hf⟩ := b1_ob hf
            refine x_cut (pc := 79) (wr := ([0, 1, 2].filterMap (fun i => (wX3 cs a q S9 ++ wX6 cs (q 0) qT T ++ wX2 cs b1 qU1 U1)[i]?))) (ws2 := wX3 cs a q S9 ++ wX6 cs (q 0) qT T ++ wX2 cs b1 qU1 U110) X hw [3, 4, 5, 6, 7, 8, 9, 10] [0, 1, 2] [0, 1, 2, 3, 4, 5, 6, 7, 8, 9, 10] rfl rfl (by decide) (by decide) rfl (by decide) (va_runV (As := [.int v4, .int 0]) (rest := []) ⟨hx, hb, hml, hown, hts⟩ (c_X2_addLine l D cs b1 qU1 U1 v4 0 U110 hc _) (cwV 2 hts gX3_readLine_X2_addLine rfl rfl rfl (by decide +kernel) ⟨Nat.le_of_ble_eq_true rfl, Nat.le_of_ble_eq_true rfl⟩) ⟨CP_blind, va_recv hK hw.1 (ci := 2) (q0 := 3) rfl rfl, x_preC X hw [3, 4, 5, 6, 7, 8, 9, 10] rfl (by decide) [.ref b1, .int v4, .int 0]⟩ rfl rfl hl.1 rfl (lv_room (Nat.le_of_ble_eq_true rfl)) dX3_readLine_79 ⟨Nat.zero_le _, Nat.zero_le _⟩) (fun H locs hw => ?_)
            refine lv_iconst (pc := 82) (v := 0) hx hb dX3_readLine_82 (by decide) ?_
            refine lv_istore (lv' := [(5, .int 0), (0, .ref a), (1, .ref b1), (2, .int 0), (4, .int v4)]) (pc := 83) hx hb dX3_readLine_83 hl (by decide) rfl (fun ls hl => ?_)
            have L85 : ∀ (n : Nat) (v11 : Int32) (S12 : PS) (U113 : PS), L_X3_readLine_85 T v4 n v11 S12 U113 = some (r, S', U1') → ∀ (H : Heap) (locs : List Loc) (ls : Array Slot), WD D A s (wX3 cs a q S12 ++ wX6 cs (q 0) qT T ++ wX2 cs b1 qU1 U113) H locs → lv_has ls 6 [(0, .ref a), (1, .ref b1), (4, .int v4), (5, .int v11)] → W p l e rmX3_readLine s m args below meth c H locs 0 0 Q (F0 m 85 ls []) := by
              intro n
              induction n with
              | zero => intro v11 S12 U113 hf; exact (loopF_z hf).elim
              | succ n ih =>
                intro v11 S12 U113 hf H locs ls hw hl
                obtain ⟨x, hf, hx0⟩ := loopF_ob hf
                have hf : B_X3_readLine_85 T v4 v11 S12 U113 = some x := hf
                unfold B_X3_readLine_85 at hf
                refine lv_iload (pc := 85) hx hb dX3_readLine_85 (lv_at hl 3 rfl) ?_
                refine lv_iload (pc := 87) hx hb dX3_readLine_87 (lv_at hl 2 rfl) ?_
                obtain ⟨v14, hc, hf⟩ := b1_ob hf
                refine x_nil (pc := 89) X hw (va_runS (As := [.int v4]) (rest := [.int v11]) ⟨hx, hb, hml, hown, hts⟩ (c_X2_operandCount l D cs v4 v14 hc _) (va_cwS 1 hts gX3_readLine_X2_operandCount rfl rfl rfl (by decide +kernel) ⟨Nat.le_of_ble_eq_true rfl, Nat.le_of_ble_eq_true rfl⟩) ⟨CP_blind, x_preN X [.int v4]⟩ rfl rfl hl.1 rfl (lv_room (Nat.le_of_ble_eq_true rfl)) dX3_readLine_89 ⟨Nat.zero_le _, Nat.zero_le _⟩) (fun H locs hw => ?_)
                refine lv_icmp_ge (pc := 92) (tgt := 137) hx hb dX3_readLine_92 (by decide) (fun c15 => ?_) (fun c15 => ?_)
                · have hf := ipos c15 hf
                  refine lv_iconst (pc := 137) (v := 1) hx hb dX3_readLine_137 (by decide) ?_
                  cases hf
                  cases (hx0 : (1, S12, U113) = (r, S', U1'))
                  exact hret _ _ 138 _ hw ⟨_, rfl, by decide⟩ dX3_readLine_138
                · have hf := ineg c15 hf
                  refine lv_aload_n (pc := 95) hx hb dX3_readLine_95 rfl (lv_at hl 0 rfl) ?_
                  refine lv_iload (pc := 96) hx hb dX3_readLine_96 (lv_at hl 2 rfl) ?_
                  obtain ⟨v16, hc, hf⟩ := b1_ob hf
                  refine x_nil (pc := 98) X hw (va_runS (As := [.int v4]) (rest := [.ref a]) ⟨hx, hb, hml, hown, hts⟩ (c_X2_leastOperand l D cs v4 v16 hc _) (va_cwS 1 hts gX3_readLine_X2_leastOperand rfl rfl rfl (by decide +kernel) ⟨Nat.le_of_ble_eq_true rfl, Nat.le_of_ble_eq_true rfl⟩) ⟨CP_blind, x_preN X [.int v4]⟩ rfl rfl hl.1 rfl (lv_room (Nat.le_of_ble_eq_true rfl)) dX3_readLine_98 ⟨Nat.zero_le _, Nat.zero_le _⟩) (fun H locs hw => ?_)
                  refine lv_iload (pc := 101) hx hb dX3_readLine_101 (lv_at hl 2 rfl) ?_
                  obtain ⟨v17, hc, hf⟩ := b1_ob hf
                  refine x_nil (pc := 103) X hw (va_runS (As := [.int v4]) (rest := [.int v16, .ref a]) ⟨hx, hb, hml, hown, hts⟩ (c_X2_greatestOperand l D cs v4 v17 hc _) (va_cwS 1 hts gX3_readLine_X2_greatestOperand rfl rfl rfl (by decide +kernel) ⟨Nat.le_of_ble_eq_true rfl, Nat.le_of_ble_eq_true rfl⟩) ⟨CP_blind, x_preN X [.int v4]⟩ rfl rfl hl.1 rfl (lv_room (Nat.le_of_ble_eq_true rfl)) dX3_readLine_103 ⟨Nat.zero_le _, Nat.zero_le _⟩) (fun H locs hw => ?_)
                  obtain ⟨v18, hc, hf⟩ := b1_ob hf
                  refine x_cut (pc := 106) (wr := ([3, 4, 5, 6, 7, 8, 9, 10].filterMap (fun i => (wX3 cs a q S12 ++ wX6 cs (q 0) qT T ++ wX2 cs b1 qU1 U113)[i]?))) (ws2 := wX3 cs a q S12 ++ wX6 cs (q 0) qT T ++ wX2 cs b1 qU1 U113) X hw [0, 1, 2] [3, 4, 5, 6, 7, 8, 9, 10] [8, 9, 10, 0, 1, 2, 3, 4, 5, 6, 7] rfl rfl (by decide) (by decide) rfl (by decide) (va_runV (As := [.int v16, .int v17]) (rest := []) ⟨hx, hb, hml, hown, hts⟩ (c_X3_isNumberWithin l D cs a q qT S12 T v16 v17 v18 hc _) (cwV 2 hts gX3_readLine_X3_isNumberWithin rfl rfl rfl (by decide +kernel) ⟨Nat.le_of_ble_eq_true rfl, Nat.le_of_ble_eq_true rfl⟩) ⟨CP_blind, va_recv hK hw.1 (ci := 3) (q0 := 0) rfl rfl, x_preC X hw [0, 1, 2] rfl (by decide) [.ref a, .int v16, .int v17]⟩ rfl rfl hl.1 rfl (lv_room (Nat.le_of_ble_eq_true rfl)) dX3_readLine_106 ⟨Nat.zero_le _, Nat.zero_le _⟩) (fun H locs hw => ?_)
                  refine lv_if_eq (pc := 109) (tgt := 125) hx hb dX3_readLine_109 (by decide) (fun c19 => ?_) (fun c19 => ?_)
                  · have hf := ipos c19 hf
                    refine lv_iconst (pc := 125) (v := 0) hx hb dX3_readLine_125 (by decide) ?_
                    cases hf
                    cases (hx0 : (0, S12, U113) = (r, S', U1'))
                    exact hret _ _ 126 _ hw ⟨_, rfl, by decide⟩ dX3_readLine_126
                  · have hf := ineg c19 hf
                    refine lv_aload_n (pc := 112) hx hb dX3_readLine_112 rfl (lv_at hl 1 rfl) ?_
                    refine lv_iload (pc := 113) hx hb dX3_readLine_113 (lv_at hl 3 rfl) ?_
                    refine lv_aload_n (pc := 115) hx hb dX3_readLine_115 rfl (lv_at hl 0 rfl) ?_
                    obtain ⟨v20, hc, hf⟩ := b1_ob hf
                    refine x_cut (pc := 116) (wr := ([3, 4, 5, 6, 7, 8, 9, 10].filterMap (fun i => (wX3 cs a q S12 ++ wX6 cs (q 0) qT T ++ wX2 cs b1 qU1 U113)[i]?))) (ws2 := wX3 cs a q S12 ++ wX6 cs (q 0) qT T ++ wX2 cs b1 qU1 U113) X hw [0, 1, 2] [3, 4, 5, 6, 7, 8, 9, 10] [8, 9, 10, 0, 1, 2, 3, 4, 5, 6, 7] rfl rfl (by decide) (by decide) rfl (by decide) (va_runV (As := []) (rest := [.int v11, .ref b1]) ⟨hx, hb, hml, hown, hts⟩ (c_X3_number l D cs a q qT S12 T v20 hc _) (cwV 0 hts gX3_readLine_X3_number rfl rfl rfl (by decide +kernel) ⟨Nat.le_of_ble_eq_true rfl, Nat.le_of_ble_eq_true rfl⟩) ⟨CP_blind, va_recv hK hw.1 (ci := 3) (q0 := 0) rfl rfl, x_preC X hw [0, 1, 2] rfl (by decide) [.ref a]⟩ rfl rfl hl.1 rfl (lv_room (Nat.le_of_ble_eq_true rfl)) dX3_readLine_116 ⟨Nat.zero_le _, Nat.zero_le _⟩) (fun H locs hw => ?_)
                    obtain ⟨v21, U122, hc, hf⟩ := b2_ob hf
                    refine x_cut (pc := 119) (wr := ([0, 1, 2].filterMap (fun i => (wX3 cs a q S12 ++ wX6 cs (q 0) qT T ++ wX2 cs b1 qU1 U113)[i]?))) (ws2 := wX3 cs a q S12 ++ wX6 cs (q 0) qT T ++ wX2 cs b1 qU1 U122) X hw [3, 4, 5, 6, 7, 8, 9, 10] [0, 1, 2] [0, 1, 2, 3, 4, 5, 6, 7, 8, 9, 10] rfl rfl (by decide) (by decide) rfl (by decide) (va_runV (As := [.int v11, .int v20]) (rest := []) ⟨hx, hb, hml, hown, hts⟩ (c_X2_setOperand l D cs b1 qU1 U113 v11 v20 v21 U122 hc _) (cwV 2 hts gX3_readLine_X2_setOperand rfl rfl rfl (by decide +kernel) ⟨Nat.le_of_ble_eq_true rfl, Nat.le_of_ble_eq_true rfl⟩) ⟨CP_blind, va_recv hK hw.1 (ci := 2) (q0 := 3) rfl rfl, x_preC X hw [3, 4, 5, 6, 7, 8, 9, 10] rfl (by decide) [.ref b1, .int v11, .int v20]⟩ rfl rfl hl.1 rfl (lv_room (Nat.le_of_ble_eq_true rfl)) dX3_readLine_119 ⟨Nat.zero_le _, Nat.zero_le _⟩) (fun H locs hw => ?_)
                    refine lv_if_ne (pc := 122) (tgt := 127) hx hb dX3_readLine_122 (by decide) (fun c23 => ?_) (fun c23 => ?_)
                    · have hf := ineg c23 hf
                      refine lv_aload_n (pc := 127) hx hb dX3_readLine_127 rfl (lv_at hl 0 rfl) ?_
                      obtain ⟨S24, hc, hf⟩ := b1_ob hf
                      refine x_cut (pc := 128) (wr := ([3, 4, 5, 6, 7, 8, 9, 10].filterMap (fun i => (wX3 cs a q S12 ++ wX6 cs (q 0) qT T ++ wX2 cs b1 qU1 U122)[i]?))) (ws2 := wX3 cs a q S24 ++ wX6 cs (q 0) qT T ++ wX2 cs b1 qU1 U122) X hw [0, 1, 2] [3, 4, 5, 6, 7, 8, 9, 10] [8, 9, 10, 0, 1, 2, 3, 4, 5, 6, 7] rfl rfl (by decide) (by decide) rfl (by decide) (va_runV (As := []) (rest := []) ⟨hx, hb, hml, hown, hts⟩ (c_X3_step l D cs a q qT S12 T S24 hc _) (cwV 0 hts gX3_readLine_X3_step rfl rfl rfl (by decide +kernel) ⟨Nat.le_of_ble_eq_true rfl, Nat.le_of_ble_eq_true rfl⟩) ⟨CP_blind, va_recv hK hw.1 (ci := 3) (q0 := 0) rfl rfl, x_preC X hw [0, 1, 2] rfl (by decide) [.ref a]⟩ rfl rfl hl.1 rfl (lv_room (Nat.le_of_ble_eq_true rfl)) dX3_readLine_128 ⟨Nat.zero_le _, Nat.zero_le _⟩) (fun H locs hw => ?_)
                      obtain ⟨v25, ev25, hf⟩ := bn_ob hf
                      refine lv_iinc (pc := 131) (v := v25) (lv' := [(5, .int v25), (0, .ref a), (1, .ref b1), (4, .int v4)]) hx hb dX3_readLine_131 hl (k := 3) rfl (by rw [ev25]; rfl) (by decide) rfl (fun ls hl => ?_)
                      refine lv_goto (pc := 134) (tgt := 85) hx hb dX3_readLine_134 (by decide) ?_
                      cases hf
                      exact ih v25 S24 U122  hx0 _ _ _ hw (lv_sub hl [1, 2, 3, 0] rfl)
                    · have hf := ipos c23 hf
                      refine lv_iconst (pc := 125) (v := 0) hx hb dX3_readLine_125 (by decide) ?_
                      cases hf
                      cases (hx0 : (0, S12, U122) = (r, S', U1'))
                      exact hret _ _ 126 _ hw ⟨_, rfl, by decide⟩ dX3_readLine_126
            exact L85 _ 0 S9 U110 hf _ _ _ hw (lv_sub hl [1, 2, 4, 0] rfl)
          · have hf := ipos c8 hf
            refine lv_iconst (pc := 69) (v := 0) hx hb dX3_readLine_69 (by decide) ?_
            cases hf
            exact hret _ _ 70 _ hw ⟨_, rfl, by decide⟩ dX3_readLine_70
        clear hf; have hf := hj; clear hj
        refine lv_icmp_ne (pc := 58) (tgt := 65) hx hb dX3_readLine_58 (by decide) (fun c7 => ?_) (fun c7 => ?_)
        · have hf := ineg c7 hf
          refine lv_iconst (pc := 65) (v := 0) hx hb dX3_readLine_65 (by decide) ?_
          cases hf
          exact J66_5 _ _ _ hw (lv_sub hl [2, 3, 4, 0] rfl)
        · have hf := ipos c7 hf
          refine lv_iconst (pc := 61) (v := 1) hx hb dX3_readLine_61 (by decide) ?_
          refine lv_goto (pc := 62) (tgt := 66) hx hb dX3_readLine_62 (by decide) ?_
          cases hf
          exact J66_5 _ _ _ hw (lv_sub hl [2, 3, 4, 0] rfl)
    · have hf := ineg c3 hf
      refine lv_aload_n (pc := 20) hx hb dX3_readLine_20 rfl (lv_at hl 1 rfl) ?_
      refine lv_iconst (pc := 21) (v := 0) hx hb dX3_readLine_21 (by decide) ?_
      refine lv_bipush (pc := 22) (v := 7) hx hb dX3_readLine_22 (by decide) ?_
      obtain ⟨v26, hc, hf⟩ := b1_ob hf
      refine x_cut (pc := 24) (wr := ([3, 4, 5, 6, 7, 8, 9, 10].filterMap (fun i => (wX3 cs a q S ++ wX6 cs (q 0) qT T ++ wX2 cs b1 qU1 U1)[i]?))) (ws2 := wX3 cs a q S ++ wX6 cs (q 0) qT T ++ wX2 cs b1 qU1 U1) X hw [0, 1, 2] [3, 4, 5, 6, 7, 8, 9, 10] [8, 9, 10, 0, 1, 2, 3, 4, 5, 6, 7] rfl rfl (by decide) (by decide) rfl (by decide) (va_runV (As := [.int 0, .int 7]) (rest := []) ⟨hx, hb, hml, hown, hts⟩ (c_X3_isNumberWithin l D cs a q qT S T 0 7 v26 hc _) (cwV 2 hts gX3_readLine_X3_isNumberWithin rfl rfl rfl (by decide +kernel) ⟨Nat.le_of_ble_eq_true rfl, Nat.le_of_ble_eq_true rfl⟩) ⟨CP_blind, va_recv hK hw.1 (ci := 3) (q0 := 0) rfl rfl, x_preC X hw [0, 1, 2] rfl (by decide) [.ref a, .int 0, .int 7]⟩ rfl rfl hl.1 rfl (lv_room (Nat.le_of_ble_eq_true rfl)) dX3_readLine_24 ⟨Nat.zero_le _, Nat.zero_le _⟩) (fun H locs hw => ?_)
      refine lv_if_ne (pc := 27) (tgt := 32) hx hb dX3_readLine_27 (by decide) (fun c27 => ?_) (fun c27 => ?_)
      · have hf := ineg c27 hf
        refine lv_aload_n (pc := 32) hx hb dX3_readLine_32 rfl (lv_at hl 1 rfl) ?_
        obtain ⟨v28, hc, hf⟩ := b1_ob hf
        refine x_cut (pc := 33) (wr := ([3, 4, 5, 6, 7, 8, 9, 10].filterMap (fun i => (wX3 cs a q S ++ wX6 cs (q 0) qT T ++ wX2 cs b1 qU1 U1)[i]?))) (ws2 := wX3 cs a q S ++ wX6 cs (q 0) qT T ++ wX2 cs b1 qU1 U1) X hw [0, 1, 2] [3, 4, 5, 6, 7, 8, 9, 10] [8, 9, 10, 0, 1, 2, 3, 4, 5, 6, 7] rfl rfl (by decide) (by decide) rfl (by decide) (va_runV (As := []) (rest := []) ⟨hx, hb, hml, hown, hts⟩ (c_X3_number l D cs a q qT S T v28 hc _) (cwV 0 hts gX3_readLine_X3_number rfl rfl rfl (by decide +kernel) ⟨Nat.le_of_ble_eq_true rfl, Nat.le_of_ble_eq_true rfl⟩) ⟨CP_blind, va_recv hK hw.1 (ci := 3) (q0 := 0) rfl rfl, x_preC X hw [0, 1, 2] rfl (by decide) [.ref a]⟩ rfl rfl hl.1 rfl (lv_room (Nat.le_of_ble_eq_true rfl)) dX3_readLine_33 ⟨Nat.zero_le _, Nat.zero_le _⟩) (fun H locs hw => ?_)
        refine lv_istore_n (lv' := [(2, .int v28), (3, .int v1), (0, .ref a), (1, .ref b1)]) (pc := 36) hx hb dX3_readLine_36 rfl hl (by decide) rfl (fun ls hl => ?_)
        refine lv_aload_n (pc := 37) hx hb dX3_readLine_37 rfl (lv_at hl 2 rfl) ?_
        obtain ⟨S29, hc, hf⟩ := b1_ob hf
        refine x_cut (pc := 38) (wr := ([3, 4, 5, 6, 7, 8, 9, 10].filterMap (fun i => (wX3 cs a q S ++ wX6 cs (q 0) qT T ++ wX2 cs b1 qU1 U1)[i]?))) (ws2 := wX3 cs a q S29 ++ wX6 cs (q 0) qT T ++ wX2 cs b1 qU1 U1) X hw [0, 1, 2] [3, 4, 5, 6, 7, 8, 9, 10] [8, 9, 10, 0, 1, 2, 3, 4, 5, 6, 7] rfl rfl (by decide) (by decide) rfl (by decide) (va_runV (As := []) (rest := []) ⟨hx, hb, hml, hown, hts⟩ (c_X3_step l D cs a q qT S T S29 hc _) (cwV 0 hts gX3_readLine_X3_step rfl rfl rfl (by decide +kernel) ⟨Nat.le_of_ble_eq_true rfl, Nat.le_of_ble_eq_true rfl⟩) ⟨CP_blind, va_recv hK hw.1 (ci := 3) (q0 := 0) rfl rfl, x_preC X hw [0, 1, 2] rfl (by decide) [.ref a]⟩ rfl rfl hl.1 rfl (lv_room (Nat.le_of_ble_eq_true rfl)) dX3_readLine_38 ⟨Nat.zero_le _, Nat.zero_le _⟩) (fun H locs hw => ?_)
        refine lv_aload_n (pc := 41) hx hb dX3_readLine_41 rfl (lv_at hl 2 rfl) ?_
        obtain ⟨v30, hc, hf⟩ := b1_ob hf
        refine x_cut (pc := 42) (wr := ([3, 4, 5, 6, 7, 8, 9, 10].filterMap (fun i => (wX3 cs a q S29 ++ wX6 cs (q 0) qT T ++ wX2 cs b1 qU1 U1)[i]?))) (ws2 := wX3 cs a q S29 ++ wX6 cs (q 0) qT T ++ wX2 cs b1 qU1 U1) X hw [0, 1, 2] [3, 4, 5, 6, 7, 8, 9, 10] [8, 9, 10, 0, 1, 2, 3, 4, 5, 6, 7] rfl rfl (by decide) (by decide) rfl (by decide) (va_runV (As := []) (rest := []) ⟨hx, hb, hml, hown, hts⟩ (c_X3_verbHere l D cs ad ar a q qT S29 T v30 hc _) (cwV 0 hts gX3_readLine_X3_verbHere rfl rfl rfl (by decide +kernel) ⟨Nat.le_of_ble_eq_true rfl, Nat.le_of_ble_eq_true rfl⟩) ⟨CPE_blind, va_recv hK hw.1 (ci := 3) (q0 := 0) rfl rfl, x_preCE X hE hw [0, 1, 2] rfl (by decide) [.ref a]⟩ rfl rfl hl.1 rfl (lv_room (Nat.le_of_ble_eq_true rfl)) dX3_readLine_42 ⟨Nat.zero_le _, Nat.zero_le _⟩) (fun H locs hw => ?_)
        refine lv_istore (lv' := [(4, .int v30), (2, .int v28), (3, .int v1), (0, .ref a), (1, .ref b1)]) (pc := 45) hx hb dX3_readLine_45 hl (by decide) rfl (fun ls hl => ?_)
        refine lv_iload (pc := 47) hx hb dX3_readLine_47 (lv_at hl 0 rfl) ?_
        refine lv_iconst (pc := 49) (v := (-1)) hx hb dX3_readLine_49 (by decide) ?_
        refine lv_icmp_eq (pc := 50) (tgt := 69) hx hb dX3_readLine_50 (by decide) (fun c31 => ?_) (fun c31 => ?_)
        · have hf := ipos c31 hf
          refine lv_iconst (pc := 69) (v := 0) hx hb dX3_readLine_69 (by decide) ?_
          cases hf
          exact hret _ _ 70 _ hw ⟨_, rfl, by decide⟩ dX3_readLine_70
        · have hf := ineg c31 hf
          refine lv_iload_n (pc := 53) hx hb dX3_readLine_53 rfl (lv_at hl 2 rfl) ?_
          refine lv_iload (pc := 54) hx hb dX3_readLine_54 (lv_at hl 0 rfl) ?_
          refine lv_bipush (pc := 56) (v := 8) hx hb dX3_readLine_56 (by decide) ?_
          obtain ⟨v32, hj, hf⟩ := b1_ob hf
          have J66_31 : ∀ (H : Heap) (locs : List Loc) (ls : Array Slot), WD D A s (wX3 cs a q S29 ++ wX6 cs (q 0) qT T ++ wX2 cs b1 qU1 U1) H locs → lv_has ls 6 [(0, .ref a), (1, .ref b1), (2, .int v28), (4, .int v30)] → W p l e rmX3_readLine s m args below meth c H locs 0 0 Q (F0 m 66 ls [.int v32, .int v1]) := by
            intro H locs ls hw hl
            refine lv_icmp_ne (pc := 66) (tgt := 71) hx hb dX3_readLine_66 (by decide) (fun c34 => ?_) (fun c34 => ?_)
            · have hf := ineg c34 hf
              refine lv_aload_n (pc := 71) hx hb dX3_readLine_71 rfl (lv_at hl 0 rfl) ?_
              obtain ⟨S35, hc, hf⟩ := b1_ob hf
              refine x_cut (pc := 72) (wr := ([3, 4, 5, 6, 7, 8, 9, 10].filterMap (fun i => (wX3 cs a q S29 ++ wX6 cs (q 0) qT T ++ wX2 cs b1 qU1 U1)[i]?))) (ws2 := wX3 cs a q S35 ++ wX6 cs (q 0) qT T ++ wX2 cs b1 qU1 U1) X hw [0, 1, 2] [3, 4, 5, 6, 7, 8, 9, 10] [8, 9, 10, 0, 1, 2, 3, 4, 5, 6, 7] rfl rfl (by decide) (by decide) rfl (by decide) (va_runV (As := []) (rest := []) ⟨hx, hb, hml, hown, hts⟩ (c_X3_step l D cs a q qT S29 T S35 hc _) (cwV 0 hts gX3_readLine_X3_step rfl rfl rfl (by decide +kernel) ⟨Nat.le_of_ble_eq_true rfl, Nat.le_of_ble_eq_true rfl⟩) ⟨CP_blind, va_recv hK hw.1 (ci := 3) (q0 := 0) rfl rfl, x_preC X hw [0, 1, 2] rfl (by decide) [.ref a]⟩ rfl rfl hl.1 rfl (lv_room (Nat.le_of_ble_eq_true rfl)) dX3_readLine_72 ⟨Nat.zero_le _, Nat.zero_le _⟩) (fun H locs hw => ?_)
              refine lv_aload_n (pc := 75) hx hb dX3_readLine_75 rfl (lv_at hl 1 rfl) ?_
              refine lv_iload (pc := 76) hx hb dX3_readLine_76 (lv_at hl 3 rfl) ?_
              refine lv_iload_n (pc := 78) hx hb dX3_readLine_78 rfl (lv_at hl 2 rfl) ?_
              obtain ⟨U136, hc, hf⟩ := b1_ob hf
              refine x_cut (pc := 79) (wr := ([0, 1, 2].filterMap (fun i => (wX3 cs a q S35 ++ wX6 cs (q 0) qT T ++ wX2 cs b1 qU1 U1)[i]?))) (ws2 := wX3 cs a q S35 ++ wX6 cs (q 0) qT T ++ wX2 cs b1 qU1 U136) X hw [3, 4, 5, 6, 7, 8, 9, 10] [0, 1, 2] [0, 1, 2, 3, 4, 5, 6, 7, 8, 9, 10] rfl rfl (by decide) (by decide) rfl (by decide) (va_runV (As := [.int v30, .int v28]) (rest := []) ⟨hx, hb, hml, hown, hts⟩ (c_X2_addLine l D cs b1 qU1 U1 v30 v28 U136 hc _) (cwV 2 hts gX3_readLine_X2_addLine rfl rfl rfl (by decide +kernel) ⟨Nat.le_of_ble_eq_true rfl, Nat.le_of_ble_eq_true rfl⟩) ⟨CP_blind, va_recv hK hw.1 (ci := 2) (q0 := 3) rfl rfl, x_preC X hw [3, 4, 5, 6, 7, 8, 9, 10] rfl (by decide) [.ref b1, .int v30, .int v28]⟩ rfl rfl hl.1 rfl (lv_room (Nat.le_of_ble_eq_true rfl)) dX3_readLine_79 ⟨Nat.zero_le _, Nat.zero_le _⟩) (fun H locs hw => ?_)
              refine lv_iconst (pc := 82) (v := 0) hx hb dX3_readLine_82 (by decide) ?_
              refine lv_istore (lv' := [(5, .int 0), (0, .ref a), (1, .ref b1), (2, .int v28), (4, .int v30)]) (pc := 83) hx hb dX3_readLine_83 hl (by decide) rfl (fun ls hl => ?_)
              have L85 : ∀ (n : Nat) (v37 : Int32) (S38 : PS) (U139 : PS), L_X3_readLine_85 T v30 n v37 S38 U139 = some (r, S', U1') → ∀ (H : Heap) (locs : List Loc) (ls : Array Slot), WD D A s (wX3 cs a q S38 ++ wX6 cs (q 0) qT T ++ wX2 cs b1 qU1 U139) H locs → lv_has ls 6 [(0, .ref a), (1, .ref b1), (4, .int v30), (5, .int v37)] → W p l e rmX3_readLine s m args below meth c H locs 0 0 Q (F0 m 85 ls []) := by
                intro n
                induction n with
                | zero => intro v37 S38 U139 hf; exact (loopF_z hf).elim
                | succ n ih =>
                  intro v37 S38 U139 hf H locs ls hw hl
                  obtain ⟨x, hf, hx0⟩ := loopF_ob hf
                  have hf : B_X3_readLine_85 T v30 v37 S38 U139 = some x := hf
                  unfold B_X3_readLine_85 at hf
                  refine lv_iload (pc := 85) hx hb dX3_readLine_85 (lv_at hl 3 rfl) ?_
                  refine lv_iload (pc := 87) hx hb dX3_readLine_87 (lv_at hl 2 rfl) ?_
                  obtain ⟨v40, hc, hf⟩ := b1_ob hf
                  refine x_nil (pc := 89) X hw (va_runS (As := [.int v30]) (rest := [.int v37]) ⟨hx, hb, hml, hown, hts⟩ (c_X2_operandCount l D cs v30 v40 hc _) (va_cwS 1 hts gX3_readLine_X2_operandCount rfl rfl rfl (by decide +kernel) ⟨Nat.le_of_ble_eq_true rfl, Nat.le_of_ble_eq_true rfl⟩) ⟨CP_blind, x_preN X [.int v30]⟩ rfl rfl hl.1 rfl (lv_room (Nat.le_of_ble_eq_true rfl)) dX3_readLine_89 ⟨Nat.zero_le _, Nat.zero_le _⟩) (fun H locs hw => ?_)
                  refine lv_icmp_ge (pc := 92) (tgt := 137) hx hb dX3_readLine_92 (by decide) (fun c41 => ?_) (fun c41 => ?_)
                  · have hf := ipos c41 hf
                    refine lv_iconst (pc := 137) (v := 1) hx hb dX3_readLine_137 (by decide) ?_
                    cases hf
                    cases (hx0 : (1, S38, U139) = (r, S', U1'))
                    exact hret _ _ 138 _ hw ⟨_, rfl, by decide⟩ dX3_readLine_138
                  · have hf := ineg c41 hf
                    refine lv_aload_n (pc := 95) hx hb dX3_readLine_95 rfl (lv_at hl 0 rfl) ?_
                    refine lv_iload (pc := 96) hx hb dX3_readLine_96 (lv_at hl 2 rfl) ?_
                    obtain ⟨v42, hc, hf⟩ := b1_ob hf
                    refine x_nil (pc := 98) X hw (va_runS (As := [.int v30]) (rest := [.ref a]) ⟨hx, hb, hml, hown, hts⟩ (c_X2_leastOperand l D cs v30 v42 hc _) (va_cwS 1 hts gX3_readLine_X2_leastOperand rfl rfl rfl (by decide +kernel) ⟨Nat.le_of_ble_eq_true rfl, Nat.le_of_ble_eq_true rfl⟩) ⟨CP_blind, x_preN X [.int v30]⟩ rfl rfl hl.1 rfl (lv_room (Nat.le_of_ble_eq_true rfl)) dX3_readLine_98 ⟨Nat.zero_le _, Nat.zero_le _⟩) (fun H locs hw => ?_)
                    refine lv_iload (pc := 101) hx hb dX3_readLine_101 (lv_at hl 2 rfl) ?_
                    obtain ⟨v43, hc, hf⟩ := b1_ob hf
                    refine x_nil (pc := 103) X hw (va_runS (As := [.int v30]) (rest := [.int v42, .ref a]) ⟨hx, hb, hml, hown, hts⟩ (c_X2_greatestOperand l D cs v30 v43 hc _) (va_cwS 1 hts gX3_readLine_X2_greatestOperand rfl rfl rfl (by decide +kernel) ⟨Nat.le_of_ble_eq_true rfl, Nat.le_of_ble_eq_true rfl⟩) ⟨CP_blind, x_preN X [.int v30]⟩ rfl rfl hl.1 rfl (lv_room (Nat.le_of_ble_eq_true rfl)) dX3_readLine_103 ⟨Nat.zero_le _, Nat.zero_le _⟩) (fun H locs hw => ?_)
                    obtain ⟨v44, hc, hf⟩ := b1_ob hf
                    refine x_cut (pc := 106) (wr := ([3, 4, 5, 6, 7, 8, 9, 10].filterMap (fun i => (wX3 cs a q S38 ++ wX6 cs (q 0) qT T ++ wX2 cs b1 qU1 U139)[i]?))) (ws2 := wX3 cs a q S38 ++ wX6 cs (q 0) qT T ++ wX2 cs b1 qU1 U139) X hw [0, 1, 2] [3, 4, 5, 6, 7, 8, 9, 10] [8, 9, 10, 0, 1, 2, 3, 4, 5, 6, 7] rfl rfl (by decide) (by decide) rfl (by decide) (va_runV (As := [.int v42, .int v43]) (rest := []) ⟨hx, hb, hml, hown, hts⟩ (c_X3_isNumberWithin l D cs a q qT S38 T v42 v43 v44 hc _) (cwV 2 hts gX3_readLine_X3_isNumberWithin rfl rfl rfl (by decide +kernel) ⟨Nat.le_of_ble_eq_true rfl, Nat.le_of_ble_eq_true rfl⟩) ⟨CP_blind, va_recv hK hw.1 (ci := 3) (q0 := 0) rfl rfl, x_preC X hw [0, 1, 2] rfl (by decide) [.ref a, .int v42, .int v43]⟩ rfl rfl hl.1 rfl (lv_room (Nat.le_of_ble_eq_true rfl)) dX3_readLine_106 ⟨Nat.zero_le _, Nat.zero_le _⟩) (fun H locs hw => ?_)
                    refine lv_if_eq (pc := 109) (tgt := 125) hx hb dX3_readLine_109 (by decide) (fun c45 => ?_) (fun c45 => ?_)
                    · have hf := ipos c45 hf
                      refine lv_iconst (pc := 125) (v := 0) hx hb dX3_readLine_125 (by decide) ?_
                      cases hf
                      cases (hx0 : (0, S38, U139) = (r, S', U1'))
                      exact hret _ _ 126 _ hw ⟨_, rfl, by decide⟩ dX3_readLine_126
                    · have hf := ineg c45 hf
                      refine lv_aload_n (pc := 112) hx hb dX3_readLine_112 rfl (lv_at hl 1 rfl) ?_
                      refine lv_iload (pc := 113) hx hb dX3_readLine_113 (lv_at hl 3 rfl) ?_
                      refine lv_aload_n (pc := 115) hx hb dX3_readLine_115 rfl (lv_at hl 0 rfl) ?_
                      obtain ⟨v46, hc, hf⟩ := b1_ob hf
                      refine x_cut (pc := 116) (wr := ([3, 4, 5, 6, 7, 8, 9, 10].filterMap (fun i => (wX3 cs a q S38 ++ wX6 cs (q 0) qT T ++ wX2 cs b1 qU1 U139)[i]?))) (ws2 := wX3 cs a q S38 ++ wX6 cs (q 0) qT T ++ wX2 cs b1 qU1 U139) X hw [0, 1, 2] [3, 4, 5, 6, 7, 8, 9, 10] [8, 9, 10, 0, 1, 2, 3, 4, 5, 6, 7] rfl rfl (by decide) (by decide) rfl (by decide) (va_runV (As := []) (rest := [.int v37, .ref b1]) ⟨hx, hb, hml, hown, hts⟩ (c_X3_number l D cs a q qT S38 T v46 hc _) (cwV 0 hts gX3_readLine_X3_number rfl rfl rfl (by decide +kernel) ⟨Nat.le_of_ble_eq_true rfl, Nat.le_of_ble_eq_true rfl⟩) ⟨CP_blind, va_recv hK hw.1 (ci := 3) (q0 := 0) rfl rfl, x_preC X hw [0, 1, 2] rfl (by decide) [.ref a]⟩ rfl rfl hl.1 rfl (lv_room (Nat.le_of_ble_eq_true rfl)) dX3_readLine_116 ⟨Nat.zero_le _, Nat.zero_le _⟩) (fun H locs hw => ?_)
                      obtain ⟨v47, U148, hc, hf⟩ := b2_ob hf
                      refine x_cut (pc := 119) (wr := ([0, 1, 2].filterMap (fun i => (wX3 cs a q S38 ++ wX6 cs (q 0) qT T ++ wX2 cs b1 qU1 U139)[i]?))) (ws2 := wX3 cs a q S38 ++ wX6 cs (q 0) qT T ++ wX2 cs b1 qU1 U148) X hw [3, 4, 5, 6, 7, 8, 9, 10] [0, 1, 2] [0, 1, 2, 3, 4, 5, 6, 7, 8, 9, 10] rfl rfl (by decide) (by decide) rfl (by decide) (va_runV (As := [.int v37, .int v46]) (rest := []) ⟨hx, hb, hml, hown, hts⟩ (c_X2_setOperand l D cs b1 qU1 U139 v37 v46 v47 U148 hc _) (cwV 2 hts gX3_readLine_X2_setOperand rfl rfl rfl (by decide +kernel) ⟨Nat.le_of_ble_eq_true rfl, Nat.le_of_ble_eq_true rfl⟩) ⟨CP_blind, va_recv hK hw.1 (ci := 2) (q0 := 3) rfl rfl, x_preC X hw [3, 4, 5, 6, 7, 8, 9, 10] rfl (by decide) [.ref b1, .int v37, .int v46]⟩ rfl rfl hl.1 rfl (lv_room (Nat.le_of_ble_eq_true rfl)) dX3_readLine_119 ⟨Nat.zero_le _, Nat.zero_le _⟩) (fun H locs hw => ?_)
                      refine lv_if_ne (pc := 122) (tgt := 127) hx hb dX3_readLine_122 (by decide) (fun c49 => ?_) (fun c49 => ?_)
                      · have hf := ineg c49 hf
                        refine lv_aload_n (pc := 127) hx hb dX3_readLine_127 rfl (lv_at hl 0 rfl) ?_
                        obtain ⟨S50, hc, hf⟩ := b1_ob hf
                        refine x_cut (pc := 128) (wr := ([3, 4, 5, 6, 7, 8, 9, 10].filterMap (fun i => (wX3 cs a q S38 ++ wX6 cs (q 0) qT T ++ wX2 cs b1 qU1 U148)[i]?))) (ws2 := wX3 cs a q S50 ++ wX6 cs (q 0) qT T ++ wX2 cs b1 qU1 U148) X hw [0, 1, 2] [3, 4, 5, 6, 7, 8, 9, 10] [8, 9, 10, 0, 1, 2, 3, 4, 5, 6, 7] rfl rfl (by decide) (by decide) rfl (by decide) (va_runV (As := []) (rest := []) ⟨hx, hb, hml, hown, hts⟩ (c_X3_step l D cs a q qT S38 T S50 hc _) (cwV 0 hts gX3_readLine_X3_step rfl rfl rfl (by decide +kernel) ⟨Nat.le_of_ble_eq_true rfl, Nat.le_of_ble_eq_true rfl⟩) ⟨CP_blind, va_recv hK hw.1 (ci := 3) (q0 := 0) rfl rfl, x_preC X hw [0, 1, 2] rfl (by decide) [.ref a]⟩ rfl rfl hl.1 rfl (lv_room (Nat.le_of_ble_eq_true rfl)) dX3_readLine_128 ⟨Nat.zero_le _, Nat.zero_le _⟩) (fun H locs hw => ?_)
                        obtain ⟨v51, ev51, hf⟩ := bn_ob hf
                        refine lv_iinc (pc := 131) (v := v51) (lv' := [(5, .int v51), (0, .ref a), (1, .ref b1), (4, .int v30)]) hx hb dX3_readLine_131 hl (k := 3) rfl (by rw [ev51]; rfl) (by decide) rfl (fun ls hl => ?_)
                        refine lv_goto (pc := 134) (tgt := 85) hx hb dX3_readLine_134 (by decide) ?_
                        cases hf
                        exact ih v51 S50 U148  hx0 _ _ _ hw (lv_sub hl [1, 2, 3, 0] rfl)
                      · have hf := ipos c49 hf
                        refine lv_iconst (pc := 125) (v := 0) hx hb dX3_readLine_125 (by decide) ?_
                        cases hf
                        cases (hx0 : (0, S38, U148) = (r, S', U1'))
                        exact hret _ _ 126 _ hw ⟨_, rfl, by decide⟩ dX3_readLine_126
              exact L85 _ 0 S35 U136 hf _ _ _ hw (lv_sub hl [1, 2, 4, 0] rfl)
            · have hf := ipos c34 hf
              refine lv_iconst (pc := 69) (v := 0) hx hb dX3_readLine_69 (by decide) ?_
              cases hf
              exact hret _ _ 70 _ hw ⟨_, rfl, by decide⟩ dX3_readLine_70
          clear hf; have hf := hj; clear hj
          refine lv_icmp_ne (pc := 58) (tgt := 65) hx hb dX3_readLine_58 (by decide) (fun c33 => ?_) (fun c33 => ?_)
          · have hf := ineg c33 hf
            refine lv_iconst (pc := 65) (v := 0) hx hb dX3_readLine_65 (by decide) ?_
            cases hf
            exact J66_31 _ _ _ hw (lv_sub hl [3, 4, 1, 0] rfl)
          · have hf := ipos c33 hf
            refine lv_iconst (pc := 61) (v := 1) hx hb dX3_readLine_61 (by decide) ?_
            refine lv_goto (pc := 62) (tgt := 66) hx hb dX3_readLine_62 (by decide) ?_
            cases hf
            exact J66_31 _ _ _ hw (lv_sub hl [3, 4, 1, 0] rfl)
      · have hf := ipos c27 hf
        refine lv_iconst (pc := 30) (v := 0) hx hb dX3_readLine_30 (by decide) ?_
        cases hf
        exact hret _ _ 31 _ hw ⟨_, rfl, by decide⟩ dX3_readLine_31
  clear hf; have hf := hj; clear hj
  refine lv_icmp_eq (pc := 7) (tgt := 14) hx hb dX3_readLine_7 (by decide) (fun c2 => ?_) (fun c2 => ?_)
  · have hf := ipos c2 hf
    refine lv_iconst (pc := 14) (v := 0) hx hb dX3_readLine_14 (by decide) ?_
    cases hf
    exact J15_0 _ _ _ hw (lv_sub hl [1, 2, 0] rfl)
  · have hf := ineg c2 hf
    refine lv_iconst (pc := 10) (v := 1) hx hb dX3_readLine_10 (by decide) ?_
    refine lv_goto (pc := 11) (tgt := 15) hx hb dX3_readLine_11 (by decide) ?_
    cases hf
    exact J15_0 _ _ _ hw (lv_sub hl [1, 2, 0] rfl)

theorem in_X3_readInto_X3 : ∀ w ∈ wsX30, w ∈ wsX3_readInto := fun _ h => List.mem_cons_of_mem _ (List.mem_append_left _ (List.mem_append_left _ (List.mem_append_right _ h)))
theorem in_X3_readInto_X2 : ∀ w ∈ wsX20, w ∈ wsX3_readInto := fun _ h => List.mem_cons_of_mem _ (List.mem_append_left _ (List.mem_append_right _ h))
theorem in_X3_readInto_X6 : ∀ w ∈ wsX60, w ∈ wsX3_readInto := fun _ h => List.mem_cons_of_mem _ (List.mem_append_right _ h)
abbrev rmX3_readInto : Room := { frames := 7, cells := 0, slots := 0, locals := 152 }
def B_X3_readInto_15 (T : PS) (v4 : Int32) (S5 : PS) (U16 : PS) : Option ((Int32 × PS × PS) ⊕ (Int32 × PS × PS)) :=
  if 20 < v4 then
    some (.inr ((S5.1 1), S5, U16))
  else
  b3 (f_X3_readLine S5 T U16) fun v8 S9 U110 =>
  if v8 = 0 then
    some (.inr ((S9.1 1), S9, U110))
  else
  if (S9.1 3) = 0 then
    some (.inr ((-1), S9, U110))
  else
  if (S9.1 3) = 3 then
    b1 (f_X6_at T (S9.1 1)) fun v14 =>
    if v14 = 59 then
      b1 (
        if 20 ≤ v4 then
          some S9
        else
        b1 (f_X3_step S9 T) fun S18 =>
        some S18) fun S16 =>
      bn (v4 + 1) fun v19 =>
      some (.inl (v19, S16, U110))
    else
    some (.inr ((S9.1 1), S9, U110))
  else
  some (.inr ((S9.1 1), S9, U110))
def L_X3_readInto_15 (T : PS) (n : Nat) (v4 : Int32) (S5 : PS) (U16 : PS) : Option (Int32 × PS × PS) := loopF (fun x : Int32 × PS × PS => B_X3_readInto_15 T x.1 x.2.1 x.2.2) n (v4, S5, U16)
def f_X3_readInto (S : PS) (T : PS) (U1 : PS) : Option (Int32 × PS × PS) :=
  b1 (f_X2_clear U1) fun U11 =>
  bn (sI S 2 0) fun S2 =>
  b1 (f_X3_step S2 T) fun S3 =>
  L_X3_readInto_15 T FU 1 S3 U11
set_option maxHeartbeats 4000000 in
set_option maxRecDepth 100000 in
theorem c_X3_readInto (l : Launch) (D : va_G) (cs : CS) (ad ar : Nat → Nat) (a : Nat) (b1 : Nat) (q : Nat → Nat) (qT : Nat → Nat) (qU1 : Nat → Nat) (S : PS) (T : PS) (U1 : PS) (r : Int32) (S' : PS) (U1' : PS) (hf : f_X3_readInto S T U1 = some (r, S', U1')) : CTE l D (TY cs) ad ar yX3_readInto wsX3_readInto rmX3_readInto [.ref a, .ref b1] (wX3 cs a q S ++ wX6 cs (q 0) qT T ++ wX2 cs b1 qU1 U1) (some (.int r)) (wX3 cs a q S' ++ wX6 cs (q 0) qT T ++ wX2 cs b1 qU1 U1') := by
  refine CTE.ofW (own := RX3) (cc := cX3_readInto) (maxL := 3) (ret := some .int) (by decide) rfl rfl (Nat.le_of_ble_eq_true rfl) ?_
  intro p e s m args below meth c A Q hE X hret ls hl hw
  obtain ⟨hx, hb, hml, hown, hts, hK, hA, hr, hlk⟩ := id X
  have hl : lv_has ls 3 [(0, .ref a), (1, .ref b1)] := hl
  unfold f_X3_readInto at hf
  refine lv_aload_n (pc := 0) hx hb dX3_readInto_0 rfl (lv_at hl 1 rfl) ?_
  obtain ⟨U11, hc, hf⟩ := b1_ob hf
  refine x_cut (pc := 1) (wr := ([0, 1, 2].filterMap (fun i => (wX3 cs a q S ++ wX6 cs (q 0) qT T ++ wX2 cs b1 qU1 U1)[i]?))) (ws2 := wX3 cs a q S ++ wX6 cs (q 0) qT T ++ wX2 cs b1 qU1 U11) X hw [3, 4, 5, 6, 7, 8, 9, 10] [0, 1, 2] [0, 1, 2, 3, 4, 5, 6, 7, 8, 9, 10] rfl rfl (by decide) (by decide) rfl (by decide) (va_runV (As := []) (rest := []) ⟨hx, hb, hml, hown, hts⟩ (c_X2_clear l D cs b1 qU1 U1 U11 hc _) (cwV 0 hts gX3_readInto_X2_clear rfl rfl rfl (by decide +kernel) ⟨Nat.le_of_ble_eq_true rfl, Nat.le_of_ble_eq_true rfl⟩) ⟨CP_blind, va_recv hK hw.1 (ci := 2) (q0 := 3) rfl rfl, x_preC X hw [3, 4, 5, 6, 7, 8, 9, 10] rfl (by decide) [.ref b1]⟩ rfl rfl hl.1 rfl (lv_room (Nat.le_of_ble_eq_true rfl)) dX3_readInto_1 ⟨Nat.zero_le _, Nat.zero_le _⟩) (fun H locs hw => ?_)
  refine lv_aload_n (pc := 4) hx hb dX3_readInto_4 rfl (lv_at hl 0 rfl) ?_
  refine lv_iconst (pc := 5) (v := 0) hx hb dX3_readInto_5 (by decide) ?_
  obtain ⟨S2, eS2, hf⟩ := bn_ob hf
  refine x_put (pc := 6) X hw in_X3_readInto_X3 tyX3 tyX3_ok nmX3 0 rfl rfl 2 (by decide) (List.mem_of_getElem? (i := 1) rfl) rfl rfl rfl (Nat.le_of_ble_eq_true rfl) dX3_readInto_6 (ws2 := wX3 cs a q S2 ++ wX6 cs (q 0) qT T ++ wX2 cs b1 qU1 U11) (by rw [eS2]; rfl) (fun H locs hw => ?_)
  refine lv_aload_n (pc := 9) hx hb dX3_readInto_9 rfl (lv_at hl 0 rfl) ?_
  obtain ⟨S3, hc, hf⟩ := b1_ob hf
  refine x_cut (pc := 10) (wr := ([3, 4, 5, 6, 7, 8, 9, 10].filterMap (fun i => (wX3 cs a q S2 ++ wX6 cs (q 0) qT T ++ wX2 cs b1 qU1 U11)[i]?))) (ws2 := wX3 cs a q S3 ++ wX6 cs (q 0) qT T ++ wX2 cs b1 qU1 U11) X hw [0, 1, 2] [3, 4, 5, 6, 7, 8, 9, 10] [8, 9, 10, 0, 1, 2, 3, 4, 5, 6, 7] rfl rfl (by decide) (by decide) rfl (by decide) (va_runV (As := []) (rest := []) ⟨hx, hb, hml, hown, hts⟩ (c_X3_step l D cs a q qT S2 T S3 hc _) (cwV 0 hts gX3_readInto_X3_step rfl rfl rfl (by decide +kernel) ⟨Nat.le_of_ble_eq_true rfl, Nat.le_of_ble_eq_true rfl⟩) ⟨CP_blind, va_recv hK hw.1 (ci := 3) (q0 := 0) rfl rfl, x_preC X hw [0, 1, 2] rfl (by decide) [.ref a]⟩ rfl rfl hl.1 rfl (lv_room (Nat.le_of_ble_eq_true rfl)) dX3_readInto_10 ⟨Nat.zero_le _, Nat.zero_le _⟩) (fun H locs hw => ?_)
  refine lv_iconst (pc := 13) (v := 1) hx hb dX3_readInto_13 (by decide) ?_
  refine lv_istore_n (lv' := [(2, .int 1), (0, .ref a), (1, .ref b1)]) (pc := 14) hx hb dX3_readInto_14 rfl hl (by decide) rfl (fun ls hl => ?_)
  have L15 : ∀ (n : Nat) (v4 : Int32) (S5 : PS) (U16 : PS), L_X3_readInto_15 T n v4 S5 U16 = some (r, S', U1') → ∀ (H : Heap) (locs : List Loc) (ls : Array Slot), WD D A s (wX3 cs a q S5 ++ wX6 cs (q 0) qT T ++ wX2 cs b1 qU1 U16) H locs → lv_has ls 3 [(0, .ref a), (1, .ref b1), (2, .int v4)] → W p l e rmX3_readInto s m args below meth c H locs 0 0 Q (F0 m 15 ls []) := by
    intro n
    induction n with
    | zero => intro v4 S5 U16 hf; exact (loopF_z hf).elim
    | succ n ih =>
      intro v4 S5 U16 hf H locs ls hw hl
      obtain ⟨x, hf, hx0⟩ := loopF_ob hf
      have hf : B_X3_readInto_15 T v4 S5 U16 = some x := hf
      unfold B_X3_readInto_15 at hf
      refine lv_iload_n (pc := 15) hx hb dX3_readInto_15 rfl (lv_at hl 2 rfl) ?_
      refine lv_bipush (pc := 16) (v := 20) hx hb dX3_readInto_16 (by decide) ?_
      refine lv_icmp_gt (pc := 18) (tgt := 88) hx hb dX3_readInto_18 (by decide) (fun c7 => ?_) (fun c7 => ?_)
      · have hf := ipos c7 hf
        refine lv_aload_n (pc := 88) hx hb dX3_readInto_88 rfl (lv_at hl 0 rfl) ?_
        refine x_get (pc := 89) X hw in_X3_readInto_X3 0 rfl rfl 1 (by decide) (List.mem_of_getElem? (i := 2) rfl) rfl dX3_readInto_89 ?_
        cases hf
        cases (hx0 : ((S5.1 1), S5, U16) = (r, S', U1'))
        exact hret _ _ 92 _ hw ⟨_, rfl, rfl⟩ dX3_readInto_92
      · have hf := ineg c7 hf
        refine lv_aload_n (pc := 21) hx hb dX3_readInto_21 rfl (lv_at hl 0 rfl) ?_
        refine lv_aload_n (pc := 22) hx hb dX3_readInto_22 rfl (lv_at hl 1 rfl) ?_
        obtain ⟨v8, S9, U110, hc, hf⟩ := b3_ob hf
        refine x_all (pc := 23) X hw (va_runV (As := [.ref b1]) (rest := []) ⟨hx, hb, hml, hown, hts⟩ (c_X3_readLine l D cs ad ar a b1 q qT qU1 S5 T U16 v8 S9 U110 hc _) (cwV 1 hts gX3_readInto_X3_readLine rfl rfl rfl (by decide +kernel) ⟨Nat.le_of_ble_eq_true rfl, Nat.le_of_ble_eq_true rfl⟩) ⟨CPE_blind, va_recv hK hw.1 (ci := 3) (q0 := 0) rfl rfl, x_preAE X hE hw [.ref a, .ref b1]⟩ rfl rfl hl.1 rfl (lv_room (Nat.le_of_ble_eq_true rfl)) dX3_readInto_23 ⟨Nat.zero_le _, Nat.zero_le _⟩) (fun H locs hw => ?_)
        refine lv_if_ne (pc := 26) (tgt := 34) hx hb dX3_readInto_26 (by decide) (fun c11 => ?_) (fun c11 => ?_)
        · have hf := ineg c11 hf
          refine lv_aload_n (pc := 34) hx hb dX3_readInto_34 rfl (lv_at hl 0 rfl) ?_
          refine x_get (pc := 35) X hw in_X3_readInto_X3 0 rfl rfl 3 (by decide) (List.mem_of_getElem? (i := 3) rfl) rfl dX3_readInto_35 ?_
          refine lv_if_ne (pc := 38) (tgt := 43) hx hb dX3_readInto_38 (by decide) (fun c12 => ?_) (fun c12 => ?_)
          · have hf := ineg c12 hf
            refine lv_aload_n (pc := 43) hx hb dX3_readInto_43 rfl (lv_at hl 0 rfl) ?_
            refine x_get (pc := 44) X hw in_X3_readInto_X3 0 rfl rfl 3 (by decide) (List.mem_of_getElem? (i := 3) rfl) rfl dX3_readInto_44 ?_
            refine lv_iconst (pc := 47) (v := 3) hx hb dX3_readInto_47 (by decide) ?_
            refine lv_icmp_ne (pc := 48) (tgt := 67) hx hb dX3_readInto_48 (by decide) (fun c13 => ?_) (fun c13 => ?_)
            · have hf := ineg c13 hf
              refine lv_aload_n (pc := 67) hx hb dX3_readInto_67 rfl (lv_at hl 0 rfl) ?_
              refine x_get (pc := 68) X hw in_X3_readInto_X3 0 rfl rfl 1 (by decide) (List.mem_of_getElem? (i := 2) rfl) rfl dX3_readInto_68 ?_
              cases hf
              cases (hx0 : ((S9.1 1), S9, U110) = (r, S', U1'))
              exact hret _ _ 71 _ hw ⟨_, rfl, rfl⟩ dX3_readInto_71
            · have hf := ipos c13 hf
              refine lv_aload_n (pc := 51) hx hb dX3_readInto_51 rfl (lv_at hl 0 rfl) ?_
              refine x_get (pc := 52) X hw in_X3_readInto_X3 0 rfl rfl 0 (by decide) (List.mem_of_getElem? (i := 4) rfl) rfl dX3_readInto_52 ?_
              refine lv_aload_n (pc := 55) hx hb dX3_readInto_55 rfl (lv_at hl 0 rfl) ?_
              refine x_get (pc := 56) X hw in_X3_readInto_X3 0 rfl rfl 1 (by decide) (List.mem_of_getElem? (i := 2) rfl) rfl dX3_readInto_56 ?_
              obtain ⟨v14, hc, hf⟩ := b1_ob hf
              refine x_cut (pc := 59) (wr := ([0, 3, 4, 5, 6, 7, 8, 9, 10].filterMap (fun i => (wX3 cs a q S9 ++ wX6 cs (q 0) qT T ++ wX2 cs b1 qU1 U110)[i]?))) (ws2 := wX3 cs a q S9 ++ wX6 cs (q 0) qT T ++ wX2 cs b1 qU1 U110) X hw [1, 2] [0, 3, 4, 5, 6, 7, 8, 9, 10] [0, 9, 10, 1, 2, 3, 4, 5, 6, 7, 8] rfl rfl (by decide) (by decide) rfl (by decide) (va_runV (As := [.int (S9.1 1)]) (rest := []) ⟨hx, hb, hml, hown, hts⟩ (c_X6_at l D cs (q 0) qT T (S9.1 1) v14 hc _) (cwV 1 hts gX3_readInto_X6_at rfl rfl rfl (by decide +kernel) ⟨Nat.le_of_ble_eq_true rfl, Nat.le_of_ble_eq_true rfl⟩) ⟨CP_blind, va_recv hK hw.1 (ci := 6) (q0 := 1) rfl rfl, x_preC X hw [1, 2] rfl (by decide) [.ref (q 0), .int (S9.1 1)]⟩ rfl rfl hl.1 rfl (lv_room (Nat.le_of_ble_eq_true rfl)) dX3_readInto_59 ⟨Nat.zero_le _, Nat.zero_le _⟩) (fun H locs hw => ?_)
              refine lv_bipush (pc := 62) (v := 59) hx hb dX3_readInto_62 (by decide) ?_
              refine lv_icmp_eq (pc := 64) (tgt := 72) hx hb dX3_readInto_64 (by decide) (fun c15 => ?_) (fun c15 => ?_)
              · have hf := ipos c15 hf
                refine lv_iload_n (pc := 72) hx hb dX3_readInto_72 rfl (lv_at hl 2 rfl) ?_
                refine lv_bipush (pc := 73) (v := 20) hx hb dX3_readInto_73 (by decide) ?_
                obtain ⟨S16, hj, hf⟩ := b1_ob hf
                have J82_15 : ∀ (H : Heap) (locs : List Loc) (ls : Array Slot), WD D A s (wX3 cs a q S16 ++ wX6 cs (q 0) qT T ++ wX2 cs b1 qU1 U110) H locs → lv_has ls 3 [(0, .ref a), (1, .ref b1), (2, .int v4)] → W p l e rmX3_readInto s m args below meth c H locs 0 0 Q (F0 m 82 ls []) := by
                  intro H locs ls hw hl
                  obtain ⟨v19, ev19, hf⟩ := bn_ob hf
                  refine lv_iinc (pc := 82) (v := v19) (lv' := [(2, .int v19), (0, .ref a), (1, .ref b1)]) hx hb dX3_readInto_82 hl (k := 2) rfl (by rw [ev19]; rfl) (by decide) rfl (fun ls hl => ?_)
                  refine lv_goto (pc := 85) (tgt := 15) hx hb dX3_readInto_85 (by decide) ?_
                  cases hf
                  exact ih v19 S16 U110  hx0 _ _ _ hw (lv_sub hl [1, 2, 0] rfl)
                clear hf; have hf := hj; clear hj
                refine lv_icmp_ge (pc := 75) (tgt := 82) hx hb dX3_readInto_75 (by decide) (fun c17 => ?_) (fun c17 => ?_)
                · have hf := ipos c17 hf
                  cases hf
                  exact J82_15 _ _ _ hw (lv_sub hl [0, 1, 2] rfl)
                · have hf := ineg c17 hf
                  refine lv_aload_n (pc := 78) hx hb dX3_readInto_78 rfl (lv_at hl 0 rfl) ?_
                  obtain ⟨S18, hc, hf⟩ := b1_ob hf
                  refine x_cut (pc := 79) (wr := ([3, 4, 5, 6, 7, 8, 9, 10].filterMap (fun i => (wX3 cs a q S9 ++ wX6 cs (q 0) qT T ++ wX2 cs b1 qU1 U110)[i]?))) (ws2 := wX3 cs a q S18 ++ wX6 cs (q 0) qT T ++ wX2 cs b1 qU1 U110) X hw [0, 1, 2] [3, 4, 5, 6, 7, 8, 9, 10] [8, 9, 10, 0, 1, 2, 3, 4, 5, 6, 7] rfl rfl (by decide) (by decide) rfl (by decide) (va_runV (As := []) (rest := []) ⟨hx, hb, hml, hown, hts⟩ (c_X3_step l D cs a q qT S9 T S18 hc _) (cwV 0 hts gX3_readInto_X3_step rfl rfl rfl (by decide +kernel) ⟨Nat.le_of_ble_eq_true rfl, Nat.le_of_ble_eq_true rfl⟩) ⟨CP_blind, va_recv hK hw.1 (ci := 3) (q0 := 0) rfl rfl, x_preC X hw [0, 1, 2] rfl (by decide) [.ref a]⟩ rfl rfl hl.1 rfl (lv_room (Nat.le_of_ble_eq_true rfl)) dX3_readInto_79 ⟨Nat.zero_le _, Nat.zero_le _⟩) (fun H locs hw => ?_)
                  cases hf
                  exact J82_15 _ _ _ hw (lv_sub hl [0, 1, 2] rfl)
              · have hf := ineg c15 hf
                refine lv_aload_n (pc := 67) hx hb dX3_readInto_67 rfl (lv_at hl 0 rfl) ?_
                refine x_get (pc := 68) X hw in_X3_readInto_X3 0 rfl rfl 1 (by decide) (List.mem_of_getElem? (i := 2) rfl) rfl dX3_readInto_68 ?_
                cases hf
                cases (hx0 : ((S9.1 1), S9, U110) = (r, S', U1'))
                exact hret _ _ 71 _ hw ⟨_, rfl, rfl⟩ dX3_readInto_71
          · have hf := ipos c12 hf
            refine lv_iconst (pc := 41) (v := (-1)) hx hb dX3_readInto_41 (by decide) ?_
            cases hf
            cases (hx0 : ((-1), S9, U110) = (r, S', U1'))
            exact hret _ _ 42 _ hw ⟨_, rfl, rfl⟩ dX3_readInto_42
        · have hf := ipos c11 hf
          refine lv_aload_n (pc := 29) hx hb dX3_readInto_29 rfl (lv_at hl 0 rfl) ?_
          refine x_get (pc := 30) X hw in_X3_readInto_X3 0 rfl rfl 1 (by decide) (List.mem_of_getElem? (i := 2) rfl) rfl dX3_readInto_30 ?_
          cases hf
          cases (hx0 : ((S9.1 1), S9, U110) = (r, S', U1'))
          exact hret _ _ 33 _ hw ⟨_, rfl, rfl⟩ dX3_readInto_33
  exact L15 _ 1 S3 U11 hf _ _ _ hw (lv_sub hl [1, 2, 0] rfl)

theorem in_X9_fault_X9 : ∀ w ∈ wsX90, w ∈ wsX9_fault := fun _ h => List.mem_cons_of_mem _ (List.mem_append_left _ (List.mem_append_left _ (List.mem_append_left _ (List.mem_append_right _ h))))
theorem in_X9_fault_X3 : ∀ w ∈ wsX30, w ∈ wsX9_fault := fun _ h => List.mem_cons_of_mem _ (List.mem_append_left _ (List.mem_append_left _ (List.mem_append_right _ h)))
theorem in_X9_fault_X2 : ∀ w ∈ wsX20, w ∈ wsX9_fault := fun _ h => List.mem_cons_of_mem _ (List.mem_append_left _ (List.mem_append_right _ h))
theorem in_X9_fault_X6 : ∀ w ∈ wsX60, w ∈ wsX9_fault := fun _ h => List.mem_cons_of_mem _ (List.mem_append_right _ h)
abbrev rmX9_fault : Room := { frames := 8, cells := 0, slots := 0, locals := 174 }
def f_X9_fault (R : PS) (T : PS) (Dr : PS) : Option (Int32 × PS × PS) :=
  b3 (f_X3_readInto R T Dr) fun v1 R2 Dr3 =>
  some (v1, R2, Dr3)
set_option maxHeartbeats 4000000 in
set_option maxRecDepth 100000 in
theorem c_X9_fault (l : Launch) (D : va_G) (cs : CS) (ad ar : Nat → Nat) (a : Nat) (q : Nat → Nat) (qT : Nat → Nat) (qDr : Nat → Nat) (R : PS) (T : PS) (Dr : PS) (r : Int32) (R' : PS) (Dr' : PS) (hf : f_X9_fault R T Dr = some (r, R', Dr')) : CTE l D (TY cs) ad ar yX9_fault wsX9_fault rmX9_fault [.ref a] (wX9 cs a q ++ wX3 cs (q 1) (fun _ => q 0) R ++ wX6 cs (q 0) qT T ++ wX2 cs (q 3) qDr Dr) (some (.int r)) (wX9 cs a q ++ wX3 cs (q 1) (fun _ => q 0) R' ++ wX6 cs (q 0) qT T ++ wX2 cs (q 3) qDr Dr') := by
  refine CTE.ofW (own := RX9) (cc := cX9_fault) (maxL := 1) (ret := some .int) (by decide) rfl rfl (Nat.le_of_ble_eq_true rfl) ?_
  intro p e s m args below meth c A Q hE X hret ls hl hw
  obtain ⟨hx, hb, hml, hown, hts, hK, hA, hr, hlk⟩ := id X
  have hl : lv_has ls 1 [(0, .ref a)] := hl
  unfold f_X9_fault at hf
  refine lv_aload_n (pc := 0) hx hb dX9_fault_0 rfl (lv_at hl 0 rfl) ?_
  refine x_get (pc := 1) X hw in_X9_fault_X9 0 rfl rfl 1 (by decide) (List.mem_of_getElem? (i := 1) rfl) rfl dX9_fault_1 ?_
  refine lv_aload_n (pc := 4) hx hb dX9_fault_4 rfl (lv_at hl 0 rfl) ?_
  refine x_get (pc := 5) X hw in_X9_fault_X9 0 rfl rfl 3 (by decide) (List.mem_of_getElem? (i := 2) rfl) rfl dX9_fault_5 ?_
  obtain ⟨v1, R2, Dr3, hc, hf⟩ := b3_ob hf
  refine x_cut (pc := 8) (wr := ([0].filterMap (fun i => (wX9 cs a q ++ wX3 cs (q 1) (fun _ => q 0) R ++ wX6 cs (q 0) qT T ++ wX2 cs (q 3) qDr Dr)[i]?))) (ws2 := wX9 cs a q ++ wX3 cs (q 1) (fun _ => q 0) R2 ++ wX6 cs (q 0) qT T ++ wX2 cs (q 3) qDr Dr3) X hw [1, 2, 3, 4, 5, 6, 7, 8, 9, 10, 11] [0] [0, 1, 2, 3, 4, 5, 6, 7, 8, 9, 10, 11] rfl rfl (by decide) (by decide) rfl (by decide) (va_runV (As := [.ref (q 3)]) (rest := []) ⟨hx, hb, hml, hown, hts⟩ (c_X3_readInto l D cs ad ar (q 1) (q 3) (fun _ => q 0) qT qDr R T Dr v1 R2 Dr3 hc _) (cwV 1 hts gX9_fault_X3_readInto rfl rfl rfl (by decide +kernel) ⟨Nat.le_of_ble_eq_true rfl, Nat.le_of_ble_eq_true rfl⟩) ⟨CPE_blind, va_recv hK hw.1 (ci := 3) (q0 := 1) rfl rfl, x_preCE X hE hw [1, 2, 3, 4, 5, 6, 7, 8, 9, 10, 11] rfl (by decide) [.ref (q 1), .ref (q 3)]⟩ rfl rfl hl.1 rfl (lv_room (Nat.le_of_ble_eq_true rfl)) dX9_fault_8 ⟨Nat.zero_le _, Nat.zero_le _⟩) (fun H locs hw => ?_)
  cases hf
  exact hret _ _ 11 _ hw ⟨_, rfl, rfl⟩ dX9_fault_11
