theorem in_X10_expect_X10 : ∀ w ∈ wsX100, w ∈ wsX10_expect := fun _ h => List.mem_cons_of_mem _ (List.mem_append_right _ h)
abbrev rmX10_expect : Room := { frames := 2, cells := 0, slots := 0, locals := 55 }
def f_X10_expect (S : PS) (p1 : Int32) (p2 : Int32) (p3 : Int32) (p4 : Int32) : Option (Int32) :=
  b1 (f_X10_in (p1.toInt64) 0 1) fun v1 =>
  if v1 = 0 then
    some (-3)
  else
  b1 (f_X10_areKnots S p2) fun v3 =>
  if v3 = 0 then
    some (-3)
  else
  b1 (f_X10_areKnots S p3) fun v5 =>
  if v5 = 0 then
    some (-3)
  else
  if (p3 &&& (p2 ^^^ (-1))) = 0 then
    b1 (f_X10_isPart p4) fun v8 =>
    if v8 = 0 then
      some (-3)
    else
    b1 (f_X10_sumOf S p1 p2 p3) fun v10 =>
    b1 (f_X10_bits p2) fun v11 =>
    b1 (f_X10_partOf (v10.toInt64) ((1 : Int64) <<< (((S.1 14) - v11).toInt64 &&& 63)) p4) fun v12 =>
    some v12
  else
  some (-3)
set_option maxHeartbeats 4000000 in
set_option maxRecDepth 100000 in
theorem c_X10_expect (l : Launch) (D : va_G) (cs : CS) (a : Nat) (q : Nat → Nat) (S : PS) (p1 : Int32) (p2 : Int32) (p3 : Int32) (p4 : Int32) (r : Int32) (hf : f_X10_expect S p1 p2 p3 p4 = some r) : CT l D (TY cs) yX10_expect wsX10_expect rmX10_expect [.ref a, .int p1, .int p2, .int p3, .int p4] (wX10 cs a q S) (some (.int r)) (wX10 cs a q S) := by
  refine CT.ofW (own := RX10) (cc := cX10_expect) (maxL := 5) (ret := some .int) (by decide) rfl rfl (Nat.le_of_ble_eq_true rfl) ?_
  intro p e s m args below meth c A Q X hret ls hl hw
  obtain ⟨hx, hb, hml, hown, hts, hK, hA, hr, hlk⟩ := id X
  have hl : lv_has ls 5 [(0, .ref a), (1, .int p1), (2, .int p2), (3, .int p3), (4, .int p4)] := hl
  unfold f_X10_expect at hf
  refine lv_iload_n (pc := 0) hx hb dX10_expect_0 rfl (lv_at hl 1 rfl) ?_
  refine lv_i2l (pc := 1) hx hb dX10_expect_1 rfl ?_
  refine lv_lconst (pc := 2) (v := 0) hx hb dX10_expect_2 (by decide) ?_
  refine lv_lconst (pc := 3) (v := 1) hx hb dX10_expect_3 (by decide) ?_
  obtain ⟨v1, hc, hf⟩ := b1_ob hf
  refine x_nil (pc := 4) X hw (va_runS (As := [.long (p1.toInt64), .long 0, .long 1]) (rest := []) ⟨hx, hb, hml, hown, hts⟩ (c_X10_in l D cs (p1.toInt64) 0 1 v1 hc _) (va_cwS 3 hts gX10_expect_X10_in rfl rfl rfl (by decide +kernel) ⟨Nat.le_of_ble_eq_true rfl, Nat.le_of_ble_eq_true rfl⟩) ⟨CP_blind, x_preN X [.long (p1.toInt64), .long 0, .long 1]⟩ rfl rfl hl.1 rfl (lv_room (Nat.le_of_ble_eq_true rfl)) dX10_expect_4 ⟨Nat.zero_le _, Nat.zero_le _⟩) (fun H locs hw => ?_)
  refine lv_if_eq (pc := 7) (tgt := 42) hx hb dX10_expect_7 (by decide) (fun c2 => ?_) (fun c2 => ?_)
  · have hf := ipos c2 hf
    refine lv_bipush (pc := 42) (v := (-3)) hx hb dX10_expect_42 (by decide) ?_
    cases hf
    exact hret _ _ 44 _ hw ⟨_, rfl, rfl⟩ dX10_expect_44
  · have hf := ineg c2 hf
    refine lv_aload_n (pc := 10) hx hb dX10_expect_10 rfl (lv_at hl 0 rfl) ?_
    refine lv_iload_n (pc := 11) hx hb dX10_expect_11 rfl (lv_at hl 2 rfl) ?_
    obtain ⟨v3, hc, hf⟩ := b1_ob hf
    refine x_all (pc := 12) X hw (va_runV (As := [.int p2]) (rest := []) ⟨hx, hb, hml, hown, hts⟩ (c_X10_areKnots l D cs a q S p2 v3 hc _) (cwV 1 hts gX10_expect_X10_areKnots rfl rfl rfl (by decide +kernel) ⟨Nat.le_of_ble_eq_true rfl, Nat.le_of_ble_eq_true rfl⟩) ⟨CP_blind, va_recv hK hw.1 (ci := 10) (q0 := 0) rfl rfl, x_preA X hw [.ref a, .int p2]⟩ rfl rfl hl.1 rfl (lv_room (Nat.le_of_ble_eq_true rfl)) dX10_expect_12 ⟨Nat.zero_le _, Nat.zero_le _⟩) (fun H locs hw => ?_)
    refine lv_if_eq (pc := 15) (tgt := 42) hx hb dX10_expect_15 (by decide) (fun c4 => ?_) (fun c4 => ?_)
    · have hf := ipos c4 hf
      refine lv_bipush (pc := 42) (v := (-3)) hx hb dX10_expect_42 (by decide) ?_
      cases hf
      exact hret _ _ 44 _ hw ⟨_, rfl, rfl⟩ dX10_expect_44
    · have hf := ineg c4 hf
      refine lv_aload_n (pc := 18) hx hb dX10_expect_18 rfl (lv_at hl 0 rfl) ?_
      refine lv_iload_n (pc := 19) hx hb dX10_expect_19 rfl (lv_at hl 3 rfl) ?_
      obtain ⟨v5, hc, hf⟩ := b1_ob hf
      refine x_all (pc := 20) X hw (va_runV (As := [.int p3]) (rest := []) ⟨hx, hb, hml, hown, hts⟩ (c_X10_areKnots l D cs a q S p3 v5 hc _) (cwV 1 hts gX10_expect_X10_areKnots rfl rfl rfl (by decide +kernel) ⟨Nat.le_of_ble_eq_true rfl, Nat.le_of_ble_eq_true rfl⟩) ⟨CP_blind, va_recv hK hw.1 (ci := 10) (q0 := 0) rfl rfl, x_preA X hw [.ref a, .int p3]⟩ rfl rfl hl.1 rfl (lv_room (Nat.le_of_ble_eq_true rfl)) dX10_expect_20 ⟨Nat.zero_le _, Nat.zero_le _⟩) (fun H locs hw => ?_)
      refine lv_if_eq (pc := 23) (tgt := 42) hx hb dX10_expect_23 (by decide) (fun c6 => ?_) (fun c6 => ?_)
      · have hf := ipos c6 hf
        refine lv_bipush (pc := 42) (v := (-3)) hx hb dX10_expect_42 (by decide) ?_
        cases hf
        exact hret _ _ 44 _ hw ⟨_, rfl, rfl⟩ dX10_expect_44
      · have hf := ineg c6 hf
        refine lv_iload_n (pc := 26) hx hb dX10_expect_26 rfl (lv_at hl 3 rfl) ?_
        refine lv_iload_n (pc := 27) hx hb dX10_expect_27 rfl (lv_at hl 2 rfl) ?_
        refine lv_iconst (pc := 28) (v := (-1)) hx hb dX10_expect_28 (by decide) ?_
        refine lv_ixor (pc := 29) hx hb dX10_expect_29 ?_
        refine lv_iand (pc := 30) hx hb dX10_expect_30 ?_
        refine lv_if_ne (pc := 31) (tgt := 42) hx hb dX10_expect_31 (by decide) (fun c7 => ?_) (fun c7 => ?_)
        · have hf := ineg c7 hf
          refine lv_bipush (pc := 42) (v := (-3)) hx hb dX10_expect_42 (by decide) ?_
          cases hf
          exact hret _ _ 44 _ hw ⟨_, rfl, rfl⟩ dX10_expect_44
        · have hf := ipos c7 hf
          refine lv_iload (pc := 34) hx hb dX10_expect_34 (lv_at hl 4 rfl) ?_
          obtain ⟨v8, hc, hf⟩ := b1_ob hf
          refine x_nil (pc := 36) X hw (va_runS (As := [.int p4]) (rest := []) ⟨hx, hb, hml, hown, hts⟩ (c_X10_isPart l D cs p4 v8 hc _) (va_cwS 1 hts gX10_expect_X10_isPart rfl rfl rfl (by decide +kernel) ⟨Nat.le_of_ble_eq_true rfl, Nat.le_of_ble_eq_true rfl⟩) ⟨CP_blind, x_preN X [.int p4]⟩ rfl rfl hl.1 rfl (lv_room (Nat.le_of_ble_eq_true rfl)) dX10_expect_36 ⟨Nat.zero_le _, Nat.zero_le _⟩) (fun H locs hw => ?_)
          refine lv_if_ne (pc := 39) (tgt := 45) hx hb dX10_expect_39 (by decide) (fun c9 => ?_) (fun c9 => ?_)
          · have hf := ineg c9 hf
            refine lv_aload_n (pc := 45) hx hb dX10_expect_45 rfl (lv_at hl 0 rfl) ?_
            refine lv_iload_n (pc := 46) hx hb dX10_expect_46 rfl (lv_at hl 1 rfl) ?_
            refine lv_iload_n (pc := 47) hx hb dX10_expect_47 rfl (lv_at hl 2 rfl) ?_
            refine lv_iload_n (pc := 48) hx hb dX10_expect_48 rfl (lv_at hl 3 rfl) ?_
            obtain ⟨v10, hc, hf⟩ := b1_ob hf
            refine x_all (pc := 49) X hw (va_runV (As := [.int p1, .int p2, .int p3]) (rest := []) ⟨hx, hb, hml, hown, hts⟩ (c_X10_sumOf l D cs a q S p1 p2 p3 v10 hc _) (cwV 3 hts gX10_expect_X10_sumOf rfl rfl rfl (by decide +kernel) ⟨Nat.le_of_ble_eq_true rfl, Nat.le_of_ble_eq_true rfl⟩) ⟨CP_blind, va_recv hK hw.1 (ci := 10) (q0 := 0) rfl rfl, x_preA X hw [.ref a, .int p1, .int p2, .int p3]⟩ rfl rfl hl.1 rfl (lv_room (Nat.le_of_ble_eq_true rfl)) dX10_expect_49 ⟨Nat.zero_le _, Nat.zero_le _⟩) (fun H locs hw => ?_)
            refine lv_i2l (pc := 52) hx hb dX10_expect_52 rfl ?_
            refine lv_lconst (pc := 53) (v := 1) hx hb dX10_expect_53 (by decide) ?_
            refine lv_aload_n (pc := 54) hx hb dX10_expect_54 rfl (lv_at hl 0 rfl) ?_
            refine x_get (pc := 55) X hw in_X10_expect_X10 0 rfl rfl 14 (by decide) (List.mem_of_getElem? (i := 1) rfl) rfl dX10_expect_55 ?_
            refine lv_iload_n (pc := 58) hx hb dX10_expect_58 rfl (lv_at hl 2 rfl) ?_
            obtain ⟨v11, hc, hf⟩ := b1_ob hf
            refine x_nil (pc := 59) X hw (va_runS (As := [.int p2]) (rest := [.int (S.1 14), .long 1, .long (v10.toInt64)]) ⟨hx, hb, hml, hown, hts⟩ (c_X10_bits l D cs p2 v11 hc _) (va_cwS 1 hts gX10_expect_X10_bits rfl rfl rfl (by decide +kernel) ⟨Nat.le_of_ble_eq_true rfl, Nat.le_of_ble_eq_true rfl⟩) ⟨CP_blind, x_preN X [.int p2]⟩ rfl rfl hl.1 rfl (lv_room (Nat.le_of_ble_eq_true rfl)) dX10_expect_59 ⟨Nat.zero_le _, Nat.zero_le _⟩) (fun H locs hw => ?_)
            refine lv_isub (pc := 62) hx hb dX10_expect_62 ?_
            refine lv_lshl (pc := 63) hx hb dX10_expect_63 rfl ?_
            refine lv_iload (pc := 64) hx hb dX10_expect_64 (lv_at hl 4 rfl) ?_
            obtain ⟨v12, hc, hf⟩ := b1_ob hf
            refine x_nil (pc := 66) X hw (va_runS (As := [.long (v10.toInt64), .long ((1 : Int64) <<< (((S.1 14) - v11).toInt64 &&& 63)), .int p4]) (rest := []) ⟨hx, hb, hml, hown, hts⟩ (c_X10_partOf l D cs (v10.toInt64) ((1 : Int64) <<< (((S.1 14) - v11).toInt64 &&& 63)) p4 v12 hc _) (va_cwS 3 hts gX10_expect_X10_partOf rfl rfl rfl (by decide +kernel) ⟨Nat.le_of_ble_eq_true rfl, Nat.le_of_ble_eq_true rfl⟩) ⟨CP_blind, x_preN X [.long (v10.toInt64), .long ((1 : Int64) <<< (((S.1 14) - v11).toInt64 &&& 63)), .int p4]⟩ rfl rfl hl.1 rfl (lv_room (Nat.le_of_ble_eq_true rfl)) dX10_expect_66 ⟨Nat.zero_le _, Nat.zero_le _⟩) (fun H locs hw => ?_)
            cases hf
            exact hret _ _ 69 _ hw ⟨_, rfl, rfl⟩ dX10_expect_69
          · have hf := ipos c9 hf
            refine lv_bipush (pc := 42) (v := (-3)) hx hb dX10_expect_42 (by decide) ?_
            cases hf
            exact hret _ _ 44 _ hw ⟨_, rfl, rfl⟩ dX10_expect_44

theorem in_X10_byMeans_X10 : ∀ w ∈ wsX100, w ∈ wsX10_byMeans := fun _ h => List.mem_cons_of_mem _ (List.mem_append_right _ h)
abbrev rmX10_byMeans : Room := { frames := 2, cells := 0, slots := 0, locals := 49 }
def B_X10_byMeans_17 (S : PS) (p1 : Int32) (v3 : Int32) (v4 : Int32) : Option ((Int32 × Int32) ⊕ (Int32)) :=
  if (S.1 14) ≤ v4 then
    some (.inr v3)
  else
  bn (((2 : Int32) <<< (v4 &&& 31)) - 1) fun v6 =>
  b1 (f_X10_sumOf S p1 v6 v3) fun v7 =>
  b1 (f_X10_sumOf S p1 v6 (v3 ||| ((1 : Int32) <<< (v4 &&& 31)))) fun v8 =>
  b1 (
    if p1 = 0 then
      if v8 ≤ v7 then
        some (0 : Int32)
      else
      some ((1 : Int32) <<< (v4 &&& 31))
    else
    if v7 ≤ v8 then
      some (0 : Int32)
    else
    some ((1 : Int32) <<< (v4 &&& 31))) fun v9 =>
  bn (v3 ||| v9) fun v13 =>
  bn (v4 + 1) fun v14 =>
  some (.inl (v13, v14))
def L_X10_byMeans_17 (S : PS) (p1 : Int32) (n : Nat) (v3 : Int32) (v4 : Int32) : Option (Int32) := loopF (fun x : Int32 × Int32 => B_X10_byMeans_17 S p1 x.1 x.2) n (v3, v4)
def f_X10_byMeans (S : PS) (p1 : Int32) : Option (Int32) :=
  b1 (f_X10_in (p1.toInt64) 0 1) fun v1 =>
  if v1 = 0 then
    some (-3)
  else
  b1 (L_X10_byMeans_17 S p1 FU 0 0) fun v15 =>
  some v15
set_option maxHeartbeats 4000000 in
set_option maxRecDepth 100000 in
theorem c_X10_byMeans (l : Launch) (D : va_G) (cs : CS) (a : Nat) (q : Nat → Nat) (S : PS) (p1 : Int32) (r : Int32) (hf : f_X10_byMeans S p1 = some r) : CT l D (TY cs) yX10_byMeans wsX10_byMeans rmX10_byMeans [.ref a, .int p1] (wX10 cs a q S) (some (.int r)) (wX10 cs a q S) := by
  refine CT.ofW (own := RX10) (cc := cX10_byMeans) (maxL := 7) (ret := some .int) (by decide) rfl rfl (Nat.le_of_ble_eq_true rfl) ?_
  intro p e s m args below meth c A Q X hret ls hl hw
  obtain ⟨hx, hb, hml, hown, hts, hK, hA, hr, hlk⟩ := id X
  have hl : lv_has ls 7 [(0, .ref a), (1, .int p1)] := hl
  unfold f_X10_byMeans at hf
  refine lv_iload_n (pc := 0) hx hb dX10_byMeans_0 rfl (lv_at hl 1 rfl) ?_
  refine lv_i2l (pc := 1) hx hb dX10_byMeans_1 rfl ?_
  refine lv_lconst (pc := 2) (v := 0) hx hb dX10_byMeans_2 (by decide) ?_
  refine lv_lconst (pc := 3) (v := 1) hx hb dX10_byMeans_3 (by decide) ?_
  obtain ⟨v1, hc, hf⟩ := b1_ob hf
  refine x_nil (pc := 4) X hw (va_runS (As := [.long (p1.toInt64), .long 0, .long 1]) (rest := []) ⟨hx, hb, hml, hown, hts⟩ (c_X10_in l D cs (p1.toInt64) 0 1 v1 hc _) (va_cwS 3 hts gX10_byMeans_X10_in rfl rfl rfl (by decide +kernel) ⟨Nat.le_of_ble_eq_true rfl, Nat.le_of_ble_eq_true rfl⟩) ⟨CP_blind, x_preN X [.long (p1.toInt64), .long 0, .long 1]⟩ rfl rfl hl.1 rfl (lv_room (Nat.le_of_ble_eq_true rfl)) dX10_byMeans_4 ⟨Nat.zero_le _, Nat.zero_le _⟩) (fun H locs hw => ?_)
  refine lv_if_ne (pc := 7) (tgt := 13) hx hb dX10_byMeans_7 (by decide) (fun c2 => ?_) (fun c2 => ?_)
  · have hf := ineg c2 hf
    refine lv_iconst (pc := 13) (v := 0) hx hb dX10_byMeans_13 (by decide) ?_
    refine lv_istore_n (lv' := [(2, .int 0), (0, .ref a), (1, .int p1)]) (pc := 14) hx hb dX10_byMeans_14 rfl hl (by decide) rfl (fun ls hl => ?_)
    refine lv_iconst (pc := 15) (v := 0) hx hb dX10_byMeans_15 (by decide) ?_
    refine lv_istore_n (lv' := [(3, .int 0), (2, .int 0), (0, .ref a), (1, .int p1)]) (pc := 16) hx hb dX10_byMeans_16 rfl hl (by decide) rfl (fun ls hl => ?_)
    have L17 : ∀ (n : Nat) (v3 : Int32) (v4 : Int32) (rv3 : Int32), L_X10_byMeans_17 S p1 n v3 v4 = some rv3 → ∀ (H : Heap) (locs : List Loc) (ls : Array Slot), WD D A s (wX10 cs a q S) H locs → lv_has ls 7 [(0, .ref a), (1, .int p1), (2, .int v3), (3, .int v4)] → (∀ (H : Heap) (locs : List Loc) (ls : Array Slot), WD D A s (wX10 cs a q S) H locs → lv_has ls 7 [(2, .int rv3)] → W p l e rmX10_byMeans s m args below meth c H locs 0 0 Q (F0 m 93 ls [])) → W p l e rmX10_byMeans s m args below meth c H locs 0 0 Q (F0 m 17 ls []) := by
      intro n
      induction n with
      | zero => intro v3 v4 rv3 hf; exact (loopF_z hf).elim
      | succ n ih =>
        intro v3 v4 rv3 hf H locs ls hw hl K
        obtain ⟨x, hf, hx0⟩ := loopF_ob hf
        have hf : B_X10_byMeans_17 S p1 v3 v4 = some x := hf
        unfold B_X10_byMeans_17 at hf
        refine lv_iload_n (pc := 17) hx hb dX10_byMeans_17 rfl (lv_at hl 3 rfl) ?_
        refine lv_aload_n (pc := 18) hx hb dX10_byMeans_18 rfl (lv_at hl 0 rfl) ?_
        refine x_get (pc := 19) X hw in_X10_byMeans_X10 0 rfl rfl 14 (by decide) (List.mem_of_getElem? (i := 1) rfl) rfl dX10_byMeans_19 ?_
        refine lv_icmp_ge (pc := 22) (tgt := 93) hx hb dX10_byMeans_22 (by decide) (fun c5 => ?_) (fun c5 => ?_)
        · have hf := ipos c5 hf
          cases hf
          cases (hx0 : v3 = rv3)
          exact K _ _ _ hw (lv_sub hl [2] rfl)
        · have hf := ineg c5 hf
          refine lv_iconst (pc := 25) (v := 2) hx hb dX10_byMeans_25 (by decide) ?_
          refine lv_iload_n (pc := 26) hx hb dX10_byMeans_26 rfl (lv_at hl 3 rfl) ?_
          refine lv_ishl (pc := 27) hx hb dX10_byMeans_27 ?_
          refine lv_iconst (pc := 28) (v := 1) hx hb dX10_byMeans_28 (by decide) ?_
          refine lv_isub (pc := 29) hx hb dX10_byMeans_29 ?_
          obtain ⟨v6, ev6, hf⟩ := bn_ob hf
          refine x_topi ev6 ?_
          refine lv_istore (lv' := [(4, .int v6), (0, .ref a), (1, .int p1), (2, .int v3), (3, .int v4)]) (pc := 30) hx hb dX10_byMeans_30 hl (by decide) rfl (fun ls hl => ?_)
          refine lv_aload_n (pc := 32) hx hb dX10_byMeans_32 rfl (lv_at hl 1 rfl) ?_
          refine lv_iload_n (pc := 33) hx hb dX10_byMeans_33 rfl (lv_at hl 2 rfl) ?_
          refine lv_iload (pc := 34) hx hb dX10_byMeans_34 (lv_at hl 0 rfl) ?_
          refine lv_iload_n (pc := 36) hx hb dX10_byMeans_36 rfl (lv_at hl 3 rfl) ?_
          obtain ⟨v7, hc, hf⟩ := b1_ob hf
          refine x_all (pc := 37) X hw (va_runV (As := [.int p1, .int v6, .int v3]) (rest := []) ⟨hx, hb, hml, hown, hts⟩ (c_X10_sumOf l D cs a q S p1 v6 v3 v7 hc _) (cwV 3 hts gX10_byMeans_X10_sumOf rfl rfl rfl (by decide +kernel) ⟨Nat.le_of_ble_eq_true rfl, Nat.le_of_ble_eq_true rfl⟩) ⟨CP_blind, va_recv hK hw.1 (ci := 10) (q0 := 0) rfl rfl, x_preA X hw [.ref a, .int p1, .int v6, .int v3]⟩ rfl rfl hl.1 rfl (lv_room (Nat.le_of_ble_eq_true rfl)) dX10_byMeans_37 ⟨Nat.zero_le _, Nat.zero_le _⟩) (fun H locs hw => ?_)
          refine lv_istore (lv' := [(5, .int v7), (4, .int v6), (0, .ref a), (1, .int p1), (2, .int v3), (3, .int v4)]) (pc := 40) hx hb dX10_byMeans_40 hl (by decide) rfl (fun ls hl => ?_)
          refine lv_aload_n (pc := 42) hx hb dX10_byMeans_42 rfl (lv_at hl 2 rfl) ?_
          refine lv_iload_n (pc := 43) hx hb dX10_byMeans_43 rfl (lv_at hl 3 rfl) ?_
          refine lv_iload (pc := 44) hx hb dX10_byMeans_44 (lv_at hl 1 rfl) ?_
          refine lv_iload_n (pc := 46) hx hb dX10_byMeans_46 rfl (lv_at hl 4 rfl) ?_
          refine lv_iconst (pc := 47) (v := 1) hx hb dX10_byMeans_47 (by decide) ?_
          refine lv_iload_n (pc := 48) hx hb dX10_byMeans_48 rfl (lv_at hl 5 rfl) ?_
          refine lv_ishl (pc := 49) hx hb dX10_byMeans_49 ?_
          refine lv_ior (pc := 50) hx hb dX10_byMeans_50 ?_
          obtain ⟨v8, hc, hf⟩ := b1_ob hf
          refine x_all (pc := 51) X hw (va_runV (As := [.int p1, .int v6, .int (v3 ||| ((1 : Int32) <<< (v4 &&& 31)))]) (rest := []) ⟨hx, hb, hml, hown, hts⟩ (c_X10_sumOf l D cs a q S p1 v6 (v3 ||| ((1 : Int32) <<< (v4 &&& 31))) v8 hc _) (cwV 3 hts gX10_byMeans_X10_sumOf rfl rfl rfl (by decide +kernel) ⟨Nat.le_of_ble_eq_true rfl, Nat.le_of_ble_eq_true rfl⟩) ⟨CP_blind, va_recv hK hw.1 (ci := 10) (q0 := 0) rfl rfl, x_preA X hw [.ref a, .int p1, .int v6, .int (v3 ||| ((1 : Int32) <<< (v4 &&& 31)))]⟩ rfl rfl hl.1 rfl (lv_room (Nat.le_of_ble_eq_true rfl)) dX10_byMeans_51 ⟨Nat.zero_le _, Nat.zero_le _⟩) (fun H locs hw => ?_)
          refine lv_istore (lv' := [(6, .int v8), (5, .int v7), (4, .int v6), (0, .ref a), (1, .int p1), (2, .int v3), (3, .int v4)]) (pc := 54) hx hb dX10_byMeans_54 hl (by decide) rfl (fun ls hl => ?_)
          refine lv_iload_n (pc := 56) hx hb dX10_byMeans_56 rfl (lv_at hl 5 rfl) ?_
          refine lv_iload_n (pc := 57) hx hb dX10_byMeans_57 rfl (lv_at hl 4 rfl) ?_
          obtain ⟨v9, hj, hf⟩ := b1_ob hf
          have J85_8 : ∀ (H : Heap) (locs : List Loc) (ls : Array Slot), WD D A s (wX10 cs a q S) H locs → lv_has ls 7 [(0, .ref a), (1, .int p1), (3, .int v4)] → W p l e rmX10_byMeans s m args below meth c H locs 0 0 Q (F0 m 85 ls [.int v9, .int v3]) := by
            intro H locs ls hw hl
            refine lv_ior (pc := 85) hx hb dX10_byMeans_85 ?_
            obtain ⟨v13, ev13, hf⟩ := bn_ob hf
            refine x_topi ev13 ?_
            refine lv_istore_n (lv' := [(2, .int v13), (0, .ref a), (1, .int p1), (3, .int v4)]) (pc := 86) hx hb dX10_byMeans_86 rfl hl (by decide) rfl (fun ls hl => ?_)
            obtain ⟨v14, ev14, hf⟩ := bn_ob hf
            refine lv_iinc (pc := 87) (v := v14) (lv' := [(3, .int v14), (2, .int v13), (0, .ref a), (1, .int p1)]) hx hb dX10_byMeans_87 hl (k := 3) rfl (by rw [ev14]; rfl) (by decide) rfl (fun ls hl => ?_)
            refine lv_goto (pc := 90) (tgt := 17) hx hb dX10_byMeans_90 (by decide) ?_
            cases hf
            exact ih v13 v14 rv3 hx0 _ _ _ hw (lv_sub hl [2, 3, 1, 0] rfl) K
          clear hf; have hf := hj; clear hj
          refine lv_if_ne (pc := 58) (tgt := 71) hx hb dX10_byMeans_58 (by decide) (fun c10 => ?_) (fun c10 => ?_)
          · have hf := ineg c10 hf
            refine lv_iload (pc := 71) hx hb dX10_byMeans_71 (lv_at hl 0 rfl) ?_
            refine lv_iload (pc := 73) hx hb dX10_byMeans_73 (lv_at hl 1 rfl) ?_
            refine lv_icmp_ge (pc := 75) (tgt := 84) hx hb dX10_byMeans_75 (by decide) (fun c11 => ?_) (fun c11 => ?_)
            · have hf := ipos c11 hf
              refine lv_iconst (pc := 84) (v := 0) hx hb dX10_byMeans_84 (by decide) ?_
              cases hf
              exact J85_8 _ _ _ hw (lv_sub hl [3, 4, 6] rfl)
            · have hf := ineg c11 hf
              refine lv_iconst (pc := 78) (v := 1) hx hb dX10_byMeans_78 (by decide) ?_
              refine lv_iload_n (pc := 79) hx hb dX10_byMeans_79 rfl (lv_at hl 6 rfl) ?_
              refine lv_ishl (pc := 80) hx hb dX10_byMeans_80 ?_
              refine lv_goto (pc := 81) (tgt := 85) hx hb dX10_byMeans_81 (by decide) ?_
              cases hf
              exact J85_8 _ _ _ hw (lv_sub hl [3, 4, 6] rfl)
          · have hf := ipos c10 hf
            refine lv_iload (pc := 61) hx hb dX10_byMeans_61 (lv_at hl 0 rfl) ?_
            refine lv_iload (pc := 63) hx hb dX10_byMeans_63 (lv_at hl 1 rfl) ?_
            refine lv_icmp_le (pc := 65) (tgt := 84) hx hb dX10_byMeans_65 (by decide) (fun c12 => ?_) (fun c12 => ?_)
            · have hf := ipos c12 hf
              refine lv_iconst (pc := 84) (v := 0) hx hb dX10_byMeans_84 (by decide) ?_
              cases hf
              exact J85_8 _ _ _ hw (lv_sub hl [3, 4, 6] rfl)
            · have hf := ineg c12 hf
              refine lv_goto (pc := 68) (tgt := 78) hx hb dX10_byMeans_68 (by decide) ?_
              refine lv_iconst (pc := 78) (v := 1) hx hb dX10_byMeans_78 (by decide) ?_
              refine lv_iload_n (pc := 79) hx hb dX10_byMeans_79 rfl (lv_at hl 6 rfl) ?_
              refine lv_ishl (pc := 80) hx hb dX10_byMeans_80 ?_
              refine lv_goto (pc := 81) (tgt := 85) hx hb dX10_byMeans_81 (by decide) ?_
              cases hf
              exact J85_8 _ _ _ hw (lv_sub hl [3, 4, 6] rfl)
    obtain ⟨v15, hj, hf⟩ := b1_ob hf
    refine L17 _ 0 0 v15 hj _ _ _ hw (lv_sub hl [2, 3, 1, 0] rfl) (fun H locs ls hw hl => ?_)
    clear hj L17
    refine lv_iload_n (pc := 93) hx hb dX10_byMeans_93 rfl (lv_at hl 0 rfl) ?_
    cases hf
    exact hret _ _ 94 _ hw ⟨_, rfl, rfl⟩ dX10_byMeans_94
  · have hf := ipos c2 hf
    refine lv_bipush (pc := 10) (v := (-3)) hx hb dX10_byMeans_10 (by decide) ?_
    cases hf
    exact hret _ _ 12 _ hw ⟨_, rfl, rfl⟩ dX10_byMeans_12

theorem in_X10_isBetter_X10 : ∀ w ∈ wsX100, w ∈ wsX10_isBetter := fun _ h => List.mem_cons_of_mem _ (List.mem_append_right _ h)
abbrev rmX10_isBetter : Room := { frames := 1, cells := 0, slots := 0, locals := 24 }
def f_X10_isBetter (S : PS) (p1 : Int32) (p2 : Int32) (p3 : Int32) : Option (Int32) :=
  b1 (
    if p1 = 0 then
      b1 (f_X10_measureOf S 0 p2) fun v6 =>
      b1 (f_X10_measureOf S 0 p3) fun v7 =>
      if v6 ≤ v7 then
        some (0 : Int32)
      else
      some (1 : Int32)
    else
    b1 (f_X10_measureOf S 1 p2) fun v3 =>
    b1 (f_X10_measureOf S 1 p3) fun v4 =>
    if v4 ≤ v3 then
      some (0 : Int32)
    else
    some (1 : Int32)) fun v1 =>
  b1 (ckB v1) fun v9 =>
  some v9
set_option maxHeartbeats 4000000 in
set_option maxRecDepth 100000 in
theorem c_X10_isBetter (l : Launch) (D : va_G) (cs : CS) (a : Nat) (q : Nat → Nat) (S : PS) (p1 : Int32) (p2 : Int32) (p3 : Int32) (r : Int32) (hf : f_X10_isBetter S p1 p2 p3 = some r) : CT l D (TY cs) yX10_isBetter wsX10_isBetter rmX10_isBetter [.ref a, .int p1, .int p2, .int p3] (wX10 cs a q S) (some (.int r)) (wX10 cs a q S) := by
  refine CT.ofW (own := RX10) (cc := cX10_isBetter) (maxL := 4) (ret := some .boolean) (by decide) rfl rfl (Nat.le_of_ble_eq_true rfl) ?_
  intro p e s m args below meth c A Q X hret ls hl hw
  obtain ⟨hx, hb, hml, hown, hts, hK, hA, hr, hlk⟩ := id X
  have hl : lv_has ls 4 [(0, .ref a), (1, .int p1), (2, .int p2), (3, .int p3)] := hl
  unfold f_X10_isBetter at hf
  refine lv_iload_n (pc := 0) hx hb dX10_isBetter_0 rfl (lv_at hl 1 rfl) ?_
  obtain ⟨v1, hj, hf⟩ := b1_ob hf
  have J47_0 : ∀ (H : Heap) (locs : List Loc) (ls : Array Slot), WD D A s (wX10 cs a q S) H locs → lv_has ls 4 [] → W p l e rmX10_isBetter s m args below meth c H locs 0 0 Q (F0 m 47 ls [.int v1]) := by
    intro H locs ls hw hl
    obtain ⟨v9, ev9, hf⟩ := b1_ob hf
    refine x_topi (ckB_ob ev9).1.symm ?_
    cases hf
    exact hret _ _ 47 _ hw ⟨_, rfl, ckB_nar (ckB_ob ev9).2⟩ dX10_isBetter_47
  clear hf; have hf := hj; clear hj
  refine lv_if_ne (pc := 1) (tgt := 27) hx hb dX10_isBetter_1 (by decide) (fun c2 => ?_) (fun c2 => ?_)
  · have hf := ineg c2 hf
    refine lv_aload_n (pc := 27) hx hb dX10_isBetter_27 rfl (lv_at hl 0 rfl) ?_
    refine lv_iconst (pc := 28) (v := 1) hx hb dX10_isBetter_28 (by decide) ?_
    refine lv_iload_n (pc := 29) hx hb dX10_isBetter_29 rfl (lv_at hl 2 rfl) ?_
    obtain ⟨v3, hc, hf⟩ := b1_ob hf
    refine x_all (pc := 30) X hw (va_runV (As := [.int 1, .int p2]) (rest := []) ⟨hx, hb, hml, hown, hts⟩ (c_X10_measureOf l D cs a q S 1 p2 v3 hc _) (cwV 2 hts gX10_isBetter_X10_measureOf rfl rfl rfl (by decide +kernel) ⟨Nat.le_of_ble_eq_true rfl, Nat.le_of_ble_eq_true rfl⟩) ⟨CP_blind, va_recv hK hw.1 (ci := 10) (q0 := 0) rfl rfl, x_preA X hw [.ref a, .int 1, .int p2]⟩ rfl rfl hl.1 rfl (lv_room (Nat.le_of_ble_eq_true rfl)) dX10_isBetter_30 ⟨Nat.zero_le _, Nat.zero_le _⟩) (fun H locs hw => ?_)
    refine lv_aload_n (pc := 33) hx hb dX10_isBetter_33 rfl (lv_at hl 0 rfl) ?_
    refine lv_iconst (pc := 34) (v := 1) hx hb dX10_isBetter_34 (by decide) ?_
    refine lv_iload_n (pc := 35) hx hb dX10_isBetter_35 rfl (lv_at hl 3 rfl) ?_
    obtain ⟨v4, hc, hf⟩ := b1_ob hf
    refine x_all (pc := 36) X hw (va_runV (As := [.int 1, .int p3]) (rest := [.int v3]) ⟨hx, hb, hml, hown, hts⟩ (c_X10_measureOf l D cs a q S 1 p3 v4 hc _) (cwV 2 hts gX10_isBetter_X10_measureOf rfl rfl rfl (by decide +kernel) ⟨Nat.le_of_ble_eq_true rfl, Nat.le_of_ble_eq_true rfl⟩) ⟨CP_blind, va_recv hK hw.1 (ci := 10) (q0 := 0) rfl rfl, x_preA X hw [.ref a, .int 1, .int p3]⟩ rfl rfl hl.1 rfl (lv_room (Nat.le_of_ble_eq_true rfl)) dX10_isBetter_36 ⟨Nat.zero_le _, Nat.zero_le _⟩) (fun H locs hw => ?_)
    refine lv_icmp_ge (pc := 39) (tgt := 46) hx hb dX10_isBetter_39 (by decide) (fun c5 => ?_) (fun c5 => ?_)
    · have hf := ipos c5 hf
      refine lv_iconst (pc := 46) (v := 0) hx hb dX10_isBetter_46 (by decide) ?_
      cases hf
      exact J47_0 _ _ _ hw (lv_sub hl [] rfl)
    · have hf := ineg c5 hf
      refine lv_iconst (pc := 42) (v := 1) hx hb dX10_isBetter_42 (by decide) ?_
      refine lv_goto (pc := 43) (tgt := 47) hx hb dX10_isBetter_43 (by decide) ?_
      cases hf
      exact J47_0 _ _ _ hw (lv_sub hl [] rfl)
  · have hf := ipos c2 hf
    refine lv_aload_n (pc := 4) hx hb dX10_isBetter_4 rfl (lv_at hl 0 rfl) ?_
    refine lv_iconst (pc := 5) (v := 0) hx hb dX10_isBetter_5 (by decide) ?_
    refine lv_iload_n (pc := 6) hx hb dX10_isBetter_6 rfl (lv_at hl 2 rfl) ?_
    obtain ⟨v6, hc, hf⟩ := b1_ob hf
    refine x_all (pc := 7) X hw (va_runV (As := [.int 0, .int p2]) (rest := []) ⟨hx, hb, hml, hown, hts⟩ (c_X10_measureOf l D cs a q S 0 p2 v6 hc _) (cwV 2 hts gX10_isBetter_X10_measureOf rfl rfl rfl (by decide +kernel) ⟨Nat.le_of_ble_eq_true rfl, Nat.le_of_ble_eq_true rfl⟩) ⟨CP_blind, va_recv hK hw.1 (ci := 10) (q0 := 0) rfl rfl, x_preA X hw [.ref a, .int 0, .int p2]⟩ rfl rfl hl.1 rfl (lv_room (Nat.le_of_ble_eq_true rfl)) dX10_isBetter_7 ⟨Nat.zero_le _, Nat.zero_le _⟩) (fun H locs hw => ?_)
    refine lv_aload_n (pc := 10) hx hb dX10_isBetter_10 rfl (lv_at hl 0 rfl) ?_
    refine lv_iconst (pc := 11) (v := 0) hx hb dX10_isBetter_11 (by decide) ?_
    refine lv_iload_n (pc := 12) hx hb dX10_isBetter_12 rfl (lv_at hl 3 rfl) ?_
    obtain ⟨v7, hc, hf⟩ := b1_ob hf
    refine x_all (pc := 13) X hw (va_runV (As := [.int 0, .int p3]) (rest := [.int v6]) ⟨hx, hb, hml, hown, hts⟩ (c_X10_measureOf l D cs a q S 0 p3 v7 hc _) (cwV 2 hts gX10_isBetter_X10_measureOf rfl rfl rfl (by decide +kernel) ⟨Nat.le_of_ble_eq_true rfl, Nat.le_of_ble_eq_true rfl⟩) ⟨CP_blind, va_recv hK hw.1 (ci := 10) (q0 := 0) rfl rfl, x_preA X hw [.ref a, .int 0, .int p3]⟩ rfl rfl hl.1 rfl (lv_room (Nat.le_of_ble_eq_true rfl)) dX10_isBetter_13 ⟨Nat.zero_le _, Nat.zero_le _⟩) (fun H locs hw => ?_)
    refine lv_icmp_le (pc := 16) (tgt := 23) hx hb dX10_isBetter_16 (by decide) (fun c8 => ?_) (fun c8 => ?_)
    · have hf := ipos c8 hf
      refine lv_iconst (pc := 23) (v := 0) hx hb dX10_isBetter_23 (by decide) ?_
      refine lv_goto (pc := 24) (tgt := 47) hx hb dX10_isBetter_24 (by decide) ?_
      cases hf
      exact J47_0 _ _ _ hw (lv_sub hl [] rfl)
    · have hf := ineg c8 hf
      refine lv_iconst (pc := 19) (v := 1) hx hb dX10_isBetter_19 (by decide) ?_
      refine lv_goto (pc := 20) (tgt := 47) hx hb dX10_isBetter_20 (by decide) ?_
      cases hf
      exact J47_0 _ _ _ hw (lv_sub hl [] rfl)

theorem in_X10_best_X10 : ∀ w ∈ wsX100, w ∈ wsX10_best := fun _ h => List.mem_cons_of_mem _ (List.mem_append_right _ h)
abbrev rmX10_best : Room := { frames := 2, cells := 0, slots := 0, locals := 47 }
def B_X10_best_17 (S : PS) (p1 : Int32) (v3 : Int32) (v4 : Int32) : Option ((Int32 × Int32) ⊕ (Int32)) :=
  if ((1 : Int32) <<< ((S.1 14) &&& 31)) ≤ v4 then
    some (.inr v3)
  else
  b1 (f_X10_isBetter S p1 v4 v3) fun v6 =>
  b1 (
    if v6 = 0 then
      some v3
    else
    some v4) fun v7 =>
  bn (v4 + 1) fun v9 =>
  some (.inl (v7, v9))
def L_X10_best_17 (S : PS) (p1 : Int32) (n : Nat) (v3 : Int32) (v4 : Int32) : Option (Int32) := loopF (fun x : Int32 × Int32 => B_X10_best_17 S p1 x.1 x.2) n (v3, v4)
def f_X10_best (S : PS) (p1 : Int32) : Option (Int32) :=
  b1 (f_X10_in (p1.toInt64) 0 1) fun v1 =>
  if v1 = 0 then
    some (-3)
  else
  b1 (L_X10_best_17 S p1 FU 0 1) fun v10 =>
  some v10
set_option maxHeartbeats 4000000 in
set_option maxRecDepth 100000 in
theorem c_X10_best (l : Launch) (D : va_G) (cs : CS) (a : Nat) (q : Nat → Nat) (S : PS) (p1 : Int32) (r : Int32) (hf : f_X10_best S p1 = some r) : CT l D (TY cs) yX10_best wsX10_best rmX10_best [.ref a, .int p1] (wX10 cs a q S) (some (.int r)) (wX10 cs a q S) := by
  refine CT.ofW (own := RX10) (cc := cX10_best) (maxL := 4) (ret := some .int) (by decide) rfl rfl (Nat.le_of_ble_eq_true rfl) ?_
  intro p e s m args below meth c A Q X hret ls hl hw
  obtain ⟨hx, hb, hml, hown, hts, hK, hA, hr, hlk⟩ := id X
  have hl : lv_has ls 4 [(0, .ref a), (1, .int p1)] := hl
  unfold f_X10_best at hf
  refine lv_iload_n (pc := 0) hx hb dX10_best_0 rfl (lv_at hl 1 rfl) ?_
  refine lv_i2l (pc := 1) hx hb dX10_best_1 rfl ?_
  refine lv_lconst (pc := 2) (v := 0) hx hb dX10_best_2 (by decide) ?_
  refine lv_lconst (pc := 3) (v := 1) hx hb dX10_best_3 (by decide) ?_
  obtain ⟨v1, hc, hf⟩ := b1_ob hf
  refine x_nil (pc := 4) X hw (va_runS (As := [.long (p1.toInt64), .long 0, .long 1]) (rest := []) ⟨hx, hb, hml, hown, hts⟩ (c_X10_in l D cs (p1.toInt64) 0 1 v1 hc _) (va_cwS 3 hts gX10_best_X10_in rfl rfl rfl (by decide +kernel) ⟨Nat.le_of_ble_eq_true rfl, Nat.le_of_ble_eq_true rfl⟩) ⟨CP_blind, x_preN X [.long (p1.toInt64), .long 0, .long 1]⟩ rfl rfl hl.1 rfl (lv_room (Nat.le_of_ble_eq_true rfl)) dX10_best_4 ⟨Nat.zero_le _, Nat.zero_le _⟩) (fun H locs hw => ?_)
  refine lv_if_ne (pc := 7) (tgt := 13) hx hb dX10_best_7 (by decide) (fun c2 => ?_) (fun c2 => ?_)
  · have hf := ineg c2 hf
    refine lv_iconst (pc := 13) (v := 0) hx hb dX10_best_13 (by decide) ?_
    refine lv_istore_n (lv' := [(2, .int 0), (0, .ref a), (1, .int p1)]) (pc := 14) hx hb dX10_best_14 rfl hl (by decide) rfl (fun ls hl => ?_)
    refine lv_iconst (pc := 15) (v := 1) hx hb dX10_best_15 (by decide) ?_
    refine lv_istore_n (lv' := [(3, .int 1), (2, .int 0), (0, .ref a), (1, .int p1)]) (pc := 16) hx hb dX10_best_16 rfl hl (by decide) rfl (fun ls hl => ?_)
    have L17 : ∀ (n : Nat) (v3 : Int32) (v4 : Int32) (rv3 : Int32), L_X10_best_17 S p1 n v3 v4 = some rv3 → ∀ (H : Heap) (locs : List Loc) (ls : Array Slot), WD D A s (wX10 cs a q S) H locs → lv_has ls 4 [(0, .ref a), (1, .int p1), (2, .int v3), (3, .int v4)] → (∀ (H : Heap) (locs : List Loc) (ls : Array Slot), WD D A s (wX10 cs a q S) H locs → lv_has ls 4 [(2, .int rv3)] → W p l e rmX10_best s m args below meth c H locs 0 0 Q (F0 m 49 ls [])) → W p l e rmX10_best s m args below meth c H locs 0 0 Q (F0 m 17 ls []) := by
      intro n
      induction n with
      | zero => intro v3 v4 rv3 hf; exact (loopF_z hf).elim
      | succ n ih =>
        intro v3 v4 rv3 hf H locs ls hw hl K
        obtain ⟨x, hf, hx0⟩ := loopF_ob hf
        have hf : B_X10_best_17 S p1 v3 v4 = some x := hf
        unfold B_X10_best_17 at hf
        refine lv_iload_n (pc := 17) hx hb dX10_best_17 rfl (lv_at hl 3 rfl) ?_
        refine lv_iconst (pc := 18) (v := 1) hx hb dX10_best_18 (by decide) ?_
        refine lv_aload_n (pc := 19) hx hb dX10_best_19 rfl (lv_at hl 0 rfl) ?_
        refine x_get (pc := 20) X hw in_X10_best_X10 0 rfl rfl 14 (by decide) (List.mem_of_getElem? (i := 1) rfl) rfl dX10_best_20 ?_
        refine lv_ishl (pc := 23) hx hb dX10_best_23 ?_
        refine lv_icmp_ge (pc := 24) (tgt := 49) hx hb dX10_best_24 (by decide) (fun c5 => ?_) (fun c5 => ?_)
        · have hf := ipos c5 hf
          cases hf
          cases (hx0 : v3 = rv3)
          exact K _ _ _ hw (lv_sub hl [2] rfl)
        · have hf := ineg c5 hf
          refine lv_aload_n (pc := 27) hx hb dX10_best_27 rfl (lv_at hl 0 rfl) ?_
          refine lv_iload_n (pc := 28) hx hb dX10_best_28 rfl (lv_at hl 1 rfl) ?_
          refine lv_iload_n (pc := 29) hx hb dX10_best_29 rfl (lv_at hl 3 rfl) ?_
          refine lv_iload_n (pc := 30) hx hb dX10_best_30 rfl (lv_at hl 2 rfl) ?_
          obtain ⟨v6, hc, hf⟩ := b1_ob hf
          refine x_all (pc := 31) X hw (va_runV (As := [.int p1, .int v4, .int v3]) (rest := []) ⟨hx, hb, hml, hown, hts⟩ (c_X10_isBetter l D cs a q S p1 v4 v3 v6 hc _) (cwV 3 hts gX10_best_X10_isBetter rfl rfl rfl (by decide +kernel) ⟨Nat.le_of_ble_eq_true rfl, Nat.le_of_ble_eq_true rfl⟩) ⟨CP_blind, va_recv hK hw.1 (ci := 10) (q0 := 0) rfl rfl, x_preA X hw [.ref a, .int p1, .int v4, .int v3]⟩ rfl rfl hl.1 rfl (lv_room (Nat.le_of_ble_eq_true rfl)) dX10_best_31 ⟨Nat.zero_le _, Nat.zero_le _⟩) (fun H locs hw => ?_)
          obtain ⟨v7, hj, hf⟩ := b1_ob hf
          have J42_6 : ∀ (H : Heap) (locs : List Loc) (ls : Array Slot), WD D A s (wX10 cs a q S) H locs → lv_has ls 4 [(0, .ref a), (1, .int p1), (3, .int v4)] → W p l e rmX10_best s m args below meth c H locs 0 0 Q (F0 m 42 ls [.int v7]) := by
            intro H locs ls hw hl
            refine lv_istore_n (lv' := [(2, .int v7), (0, .ref a), (1, .int p1), (3, .int v4)]) (pc := 42) hx hb dX10_best_42 rfl hl (by decide) rfl (fun ls hl => ?_)
            obtain ⟨v9, ev9, hf⟩ := bn_ob hf
            refine lv_iinc (pc := 43) (v := v9) (lv' := [(3, .int v9), (2, .int v7), (0, .ref a), (1, .int p1)]) hx hb dX10_best_43 hl (k := 3) rfl (by rw [ev9]; rfl) (by decide) rfl (fun ls hl => ?_)
            refine lv_goto (pc := 46) (tgt := 17) hx hb dX10_best_46 (by decide) ?_
            cases hf
            exact ih v7 v9 rv3 hx0 _ _ _ hw (lv_sub hl [2, 3, 1, 0] rfl) K
          clear hf; have hf := hj; clear hj
          refine lv_if_eq (pc := 34) (tgt := 41) hx hb dX10_best_34 (by decide) (fun c8 => ?_) (fun c8 => ?_)
          · have hf := ipos c8 hf
            refine lv_iload_n (pc := 41) hx hb dX10_best_41 rfl (lv_at hl 2 rfl) ?_
            cases hf
            exact J42_6 _ _ _ hw (lv_sub hl [0, 1, 3] rfl)
          · have hf := ineg c8 hf
            refine lv_iload_n (pc := 37) hx hb dX10_best_37 rfl (lv_at hl 3 rfl) ?_
            refine lv_goto (pc := 38) (tgt := 42) hx hb dX10_best_38 (by decide) ?_
            cases hf
            exact J42_6 _ _ _ hw (lv_sub hl [0, 1, 3] rfl)
    obtain ⟨v10, hj, hf⟩ := b1_ob hf
    refine L17 _ 0 1 v10 hj _ _ _ hw (lv_sub hl [2, 3, 1, 0] rfl) (fun H locs ls hw hl => ?_)
    clear hj L17
    refine lv_iload_n (pc := 49) hx hb dX10_best_49 rfl (lv_at hl 0 rfl) ?_
    cases hf
    exact hret _ _ 50 _ hw ⟨_, rfl, rfl⟩ dX10_best_50
  · have hf := ipos c2 hf
    refine lv_bipush (pc := 10) (v := (-3)) hx hb dX10_best_10 (by decide) ?_
    cases hf
    exact hret _ _ 12 _ hw ⟨_, rfl, rfl⟩ dX10_best_12

theorem in_X10_heap_X10 : ∀ w ∈ wsX100, w ∈ wsX10_heap := fun _ h => List.mem_cons_of_mem _ (List.mem_append_right _ h)
abbrev rmX10_heap : Room := { frames := 2, cells := 0, slots := 0, locals := 46 }
def f_X10_heap (S : PS) (p1 : Int32) : Option (Int32 × PS) :=
  b1 (f_X10_areKnots S p1) fun v1 =>
  if v1 = 0 then
    some ((-3), S)
  else
  if (S.1 22) = 32 then
    some ((-5), S)
  else
  b1 (wA 32 S 21 (S.1 22) p1) fun S4 =>
  bn (sI S4 22 ((S4.1 22) + 1)) fun S5 =>
  some ((S5.1 22), S5)
set_option maxHeartbeats 4000000 in
set_option maxRecDepth 100000 in
theorem c_X10_heap (l : Launch) (D : va_G) (cs : CS) (a : Nat) (q : Nat → Nat) (S : PS) (p1 : Int32) (r : Int32) (S' : PS) (hf : f_X10_heap S p1 = some (r, S')) : CT l D (TY cs) yX10_heap wsX10_heap rmX10_heap [.ref a, .int p1] (wX10 cs a q S) (some (.int r)) (wX10 cs a q S') := by
  refine CT.ofW (own := RX10) (cc := cX10_heap) (maxL := 2) (ret := some .int) (by decide) rfl rfl (Nat.le_of_ble_eq_true rfl) ?_
  intro p e s m args below meth c A Q X hret ls hl hw
  obtain ⟨hx, hb, hml, hown, hts, hK, hA, hr, hlk⟩ := id X
  have hl : lv_has ls 2 [(0, .ref a), (1, .int p1)] := hl
  unfold f_X10_heap at hf
  refine lv_aload_n (pc := 0) hx hb dX10_heap_0 rfl (lv_at hl 0 rfl) ?_
  refine lv_iload_n (pc := 1) hx hb dX10_heap_1 rfl (lv_at hl 1 rfl) ?_
  obtain ⟨v1, hc, hf⟩ := b1_ob hf
  refine x_all (pc := 2) X hw (va_runV (As := [.int p1]) (rest := []) ⟨hx, hb, hml, hown, hts⟩ (c_X10_areKnots l D cs a q S p1 v1 hc _) (cwV 1 hts gX10_heap_X10_areKnots rfl rfl rfl (by decide +kernel) ⟨Nat.le_of_ble_eq_true rfl, Nat.le_of_ble_eq_true rfl⟩) ⟨CP_blind, va_recv hK hw.1 (ci := 10) (q0 := 0) rfl rfl, x_preA X hw [.ref a, .int p1]⟩ rfl rfl hl.1 rfl (lv_room (Nat.le_of_ble_eq_true rfl)) dX10_heap_2 ⟨Nat.zero_le _, Nat.zero_le _⟩) (fun H locs hw => ?_)
  refine lv_if_ne (pc := 5) (tgt := 11) hx hb dX10_heap_5 (by decide) (fun c2 => ?_) (fun c2 => ?_)
  · have hf := ineg c2 hf
    refine lv_aload_n (pc := 11) hx hb dX10_heap_11 rfl (lv_at hl 0 rfl) ?_
    refine x_get (pc := 12) X hw in_X10_heap_X10 0 rfl rfl 22 (by decide) (List.mem_of_getElem? (i := 1) rfl) rfl dX10_heap_12 ?_
    refine lv_bipush (pc := 15) (v := 32) hx hb dX10_heap_15 (by decide) ?_
    refine lv_icmp_ne (pc := 17) (tgt := 23) hx hb dX10_heap_17 (by decide) (fun c3 => ?_) (fun c3 => ?_)
    · have hf := ineg c3 hf
      refine lv_aload_n (pc := 23) hx hb dX10_heap_23 rfl (lv_at hl 0 rfl) ?_
      refine x_get (pc := 24) X hw in_X10_heap_X10 0 rfl rfl 21 (by decide) (List.mem_of_getElem? (i := 2) rfl) rfl dX10_heap_24 ?_
      refine lv_aload_n (pc := 27) hx hb dX10_heap_27 rfl (lv_at hl 0 rfl) ?_
      refine x_get (pc := 28) X hw in_X10_heap_X10 0 rfl rfl 22 (by decide) (List.mem_of_getElem? (i := 1) rfl) rfl dX10_heap_28 ?_
      refine lv_iload_n (pc := 31) hx hb dX10_heap_31 rfl (lv_at hl 1 rfl) ?_
      obtain ⟨S4, eS4, hf⟩ := b1_ob hf
      refine x_iast (pc := 32) X hw 12 0 rfl rfl (wA_ob eS4).1 dX10_heap_32 (ws2 := wX10 cs a q S4) (by rw [(wA_ob eS4).2]; rfl) (fun H locs hw => ?_)
      refine lv_aload_n (pc := 33) hx hb dX10_heap_33 rfl (lv_at hl 0 rfl) ?_
      refine lv_dup (pc := 34) hx hb dX10_heap_34 rfl ?_
      refine x_get (pc := 35) X hw in_X10_heap_X10 0 rfl rfl 22 (by decide) (List.mem_of_getElem? (i := 1) rfl) rfl dX10_heap_35 ?_
      refine lv_iconst (pc := 38) (v := 1) hx hb dX10_heap_38 (by decide) ?_
      refine lv_iadd (pc := 39) hx hb dX10_heap_39 ?_
      obtain ⟨S5, eS5, hf⟩ := bn_ob hf
      refine x_put (pc := 40) X hw in_X10_heap_X10 tyX10 tyX10_ok nmX10 0 rfl rfl 22 (by decide) (List.mem_of_getElem? (i := 1) rfl) rfl rfl rfl (Nat.le_of_ble_eq_true rfl) dX10_heap_40 (ws2 := wX10 cs a q S5) (by rw [eS5]; rfl) (fun H locs hw => ?_)
      refine lv_aload_n (pc := 43) hx hb dX10_heap_43 rfl (lv_at hl 0 rfl) ?_
      refine x_get (pc := 44) X hw in_X10_heap_X10 0 rfl rfl 22 (by decide) (List.mem_of_getElem? (i := 1) rfl) rfl dX10_heap_44 ?_
      cases hf
      exact hret _ _ 47 _ hw ⟨_, rfl, rfl⟩ dX10_heap_47
    · have hf := ipos c3 hf
      refine lv_bipush (pc := 20) (v := (-5)) hx hb dX10_heap_20 (by decide) ?_
      cases hf
      exact hret _ _ 22 _ hw ⟨_, rfl, rfl⟩ dX10_heap_22
  · have hf := ipos c2 hf
    refine lv_bipush (pc := 8) (v := (-3)) hx hb dX10_heap_8 (by decide) ?_
    cases hf
    exact hret _ _ 10 _ hw ⟨_, rfl, rfl⟩ dX10_heap_10

theorem in_X10_made_X10 : ∀ w ∈ wsX100, w ∈ wsX10_made := fun _ h => List.mem_cons_of_mem _ (List.mem_append_right _ h)
abbrev rmX10_made : Room := { frames := 1, cells := 0, slots := 0, locals := 25 }
def B_X10_made_19 (S : PS) (v3 : Int32) : Option ((Int32) ⊕ (Int32)) :=
  if (S.1 14) < ((1 : Int32) <<< (v3 &&& 31)) then
    some (.inr v3)
  else
  bn (v3 + 1) fun v5 =>
  some (.inl v5)
def L_X10_made_19 (S : PS) (n : Nat) (v3 : Int32) : Option (Int32) := loopF (fun x : Int32 => B_X10_made_19 S x) n v3
def B_X10_made_75 (p1 : Int32) (v11 : Int32) (v15 : Int32) (S16 : PS) : Option ((Int32 × PS) ⊕ (PS)) :=
  if (S16.1 14) ≤ v15 then
    some (.inr S16)
  else
  b1 (
    if p1 = 2 then
      some (v15 + 1)
    else
    some ((2 * (v15 + 1)) + 1)) fun v18 =>
  b1 (rdI 32 (S16.2.1 21) v11) fun v20 =>
  b1 (f_X10_bits (v11 &&& v18)) fun v21 =>
  b1 (wA 32 S16 21 v11 (v20 ||| ((v21 - v21 / 2 * 2) <<< (v15 &&& 31)))) fun S22 =>
  bn (v15 + 1) fun v23 =>
  some (.inl (v23, S22))
def L_X10_made_75 (p1 : Int32) (v11 : Int32) (n : Nat) (v15 : Int32) (S16 : PS) : Option (PS) := loopF (fun x : Int32 × PS => B_X10_made_75 p1 v11 x.1 x.2) n (v15, S16)
def B_X10_made_57 (p1 : Int32) (v11 : Int32) (S12 : PS) : Option ((Int32 × PS) ⊕ (PS)) :=
  if (S12.1 22) ≤ v11 then
    some (.inr S12)
  else
  b1 (wA 32 S12 21 v11 0) fun S14 =>
  b1 (L_X10_made_75 p1 v11 FU 0 S14) fun S24 =>
  bn (v11 + 1) fun v25 =>
  some (.inl (v25, S24))
def L_X10_made_57 (p1 : Int32) (n : Nat) (v11 : Int32) (S12 : PS) : Option (PS) := loopF (fun x : Int32 × PS => B_X10_made_57 p1 x.1 x.2) n (v11, S12)
def f_X10_made (S : PS) (p1 : Int32) : Option (Int32 × PS) :=
  b1 (f_X10_in (p1.toInt64) (2) (3)) fun v1 =>
  if v1 = 0 then
    some ((-3), S)
  else
  b1 (L_X10_made_19 S FU 0) fun v6 =>
  b1 (
    if p1 = 3 then
      some (1 : Int32)
    else
    some (0 : Int32)) fun v7 =>
  bn (v6 + v7) fun v9 =>
  bn (sI S 22 ((1 : Int32) <<< (v9 &&& 31))) fun S10 =>
  b1 (L_X10_made_57 p1 FU 0 S10) fun S26 =>
  some ((S26.1 22), S26)
set_option maxHeartbeats 4000000 in
set_option maxRecDepth 100000 in
theorem c_X10_made (l : Launch) (D : va_G) (cs : CS) (a : Nat) (q : Nat → Nat) (S : PS) (p1 : Int32) (r : Int32) (S' : PS) (hf : f_X10_made S p1 = some (r, S')) : CT l D (TY cs) yX10_made wsX10_made rmX10_made [.ref a, .int p1] (wX10 cs a q S) (some (.int r)) (wX10 cs a q S') := by
  refine CT.ofW (own := RX10) (cc := cX10_made) (maxL := 6) (ret := some .int) (by decide) rfl rfl (Nat.le_of_ble_eq_true rfl) ?_
  intro p e s m args below meth c A Q X hret ls hl hw
  obtain ⟨hx, hb, hml, hown, hts, hK, hA, hr, hlk⟩ := id X
  have hl : lv_has ls 6 [(0, .ref a), (1, .int p1)] := hl
  unfold f_X10_made at hf
  refine lv_iload_n (pc := 0) hx hb dX10_made_0 rfl (lv_at hl 1 rfl) ?_
  refine lv_i2l (pc := 1) hx hb dX10_made_1 rfl ?_
  refine lv_ldc2 (pc := 2) (v := (2)) hx hb hown (hts _ (List.mem_of_getElem? (i := 1) rfl)) dX10_made_2 ?_
  refine lv_ldc2 (pc := 5) (v := (3)) hx hb hown (hts _ (List.mem_of_getElem? (i := 2) rfl)) dX10_made_5 ?_
  obtain ⟨v1, hc, hf⟩ := b1_ob hf
  refine x_nil (pc := 8) X hw (va_runS (As := [.long (p1.toInt64), .long (2), .long (3)]) (rest := []) ⟨hx, hb, hml, hown, hts⟩ (c_X10_in l D cs (p1.toInt64) (2) (3) v1 hc _) (va_cwS 3 hts gX10_made_X10_in rfl rfl rfl (by decide +kernel) ⟨Nat.le_of_ble_eq_true rfl, Nat.le_of_ble_eq_true rfl⟩) ⟨CP_blind, x_preN X [.long (p1.toInt64), .long (2), .long (3)]⟩ rfl rfl hl.1 rfl (lv_room (Nat.le_of_ble_eq_true rfl)) dX10_made_8 ⟨Nat.zero_le _, Nat.zero_le _⟩) (fun H locs hw => ?_)
  refine lv_if_ne (pc := 11) (tgt := 17) hx hb dX10_made_11 (by decide) (fun c2 => ?_) (fun c2 => ?_)
  · have hf := ineg c2 hf
    refine lv_iconst (pc := 17) (v := 0) hx hb dX10_made_17 (by decide) ?_
    refine lv_istore_n (lv' := [(2, .int 0), (0, .ref a), (1, .int p1)]) (pc := 18) hx hb dX10_made_18 rfl hl (by decide) rfl (fun ls hl => ?_)
    have L19 : ∀ (n : Nat) (v3 : Int32) (rv3 : Int32), L_X10_made_19 S n v3 = some rv3 → ∀ (H : Heap) (locs : List Loc) (ls : Array Slot), WD D A s (wX10 cs a q S) H locs → lv_has ls 6 [(0, .ref a), (1, .int p1), (2, .int v3)] → (∀ (H : Heap) (locs : List Loc) (ls : Array Slot), WD D A s (wX10 cs a q S) H locs → lv_has ls 6 [(0, .ref a), (1, .int p1), (2, .int rv3)] → W p l e rmX10_made s m args below meth c H locs 0 0 Q (F0 m 35 ls [])) → W p l e rmX10_made s m args below meth c H locs 0 0 Q (F0 m 19 ls []) := by
      intro n
      induction n with
      | zero => intro v3 rv3 hf; exact (loopF_z hf).elim
      | succ n ih =>
        intro v3 rv3 hf H locs ls hw hl K
        obtain ⟨x, hf, hx0⟩ := loopF_ob hf
        have hf : B_X10_made_19 S v3 = some x := hf
        unfold B_X10_made_19 at hf
        refine lv_iconst (pc := 19) (v := 1) hx hb dX10_made_19 (by decide) ?_
        refine lv_iload_n (pc := 20) hx hb dX10_made_20 rfl (lv_at hl 2 rfl) ?_
        refine lv_ishl (pc := 21) hx hb dX10_made_21 ?_
        refine lv_aload_n (pc := 22) hx hb dX10_made_22 rfl (lv_at hl 0 rfl) ?_
        refine x_get (pc := 23) X hw in_X10_made_X10 0 rfl rfl 14 (by decide) (List.mem_of_getElem? (i := 3) rfl) rfl dX10_made_23 ?_
        refine lv_icmp_gt (pc := 26) (tgt := 35) hx hb dX10_made_26 (by decide) (fun c4 => ?_) (fun c4 => ?_)
        · have hf := ipos c4 hf
          cases hf
          cases (hx0 : v3 = rv3)
          exact K _ _ _ hw (lv_sub hl [0, 1, 2] rfl)
        · have hf := ineg c4 hf
          obtain ⟨v5, ev5, hf⟩ := bn_ob hf
          refine lv_iinc (pc := 29) (v := v5) (lv' := [(2, .int v5), (0, .ref a), (1, .int p1)]) hx hb dX10_made_29 hl (k := 2) rfl (by rw [ev5]; rfl) (by decide) rfl (fun ls hl => ?_)
          refine lv_goto (pc := 32) (tgt := 19) hx hb dX10_made_32 (by decide) ?_
          cases hf
          exact ih v5 rv3 hx0 _ _ _ hw (lv_sub hl [1, 2, 0] rfl) K
    obtain ⟨v6, hj, hf⟩ := b1_ob hf
    refine L19 _ 0 v6 hj _ _ _ hw (lv_sub hl [1, 2, 0] rfl) (fun H locs ls hw hl => ?_)
    clear hj L19
    refine lv_iload_n (pc := 35) hx hb dX10_made_35 rfl (lv_at hl 2 rfl) ?_
    refine lv_iload_n (pc := 36) hx hb dX10_made_36 rfl (lv_at hl 1 rfl) ?_
    refine lv_iconst (pc := 37) (v := 3) hx hb dX10_made_37 (by decide) ?_
    obtain ⟨v7, hj, hf⟩ := b1_ob hf
    have J46_6 : ∀ (H : Heap) (locs : List Loc) (ls : Array Slot), WD D A s (wX10 cs a q S) H locs → lv_has ls 6 [(0, .ref a), (1, .int p1)] → W p l e rmX10_made s m args below meth c H locs 0 0 Q (F0 m 46 ls [.int v7, .int v6]) := by
      intro H locs ls hw hl
      refine lv_iadd (pc := 46) hx hb dX10_made_46 ?_
      obtain ⟨v9, ev9, hf⟩ := bn_ob hf
      refine x_topi ev9 ?_
      refine lv_istore_n (lv' := [(2, .int v9), (0, .ref a), (1, .int p1)]) (pc := 47) hx hb dX10_made_47 rfl hl (by decide) rfl (fun ls hl => ?_)
      refine lv_aload_n (pc := 48) hx hb dX10_made_48 rfl (lv_at hl 1 rfl) ?_
      refine lv_iconst (pc := 49) (v := 1) hx hb dX10_made_49 (by decide) ?_
      refine lv_iload_n (pc := 50) hx hb dX10_made_50 rfl (lv_at hl 0 rfl) ?_
      refine lv_ishl (pc := 51) hx hb dX10_made_51 ?_
      obtain ⟨S10, eS10, hf⟩ := bn_ob hf
      refine x_put (pc := 52) X hw in_X10_made_X10 tyX10 tyX10_ok nmX10 0 rfl rfl 22 (by decide) (List.mem_of_getElem? (i := 4) rfl) rfl rfl rfl (Nat.le_of_ble_eq_true rfl) dX10_made_52 (ws2 := wX10 cs a q S10) (by rw [eS10]; rfl) (fun H locs hw => ?_)
      refine lv_iconst (pc := 55) (v := 0) hx hb dX10_made_55 (by decide) ?_
      refine lv_istore_n (lv' := [(3, .int 0), (2, .int v9), (0, .ref a), (1, .int p1)]) (pc := 56) hx hb dX10_made_56 rfl hl (by decide) rfl (fun ls hl => ?_)
      have L57 : ∀ (n : Nat) (v11 : Int32) (S12 : PS) (rS12 : PS), L_X10_made_57 p1 n v11 S12 = some rS12 → ∀ (H : Heap) (locs : List Loc) (ls : Array Slot), WD D A s (wX10 cs a q S12) H locs → lv_has ls 6 [(0, .ref a), (1, .int p1), (3, .int v11)] → (∀ (H : Heap) (locs : List Loc) (ls : Array Slot), WD D A s (wX10 cs a q rS12) H locs → lv_has ls 6 [(0, .ref a)] → W p l e rmX10_made s m args below meth c H locs 0 0 Q (F0 m 139 ls [])) → W p l e rmX10_made s m args below meth c H locs 0 0 Q (F0 m 57 ls []) := by
        intro n
        induction n with
        | zero => intro v11 S12 rS12 hf; exact (loopF_z hf).elim
        | succ n ih =>
          intro v11 S12 rS12 hf H locs ls hw hl K
          obtain ⟨x, hf, hx0⟩ := loopF_ob hf
          have hf : B_X10_made_57 p1 v11 S12 = some x := hf
          unfold B_X10_made_57 at hf
          refine lv_iload_n (pc := 57) hx hb dX10_made_57 rfl (lv_at hl 2 rfl) ?_
          refine lv_aload_n (pc := 58) hx hb dX10_made_58 rfl (lv_at hl 0 rfl) ?_
          refine x_get (pc := 59) X hw in_X10_made_X10 0 rfl rfl 22 (by decide) (List.mem_of_getElem? (i := 4) rfl) rfl dX10_made_59 ?_
          refine lv_icmp_ge (pc := 62) (tgt := 139) hx hb dX10_made_62 (by decide) (fun c13 => ?_) (fun c13 => ?_)
          · have hf := ipos c13 hf
            cases hf
            cases (hx0 : S12 = rS12)
            exact K _ _ _ hw (lv_sub hl [0] rfl)
          · have hf := ineg c13 hf
            refine lv_aload_n (pc := 65) hx hb dX10_made_65 rfl (lv_at hl 0 rfl) ?_
            refine x_get (pc := 66) X hw in_X10_made_X10 0 rfl rfl 21 (by decide) (List.mem_of_getElem? (i := 5) rfl) rfl dX10_made_66 ?_
            refine lv_iload_n (pc := 69) hx hb dX10_made_69 rfl (lv_at hl 2 rfl) ?_
            refine lv_iconst (pc := 70) (v := 0) hx hb dX10_made_70 (by decide) ?_
            obtain ⟨S14, eS14, hf⟩ := b1_ob hf
            refine x_iast (pc := 71) X hw 12 0 rfl rfl (wA_ob eS14).1 dX10_made_71 (ws2 := wX10 cs a q S14) (by rw [(wA_ob eS14).2]; rfl) (fun H locs hw => ?_)
            refine lv_iconst (pc := 72) (v := 0) hx hb dX10_made_72 (by decide) ?_
            refine lv_istore (lv' := [(4, .int 0), (0, .ref a), (1, .int p1), (3, .int v11)]) (pc := 73) hx hb dX10_made_73 hl (by decide) rfl (fun ls hl => ?_)
            have L75 : ∀ (n : Nat) (v15 : Int32) (S16 : PS) (rS16 : PS), L_X10_made_75 p1 v11 n v15 S16 = some rS16 → ∀ (H : Heap) (locs : List Loc) (ls : Array Slot), WD D A s (wX10 cs a q S16) H locs → lv_has ls 6 [(0, .ref a), (1, .int p1), (3, .int v11), (4, .int v15)] → (∀ (H : Heap) (locs : List Loc) (ls : Array Slot), WD D A s (wX10 cs a q rS16) H locs → lv_has ls 6 [(0, .ref a), (1, .int p1), (3, .int v11)] → W p l e rmX10_made s m args below meth c H locs 0 0 Q (F0 m 133 ls [])) → W p l e rmX10_made s m args below meth c H locs 0 0 Q (F0 m 75 ls []) := by
              intro n
              induction n with
              | zero => intro v15 S16 rS16 hf; exact (loopF_z hf).elim
              | succ n ih =>
                intro v15 S16 rS16 hf H locs ls hw hl K
                obtain ⟨x, hf, hx0⟩ := loopF_ob hf
                have hf : B_X10_made_75 p1 v11 v15 S16 = some x := hf
                unfold B_X10_made_75 at hf
                refine lv_iload (pc := 75) hx hb dX10_made_75 (lv_at hl 3 rfl) ?_
                refine lv_aload_n (pc := 77) hx hb dX10_made_77 rfl (lv_at hl 0 rfl) ?_
                refine x_get (pc := 78) X hw in_X10_made_X10 0 rfl rfl 14 (by decide) (List.mem_of_getElem? (i := 3) rfl) rfl dX10_made_78 ?_
                refine lv_icmp_ge (pc := 81) (tgt := 133) hx hb dX10_made_81 (by decide) (fun c17 => ?_) (fun c17 => ?_)
                · have hf := ipos c17 hf
                  cases hf
                  cases (hx0 : S16 = rS16)
                  exact K _ _ _ hw (lv_sub hl [0, 1, 2] rfl)
                · have hf := ineg c17 hf
                  refine lv_iload_n (pc := 84) hx hb dX10_made_84 rfl (lv_at hl 1 rfl) ?_
                  refine lv_iconst (pc := 85) (v := 2) hx hb dX10_made_85 (by decide) ?_
                  obtain ⟨v18, hj, hf⟩ := b1_ob hf
                  have J104_17 : ∀ (H : Heap) (locs : List Loc) (ls : Array Slot), WD D A s (wX10 cs a q S16) H locs → lv_has ls 6 [(0, .ref a), (1, .int p1), (3, .int v11), (4, .int v15)] → W p l e rmX10_made s m args below meth c H locs 0 0 Q (F0 m 104 ls [.int v18]) := by
                    intro H locs ls hw hl
                    refine lv_istore (lv' := [(5, .int v18), (0, .ref a), (1, .int p1), (3, .int v11), (4, .int v15)]) (pc := 104) hx hb dX10_made_104 hl (by decide) rfl (fun ls hl => ?_)
                    refine lv_aload_n (pc := 106) hx hb dX10_made_106 rfl (lv_at hl 1 rfl) ?_
                    refine x_get (pc := 107) X hw in_X10_made_X10 0 rfl rfl 21 (by decide) (List.mem_of_getElem? (i := 5) rfl) rfl dX10_made_107 ?_
                    refine lv_iload_n (pc := 110) hx hb dX10_made_110 rfl (lv_at hl 3 rfl) ?_
                    refine lv_dup2_11 (pc := 111) hx hb dX10_made_111 rfl rfl ?_
                    obtain ⟨v20, ev20, hf⟩ := b1_ob hf
                    refine x_iald (pc := 112) X hw 12 0 rfl rfl ev20 dX10_made_112 ?_
                    refine lv_iload_n (pc := 113) hx hb dX10_made_113 rfl (lv_at hl 3 rfl) ?_
                    refine lv_iload (pc := 114) hx hb dX10_made_114 (lv_at hl 0 rfl) ?_
                    refine lv_iand (pc := 116) hx hb dX10_made_116 ?_
                    obtain ⟨v21, hc, hf⟩ := b1_ob hf
                    refine x_nil (pc := 117) X hw (va_runS (As := [.int (v11 &&& v18)]) (rest := [.int v20, .int v11, .ref (q 21)]) ⟨hx, hb, hml, hown, hts⟩ (c_X10_bits l D cs (v11 &&& v18) v21 hc _) (va_cwS 1 hts gX10_made_X10_bits rfl rfl rfl (by decide +kernel) ⟨Nat.le_of_ble_eq_true rfl, Nat.le_of_ble_eq_true rfl⟩) ⟨CP_blind, x_preN X [.int (v11 &&& v18)]⟩ rfl rfl hl.1 rfl (lv_room (Nat.le_of_ble_eq_true rfl)) dX10_made_117 ⟨Nat.zero_le _, Nat.zero_le _⟩) (fun H locs hw => ?_)
                    refine lv_iconst (pc := 120) (v := 2) hx hb dX10_made_120 (by decide) ?_
                    refine lv_irem (pc := 121) hx hb dX10_made_121 (by decide) ?_
                    refine lv_iload (pc := 122) hx hb dX10_made_122 (lv_at hl 4 rfl) ?_
                    refine lv_ishl (pc := 124) hx hb dX10_made_124 ?_
                    refine lv_ior (pc := 125) hx hb dX10_made_125 ?_
                    obtain ⟨S22, eS22, hf⟩ := b1_ob hf
                    refine x_iast (pc := 126) X hw 12 0 rfl rfl (wA_ob eS22).1 dX10_made_126 (ws2 := wX10 cs a q S22) (by rw [(wA_ob eS22).2]; rfl) (fun H locs hw => ?_)
                    obtain ⟨v23, ev23, hf⟩ := bn_ob hf
                    refine lv_iinc (pc := 127) (v := v23) (lv' := [(4, .int v23), (5, .int v18), (0, .ref a), (1, .int p1), (3, .int v11)]) hx hb dX10_made_127 hl (k := 4) rfl (by rw [ev23]; rfl) (by decide) rfl (fun ls hl => ?_)
                    refine lv_goto (pc := 130) (tgt := 75) hx hb dX10_made_130 (by decide) ?_
                    cases hf
                    exact ih v23 S22 rS16 hx0 _ _ _ hw (lv_sub hl [2, 3, 4, 0] rfl) K
                  clear hf; have hf := hj; clear hj
                  refine lv_icmp_ne (pc := 86) (tgt := 96) hx hb dX10_made_86 (by decide) (fun c19 => ?_) (fun c19 => ?_)
                  · have hf := ineg c19 hf
                    refine lv_iconst (pc := 96) (v := 2) hx hb dX10_made_96 (by decide) ?_
                    refine lv_iload (pc := 97) hx hb dX10_made_97 (lv_at hl 3 rfl) ?_
                    refine lv_iconst (pc := 99) (v := 1) hx hb dX10_made_99 (by decide) ?_
                    refine lv_iadd (pc := 100) hx hb dX10_made_100 ?_
                    refine lv_imul (pc := 101) hx hb dX10_made_101 ?_
                    refine lv_iconst (pc := 102) (v := 1) hx hb dX10_made_102 (by decide) ?_
                    refine lv_iadd (pc := 103) hx hb dX10_made_103 ?_
                    cases hf
                    exact J104_17 _ _ _ hw (lv_sub hl [0, 1, 2, 3] rfl)
                  · have hf := ipos c19 hf
                    refine lv_iload (pc := 89) hx hb dX10_made_89 (lv_at hl 3 rfl) ?_
                    refine lv_iconst (pc := 91) (v := 1) hx hb dX10_made_91 (by decide) ?_
                    refine lv_iadd (pc := 92) hx hb dX10_made_92 ?_
                    refine lv_goto (pc := 93) (tgt := 104) hx hb dX10_made_93 (by decide) ?_
                    cases hf
                    exact J104_17 _ _ _ hw (lv_sub hl [0, 1, 2, 3] rfl)
            obtain ⟨S24, hj, hf⟩ := b1_ob hf
            refine L75 _ 0 S14 S24 hj _ _ _ hw (lv_sub hl [1, 2, 3, 0] rfl) (fun H locs ls hw hl => ?_)
            clear hj L75
            obtain ⟨v25, ev25, hf⟩ := bn_ob hf
            refine lv_iinc (pc := 133) (v := v25) (lv' := [(3, .int v25), (0, .ref a), (1, .int p1)]) hx hb dX10_made_133 hl (k := 2) rfl (by rw [ev25]; rfl) (by decide) rfl (fun ls hl => ?_)
            refine lv_goto (pc := 136) (tgt := 57) hx hb dX10_made_136 (by decide) ?_
            cases hf
            exact ih v25 S24 rS12 hx0 _ _ _ hw (lv_sub hl [1, 2, 0] rfl) K
      obtain ⟨S26, hj, hf⟩ := b1_ob hf
      refine L57 _ 0 S10 S26 hj _ _ _ hw (lv_sub hl [2, 3, 0] rfl) (fun H locs ls hw hl => ?_)
      clear hj L57
      refine lv_aload_n (pc := 139) hx hb dX10_made_139 rfl (lv_at hl 0 rfl) ?_
      refine x_get (pc := 140) X hw in_X10_made_X10 0 rfl rfl 22 (by decide) (List.mem_of_getElem? (i := 4) rfl) rfl dX10_made_140 ?_
      cases hf
      exact hret _ _ 143 _ hw ⟨_, rfl, rfl⟩ dX10_made_143
    clear hf; have hf := hj; clear hj
    refine lv_icmp_ne (pc := 38) (tgt := 45) hx hb dX10_made_38 (by decide) (fun c8 => ?_) (fun c8 => ?_)
    · have hf := ineg c8 hf
      refine lv_iconst (pc := 45) (v := 0) hx hb dX10_made_45 (by decide) ?_
      cases hf
      exact J46_6 _ _ _ hw (lv_sub hl [0, 1] rfl)
    · have hf := ipos c8 hf
      refine lv_iconst (pc := 41) (v := 1) hx hb dX10_made_41 (by decide) ?_
      refine lv_goto (pc := 42) (tgt := 46) hx hb dX10_made_42 (by decide) ?_
      cases hf
      exact J46_6 _ _ _ hw (lv_sub hl [0, 1] rfl)
  · have hf := ipos c2 hf
    refine lv_bipush (pc := 14) (v := (-3)) hx hb dX10_made_14 (by decide) ?_
    cases hf
    exact hret _ _ 16 _ hw ⟨_, rfl, rfl⟩ dX10_made_16

theorem in_X10_of_X10 : ∀ w ∈ wsX100, w ∈ wsX10_of := fun _ h => List.mem_cons_of_mem _ (List.mem_append_right _ h)
abbrev rmX10_of : Room := { frames := 2, cells := 0, slots := 0, locals := 47 }
def B_X10_of_31 (S : PS) (p1 : Int32) (v5 : Int32) (v6 : Int32) : Option ((Int32 × Int32) ⊕ (Int32)) :=
  if (S.1 22) ≤ v6 then
    some (.inr v5)
  else
  b1 (rdI 32 (S.2.1 21) v6) fun v8 =>
  b1 (f_X10_isBetter S p1 v8 v5) fun v9 =>
  b1 (
    if v9 = 0 then
      some v5
    else
    b1 (rdI 32 (S.2.1 21) v6) fun v12 =>
    some v12) fun v10 =>
  bn (v6 + 1) fun v13 =>
  some (.inl (v10, v13))
def L_X10_of_31 (S : PS) (p1 : Int32) (n : Nat) (v5 : Int32) (v6 : Int32) : Option (Int32) := loopF (fun x : Int32 × Int32 => B_X10_of_31 S p1 x.1 x.2) n (v5, v6)
def f_X10_of (S : PS) (p1 : Int32) : Option (Int32) :=
  b1 (f_X10_in (p1.toInt64) 0 1) fun v1 =>
  if v1 = 0 then
    some (-3)
  else
  if (S.1 22) = 0 then
    some (-1)
  else
  b1 (rdI 32 (S.2.1 21) 0) fun v4 =>
  b1 (L_X10_of_31 S p1 FU v4 1) fun v14 =>
  some v14
set_option maxHeartbeats 4000000 in
set_option maxRecDepth 100000 in
theorem c_X10_of (l : Launch) (D : va_G) (cs : CS) (a : Nat) (q : Nat → Nat) (S : PS) (p1 : Int32) (r : Int32) (hf : f_X10_of S p1 = some r) : CT l D (TY cs) yX10_of wsX10_of rmX10_of [.ref a, .int p1] (wX10 cs a q S) (some (.int r)) (wX10 cs a q S) := by
  refine CT.ofW (own := RX10) (cc := cX10_of) (maxL := 4) (ret := some .int) (by decide) rfl rfl (Nat.le_of_ble_eq_true rfl) ?_
  intro p e s m args below meth c A Q X hret ls hl hw
  obtain ⟨hx, hb, hml, hown, hts, hK, hA, hr, hlk⟩ := id X
  have hl : lv_has ls 4 [(0, .ref a), (1, .int p1)] := hl
  unfold f_X10_of at hf
  refine lv_iload_n (pc := 0) hx hb dX10_of_0 rfl (lv_at hl 1 rfl) ?_
  refine lv_i2l (pc := 1) hx hb dX10_of_1 rfl ?_
  refine lv_lconst (pc := 2) (v := 0) hx hb dX10_of_2 (by decide) ?_
  refine lv_lconst (pc := 3) (v := 1) hx hb dX10_of_3 (by decide) ?_
  obtain ⟨v1, hc, hf⟩ := b1_ob hf
  refine x_nil (pc := 4) X hw (va_runS (As := [.long (p1.toInt64), .long 0, .long 1]) (rest := []) ⟨hx, hb, hml, hown, hts⟩ (c_X10_in l D cs (p1.toInt64) 0 1 v1 hc _) (va_cwS 3 hts gX10_of_X10_in rfl rfl rfl (by decide +kernel) ⟨Nat.le_of_ble_eq_true rfl, Nat.le_of_ble_eq_true rfl⟩) ⟨CP_blind, x_preN X [.long (p1.toInt64), .long 0, .long 1]⟩ rfl rfl hl.1 rfl (lv_room (Nat.le_of_ble_eq_true rfl)) dX10_of_4 ⟨Nat.zero_le _, Nat.zero_le _⟩) (fun H locs hw => ?_)
  refine lv_if_ne (pc := 7) (tgt := 13) hx hb dX10_of_7 (by decide) (fun c2 => ?_) (fun c2 => ?_)
  · have hf := ineg c2 hf
    refine lv_aload_n (pc := 13) hx hb dX10_of_13 rfl (lv_at hl 0 rfl) ?_
    refine x_get (pc := 14) X hw in_X10_of_X10 0 rfl rfl 22 (by decide) (List.mem_of_getElem? (i := 1) rfl) rfl dX10_of_14 ?_
    refine lv_if_ne (pc := 17) (tgt := 22) hx hb dX10_of_17 (by decide) (fun c3 => ?_) (fun c3 => ?_)
    · have hf := ineg c3 hf
      refine lv_aload_n (pc := 22) hx hb dX10_of_22 rfl (lv_at hl 0 rfl) ?_
      refine x_get (pc := 23) X hw in_X10_of_X10 0 rfl rfl 21 (by decide) (List.mem_of_getElem? (i := 2) rfl) rfl dX10_of_23 ?_
      refine lv_iconst (pc := 26) (v := 0) hx hb dX10_of_26 (by decide) ?_
      obtain ⟨v4, ev4, hf⟩ := b1_ob hf
      refine x_iald (pc := 27) X hw 12 0 rfl rfl ev4 dX10_of_27 ?_
      refine lv_istore_n (lv' := [(2, .int v4), (0, .ref a), (1, .int p1)]) (pc := 28) hx hb dX10_of_28 rfl hl (by decide) rfl (fun ls hl => ?_)
      refine lv_iconst (pc := 29) (v := 1) hx hb dX10_of_29 (by decide) ?_
      refine lv_istore_n (lv' := [(3, .int 1), (2, .int v4), (0, .ref a), (1, .int p1)]) (pc := 30) hx hb dX10_of_30 rfl hl (by decide) rfl (fun ls hl => ?_)
      have L31 : ∀ (n : Nat) (v5 : Int32) (v6 : Int32) (rv5 : Int32), L_X10_of_31 S p1 n v5 v6 = some rv5 → ∀ (H : Heap) (locs : List Loc) (ls : Array Slot), WD D A s (wX10 cs a q S) H locs → lv_has ls 4 [(0, .ref a), (1, .int p1), (2, .int v5), (3, .int v6)] → (∀ (H : Heap) (locs : List Loc) (ls : Array Slot), WD D A s (wX10 cs a q S) H locs → lv_has ls 4 [(2, .int rv5)] → W p l e rmX10_of s m args below meth c H locs 0 0 Q (F0 m 71 ls [])) → W p l e rmX10_of s m args below meth c H locs 0 0 Q (F0 m 31 ls []) := by
        intro n
        induction n with
        | zero => intro v5 v6 rv5 hf; exact (loopF_z hf).elim
        | succ n ih =>
          intro v5 v6 rv5 hf H locs ls hw hl K
          obtain ⟨x, hf, hx0⟩ := loopF_ob hf
          have hf : B_X10_of_31 S p1 v5 v6 = some x := hf
          unfold B_X10_of_31 at hf
          refine lv_iload_n (pc := 31) hx hb dX10_of_31 rfl (lv_at hl 3 rfl) ?_
          refine lv_aload_n (pc := 32) hx hb dX10_of_32 rfl (lv_at hl 0 rfl) ?_
          refine x_get (pc := 33) X hw in_X10_of_X10 0 rfl rfl 22 (by decide) (List.mem_of_getElem? (i := 1) rfl) rfl dX10_of_33 ?_
          refine lv_icmp_ge (pc := 36) (tgt := 71) hx hb dX10_of_36 (by decide) (fun c7 => ?_) (fun c7 => ?_)
          · have hf := ipos c7 hf
            cases hf
            cases (hx0 : v5 = rv5)
            exact K _ _ _ hw (lv_sub hl [2] rfl)
          · have hf := ineg c7 hf
            refine lv_aload_n (pc := 39) hx hb dX10_of_39 rfl (lv_at hl 0 rfl) ?_
            refine lv_iload_n (pc := 40) hx hb dX10_of_40 rfl (lv_at hl 1 rfl) ?_
            refine lv_aload_n (pc := 41) hx hb dX10_of_41 rfl (lv_at hl 0 rfl) ?_
            refine x_get (pc := 42) X hw in_X10_of_X10 0 rfl rfl 21 (by decide) (List.mem_of_getElem? (i := 2) rfl) rfl dX10_of_42 ?_
            refine lv_iload_n (pc := 45) hx hb dX10_of_45 rfl (lv_at hl 3 rfl) ?_
            obtain ⟨v8, ev8, hf⟩ := b1_ob hf
            refine x_iald (pc := 46) X hw 12 0 rfl rfl ev8 dX10_of_46 ?_
            refine lv_iload_n (pc := 47) hx hb dX10_of_47 rfl (lv_at hl 2 rfl) ?_
            obtain ⟨v9, hc, hf⟩ := b1_ob hf
            refine x_all (pc := 48) X hw (va_runV (As := [.int p1, .int v8, .int v5]) (rest := []) ⟨hx, hb, hml, hown, hts⟩ (c_X10_isBetter l D cs a q S p1 v8 v5 v9 hc _) (cwV 3 hts gX10_of_X10_isBetter rfl rfl rfl (by decide +kernel) ⟨Nat.le_of_ble_eq_true rfl, Nat.le_of_ble_eq_true rfl⟩) ⟨CP_blind, va_recv hK hw.1 (ci := 10) (q0 := 0) rfl rfl, x_preA X hw [.ref a, .int p1, .int v8, .int v5]⟩ rfl rfl hl.1 rfl (lv_room (Nat.le_of_ble_eq_true rfl)) dX10_of_48 ⟨Nat.zero_le _, Nat.zero_le _⟩) (fun H locs hw => ?_)
            obtain ⟨v10, hj, hf⟩ := b1_ob hf
            have J64_9 : ∀ (H : Heap) (locs : List Loc) (ls : Array Slot), WD D A s (wX10 cs a q S) H locs → lv_has ls 4 [(0, .ref a), (1, .int p1), (3, .int v6)] → W p l e rmX10_of s m args below meth c H locs 0 0 Q (F0 m 64 ls [.int v10]) := by
              intro H locs ls hw hl
              refine lv_istore_n (lv' := [(2, .int v10), (0, .ref a), (1, .int p1), (3, .int v6)]) (pc := 64) hx hb dX10_of_64 rfl hl (by decide) rfl (fun ls hl => ?_)
              obtain ⟨v13, ev13, hf⟩ := bn_ob hf
              refine lv_iinc (pc := 65) (v := v13) (lv' := [(3, .int v13), (2, .int v10), (0, .ref a), (1, .int p1)]) hx hb dX10_of_65 hl (k := 3) rfl (by rw [ev13]; rfl) (by decide) rfl (fun ls hl => ?_)
              refine lv_goto (pc := 68) (tgt := 31) hx hb dX10_of_68 (by decide) ?_
              cases hf
              exact ih v10 v13 rv5 hx0 _ _ _ hw (lv_sub hl [2, 3, 1, 0] rfl) K
            clear hf; have hf := hj; clear hj
            refine lv_if_eq (pc := 51) (tgt := 63) hx hb dX10_of_51 (by decide) (fun c11 => ?_) (fun c11 => ?_)
            · have hf := ipos c11 hf
              refine lv_iload_n (pc := 63) hx hb dX10_of_63 rfl (lv_at hl 2 rfl) ?_
              cases hf
              exact J64_9 _ _ _ hw (lv_sub hl [0, 1, 3] rfl)
            · have hf := ineg c11 hf
              refine lv_aload_n (pc := 54) hx hb dX10_of_54 rfl (lv_at hl 0 rfl) ?_
              refine x_get (pc := 55) X hw in_X10_of_X10 0 rfl rfl 21 (by decide) (List.mem_of_getElem? (i := 2) rfl) rfl dX10_of_55 ?_
              refine lv_iload_n (pc := 58) hx hb dX10_of_58 rfl (lv_at hl 3 rfl) ?_
              obtain ⟨v12, ev12, hf⟩ := b1_ob hf
              refine x_iald (pc := 59) X hw 12 0 rfl rfl ev12 dX10_of_59 ?_
              refine lv_goto (pc := 60) (tgt := 64) hx hb dX10_of_60 (by decide) ?_
              cases hf
              exact J64_9 _ _ _ hw (lv_sub hl [0, 1, 3] rfl)
      obtain ⟨v14, hj, hf⟩ := b1_ob hf
      refine L31 _ v4 1 v14 hj _ _ _ hw (lv_sub hl [2, 3, 1, 0] rfl) (fun H locs ls hw hl => ?_)
      clear hj L31
      refine lv_iload_n (pc := 71) hx hb dX10_of_71 rfl (lv_at hl 0 rfl) ?_
      cases hf
      exact hret _ _ 72 _ hw ⟨_, rfl, rfl⟩ dX10_of_72
    · have hf := ipos c3 hf
      refine lv_iconst (pc := 20) (v := (-1)) hx hb dX10_of_20 (by decide) ?_
      cases hf
      exact hret _ _ 21 _ hw ⟨_, rfl, rfl⟩ dX10_of_21
  · have hf := ipos c2 hf
    refine lv_bipush (pc := 10) (v := (-3)) hx hb dX10_of_10 (by decide) ?_
    cases hf
    exact hret _ _ 12 _ hw ⟨_, rfl, rfl⟩ dX10_of_12

theorem in_X10_often_X10 : ∀ w ∈ wsX100, w ∈ wsX10_often := fun _ h => List.mem_cons_of_mem _ (List.mem_append_right _ h)
abbrev rmX10_often : Room := { frames := 0, cells := 0, slots := 0, locals := 0 }
def B_X10_often_5 (S : PS) (p1 : Int32) (p2 : Int32) (v1 : Int32) (v2 : Int32) : Option ((Int32 × Int32) ⊕ (Int32)) :=
  if (S.1 22) ≤ v2 then
    some (.inr v1)
  else
  b1 (rdI 32 (S.2.1 21) v2) fun v4 =>
  b1 (
    if (v4 &&& p1) = p2 then
      some (1 : Int32)
    else
    some (0 : Int32)) fun v5 =>
  bn (v1 + v5) fun v7 =>
  bn (v2 + 1) fun v8 =>
  some (.inl (v7, v8))
def L_X10_often_5 (S : PS) (p1 : Int32) (p2 : Int32) (n : Nat) (v1 : Int32) (v2 : Int32) : Option (Int32) := loopF (fun x : Int32 × Int32 => B_X10_often_5 S p1 p2 x.1 x.2) n (v1, v2)
def f_X10_often (S : PS) (p1 : Int32) (p2 : Int32) : Option (Int32) :=
  b1 (L_X10_often_5 S p1 p2 FU 0 0) fun v9 =>
  some v9
set_option maxHeartbeats 4000000 in
set_option maxRecDepth 100000 in
theorem c_X10_often (l : Launch) (D : va_G) (cs : CS) (a : Nat) (q : Nat → Nat) (S : PS) (p1 : Int32) (p2 : Int32) (r : Int32) (hf : f_X10_often S p1 p2 = some r) : CT l D (TY cs) yX10_often wsX10_often rmX10_often [.ref a, .int p1, .int p2] (wX10 cs a q S) (some (.int r)) (wX10 cs a q S) := by
  refine CT.ofW (own := RX10) (cc := cX10_often) (maxL := 5) (ret := some .int) (by decide) rfl rfl (Nat.le_of_ble_eq_true rfl) ?_
  intro p e s m args below meth c A Q X hret ls hl hw
  obtain ⟨hx, hb, hml, hown, hts, hK, hA, hr, hlk⟩ := id X
  have hl : lv_has ls 5 [(0, .ref a), (1, .int p1), (2, .int p2)] := hl
  unfold f_X10_often at hf
  refine lv_iconst (pc := 0) (v := 0) hx hb dX10_often_0 (by decide) ?_
  refine lv_istore_n (lv' := [(3, .int 0), (0, .ref a), (1, .int p1), (2, .int p2)]) (pc := 1) hx hb dX10_often_1 rfl hl (by decide) rfl (fun ls hl => ?_)
  refine lv_iconst (pc := 2) (v := 0) hx hb dX10_often_2 (by decide) ?_
  refine lv_istore (lv' := [(4, .int 0), (3, .int 0), (0, .ref a), (1, .int p1), (2, .int p2)]) (pc := 3) hx hb dX10_often_3 hl (by decide) rfl (fun ls hl => ?_)
  have L5 : ∀ (n : Nat) (v1 : Int32) (v2 : Int32) (rv1 : Int32), L_X10_often_5 S p1 p2 n v1 v2 = some rv1 → ∀ (H : Heap) (locs : List Loc) (ls : Array Slot), WD D A s (wX10 cs a q S) H locs → lv_has ls 5 [(0, .ref a), (1, .int p1), (2, .int p2), (3, .int v1), (4, .int v2)] → (∀ (H : Heap) (locs : List Loc) (ls : Array Slot), WD D A s (wX10 cs a q S) H locs → lv_has ls 5 [(3, .int rv1)] → W p l e rmX10_often s m args below meth c H locs 0 0 Q (F0 m 41 ls [])) → W p l e rmX10_often s m args below meth c H locs 0 0 Q (F0 m 5 ls []) := by
    intro n
    induction n with
    | zero => intro v1 v2 rv1 hf; exact (loopF_z hf).elim
    | succ n ih =>
      intro v1 v2 rv1 hf H locs ls hw hl K
      obtain ⟨x, hf, hx0⟩ := loopF_ob hf
      have hf : B_X10_often_5 S p1 p2 v1 v2 = some x := hf
      unfold B_X10_often_5 at hf
      refine lv_iload (pc := 5) hx hb dX10_often_5 (lv_at hl 4 rfl) ?_
      refine lv_aload_n (pc := 7) hx hb dX10_often_7 rfl (lv_at hl 0 rfl) ?_
      refine x_get (pc := 8) X hw in_X10_often_X10 0 rfl rfl 22 (by decide) (List.mem_of_getElem? (i := 1) rfl) rfl dX10_often_8 ?_
      refine lv_icmp_ge (pc := 11) (tgt := 41) hx hb dX10_often_11 (by decide) (fun c3 => ?_) (fun c3 => ?_)
      · have hf := ipos c3 hf
        cases hf
        cases (hx0 : v1 = rv1)
        exact K _ _ _ hw (lv_sub hl [3] rfl)
      · have hf := ineg c3 hf
        refine lv_iload_n (pc := 14) hx hb dX10_often_14 rfl (lv_at hl 3 rfl) ?_
        refine lv_aload_n (pc := 15) hx hb dX10_often_15 rfl (lv_at hl 0 rfl) ?_
        refine x_get (pc := 16) X hw in_X10_often_X10 0 rfl rfl 21 (by decide) (List.mem_of_getElem? (i := 2) rfl) rfl dX10_often_16 ?_
        refine lv_iload (pc := 19) hx hb dX10_often_19 (lv_at hl 4 rfl) ?_
        obtain ⟨v4, ev4, hf⟩ := b1_ob hf
        refine x_iald (pc := 21) X hw 12 0 rfl rfl ev4 dX10_often_21 ?_
        refine lv_iload_n (pc := 22) hx hb dX10_often_22 rfl (lv_at hl 1 rfl) ?_
        refine lv_iand (pc := 23) hx hb dX10_often_23 ?_
        refine lv_iload_n (pc := 24) hx hb dX10_often_24 rfl (lv_at hl 2 rfl) ?_
        obtain ⟨v5, hj, hf⟩ := b1_ob hf
        have J33_4 : ∀ (H : Heap) (locs : List Loc) (ls : Array Slot), WD D A s (wX10 cs a q S) H locs → lv_has ls 5 [(0, .ref a), (1, .int p1), (2, .int p2), (4, .int v2)] → W p l e rmX10_often s m args below meth c H locs 0 0 Q (F0 m 33 ls [.int v5, .int v1]) := by
          intro H locs ls hw hl
          refine lv_iadd (pc := 33) hx hb dX10_often_33 ?_
          obtain ⟨v7, ev7, hf⟩ := bn_ob hf
          refine x_topi ev7 ?_
          refine lv_istore_n (lv' := [(3, .int v7), (0, .ref a), (1, .int p1), (2, .int p2), (4, .int v2)]) (pc := 34) hx hb dX10_often_34 rfl hl (by decide) rfl (fun ls hl => ?_)
          obtain ⟨v8, ev8, hf⟩ := bn_ob hf
          refine lv_iinc (pc := 35) (v := v8) (lv' := [(4, .int v8), (3, .int v7), (0, .ref a), (1, .int p1), (2, .int p2)]) hx hb dX10_often_35 hl (k := 4) rfl (by rw [ev8]; rfl) (by decide) rfl (fun ls hl => ?_)
          refine lv_goto (pc := 38) (tgt := 5) hx hb dX10_often_38 (by decide) ?_
          cases hf
          exact ih v7 v8 rv1 hx0 _ _ _ hw (lv_sub hl [2, 3, 4, 1, 0] rfl) K
        clear hf; have hf := hj; clear hj
        refine lv_icmp_ne (pc := 25) (tgt := 32) hx hb dX10_often_25 (by decide) (fun c6 => ?_) (fun c6 => ?_)
        · have hf := ineg c6 hf
          refine lv_iconst (pc := 32) (v := 0) hx hb dX10_often_32 (by decide) ?_
          cases hf
          exact J33_4 _ _ _ hw (lv_sub hl [0, 1, 2, 4] rfl)
        · have hf := ipos c6 hf
          refine lv_iconst (pc := 28) (v := 1) hx hb dX10_often_28 (by decide) ?_
          refine lv_goto (pc := 29) (tgt := 33) hx hb dX10_often_29 (by decide) ?_
          cases hf
          exact J33_4 _ _ _ hw (lv_sub hl [0, 1, 2, 4] rfl)
  obtain ⟨v9, hj, hf⟩ := b1_ob hf
  refine L5 _ 0 0 v9 hj _ _ _ hw (lv_sub hl [2, 3, 4, 1, 0] rfl) (fun H locs ls hw hl => ?_)
  clear hj L5
  refine lv_iload_n (pc := 41) hx hb dX10_often_41 rfl (lv_at hl 0 rfl) ?_
  cases hf
  exact hret _ _ 42 _ hw ⟨_, rfl, rfl⟩ dX10_often_42

theorem in_X10_even_X10 : ∀ w ∈ wsX100, w ∈ wsX10_even := fun _ h => List.mem_cons_of_mem _ (List.mem_append_right _ h)
abbrev rmX10_even : Room := { frames := 1, cells := 0, slots := 0, locals := 25 }
def B_X10_even_50 (S : PS) (p1 : Int32) (v6 : Int32) (v8 : Int32) (v9 : Int32) : Option ((Int32 × Int32) ⊕ (Int32)) :=
  if ((1 : Int32) <<< ((S.1 14) &&& 31)) ≤ v9 then
    some (.inr v8)
  else
  b1 (f_X10_bits v6) fun v11 =>
  if v11 = p1 then
    b1 (
      if v8 = 0 then
        some (0 : Int32)
      else
      if (v9 &&& (v6 ^^^ (-1))) = 0 then
        b1 (f_X10_often S v6 v9) fun v16 =>
        if (v16 * ((1 : Int32) <<< (p1 &&& 31))) = (S.1 22) then
          some (1 : Int32)
        else
        some (0 : Int32)
      else
      some (1 : Int32)) fun v13 =>
    bn (v9 + 1) fun v18 =>
    some (.inl (v13, v18))
  else
  some (.inr v8)
def L_X10_even_50 (S : PS) (p1 : Int32) (v6 : Int32) (n : Nat) (v8 : Int32) (v9 : Int32) : Option (Int32) := loopF (fun x : Int32 × Int32 => B_X10_even_50 S p1 v6 x.1 x.2) n (v8, v9)
def B_X10_even_37 (S : PS) (p1 : Int32) (v5 : Int32) (v6 : Int32) : Option ((Int32 × Int32) ⊕ (Int32)) :=
  if ((1 : Int32) <<< ((S.1 14) &&& 31)) ≤ v6 then
    some (.inr v5)
  else
  b1 (L_X10_even_50 S p1 v6 FU v5 0) fun v19 =>
  bn (v6 + 1) fun v20 =>
  some (.inl (v19, v20))
def L_X10_even_37 (S : PS) (p1 : Int32) (n : Nat) (v5 : Int32) (v6 : Int32) : Option (Int32) := loopF (fun x : Int32 × Int32 => B_X10_even_37 S p1 x.1 x.2) n (v5, v6)
def f_X10_even (S : PS) (p1 : Int32) : Option (Int32) :=
  b1 (f_X10_in (p1.toInt64) 1 (3)) fun v1 =>
  if v1 = 0 then
    some (-3)
  else
  if p1 ≤ (S.1 14) then
    if (S.1 22) = 0 then
      some (-4)
    else
    b1 (L_X10_even_37 S p1 FU 1 1) fun v21 =>
    b1 (
      if v21 = 0 then
        some (0 : Int32)
      else
      some (1 : Int32)) fun v22 =>
    some v22
  else
  some (-3)
set_option maxHeartbeats 4000000 in
set_option maxRecDepth 100000 in
theorem c_X10_even (l : Launch) (D : va_G) (cs : CS) (a : Nat) (q : Nat → Nat) (S : PS) (p1 : Int32) (r : Int32) (hf : f_X10_even S p1 = some r) : CT l D (TY cs) yX10_even wsX10_even rmX10_even [.ref a, .int p1] (wX10 cs a q S) (some (.int r)) (wX10 cs a q S) := by
  refine CT.ofW (own := RX10) (cc := cX10_even) (maxL := 5) (ret := some .int) (by decide) rfl rfl (Nat.le_of_ble_eq_true rfl) ?_
  intro p e s m args below meth c A Q X hret ls hl hw
  obtain ⟨hx, hb, hml, hown, hts, hK, hA, hr, hlk⟩ := id X
  have hl : lv_has ls 5 [(0, .ref a), (1, .int p1)] := hl
  unfold f_X10_even at hf
  refine lv_iload_n (pc := 0) hx hb dX10_even_0 rfl (lv_at hl 1 rfl) ?_
  refine lv_i2l (pc := 1) hx hb dX10_even_1 rfl ?_
  refine lv_lconst (pc := 2) (v := 1) hx hb dX10_even_2 (by decide) ?_
  refine lv_ldc2 (pc := 3) (v := (3)) hx hb hown (hts _ (List.mem_of_getElem? (i := 1) rfl)) dX10_even_3 ?_
  obtain ⟨v1, hc, hf⟩ := b1_ob hf
  refine x_nil (pc := 6) X hw (va_runS (As := [.long (p1.toInt64), .long 1, .long (3)]) (rest := []) ⟨hx, hb, hml, hown, hts⟩ (c_X10_in l D cs (p1.toInt64) 1 (3) v1 hc _) (va_cwS 3 hts gX10_even_X10_in rfl rfl rfl (by decide +kernel) ⟨Nat.le_of_ble_eq_true rfl, Nat.le_of_ble_eq_true rfl⟩) ⟨CP_blind, x_preN X [.long (p1.toInt64), .long 1, .long (3)]⟩ rfl rfl hl.1 rfl (lv_room (Nat.le_of_ble_eq_true rfl)) dX10_even_6 ⟨Nat.zero_le _, Nat.zero_le _⟩) (fun H locs hw => ?_)
  refine lv_if_eq (pc := 9) (tgt := 20) hx hb dX10_even_9 (by decide) (fun c2 => ?_) (fun c2 => ?_)
  · have hf := ipos c2 hf
    refine lv_bipush (pc := 20) (v := (-3)) hx hb dX10_even_20 (by decide) ?_
    cases hf
    exact hret _ _ 22 _ hw ⟨_, rfl, rfl⟩ dX10_even_22
  · have hf := ineg c2 hf
    refine lv_iload_n (pc := 12) hx hb dX10_even_12 rfl (lv_at hl 1 rfl) ?_
    refine lv_aload_n (pc := 13) hx hb dX10_even_13 rfl (lv_at hl 0 rfl) ?_
    refine x_get (pc := 14) X hw in_X10_even_X10 0 rfl rfl 14 (by decide) (List.mem_of_getElem? (i := 2) rfl) rfl dX10_even_14 ?_
    refine lv_icmp_le (pc := 17) (tgt := 23) hx hb dX10_even_17 (by decide) (fun c3 => ?_) (fun c3 => ?_)
    · have hf := ipos c3 hf
      refine lv_aload_n (pc := 23) hx hb dX10_even_23 rfl (lv_at hl 0 rfl) ?_
      refine x_get (pc := 24) X hw in_X10_even_X10 0 rfl rfl 22 (by decide) (List.mem_of_getElem? (i := 3) rfl) rfl dX10_even_24 ?_
      refine lv_if_ne (pc := 27) (tgt := 33) hx hb dX10_even_27 (by decide) (fun c4 => ?_) (fun c4 => ?_)
      · have hf := ineg c4 hf
        refine lv_iconst (pc := 33) (v := 1) hx hb dX10_even_33 (by decide) ?_
        refine lv_istore_n (lv' := [(2, .int 1), (0, .ref a), (1, .int p1)]) (pc := 34) hx hb dX10_even_34 rfl hl (by decide) rfl (fun ls hl => ?_)
        refine lv_iconst (pc := 35) (v := 1) hx hb dX10_even_35 (by decide) ?_
        refine lv_istore_n (lv' := [(3, .int 1), (2, .int 1), (0, .ref a), (1, .int p1)]) (pc := 36) hx hb dX10_even_36 rfl hl (by decide) rfl (fun ls hl => ?_)
        have L37 : ∀ (n : Nat) (v5 : Int32) (v6 : Int32) (rv5 : Int32), L_X10_even_37 S p1 n v5 v6 = some rv5 → ∀ (H : Heap) (locs : List Loc) (ls : Array Slot), WD D A s (wX10 cs a q S) H locs → lv_has ls 5 [(0, .ref a), (1, .int p1), (2, .int v5), (3, .int v6)] → (∀ (H : Heap) (locs : List Loc) (ls : Array Slot), WD D A s (wX10 cs a q S) H locs → lv_has ls 5 [(2, .int rv5)] → W p l e rmX10_even s m args below meth c H locs 0 0 Q (F0 m 118 ls [])) → W p l e rmX10_even s m args below meth c H locs 0 0 Q (F0 m 37 ls []) := by
          intro n
          induction n with
          | zero => intro v5 v6 rv5 hf; exact (loopF_z hf).elim
          | succ n ih =>
            intro v5 v6 rv5 hf H locs ls hw hl K
            obtain ⟨x, hf, hx0⟩ := loopF_ob hf
            have hf : B_X10_even_37 S p1 v5 v6 = some x := hf
            unfold B_X10_even_37 at hf
            refine lv_iload_n (pc := 37) hx hb dX10_even_37 rfl (lv_at hl 3 rfl) ?_
            refine lv_iconst (pc := 38) (v := 1) hx hb dX10_even_38 (by decide) ?_
            refine lv_aload_n (pc := 39) hx hb dX10_even_39 rfl (lv_at hl 0 rfl) ?_
            refine x_get (pc := 40) X hw in_X10_even_X10 0 rfl rfl 14 (by decide) (List.mem_of_getElem? (i := 2) rfl) rfl dX10_even_40 ?_
            refine lv_ishl (pc := 43) hx hb dX10_even_43 ?_
            refine lv_icmp_ge (pc := 44) (tgt := 118) hx hb dX10_even_44 (by decide) (fun c7 => ?_) (fun c7 => ?_)
            · have hf := ipos c7 hf
              cases hf
              cases (hx0 : v5 = rv5)
              exact K _ _ _ hw (lv_sub hl [2] rfl)
            · have hf := ineg c7 hf
              refine lv_iconst (pc := 47) (v := 0) hx hb dX10_even_47 (by decide) ?_
              refine lv_istore (lv' := [(4, .int 0), (0, .ref a), (1, .int p1), (2, .int v5), (3, .int v6)]) (pc := 48) hx hb dX10_even_48 hl (by decide) rfl (fun ls hl => ?_)
              have L50 : ∀ (n : Nat) (v8 : Int32) (v9 : Int32) (rv8 : Int32), L_X10_even_50 S p1 v6 n v8 v9 = some rv8 → ∀ (H : Heap) (locs : List Loc) (ls : Array Slot), WD D A s (wX10 cs a q S) H locs → lv_has ls 5 [(0, .ref a), (1, .int p1), (2, .int v8), (3, .int v6), (4, .int v9)] → (∀ (H : Heap) (locs : List Loc) (ls : Array Slot), WD D A s (wX10 cs a q S) H locs → lv_has ls 5 [(0, .ref a), (1, .int p1), (2, .int rv8), (3, .int v6)] → W p l e rmX10_even s m args below meth c H locs 0 0 Q (F0 m 112 ls [])) → W p l e rmX10_even s m args below meth c H locs 0 0 Q (F0 m 50 ls []) := by
                intro n
                induction n with
                | zero => intro v8 v9 rv8 hf; exact (loopF_z hf).elim
                | succ n ih =>
                  intro v8 v9 rv8 hf H locs ls hw hl K
                  obtain ⟨x, hf, hx0⟩ := loopF_ob hf
                  have hf : B_X10_even_50 S p1 v6 v8 v9 = some x := hf
                  unfold B_X10_even_50 at hf
                  refine lv_iload (pc := 50) hx hb dX10_even_50 (lv_at hl 4 rfl) ?_
                  refine lv_iconst (pc := 52) (v := 1) hx hb dX10_even_52 (by decide) ?_
                  refine lv_aload_n (pc := 53) hx hb dX10_even_53 rfl (lv_at hl 0 rfl) ?_
                  refine x_get (pc := 54) X hw in_X10_even_X10 0 rfl rfl 14 (by decide) (List.mem_of_getElem? (i := 2) rfl) rfl dX10_even_54 ?_
                  refine lv_ishl (pc := 57) hx hb dX10_even_57 ?_
                  refine lv_icmp_ge (pc := 58) (tgt := 112) hx hb dX10_even_58 (by decide) (fun c10 => ?_) (fun c10 => ?_)
                  · have hf := ipos c10 hf
                    cases hf
                    cases (hx0 : v8 = rv8)
                    exact K _ _ _ hw (lv_sub hl [0, 1, 2, 3] rfl)
                  · have hf := ineg c10 hf
                    refine lv_iload_n (pc := 61) hx hb dX10_even_61 rfl (lv_at hl 3 rfl) ?_
                    obtain ⟨v11, hc, hf⟩ := b1_ob hf
                    refine x_nil (pc := 62) X hw (va_runS (As := [.int v6]) (rest := []) ⟨hx, hb, hml, hown, hts⟩ (c_X10_bits l D cs v6 v11 hc _) (va_cwS 1 hts gX10_even_X10_bits rfl rfl rfl (by decide +kernel) ⟨Nat.le_of_ble_eq_true rfl, Nat.le_of_ble_eq_true rfl⟩) ⟨CP_blind, x_preN X [.int v6]⟩ rfl rfl hl.1 rfl (lv_room (Nat.le_of_ble_eq_true rfl)) dX10_even_62 ⟨Nat.zero_le _, Nat.zero_le _⟩) (fun H locs hw => ?_)
                    refine lv_iload_n (pc := 65) hx hb dX10_even_65 rfl (lv_at hl 1 rfl) ?_
                    refine lv_icmp_ne (pc := 66) (tgt := 112) hx hb dX10_even_66 (by decide) (fun c12 => ?_) (fun c12 => ?_)
                    · have hf := ineg c12 hf
                      cases hf
                      cases (hx0 : v8 = rv8)
                      exact K _ _ _ hw (lv_sub hl [0, 1, 2, 3] rfl)
                    · have hf := ipos c12 hf
                      refine lv_iload_n (pc := 69) hx hb dX10_even_69 rfl (lv_at hl 2 rfl) ?_
                      obtain ⟨v13, hj, hf⟩ := b1_ob hf
                      have J105_12 : ∀ (H : Heap) (locs : List Loc) (ls : Array Slot), WD D A s (wX10 cs a q S) H locs → lv_has ls 5 [(0, .ref a), (1, .int p1), (3, .int v6), (4, .int v9)] → W p l e rmX10_even s m args below meth c H locs 0 0 Q (F0 m 105 ls [.int v13]) := by
                        intro H locs ls hw hl
                        refine lv_istore_n (lv' := [(2, .int v13), (0, .ref a), (1, .int p1), (3, .int v6), (4, .int v9)]) (pc := 105) hx hb dX10_even_105 rfl hl (by decide) rfl (fun ls hl => ?_)
                        obtain ⟨v18, ev18, hf⟩ := bn_ob hf
                        refine lv_iinc (pc := 106) (v := v18) (lv' := [(4, .int v18), (2, .int v13), (0, .ref a), (1, .int p1), (3, .int v6)]) hx hb dX10_even_106 hl (k := 4) rfl (by rw [ev18]; rfl) (by decide) rfl (fun ls hl => ?_)
                        refine lv_goto (pc := 109) (tgt := 50) hx hb dX10_even_109 (by decide) ?_
                        cases hf
                        exact ih v13 v18 rv8 hx0 _ _ _ hw (lv_sub hl [2, 3, 1, 4, 0] rfl) K
                      clear hf; have hf := hj; clear hj
                      refine lv_if_eq (pc := 70) (tgt := 104) hx hb dX10_even_70 (by decide) (fun c14 => ?_) (fun c14 => ?_)
                      · have hf := ipos c14 hf
                        refine lv_iconst (pc := 104) (v := 0) hx hb dX10_even_104 (by decide) ?_
                        cases hf
                        exact J105_12 _ _ _ hw (lv_sub hl [0, 1, 3, 4] rfl)
                      · have hf := ineg c14 hf
                        refine lv_iload (pc := 73) hx hb dX10_even_73 (lv_at hl 4 rfl) ?_
                        refine lv_iload_n (pc := 75) hx hb dX10_even_75 rfl (lv_at hl 3 rfl) ?_
                        refine lv_iconst (pc := 76) (v := (-1)) hx hb dX10_even_76 (by decide) ?_
                        refine lv_ixor (pc := 77) hx hb dX10_even_77 ?_
                        refine lv_iand (pc := 78) hx hb dX10_even_78 ?_
                        refine lv_if_ne (pc := 79) (tgt := 100) hx hb dX10_even_79 (by decide) (fun c15 => ?_) (fun c15 => ?_)
                        · have hf := ineg c15 hf
                          refine lv_iconst (pc := 100) (v := 1) hx hb dX10_even_100 (by decide) ?_
                          refine lv_goto (pc := 101) (tgt := 105) hx hb dX10_even_101 (by decide) ?_
                          cases hf
                          exact J105_12 _ _ _ hw (lv_sub hl [0, 1, 3, 4] rfl)
                        · have hf := ipos c15 hf
                          refine lv_aload_n (pc := 82) hx hb dX10_even_82 rfl (lv_at hl 0 rfl) ?_
                          refine lv_iload_n (pc := 83) hx hb dX10_even_83 rfl (lv_at hl 3 rfl) ?_
                          refine lv_iload (pc := 84) hx hb dX10_even_84 (lv_at hl 4 rfl) ?_
                          obtain ⟨v16, hc, hf⟩ := b1_ob hf
                          refine x_all (pc := 86) X hw (va_runV (As := [.int v6, .int v9]) (rest := []) ⟨hx, hb, hml, hown, hts⟩ (c_X10_often l D cs a q S v6 v9 v16 hc _) (cwV 2 hts gX10_even_X10_often rfl rfl rfl (by decide +kernel) ⟨Nat.le_of_ble_eq_true rfl, Nat.le_of_ble_eq_true rfl⟩) ⟨CP_blind, va_recv hK hw.1 (ci := 10) (q0 := 0) rfl rfl, x_preA X hw [.ref a, .int v6, .int v9]⟩ rfl rfl hl.1 rfl (lv_room (Nat.le_of_ble_eq_true rfl)) dX10_even_86 ⟨Nat.zero_le _, Nat.zero_le _⟩) (fun H locs hw => ?_)
                          refine lv_iconst (pc := 89) (v := 1) hx hb dX10_even_89 (by decide) ?_
                          refine lv_iload_n (pc := 90) hx hb dX10_even_90 rfl (lv_at hl 1 rfl) ?_
                          refine lv_ishl (pc := 91) hx hb dX10_even_91 ?_
                          refine lv_imul (pc := 92) hx hb dX10_even_92 ?_
                          refine lv_aload_n (pc := 93) hx hb dX10_even_93 rfl (lv_at hl 0 rfl) ?_
                          refine x_get (pc := 94) X hw in_X10_even_X10 0 rfl rfl 22 (by decide) (List.mem_of_getElem? (i := 3) rfl) rfl dX10_even_94 ?_
                          refine lv_icmp_ne (pc := 97) (tgt := 104) hx hb dX10_even_97 (by decide) (fun c17 => ?_) (fun c17 => ?_)
                          · have hf := ineg c17 hf
                            refine lv_iconst (pc := 104) (v := 0) hx hb dX10_even_104 (by decide) ?_
                            cases hf
                            exact J105_12 _ _ _ hw (lv_sub hl [0, 1, 3, 4] rfl)
                          · have hf := ipos c17 hf
                            refine lv_iconst (pc := 100) (v := 1) hx hb dX10_even_100 (by decide) ?_
                            refine lv_goto (pc := 101) (tgt := 105) hx hb dX10_even_101 (by decide) ?_
                            cases hf
                            exact J105_12 _ _ _ hw (lv_sub hl [0, 1, 3, 4] rfl)
              obtain ⟨v19, hj, hf⟩ := b1_ob hf
              refine L50 _ v5 0 v19 hj _ _ _ hw (lv_sub hl [1, 2, 3, 4, 0] rfl) (fun H locs ls hw hl => ?_)
              clear hj L50
              obtain ⟨v20, ev20, hf⟩ := bn_ob hf
              refine lv_iinc (pc := 112) (v := v20) (lv' := [(3, .int v20), (0, .ref a), (1, .int p1), (2, .int v19)]) hx hb dX10_even_112 hl (k := 3) rfl (by rw [ev20]; rfl) (by decide) rfl (fun ls hl => ?_)
              refine lv_goto (pc := 115) (tgt := 37) hx hb dX10_even_115 (by decide) ?_
              cases hf
              exact ih v19 v20 rv5 hx0 _ _ _ hw (lv_sub hl [1, 2, 3, 0] rfl) K
        obtain ⟨v21, hj, hf⟩ := b1_ob hf
        refine L37 _ 1 1 v21 hj _ _ _ hw (lv_sub hl [2, 3, 1, 0] rfl) (fun H locs ls hw hl => ?_)
        clear hj L37
        refine lv_iload_n (pc := 118) hx hb dX10_even_118 rfl (lv_at hl 0 rfl) ?_
        obtain ⟨v22, hj, hf⟩ := b1_ob hf
        have J127_21 : ∀ (H : Heap) (locs : List Loc) (ls : Array Slot), WD D A s (wX10 cs a q S) H locs → lv_has ls 5 [] → W p l e rmX10_even s m args below meth c H locs 0 0 Q (F0 m 127 ls [.int v22]) := by
          intro H locs ls hw hl
          cases hf
          exact hret _ _ 127 _ hw ⟨_, rfl, rfl⟩ dX10_even_127
        clear hf; have hf := hj; clear hj
        refine lv_if_eq (pc := 119) (tgt := 126) hx hb dX10_even_119 (by decide) (fun c23 => ?_) (fun c23 => ?_)
        · have hf := ipos c23 hf
          refine lv_iconst (pc := 126) (v := 0) hx hb dX10_even_126 (by decide) ?_
          cases hf
          exact J127_21 _ _ _ hw (lv_sub hl [] rfl)
        · have hf := ineg c23 hf
          refine lv_iconst (pc := 122) (v := 1) hx hb dX10_even_122 (by decide) ?_
          refine lv_goto (pc := 123) (tgt := 127) hx hb dX10_even_123 (by decide) ?_
          cases hf
          exact J127_21 _ _ _ hw (lv_sub hl [] rfl)
      · have hf := ipos c4 hf
        refine lv_bipush (pc := 30) (v := (-4)) hx hb dX10_even_30 (by decide) ?_
        cases hf
        exact hret _ _ 32 _ hw ⟨_, rfl, rfl⟩ dX10_even_32
    · have hf := ineg c3 hf
      refine lv_bipush (pc := 20) (v := (-3)) hx hb dX10_even_20 (by decide) ?_
      cases hf
      exact hret _ _ 22 _ hw ⟨_, rfl, rfl⟩ dX10_even_22

theorem in_X10_error_X10 : ∀ w ∈ wsX100, w ∈ wsX10_error := fun _ h => List.mem_cons_of_mem _ (List.mem_append_right _ h)
abbrev rmX10_error : Room := { frames := 2, cells := 0, slots := 0, locals := 55 }
def B_X10_error_54 (S : PS) (p1 : Int32) (v7 : Int32) (v9 : Int32) (v10 : Int32) : Option ((Int32 × Int32) ⊕ (Int32)) :=
  if (S.1 22) ≤ v10 then
    some (.inr v9)
  else
  b1 (f_X10_bits v7) fun v12 =>
  if p1 < v12 then
    some (.inr v9)
  else
  b1 (rdI 32 (S.2.1 21) v10) fun v14 =>
  b1 (f_X10_bits (v14 &&& v7)) fun v15 =>
  b1 (
    if (v15 - v15 / 2 * 2) = 1 then
      some (1 : Int32)
    else
    some ((-1) : Int32)) fun v16 =>
  bn (v9 + v16) fun v18 =>
  bn (v10 + 1) fun v19 =>
  some (.inl (v18, v19))
def L_X10_error_54 (S : PS) (p1 : Int32) (v7 : Int32) (n : Nat) (v9 : Int32) (v10 : Int32) : Option (Int32) := loopF (fun x : Int32 × Int32 => B_X10_error_54 S p1 v7 x.1 x.2) n (v9, v10)
def B_X10_error_37 (S : PS) (p1 : Int32) (v6 : Int32) (v7 : Int32) : Option ((Int32 × Int32) ⊕ (Int32)) :=
  if ((1 : Int32) <<< ((S.1 14) &&& 31)) ≤ v7 then
    some (.inr v6)
  else
  b1 (L_X10_error_54 S p1 v7 FU 0 0) fun v20 =>
  b1 (
    if 0 ≤ v20 then
      some v20
    else
    some (-v20)) fun v21 =>
  b1 (
    if v21 ≤ v6 then
      some v6
    else
    some v21) fun v23 =>
  bn (v7 + 1) fun v25 =>
  some (.inl (v23, v25))
def L_X10_error_37 (S : PS) (p1 : Int32) (n : Nat) (v6 : Int32) (v7 : Int32) : Option (Int32) := loopF (fun x : Int32 × Int32 => B_X10_error_37 S p1 x.1 x.2) n (v6, v7)
def f_X10_error (S : PS) (p1 : Int32) (p2 : Int32) : Option (Int32) :=
  b1 (f_X10_in (p1.toInt64) 1 (8)) fun v1 =>
  if v1 = 0 then
    some (-3)
  else
  b1 (f_X10_isPart p2) fun v3 =>
  if v3 = 0 then
    some (-3)
  else
  if (S.1 22) = 0 then
    some (-4)
  else
  b1 (L_X10_error_37 S p1 FU 0 1) fun v26 =>
  b1 (f_X10_partOf (v26.toInt64) ((S.1 22).toInt64) p2) fun v27 =>
  some v27
set_option maxHeartbeats 4000000 in
set_option maxRecDepth 100000 in
theorem c_X10_error (l : Launch) (D : va_G) (cs : CS) (a : Nat) (q : Nat → Nat) (S : PS) (p1 : Int32) (p2 : Int32) (r : Int32) (hf : f_X10_error S p1 p2 = some r) : CT l D (TY cs) yX10_error wsX10_error rmX10_error [.ref a, .int p1, .int p2] (wX10 cs a q S) (some (.int r)) (wX10 cs a q S) := by
  refine CT.ofW (own := RX10) (cc := cX10_error) (maxL := 7) (ret := some .int) (by decide) rfl rfl (Nat.le_of_ble_eq_true rfl) ?_
  intro p e s m args below meth c A Q X hret ls hl hw
  obtain ⟨hx, hb, hml, hown, hts, hK, hA, hr, hlk⟩ := id X
  have hl : lv_has ls 7 [(0, .ref a), (1, .int p1), (2, .int p2)] := hl
  unfold f_X10_error at hf
  refine lv_iload_n (pc := 0) hx hb dX10_error_0 rfl (lv_at hl 1 rfl) ?_
  refine lv_i2l (pc := 1) hx hb dX10_error_1 rfl ?_
  refine lv_lconst (pc := 2) (v := 1) hx hb dX10_error_2 (by decide) ?_
  refine lv_ldc2 (pc := 3) (v := (8)) hx hb hown (hts _ (List.mem_of_getElem? (i := 1) rfl)) dX10_error_3 ?_
  obtain ⟨v1, hc, hf⟩ := b1_ob hf
  refine x_nil (pc := 6) X hw (va_runS (As := [.long (p1.toInt64), .long 1, .long (8)]) (rest := []) ⟨hx, hb, hml, hown, hts⟩ (c_X10_in l D cs (p1.toInt64) 1 (8) v1 hc _) (va_cwS 3 hts gX10_error_X10_in rfl rfl rfl (by decide +kernel) ⟨Nat.le_of_ble_eq_true rfl, Nat.le_of_ble_eq_true rfl⟩) ⟨CP_blind, x_preN X [.long (p1.toInt64), .long 1, .long (8)]⟩ rfl rfl hl.1 rfl (lv_room (Nat.le_of_ble_eq_true rfl)) dX10_error_6 ⟨Nat.zero_le _, Nat.zero_le _⟩) (fun H locs hw => ?_)
  refine lv_if_eq (pc := 9) (tgt := 19) hx hb dX10_error_9 (by decide) (fun c2 => ?_) (fun c2 => ?_)
  · have hf := ipos c2 hf
    refine lv_bipush (pc := 19) (v := (-3)) hx hb dX10_error_19 (by decide) ?_
    cases hf
    exact hret _ _ 21 _ hw ⟨_, rfl, rfl⟩ dX10_error_21
  · have hf := ineg c2 hf
    refine lv_iload_n (pc := 12) hx hb dX10_error_12 rfl (lv_at hl 2 rfl) ?_
    obtain ⟨v3, hc, hf⟩ := b1_ob hf
    refine x_nil (pc := 13) X hw (va_runS (As := [.int p2]) (rest := []) ⟨hx, hb, hml, hown, hts⟩ (c_X10_isPart l D cs p2 v3 hc _) (va_cwS 1 hts gX10_error_X10_isPart rfl rfl rfl (by decide +kernel) ⟨Nat.le_of_ble_eq_true rfl, Nat.le_of_ble_eq_true rfl⟩) ⟨CP_blind, x_preN X [.int p2]⟩ rfl rfl hl.1 rfl (lv_room (Nat.le_of_ble_eq_true rfl)) dX10_error_13 ⟨Nat.zero_le _, Nat.zero_le _⟩) (fun H locs hw => ?_)
    refine lv_if_ne (pc := 16) (tgt := 22) hx hb dX10_error_16 (by decide) (fun c4 => ?_) (fun c4 => ?_)
    · have hf := ineg c4 hf
      refine lv_aload_n (pc := 22) hx hb dX10_error_22 rfl (lv_at hl 0 rfl) ?_
      refine x_get (pc := 23) X hw in_X10_error_X10 0 rfl rfl 22 (by decide) (List.mem_of_getElem? (i := 2) rfl) rfl dX10_error_23 ?_
      refine lv_if_ne (pc := 26) (tgt := 32) hx hb dX10_error_26 (by decide) (fun c5 => ?_) (fun c5 => ?_)
      · have hf := ineg c5 hf
        refine lv_iconst (pc := 32) (v := 0) hx hb dX10_error_32 (by decide) ?_
        refine lv_istore_n (lv' := [(3, .int 0), (0, .ref a), (1, .int p1), (2, .int p2)]) (pc := 33) hx hb dX10_error_33 rfl hl (by decide) rfl (fun ls hl => ?_)
        refine lv_iconst (pc := 34) (v := 1) hx hb dX10_error_34 (by decide) ?_
        refine lv_istore (lv' := [(4, .int 1), (3, .int 0), (0, .ref a), (1, .int p1), (2, .int p2)]) (pc := 35) hx hb dX10_error_35 hl (by decide) rfl (fun ls hl => ?_)
        have L37 : ∀ (n : Nat) (v6 : Int32) (v7 : Int32) (rv6 : Int32), L_X10_error_37 S p1 n v6 v7 = some rv6 → ∀ (H : Heap) (locs : List Loc) (ls : Array Slot), WD D A s (wX10 cs a q S) H locs → lv_has ls 7 [(0, .ref a), (1, .int p1), (2, .int p2), (3, .int v6), (4, .int v7)] → (∀ (H : Heap) (locs : List Loc) (ls : Array Slot), WD D A s (wX10 cs a q S) H locs → lv_has ls 7 [(0, .ref a), (2, .int p2), (3, .int rv6)] → W p l e rmX10_error s m args below meth c H locs 0 0 Q (F0 m 141 ls [])) → W p l e rmX10_error s m args below meth c H locs 0 0 Q (F0 m 37 ls []) := by
          intro n
          induction n with
          | zero => intro v6 v7 rv6 hf; exact (loopF_z hf).elim
          | succ n ih =>
            intro v6 v7 rv6 hf H locs ls hw hl K
            obtain ⟨x, hf, hx0⟩ := loopF_ob hf
            have hf : B_X10_error_37 S p1 v6 v7 = some x := hf
            unfold B_X10_error_37 at hf
            refine lv_iload (pc := 37) hx hb dX10_error_37 (lv_at hl 4 rfl) ?_
            refine lv_iconst (pc := 39) (v := 1) hx hb dX10_error_39 (by decide) ?_
            refine lv_aload_n (pc := 40) hx hb dX10_error_40 rfl (lv_at hl 0 rfl) ?_
            refine x_get (pc := 41) X hw in_X10_error_X10 0 rfl rfl 14 (by decide) (List.mem_of_getElem? (i := 3) rfl) rfl dX10_error_41 ?_
            refine lv_ishl (pc := 44) hx hb dX10_error_44 ?_
            refine lv_icmp_ge (pc := 45) (tgt := 141) hx hb dX10_error_45 (by decide) (fun c8 => ?_) (fun c8 => ?_)
            · have hf := ipos c8 hf
              cases hf
              cases (hx0 : v6 = rv6)
              exact K _ _ _ hw (lv_sub hl [0, 2, 3] rfl)
            · have hf := ineg c8 hf
              refine lv_iconst (pc := 48) (v := 0) hx hb dX10_error_48 (by decide) ?_
              refine lv_istore (lv' := [(5, .int 0), (0, .ref a), (1, .int p1), (2, .int p2), (3, .int v6), (4, .int v7)]) (pc := 49) hx hb dX10_error_49 hl (by decide) rfl (fun ls hl => ?_)
              refine lv_iconst (pc := 51) (v := 0) hx hb dX10_error_51 (by decide) ?_
              refine lv_istore (lv' := [(6, .int 0), (5, .int 0), (0, .ref a), (1, .int p1), (2, .int p2), (3, .int v6), (4, .int v7)]) (pc := 52) hx hb dX10_error_52 hl (by decide) rfl (fun ls hl => ?_)
              have L54 : ∀ (n : Nat) (v9 : Int32) (v10 : Int32) (rv9 : Int32), L_X10_error_54 S p1 v7 n v9 v10 = some rv9 → ∀ (H : Heap) (locs : List Loc) (ls : Array Slot), WD D A s (wX10 cs a q S) H locs → lv_has ls 7 [(0, .ref a), (1, .int p1), (2, .int p2), (3, .int v6), (4, .int v7), (5, .int v9), (6, .int v10)] → (∀ (H : Heap) (locs : List Loc) (ls : Array Slot), WD D A s (wX10 cs a q S) H locs → lv_has ls 7 [(0, .ref a), (1, .int p1), (2, .int p2), (3, .int v6), (4, .int v7), (5, .int rv9)] → W p l e rmX10_error s m args below meth c H locs 0 0 Q (F0 m 107 ls [])) → W p l e rmX10_error s m args below meth c H locs 0 0 Q (F0 m 54 ls []) := by
                intro n
                induction n with
                | zero => intro v9 v10 rv9 hf; exact (loopF_z hf).elim
                | succ n ih =>
                  intro v9 v10 rv9 hf H locs ls hw hl K
                  obtain ⟨x, hf, hx0⟩ := loopF_ob hf
                  have hf : B_X10_error_54 S p1 v7 v9 v10 = some x := hf
                  unfold B_X10_error_54 at hf
                  refine lv_iload (pc := 54) hx hb dX10_error_54 (lv_at hl 6 rfl) ?_
                  refine lv_aload_n (pc := 56) hx hb dX10_error_56 rfl (lv_at hl 0 rfl) ?_
                  refine x_get (pc := 57) X hw in_X10_error_X10 0 rfl rfl 22 (by decide) (List.mem_of_getElem? (i := 2) rfl) rfl dX10_error_57 ?_
                  refine lv_icmp_ge (pc := 60) (tgt := 107) hx hb dX10_error_60 (by decide) (fun c11 => ?_) (fun c11 => ?_)
                  · have hf := ipos c11 hf
                    cases hf
                    cases (hx0 : v9 = rv9)
                    exact K _ _ _ hw (lv_sub hl [0, 1, 2, 3, 4, 5] rfl)
                  · have hf := ineg c11 hf
                    refine lv_iload (pc := 63) hx hb dX10_error_63 (lv_at hl 4 rfl) ?_
                    obtain ⟨v12, hc, hf⟩ := b1_ob hf
                    refine x_nil (pc := 65) X hw (va_runS (As := [.int v7]) (rest := []) ⟨hx, hb, hml, hown, hts⟩ (c_X10_bits l D cs v7 v12 hc _) (va_cwS 1 hts gX10_error_X10_bits rfl rfl rfl (by decide +kernel) ⟨Nat.le_of_ble_eq_true rfl, Nat.le_of_ble_eq_true rfl⟩) ⟨CP_blind, x_preN X [.int v7]⟩ rfl rfl hl.1 rfl (lv_room (Nat.le_of_ble_eq_true rfl)) dX10_error_65 ⟨Nat.zero_le _, Nat.zero_le _⟩) (fun H locs hw => ?_)
                    refine lv_iload_n (pc := 68) hx hb dX10_error_68 rfl (lv_at hl 1 rfl) ?_
                    refine lv_icmp_gt (pc := 69) (tgt := 107) hx hb dX10_error_69 (by decide) (fun c13 => ?_) (fun c13 => ?_)
                    · have hf := ipos c13 hf
                      cases hf
                      cases (hx0 : v9 = rv9)
                      exact K _ _ _ hw (lv_sub hl [0, 1, 2, 3, 4, 5] rfl)
                    · have hf := ineg c13 hf
                      refine lv_iload (pc := 72) hx hb dX10_error_72 (lv_at hl 5 rfl) ?_
                      refine lv_aload_n (pc := 74) hx hb dX10_error_74 rfl (lv_at hl 0 rfl) ?_
                      refine x_get (pc := 75) X hw in_X10_error_X10 0 rfl rfl 21 (by decide) (List.mem_of_getElem? (i := 4) rfl) rfl dX10_error_75 ?_
                      refine lv_iload (pc := 78) hx hb dX10_error_78 (lv_at hl 6 rfl) ?_
                      obtain ⟨v14, ev14, hf⟩ := b1_ob hf
                      refine x_iald (pc := 80) X hw 12 0 rfl rfl ev14 dX10_error_80 ?_
                      refine lv_iload (pc := 81) hx hb dX10_error_81 (lv_at hl 4 rfl) ?_
                      refine lv_iand (pc := 83) hx hb dX10_error_83 ?_
                      obtain ⟨v15, hc, hf⟩ := b1_ob hf
                      refine x_nil (pc := 84) X hw (va_runS (As := [.int (v14 &&& v7)]) (rest := [.int v9]) ⟨hx, hb, hml, hown, hts⟩ (c_X10_bits l D cs (v14 &&& v7) v15 hc _) (va_cwS 1 hts gX10_error_X10_bits rfl rfl rfl (by decide +kernel) ⟨Nat.le_of_ble_eq_true rfl, Nat.le_of_ble_eq_true rfl⟩) ⟨CP_blind, x_preN X [.int (v14 &&& v7)]⟩ rfl rfl hl.1 rfl (lv_room (Nat.le_of_ble_eq_true rfl)) dX10_error_84 ⟨Nat.zero_le _, Nat.zero_le _⟩) (fun H locs hw => ?_)
                      refine lv_iconst (pc := 87) (v := 2) hx hb dX10_error_87 (by decide) ?_
                      refine lv_irem (pc := 88) hx hb dX10_error_88 (by decide) ?_
                      refine lv_iconst (pc := 89) (v := 1) hx hb dX10_error_89 (by decide) ?_
                      obtain ⟨v16, hj, hf⟩ := b1_ob hf
                      have J98_15 : ∀ (H : Heap) (locs : List Loc) (ls : Array Slot), WD D A s (wX10 cs a q S) H locs → lv_has ls 7 [(0, .ref a), (1, .int p1), (2, .int p2), (3, .int v6), (4, .int v7), (6, .int v10)] → W p l e rmX10_error s m args below meth c H locs 0 0 Q (F0 m 98 ls [.int v16, .int v9]) := by
                        intro H locs ls hw hl
                        refine lv_iadd (pc := 98) hx hb dX10_error_98 ?_
                        obtain ⟨v18, ev18, hf⟩ := bn_ob hf
                        refine x_topi ev18 ?_
                        refine lv_istore (lv' := [(5, .int v18), (0, .ref a), (1, .int p1), (2, .int p2), (3, .int v6), (4, .int v7), (6, .int v10)]) (pc := 99) hx hb dX10_error_99 hl (by decide) rfl (fun ls hl => ?_)
                        obtain ⟨v19, ev19, hf⟩ := bn_ob hf
                        refine lv_iinc (pc := 101) (v := v19) (lv' := [(6, .int v19), (5, .int v18), (0, .ref a), (1, .int p1), (2, .int p2), (3, .int v6), (4, .int v7)]) hx hb dX10_error_101 hl (k := 6) rfl (by rw [ev19]; rfl) (by decide) rfl (fun ls hl => ?_)
                        refine lv_goto (pc := 104) (tgt := 54) hx hb dX10_error_104 (by decide) ?_
                        cases hf
                        exact ih v18 v19 rv9 hx0 _ _ _ hw (lv_sub hl [2, 3, 4, 5, 6, 1, 0] rfl) K
                      clear hf; have hf := hj; clear hj
                      refine lv_icmp_ne (pc := 90) (tgt := 97) hx hb dX10_error_90 (by decide) (fun c17 => ?_) (fun c17 => ?_)
                      · have hf := ineg c17 hf
                        refine lv_iconst (pc := 97) (v := (-1)) hx hb dX10_error_97 (by decide) ?_
                        cases hf
                        exact J98_15 _ _ _ hw (lv_sub hl [0, 1, 2, 3, 4, 6] rfl)
                      · have hf := ipos c17 hf
                        refine lv_iconst (pc := 93) (v := 1) hx hb dX10_error_93 (by decide) ?_
                        refine lv_goto (pc := 94) (tgt := 98) hx hb dX10_error_94 (by decide) ?_
                        cases hf
                        exact J98_15 _ _ _ hw (lv_sub hl [0, 1, 2, 3, 4, 6] rfl)
              obtain ⟨v20, hj, hf⟩ := b1_ob hf
              refine L54 _ 0 0 v20 hj _ _ _ hw (lv_sub hl [2, 3, 4, 5, 6, 1, 0] rfl) (fun H locs ls hw hl => ?_)
              clear hj L54
              refine lv_iload (pc := 107) hx hb dX10_error_107 (lv_at hl 5 rfl) ?_
              obtain ⟨v21, hj, hf⟩ := b1_ob hf
              have J120_20 : ∀ (H : Heap) (locs : List Loc) (ls : Array Slot), WD D A s (wX10 cs a q S) H locs → lv_has ls 7 [(0, .ref a), (1, .int p1), (2, .int p2), (3, .int v6), (4, .int v7)] → W p l e rmX10_error s m args below meth c H locs 0 0 Q (F0 m 120 ls [.int v21]) := by
                intro H locs ls hw hl
                refine lv_istore (lv' := [(5, .int v21), (0, .ref a), (1, .int p1), (2, .int p2), (3, .int v6), (4, .int v7)]) (pc := 120) hx hb dX10_error_120 hl (by decide) rfl (fun ls hl => ?_)
                refine lv_iload (pc := 122) hx hb dX10_error_122 (lv_at hl 0 rfl) ?_
                refine lv_iload_n (pc := 124) hx hb dX10_error_124 rfl (lv_at hl 4 rfl) ?_
                obtain ⟨v23, hj, hf⟩ := b1_ob hf
                have J134_22 : ∀ (H : Heap) (locs : List Loc) (ls : Array Slot), WD D A s (wX10 cs a q S) H locs → lv_has ls 7 [(0, .ref a), (1, .int p1), (2, .int p2), (4, .int v7)] → W p l e rmX10_error s m args below meth c H locs 0 0 Q (F0 m 134 ls [.int v23]) := by
                  intro H locs ls hw hl
                  refine lv_istore_n (lv' := [(3, .int v23), (0, .ref a), (1, .int p1), (2, .int p2), (4, .int v7)]) (pc := 134) hx hb dX10_error_134 rfl hl (by decide) rfl (fun ls hl => ?_)
                  obtain ⟨v25, ev25, hf⟩ := bn_ob hf
                  refine lv_iinc (pc := 135) (v := v25) (lv' := [(4, .int v25), (3, .int v23), (0, .ref a), (1, .int p1), (2, .int p2)]) hx hb dX10_error_135 hl (k := 4) rfl (by rw [ev25]; rfl) (by decide) rfl (fun ls hl => ?_)
                  refine lv_goto (pc := 138) (tgt := 37) hx hb dX10_error_138 (by decide) ?_
                  cases hf
                  exact ih v23 v25 rv6 hx0 _ _ _ hw (lv_sub hl [2, 3, 4, 1, 0] rfl) K
                clear hf; have hf := hj; clear hj
                refine lv_icmp_le (pc := 125) (tgt := 133) hx hb dX10_error_125 (by decide) (fun c24 => ?_) (fun c24 => ?_)
                · have hf := ipos c24 hf
                  refine lv_iload_n (pc := 133) hx hb dX10_error_133 rfl (lv_at hl 4 rfl) ?_
                  cases hf
                  exact J134_22 _ _ _ hw (lv_sub hl [1, 2, 3, 5] rfl)
                · have hf := ineg c24 hf
                  refine lv_iload (pc := 128) hx hb dX10_error_128 (lv_at hl 0 rfl) ?_
                  refine lv_goto (pc := 130) (tgt := 134) hx hb dX10_error_130 (by decide) ?_
                  cases hf
                  exact J134_22 _ _ _ hw (lv_sub hl [1, 2, 3, 5] rfl)
              clear hf; have hf := hj; clear hj
              refine lv_if_ge (pc := 109) (tgt := 118) hx hb dX10_error_109 (by decide) (fun c22 => ?_) (fun c22 => ?_)
              · have hf := ipos c22 hf
                refine lv_iload (pc := 118) hx hb dX10_error_118 (lv_at hl 5 rfl) ?_
                cases hf
                exact J120_20 _ _ _ hw (lv_sub hl [0, 1, 2, 3, 4] rfl)
              · have hf := ineg c22 hf
                refine lv_iload (pc := 112) hx hb dX10_error_112 (lv_at hl 5 rfl) ?_
                refine lv_ineg (pc := 114) hx hb dX10_error_114 ?_
                refine lv_goto (pc := 115) (tgt := 120) hx hb dX10_error_115 (by decide) ?_
                cases hf
                exact J120_20 _ _ _ hw (lv_sub hl [0, 1, 2, 3, 4] rfl)
        obtain ⟨v26, hj, hf⟩ := b1_ob hf
        refine L37 _ 0 1 v26 hj _ _ _ hw (lv_sub hl [2, 3, 4, 1, 0] rfl) (fun H locs ls hw hl => ?_)
        clear hj L37
        refine lv_iload_n (pc := 141) hx hb dX10_error_141 rfl (lv_at hl 2 rfl) ?_
        refine lv_i2l (pc := 142) hx hb dX10_error_142 rfl ?_
        refine lv_aload_n (pc := 143) hx hb dX10_error_143 rfl (lv_at hl 0 rfl) ?_
        refine x_get (pc := 144) X hw in_X10_error_X10 0 rfl rfl 22 (by decide) (List.mem_of_getElem? (i := 2) rfl) rfl dX10_error_144 ?_
        refine lv_i2l (pc := 147) hx hb dX10_error_147 rfl ?_
        refine lv_iload_n (pc := 148) hx hb dX10_error_148 rfl (lv_at hl 1 rfl) ?_
        obtain ⟨v27, hc, hf⟩ := b1_ob hf
        refine x_nil (pc := 149) X hw (va_runS (As := [.long (v26.toInt64), .long ((S.1 22).toInt64), .int p2]) (rest := []) ⟨hx, hb, hml, hown, hts⟩ (c_X10_partOf l D cs (v26.toInt64) ((S.1 22).toInt64) p2 v27 hc _) (va_cwS 3 hts gX10_error_X10_partOf rfl rfl rfl (by decide +kernel) ⟨Nat.le_of_ble_eq_true rfl, Nat.le_of_ble_eq_true rfl⟩) ⟨CP_blind, x_preN X [.long (v26.toInt64), .long ((S.1 22).toInt64), .int p2]⟩ rfl rfl hl.1 rfl (lv_room (Nat.le_of_ble_eq_true rfl)) dX10_error_149 ⟨Nat.zero_le _, Nat.zero_le _⟩) (fun H locs hw => ?_)
        cases hf
        exact hret _ _ 152 _ hw ⟨_, rfl, rfl⟩ dX10_error_152
      · have hf := ipos c5 hf
        refine lv_bipush (pc := 29) (v := (-4)) hx hb dX10_error_29 (by decide) ?_
        cases hf
        exact hret _ _ 31 _ hw ⟨_, rfl, rfl⟩ dX10_error_31
    · have hf := ipos c4 hf
      refine lv_bipush (pc := 19) (v := (-3)) hx hb dX10_error_19 (by decide) ?_
      cases hf
      exact hret _ _ 21 _ hw ⟨_, rfl, rfl⟩ dX10_error_21

abbrev rmX10_isWithin : Room := { frames := 1, cells := 0, slots := 0, locals := 22 }
def B_X10_isWithin_26 (p1 : Int32) (p3 : Int32) (v1 : Int32) (v6 : Int32) (v7 : Int32) : Option ((Int32 × Int32) ⊕ (Int32)) :=
  if ((1 : Int32) <<< (p1 &&& 31)) ≤ v7 then
    some (.inr v6)
  else
  b1 (
    if ((p3 >>> (v7 &&& 31)) &&& 1) = 0 then
      some (0 : Int32)
    else
    b1 (f_X10_bits (v7 &&& v1)) fun v11 =>
    if (v11 - v11 / 2 * 2) = 1 then
      some (1 : Int32)
    else
    some ((-1) : Int32)) fun v9 =>
  bn (v6 + v9) fun v13 =>
  bn (v7 + 1) fun v14 =>
  some (.inl (v13, v14))
def L_X10_isWithin_26 (p1 : Int32) (p3 : Int32) (v1 : Int32) (n : Nat) (v6 : Int32) (v7 : Int32) : Option (Int32) := loopF (fun x : Int32 × Int32 => B_X10_isWithin_26 p1 p3 v1 x.1 x.2) n (v6, v7)
def B_X10_isWithin_3 (p1 : Int32) (p2 : Int32) (p3 : Int32) (p4 : Int32) (p5 : Int32) (p6 : Int32) (v1 : Int32) : Option ((Int32) ⊕ (Int32)) :=
  if ((1 : Int32) <<< (p1 &&& 31)) ≤ v1 then
    some (.inr 1)
  else
  b1 (f_X10_bits v1) fun v3 =>
  if p2 < v3 then
    bn (v1 + 1) fun v5 =>
    some (.inl v5)
  else
  b1 (L_X10_isWithin_26 p1 p3 v1 FU 0 0) fun v15 =>
  b1 (
    if 0 ≤ v15 then
      some v15
    else
    some (-v15)) fun v16 =>
  if (v16 * p6) ≤ (p5 * p4) then
    bn (v1 + 1) fun v19 =>
    some (.inl v19)
  else
  some (.inr 0)
def L_X10_isWithin_3 (p1 : Int32) (p2 : Int32) (p3 : Int32) (p4 : Int32) (p5 : Int32) (p6 : Int32) (n : Nat) (v1 : Int32) : Option (Int32) := loopF (fun x : Int32 => B_X10_isWithin_3 p1 p2 p3 p4 p5 p6 x) n v1
def f_X10_isWithin (p1 : Int32) (p2 : Int32) (p3 : Int32) (p4 : Int32) (p5 : Int32) (p6 : Int32) : Option (Int32) :=
  L_X10_isWithin_3 p1 p2 p3 p4 p5 p6 FU 1
set_option maxHeartbeats 4000000 in
set_option maxRecDepth 100000 in
theorem c_X10_isWithin (l : Launch) (D : va_G) (cs : CS) (p1 : Int32) (p2 : Int32) (p3 : Int32) (p4 : Int32) (p5 : Int32) (p6 : Int32) (r : Int32) (hf : f_X10_isWithin p1 p2 p3 p4 p5 p6 = some r) : CT l D (TY cs) yX10_isWithin wsX10_isWithin rmX10_isWithin [.int p1, .int p2, .int p3, .int p4, .int p5, .int p6] ([]) (some (.int r)) ([]) := by
  refine CT.ofW (own := RX10) (cc := cX10_isWithin) (maxL := 9) (ret := some .boolean) (by decide) rfl rfl (Nat.le_of_ble_eq_true rfl) ?_
  intro p e s m args below meth c A Q X hret ls hl hw
  obtain ⟨hx, hb, hml, hown, hts, hK, hA, hr, hlk⟩ := id X
  have hl : lv_has ls 9 [(0, .int p1), (1, .int p2), (2, .int p3), (3, .int p4), (4, .int p5), (5, .int p6)] := hl
  unfold f_X10_isWithin at hf
  refine lv_iconst (pc := 0) (v := 1) hx hb dX10_isWithin_0 (by decide) ?_
  refine lv_istore (lv' := [(6, .int 1), (0, .int p1), (1, .int p2), (2, .int p3), (3, .int p4), (4, .int p5), (5, .int p6)]) (pc := 1) hx hb dX10_isWithin_1 hl (by decide) rfl (fun ls hl => ?_)
  have L3 : ∀ (n : Nat) (v1 : Int32), L_X10_isWithin_3 p1 p2 p3 p4 p5 p6 n v1 = some r → ∀ (H : Heap) (locs : List Loc) (ls : Array Slot), WD D A s ([]) H locs → lv_has ls 9 [(0, .int p1), (1, .int p2), (2, .int p3), (3, .int p4), (4, .int p5), (5, .int p6), (6, .int v1)] → W p l e rmX10_isWithin s m args below meth c H locs 0 0 Q (F0 m 3 ls []) := by
    intro n
    induction n with
    | zero => intro v1 hf; exact (loopF_z hf).elim
    | succ n ih =>
      intro v1 hf H locs ls hw hl
      obtain ⟨x, hf, hx0⟩ := loopF_ob hf
      have hf : B_X10_isWithin_3 p1 p2 p3 p4 p5 p6 v1 = some x := hf
      unfold B_X10_isWithin_3 at hf
      refine lv_iload (pc := 3) hx hb dX10_isWithin_3 (lv_at hl 6 rfl) ?_
      refine lv_iconst (pc := 5) (v := 1) hx hb dX10_isWithin_5 (by decide) ?_
      refine lv_iload_n (pc := 6) hx hb dX10_isWithin_6 rfl (lv_at hl 0 rfl) ?_
      refine lv_ishl (pc := 7) hx hb dX10_isWithin_7 ?_
      refine lv_icmp_ge (pc := 8) (tgt := 108) hx hb dX10_isWithin_8 (by decide) (fun c2 => ?_) (fun c2 => ?_)
      · have hf := ipos c2 hf
        refine lv_iconst (pc := 108) (v := 1) hx hb dX10_isWithin_108 (by decide) ?_
        cases hf
        cases (hx0 : 1 = r)
        exact hret _ _ 109 _ hw ⟨_, rfl, by decide⟩ dX10_isWithin_109
      · have hf := ineg c2 hf
        refine lv_iload (pc := 11) hx hb dX10_isWithin_11 (lv_at hl 6 rfl) ?_
        obtain ⟨v3, hc, hf⟩ := b1_ob hf
        refine x_nil (pc := 13) X hw (va_runS (As := [.int v1]) (rest := []) ⟨hx, hb, hml, hown, hts⟩ (c_X10_bits l D cs v1 v3 hc _) (va_cwS 1 hts gX10_isWithin_X10_bits rfl rfl rfl (by decide +kernel) ⟨Nat.le_of_ble_eq_true rfl, Nat.le_of_ble_eq_true rfl⟩) ⟨CP_blind, x_preN X [.int v1]⟩ rfl rfl hl.1 rfl (lv_room (Nat.le_of_ble_eq_true rfl)) dX10_isWithin_13 ⟨Nat.zero_le _, Nat.zero_le _⟩) (fun H locs hw => ?_)
        refine lv_iload_n (pc := 16) hx hb dX10_isWithin_16 rfl (lv_at hl 1 rfl) ?_
        refine lv_icmp_gt (pc := 17) (tgt := 102) hx hb dX10_isWithin_17 (by decide) (fun c4 => ?_) (fun c4 => ?_)
        · have hf := ipos c4 hf
          obtain ⟨v5, ev5, hf⟩ := bn_ob hf
          refine lv_iinc (pc := 102) (v := v5) (lv' := [(6, .int v5), (0, .int p1), (1, .int p2), (2, .int p3), (3, .int p4), (4, .int p5), (5, .int p6)]) hx hb dX10_isWithin_102 hl (k := 6) rfl (by rw [ev5]; rfl) (by decide) rfl (fun ls hl => ?_)
          refine lv_goto (pc := 105) (tgt := 3) hx hb dX10_isWithin_105 (by decide) ?_
          cases hf
          exact ih v5  hx0 _ _ _ hw (lv_sub hl [1, 2, 3, 4, 5, 6, 0] rfl)
        · have hf := ineg c4 hf
          refine lv_iconst (pc := 20) (v := 0) hx hb dX10_isWithin_20 (by decide) ?_
          refine lv_istore (lv' := [(7, .int 0), (0, .int p1), (1, .int p2), (2, .int p3), (3, .int p4), (4, .int p5), (5, .int p6), (6, .int v1)]) (pc := 21) hx hb dX10_isWithin_21 hl (by decide) rfl (fun ls hl => ?_)
          refine lv_iconst (pc := 23) (v := 0) hx hb dX10_isWithin_23 (by decide) ?_
          refine lv_istore (lv' := [(8, .int 0), (7, .int 0), (0, .int p1), (1, .int p2), (2, .int p3), (3, .int p4), (4, .int p5), (5, .int p6), (6, .int v1)]) (pc := 24) hx hb dX10_isWithin_24 hl (by decide) rfl (fun ls hl => ?_)
          have L26 : ∀ (n : Nat) (v6 : Int32) (v7 : Int32) (rv6 : Int32), L_X10_isWithin_26 p1 p3 v1 n v6 v7 = some rv6 → ∀ (H : Heap) (locs : List Loc) (ls : Array Slot), WD D A s ([]) H locs → lv_has ls 9 [(0, .int p1), (1, .int p2), (2, .int p3), (3, .int p4), (4, .int p5), (5, .int p6), (6, .int v1), (7, .int v6), (8, .int v7)] → (∀ (H : Heap) (locs : List Loc) (ls : Array Slot), WD D A s ([]) H locs → lv_has ls 9 [(0, .int p1), (1, .int p2), (2, .int p3), (3, .int p4), (4, .int p5), (5, .int p6), (6, .int v1), (7, .int rv6)] → W p l e rmX10_isWithin s m args below meth c H locs 0 0 Q (F0 m 77 ls [])) → W p l e rmX10_isWithin s m args below meth c H locs 0 0 Q (F0 m 26 ls []) := by
            intro n
            induction n with
            | zero => intro v6 v7 rv6 hf; exact (loopF_z hf).elim
            | succ n ih =>
              intro v6 v7 rv6 hf H locs ls hw hl K
              obtain ⟨x, hf, hx0⟩ := loopF_ob hf
              have hf : B_X10_isWithin_26 p1 p3 v1 v6 v7 = some x := hf
              unfold B_X10_isWithin_26 at hf
              refine lv_iload (pc := 26) hx hb dX10_isWithin_26 (lv_at hl 8 rfl) ?_
              refine lv_iconst (pc := 28) (v := 1) hx hb dX10_isWithin_28 (by decide) ?_
              refine lv_iload_n (pc := 29) hx hb dX10_isWithin_29 rfl (lv_at hl 0 rfl) ?_
              refine lv_ishl (pc := 30) hx hb dX10_isWithin_30 ?_
              refine lv_icmp_ge (pc := 31) (tgt := 77) hx hb dX10_isWithin_31 (by decide) (fun c8 => ?_) (fun c8 => ?_)
              · have hf := ipos c8 hf
                cases hf
                cases (hx0 : v6 = rv6)
                exact K _ _ _ hw (lv_sub hl [0, 1, 2, 3, 4, 5, 6, 7] rfl)
              · have hf := ineg c8 hf
                refine lv_iload (pc := 34) hx hb dX10_isWithin_34 (lv_at hl 7 rfl) ?_
                refine lv_iload_n (pc := 36) hx hb dX10_isWithin_36 rfl (lv_at hl 2 rfl) ?_
                refine lv_iload (pc := 37) hx hb dX10_isWithin_37 (lv_at hl 8 rfl) ?_
                refine lv_ishr (pc := 39) hx hb dX10_isWithin_39 ?_
                refine lv_iconst (pc := 40) (v := 1) hx hb dX10_isWithin_40 (by decide) ?_
                refine lv_iand (pc := 41) hx hb dX10_isWithin_41 ?_
                obtain ⟨v9, hj, hf⟩ := b1_ob hf
                have J68_8 : ∀ (H : Heap) (locs : List Loc) (ls : Array Slot), WD D A s ([]) H locs → lv_has ls 9 [(0, .int p1), (1, .int p2), (2, .int p3), (3, .int p4), (4, .int p5), (5, .int p6), (6, .int v1), (8, .int v7)] → W p l e rmX10_isWithin s m args below meth c H locs 0 0 Q (F0 m 68 ls [.int v9, .int v6]) := by
                  intro H locs ls hw hl
                  refine lv_iadd (pc := 68) hx hb dX10_isWithin_68 ?_
                  obtain ⟨v13, ev13, hf⟩ := bn_ob hf
                  refine x_topi ev13 ?_
                  refine lv_istore (lv' := [(7, .int v13), (0, .int p1), (1, .int p2), (2, .int p3), (3, .int p4), (4, .int p5), (5, .int p6), (6, .int v1), (8, .int v7)]) (pc := 69) hx hb dX10_isWithin_69 hl (by decide) rfl (fun ls hl => ?_)
                  obtain ⟨v14, ev14, hf⟩ := bn_ob hf
                  refine lv_iinc (pc := 71) (v := v14) (lv' := [(8, .int v14), (7, .int v13), (0, .int p1), (1, .int p2), (2, .int p3), (3, .int p4), (4, .int p5), (5, .int p6), (6, .int v1)]) hx hb dX10_isWithin_71 hl (k := 8) rfl (by rw [ev14]; rfl) (by decide) rfl (fun ls hl => ?_)
                  refine lv_goto (pc := 74) (tgt := 26) hx hb dX10_isWithin_74 (by decide) ?_
                  cases hf
                  exact ih v13 v14 rv6 hx0 _ _ _ hw (lv_sub hl [2, 3, 4, 5, 6, 7, 8, 1, 0] rfl) K
                clear hf; have hf := hj; clear hj
                refine lv_if_ne (pc := 42) (tgt := 49) hx hb dX10_isWithin_42 (by decide) (fun c10 => ?_) (fun c10 => ?_)
                · have hf := ineg c10 hf
                  refine lv_iload (pc := 49) hx hb dX10_isWithin_49 (lv_at hl 8 rfl) ?_
                  refine lv_iload (pc := 51) hx hb dX10_isWithin_51 (lv_at hl 6 rfl) ?_
                  refine lv_iand (pc := 53) hx hb dX10_isWithin_53 ?_
                  obtain ⟨v11, hc, hf⟩ := b1_ob hf
                  refine x_nil (pc := 54) X hw (va_runS (As := [.int (v7 &&& v1)]) (rest := [.int v6]) ⟨hx, hb, hml, hown, hts⟩ (c_X10_bits l D cs (v7 &&& v1) v11 hc _) (va_cwS 1 hts gX10_isWithin_X10_bits rfl rfl rfl (by decide +kernel) ⟨Nat.le_of_ble_eq_true rfl, Nat.le_of_ble_eq_true rfl⟩) ⟨CP_blind, x_preN X [.int (v7 &&& v1)]⟩ rfl rfl hl.1 rfl (lv_room (Nat.le_of_ble_eq_true rfl)) dX10_isWithin_54 ⟨Nat.zero_le _, Nat.zero_le _⟩) (fun H locs hw => ?_)
                  refine lv_iconst (pc := 57) (v := 2) hx hb dX10_isWithin_57 (by decide) ?_
                  refine lv_irem (pc := 58) hx hb dX10_isWithin_58 (by decide) ?_
                  refine lv_iconst (pc := 59) (v := 1) hx hb dX10_isWithin_59 (by decide) ?_
                  refine lv_icmp_ne (pc := 60) (tgt := 67) hx hb dX10_isWithin_60 (by decide) (fun c12 => ?_) (fun c12 => ?_)
                  · have hf := ineg c12 hf
                    refine lv_iconst (pc := 67) (v := (-1)) hx hb dX10_isWithin_67 (by decide) ?_
                    cases hf
                    exact J68_8 _ _ _ hw (lv_sub hl [0, 1, 2, 3, 4, 5, 6, 8] rfl)
                  · have hf := ipos c12 hf
                    refine lv_iconst (pc := 63) (v := 1) hx hb dX10_isWithin_63 (by decide) ?_
                    refine lv_goto (pc := 64) (tgt := 68) hx hb dX10_isWithin_64 (by decide) ?_
                    cases hf
                    exact J68_8 _ _ _ hw (lv_sub hl [0, 1, 2, 3, 4, 5, 6, 8] rfl)
                · have hf := ipos c10 hf
                  refine lv_iconst (pc := 45) (v := 0) hx hb dX10_isWithin_45 (by decide) ?_
                  refine lv_goto (pc := 46) (tgt := 68) hx hb dX10_isWithin_46 (by decide) ?_
                  cases hf
                  exact J68_8 _ _ _ hw (lv_sub hl [0, 1, 2, 3, 4, 5, 6, 8] rfl)
          obtain ⟨v15, hj, hf⟩ := b1_ob hf
          refine L26 _ 0 0 v15 hj _ _ _ hw (lv_sub hl [2, 3, 4, 5, 6, 7, 8, 1, 0] rfl) (fun H locs ls hw hl => ?_)
          clear hj L26
          refine lv_iload (pc := 77) hx hb dX10_isWithin_77 (lv_at hl 7 rfl) ?_
          obtain ⟨v16, hj, hf⟩ := b1_ob hf
          have J90_15 : ∀ (H : Heap) (locs : List Loc) (ls : Array Slot), WD D A s ([]) H locs → lv_has ls 9 [(0, .int p1), (1, .int p2), (2, .int p3), (3, .int p4), (4, .int p5), (5, .int p6), (6, .int v1)] → W p l e rmX10_isWithin s m args below meth c H locs 0 0 Q (F0 m 90 ls [.int v16]) := by
            intro H locs ls hw hl
            refine lv_iload (pc := 90) hx hb dX10_isWithin_90 (lv_at hl 5 rfl) ?_
            refine lv_imul (pc := 92) hx hb dX10_isWithin_92 ?_
            refine lv_iload (pc := 93) hx hb dX10_isWithin_93 (lv_at hl 4 rfl) ?_
            refine lv_iload_n (pc := 95) hx hb dX10_isWithin_95 rfl (lv_at hl 3 rfl) ?_
            refine lv_imul (pc := 96) hx hb dX10_isWithin_96 ?_
            refine lv_icmp_le (pc := 97) (tgt := 102) hx hb dX10_isWithin_97 (by decide) (fun c18 => ?_) (fun c18 => ?_)
            · have hf := ipos c18 hf
              obtain ⟨v19, ev19, hf⟩ := bn_ob hf
              refine lv_iinc (pc := 102) (v := v19) (lv' := [(6, .int v19), (0, .int p1), (1, .int p2), (2, .int p3), (3, .int p4), (4, .int p5), (5, .int p6)]) hx hb dX10_isWithin_102 hl (k := 6) rfl (by rw [ev19]; rfl) (by decide) rfl (fun ls hl => ?_)
              refine lv_goto (pc := 105) (tgt := 3) hx hb dX10_isWithin_105 (by decide) ?_
              cases hf
              exact ih v19  hx0 _ _ _ hw (lv_sub hl [1, 2, 3, 4, 5, 6, 0] rfl)
            · have hf := ineg c18 hf
              refine lv_iconst (pc := 100) (v := 0) hx hb dX10_isWithin_100 (by decide) ?_
              cases hf
              cases (hx0 : 0 = r)
              exact hret _ _ 101 _ hw ⟨_, rfl, by decide⟩ dX10_isWithin_101
          clear hf; have hf := hj; clear hj
          refine lv_if_ge (pc := 79) (tgt := 88) hx hb dX10_isWithin_79 (by decide) (fun c17 => ?_) (fun c17 => ?_)
          · have hf := ipos c17 hf
            refine lv_iload (pc := 88) hx hb dX10_isWithin_88 (lv_at hl 7 rfl) ?_
            cases hf
            exact J90_15 _ _ _ hw (lv_sub hl [0, 1, 2, 3, 4, 5, 6] rfl)
          · have hf := ineg c17 hf
            refine lv_iload (pc := 82) hx hb dX10_isWithin_82 (lv_at hl 7 rfl) ?_
            refine lv_ineg (pc := 84) hx hb dX10_isWithin_84 ?_
            refine lv_goto (pc := 85) (tgt := 90) hx hb dX10_isWithin_85 (by decide) ?_
            cases hf
            exact J90_15 _ _ _ hw (lv_sub hl [0, 1, 2, 3, 4, 5, 6] rfl)
  exact L3 _ 1 hf _ _ _ hw (lv_sub hl [1, 2, 3, 4, 5, 6, 0] rfl)

abbrev rmX10_least : Room := { frames := 2, cells := 0, slots := 0, locals := 50 }
def B_X10_least_46 (p1 : Int32) (p2 : Int32) (p3 : Int32) (p4 : Int32) (v9 : Int32) (v10 : Int32) (v11 : Int32) : Option ((Int32 × Int32 × Int32) ⊕ (Int32)) :=
  if ((1 : Int32) <<< (((1 : Int32) <<< (p1 &&& 31)) &&& 31)) ≤ v11 then
    some (.inr v9)
  else
  b1 (f_X10_bits v11) fun v13 =>
  b2 (
    if v10 ≤ v13 then
      some (v9, v10)
    else
    b1 (f_X10_isWithin p1 p2 v11 v13 p3 p4) fun v17 =>
    if v17 = 0 then
      some (v9, v10)
    else
    some (v11, v13)) fun v14 v15 =>
  bn (v11 + 1) fun v19 =>
  some (.inl (v14, v15, v19))
def L_X10_least_46 (p1 : Int32) (p2 : Int32) (p3 : Int32) (p4 : Int32) (n : Nat) (v9 : Int32) (v10 : Int32) (v11 : Int32) : Option (Int32) := loopF (fun x : Int32 × Int32 × Int32 => B_X10_least_46 p1 p2 p3 p4 x.1 x.2.1 x.2.2) n (v9, v10, v11)
def f_X10_least (S : PS) (p1 : Int32) (p2 : Int32) (p3 : Int32) (p4 : Int32) : Option (Int32) :=
  b1 (f_X10_in (p1.toInt64) 1 (4)) fun v1 =>
  if v1 = 0 then
    some (-3)
  else
  b1 (f_X10_in (p2.toInt64) 1 (4)) fun v3 =>
  if v3 = 0 then
    some (-3)
  else
  b1 (f_X10_isBound p3 p4) fun v5 =>
  if v5 = 0 then
    some (-3)
  else
  bn ((-1) : Int32) fun v7 =>
  bn (268435456) fun v8 =>
  b1 (L_X10_least_46 p1 p2 p3 p4 FU v7 v8 1) fun v20 =>
  some v20
set_option maxHeartbeats 4000000 in
set_option maxRecDepth 100000 in
theorem c_X10_least (l : Launch) (D : va_G) (cs : CS) (a : Nat) (q : Nat → Nat) (S : PS) (p1 : Int32) (p2 : Int32) (p3 : Int32) (p4 : Int32) (r : Int32) (hf : f_X10_least S p1 p2 p3 p4 = some r) : CT l D (TY cs) yX10_least wsX10_least rmX10_least [.ref a, .int p1, .int p2, .int p3, .int p4] (wX10 cs a q S) (some (.int r)) (wX10 cs a q S) := by
  refine CT.ofW (own := RX10) (cc := cX10_least) (maxL := 9) (ret := some .int) (by decide) rfl rfl (Nat.le_of_ble_eq_true rfl) ?_
  intro p e s m args below meth c A Q X hret ls hl hw
  obtain ⟨hx, hb, hml, hown, hts, hK, hA, hr, hlk⟩ := id X
  have hl : lv_has ls 9 [(0, .ref a), (1, .int p1), (2, .int p2), (3, .int p3), (4, .int p4)] := hl
  unfold f_X10_least at hf
  refine lv_iload_n (pc := 0) hx hb dX10_least_0 rfl (lv_at hl 1 rfl) ?_
  refine lv_i2l (pc := 1) hx hb dX10_least_1 rfl ?_
  refine lv_lconst (pc := 2) (v := 1) hx hb dX10_least_2 (by decide) ?_
  refine lv_ldc2 (pc := 3) (v := (4)) hx hb hown (hts _ (List.mem_of_getElem? (i := 1) rfl)) dX10_least_3 ?_
  obtain ⟨v1, hc, hf⟩ := b1_ob hf
  refine x_nil (pc := 6) X hw (va_runS (As := [.long (p1.toInt64), .long 1, .long (4)]) (rest := []) ⟨hx, hb, hml, hown, hts⟩ (c_X10_in l D cs (p1.toInt64) 1 (4) v1 hc _) (va_cwS 3 hts gX10_least_X10_in rfl rfl rfl (by decide +kernel) ⟨Nat.le_of_ble_eq_true rfl, Nat.le_of_ble_eq_true rfl⟩) ⟨CP_blind, x_preN X [.long (p1.toInt64), .long 1, .long (4)]⟩ rfl rfl hl.1 rfl (lv_room (Nat.le_of_ble_eq_true rfl)) dX10_least_6 ⟨Nat.zero_le _, Nat.zero_le _⟩) (fun H locs hw => ?_)
  refine lv_if_eq (pc := 9) (tgt := 33) hx hb dX10_least_9 (by decide) (fun c2 => ?_) (fun c2 => ?_)
  · have hf := ipos c2 hf
    refine lv_bipush (pc := 33) (v := (-3)) hx hb dX10_least_33 (by decide) ?_
    cases hf
    exact hret _ _ 35 _ hw ⟨_, rfl, rfl⟩ dX10_least_35
  · have hf := ineg c2 hf
    refine lv_iload_n (pc := 12) hx hb dX10_least_12 rfl (lv_at hl 2 rfl) ?_
    refine lv_i2l (pc := 13) hx hb dX10_least_13 rfl ?_
    refine lv_lconst (pc := 14) (v := 1) hx hb dX10_least_14 (by decide) ?_
    refine lv_ldc2 (pc := 15) (v := (4)) hx hb hown (hts _ (List.mem_of_getElem? (i := 1) rfl)) dX10_least_15 ?_
    obtain ⟨v3, hc, hf⟩ := b1_ob hf
    refine x_nil (pc := 18) X hw (va_runS (As := [.long (p2.toInt64), .long 1, .long (4)]) (rest := []) ⟨hx, hb, hml, hown, hts⟩ (c_X10_in l D cs (p2.toInt64) 1 (4) v3 hc _) (va_cwS 3 hts gX10_least_X10_in rfl rfl rfl (by decide +kernel) ⟨Nat.le_of_ble_eq_true rfl, Nat.le_of_ble_eq_true rfl⟩) ⟨CP_blind, x_preN X [.long (p2.toInt64), .long 1, .long (4)]⟩ rfl rfl hl.1 rfl (lv_room (Nat.le_of_ble_eq_true rfl)) dX10_least_18 ⟨Nat.zero_le _, Nat.zero_le _⟩) (fun H locs hw => ?_)
    refine lv_if_eq (pc := 21) (tgt := 33) hx hb dX10_least_21 (by decide) (fun c4 => ?_) (fun c4 => ?_)
    · have hf := ipos c4 hf
      refine lv_bipush (pc := 33) (v := (-3)) hx hb dX10_least_33 (by decide) ?_
      cases hf
      exact hret _ _ 35 _ hw ⟨_, rfl, rfl⟩ dX10_least_35
    · have hf := ineg c4 hf
      refine lv_iload_n (pc := 24) hx hb dX10_least_24 rfl (lv_at hl 3 rfl) ?_
      refine lv_iload (pc := 25) hx hb dX10_least_25 (lv_at hl 4 rfl) ?_
      obtain ⟨v5, hc, hf⟩ := b1_ob hf
      refine x_nil (pc := 27) X hw (va_runS (As := [.int p3, .int p4]) (rest := []) ⟨hx, hb, hml, hown, hts⟩ (c_X10_isBound l D cs p3 p4 v5 hc _) (va_cwS 2 hts gX10_least_X10_isBound rfl rfl rfl (by decide +kernel) ⟨Nat.le_of_ble_eq_true rfl, Nat.le_of_ble_eq_true rfl⟩) ⟨CP_blind, x_preN X [.int p3, .int p4]⟩ rfl rfl hl.1 rfl (lv_room (Nat.le_of_ble_eq_true rfl)) dX10_least_27 ⟨Nat.zero_le _, Nat.zero_le _⟩) (fun H locs hw => ?_)
      refine lv_if_ne (pc := 30) (tgt := 36) hx hb dX10_least_30 (by decide) (fun c6 => ?_) (fun c6 => ?_)
      · have hf := ineg c6 hf
        refine lv_iconst (pc := 36) (v := (-1)) hx hb dX10_least_36 (by decide) ?_
        obtain ⟨v7, ev7, hf⟩ := bn_ob hf
        refine x_topi ev7 ?_
        refine lv_istore (lv' := [(5, .int v7), (0, .ref a), (1, .int p1), (2, .int p2), (3, .int p3), (4, .int p4)]) (pc := 37) hx hb dX10_least_37 hl (by decide) rfl (fun ls hl => ?_)
        refine lv_ldc (pc := 39) (v := (268435456)) hx hb hown (hts _ (List.mem_of_getElem? (i := 2) rfl)) dX10_least_39 ?_
        obtain ⟨v8, ev8, hf⟩ := bn_ob hf
        refine x_topi ev8 ?_
        refine lv_istore (lv' := [(6, .int v8), (5, .int v7), (0, .ref a), (1, .int p1), (2, .int p2), (3, .int p3), (4, .int p4)]) (pc := 41) hx hb dX10_least_41 hl (by decide) rfl (fun ls hl => ?_)
        refine lv_iconst (pc := 43) (v := 1) hx hb dX10_least_43 (by decide) ?_
        refine lv_istore (lv' := [(7, .int 1), (6, .int v8), (5, .int v7), (0, .ref a), (1, .int p1), (2, .int p2), (3, .int p3), (4, .int p4)]) (pc := 44) hx hb dX10_least_44 hl (by decide) rfl (fun ls hl => ?_)
        have L46 : ∀ (n : Nat) (v9 : Int32) (v10 : Int32) (v11 : Int32) (rv9 : Int32), L_X10_least_46 p1 p2 p3 p4 n v9 v10 v11 = some rv9 → ∀ (H : Heap) (locs : List Loc) (ls : Array Slot), WD D A s (wX10 cs a q S) H locs → lv_has ls 9 [(1, .int p1), (2, .int p2), (3, .int p3), (4, .int p4), (5, .int v9), (6, .int v10), (7, .int v11)] → (∀ (H : Heap) (locs : List Loc) (ls : Array Slot), WD D A s (wX10 cs a q S) H locs → lv_has ls 9 [(5, .int rv9)] → W p l e rmX10_least s m args below meth c H locs 0 0 Q (F0 m 99 ls [])) → W p l e rmX10_least s m args below meth c H locs 0 0 Q (F0 m 46 ls []) := by
          intro n
          induction n with
          | zero => intro v9 v10 v11 rv9 hf; exact (loopF_z hf).elim
          | succ n ih =>
            intro v9 v10 v11 rv9 hf H locs ls hw hl K
            obtain ⟨x, hf, hx0⟩ := loopF_ob hf
            have hf : B_X10_least_46 p1 p2 p3 p4 v9 v10 v11 = some x := hf
            unfold B_X10_least_46 at hf
            refine lv_iload (pc := 46) hx hb dX10_least_46 (lv_at hl 6 rfl) ?_
            refine lv_iconst (pc := 48) (v := 1) hx hb dX10_least_48 (by decide) ?_
            refine lv_iconst (pc := 49) (v := 1) hx hb dX10_least_49 (by decide) ?_
            refine lv_iload_n (pc := 50) hx hb dX10_least_50 rfl (lv_at hl 0 rfl) ?_
            refine lv_ishl (pc := 51) hx hb dX10_least_51 ?_
            refine lv_ishl (pc := 52) hx hb dX10_least_52 ?_
            refine lv_icmp_ge (pc := 53) (tgt := 99) hx hb dX10_least_53 (by decide) (fun c12 => ?_) (fun c12 => ?_)
            · have hf := ipos c12 hf
              cases hf
              cases (hx0 : v9 = rv9)
              exact K _ _ _ hw (lv_sub hl [4] rfl)
            · have hf := ineg c12 hf
              refine lv_iload (pc := 56) hx hb dX10_least_56 (lv_at hl 6 rfl) ?_
              obtain ⟨v13, hc, hf⟩ := b1_ob hf
              refine x_nil (pc := 58) X hw (va_runS (As := [.int v11]) (rest := []) ⟨hx, hb, hml, hown, hts⟩ (c_X10_bits l D cs v11 v13 hc _) (va_cwS 1 hts gX10_least_X10_bits rfl rfl rfl (by decide +kernel) ⟨Nat.le_of_ble_eq_true rfl, Nat.le_of_ble_eq_true rfl⟩) ⟨CP_blind, x_preN X [.int v11]⟩ rfl rfl hl.1 rfl (lv_room (Nat.le_of_ble_eq_true rfl)) dX10_least_58 ⟨Nat.zero_le _, Nat.zero_le _⟩) (fun H locs hw => ?_)
              refine lv_istore (lv' := [(8, .int v13), (1, .int p1), (2, .int p2), (3, .int p3), (4, .int p4), (5, .int v9), (6, .int v10), (7, .int v11)]) (pc := 61) hx hb dX10_least_61 hl (by decide) rfl (fun ls hl => ?_)
              refine lv_iload (pc := 63) hx hb dX10_least_63 (lv_at hl 0 rfl) ?_
              refine lv_iload (pc := 65) hx hb dX10_least_65 (lv_at hl 6 rfl) ?_
              obtain ⟨v14, v15, hj, hf⟩ := b2_ob hf
              have J93_13 : ∀ (H : Heap) (locs : List Loc) (ls : Array Slot), WD D A s (wX10 cs a q S) H locs → lv_has ls 9 [(1, .int p1), (2, .int p2), (3, .int p3), (4, .int p4), (5, .int v14), (6, .int v15), (7, .int v11)] → W p l e rmX10_least s m args below meth c H locs 0 0 Q (F0 m 93 ls []) := by
                intro H locs ls hw hl
                obtain ⟨v19, ev19, hf⟩ := bn_ob hf
                refine lv_iinc (pc := 93) (v := v19) (lv' := [(7, .int v19), (1, .int p1), (2, .int p2), (3, .int p3), (4, .int p4), (5, .int v14), (6, .int v15)]) hx hb dX10_least_93 hl (k := 6) rfl (by rw [ev19]; rfl) (by decide) rfl (fun ls hl => ?_)
                refine lv_goto (pc := 96) (tgt := 46) hx hb dX10_least_96 (by decide) ?_
                cases hf
                exact ih v14 v15 v19 rv9 hx0 _ _ _ hw (lv_sub hl [1, 2, 3, 4, 5, 6, 0] rfl) K
              clear hf; have hf := hj; clear hj
              refine lv_icmp_ge (pc := 67) (tgt := 93) hx hb dX10_least_67 (by decide) (fun c16 => ?_) (fun c16 => ?_)
              · have hf := ipos c16 hf
                cases hf
                exact J93_13 _ _ _ hw (lv_sub hl [1, 2, 3, 4, 5, 6, 7] rfl)
              · have hf := ineg c16 hf
                refine lv_iload_n (pc := 70) hx hb dX10_least_70 rfl (lv_at hl 1 rfl) ?_
                refine lv_iload_n (pc := 71) hx hb dX10_least_71 rfl (lv_at hl 2 rfl) ?_
                refine lv_iload (pc := 72) hx hb dX10_least_72 (lv_at hl 7 rfl) ?_
                refine lv_iload (pc := 74) hx hb dX10_least_74 (lv_at hl 0 rfl) ?_
                refine lv_iload_n (pc := 76) hx hb dX10_least_76 rfl (lv_at hl 3 rfl) ?_
                refine lv_iload (pc := 77) hx hb dX10_least_77 (lv_at hl 4 rfl) ?_
                obtain ⟨v17, hc, hf⟩ := b1_ob hf
                refine x_nil (pc := 79) X hw (va_runS (As := [.int p1, .int p2, .int v11, .int v13, .int p3, .int p4]) (rest := []) ⟨hx, hb, hml, hown, hts⟩ (c_X10_isWithin l D cs p1 p2 v11 v13 p3 p4 v17 hc _) (va_cwS 6 hts gX10_least_X10_isWithin rfl rfl rfl (by decide +kernel) ⟨Nat.le_of_ble_eq_true rfl, Nat.le_of_ble_eq_true rfl⟩) ⟨CP_blind, x_preN X [.int p1, .int p2, .int v11, .int v13, .int p3, .int p4]⟩ rfl rfl hl.1 rfl (lv_room (Nat.le_of_ble_eq_true rfl)) dX10_least_79 ⟨Nat.zero_le _, Nat.zero_le _⟩) (fun H locs hw => ?_)
                refine lv_if_eq (pc := 82) (tgt := 93) hx hb dX10_least_82 (by decide) (fun c18 => ?_) (fun c18 => ?_)
                · have hf := ipos c18 hf
                  cases hf
                  exact J93_13 _ _ _ hw (lv_sub hl [1, 2, 3, 4, 5, 6, 7] rfl)
                · have hf := ineg c18 hf
                  refine lv_iload (pc := 85) hx hb dX10_least_85 (lv_at hl 7 rfl) ?_
                  refine lv_istore (lv' := [(5, .int v11), (8, .int v13), (1, .int p1), (2, .int p2), (3, .int p3), (4, .int p4), (6, .int v10), (7, .int v11)]) (pc := 87) hx hb dX10_least_87 hl (by decide) rfl (fun ls hl => ?_)
                  refine lv_iload (pc := 89) hx hb dX10_least_89 (lv_at hl 1 rfl) ?_
                  refine lv_istore (lv' := [(6, .int v13), (5, .int v11), (8, .int v13), (1, .int p1), (2, .int p2), (3, .int p3), (4, .int p4), (7, .int v11)]) (pc := 91) hx hb dX10_least_91 hl (by decide) rfl (fun ls hl => ?_)
                  cases hf
                  exact J93_13 _ _ _ hw (lv_sub hl [3, 4, 5, 6, 1, 0, 7] rfl)
        obtain ⟨v20, hj, hf⟩ := b1_ob hf
        refine L46 _ v7 v8 1 v20 hj _ _ _ hw (lv_sub hl [4, 5, 6, 7, 2, 1, 0] rfl) (fun H locs ls hw hl => ?_)
        clear hj L46
        refine lv_iload (pc := 99) hx hb dX10_least_99 (lv_at hl 0 rfl) ?_
        cases hf
        exact hret _ _ 101 _ hw ⟨_, rfl, rfl⟩ dX10_least_101
      · have hf := ipos c6 hf
        refine lv_bipush (pc := 33) (v := (-3)) hx hb dX10_least_33 (by decide) ?_
        cases hf
        exact hret _ _ 35 _ hw ⟨_, rfl, rfl⟩ dX10_least_35

theorem in_X10_walks_X10 : ∀ w ∈ wsX100, w ∈ wsX10_walks := fun _ h => List.mem_cons_of_mem _ (List.mem_append_right _ h)
abbrev rmX10_walks : Room := { frames := 2, cells := 0, slots := 0, locals := 46 }
def B_X10_walks_25 (p1 : Int32) (v5 : Int32) (S6 : PS) : Option ((Int32 × PS) ⊕ (PS)) :=
  if 8 ≤ v5 then
    some (.inr S6)
  else
  b1 (wL 8 S6 37 v5 (((p1 >>> (v5 &&& 31)) &&& 1).toInt64)) fun S8 =>
  bn (v5 + 1) fun v9 =>
  some (.inl (v9, S8))
def L_X10_walks_25 (p1 : Int32) (n : Nat) (v5 : Int32) (S6 : PS) : Option (PS) := loopF (fun x : Int32 × PS => B_X10_walks_25 p1 x.1 x.2) n (v5, S6)
def B_X10_walks_59 (v14 : Int32) (S15 : PS) : Option ((Int32 × PS) ⊕ (PS)) :=
  if 8 ≤ v14 then
    some (.inr S15)
  else
  b1 (wL 8 S15 38 v14 0) fun S17 =>
  bn (v14 + 1) fun v18 =>
  some (.inl (v18, S17))
def L_X10_walks_59 (n : Nat) (v14 : Int32) (S15 : PS) : Option (PS) := loopF (fun x : Int32 × PS => B_X10_walks_59 x.1 x.2) n (v14, S15)
def B_X10_walks_83 (p1 : Int32) (v20 : Int32) (S21 : PS) : Option ((Int32 × PS) ⊕ (PS)) :=
  if (S21.1 18) ≤ v20 then
    some (.inr S21)
  else
  b1 (rdI 16 (S21.2.1 15) v20) fun v23 =>
  b1 (
    if ((p1 >>> (v23 &&& 31)) &&& 1) = 1 then
      b1 (rdI 16 (S21.2.1 16) v20) fun v26 =>
      if ((p1 >>> (v26 &&& 31)) &&& 1) = 1 then
        some (1 : Int32)
      else
      some (0 : Int32)
    else
    some (0 : Int32)) fun v24 =>
  b1 (rdI 16 (S21.2.1 15) v20) fun v28 =>
  b1 (rdL 8 (S21.2.2 38) v28) fun v29 =>
  b1 (
    if v24 = 0 then
      some (0 : Int64)
    else
    b1 (rdI 16 (S21.2.1 16) v20) fun v32 =>
    b1 (rdL 8 (S21.2.2 37) v32) fun v33 =>
    some v33) fun v30 =>
  b1 (wL 8 S21 38 v28 (v29 + v30)) fun S34 =>
  b1 (rdI 16 (S34.2.1 16) v20) fun v35 =>
  b1 (rdL 8 (S34.2.2 38) v35) fun v36 =>
  b1 (
    if v24 = 0 then
      some (0 : Int64)
    else
    b1 (rdI 16 (S34.2.1 15) v20) fun v39 =>
    b1 (rdL 8 (S34.2.2 37) v39) fun v40 =>
    some v40) fun v37 =>
  b1 (wL 8 S34 38 v35 (v36 + v37)) fun S41 =>
  bn (v20 + 1) fun v42 =>
  some (.inl (v42, S41))
def L_X10_walks_83 (p1 : Int32) (n : Nat) (v20 : Int32) (S21 : PS) : Option (PS) := loopF (fun x : Int32 × PS => B_X10_walks_83 p1 x.1 x.2) n (v20, S21)
def B_X10_walks_210 (v44 : Int32) (S45 : PS) : Option ((Int32 × PS) ⊕ (PS)) :=
  if 8 ≤ v44 then
    some (.inr S45)
  else
  b1 (rdL 8 (S45.2.2 38) v44) fun v47 =>
  b1 (wL 8 S45 37 v44 v47) fun S48 =>
  bn (v44 + 1) fun v49 =>
  some (.inl (v49, S48))
def L_X10_walks_210 (n : Nat) (v44 : Int32) (S45 : PS) : Option (PS) := loopF (fun x : Int32 × PS => B_X10_walks_210 x.1 x.2) n (v44, S45)
def B_X10_walks_51 (p1 : Int32) (p2 : Int32) (v11 : Int32) (S12 : PS) : Option ((Int32 × PS) ⊕ (PS)) :=
  if p2 ≤ v11 then
    some (.inr S12)
  else
  b1 (L_X10_walks_59 FU 0 S12) fun S19 =>
  b1 (L_X10_walks_83 p1 FU 0 S19) fun S43 =>
  b1 (L_X10_walks_210 FU 0 S43) fun S50 =>
  bn (v11 + 1) fun v51 =>
  some (.inl (v51, S50))
def L_X10_walks_51 (p1 : Int32) (p2 : Int32) (n : Nat) (v11 : Int32) (S12 : PS) : Option (PS) := loopF (fun x : Int32 × PS => B_X10_walks_51 p1 p2 x.1 x.2) n (v11, S12)
def B_X10_walks_248 (S52 : PS) (v53 : Int64) (v54 : Int32) : Option ((Int64 × Int32) ⊕ (Int64)) :=
  if 8 ≤ v54 then
    some (.inr v53)
  else
  b1 (rdL 8 (S52.2.2 37) v54) fun v56 =>
  bn (v53 + v56) fun v57 =>
  bn (v54 + 1) fun v58 =>
  some (.inl (v57, v58))
def L_X10_walks_248 (S52 : PS) (n : Nat) (v53 : Int64) (v54 : Int32) : Option (Int64) := loopF (fun x : Int64 × Int32 => B_X10_walks_248 S52 x.1 x.2) n (v53, v54)
def f_X10_walks (S : PS) (p1 : Int32) (p2 : Int32) : Option (Int32 × PS) :=
  b1 (f_X10_areKnots S p1) fun v1 =>
  if v1 = 0 then
    some ((-3), S)
  else
  b1 (f_X10_in (p2.toInt64) 0 (8)) fun v3 =>
  if v3 = 0 then
    some ((-3), S)
  else
  b1 (L_X10_walks_25 p1 FU 0 S) fun S10 =>
  b1 (L_X10_walks_51 p1 p2 FU 0 S10) fun S52 =>
  b1 (L_X10_walks_248 S52 FU 0 0) fun v59 =>
  b1 (
    if (lg_cmp v59 (999999999)) ≤ 0 then
      some (v59.toInt32)
    else
    some (999999999)) fun v60 =>
  some (v60, S52)
set_option maxHeartbeats 4000000 in
set_option maxRecDepth 100000 in
theorem c_X10_walks (l : Launch) (D : va_G) (cs : CS) (a : Nat) (q : Nat → Nat) (S : PS) (p1 : Int32) (p2 : Int32) (r : Int32) (S' : PS) (hf : f_X10_walks S p1 p2 = some (r, S')) : CT l D (TY cs) yX10_walks wsX10_walks rmX10_walks [.ref a, .int p1, .int p2] (wX10 cs a q S) (some (.int r)) (wX10 cs a q S') := by
  refine CT.ofW (own := RX10) (cc := cX10_walks) (maxL := 6) (ret := some .int) (by decide) rfl rfl (Nat.le_of_ble_eq_true rfl) ?_
  intro p e s m args below meth c A Q X hret ls hl hw
  obtain ⟨hx, hb, hml, hown, hts, hK, hA, hr, hlk⟩ := id X
  have hl : lv_has ls 6 [(0, .ref a), (1, .int p1), (2, .int p2)] := hl
  unfold f_X10_walks at hf
  refine lv_aload_n (pc := 0) hx hb dX10_walks_0 rfl (lv_at hl 0 rfl) ?_
  refine lv_iload_n (pc := 1) hx hb dX10_walks_1 rfl (lv_at hl 1 rfl) ?_
  obtain ⟨v1, hc, hf⟩ := b1_ob hf
  refine x_all (pc := 2) X hw (va_runV (As := [.int p1]) (rest := []) ⟨hx, hb, hml, hown, hts⟩ (c_X10_areKnots l D cs a q S p1 v1 hc _) (cwV 1 hts gX10_walks_X10_areKnots rfl rfl rfl (by decide +kernel) ⟨Nat.le_of_ble_eq_true rfl, Nat.le_of_ble_eq_true rfl⟩) ⟨CP_blind, va_recv hK hw.1 (ci := 10) (q0 := 0) rfl rfl, x_preA X hw [.ref a, .int p1]⟩ rfl rfl hl.1 rfl (lv_room (Nat.le_of_ble_eq_true rfl)) dX10_walks_2 ⟨Nat.zero_le _, Nat.zero_le _⟩) (fun H locs hw => ?_)
  refine lv_if_eq (pc := 5) (tgt := 20) hx hb dX10_walks_5 (by decide) (fun c2 => ?_) (fun c2 => ?_)
  · have hf := ipos c2 hf
    refine lv_bipush (pc := 20) (v := (-3)) hx hb dX10_walks_20 (by decide) ?_
    cases hf
    exact hret _ _ 22 _ hw ⟨_, rfl, rfl⟩ dX10_walks_22
  · have hf := ineg c2 hf
    refine lv_iload_n (pc := 8) hx hb dX10_walks_8 rfl (lv_at hl 2 rfl) ?_
    refine lv_i2l (pc := 9) hx hb dX10_walks_9 rfl ?_
    refine lv_lconst (pc := 10) (v := 0) hx hb dX10_walks_10 (by decide) ?_
    refine lv_ldc2 (pc := 11) (v := (8)) hx hb hown (hts _ (List.mem_of_getElem? (i := 1) rfl)) dX10_walks_11 ?_
    obtain ⟨v3, hc, hf⟩ := b1_ob hf
    refine x_nil (pc := 14) X hw (va_runS (As := [.long (p2.toInt64), .long 0, .long (8)]) (rest := []) ⟨hx, hb, hml, hown, hts⟩ (c_X10_in l D cs (p2.toInt64) 0 (8) v3 hc _) (va_cwS 3 hts gX10_walks_X10_in rfl rfl rfl (by decide +kernel) ⟨Nat.le_of_ble_eq_true rfl, Nat.le_of_ble_eq_true rfl⟩) ⟨CP_blind, x_preN X [.long (p2.toInt64), .long 0, .long (8)]⟩ rfl rfl hl.1 rfl (lv_room (Nat.le_of_ble_eq_true rfl)) dX10_walks_14 ⟨Nat.zero_le _, Nat.zero_le _⟩) (fun H locs hw => ?_)
    refine lv_if_ne (pc := 17) (tgt := 23) hx hb dX10_walks_17 (by decide) (fun c4 => ?_) (fun c4 => ?_)
    · have hf := ineg c4 hf
      refine lv_iconst (pc := 23) (v := 0) hx hb dX10_walks_23 (by decide) ?_
      refine lv_istore_n (lv' := [(3, .int 0), (0, .ref a), (1, .int p1), (2, .int p2)]) (pc := 24) hx hb dX10_walks_24 rfl hl (by decide) rfl (fun ls hl => ?_)
      have L25 : ∀ (n : Nat) (v5 : Int32) (S6 : PS) (rS6 : PS), L_X10_walks_25 p1 n v5 S6 = some rS6 → ∀ (H : Heap) (locs : List Loc) (ls : Array Slot), WD D A s (wX10 cs a q S6) H locs → lv_has ls 6 [(0, .ref a), (1, .int p1), (2, .int p2), (3, .int v5)] → (∀ (H : Heap) (locs : List Loc) (ls : Array Slot), WD D A s (wX10 cs a q rS6) H locs → lv_has ls 6 [(0, .ref a), (1, .int p1), (2, .int p2)] → W p l e rmX10_walks s m args below meth c H locs 0 0 Q (F0 m 49 ls [])) → W p l e rmX10_walks s m args below meth c H locs 0 0 Q (F0 m 25 ls []) := by
        intro n
        induction n with
        | zero => intro v5 S6 rS6 hf; exact (loopF_z hf).elim
        | succ n ih =>
          intro v5 S6 rS6 hf H locs ls hw hl K
          obtain ⟨x, hf, hx0⟩ := loopF_ob hf
          have hf : B_X10_walks_25 p1 v5 S6 = some x := hf
          unfold B_X10_walks_25 at hf
          refine lv_iload_n (pc := 25) hx hb dX10_walks_25 rfl (lv_at hl 3 rfl) ?_
          refine lv_bipush (pc := 26) (v := 8) hx hb dX10_walks_26 (by decide) ?_
          refine lv_icmp_ge (pc := 28) (tgt := 49) hx hb dX10_walks_28 (by decide) (fun c7 => ?_) (fun c7 => ?_)
          · have hf := ipos c7 hf
            cases hf
            cases (hx0 : S6 = rS6)
            exact K _ _ _ hw (lv_sub hl [0, 1, 2] rfl)
          · have hf := ineg c7 hf
            refine lv_aload_n (pc := 31) hx hb dX10_walks_31 rfl (lv_at hl 0 rfl) ?_
            refine x_get (pc := 32) X hw in_X10_walks_X10 0 rfl rfl 37 (by decide) (List.mem_of_getElem? (i := 2) rfl) rfl dX10_walks_32 ?_
            refine lv_iload_n (pc := 35) hx hb dX10_walks_35 rfl (lv_at hl 3 rfl) ?_
            refine lv_iload_n (pc := 36) hx hb dX10_walks_36 rfl (lv_at hl 1 rfl) ?_
            refine lv_iload_n (pc := 37) hx hb dX10_walks_37 rfl (lv_at hl 3 rfl) ?_
            refine lv_ishr (pc := 38) hx hb dX10_walks_38 ?_
            refine lv_iconst (pc := 39) (v := 1) hx hb dX10_walks_39 (by decide) ?_
            refine lv_iand (pc := 40) hx hb dX10_walks_40 ?_
            refine lv_i2l (pc := 41) hx hb dX10_walks_41 rfl ?_
            obtain ⟨S8, eS8, hf⟩ := b1_ob hf
            refine x_last (pc := 42) X hw 22 1 rfl rfl (wL_ob eS8).1 dX10_walks_42 (ws2 := wX10 cs a q S8) (by rw [(wL_ob eS8).2]; rfl) (fun H locs hw => ?_)
            obtain ⟨v9, ev9, hf⟩ := bn_ob hf
            refine lv_iinc (pc := 43) (v := v9) (lv' := [(3, .int v9), (0, .ref a), (1, .int p1), (2, .int p2)]) hx hb dX10_walks_43 hl (k := 3) rfl (by rw [ev9]; rfl) (by decide) rfl (fun ls hl => ?_)
            refine lv_goto (pc := 46) (tgt := 25) hx hb dX10_walks_46 (by decide) ?_
            cases hf
            exact ih v9 S8 rS6 hx0 _ _ _ hw (lv_sub hl [1, 2, 3, 0] rfl) K
      obtain ⟨S10, hj, hf⟩ := b1_ob hf
      refine L25 _ 0 S S10 hj _ _ _ hw (lv_sub hl [1, 2, 3, 0] rfl) (fun H locs ls hw hl => ?_)
      clear hj L25
      refine lv_iconst (pc := 49) (v := 0) hx hb dX10_walks_49 (by decide) ?_
      refine lv_istore_n (lv' := [(3, .int 0), (0, .ref a), (1, .int p1), (2, .int p2)]) (pc := 50) hx hb dX10_walks_50 rfl hl (by decide) rfl (fun ls hl => ?_)
      have L51 : ∀ (n : Nat) (v11 : Int32) (S12 : PS) (rS12 : PS), L_X10_walks_51 p1 p2 n v11 S12 = some rS12 → ∀ (H : Heap) (locs : List Loc) (ls : Array Slot), WD D A s (wX10 cs a q S12) H locs → lv_has ls 6 [(0, .ref a), (1, .int p1), (2, .int p2), (3, .int v11)] → (∀ (H : Heap) (locs : List Loc) (ls : Array Slot), WD D A s (wX10 cs a q rS12) H locs → lv_has ls 6 [(0, .ref a)] → W p l e rmX10_walks s m args below meth c H locs 0 0 Q (F0 m 243 ls [])) → W p l e rmX10_walks s m args below meth c H locs 0 0 Q (F0 m 51 ls []) := by
        intro n
        induction n with
        | zero => intro v11 S12 rS12 hf; exact (loopF_z hf).elim
        | succ n ih =>
          intro v11 S12 rS12 hf H locs ls hw hl K
          obtain ⟨x, hf, hx0⟩ := loopF_ob hf
          have hf : B_X10_walks_51 p1 p2 v11 S12 = some x := hf
          unfold B_X10_walks_51 at hf
          refine lv_iload_n (pc := 51) hx hb dX10_walks_51 rfl (lv_at hl 3 rfl) ?_
          refine lv_iload_n (pc := 52) hx hb dX10_walks_52 rfl (lv_at hl 2 rfl) ?_
          refine lv_icmp_ge (pc := 53) (tgt := 243) hx hb dX10_walks_53 (by decide) (fun c13 => ?_) (fun c13 => ?_)
          · have hf := ipos c13 hf
            cases hf
            cases (hx0 : S12 = rS12)
            exact K _ _ _ hw (lv_sub hl [0] rfl)
          · have hf := ineg c13 hf
            refine lv_iconst (pc := 56) (v := 0) hx hb dX10_walks_56 (by decide) ?_
            refine lv_istore (lv' := [(4, .int 0), (0, .ref a), (1, .int p1), (2, .int p2), (3, .int v11)]) (pc := 57) hx hb dX10_walks_57 hl (by decide) rfl (fun ls hl => ?_)
            have L59 : ∀ (n : Nat) (v14 : Int32) (S15 : PS) (rS15 : PS), L_X10_walks_59 n v14 S15 = some rS15 → ∀ (H : Heap) (locs : List Loc) (ls : Array Slot), WD D A s (wX10 cs a q S15) H locs → lv_has ls 6 [(0, .ref a), (1, .int p1), (2, .int p2), (3, .int v11), (4, .int v14)] → (∀ (H : Heap) (locs : List Loc) (ls : Array Slot), WD D A s (wX10 cs a q rS15) H locs → lv_has ls 6 [(0, .ref a), (1, .int p1), (2, .int p2), (3, .int v11)] → W p l e rmX10_walks s m args below meth c H locs 0 0 Q (F0 m 80 ls [])) → W p l e rmX10_walks s m args below meth c H locs 0 0 Q (F0 m 59 ls []) := by
              intro n
              induction n with
              | zero => intro v14 S15 rS15 hf; exact (loopF_z hf).elim
              | succ n ih =>
                intro v14 S15 rS15 hf H locs ls hw hl K
                obtain ⟨x, hf, hx0⟩ := loopF_ob hf
                have hf : B_X10_walks_59 v14 S15 = some x := hf
                unfold B_X10_walks_59 at hf
                refine lv_iload (pc := 59) hx hb dX10_walks_59 (lv_at hl 4 rfl) ?_
                refine lv_bipush (pc := 61) (v := 8) hx hb dX10_walks_61 (by decide) ?_
                refine lv_icmp_ge (pc := 63) (tgt := 80) hx hb dX10_walks_63 (by decide) (fun c16 => ?_) (fun c16 => ?_)
                · have hf := ipos c16 hf
                  cases hf
                  cases (hx0 : S15 = rS15)
                  exact K _ _ _ hw (lv_sub hl [0, 1, 2, 3] rfl)
                · have hf := ineg c16 hf
                  refine lv_aload_n (pc := 66) hx hb dX10_walks_66 rfl (lv_at hl 0 rfl) ?_
                  refine x_get (pc := 67) X hw in_X10_walks_X10 0 rfl rfl 38 (by decide) (List.mem_of_getElem? (i := 3) rfl) rfl dX10_walks_67 ?_
                  refine lv_iload (pc := 70) hx hb dX10_walks_70 (lv_at hl 4 rfl) ?_
                  refine lv_lconst (pc := 72) (v := 0) hx hb dX10_walks_72 (by decide) ?_
                  obtain ⟨S17, eS17, hf⟩ := b1_ob hf
                  refine x_last (pc := 73) X hw 23 1 rfl rfl (wL_ob eS17).1 dX10_walks_73 (ws2 := wX10 cs a q S17) (by rw [(wL_ob eS17).2]; rfl) (fun H locs hw => ?_)
                  obtain ⟨v18, ev18, hf⟩ := bn_ob hf
                  refine lv_iinc (pc := 74) (v := v18) (lv' := [(4, .int v18), (0, .ref a), (1, .int p1), (2, .int p2), (3, .int v11)]) hx hb dX10_walks_74 hl (k := 4) rfl (by rw [ev18]; rfl) (by decide) rfl (fun ls hl => ?_)
                  refine lv_goto (pc := 77) (tgt := 59) hx hb dX10_walks_77 (by decide) ?_
                  cases hf
                  exact ih v18 S17 rS15 hx0 _ _ _ hw (lv_sub hl [1, 2, 3, 4, 0] rfl) K
            obtain ⟨S19, hj, hf⟩ := b1_ob hf
            refine L59 _ 0 S12 S19 hj _ _ _ hw (lv_sub hl [1, 2, 3, 4, 0] rfl) (fun H locs ls hw hl => ?_)
            clear hj L59
            refine lv_iconst (pc := 80) (v := 0) hx hb dX10_walks_80 (by decide) ?_
            refine lv_istore (lv' := [(4, .int 0), (0, .ref a), (1, .int p1), (2, .int p2), (3, .int v11)]) (pc := 81) hx hb dX10_walks_81 hl (by decide) rfl (fun ls hl => ?_)
            have L83 : ∀ (n : Nat) (v20 : Int32) (S21 : PS) (rS21 : PS), L_X10_walks_83 p1 n v20 S21 = some rS21 → ∀ (H : Heap) (locs : List Loc) (ls : Array Slot), WD D A s (wX10 cs a q S21) H locs → lv_has ls 6 [(0, .ref a), (1, .int p1), (2, .int p2), (3, .int v11), (4, .int v20)] → (∀ (H : Heap) (locs : List Loc) (ls : Array Slot), WD D A s (wX10 cs a q rS21) H locs → lv_has ls 6 [(0, .ref a), (1, .int p1), (2, .int p2), (3, .int v11)] → W p l e rmX10_walks s m args below meth c H locs 0 0 Q (F0 m 207 ls [])) → W p l e rmX10_walks s m args below meth c H locs 0 0 Q (F0 m 83 ls []) := by
              intro n
              induction n with
              | zero => intro v20 S21 rS21 hf; exact (loopF_z hf).elim
              | succ n ih =>
                intro v20 S21 rS21 hf H locs ls hw hl K
                obtain ⟨x, hf, hx0⟩ := loopF_ob hf
                have hf : B_X10_walks_83 p1 v20 S21 = some x := hf
                unfold B_X10_walks_83 at hf
                refine lv_iload (pc := 83) hx hb dX10_walks_83 (lv_at hl 4 rfl) ?_
                refine lv_aload_n (pc := 85) hx hb dX10_walks_85 rfl (lv_at hl 0 rfl) ?_
                refine x_get (pc := 86) X hw in_X10_walks_X10 0 rfl rfl 18 (by decide) (List.mem_of_getElem? (i := 4) rfl) rfl dX10_walks_86 ?_
                refine lv_icmp_ge (pc := 89) (tgt := 207) hx hb dX10_walks_89 (by decide) (fun c22 => ?_) (fun c22 => ?_)
                · have hf := ipos c22 hf
                  cases hf
                  cases (hx0 : S21 = rS21)
                  exact K _ _ _ hw (lv_sub hl [0, 1, 2, 3] rfl)
                · have hf := ineg c22 hf
                  refine lv_iload_n (pc := 92) hx hb dX10_walks_92 rfl (lv_at hl 1 rfl) ?_
                  refine lv_aload_n (pc := 93) hx hb dX10_walks_93 rfl (lv_at hl 0 rfl) ?_
                  refine x_get (pc := 94) X hw in_X10_walks_X10 0 rfl rfl 15 (by decide) (List.mem_of_getElem? (i := 5) rfl) rfl dX10_walks_94 ?_
                  refine lv_iload (pc := 97) hx hb dX10_walks_97 (lv_at hl 4 rfl) ?_
                  obtain ⟨v23, ev23, hf⟩ := b1_ob hf
                  refine x_iald (pc := 99) X hw 8 0 rfl rfl ev23 dX10_walks_99 ?_
                  refine lv_ishr (pc := 100) hx hb dX10_walks_100 ?_
                  refine lv_iconst (pc := 101) (v := 1) hx hb dX10_walks_101 (by decide) ?_
                  refine lv_iand (pc := 102) hx hb dX10_walks_102 ?_
                  refine lv_iconst (pc := 103) (v := 1) hx hb dX10_walks_103 (by decide) ?_
                  obtain ⟨v24, hj, hf⟩ := b1_ob hf
                  have J127_23 : ∀ (H : Heap) (locs : List Loc) (ls : Array Slot), WD D A s (wX10 cs a q S21) H locs → lv_has ls 6 [(0, .ref a), (1, .int p1), (2, .int p2), (3, .int v11), (4, .int v20)] → W p l e rmX10_walks s m args below meth c H locs 0 0 Q (F0 m 127 ls [.int v24]) := by
                    intro H locs ls hw hl
                    refine lv_istore (lv' := [(5, .int v24), (0, .ref a), (1, .int p1), (2, .int p2), (3, .int v11), (4, .int v20)]) (pc := 127) hx hb dX10_walks_127 hl (by decide) rfl (fun ls hl => ?_)
                    refine lv_aload_n (pc := 129) hx hb dX10_walks_129 rfl (lv_at hl 1 rfl) ?_
                    refine x_get (pc := 130) X hw in_X10_walks_X10 0 rfl rfl 38 (by decide) (List.mem_of_getElem? (i := 3) rfl) rfl dX10_walks_130 ?_
                    refine lv_aload_n (pc := 133) hx hb dX10_walks_133 rfl (lv_at hl 1 rfl) ?_
                    refine x_get (pc := 134) X hw in_X10_walks_X10 0 rfl rfl 15 (by decide) (List.mem_of_getElem? (i := 5) rfl) rfl dX10_walks_134 ?_
                    refine lv_iload (pc := 137) hx hb dX10_walks_137 (lv_at hl 5 rfl) ?_
                    obtain ⟨v28, ev28, hf⟩ := b1_ob hf
                    refine x_iald (pc := 139) X hw 8 0 rfl rfl ev28 dX10_walks_139 ?_
                    refine lv_dup2_11 (pc := 140) hx hb dX10_walks_140 rfl rfl ?_
                    obtain ⟨v29, ev29, hf⟩ := b1_ob hf
                    refine x_lald (pc := 141) X hw 23 1 rfl rfl ev29 dX10_walks_141 ?_
                    refine lv_iload (pc := 142) hx hb dX10_walks_142 (lv_at hl 0 rfl) ?_
                    obtain ⟨v30, hj, hf⟩ := b1_ob hf
                    have J163_29 : ∀ (H : Heap) (locs : List Loc) (ls : Array Slot), WD D A s (wX10 cs a q S21) H locs → lv_has ls 6 [(0, .ref a), (1, .int p1), (2, .int p2), (3, .int v11), (4, .int v20), (5, .int v24)] → W p l e rmX10_walks s m args below meth c H locs 0 0 Q (F0 m 163 ls [.long v30, .long v29, .int v28, .ref (q 38)]) := by
                      intro H locs ls hw hl
                      refine lv_ladd (pc := 163) hx hb dX10_walks_163 ?_
                      obtain ⟨S34, eS34, hf⟩ := b1_ob hf
                      refine x_last (pc := 164) X hw 23 1 rfl rfl (wL_ob eS34).1 dX10_walks_164 (ws2 := wX10 cs a q S34) (by rw [(wL_ob eS34).2]; rfl) (fun H locs hw => ?_)
                      refine lv_aload_n (pc := 165) hx hb dX10_walks_165 rfl (lv_at hl 0 rfl) ?_
                      refine x_get (pc := 166) X hw in_X10_walks_X10 0 rfl rfl 38 (by decide) (List.mem_of_getElem? (i := 3) rfl) rfl dX10_walks_166 ?_
                      refine lv_aload_n (pc := 169) hx hb dX10_walks_169 rfl (lv_at hl 0 rfl) ?_
                      refine x_get (pc := 170) X hw in_X10_walks_X10 0 rfl rfl 16 (by decide) (List.mem_of_getElem? (i := 6) rfl) rfl dX10_walks_170 ?_
                      refine lv_iload (pc := 173) hx hb dX10_walks_173 (lv_at hl 4 rfl) ?_
                      obtain ⟨v35, ev35, hf⟩ := b1_ob hf
                      refine x_iald (pc := 175) X hw 9 0 rfl rfl ev35 dX10_walks_175 ?_
                      refine lv_dup2_11 (pc := 176) hx hb dX10_walks_176 rfl rfl ?_
                      obtain ⟨v36, ev36, hf⟩ := b1_ob hf
                      refine x_lald (pc := 177) X hw 23 1 rfl rfl ev36 dX10_walks_177 ?_
                      refine lv_iload (pc := 178) hx hb dX10_walks_178 (lv_at hl 5 rfl) ?_
                      obtain ⟨v37, hj, hf⟩ := b1_ob hf
                      have J199_36 : ∀ (H : Heap) (locs : List Loc) (ls : Array Slot), WD D A s (wX10 cs a q S34) H locs → lv_has ls 6 [(0, .ref a), (1, .int p1), (2, .int p2), (3, .int v11), (4, .int v20)] → W p l e rmX10_walks s m args below meth c H locs 0 0 Q (F0 m 199 ls [.long v37, .long v36, .int v35, .ref (q 38)]) := by
                        intro H locs ls hw hl
                        refine lv_ladd (pc := 199) hx hb dX10_walks_199 ?_
                        obtain ⟨S41, eS41, hf⟩ := b1_ob hf
                        refine x_last (pc := 200) X hw 23 1 rfl rfl (wL_ob eS41).1 dX10_walks_200 (ws2 := wX10 cs a q S41) (by rw [(wL_ob eS41).2]; rfl) (fun H locs hw => ?_)
                        obtain ⟨v42, ev42, hf⟩ := bn_ob hf
                        refine lv_iinc (pc := 201) (v := v42) (lv' := [(4, .int v42), (0, .ref a), (1, .int p1), (2, .int p2), (3, .int v11)]) hx hb dX10_walks_201 hl (k := 4) rfl (by rw [ev42]; rfl) (by decide) rfl (fun ls hl => ?_)
                        refine lv_goto (pc := 204) (tgt := 83) hx hb dX10_walks_204 (by decide) ?_
                        cases hf
                        exact ih v42 S41 rS21 hx0 _ _ _ hw (lv_sub hl [1, 2, 3, 4, 0] rfl) K
                      clear hf; have hf := hj; clear hj
                      refine lv_if_eq (pc := 180) (tgt := 198) hx hb dX10_walks_180 (by decide) (fun c38 => ?_) (fun c38 => ?_)
                      · have hf := ipos c38 hf
                        refine lv_lconst (pc := 198) (v := 0) hx hb dX10_walks_198 (by decide) ?_
                        cases hf
                        exact J199_36 _ _ _ hw (lv_sub hl [0, 1, 2, 3, 4] rfl)
                      · have hf := ineg c38 hf
                        refine lv_aload_n (pc := 183) hx hb dX10_walks_183 rfl (lv_at hl 0 rfl) ?_
                        refine x_get (pc := 184) X hw in_X10_walks_X10 0 rfl rfl 37 (by decide) (List.mem_of_getElem? (i := 2) rfl) rfl dX10_walks_184 ?_
                        refine lv_aload_n (pc := 187) hx hb dX10_walks_187 rfl (lv_at hl 0 rfl) ?_
                        refine x_get (pc := 188) X hw in_X10_walks_X10 0 rfl rfl 15 (by decide) (List.mem_of_getElem? (i := 5) rfl) rfl dX10_walks_188 ?_
                        refine lv_iload (pc := 191) hx hb dX10_walks_191 (lv_at hl 4 rfl) ?_
                        obtain ⟨v39, ev39, hf⟩ := b1_ob hf
                        refine x_iald (pc := 193) X hw 8 0 rfl rfl ev39 dX10_walks_193 ?_
                        obtain ⟨v40, ev40, hf⟩ := b1_ob hf
                        refine x_lald (pc := 194) X hw 22 1 rfl rfl ev40 dX10_walks_194 ?_
                        refine lv_goto (pc := 195) (tgt := 199) hx hb dX10_walks_195 (by decide) ?_
                        cases hf
                        exact J199_36 _ _ _ hw (lv_sub hl [0, 1, 2, 3, 4] rfl)
                    clear hf; have hf := hj; clear hj
                    refine lv_if_eq (pc := 144) (tgt := 162) hx hb dX10_walks_144 (by decide) (fun c31 => ?_) (fun c31 => ?_)
                    · have hf := ipos c31 hf
                      refine lv_lconst (pc := 162) (v := 0) hx hb dX10_walks_162 (by decide) ?_
                      cases hf
                      exact J163_29 _ _ _ hw (lv_sub hl [1, 2, 3, 4, 5, 0] rfl)
                    · have hf := ineg c31 hf
                      refine lv_aload_n (pc := 147) hx hb dX10_walks_147 rfl (lv_at hl 1 rfl) ?_
                      refine x_get (pc := 148) X hw in_X10_walks_X10 0 rfl rfl 37 (by decide) (List.mem_of_getElem? (i := 2) rfl) rfl dX10_walks_148 ?_
                      refine lv_aload_n (pc := 151) hx hb dX10_walks_151 rfl (lv_at hl 1 rfl) ?_
                      refine x_get (pc := 152) X hw in_X10_walks_X10 0 rfl rfl 16 (by decide) (List.mem_of_getElem? (i := 6) rfl) rfl dX10_walks_152 ?_
                      refine lv_iload (pc := 155) hx hb dX10_walks_155 (lv_at hl 5 rfl) ?_
                      obtain ⟨v32, ev32, hf⟩ := b1_ob hf
                      refine x_iald (pc := 157) X hw 9 0 rfl rfl ev32 dX10_walks_157 ?_
                      obtain ⟨v33, ev33, hf⟩ := b1_ob hf
                      refine x_lald (pc := 158) X hw 22 1 rfl rfl ev33 dX10_walks_158 ?_
                      refine lv_goto (pc := 159) (tgt := 163) hx hb dX10_walks_159 (by decide) ?_
                      cases hf
                      exact J163_29 _ _ _ hw (lv_sub hl [1, 2, 3, 4, 5, 0] rfl)
                  clear hf; have hf := hj; clear hj
                  refine lv_icmp_ne (pc := 104) (tgt := 126) hx hb dX10_walks_104 (by decide) (fun c25 => ?_) (fun c25 => ?_)
                  · have hf := ineg c25 hf
                    refine lv_iconst (pc := 126) (v := 0) hx hb dX10_walks_126 (by decide) ?_
                    cases hf
                    exact J127_23 _ _ _ hw (lv_sub hl [0, 1, 2, 3, 4] rfl)
                  · have hf := ipos c25 hf
                    refine lv_iload_n (pc := 107) hx hb dX10_walks_107 rfl (lv_at hl 1 rfl) ?_
                    refine lv_aload_n (pc := 108) hx hb dX10_walks_108 rfl (lv_at hl 0 rfl) ?_
                    refine x_get (pc := 109) X hw in_X10_walks_X10 0 rfl rfl 16 (by decide) (List.mem_of_getElem? (i := 6) rfl) rfl dX10_walks_109 ?_
                    refine lv_iload (pc := 112) hx hb dX10_walks_112 (lv_at hl 4 rfl) ?_
                    obtain ⟨v26, ev26, hf⟩ := b1_ob hf
                    refine x_iald (pc := 114) X hw 9 0 rfl rfl ev26 dX10_walks_114 ?_
                    refine lv_ishr (pc := 115) hx hb dX10_walks_115 ?_
                    refine lv_iconst (pc := 116) (v := 1) hx hb dX10_walks_116 (by decide) ?_
                    refine lv_iand (pc := 117) hx hb dX10_walks_117 ?_
                    refine lv_iconst (pc := 118) (v := 1) hx hb dX10_walks_118 (by decide) ?_
                    refine lv_icmp_ne (pc := 119) (tgt := 126) hx hb dX10_walks_119 (by decide) (fun c27 => ?_) (fun c27 => ?_)
                    · have hf := ineg c27 hf
                      refine lv_iconst (pc := 126) (v := 0) hx hb dX10_walks_126 (by decide) ?_
                      cases hf
                      exact J127_23 _ _ _ hw (lv_sub hl [0, 1, 2, 3, 4] rfl)
                    · have hf := ipos c27 hf
                      refine lv_iconst (pc := 122) (v := 1) hx hb dX10_walks_122 (by decide) ?_
                      refine lv_goto (pc := 123) (tgt := 127) hx hb dX10_walks_123 (by decide) ?_
                      cases hf
                      exact J127_23 _ _ _ hw (lv_sub hl [0, 1, 2, 3, 4] rfl)
            obtain ⟨S43, hj, hf⟩ := b1_ob hf
            refine L83 _ 0 S19 S43 hj _ _ _ hw (lv_sub hl [1, 2, 3, 4, 0] rfl) (fun H locs ls hw hl => ?_)
            clear hj L83
            refine lv_iconst (pc := 207) (v := 0) hx hb dX10_walks_207 (by decide) ?_
            refine lv_istore (lv' := [(4, .int 0), (0, .ref a), (1, .int p1), (2, .int p2), (3, .int v11)]) (pc := 208) hx hb dX10_walks_208 hl (by decide) rfl (fun ls hl => ?_)
            have L210 : ∀ (n : Nat) (v44 : Int32) (S45 : PS) (rS45 : PS), L_X10_walks_210 n v44 S45 = some rS45 → ∀ (H : Heap) (locs : List Loc) (ls : Array Slot), WD D A s (wX10 cs a q S45) H locs → lv_has ls 6 [(0, .ref a), (1, .int p1), (2, .int p2), (3, .int v11), (4, .int v44)] → (∀ (H : Heap) (locs : List Loc) (ls : Array Slot), WD D A s (wX10 cs a q rS45) H locs → lv_has ls 6 [(0, .ref a), (1, .int p1), (2, .int p2), (3, .int v11)] → W p l e rmX10_walks s m args below meth c H locs 0 0 Q (F0 m 237 ls [])) → W p l e rmX10_walks s m args below meth c H locs 0 0 Q (F0 m 210 ls []) := by
              intro n
              induction n with
              | zero => intro v44 S45 rS45 hf; exact (loopF_z hf).elim
              | succ n ih =>
                intro v44 S45 rS45 hf H locs ls hw hl K
                obtain ⟨x, hf, hx0⟩ := loopF_ob hf
                have hf : B_X10_walks_210 v44 S45 = some x := hf
                unfold B_X10_walks_210 at hf
                refine lv_iload (pc := 210) hx hb dX10_walks_210 (lv_at hl 4 rfl) ?_
                refine lv_bipush (pc := 212) (v := 8) hx hb dX10_walks_212 (by decide) ?_
                refine lv_icmp_ge (pc := 214) (tgt := 237) hx hb dX10_walks_214 (by decide) (fun c46 => ?_) (fun c46 => ?_)
                · have hf := ipos c46 hf
                  cases hf
                  cases (hx0 : S45 = rS45)
                  exact K _ _ _ hw (lv_sub hl [0, 1, 2, 3] rfl)
                · have hf := ineg c46 hf
                  refine lv_aload_n (pc := 217) hx hb dX10_walks_217 rfl (lv_at hl 0 rfl) ?_
                  refine x_get (pc := 218) X hw in_X10_walks_X10 0 rfl rfl 37 (by decide) (List.mem_of_getElem? (i := 2) rfl) rfl dX10_walks_218 ?_
                  refine lv_iload (pc := 221) hx hb dX10_walks_221 (lv_at hl 4 rfl) ?_
                  refine lv_aload_n (pc := 223) hx hb dX10_walks_223 rfl (lv_at hl 0 rfl) ?_
                  refine x_get (pc := 224) X hw in_X10_walks_X10 0 rfl rfl 38 (by decide) (List.mem_of_getElem? (i := 3) rfl) rfl dX10_walks_224 ?_
                  refine lv_iload (pc := 227) hx hb dX10_walks_227 (lv_at hl 4 rfl) ?_
                  obtain ⟨v47, ev47, hf⟩ := b1_ob hf
                  refine x_lald (pc := 229) X hw 23 1 rfl rfl ev47 dX10_walks_229 ?_
                  obtain ⟨S48, eS48, hf⟩ := b1_ob hf
                  refine x_last (pc := 230) X hw 22 1 rfl rfl (wL_ob eS48).1 dX10_walks_230 (ws2 := wX10 cs a q S48) (by rw [(wL_ob eS48).2]; rfl) (fun H locs hw => ?_)
                  obtain ⟨v49, ev49, hf⟩ := bn_ob hf
                  refine lv_iinc (pc := 231) (v := v49) (lv' := [(4, .int v49), (0, .ref a), (1, .int p1), (2, .int p2), (3, .int v11)]) hx hb dX10_walks_231 hl (k := 4) rfl (by rw [ev49]; rfl) (by decide) rfl (fun ls hl => ?_)
                  refine lv_goto (pc := 234) (tgt := 210) hx hb dX10_walks_234 (by decide) ?_
                  cases hf
                  exact ih v49 S48 rS45 hx0 _ _ _ hw (lv_sub hl [1, 2, 3, 4, 0] rfl) K
            obtain ⟨S50, hj, hf⟩ := b1_ob hf
            refine L210 _ 0 S43 S50 hj _ _ _ hw (lv_sub hl [1, 2, 3, 4, 0] rfl) (fun H locs ls hw hl => ?_)
            clear hj L210
            obtain ⟨v51, ev51, hf⟩ := bn_ob hf
            refine lv_iinc (pc := 237) (v := v51) (lv' := [(3, .int v51), (0, .ref a), (1, .int p1), (2, .int p2)]) hx hb dX10_walks_237 hl (k := 3) rfl (by rw [ev51]; rfl) (by decide) rfl (fun ls hl => ?_)
            refine lv_goto (pc := 240) (tgt := 51) hx hb dX10_walks_240 (by decide) ?_
            cases hf
            exact ih v51 S50 rS12 hx0 _ _ _ hw (lv_sub hl [1, 2, 3, 0] rfl) K
      obtain ⟨S52, hj, hf⟩ := b1_ob hf
      refine L51 _ 0 S10 S52 hj _ _ _ hw (lv_sub hl [1, 2, 3, 0] rfl) (fun H locs ls hw hl => ?_)
      clear hj L51
      refine lv_lconst (pc := 243) (v := 0) hx hb dX10_walks_243 (by decide) ?_
      refine lv_lstore_n (lv' := [(3, .long 0), (0, .ref a)]) (pc := 244) hx hb dX10_walks_244 rfl hl (by decide) rfl (fun ls hl => ?_)
      refine lv_iconst (pc := 245) (v := 0) hx hb dX10_walks_245 (by decide) ?_
      refine lv_istore (lv' := [(5, .int 0), (3, .long 0), (0, .ref a)]) (pc := 246) hx hb dX10_walks_246 hl (by decide) rfl (fun ls hl => ?_)
      have L248 : ∀ (n : Nat) (v53 : Int64) (v54 : Int32) (rv53 : Int64), L_X10_walks_248 S52 n v53 v54 = some rv53 → ∀ (H : Heap) (locs : List Loc) (ls : Array Slot), WD D A s (wX10 cs a q S52) H locs → lv_has ls 6 [(0, .ref a), (3, .long v53), (5, .int v54)] → (∀ (H : Heap) (locs : List Loc) (ls : Array Slot), WD D A s (wX10 cs a q S52) H locs → lv_has ls 6 [(3, .long rv53)] → W p l e rmX10_walks s m args below meth c H locs 0 0 Q (F0 m 271 ls [])) → W p l e rmX10_walks s m args below meth c H locs 0 0 Q (F0 m 248 ls []) := by
        intro n
        induction n with
        | zero => intro v53 v54 rv53 hf; exact (loopF_z hf).elim
        | succ n ih =>
          intro v53 v54 rv53 hf H locs ls hw hl K
          obtain ⟨x, hf, hx0⟩ := loopF_ob hf
          have hf : B_X10_walks_248 S52 v53 v54 = some x := hf
          unfold B_X10_walks_248 at hf
          refine lv_iload (pc := 248) hx hb dX10_walks_248 (lv_at hl 2 rfl) ?_
          refine lv_bipush (pc := 250) (v := 8) hx hb dX10_walks_250 (by decide) ?_
          refine lv_icmp_ge (pc := 252) (tgt := 271) hx hb dX10_walks_252 (by decide) (fun c55 => ?_) (fun c55 => ?_)
          · have hf := ipos c55 hf
            cases hf
            cases (hx0 : v53 = rv53)
            exact K _ _ _ hw (lv_sub hl [1] rfl)
          · have hf := ineg c55 hf
            refine lv_lload_n (pc := 255) hx hb dX10_walks_255 rfl (lv_at hl 1 rfl) ?_
            refine lv_aload_n (pc := 256) hx hb dX10_walks_256 rfl (lv_at hl 0 rfl) ?_
            refine x_get (pc := 257) X hw in_X10_walks_X10 0 rfl rfl 37 (by decide) (List.mem_of_getElem? (i := 2) rfl) rfl dX10_walks_257 ?_
            refine lv_iload (pc := 260) hx hb dX10_walks_260 (lv_at hl 2 rfl) ?_
            obtain ⟨v56, ev56, hf⟩ := b1_ob hf
            refine x_lald (pc := 262) X hw 22 1 rfl rfl ev56 dX10_walks_262 ?_
            refine lv_ladd (pc := 263) hx hb dX10_walks_263 ?_
            obtain ⟨v57, ev57, hf⟩ := bn_ob hf
            refine x_topl ev57 ?_
            refine lv_lstore_n (lv' := [(3, .long v57), (0, .ref a), (5, .int v54)]) (pc := 264) hx hb dX10_walks_264 rfl hl (by decide) rfl (fun ls hl => ?_)
            obtain ⟨v58, ev58, hf⟩ := bn_ob hf
            refine lv_iinc (pc := 265) (v := v58) (lv' := [(5, .int v58), (3, .long v57), (0, .ref a)]) hx hb dX10_walks_265 hl (k := 2) rfl (by rw [ev58]; rfl) (by decide) rfl (fun ls hl => ?_)
            refine lv_goto (pc := 268) (tgt := 248) hx hb dX10_walks_268 (by decide) ?_
            cases hf
            exact ih v57 v58 rv53 hx0 _ _ _ hw (lv_sub hl [2, 1, 0] rfl) K
      obtain ⟨v59, hj, hf⟩ := b1_ob hf
      refine L248 _ 0 0 v59 hj _ _ _ hw (lv_sub hl [2, 1, 0] rfl) (fun H locs ls hw hl => ?_)
      clear hj L248
      refine lv_lload_n (pc := 271) hx hb dX10_walks_271 rfl (lv_at hl 0 rfl) ?_
      refine lv_ldc2 (pc := 272) (v := (999999999)) hx hb hown (hts _ (List.mem_of_getElem? (i := 7) rfl)) dX10_walks_272 ?_
      refine W.lcmp (pc := 275) hx hb dX10_walks_275 ?_
      obtain ⟨v60, hj, hf⟩ := b1_ob hf
      have J287_59 : ∀ (H : Heap) (locs : List Loc) (ls : Array Slot), WD D A s (wX10 cs a q S52) H locs → lv_has ls 6 [] → W p l e rmX10_walks s m args below meth c H locs 0 0 Q (F0 m 287 ls [.int v60]) := by
        intro H locs ls hw hl
        cases hf
        exact hret _ _ 287 _ hw ⟨_, rfl, rfl⟩ dX10_walks_287
      clear hf; have hf := hj; clear hj
      refine lv_if_le (pc := 276) (tgt := 285) hx hb dX10_walks_276 (by decide) (fun c61 => ?_) (fun c61 => ?_)
      · have hf := ipos c61 hf
        refine lv_lload_n (pc := 285) hx hb dX10_walks_285 rfl (lv_at hl 0 rfl) ?_
        refine lv_l2i (pc := 286) hx hb dX10_walks_286 rfl ?_
        cases hf
        exact J287_59 _ _ _ hw (lv_sub hl [] rfl)
      · have hf := ineg c61 hf
        refine lv_ldcw (pc := 279) (v := (999999999)) hx hb hown (hts _ (List.mem_of_getElem? (i := 8) rfl)) dX10_walks_279 ?_
        refine lv_goto (pc := 282) (tgt := 287) hx hb dX10_walks_282 (by decide) ?_
        cases hf
        exact J287_59 _ _ _ hw (lv_sub hl [] rfl)
    · have hf := ipos c4 hf
      refine lv_bipush (pc := 20) (v := (-3)) hx hb dX10_walks_20 (by decide) ?_
      cases hf
      exact hret _ _ 22 _ hw ⟨_, rfl, rfl⟩ dX10_walks_22

abbrev rmX10_isSum : Room := { frames := 1, cells := 0, slots := 0, locals := 25 }
def f_X10_isSum (p1 : Int32) : Option (Int32) :=
  b1 (f_X10_in (p1.toInt64) 0 1) fun v1 =>
  b1 (ckB v1) fun v2 =>
  some v2
set_option maxHeartbeats 4000000 in
set_option maxRecDepth 100000 in
theorem c_X10_isSum (l : Launch) (D : va_G) (cs : CS) (p1 : Int32) (r : Int32) (hf : f_X10_isSum p1 = some r) : CT l D (TY cs) yX10_isSum wsX10_isSum rmX10_isSum [.int p1] ([]) (some (.int r)) ([]) := by
  refine CT.ofW (own := RX10) (cc := cX10_isSum) (maxL := 1) (ret := some .boolean) (by decide) rfl rfl (Nat.le_of_ble_eq_true rfl) ?_
  intro p e s m args below meth c A Q X hret ls hl hw
  obtain ⟨hx, hb, hml, hown, hts, hK, hA, hr, hlk⟩ := id X
  have hl : lv_has ls 1 [(0, .int p1)] := hl
  unfold f_X10_isSum at hf
  refine lv_iload_n (pc := 0) hx hb dX10_isSum_0 rfl (lv_at hl 0 rfl) ?_
  refine lv_i2l (pc := 1) hx hb dX10_isSum_1 rfl ?_
  refine lv_lconst (pc := 2) (v := 0) hx hb dX10_isSum_2 (by decide) ?_
  refine lv_lconst (pc := 3) (v := 1) hx hb dX10_isSum_3 (by decide) ?_
  obtain ⟨v1, hc, hf⟩ := b1_ob hf
  refine x_nil (pc := 4) X hw (va_runS (As := [.long (p1.toInt64), .long 0, .long 1]) (rest := []) ⟨hx, hb, hml, hown, hts⟩ (c_X10_in l D cs (p1.toInt64) 0 1 v1 hc _) (va_cwS 3 hts gX10_isSum_X10_in rfl rfl rfl (by decide +kernel) ⟨Nat.le_of_ble_eq_true rfl, Nat.le_of_ble_eq_true rfl⟩) ⟨CP_blind, x_preN X [.long (p1.toInt64), .long 0, .long 1]⟩ rfl rfl hl.1 rfl (lv_room (Nat.le_of_ble_eq_true rfl)) dX10_isSum_4 ⟨Nat.zero_le _, Nat.zero_le _⟩) (fun H locs hw => ?_)
  obtain ⟨v2, ev2, hf⟩ := b1_ob hf
  refine x_topi (ckB_ob ev2).1.symm ?_
  cases hf
  exact hret _ _ 7 _ hw ⟨_, rfl, ckB_nar (ckB_ob ev2).2⟩ dX10_isSum_7

abbrev rmX10_areThree : Room := { frames := 1, cells := 0, slots := 0, locals := 25 }
def f_X10_areThree (p1 : Int32) (p2 : Int32) (p3 : Int32) (p4 : Int32) : Option (Int32) :=
  b1 (f_X10_in (p1.toInt64) 0 (p4.toInt64)) fun v1 =>
  b1 (
    if v1 = 0 then
      some (0 : Int32)
    else
    b1 (f_X10_in (p2.toInt64) 0 (p4.toInt64)) fun v4 =>
    if v4 = 0 then
      some (0 : Int32)
    else
    b1 (f_X10_in (p3.toInt64) 0 (p4.toInt64)) fun v6 =>
    if v6 = 0 then
      some (0 : Int32)
    else
    some (1 : Int32)) fun v2 =>
  b1 (ckB v2) fun v8 =>
  some v8
set_option maxHeartbeats 4000000 in
set_option maxRecDepth 100000 in
theorem c_X10_areThree (l : Launch) (D : va_G) (cs : CS) (p1 : Int32) (p2 : Int32) (p3 : Int32) (p4 : Int32) (r : Int32) (hf : f_X10_areThree p1 p2 p3 p4 = some r) : CT l D (TY cs) yX10_areThree wsX10_areThree rmX10_areThree [.int p1, .int p2, .int p3, .int p4] ([]) (some (.int r)) ([]) := by
  refine CT.ofW (own := RX10) (cc := cX10_areThree) (maxL := 4) (ret := some .boolean) (by decide) rfl rfl (Nat.le_of_ble_eq_true rfl) ?_
  intro p e s m args below meth c A Q X hret ls hl hw
  obtain ⟨hx, hb, hml, hown, hts, hK, hA, hr, hlk⟩ := id X
  have hl : lv_has ls 4 [(0, .int p1), (1, .int p2), (2, .int p3), (3, .int p4)] := hl
  unfold f_X10_areThree at hf
  refine lv_iload_n (pc := 0) hx hb dX10_areThree_0 rfl (lv_at hl 0 rfl) ?_
  refine lv_i2l (pc := 1) hx hb dX10_areThree_1 rfl ?_
  refine lv_lconst (pc := 2) (v := 0) hx hb dX10_areThree_2 (by decide) ?_
  refine lv_iload_n (pc := 3) hx hb dX10_areThree_3 rfl (lv_at hl 3 rfl) ?_
  refine lv_i2l (pc := 4) hx hb dX10_areThree_4 rfl ?_
  obtain ⟨v1, hc, hf⟩ := b1_ob hf
  refine x_nil (pc := 5) X hw (va_runS (As := [.long (p1.toInt64), .long 0, .long (p4.toInt64)]) (rest := []) ⟨hx, hb, hml, hown, hts⟩ (c_X10_in l D cs (p1.toInt64) 0 (p4.toInt64) v1 hc _) (va_cwS 3 hts gX10_areThree_X10_in rfl rfl rfl (by decide +kernel) ⟨Nat.le_of_ble_eq_true rfl, Nat.le_of_ble_eq_true rfl⟩) ⟨CP_blind, x_preN X [.long (p1.toInt64), .long 0, .long (p4.toInt64)]⟩ rfl rfl hl.1 rfl (lv_room (Nat.le_of_ble_eq_true rfl)) dX10_areThree_5 ⟨Nat.zero_le _, Nat.zero_le _⟩) (fun H locs hw => ?_)
  obtain ⟨v2, hj, hf⟩ := b1_ob hf
  have J38_1 : ∀ (H : Heap) (locs : List Loc) (ls : Array Slot), WD D A s ([]) H locs → lv_has ls 4 [] → W p l e rmX10_areThree s m args below meth c H locs 0 0 Q (F0 m 38 ls [.int v2]) := by
    intro H locs ls hw hl
    obtain ⟨v8, ev8, hf⟩ := b1_ob hf
    refine x_topi (ckB_ob ev8).1.symm ?_
    cases hf
    exact hret _ _ 38 _ hw ⟨_, rfl, ckB_nar (ckB_ob ev8).2⟩ dX10_areThree_38
  clear hf; have hf := hj; clear hj
  refine lv_if_eq (pc := 8) (tgt := 37) hx hb dX10_areThree_8 (by decide) (fun c3 => ?_) (fun c3 => ?_)
  · have hf := ipos c3 hf
    refine lv_iconst (pc := 37) (v := 0) hx hb dX10_areThree_37 (by decide) ?_
    cases hf
    exact J38_1 _ _ _ hw (lv_sub hl [] rfl)
  · have hf := ineg c3 hf
    refine lv_iload_n (pc := 11) hx hb dX10_areThree_11 rfl (lv_at hl 1 rfl) ?_
    refine lv_i2l (pc := 12) hx hb dX10_areThree_12 rfl ?_
    refine lv_lconst (pc := 13) (v := 0) hx hb dX10_areThree_13 (by decide) ?_
    refine lv_iload_n (pc := 14) hx hb dX10_areThree_14 rfl (lv_at hl 3 rfl) ?_
    refine lv_i2l (pc := 15) hx hb dX10_areThree_15 rfl ?_
    obtain ⟨v4, hc, hf⟩ := b1_ob hf
    refine x_nil (pc := 16) X hw (va_runS (As := [.long (p2.toInt64), .long 0, .long (p4.toInt64)]) (rest := []) ⟨hx, hb, hml, hown, hts⟩ (c_X10_in l D cs (p2.toInt64) 0 (p4.toInt64) v4 hc _) (va_cwS 3 hts gX10_areThree_X10_in rfl rfl rfl (by decide +kernel) ⟨Nat.le_of_ble_eq_true rfl, Nat.le_of_ble_eq_true rfl⟩) ⟨CP_blind, x_preN X [.long (p2.toInt64), .long 0, .long (p4.toInt64)]⟩ rfl rfl hl.1 rfl (lv_room (Nat.le_of_ble_eq_true rfl)) dX10_areThree_16 ⟨Nat.zero_le _, Nat.zero_le _⟩) (fun H locs hw => ?_)
    refine lv_if_eq (pc := 19) (tgt := 37) hx hb dX10_areThree_19 (by decide) (fun c5 => ?_) (fun c5 => ?_)
    · have hf := ipos c5 hf
      refine lv_iconst (pc := 37) (v := 0) hx hb dX10_areThree_37 (by decide) ?_
      cases hf
      exact J38_1 _ _ _ hw (lv_sub hl [] rfl)
    · have hf := ineg c5 hf
      refine lv_iload_n (pc := 22) hx hb dX10_areThree_22 rfl (lv_at hl 2 rfl) ?_
      refine lv_i2l (pc := 23) hx hb dX10_areThree_23 rfl ?_
      refine lv_lconst (pc := 24) (v := 0) hx hb dX10_areThree_24 (by decide) ?_
      refine lv_iload_n (pc := 25) hx hb dX10_areThree_25 rfl (lv_at hl 3 rfl) ?_
      refine lv_i2l (pc := 26) hx hb dX10_areThree_26 rfl ?_
      obtain ⟨v6, hc, hf⟩ := b1_ob hf
      refine x_nil (pc := 27) X hw (va_runS (As := [.long (p3.toInt64), .long 0, .long (p4.toInt64)]) (rest := []) ⟨hx, hb, hml, hown, hts⟩ (c_X10_in l D cs (p3.toInt64) 0 (p4.toInt64) v6 hc _) (va_cwS 3 hts gX10_areThree_X10_in rfl rfl rfl (by decide +kernel) ⟨Nat.le_of_ble_eq_true rfl, Nat.le_of_ble_eq_true rfl⟩) ⟨CP_blind, x_preN X [.long (p3.toInt64), .long 0, .long (p4.toInt64)]⟩ rfl rfl hl.1 rfl (lv_room (Nat.le_of_ble_eq_true rfl)) dX10_areThree_27 ⟨Nat.zero_le _, Nat.zero_le _⟩) (fun H locs hw => ?_)
      refine lv_if_eq (pc := 30) (tgt := 37) hx hb dX10_areThree_30 (by decide) (fun c7 => ?_) (fun c7 => ?_)
      · have hf := ipos c7 hf
        refine lv_iconst (pc := 37) (v := 0) hx hb dX10_areThree_37 (by decide) ?_
        cases hf
        exact J38_1 _ _ _ hw (lv_sub hl [] rfl)
      · have hf := ineg c7 hf
        refine lv_iconst (pc := 33) (v := 1) hx hb dX10_areThree_33 (by decide) ?_
        refine lv_goto (pc := 34) (tgt := 38) hx hb dX10_areThree_34 (by decide) ?_
        cases hf
        exact J38_1 _ _ _ hw (lv_sub hl [] rfl)

theorem in_X10_term_X10 : ∀ w ∈ wsX100, w ∈ wsX10_term := fun _ h => List.mem_cons_of_mem _ (List.mem_append_right _ h)
abbrev rmX10_term : Room := { frames := 2, cells := 0, slots := 0, locals := 48 }
def f_X10_term (S : PS) (p1 : Int32) (p2 : Int32) (p3 : Int32) (p4 : Int32) (p5 : Int32) : Option (Int32 × PS) :=
  b1 (f_X10_isSum p1) fun v1 =>
  if v1 = 0 then
    some ((-2), S)
  else
  b1 (f_X10_in (p2.toInt64) (-9) (9)) fun v3 =>
  if v3 = 0 then
    some ((-3), S)
  else
  b1 (f_X10_areThree p3 p4 p5 3) fun v5 =>
  if v5 = 0 then
    some ((-3), S)
  else
  b1 (rdI 2 (S.2.1 23) p1) fun v7 =>
  if v7 = 6 then
    some ((-5), S)
  else
  b1 (rdI 2 (S.2.1 23) p1) fun v9 =>
  bn ((6 * p1) + v9) fun v10 =>
  b1 (wA 12 S 24 v10 p2) fun S11 =>
  b1 (wA 12 S11 25 v10 p3) fun S12 =>
  b1 (wA 12 S12 26 v10 p4) fun S13 =>
  b1 (wA 12 S13 27 v10 p5) fun S14 =>
  b1 (rdI 2 (S14.2.1 23) p1) fun v15 =>
  b1 (wA 2 S14 23 p1 (v15 + 1)) fun S16 =>
  b1 (rdI 2 (S16.2.1 23) p1) fun v17 =>
  some (v17, S16)
set_option maxHeartbeats 4000000 in
set_option maxRecDepth 100000 in
theorem c_X10_term (l : Launch) (D : va_G) (cs : CS) (a : Nat) (q : Nat → Nat) (S : PS) (p1 : Int32) (p2 : Int32) (p3 : Int32) (p4 : Int32) (p5 : Int32) (r : Int32) (S' : PS) (hf : f_X10_term S p1 p2 p3 p4 p5 = some (r, S')) : CT l D (TY cs) yX10_term wsX10_term rmX10_term [.ref a, .int p1, .int p2, .int p3, .int p4, .int p5] (wX10 cs a q S) (some (.int r)) (wX10 cs a q S') := by
  refine CT.ofW (own := RX10) (cc := cX10_term) (maxL := 7) (ret := some .int) (by decide) rfl rfl (Nat.le_of_ble_eq_true rfl) ?_
  intro p e s m args below meth c A Q X hret ls hl hw
  obtain ⟨hx, hb, hml, hown, hts, hK, hA, hr, hlk⟩ := id X
  have hl : lv_has ls 7 [(0, .ref a), (1, .int p1), (2, .int p2), (3, .int p3), (4, .int p4), (5, .int p5)] := hl
  unfold f_X10_term at hf
  refine lv_iload_n (pc := 0) hx hb dX10_term_0 rfl (lv_at hl 1 rfl) ?_
  obtain ⟨v1, hc, hf⟩ := b1_ob hf
  refine x_nil (pc := 1) X hw (va_runS (As := [.int p1]) (rest := []) ⟨hx, hb, hml, hown, hts⟩ (c_X10_isSum l D cs p1 v1 hc _) (va_cwS 1 hts gX10_term_X10_isSum rfl rfl rfl (by decide +kernel) ⟨Nat.le_of_ble_eq_true rfl, Nat.le_of_ble_eq_true rfl⟩) ⟨CP_blind, x_preN X [.int p1]⟩ rfl rfl hl.1 rfl (lv_room (Nat.le_of_ble_eq_true rfl)) dX10_term_1 ⟨Nat.zero_le _, Nat.zero_le _⟩) (fun H locs hw => ?_)
  refine lv_if_ne (pc := 4) (tgt := 10) hx hb dX10_term_4 (by decide) (fun c2 => ?_) (fun c2 => ?_)
  · have hf := ineg c2 hf
    refine lv_iload_n (pc := 10) hx hb dX10_term_10 rfl (lv_at hl 2 rfl) ?_
    refine lv_i2l (pc := 11) hx hb dX10_term_11 rfl ?_
    refine lv_ldc2 (pc := 12) (v := (-9)) hx hb hown (hts _ (List.mem_of_getElem? (i := 1) rfl)) dX10_term_12 ?_
    refine lv_ldc2 (pc := 15) (v := (9)) hx hb hown (hts _ (List.mem_of_getElem? (i := 2) rfl)) dX10_term_15 ?_
    obtain ⟨v3, hc, hf⟩ := b1_ob hf
    refine x_nil (pc := 18) X hw (va_runS (As := [.long (p2.toInt64), .long (-9), .long (9)]) (rest := []) ⟨hx, hb, hml, hown, hts⟩ (c_X10_in l D cs (p2.toInt64) (-9) (9) v3 hc _) (va_cwS 3 hts gX10_term_X10_in rfl rfl rfl (by decide +kernel) ⟨Nat.le_of_ble_eq_true rfl, Nat.le_of_ble_eq_true rfl⟩) ⟨CP_blind, x_preN X [.long (p2.toInt64), .long (-9), .long (9)]⟩ rfl rfl hl.1 rfl (lv_room (Nat.le_of_ble_eq_true rfl)) dX10_term_18 ⟨Nat.zero_le _, Nat.zero_le _⟩) (fun H locs hw => ?_)
    refine lv_if_eq (pc := 21) (tgt := 36) hx hb dX10_term_21 (by decide) (fun c4 => ?_) (fun c4 => ?_)
    · have hf := ipos c4 hf
      refine lv_bipush (pc := 36) (v := (-3)) hx hb dX10_term_36 (by decide) ?_
      cases hf
      exact hret _ _ 38 _ hw ⟨_, rfl, rfl⟩ dX10_term_38
    · have hf := ineg c4 hf
      refine lv_iload_n (pc := 24) hx hb dX10_term_24 rfl (lv_at hl 3 rfl) ?_
      refine lv_iload (pc := 25) hx hb dX10_term_25 (lv_at hl 4 rfl) ?_
      refine lv_iload (pc := 27) hx hb dX10_term_27 (lv_at hl 5 rfl) ?_
      refine lv_iconst (pc := 29) (v := 3) hx hb dX10_term_29 (by decide) ?_
      obtain ⟨v5, hc, hf⟩ := b1_ob hf
      refine x_nil (pc := 30) X hw (va_runS (As := [.int p3, .int p4, .int p5, .int 3]) (rest := []) ⟨hx, hb, hml, hown, hts⟩ (c_X10_areThree l D cs p3 p4 p5 3 v5 hc _) (va_cwS 4 hts gX10_term_X10_areThree rfl rfl rfl (by decide +kernel) ⟨Nat.le_of_ble_eq_true rfl, Nat.le_of_ble_eq_true rfl⟩) ⟨CP_blind, x_preN X [.int p3, .int p4, .int p5, .int 3]⟩ rfl rfl hl.1 rfl (lv_room (Nat.le_of_ble_eq_true rfl)) dX10_term_30 ⟨Nat.zero_le _, Nat.zero_le _⟩) (fun H locs hw => ?_)
      refine lv_if_ne (pc := 33) (tgt := 39) hx hb dX10_term_33 (by decide) (fun c6 => ?_) (fun c6 => ?_)
      · have hf := ineg c6 hf
        refine lv_aload_n (pc := 39) hx hb dX10_term_39 rfl (lv_at hl 0 rfl) ?_
        refine x_get (pc := 40) X hw in_X10_term_X10 0 rfl rfl 23 (by decide) (List.mem_of_getElem? (i := 3) rfl) rfl dX10_term_40 ?_
        refine lv_iload_n (pc := 43) hx hb dX10_term_43 rfl (lv_at hl 1 rfl) ?_
        obtain ⟨v7, ev7, hf⟩ := b1_ob hf
        refine x_iald (pc := 44) X hw 13 0 rfl rfl ev7 dX10_term_44 ?_
        refine lv_bipush (pc := 45) (v := 6) hx hb dX10_term_45 (by decide) ?_
        refine lv_icmp_ne (pc := 47) (tgt := 53) hx hb dX10_term_47 (by decide) (fun c8 => ?_) (fun c8 => ?_)
        · have hf := ineg c8 hf
          refine lv_bipush (pc := 53) (v := 6) hx hb dX10_term_53 (by decide) ?_
          refine lv_iload_n (pc := 55) hx hb dX10_term_55 rfl (lv_at hl 1 rfl) ?_
          refine lv_imul (pc := 56) hx hb dX10_term_56 ?_
          refine lv_aload_n (pc := 57) hx hb dX10_term_57 rfl (lv_at hl 0 rfl) ?_
          refine x_get (pc := 58) X hw in_X10_term_X10 0 rfl rfl 23 (by decide) (List.mem_of_getElem? (i := 3) rfl) rfl dX10_term_58 ?_
          refine lv_iload_n (pc := 61) hx hb dX10_term_61 rfl (lv_at hl 1 rfl) ?_
          obtain ⟨v9, ev9, hf⟩ := b1_ob hf
          refine x_iald (pc := 62) X hw 13 0 rfl rfl ev9 dX10_term_62 ?_
          refine lv_iadd (pc := 63) hx hb dX10_term_63 ?_
          obtain ⟨v10, ev10, hf⟩ := bn_ob hf
          refine x_topi ev10 ?_
          refine lv_istore (lv' := [(6, .int v10), (0, .ref a), (1, .int p1), (2, .int p2), (3, .int p3), (4, .int p4), (5, .int p5)]) (pc := 64) hx hb dX10_term_64 hl (by decide) rfl (fun ls hl => ?_)
          refine lv_aload_n (pc := 66) hx hb dX10_term_66 rfl (lv_at hl 1 rfl) ?_
          refine x_get (pc := 67) X hw in_X10_term_X10 0 rfl rfl 24 (by decide) (List.mem_of_getElem? (i := 4) rfl) rfl dX10_term_67 ?_
          refine lv_iload (pc := 70) hx hb dX10_term_70 (lv_at hl 0 rfl) ?_
          refine lv_iload_n (pc := 72) hx hb dX10_term_72 rfl (lv_at hl 3 rfl) ?_
          obtain ⟨S11, eS11, hf⟩ := b1_ob hf
          refine x_iast (pc := 73) X hw 14 0 rfl rfl (wA_ob eS11).1 dX10_term_73 (ws2 := wX10 cs a q S11) (by rw [(wA_ob eS11).2]; rfl) (fun H locs hw => ?_)
          refine lv_aload_n (pc := 74) hx hb dX10_term_74 rfl (lv_at hl 1 rfl) ?_
          refine x_get (pc := 75) X hw in_X10_term_X10 0 rfl rfl 25 (by decide) (List.mem_of_getElem? (i := 5) rfl) rfl dX10_term_75 ?_
          refine lv_iload (pc := 78) hx hb dX10_term_78 (lv_at hl 0 rfl) ?_
          refine lv_iload_n (pc := 80) hx hb dX10_term_80 rfl (lv_at hl 4 rfl) ?_
          obtain ⟨S12, eS12, hf⟩ := b1_ob hf
          refine x_iast (pc := 81) X hw 15 0 rfl rfl (wA_ob eS12).1 dX10_term_81 (ws2 := wX10 cs a q S12) (by rw [(wA_ob eS12).2]; rfl) (fun H locs hw => ?_)
          refine lv_aload_n (pc := 82) hx hb dX10_term_82 rfl (lv_at hl 1 rfl) ?_
          refine x_get (pc := 83) X hw in_X10_term_X10 0 rfl rfl 26 (by decide) (List.mem_of_getElem? (i := 6) rfl) rfl dX10_term_83 ?_
          refine lv_iload (pc := 86) hx hb dX10_term_86 (lv_at hl 0 rfl) ?_
          refine lv_iload (pc := 88) hx hb dX10_term_88 (lv_at hl 5 rfl) ?_
          obtain ⟨S13, eS13, hf⟩ := b1_ob hf
          refine x_iast (pc := 90) X hw 16 0 rfl rfl (wA_ob eS13).1 dX10_term_90 (ws2 := wX10 cs a q S13) (by rw [(wA_ob eS13).2]; rfl) (fun H locs hw => ?_)
          refine lv_aload_n (pc := 91) hx hb dX10_term_91 rfl (lv_at hl 1 rfl) ?_
          refine x_get (pc := 92) X hw in_X10_term_X10 0 rfl rfl 27 (by decide) (List.mem_of_getElem? (i := 7) rfl) rfl dX10_term_92 ?_
          refine lv_iload (pc := 95) hx hb dX10_term_95 (lv_at hl 0 rfl) ?_
          refine lv_iload (pc := 97) hx hb dX10_term_97 (lv_at hl 6 rfl) ?_
          obtain ⟨S14, eS14, hf⟩ := b1_ob hf
          refine x_iast (pc := 99) X hw 17 0 rfl rfl (wA_ob eS14).1 dX10_term_99 (ws2 := wX10 cs a q S14) (by rw [(wA_ob eS14).2]; rfl) (fun H locs hw => ?_)
          refine lv_aload_n (pc := 100) hx hb dX10_term_100 rfl (lv_at hl 1 rfl) ?_
          refine x_get (pc := 101) X hw in_X10_term_X10 0 rfl rfl 23 (by decide) (List.mem_of_getElem? (i := 3) rfl) rfl dX10_term_101 ?_
          refine lv_iload_n (pc := 104) hx hb dX10_term_104 rfl (lv_at hl 2 rfl) ?_
          refine lv_dup2_11 (pc := 105) hx hb dX10_term_105 rfl rfl ?_
          obtain ⟨v15, ev15, hf⟩ := b1_ob hf
          refine x_iald (pc := 106) X hw 13 0 rfl rfl ev15 dX10_term_106 ?_
          refine lv_iconst (pc := 107) (v := 1) hx hb dX10_term_107 (by decide) ?_
          refine lv_iadd (pc := 108) hx hb dX10_term_108 ?_
          obtain ⟨S16, eS16, hf⟩ := b1_ob hf
          refine x_iast (pc := 109) X hw 13 0 rfl rfl (wA_ob eS16).1 dX10_term_109 (ws2 := wX10 cs a q S16) (by rw [(wA_ob eS16).2]; rfl) (fun H locs hw => ?_)
          refine lv_aload_n (pc := 110) hx hb dX10_term_110 rfl (lv_at hl 1 rfl) ?_
          refine x_get (pc := 111) X hw in_X10_term_X10 0 rfl rfl 23 (by decide) (List.mem_of_getElem? (i := 3) rfl) rfl dX10_term_111 ?_
          refine lv_iload_n (pc := 114) hx hb dX10_term_114 rfl (lv_at hl 2 rfl) ?_
          obtain ⟨v17, ev17, hf⟩ := b1_ob hf
          refine x_iald (pc := 115) X hw 13 0 rfl rfl ev17 dX10_term_115 ?_
          cases hf
          exact hret _ _ 116 _ hw ⟨_, rfl, rfl⟩ dX10_term_116
        · have hf := ipos c8 hf
          refine lv_bipush (pc := 50) (v := (-5)) hx hb dX10_term_50 (by decide) ?_
          cases hf
          exact hret _ _ 52 _ hw ⟨_, rfl, rfl⟩ dX10_term_52
      · have hf := ipos c6 hf
        refine lv_bipush (pc := 36) (v := (-3)) hx hb dX10_term_36 (by decide) ?_
        cases hf
        exact hret _ _ 38 _ hw ⟨_, rfl, rfl⟩ dX10_term_38
  · have hf := ipos c2 hf
    refine lv_bipush (pc := 7) (v := (-2)) hx hb dX10_term_7 (by decide) ?_
    cases hf
    exact hret _ _ 9 _ hw ⟨_, rfl, rfl⟩ dX10_term_9

theorem in_X10_valueOf_X10 : ∀ w ∈ wsX100, w ∈ wsX10_valueOf := fun _ h => List.mem_cons_of_mem _ (List.mem_append_right _ h)
abbrev rmX10_valueOf : Room := { frames := 1, cells := 0, slots := 0, locals := 25 }
def B_X10_valueOf_9 (S : PS) (p1 : Int32) (p2 : Int32) (p3 : Int32) (p4 : Int32) (v2 : Int64) (v3 : Int32) : Option ((Int64 × Int32) ⊕ (Int64)) :=
  b1 (rdI 2 (S.2.1 23) p1) fun v4 =>
  if ((6 * p1) + v4) ≤ v3 then
    some (.inr v2)
  else
  b1 (rdI 12 (S.2.1 24) v3) fun v6 =>
  b1 (rdI 12 (S.2.1 25) v3) fun v7 =>
  b1 (f_X10_power (p2.toInt64) v7) fun v8 =>
  b1 (rdI 12 (S.2.1 26) v3) fun v9 =>
  b1 (f_X10_power (p3.toInt64) v9) fun v10 =>
  b1 (rdI 12 (S.2.1 27) v3) fun v11 =>
  b1 (f_X10_power (p4.toInt64) v11) fun v12 =>
  bn (v2 + ((((v6.toInt64) * v8) * v10) * v12)) fun v13 =>
  bn (v3 + 1) fun v14 =>
  some (.inl (v13, v14))
def L_X10_valueOf_9 (S : PS) (p1 : Int32) (p2 : Int32) (p3 : Int32) (p4 : Int32) (n : Nat) (v2 : Int64) (v3 : Int32) : Option (Int64) := loopF (fun x : Int64 × Int32 => B_X10_valueOf_9 S p1 p2 p3 p4 x.1 x.2) n (v2, v3)
def f_X10_valueOf (S : PS) (p1 : Int32) (p2 : Int32) (p3 : Int32) (p4 : Int32) : Option (Int64) :=
  bn (6 * p1) fun v1 =>
  b1 (L_X10_valueOf_9 S p1 p2 p3 p4 FU 0 v1) fun v15 =>
  some v15
set_option maxHeartbeats 4000000 in
set_option maxRecDepth 100000 in
theorem c_X10_valueOf (l : Launch) (D : va_G) (cs : CS) (a : Nat) (q : Nat → Nat) (S : PS) (p1 : Int32) (p2 : Int32) (p3 : Int32) (p4 : Int32) (r : Int64) (hf : f_X10_valueOf S p1 p2 p3 p4 = some r) : CT l D (TY cs) yX10_valueOf wsX10_valueOf rmX10_valueOf [.ref a, .int p1, .int p2, .int p3, .int p4] (wX10 cs a q S) (some (.long r)) (wX10 cs a q S) := by
  refine CT.ofW (own := RX10) (cc := cX10_valueOf) (maxL := 8) (ret := some .long) (by decide) rfl rfl (Nat.le_of_ble_eq_true rfl) ?_
  intro p e s m args below meth c A Q X hret ls hl hw
  obtain ⟨hx, hb, hml, hown, hts, hK, hA, hr, hlk⟩ := id X
  have hl : lv_has ls 8 [(0, .ref a), (1, .int p1), (2, .int p2), (3, .int p3), (4, .int p4)] := hl
  unfold f_X10_valueOf at hf
  refine lv_lconst (pc := 0) (v := 0) hx hb dX10_valueOf_0 (by decide) ?_
  refine lv_lstore (lv' := [(5, .long 0), (0, .ref a), (1, .int p1), (2, .int p2), (3, .int p3), (4, .int p4)]) (pc := 1) hx hb dX10_valueOf_1 hl (by decide) rfl (fun ls hl => ?_)
  refine lv_bipush (pc := 3) (v := 6) hx hb dX10_valueOf_3 (by decide) ?_
  refine lv_iload_n (pc := 5) hx hb dX10_valueOf_5 rfl (lv_at hl 2 rfl) ?_
  refine lv_imul (pc := 6) hx hb dX10_valueOf_6 ?_
  obtain ⟨v1, ev1, hf⟩ := bn_ob hf
  refine x_topi ev1 ?_
  refine lv_istore (lv' := [(7, .int v1), (5, .long 0), (0, .ref a), (1, .int p1), (2, .int p2), (3, .int p3), (4, .int p4)]) (pc := 7) hx hb dX10_valueOf_7 hl (by decide) rfl (fun ls hl => ?_)
  have L9 : ∀ (n : Nat) (v2 : Int64) (v3 : Int32) (rv2 : Int64), L_X10_valueOf_9 S p1 p2 p3 p4 n v2 v3 = some rv2 → ∀ (H : Heap) (locs : List Loc) (ls : Array Slot), WD D A s (wX10 cs a q S) H locs → lv_has ls 8 [(0, .ref a), (1, .int p1), (2, .int p2), (3, .int p3), (4, .int p4), (5, .long v2), (7, .int v3)] → (∀ (H : Heap) (locs : List Loc) (ls : Array Slot), WD D A s (wX10 cs a q S) H locs → lv_has ls 8 [(5, .long rv2)] → W p l e rmX10_valueOf s m args below meth c H locs 0 0 Q (F0 m 84 ls [])) → W p l e rmX10_valueOf s m args below meth c H locs 0 0 Q (F0 m 9 ls []) := by
    intro n
    induction n with
    | zero => intro v2 v3 rv2 hf; exact (loopF_z hf).elim
    | succ n ih =>
      intro v2 v3 rv2 hf H locs ls hw hl K
      obtain ⟨x, hf, hx0⟩ := loopF_ob hf
      have hf : B_X10_valueOf_9 S p1 p2 p3 p4 v2 v3 = some x := hf
      unfold B_X10_valueOf_9 at hf
      refine lv_iload (pc := 9) hx hb dX10_valueOf_9 (lv_at hl 6 rfl) ?_
      refine lv_bipush (pc := 11) (v := 6) hx hb dX10_valueOf_11 (by decide) ?_
      refine lv_iload_n (pc := 13) hx hb dX10_valueOf_13 rfl (lv_at hl 1 rfl) ?_
      refine lv_imul (pc := 14) hx hb dX10_valueOf_14 ?_
      refine lv_aload_n (pc := 15) hx hb dX10_valueOf_15 rfl (lv_at hl 0 rfl) ?_
      refine x_get (pc := 16) X hw in_X10_valueOf_X10 0 rfl rfl 23 (by decide) (List.mem_of_getElem? (i := 1) rfl) rfl dX10_valueOf_16 ?_
      refine lv_iload_n (pc := 19) hx hb dX10_valueOf_19 rfl (lv_at hl 1 rfl) ?_
      obtain ⟨v4, ev4, hf⟩ := b1_ob hf
      refine x_iald (pc := 20) X hw 13 0 rfl rfl ev4 dX10_valueOf_20 ?_
      refine lv_iadd (pc := 21) hx hb dX10_valueOf_21 ?_
      refine lv_icmp_ge (pc := 22) (tgt := 84) hx hb dX10_valueOf_22 (by decide) (fun c5 => ?_) (fun c5 => ?_)
      · have hf := ipos c5 hf
        cases hf
        cases (hx0 : v2 = rv2)
        exact K _ _ _ hw (lv_sub hl [5] rfl)
      · have hf := ineg c5 hf
        refine lv_lload (pc := 25) hx hb dX10_valueOf_25 (lv_at hl 5 rfl) ?_
        refine lv_aload_n (pc := 27) hx hb dX10_valueOf_27 rfl (lv_at hl 0 rfl) ?_
        refine x_get (pc := 28) X hw in_X10_valueOf_X10 0 rfl rfl 24 (by decide) (List.mem_of_getElem? (i := 2) rfl) rfl dX10_valueOf_28 ?_
        refine lv_iload (pc := 31) hx hb dX10_valueOf_31 (lv_at hl 6 rfl) ?_
        obtain ⟨v6, ev6, hf⟩ := b1_ob hf
        refine x_iald (pc := 33) X hw 14 0 rfl rfl ev6 dX10_valueOf_33 ?_
        refine lv_i2l (pc := 34) hx hb dX10_valueOf_34 rfl ?_
        refine lv_iload_n (pc := 35) hx hb dX10_valueOf_35 rfl (lv_at hl 2 rfl) ?_
        refine lv_i2l (pc := 36) hx hb dX10_valueOf_36 rfl ?_
        refine lv_aload_n (pc := 37) hx hb dX10_valueOf_37 rfl (lv_at hl 0 rfl) ?_
        refine x_get (pc := 38) X hw in_X10_valueOf_X10 0 rfl rfl 25 (by decide) (List.mem_of_getElem? (i := 3) rfl) rfl dX10_valueOf_38 ?_
        refine lv_iload (pc := 41) hx hb dX10_valueOf_41 (lv_at hl 6 rfl) ?_
        obtain ⟨v7, ev7, hf⟩ := b1_ob hf
        refine x_iald (pc := 43) X hw 15 0 rfl rfl ev7 dX10_valueOf_43 ?_
        obtain ⟨v8, hc, hf⟩ := b1_ob hf
        refine x_nil (pc := 44) X hw (va_runS (As := [.long (p2.toInt64), .int v7]) (rest := [.long (v6.toInt64), .long v2]) ⟨hx, hb, hml, hown, hts⟩ (c_X10_power l D cs (p2.toInt64) v7 v8 hc _) (va_cwS 2 hts gX10_valueOf_X10_power rfl rfl rfl (by decide +kernel) ⟨Nat.le_of_ble_eq_true rfl, Nat.le_of_ble_eq_true rfl⟩) ⟨CP_blind, x_preN X [.long (p2.toInt64), .int v7]⟩ rfl rfl hl.1 rfl (lv_room (Nat.le_of_ble_eq_true rfl)) dX10_valueOf_44 ⟨Nat.zero_le _, Nat.zero_le _⟩) (fun H locs hw => ?_)
        refine lv_lmul (pc := 47) hx hb dX10_valueOf_47 ?_
        refine lv_iload_n (pc := 48) hx hb dX10_valueOf_48 rfl (lv_at hl 3 rfl) ?_
        refine lv_i2l (pc := 49) hx hb dX10_valueOf_49 rfl ?_
        refine lv_aload_n (pc := 50) hx hb dX10_valueOf_50 rfl (lv_at hl 0 rfl) ?_
        refine x_get (pc := 51) X hw in_X10_valueOf_X10 0 rfl rfl 26 (by decide) (List.mem_of_getElem? (i := 4) rfl) rfl dX10_valueOf_51 ?_
        refine lv_iload (pc := 54) hx hb dX10_valueOf_54 (lv_at hl 6 rfl) ?_
        obtain ⟨v9, ev9, hf⟩ := b1_ob hf
        refine x_iald (pc := 56) X hw 16 0 rfl rfl ev9 dX10_valueOf_56 ?_
        obtain ⟨v10, hc, hf⟩ := b1_ob hf
        refine x_nil (pc := 57) X hw (va_runS (As := [.long (p3.toInt64), .int v9]) (rest := [.long ((v6.toInt64) * v8), .long v2]) ⟨hx, hb, hml, hown, hts⟩ (c_X10_power l D cs (p3.toInt64) v9 v10 hc _) (va_cwS 2 hts gX10_valueOf_X10_power rfl rfl rfl (by decide +kernel) ⟨Nat.le_of_ble_eq_true rfl, Nat.le_of_ble_eq_true rfl⟩) ⟨CP_blind, x_preN X [.long (p3.toInt64), .int v9]⟩ rfl rfl hl.1 rfl (lv_room (Nat.le_of_ble_eq_true rfl)) dX10_valueOf_57 ⟨Nat.zero_le _, Nat.zero_le _⟩) (fun H locs hw => ?_)
        refine lv_lmul (pc := 60) hx hb dX10_valueOf_60 ?_
        refine lv_iload (pc := 61) hx hb dX10_valueOf_61 (lv_at hl 4 rfl) ?_
        refine lv_i2l (pc := 63) hx hb dX10_valueOf_63 rfl ?_
        refine lv_aload_n (pc := 64) hx hb dX10_valueOf_64 rfl (lv_at hl 0 rfl) ?_
        refine x_get (pc := 65) X hw in_X10_valueOf_X10 0 rfl rfl 27 (by decide) (List.mem_of_getElem? (i := 5) rfl) rfl dX10_valueOf_65 ?_
        refine lv_iload (pc := 68) hx hb dX10_valueOf_68 (lv_at hl 6 rfl) ?_
        obtain ⟨v11, ev11, hf⟩ := b1_ob hf
        refine x_iald (pc := 70) X hw 17 0 rfl rfl ev11 dX10_valueOf_70 ?_
        obtain ⟨v12, hc, hf⟩ := b1_ob hf
        refine x_nil (pc := 71) X hw (va_runS (As := [.long (p4.toInt64), .int v11]) (rest := [.long (((v6.toInt64) * v8) * v10), .long v2]) ⟨hx, hb, hml, hown, hts⟩ (c_X10_power l D cs (p4.toInt64) v11 v12 hc _) (va_cwS 2 hts gX10_valueOf_X10_power rfl rfl rfl (by decide +kernel) ⟨Nat.le_of_ble_eq_true rfl, Nat.le_of_ble_eq_true rfl⟩) ⟨CP_blind, x_preN X [.long (p4.toInt64), .int v11]⟩ rfl rfl hl.1 rfl (lv_room (Nat.le_of_ble_eq_true rfl)) dX10_valueOf_71 ⟨Nat.zero_le _, Nat.zero_le _⟩) (fun H locs hw => ?_)
        refine lv_lmul (pc := 74) hx hb dX10_valueOf_74 ?_
        refine lv_ladd (pc := 75) hx hb dX10_valueOf_75 ?_
        obtain ⟨v13, ev13, hf⟩ := bn_ob hf
        refine x_topl ev13 ?_
        refine lv_lstore (lv' := [(5, .long v13), (0, .ref a), (1, .int p1), (2, .int p2), (3, .int p3), (4, .int p4), (7, .int v3)]) (pc := 76) hx hb dX10_valueOf_76 hl (by decide) rfl (fun ls hl => ?_)
        obtain ⟨v14, ev14, hf⟩ := bn_ob hf
        refine lv_iinc (pc := 78) (v := v14) (lv' := [(7, .int v14), (5, .long v13), (0, .ref a), (1, .int p1), (2, .int p2), (3, .int p3), (4, .int p4)]) hx hb dX10_valueOf_78 hl (k := 6) rfl (by rw [ev14]; rfl) (by decide) rfl (fun ls hl => ?_)
        refine lv_goto (pc := 81) (tgt := 9) hx hb dX10_valueOf_81 (by decide) ?_
        cases hf
        exact ih v13 v14 rv2 hx0 _ _ _ hw (lv_sub hl [2, 3, 4, 5, 6, 1, 0] rfl) K
  obtain ⟨v15, hj, hf⟩ := b1_ob hf
  refine L9 _ 0 v1 v15 hj _ _ _ hw (lv_sub hl [2, 3, 4, 5, 6, 1, 0] rfl) (fun H locs ls hw hl => ?_)
  clear hj L9
  refine lv_lload (pc := 84) hx hb dX10_valueOf_84 (lv_at hl 0 rfl) ?_
  cases hf
  exact hret _ _ 86 _ hw rfl dX10_valueOf_86

theorem in_X10_value_X10 : ∀ w ∈ wsX100, w ∈ wsX10_value := fun _ h => List.mem_cons_of_mem _ (List.mem_append_right _ h)
abbrev rmX10_value : Room := { frames := 2, cells := 0, slots := 0, locals := 52 }
def f_X10_value (S : PS) (p1 : Int32) (p2 : Int32) (p3 : Int32) (p4 : Int32) : Option (Int64) :=
  b1 (f_X10_isSum p1) fun v1 =>
  b1 (
    if v1 = 0 then
      some ((-9223372036854775808) : Int64)
    else
    b1 (f_X10_areThree p2 p3 p4 11) fun v4 =>
    if v4 = 0 then
      some ((-9223372036854775808) : Int64)
    else
    b1 (f_X10_valueOf S p1 p2 p3 p4) fun v6 =>
    some v6) fun v2 =>
  some v2
set_option maxHeartbeats 4000000 in
set_option maxRecDepth 100000 in
theorem c_X10_value (l : Launch) (D : va_G) (cs : CS) (a : Nat) (q : Nat → Nat) (S : PS) (p1 : Int32) (p2 : Int32) (p3 : Int32) (p4 : Int32) (r : Int64) (hf : f_X10_value S p1 p2 p3 p4 = some r) : CT l D (TY cs) yX10_value wsX10_value rmX10_value [.ref a, .int p1, .int p2, .int p3, .int p4] (wX10 cs a q S) (some (.long r)) (wX10 cs a q S) := by
  refine CT.ofW (own := RX10) (cc := cX10_value) (maxL := 5) (ret := some .long) (by decide) rfl rfl (Nat.le_of_ble_eq_true rfl) ?_
  intro p e s m args below meth c A Q X hret ls hl hw
  obtain ⟨hx, hb, hml, hown, hts, hK, hA, hr, hlk⟩ := id X
  have hl : lv_has ls 5 [(0, .ref a), (1, .int p1), (2, .int p2), (3, .int p3), (4, .int p4)] := hl
  unfold f_X10_value at hf
  refine lv_iload_n (pc := 0) hx hb dX10_value_0 rfl (lv_at hl 1 rfl) ?_
  obtain ⟨v1, hc, hf⟩ := b1_ob hf
  refine x_nil (pc := 1) X hw (va_runS (As := [.int p1]) (rest := []) ⟨hx, hb, hml, hown, hts⟩ (c_X10_isSum l D cs p1 v1 hc _) (va_cwS 1 hts gX10_value_X10_isSum rfl rfl rfl (by decide +kernel) ⟨Nat.le_of_ble_eq_true rfl, Nat.le_of_ble_eq_true rfl⟩) ⟨CP_blind, x_preN X [.int p1]⟩ rfl rfl hl.1 rfl (lv_room (Nat.le_of_ble_eq_true rfl)) dX10_value_1 ⟨Nat.zero_le _, Nat.zero_le _⟩) (fun H locs hw => ?_)
  obtain ⟨v2, hj, hf⟩ := b1_ob hf
  have J34_1 : ∀ (H : Heap) (locs : List Loc) (ls : Array Slot), WD D A s (wX10 cs a q S) H locs → lv_has ls 5 [] → W p l e rmX10_value s m args below meth c H locs 0 0 Q (F0 m 34 ls [.long v2]) := by
    intro H locs ls hw hl
    cases hf
    exact hret _ _ 34 _ hw rfl dX10_value_34
  clear hf; have hf := hj; clear hj
  refine lv_if_eq (pc := 4) (tgt := 31) hx hb dX10_value_4 (by decide) (fun c3 => ?_) (fun c3 => ?_)
  · have hf := ipos c3 hf
    refine lv_ldc2 (pc := 31) (v := (-9223372036854775808)) hx hb hown (hts _ (List.mem_of_getElem? (i := 1) rfl)) dX10_value_31 ?_
    cases hf
    exact J34_1 _ _ _ hw (lv_sub hl [] rfl)
  · have hf := ineg c3 hf
    refine lv_iload_n (pc := 7) hx hb dX10_value_7 rfl (lv_at hl 2 rfl) ?_
    refine lv_iload_n (pc := 8) hx hb dX10_value_8 rfl (lv_at hl 3 rfl) ?_
    refine lv_iload (pc := 9) hx hb dX10_value_9 (lv_at hl 4 rfl) ?_
    refine lv_bipush (pc := 11) (v := 11) hx hb dX10_value_11 (by decide) ?_
    obtain ⟨v4, hc, hf⟩ := b1_ob hf
    refine x_nil (pc := 13) X hw (va_runS (As := [.int p2, .int p3, .int p4, .int 11]) (rest := []) ⟨hx, hb, hml, hown, hts⟩ (c_X10_areThree l D cs p2 p3 p4 11 v4 hc _) (va_cwS 4 hts gX10_value_X10_areThree rfl rfl rfl (by decide +kernel) ⟨Nat.le_of_ble_eq_true rfl, Nat.le_of_ble_eq_true rfl⟩) ⟨CP_blind, x_preN X [.int p2, .int p3, .int p4, .int 11]⟩ rfl rfl hl.1 rfl (lv_room (Nat.le_of_ble_eq_true rfl)) dX10_value_13 ⟨Nat.zero_le _, Nat.zero_le _⟩) (fun H locs hw => ?_)
    refine lv_if_eq (pc := 16) (tgt := 31) hx hb dX10_value_16 (by decide) (fun c5 => ?_) (fun c5 => ?_)
    · have hf := ipos c5 hf
      refine lv_ldc2 (pc := 31) (v := (-9223372036854775808)) hx hb hown (hts _ (List.mem_of_getElem? (i := 1) rfl)) dX10_value_31 ?_
      cases hf
      exact J34_1 _ _ _ hw (lv_sub hl [] rfl)
    · have hf := ineg c5 hf
      refine lv_aload_n (pc := 19) hx hb dX10_value_19 rfl (lv_at hl 0 rfl) ?_
      refine lv_iload_n (pc := 20) hx hb dX10_value_20 rfl (lv_at hl 1 rfl) ?_
      refine lv_iload_n (pc := 21) hx hb dX10_value_21 rfl (lv_at hl 2 rfl) ?_
      refine lv_iload_n (pc := 22) hx hb dX10_value_22 rfl (lv_at hl 3 rfl) ?_
      refine lv_iload (pc := 23) hx hb dX10_value_23 (lv_at hl 4 rfl) ?_
      obtain ⟨v6, hc, hf⟩ := b1_ob hf
      refine x_all (pc := 25) X hw (va_runV (As := [.int p1, .int p2, .int p3, .int p4]) (rest := []) ⟨hx, hb, hml, hown, hts⟩ (c_X10_valueOf l D cs a q S p1 p2 p3 p4 v6 hc _) (cwV 4 hts gX10_value_X10_valueOf rfl rfl rfl (by decide +kernel) ⟨Nat.le_of_ble_eq_true rfl, Nat.le_of_ble_eq_true rfl⟩) ⟨CP_blind, va_recv hK hw.1 (ci := 10) (q0 := 0) rfl rfl, x_preA X hw [.ref a, .int p1, .int p2, .int p3, .int p4]⟩ rfl rfl hl.1 rfl (lv_room (Nat.le_of_ble_eq_true rfl)) dX10_value_25 ⟨Nat.zero_le _, Nat.zero_le _⟩) (fun H locs hw => ?_)
      refine lv_goto (pc := 28) (tgt := 34) hx hb dX10_value_28 (by decide) ?_
      cases hf
      exact J34_1 _ _ _ hw (lv_sub hl [] rfl)

theorem in_X10_degree_X10 : ∀ w ∈ wsX100, w ∈ wsX10_degree := fun _ h => List.mem_cons_of_mem _ (List.mem_append_right _ h)
abbrev rmX10_degree : Room := { frames := 2, cells := 0, slots := 0, locals := 45 }
def B_X10_degree_41 (S : PS) (p1 : Int32) (v5 : Int32) (v9 : Int32) (v10 : Int32) : Option ((Int32 × Int32) ⊕ (Int32)) :=
  b1 (rdI 2 (S.2.1 23) p1) fun v11 =>
  if ((6 * p1) + v11) ≤ v10 then
    some (.inr v9)
  else
  b1 (rdI 12 (S.2.1 25) v10) fun v13 =>
  b1 (rdI 12 (S.2.1 25) v5) fun v14 =>
  b1 (
    if v13 = v14 then
      b1 (rdI 12 (S.2.1 26) v10) fun v17 =>
      b1 (rdI 12 (S.2.1 26) v5) fun v18 =>
      if v17 = v18 then
        b1 (rdI 12 (S.2.1 27) v10) fun v20 =>
        b1 (rdI 12 (S.2.1 27) v5) fun v21 =>
        if v20 = v21 then
          b1 (rdI 12 (S.2.1 24) v10) fun v23 =>
          some v23
        else
        some (0 : Int32)
      else
      some (0 : Int32)
    else
    some (0 : Int32)) fun v15 =>
  bn (v9 + v15) fun v24 =>
  bn (v10 + 1) fun v25 =>
  some (.inl (v24, v25))
def L_X10_degree_41 (S : PS) (p1 : Int32) (v5 : Int32) (n : Nat) (v9 : Int32) (v10 : Int32) : Option (Int32) := loopF (fun x : Int32 × Int32 => B_X10_degree_41 S p1 v5 x.1 x.2) n (v9, v10)
def B_X10_degree_17 (S : PS) (p1 : Int32) (v4 : Int32) (v5 : Int32) : Option ((Int32 × Int32) ⊕ (Int32)) :=
  b1 (rdI 2 (S.2.1 23) p1) fun v6 =>
  if ((6 * p1) + v6) ≤ v5 then
    some (.inr v4)
  else
  bn (6 * p1) fun v8 =>
  b1 (L_X10_degree_41 S p1 v5 FU 0 v8) fun v26 =>
  b1 (rdI 12 (S.2.1 25) v5) fun v27 =>
  b1 (rdI 12 (S.2.1 26) v5) fun v28 =>
  b1 (rdI 12 (S.2.1 27) v5) fun v29 =>
  bn ((v27 + v28) + v29) fun v30 =>
  b1 (
    if v26 = 0 then
      some v4
    else
    if v30 ≤ v4 then
      some v4
    else
    some v30) fun v31 =>
  bn (v5 + 1) fun v34 =>
  some (.inl (v31, v34))
def L_X10_degree_17 (S : PS) (p1 : Int32) (n : Nat) (v4 : Int32) (v5 : Int32) : Option (Int32) := loopF (fun x : Int32 × Int32 => B_X10_degree_17 S p1 x.1 x.2) n (v4, v5)
def f_X10_degree (S : PS) (p1 : Int32) : Option (Int32) :=
  b1 (f_X10_isSum p1) fun v1 =>
  if v1 = 0 then
    some (-2)
  else
  bn (6 * p1) fun v3 =>
  b1 (L_X10_degree_17 S p1 FU 0 v3) fun v35 =>
  some v35
set_option maxHeartbeats 4000000 in
set_option maxRecDepth 100000 in
theorem c_X10_degree (l : Launch) (D : va_G) (cs : CS) (a : Nat) (q : Nat → Nat) (S : PS) (p1 : Int32) (r : Int32) (hf : f_X10_degree S p1 = some r) : CT l D (TY cs) yX10_degree wsX10_degree rmX10_degree [.ref a, .int p1] (wX10 cs a q S) (some (.int r)) (wX10 cs a q S) := by
  refine CT.ofW (own := RX10) (cc := cX10_degree) (maxL := 6) (ret := some .int) (by decide) rfl rfl (Nat.le_of_ble_eq_true rfl) ?_
  intro p e s m args below meth c A Q X hret ls hl hw
  obtain ⟨hx, hb, hml, hown, hts, hK, hA, hr, hlk⟩ := id X
  have hl : lv_has ls 6 [(0, .ref a), (1, .int p1)] := hl
  unfold f_X10_degree at hf
  refine lv_iload_n (pc := 0) hx hb dX10_degree_0 rfl (lv_at hl 1 rfl) ?_
  obtain ⟨v1, hc, hf⟩ := b1_ob hf
  refine x_nil (pc := 1) X hw (va_runS (As := [.int p1]) (rest := []) ⟨hx, hb, hml, hown, hts⟩ (c_X10_isSum l D cs p1 v1 hc _) (va_cwS 1 hts gX10_degree_X10_isSum rfl rfl rfl (by decide +kernel) ⟨Nat.le_of_ble_eq_true rfl, Nat.le_of_ble_eq_true rfl⟩) ⟨CP_blind, x_preN X [.int p1]⟩ rfl rfl hl.1 rfl (lv_room (Nat.le_of_ble_eq_true rfl)) dX10_degree_1 ⟨Nat.zero_le _, Nat.zero_le _⟩) (fun H locs hw => ?_)
  refine lv_if_ne (pc := 4) (tgt := 10) hx hb dX10_degree_4 (by decide) (fun c2 => ?_) (fun c2 => ?_)
  · have hf := ineg c2 hf
    refine lv_iconst (pc := 10) (v := 0) hx hb dX10_degree_10 (by decide) ?_
    refine lv_istore_n (lv' := [(2, .int 0), (0, .ref a), (1, .int p1)]) (pc := 11) hx hb dX10_degree_11 rfl hl (by decide) rfl (fun ls hl => ?_)
    refine lv_bipush (pc := 12) (v := 6) hx hb dX10_degree_12 (by decide) ?_
    refine lv_iload_n (pc := 14) hx hb dX10_degree_14 rfl (lv_at hl 2 rfl) ?_
    refine lv_imul (pc := 15) hx hb dX10_degree_15 ?_
    obtain ⟨v3, ev3, hf⟩ := bn_ob hf
    refine x_topi ev3 ?_
    refine lv_istore_n (lv' := [(3, .int v3), (2, .int 0), (0, .ref a), (1, .int p1)]) (pc := 16) hx hb dX10_degree_16 rfl hl (by decide) rfl (fun ls hl => ?_)
    have L17 : ∀ (n : Nat) (v4 : Int32) (v5 : Int32) (rv4 : Int32), L_X10_degree_17 S p1 n v4 v5 = some rv4 → ∀ (H : Heap) (locs : List Loc) (ls : Array Slot), WD D A s (wX10 cs a q S) H locs → lv_has ls 6 [(0, .ref a), (1, .int p1), (2, .int v4), (3, .int v5)] → (∀ (H : Heap) (locs : List Loc) (ls : Array Slot), WD D A s (wX10 cs a q S) H locs → lv_has ls 6 [(2, .int rv4)] → W p l e rmX10_degree s m args below meth c H locs 0 0 Q (F0 m 173 ls [])) → W p l e rmX10_degree s m args below meth c H locs 0 0 Q (F0 m 17 ls []) := by
      intro n
      induction n with
      | zero => intro v4 v5 rv4 hf; exact (loopF_z hf).elim
      | succ n ih =>
        intro v4 v5 rv4 hf H locs ls hw hl K
        obtain ⟨x, hf, hx0⟩ := loopF_ob hf
        have hf : B_X10_degree_17 S p1 v4 v5 = some x := hf
        unfold B_X10_degree_17 at hf
        refine lv_iload_n (pc := 17) hx hb dX10_degree_17 rfl (lv_at hl 3 rfl) ?_
        refine lv_bipush (pc := 18) (v := 6) hx hb dX10_degree_18 (by decide) ?_
        refine lv_iload_n (pc := 20) hx hb dX10_degree_20 rfl (lv_at hl 1 rfl) ?_
        refine lv_imul (pc := 21) hx hb dX10_degree_21 ?_
        refine lv_aload_n (pc := 22) hx hb dX10_degree_22 rfl (lv_at hl 0 rfl) ?_
        refine x_get (pc := 23) X hw in_X10_degree_X10 0 rfl rfl 23 (by decide) (List.mem_of_getElem? (i := 1) rfl) rfl dX10_degree_23 ?_
        refine lv_iload_n (pc := 26) hx hb dX10_degree_26 rfl (lv_at hl 1 rfl) ?_
        obtain ⟨v6, ev6, hf⟩ := b1_ob hf
        refine x_iald (pc := 27) X hw 13 0 rfl rfl ev6 dX10_degree_27 ?_
        refine lv_iadd (pc := 28) hx hb dX10_degree_28 ?_
        refine lv_icmp_ge (pc := 29) (tgt := 173) hx hb dX10_degree_29 (by decide) (fun c7 => ?_) (fun c7 => ?_)
        · have hf := ipos c7 hf
          cases hf
          cases (hx0 : v4 = rv4)
          exact K _ _ _ hw (lv_sub hl [2] rfl)
        · have hf := ineg c7 hf
          refine lv_iconst (pc := 32) (v := 0) hx hb dX10_degree_32 (by decide) ?_
          refine lv_istore (lv' := [(4, .int 0), (0, .ref a), (1, .int p1), (2, .int v4), (3, .int v5)]) (pc := 33) hx hb dX10_degree_33 hl (by decide) rfl (fun ls hl => ?_)
          refine lv_bipush (pc := 35) (v := 6) hx hb dX10_degree_35 (by decide) ?_
          refine lv_iload_n (pc := 37) hx hb dX10_degree_37 rfl (lv_at hl 2 rfl) ?_
          refine lv_imul (pc := 38) hx hb dX10_degree_38 ?_
          obtain ⟨v8, ev8, hf⟩ := bn_ob hf
          refine x_topi ev8 ?_
          refine lv_istore (lv' := [(5, .int v8), (4, .int 0), (0, .ref a), (1, .int p1), (2, .int v4), (3, .int v5)]) (pc := 39) hx hb dX10_degree_39 hl (by decide) rfl (fun ls hl => ?_)
          have L41 : ∀ (n : Nat) (v9 : Int32) (v10 : Int32) (rv9 : Int32), L_X10_degree_41 S p1 v5 n v9 v10 = some rv9 → ∀ (H : Heap) (locs : List Loc) (ls : Array Slot), WD D A s (wX10 cs a q S) H locs → lv_has ls 6 [(0, .ref a), (1, .int p1), (2, .int v4), (3, .int v5), (4, .int v9), (5, .int v10)] → (∀ (H : Heap) (locs : List Loc) (ls : Array Slot), WD D A s (wX10 cs a q S) H locs → lv_has ls 6 [(0, .ref a), (1, .int p1), (2, .int v4), (3, .int v5), (4, .int rv9)] → W p l e rmX10_degree s m args below meth c H locs 0 0 Q (F0 m 127 ls [])) → W p l e rmX10_degree s m args below meth c H locs 0 0 Q (F0 m 41 ls []) := by
            intro n
            induction n with
            | zero => intro v9 v10 rv9 hf; exact (loopF_z hf).elim
            | succ n ih =>
              intro v9 v10 rv9 hf H locs ls hw hl K
              obtain ⟨x, hf, hx0⟩ := loopF_ob hf
              have hf : B_X10_degree_41 S p1 v5 v9 v10 = some x := hf
              unfold B_X10_degree_41 at hf
              refine lv_iload (pc := 41) hx hb dX10_degree_41 (lv_at hl 5 rfl) ?_
              refine lv_bipush (pc := 43) (v := 6) hx hb dX10_degree_43 (by decide) ?_
              refine lv_iload_n (pc := 45) hx hb dX10_degree_45 rfl (lv_at hl 1 rfl) ?_
              refine lv_imul (pc := 46) hx hb dX10_degree_46 ?_
              refine lv_aload_n (pc := 47) hx hb dX10_degree_47 rfl (lv_at hl 0 rfl) ?_
              refine x_get (pc := 48) X hw in_X10_degree_X10 0 rfl rfl 23 (by decide) (List.mem_of_getElem? (i := 1) rfl) rfl dX10_degree_48 ?_
              refine lv_iload_n (pc := 51) hx hb dX10_degree_51 rfl (lv_at hl 1 rfl) ?_
              obtain ⟨v11, ev11, hf⟩ := b1_ob hf
              refine x_iald (pc := 52) X hw 13 0 rfl rfl ev11 dX10_degree_52 ?_
              refine lv_iadd (pc := 53) hx hb dX10_degree_53 ?_
              refine lv_icmp_ge (pc := 54) (tgt := 127) hx hb dX10_degree_54 (by decide) (fun c12 => ?_) (fun c12 => ?_)
              · have hf := ipos c12 hf
                cases hf
                cases (hx0 : v9 = rv9)
                exact K _ _ _ hw (lv_sub hl [0, 1, 2, 3, 4] rfl)
              · have hf := ineg c12 hf
                refine lv_iload (pc := 57) hx hb dX10_degree_57 (lv_at hl 4 rfl) ?_
                refine lv_aload_n (pc := 59) hx hb dX10_degree_59 rfl (lv_at hl 0 rfl) ?_
                refine x_get (pc := 60) X hw in_X10_degree_X10 0 rfl rfl 25 (by decide) (List.mem_of_getElem? (i := 2) rfl) rfl dX10_degree_60 ?_
                refine lv_iload (pc := 63) hx hb dX10_degree_63 (lv_at hl 5 rfl) ?_
                obtain ⟨v13, ev13, hf⟩ := b1_ob hf
                refine x_iald (pc := 65) X hw 15 0 rfl rfl ev13 dX10_degree_65 ?_
                refine lv_aload_n (pc := 66) hx hb dX10_degree_66 rfl (lv_at hl 0 rfl) ?_
                refine x_get (pc := 67) X hw in_X10_degree_X10 0 rfl rfl 25 (by decide) (List.mem_of_getElem? (i := 2) rfl) rfl dX10_degree_67 ?_
                refine lv_iload_n (pc := 70) hx hb dX10_degree_70 rfl (lv_at hl 3 rfl) ?_
                obtain ⟨v14, ev14, hf⟩ := b1_ob hf
                refine x_iald (pc := 71) X hw 15 0 rfl rfl ev14 dX10_degree_71 ?_
                obtain ⟨v15, hj, hf⟩ := b1_ob hf
                have J118_14 : ∀ (H : Heap) (locs : List Loc) (ls : Array Slot), WD D A s (wX10 cs a q S) H locs → lv_has ls 6 [(0, .ref a), (1, .int p1), (2, .int v4), (3, .int v5), (5, .int v10)] → W p l e rmX10_degree s m args below meth c H locs 0 0 Q (F0 m 118 ls [.int v15, .int v9]) := by
                  intro H locs ls hw hl
                  refine lv_iadd (pc := 118) hx hb dX10_degree_118 ?_
                  obtain ⟨v24, ev24, hf⟩ := bn_ob hf
                  refine x_topi ev24 ?_
                  refine lv_istore (lv' := [(4, .int v24), (0, .ref a), (1, .int p1), (2, .int v4), (3, .int v5), (5, .int v10)]) (pc := 119) hx hb dX10_degree_119 hl (by decide) rfl (fun ls hl => ?_)
                  obtain ⟨v25, ev25, hf⟩ := bn_ob hf
                  refine lv_iinc (pc := 121) (v := v25) (lv' := [(5, .int v25), (4, .int v24), (0, .ref a), (1, .int p1), (2, .int v4), (3, .int v5)]) hx hb dX10_degree_121 hl (k := 5) rfl (by rw [ev25]; rfl) (by decide) rfl (fun ls hl => ?_)
                  refine lv_goto (pc := 124) (tgt := 41) hx hb dX10_degree_124 (by decide) ?_
                  cases hf
                  exact ih v24 v25 rv9 hx0 _ _ _ hw (lv_sub hl [2, 3, 4, 5, 1, 0] rfl) K
                clear hf; have hf := hj; clear hj
                refine lv_icmp_ne (pc := 72) (tgt := 117) hx hb dX10_degree_72 (by decide) (fun c16 => ?_) (fun c16 => ?_)
                · have hf := ineg c16 hf
                  refine lv_iconst (pc := 117) (v := 0) hx hb dX10_degree_117 (by decide) ?_
                  cases hf
                  exact J118_14 _ _ _ hw (lv_sub hl [0, 1, 2, 3, 5] rfl)
                · have hf := ipos c16 hf
                  refine lv_aload_n (pc := 75) hx hb dX10_degree_75 rfl (lv_at hl 0 rfl) ?_
                  refine x_get (pc := 76) X hw in_X10_degree_X10 0 rfl rfl 26 (by decide) (List.mem_of_getElem? (i := 3) rfl) rfl dX10_degree_76 ?_
                  refine lv_iload (pc := 79) hx hb dX10_degree_79 (lv_at hl 5 rfl) ?_
                  obtain ⟨v17, ev17, hf⟩ := b1_ob hf
                  refine x_iald (pc := 81) X hw 16 0 rfl rfl ev17 dX10_degree_81 ?_
                  refine lv_aload_n (pc := 82) hx hb dX10_degree_82 rfl (lv_at hl 0 rfl) ?_
                  refine x_get (pc := 83) X hw in_X10_degree_X10 0 rfl rfl 26 (by decide) (List.mem_of_getElem? (i := 3) rfl) rfl dX10_degree_83 ?_
                  refine lv_iload_n (pc := 86) hx hb dX10_degree_86 rfl (lv_at hl 3 rfl) ?_
                  obtain ⟨v18, ev18, hf⟩ := b1_ob hf
                  refine x_iald (pc := 87) X hw 16 0 rfl rfl ev18 dX10_degree_87 ?_
                  refine lv_icmp_ne (pc := 88) (tgt := 117) hx hb dX10_degree_88 (by decide) (fun c19 => ?_) (fun c19 => ?_)
                  · have hf := ineg c19 hf
                    refine lv_iconst (pc := 117) (v := 0) hx hb dX10_degree_117 (by decide) ?_
                    cases hf
                    exact J118_14 _ _ _ hw (lv_sub hl [0, 1, 2, 3, 5] rfl)
                  · have hf := ipos c19 hf
                    refine lv_aload_n (pc := 91) hx hb dX10_degree_91 rfl (lv_at hl 0 rfl) ?_
                    refine x_get (pc := 92) X hw in_X10_degree_X10 0 rfl rfl 27 (by decide) (List.mem_of_getElem? (i := 4) rfl) rfl dX10_degree_92 ?_
                    refine lv_iload (pc := 95) hx hb dX10_degree_95 (lv_at hl 5 rfl) ?_
                    obtain ⟨v20, ev20, hf⟩ := b1_ob hf
                    refine x_iald (pc := 97) X hw 17 0 rfl rfl ev20 dX10_degree_97 ?_
                    refine lv_aload_n (pc := 98) hx hb dX10_degree_98 rfl (lv_at hl 0 rfl) ?_
                    refine x_get (pc := 99) X hw in_X10_degree_X10 0 rfl rfl 27 (by decide) (List.mem_of_getElem? (i := 4) rfl) rfl dX10_degree_99 ?_
                    refine lv_iload_n (pc := 102) hx hb dX10_degree_102 rfl (lv_at hl 3 rfl) ?_
                    obtain ⟨v21, ev21, hf⟩ := b1_ob hf
                    refine x_iald (pc := 103) X hw 17 0 rfl rfl ev21 dX10_degree_103 ?_
                    refine lv_icmp_ne (pc := 104) (tgt := 117) hx hb dX10_degree_104 (by decide) (fun c22 => ?_) (fun c22 => ?_)
                    · have hf := ineg c22 hf
                      refine lv_iconst (pc := 117) (v := 0) hx hb dX10_degree_117 (by decide) ?_
                      cases hf
                      exact J118_14 _ _ _ hw (lv_sub hl [0, 1, 2, 3, 5] rfl)
                    · have hf := ipos c22 hf
                      refine lv_aload_n (pc := 107) hx hb dX10_degree_107 rfl (lv_at hl 0 rfl) ?_
                      refine x_get (pc := 108) X hw in_X10_degree_X10 0 rfl rfl 24 (by decide) (List.mem_of_getElem? (i := 5) rfl) rfl dX10_degree_108 ?_
                      refine lv_iload (pc := 111) hx hb dX10_degree_111 (lv_at hl 5 rfl) ?_
                      obtain ⟨v23, ev23, hf⟩ := b1_ob hf
                      refine x_iald (pc := 113) X hw 14 0 rfl rfl ev23 dX10_degree_113 ?_
                      refine lv_goto (pc := 114) (tgt := 118) hx hb dX10_degree_114 (by decide) ?_
                      cases hf
                      exact J118_14 _ _ _ hw (lv_sub hl [0, 1, 2, 3, 5] rfl)
          obtain ⟨v26, hj, hf⟩ := b1_ob hf
          refine L41 _ 0 v8 v26 hj _ _ _ hw (lv_sub hl [2, 3, 4, 5, 1, 0] rfl) (fun H locs ls hw hl => ?_)
          clear hj L41
          refine lv_aload_n (pc := 127) hx hb dX10_degree_127 rfl (lv_at hl 0 rfl) ?_
          refine x_get (pc := 128) X hw in_X10_degree_X10 0 rfl rfl 25 (by decide) (List.mem_of_getElem? (i := 2) rfl) rfl dX10_degree_128 ?_
          refine lv_iload_n (pc := 131) hx hb dX10_degree_131 rfl (lv_at hl 3 rfl) ?_
          obtain ⟨v27, ev27, hf⟩ := b1_ob hf
          refine x_iald (pc := 132) X hw 15 0 rfl rfl ev27 dX10_degree_132 ?_
          refine lv_aload_n (pc := 133) hx hb dX10_degree_133 rfl (lv_at hl 0 rfl) ?_
          refine x_get (pc := 134) X hw in_X10_degree_X10 0 rfl rfl 26 (by decide) (List.mem_of_getElem? (i := 3) rfl) rfl dX10_degree_134 ?_
          refine lv_iload_n (pc := 137) hx hb dX10_degree_137 rfl (lv_at hl 3 rfl) ?_
          obtain ⟨v28, ev28, hf⟩ := b1_ob hf
          refine x_iald (pc := 138) X hw 16 0 rfl rfl ev28 dX10_degree_138 ?_
          refine lv_iadd (pc := 139) hx hb dX10_degree_139 ?_
          refine lv_aload_n (pc := 140) hx hb dX10_degree_140 rfl (lv_at hl 0 rfl) ?_
          refine x_get (pc := 141) X hw in_X10_degree_X10 0 rfl rfl 27 (by decide) (List.mem_of_getElem? (i := 4) rfl) rfl dX10_degree_141 ?_
          refine lv_iload_n (pc := 144) hx hb dX10_degree_144 rfl (lv_at hl 3 rfl) ?_
          obtain ⟨v29, ev29, hf⟩ := b1_ob hf
          refine x_iald (pc := 145) X hw 17 0 rfl rfl ev29 dX10_degree_145 ?_
          refine lv_iadd (pc := 146) hx hb dX10_degree_146 ?_
          obtain ⟨v30, ev30, hf⟩ := bn_ob hf
          refine x_topi ev30 ?_
          refine lv_istore (lv' := [(5, .int v30), (0, .ref a), (1, .int p1), (2, .int v4), (3, .int v5), (4, .int v26)]) (pc := 147) hx hb dX10_degree_147 hl (by decide) rfl (fun ls hl => ?_)
          refine lv_iload (pc := 149) hx hb dX10_degree_149 (lv_at hl 5 rfl) ?_
          obtain ⟨v31, hj, hf⟩ := b1_ob hf
          have J166_30 : ∀ (H : Heap) (locs : List Loc) (ls : Array Slot), WD D A s (wX10 cs a q S) H locs → lv_has ls 6 [(0, .ref a), (1, .int p1), (3, .int v5)] → W p l e rmX10_degree s m args below meth c H locs 0 0 Q (F0 m 166 ls [.int v31]) := by
            intro H locs ls hw hl
            refine lv_istore_n (lv' := [(2, .int v31), (0, .ref a), (1, .int p1), (3, .int v5)]) (pc := 166) hx hb dX10_degree_166 rfl hl (by decide) rfl (fun ls hl => ?_)
            obtain ⟨v34, ev34, hf⟩ := bn_ob hf
            refine lv_iinc (pc := 167) (v := v34) (lv' := [(3, .int v34), (2, .int v31), (0, .ref a), (1, .int p1)]) hx hb dX10_degree_167 hl (k := 3) rfl (by rw [ev34]; rfl) (by decide) rfl (fun ls hl => ?_)
            refine lv_goto (pc := 170) (tgt := 17) hx hb dX10_degree_170 (by decide) ?_
            cases hf
            exact ih v31 v34 rv4 hx0 _ _ _ hw (lv_sub hl [2, 3, 1, 0] rfl) K
          clear hf; have hf := hj; clear hj
          refine lv_if_eq (pc := 151) (tgt := 165) hx hb dX10_degree_151 (by decide) (fun c32 => ?_) (fun c32 => ?_)
          · have hf := ipos c32 hf
            refine lv_iload_n (pc := 165) hx hb dX10_degree_165 rfl (lv_at hl 3 rfl) ?_
            cases hf
            exact J166_30 _ _ _ hw (lv_sub hl [1, 2, 4] rfl)
          · have hf := ineg c32 hf
            refine lv_iload (pc := 154) hx hb dX10_degree_154 (lv_at hl 0 rfl) ?_
            refine lv_iload_n (pc := 156) hx hb dX10_degree_156 rfl (lv_at hl 3 rfl) ?_
            refine lv_icmp_le (pc := 157) (tgt := 165) hx hb dX10_degree_157 (by decide) (fun c33 => ?_) (fun c33 => ?_)
            · have hf := ipos c33 hf
              refine lv_iload_n (pc := 165) hx hb dX10_degree_165 rfl (lv_at hl 3 rfl) ?_
              cases hf
              exact J166_30 _ _ _ hw (lv_sub hl [1, 2, 4] rfl)
            · have hf := ineg c33 hf
              refine lv_iload (pc := 160) hx hb dX10_degree_160 (lv_at hl 0 rfl) ?_
              refine lv_goto (pc := 162) (tgt := 166) hx hb dX10_degree_162 (by decide) ?_
              cases hf
              exact J166_30 _ _ _ hw (lv_sub hl [1, 2, 4] rfl)
    obtain ⟨v35, hj, hf⟩ := b1_ob hf
    refine L17 _ 0 v3 v35 hj _ _ _ hw (lv_sub hl [2, 3, 1, 0] rfl) (fun H locs ls hw hl => ?_)
    clear hj L17
    refine lv_iload_n (pc := 173) hx hb dX10_degree_173 rfl (lv_at hl 0 rfl) ?_
    cases hf
    exact hret _ _ 174 _ hw ⟨_, rfl, rfl⟩ dX10_degree_174
  · have hf := ipos c2 hf
    refine lv_bipush (pc := 7) (v := (-2)) hx hb dX10_degree_7 (by decide) ?_
    cases hf
    exact hret _ _ 9 _ hw ⟨_, rfl, rfl⟩ dX10_degree_9

theorem in_X10_same_X10 : ∀ w ∈ wsX100, w ∈ wsX10_same := fun _ h => List.mem_cons_of_mem _ (List.mem_append_right _ h)
abbrev rmX10_same : Room := { frames := 2, cells := 0, slots := 0, locals := 52 }
def B_X10_same_33 (S : PS) (p1 : Int32) (v6 : Int32) (v7 : Int32) (v8 : Int32) : Option ((Int32 × Int32 × Int32) ⊕ (Int32 × Int32)) :=
  if ((p1 * p1) * p1) ≤ v8 then
    some (.inr (v6, v7))
  else
  b1 (dvI v8 (p1 * p1)) fun v10 =>
  b1 (dvI v8 p1) fun v11 =>
  b1 (rmI v11 p1) fun v12 =>
  b1 (rmI v8 p1) fun v13 =>
  b1 (f_X10_valueOf S 0 v10 v12 v13) fun v14 =>
  b1 (f_X10_valueOf S 1 v10 v12 v13) fun v15 =>
  b1 (
    if (lg_cmp v14 v15) = 0 then
      some (1 : Int32)
    else
    some (0 : Int32)) fun v16 =>
  b1 (
    if v16 = 0 then
      some (0 : Int32)
    else
    some (1 : Int32)) fun v18 =>
  bn (v6 + v18) fun v20 =>
  b1 (
    if v16 = 0 then
      if v7 = (-1) then
        some (((144 * v10) + (12 * v12)) + v13)
      else
      some v7
    else
    some v7) fun v21 =>
  bn (v8 + 1) fun v24 =>
  some (.inl (v20, v21, v24))
def L_X10_same_33 (S : PS) (p1 : Int32) (n : Nat) (v6 : Int32) (v7 : Int32) (v8 : Int32) : Option (Int32 × Int32) := loopF (fun x : Int32 × Int32 × Int32 => B_X10_same_33 S p1 x.1 x.2.1 x.2.2) n (v6, v7, v8)
def f_X10_same (S : PS) (p1 : Int32) (p2 : Int32) : Option (Int32) :=
  b1 (f_X10_in (p1.toInt64) 1 (12)) fun v1 =>
  if v1 = 0 then
    some (-3)
  else
  b1 (f_X10_in (p2.toInt64) 0 1) fun v3 =>
  if v3 = 0 then
    some (-3)
  else
  bn ((-1) : Int32) fun v5 =>
  b2 (L_X10_same_33 S p1 FU 0 v5 0) fun v25 v26 =>
  b1 (
    if p2 = 0 then
      some v25
    else
    some v26) fun v27 =>
  some v27
set_option maxHeartbeats 4000000 in
set_option maxRecDepth 100000 in
theorem c_X10_same (l : Launch) (D : va_G) (cs : CS) (a : Nat) (q : Nat → Nat) (S : PS) (p1 : Int32) (p2 : Int32) (r : Int32) (hf : f_X10_same S p1 p2 = some r) : CT l D (TY cs) yX10_same wsX10_same rmX10_same [.ref a, .int p1, .int p2] (wX10 cs a q S) (some (.int r)) (wX10 cs a q S) := by
  refine CT.ofW (own := RX10) (cc := cX10_same) (maxL := 10) (ret := some .int) (by decide) rfl rfl (Nat.le_of_ble_eq_true rfl) ?_
  intro p e s m args below meth c A Q X hret ls hl hw
  obtain ⟨hx, hb, hml, hown, hts, hK, hA, hr, hlk⟩ := id X
  have hl : lv_has ls 10 [(0, .ref a), (1, .int p1), (2, .int p2)] := hl
  unfold f_X10_same at hf
  refine lv_iload_n (pc := 0) hx hb dX10_same_0 rfl (lv_at hl 1 rfl) ?_
  refine lv_i2l (pc := 1) hx hb dX10_same_1 rfl ?_
  refine lv_lconst (pc := 2) (v := 1) hx hb dX10_same_2 (by decide) ?_
  refine lv_ldc2 (pc := 3) (v := (12)) hx hb hown (hts _ (List.mem_of_getElem? (i := 1) rfl)) dX10_same_3 ?_
  obtain ⟨v1, hc, hf⟩ := b1_ob hf
  refine x_nil (pc := 6) X hw (va_runS (As := [.long (p1.toInt64), .long 1, .long (12)]) (rest := []) ⟨hx, hb, hml, hown, hts⟩ (c_X10_in l D cs (p1.toInt64) 1 (12) v1 hc _) (va_cwS 3 hts gX10_same_X10_in rfl rfl rfl (by decide +kernel) ⟨Nat.le_of_ble_eq_true rfl, Nat.le_of_ble_eq_true rfl⟩) ⟨CP_blind, x_preN X [.long (p1.toInt64), .long 1, .long (12)]⟩ rfl rfl hl.1 rfl (lv_room (Nat.le_of_ble_eq_true rfl)) dX10_same_6 ⟨Nat.zero_le _, Nat.zero_le _⟩) (fun H locs hw => ?_)
  refine lv_if_eq (pc := 9) (tgt := 22) hx hb dX10_same_9 (by decide) (fun c2 => ?_) (fun c2 => ?_)
  · have hf := ipos c2 hf
    refine lv_bipush (pc := 22) (v := (-3)) hx hb dX10_same_22 (by decide) ?_
    cases hf
    exact hret _ _ 24 _ hw ⟨_, rfl, rfl⟩ dX10_same_24
  · have hf := ineg c2 hf
    refine lv_iload_n (pc := 12) hx hb dX10_same_12 rfl (lv_at hl 2 rfl) ?_
    refine lv_i2l (pc := 13) hx hb dX10_same_13 rfl ?_
    refine lv_lconst (pc := 14) (v := 0) hx hb dX10_same_14 (by decide) ?_
    refine lv_lconst (pc := 15) (v := 1) hx hb dX10_same_15 (by decide) ?_
    obtain ⟨v3, hc, hf⟩ := b1_ob hf
    refine x_nil (pc := 16) X hw (va_runS (As := [.long (p2.toInt64), .long 0, .long 1]) (rest := []) ⟨hx, hb, hml, hown, hts⟩ (c_X10_in l D cs (p2.toInt64) 0 1 v3 hc _) (va_cwS 3 hts gX10_same_X10_in rfl rfl rfl (by decide +kernel) ⟨Nat.le_of_ble_eq_true rfl, Nat.le_of_ble_eq_true rfl⟩) ⟨CP_blind, x_preN X [.long (p2.toInt64), .long 0, .long 1]⟩ rfl rfl hl.1 rfl (lv_room (Nat.le_of_ble_eq_true rfl)) dX10_same_16 ⟨Nat.zero_le _, Nat.zero_le _⟩) (fun H locs hw => ?_)
    refine lv_if_ne (pc := 19) (tgt := 25) hx hb dX10_same_19 (by decide) (fun c4 => ?_) (fun c4 => ?_)
    · have hf := ineg c4 hf
      refine lv_iconst (pc := 25) (v := 0) hx hb dX10_same_25 (by decide) ?_
      refine lv_istore_n (lv' := [(3, .int 0), (0, .ref a), (1, .int p1), (2, .int p2)]) (pc := 26) hx hb dX10_same_26 rfl hl (by decide) rfl (fun ls hl => ?_)
      refine lv_iconst (pc := 27) (v := (-1)) hx hb dX10_same_27 (by decide) ?_
      obtain ⟨v5, ev5, hf⟩ := bn_ob hf
      refine x_topi ev5 ?_
      refine lv_istore (lv' := [(4, .int v5), (3, .int 0), (0, .ref a), (1, .int p1), (2, .int p2)]) (pc := 28) hx hb dX10_same_28 hl (by decide) rfl (fun ls hl => ?_)
      refine lv_iconst (pc := 30) (v := 0) hx hb dX10_same_30 (by decide) ?_
      refine lv_istore (lv' := [(5, .int 0), (4, .int v5), (3, .int 0), (0, .ref a), (1, .int p1), (2, .int p2)]) (pc := 31) hx hb dX10_same_31 hl (by decide) rfl (fun ls hl => ?_)
      have L33 : ∀ (n : Nat) (v6 : Int32) (v7 : Int32) (v8 : Int32) (rv6 : Int32) (rv7 : Int32), L_X10_same_33 S p1 n v6 v7 v8 = some (rv6, rv7) → ∀ (H : Heap) (locs : List Loc) (ls : Array Slot), WD D A s (wX10 cs a q S) H locs → lv_has ls 10 [(0, .ref a), (1, .int p1), (2, .int p2), (3, .int v6), (4, .int v7), (5, .int v8)] → (∀ (H : Heap) (locs : List Loc) (ls : Array Slot), WD D A s (wX10 cs a q S) H locs → lv_has ls 10 [(2, .int p2), (3, .int rv6), (4, .int rv7)] → W p l e rmX10_same s m args below meth c H locs 0 0 Q (F0 m 150 ls [])) → W p l e rmX10_same s m args below meth c H locs 0 0 Q (F0 m 33 ls []) := by
        intro n
        induction n with
        | zero => intro v6 v7 v8 rv6 rv7 hf; exact (loopF_z hf).elim
        | succ n ih =>
          intro v6 v7 v8 rv6 rv7 hf H locs ls hw hl K
          obtain ⟨x, hf, hx0⟩ := loopF_ob hf
          have hf : B_X10_same_33 S p1 v6 v7 v8 = some x := hf
          unfold B_X10_same_33 at hf
          refine lv_iload (pc := 33) hx hb dX10_same_33 (lv_at hl 5 rfl) ?_
          refine lv_iload_n (pc := 35) hx hb dX10_same_35 rfl (lv_at hl 1 rfl) ?_
          refine lv_iload_n (pc := 36) hx hb dX10_same_36 rfl (lv_at hl 1 rfl) ?_
          refine lv_imul (pc := 37) hx hb dX10_same_37 ?_
          refine lv_iload_n (pc := 38) hx hb dX10_same_38 rfl (lv_at hl 1 rfl) ?_
          refine lv_imul (pc := 39) hx hb dX10_same_39 ?_
          refine lv_icmp_ge (pc := 40) (tgt := 150) hx hb dX10_same_40 (by decide) (fun c9 => ?_) (fun c9 => ?_)
          · have hf := ipos c9 hf
            cases hf
            cases (hx0 : (v6, v7) = (rv6, rv7))
            exact K _ _ _ hw (lv_sub hl [2, 3, 4] rfl)
          · have hf := ineg c9 hf
            refine lv_iload (pc := 43) hx hb dX10_same_43 (lv_at hl 5 rfl) ?_
            refine lv_iload_n (pc := 45) hx hb dX10_same_45 rfl (lv_at hl 1 rfl) ?_
            refine lv_iload_n (pc := 46) hx hb dX10_same_46 rfl (lv_at hl 1 rfl) ?_
            refine lv_imul (pc := 47) hx hb dX10_same_47 ?_
            obtain ⟨v10, ev10, hf⟩ := b1_ob hf
            refine lv_idiv (pc := 48) hx hb dX10_same_48 (dvI_ob ev10).1 ?_
            refine x_topi (dvI_ob ev10).2.symm ?_
            refine lv_istore (lv' := [(6, .int v10), (0, .ref a), (1, .int p1), (2, .int p2), (3, .int v6), (4, .int v7), (5, .int v8)]) (pc := 49) hx hb dX10_same_49 hl (by decide) rfl (fun ls hl => ?_)
            refine lv_iload (pc := 51) hx hb dX10_same_51 (lv_at hl 6 rfl) ?_
            refine lv_iload_n (pc := 53) hx hb dX10_same_53 rfl (lv_at hl 2 rfl) ?_
            obtain ⟨v11, ev11, hf⟩ := b1_ob hf
            refine lv_idiv (pc := 54) hx hb dX10_same_54 (dvI_ob ev11).1 ?_
            refine x_topi (dvI_ob ev11).2.symm ?_
            refine lv_iload_n (pc := 55) hx hb dX10_same_55 rfl (lv_at hl 2 rfl) ?_
            obtain ⟨v12, ev12, hf⟩ := b1_ob hf
            refine lv_irem (pc := 56) hx hb dX10_same_56 (rmI_ob ev12).1 ?_
            refine x_topi (rmI_ob ev12).2.symm ?_
            refine lv_istore (lv' := [(7, .int v12), (6, .int v10), (0, .ref a), (1, .int p1), (2, .int p2), (3, .int v6), (4, .int v7), (5, .int v8)]) (pc := 57) hx hb dX10_same_57 hl (by decide) rfl (fun ls hl => ?_)
            refine lv_iload (pc := 59) hx hb dX10_same_59 (lv_at hl 7 rfl) ?_
            refine lv_iload_n (pc := 61) hx hb dX10_same_61 rfl (lv_at hl 3 rfl) ?_
            obtain ⟨v13, ev13, hf⟩ := b1_ob hf
            refine lv_irem (pc := 62) hx hb dX10_same_62 (rmI_ob ev13).1 ?_
            refine x_topi (rmI_ob ev13).2.symm ?_
            refine lv_istore (lv' := [(8, .int v13), (7, .int v12), (6, .int v10), (0, .ref a), (1, .int p1), (2, .int p2), (3, .int v6), (4, .int v7), (5, .int v8)]) (pc := 63) hx hb dX10_same_63 hl (by decide) rfl (fun ls hl => ?_)
            refine lv_aload_n (pc := 65) hx hb dX10_same_65 rfl (lv_at hl 3 rfl) ?_
            refine lv_iconst (pc := 66) (v := 0) hx hb dX10_same_66 (by decide) ?_
            refine lv_iload (pc := 67) hx hb dX10_same_67 (lv_at hl 2 rfl) ?_
            refine lv_iload (pc := 69) hx hb dX10_same_69 (lv_at hl 1 rfl) ?_
            refine lv_iload (pc := 71) hx hb dX10_same_71 (lv_at hl 0 rfl) ?_
            obtain ⟨v14, hc, hf⟩ := b1_ob hf
            refine x_all (pc := 73) X hw (va_runV (As := [.int 0, .int v10, .int v12, .int v13]) (rest := []) ⟨hx, hb, hml, hown, hts⟩ (c_X10_valueOf l D cs a q S 0 v10 v12 v13 v14 hc _) (cwV 4 hts gX10_same_X10_valueOf rfl rfl rfl (by decide +kernel) ⟨Nat.le_of_ble_eq_true rfl, Nat.le_of_ble_eq_true rfl⟩) ⟨CP_blind, va_recv hK hw.1 (ci := 10) (q0 := 0) rfl rfl, x_preA X hw [.ref a, .int 0, .int v10, .int v12, .int v13]⟩ rfl rfl hl.1 rfl (lv_room (Nat.le_of_ble_eq_true rfl)) dX10_same_73 ⟨Nat.zero_le _, Nat.zero_le _⟩) (fun H locs hw => ?_)
            refine lv_aload_n (pc := 76) hx hb dX10_same_76 rfl (lv_at hl 3 rfl) ?_
            refine lv_iconst (pc := 77) (v := 1) hx hb dX10_same_77 (by decide) ?_
            refine lv_iload (pc := 78) hx hb dX10_same_78 (lv_at hl 2 rfl) ?_
            refine lv_iload (pc := 80) hx hb dX10_same_80 (lv_at hl 1 rfl) ?_
            refine lv_iload (pc := 82) hx hb dX10_same_82 (lv_at hl 0 rfl) ?_
            obtain ⟨v15, hc, hf⟩ := b1_ob hf
            refine x_all (pc := 84) X hw (va_runV (As := [.int 1, .int v10, .int v12, .int v13]) (rest := [.long v14]) ⟨hx, hb, hml, hown, hts⟩ (c_X10_valueOf l D cs a q S 1 v10 v12 v13 v15 hc _) (cwV 4 hts gX10_same_X10_valueOf rfl rfl rfl (by decide +kernel) ⟨Nat.le_of_ble_eq_true rfl, Nat.le_of_ble_eq_true rfl⟩) ⟨CP_blind, va_recv hK hw.1 (ci := 10) (q0 := 0) rfl rfl, x_preA X hw [.ref a, .int 1, .int v10, .int v12, .int v13]⟩ rfl rfl hl.1 rfl (lv_room (Nat.le_of_ble_eq_true rfl)) dX10_same_84 ⟨Nat.zero_le _, Nat.zero_le _⟩) (fun H locs hw => ?_)
            refine W.lcmp (pc := 87) hx hb dX10_same_87 ?_
            obtain ⟨v16, hj, hf⟩ := b1_ob hf
            have J96_15 : ∀ (H : Heap) (locs : List Loc) (ls : Array Slot), WD D A s (wX10 cs a q S) H locs → lv_has ls 10 [(0, .ref a), (1, .int p1), (2, .int p2), (3, .int v6), (4, .int v7), (5, .int v8), (6, .int v10), (7, .int v12), (8, .int v13)] → W p l e rmX10_same s m args below meth c H locs 0 0 Q (F0 m 96 ls [.int v16]) := by
              intro H locs ls hw hl
              refine lv_istore (lv' := [(9, .int v16), (0, .ref a), (1, .int p1), (2, .int p2), (3, .int v6), (4, .int v7), (5, .int v8), (6, .int v10), (7, .int v12), (8, .int v13)]) (pc := 96) hx hb dX10_same_96 hl (by decide) rfl (fun ls hl => ?_)
              refine lv_iload_n (pc := 98) hx hb dX10_same_98 rfl (lv_at hl 4 rfl) ?_
              refine lv_iload (pc := 99) hx hb dX10_same_99 (lv_at hl 0 rfl) ?_
              obtain ⟨v18, hj, hf⟩ := b1_ob hf
              have J109_17 : ∀ (H : Heap) (locs : List Loc) (ls : Array Slot), WD D A s (wX10 cs a q S) H locs → lv_has ls 10 [(0, .ref a), (1, .int p1), (2, .int p2), (4, .int v7), (5, .int v8), (6, .int v10), (7, .int v12), (8, .int v13), (9, .int v16)] → W p l e rmX10_same s m args below meth c H locs 0 0 Q (F0 m 109 ls [.int v18, .int v6]) := by
                intro H locs ls hw hl
                refine lv_iadd (pc := 109) hx hb dX10_same_109 ?_
                obtain ⟨v20, ev20, hf⟩ := bn_ob hf
                refine x_topi ev20 ?_
                refine lv_istore_n (lv' := [(3, .int v20), (0, .ref a), (1, .int p1), (2, .int p2), (4, .int v7), (5, .int v8), (6, .int v10), (7, .int v12), (8, .int v13), (9, .int v16)]) (pc := 110) hx hb dX10_same_110 rfl hl (by decide) rfl (fun ls hl => ?_)
                refine lv_iload (pc := 111) hx hb dX10_same_111 (lv_at hl 9 rfl) ?_
                obtain ⟨v21, hj, hf⟩ := b1_ob hf
                have J142_20 : ∀ (H : Heap) (locs : List Loc) (ls : Array Slot), WD D A s (wX10 cs a q S) H locs → lv_has ls 10 [(0, .ref a), (1, .int p1), (2, .int p2), (3, .int v20), (5, .int v8)] → W p l e rmX10_same s m args below meth c H locs 0 0 Q (F0 m 142 ls [.int v21]) := by
                  intro H locs ls hw hl
                  refine lv_istore (lv' := [(4, .int v21), (0, .ref a), (1, .int p1), (2, .int p2), (3, .int v20), (5, .int v8)]) (pc := 142) hx hb dX10_same_142 hl (by decide) rfl (fun ls hl => ?_)
                  obtain ⟨v24, ev24, hf⟩ := bn_ob hf
                  refine lv_iinc (pc := 144) (v := v24) (lv' := [(5, .int v24), (4, .int v21), (0, .ref a), (1, .int p1), (2, .int p2), (3, .int v20)]) hx hb dX10_same_144 hl (k := 5) rfl (by rw [ev24]; rfl) (by decide) rfl (fun ls hl => ?_)
                  refine lv_goto (pc := 147) (tgt := 33) hx hb dX10_same_147 (by decide) ?_
                  cases hf
                  exact ih v20 v21 v24 rv6 rv7 hx0 _ _ _ hw (lv_sub hl [2, 3, 4, 5, 1, 0] rfl) K
                clear hf; have hf := hj; clear hj
                refine lv_if_ne (pc := 113) (tgt := 140) hx hb dX10_same_113 (by decide) (fun c22 => ?_) (fun c22 => ?_)
                · have hf := ineg c22 hf
                  refine lv_iload (pc := 140) hx hb dX10_same_140 (lv_at hl 4 rfl) ?_
                  cases hf
                  exact J142_20 _ _ _ hw (lv_sub hl [1, 2, 3, 0, 5] rfl)
                · have hf := ipos c22 hf
                  refine lv_iload (pc := 116) hx hb dX10_same_116 (lv_at hl 4 rfl) ?_
                  refine lv_iconst (pc := 118) (v := (-1)) hx hb dX10_same_118 (by decide) ?_
                  refine lv_icmp_ne (pc := 119) (tgt := 140) hx hb dX10_same_119 (by decide) (fun c23 => ?_) (fun c23 => ?_)
                  · have hf := ineg c23 hf
                    refine lv_iload (pc := 140) hx hb dX10_same_140 (lv_at hl 4 rfl) ?_
                    cases hf
                    exact J142_20 _ _ _ hw (lv_sub hl [1, 2, 3, 0, 5] rfl)
                  · have hf := ipos c23 hf
                    refine lv_sipush (pc := 122) (v := 144) hx hb dX10_same_122 (by decide) ?_
                    refine lv_iload (pc := 125) hx hb dX10_same_125 (lv_at hl 6 rfl) ?_
                    refine lv_imul (pc := 127) hx hb dX10_same_127 ?_
                    refine lv_bipush (pc := 128) (v := 12) hx hb dX10_same_128 (by decide) ?_
                    refine lv_iload (pc := 130) hx hb dX10_same_130 (lv_at hl 7 rfl) ?_
                    refine lv_imul (pc := 132) hx hb dX10_same_132 ?_
                    refine lv_iadd (pc := 133) hx hb dX10_same_133 ?_
                    refine lv_iload (pc := 134) hx hb dX10_same_134 (lv_at hl 8 rfl) ?_
                    refine lv_iadd (pc := 136) hx hb dX10_same_136 ?_
                    refine lv_goto (pc := 137) (tgt := 142) hx hb dX10_same_137 (by decide) ?_
                    cases hf
                    exact J142_20 _ _ _ hw (lv_sub hl [1, 2, 3, 0, 5] rfl)
              clear hf; have hf := hj; clear hj
              refine lv_if_eq (pc := 101) (tgt := 108) hx hb dX10_same_101 (by decide) (fun c19 => ?_) (fun c19 => ?_)
              · have hf := ipos c19 hf
                refine lv_iconst (pc := 108) (v := 0) hx hb dX10_same_108 (by decide) ?_
                cases hf
                exact J109_17 _ _ _ hw (lv_sub hl [1, 2, 3, 5, 6, 7, 8, 9, 0] rfl)
              · have hf := ineg c19 hf
                refine lv_iconst (pc := 104) (v := 1) hx hb dX10_same_104 (by decide) ?_
                refine lv_goto (pc := 105) (tgt := 109) hx hb dX10_same_105 (by decide) ?_
                cases hf
                exact J109_17 _ _ _ hw (lv_sub hl [1, 2, 3, 5, 6, 7, 8, 9, 0] rfl)
            clear hf; have hf := hj; clear hj
            refine lv_if_ne (pc := 88) (tgt := 95) hx hb dX10_same_88 (by decide) (fun c17 => ?_) (fun c17 => ?_)
            · have hf := ineg c17 hf
              refine lv_iconst (pc := 95) (v := 0) hx hb dX10_same_95 (by decide) ?_
              cases hf
              exact J96_15 _ _ _ hw (lv_sub hl [3, 4, 5, 6, 7, 8, 2, 1, 0] rfl)
            · have hf := ipos c17 hf
              refine lv_iconst (pc := 91) (v := 1) hx hb dX10_same_91 (by decide) ?_
              refine lv_goto (pc := 92) (tgt := 96) hx hb dX10_same_92 (by decide) ?_
              cases hf
              exact J96_15 _ _ _ hw (lv_sub hl [3, 4, 5, 6, 7, 8, 2, 1, 0] rfl)
      obtain ⟨v25, v26, hj, hf⟩ := b2_ob hf
      refine L33 _ 0 v5 0 v25 v26 hj _ _ _ hw (lv_sub hl [3, 4, 5, 2, 1, 0] rfl) (fun H locs ls hw hl => ?_)
      clear hj L33
      refine lv_iload_n (pc := 150) hx hb dX10_same_150 rfl (lv_at hl 0 rfl) ?_
      obtain ⟨v27, hj, hf⟩ := b1_ob hf
      have J160_26 : ∀ (H : Heap) (locs : List Loc) (ls : Array Slot), WD D A s (wX10 cs a q S) H locs → lv_has ls 10 [] → W p l e rmX10_same s m args below meth c H locs 0 0 Q (F0 m 160 ls [.int v27]) := by
        intro H locs ls hw hl
        cases hf
        exact hret _ _ 160 _ hw ⟨_, rfl, rfl⟩ dX10_same_160
      clear hf; have hf := hj; clear hj
      refine lv_if_ne (pc := 151) (tgt := 158) hx hb dX10_same_151 (by decide) (fun c28 => ?_) (fun c28 => ?_)
      · have hf := ineg c28 hf
        refine lv_iload (pc := 158) hx hb dX10_same_158 (lv_at hl 2 rfl) ?_
        cases hf
        exact J160_26 _ _ _ hw (lv_sub hl [] rfl)
      · have hf := ipos c28 hf
        refine lv_iload_n (pc := 154) hx hb dX10_same_154 rfl (lv_at hl 1 rfl) ?_
        refine lv_goto (pc := 155) (tgt := 160) hx hb dX10_same_155 (by decide) ?_
        cases hf
        exact J160_26 _ _ _ hw (lv_sub hl [] rfl)
    · have hf := ipos c4 hf
      refine lv_bipush (pc := 22) (v := (-3)) hx hb dX10_same_22 (by decide) ?_
      cases hf
      exact hret _ _ 24 _ hw ⟨_, rfl, rfl⟩ dX10_same_24

abbrev rmX10_pressed : Room := { frames := 1, cells := 0, slots := 0, locals := 25 }
def B_X10_pressed_30 (p1 : Int64) (p2 : Int32) (p3 : Int32) (v5 : Int32) (v6 : Int32) (v7 : Int32) : Option ((Int32 × Int32 × Int32) ⊕ (Int32 × Int32)) :=
  if p2 ≤ (v7 + 1) then
    some (.inr (v5, v6))
  else
  bn (((p1 >>> (v7.toInt64 &&& 63)) &&& 1).toInt32) fun v9 =>
  bn (((p1 >>> ((v7 + 1).toInt64 &&& 63)) &&& 1).toInt32) fun v10 =>
  b2 (
    if v9 = v10 then
      some (v5, v6)
    else
    b1 (
      if v5 = p3 then
        some v9
      else
      some v6) fun v14 =>
    bn (v5 + 1) fun v16 =>
    some (v16, v14)) fun v11 v12 =>
  bn (v7 + 2) fun v17 =>
  some (.inl (v11, v12, v17))
def L_X10_pressed_30 (p1 : Int64) (p2 : Int32) (p3 : Int32) (n : Nat) (v5 : Int32) (v6 : Int32) (v7 : Int32) : Option (Int32 × Int32) := loopF (fun x : Int32 × Int32 × Int32 => B_X10_pressed_30 p1 p2 p3 x.1 x.2.1 x.2.2) n (v5, v6, v7)
def f_X10_pressed (S : PS) (p1 : Int64) (p2 : Int32) (p3 : Int32) : Option (Int32) :=
  b1 (f_X10_in (p2.toInt64) 0 (32)) fun v1 =>
  if v1 = 0 then
    some (-3)
  else
  if (-1) ≤ p3 then
    bn ((-1) : Int32) fun v4 =>
    b2 (L_X10_pressed_30 p1 p2 p3 FU 0 v4 0) fun v18 v19 =>
    b1 (
      if p3 = (-1) then
        some v18
      else
      some v19) fun v20 =>
    some v20
  else
  some (-3)
set_option maxHeartbeats 4000000 in
set_option maxRecDepth 100000 in
theorem c_X10_pressed (l : Launch) (D : va_G) (cs : CS) (a : Nat) (q : Nat → Nat) (S : PS) (p1 : Int64) (p2 : Int32) (p3 : Int32) (r : Int32) (hf : f_X10_pressed S p1 p2 p3 = some r) : CT l D (TY cs) yX10_pressed wsX10_pressed rmX10_pressed [.ref a, .long p1, .int p2, .int p3] (wX10 cs a q S) (some (.int r)) (wX10 cs a q S) := by
  refine CT.ofW (own := RX10) (cc := cX10_pressed) (maxL := 10) (ret := some .int) (by decide) rfl rfl (Nat.le_of_ble_eq_true rfl) ?_
  intro p e s m args below meth c A Q X hret ls hl hw
  obtain ⟨hx, hb, hml, hown, hts, hK, hA, hr, hlk⟩ := id X
  have hl : lv_has ls 10 [(0, .ref a), (1, .long p1), (3, .int p2), (4, .int p3)] := hl
  unfold f_X10_pressed at hf
  refine lv_iload_n (pc := 0) hx hb dX10_pressed_0 rfl (lv_at hl 2 rfl) ?_
  refine lv_i2l (pc := 1) hx hb dX10_pressed_1 rfl ?_
  refine lv_lconst (pc := 2) (v := 0) hx hb dX10_pressed_2 (by decide) ?_
  refine lv_ldc2 (pc := 3) (v := (32)) hx hb hown (hts _ (List.mem_of_getElem? (i := 1) rfl)) dX10_pressed_3 ?_
  obtain ⟨v1, hc, hf⟩ := b1_ob hf
  refine x_nil (pc := 6) X hw (va_runS (As := [.long (p2.toInt64), .long 0, .long (32)]) (rest := []) ⟨hx, hb, hml, hown, hts⟩ (c_X10_in l D cs (p2.toInt64) 0 (32) v1 hc _) (va_cwS 3 hts gX10_pressed_X10_in rfl rfl rfl (by decide +kernel) ⟨Nat.le_of_ble_eq_true rfl, Nat.le_of_ble_eq_true rfl⟩) ⟨CP_blind, x_preN X [.long (p2.toInt64), .long 0, .long (32)]⟩ rfl rfl hl.1 rfl (lv_room (Nat.le_of_ble_eq_true rfl)) dX10_pressed_6 ⟨Nat.zero_le _, Nat.zero_le _⟩) (fun H locs hw => ?_)
  refine lv_if_eq (pc := 9) (tgt := 18) hx hb dX10_pressed_9 (by decide) (fun c2 => ?_) (fun c2 => ?_)
  · have hf := ipos c2 hf
    refine lv_bipush (pc := 18) (v := (-3)) hx hb dX10_pressed_18 (by decide) ?_
    cases hf
    exact hret _ _ 20 _ hw ⟨_, rfl, rfl⟩ dX10_pressed_20
  · have hf := ineg c2 hf
    refine lv_iload (pc := 12) hx hb dX10_pressed_12 (lv_at hl 3 rfl) ?_
    refine lv_iconst (pc := 14) (v := (-1)) hx hb dX10_pressed_14 (by decide) ?_
    refine lv_icmp_ge (pc := 15) (tgt := 21) hx hb dX10_pressed_15 (by decide) (fun c3 => ?_) (fun c3 => ?_)
    · have hf := ipos c3 hf
      refine lv_iconst (pc := 21) (v := 0) hx hb dX10_pressed_21 (by decide) ?_
      refine lv_istore (lv' := [(5, .int 0), (0, .ref a), (1, .long p1), (3, .int p2), (4, .int p3)]) (pc := 22) hx hb dX10_pressed_22 hl (by decide) rfl (fun ls hl => ?_)
      refine lv_iconst (pc := 24) (v := (-1)) hx hb dX10_pressed_24 (by decide) ?_
      obtain ⟨v4, ev4, hf⟩ := bn_ob hf
      refine x_topi ev4 ?_
      refine lv_istore (lv' := [(6, .int v4), (5, .int 0), (0, .ref a), (1, .long p1), (3, .int p2), (4, .int p3)]) (pc := 25) hx hb dX10_pressed_25 hl (by decide) rfl (fun ls hl => ?_)
      refine lv_iconst (pc := 27) (v := 0) hx hb dX10_pressed_27 (by decide) ?_
      refine lv_istore (lv' := [(7, .int 0), (6, .int v4), (5, .int 0), (0, .ref a), (1, .long p1), (3, .int p2), (4, .int p3)]) (pc := 28) hx hb dX10_pressed_28 hl (by decide) rfl (fun ls hl => ?_)
      have L30 : ∀ (n : Nat) (v5 : Int32) (v6 : Int32) (v7 : Int32) (rv5 : Int32) (rv6 : Int32), L_X10_pressed_30 p1 p2 p3 n v5 v6 v7 = some (rv5, rv6) → ∀ (H : Heap) (locs : List Loc) (ls : Array Slot), WD D A s (wX10 cs a q S) H locs → lv_has ls 10 [(1, .long p1), (3, .int p2), (4, .int p3), (5, .int v5), (6, .int v6), (7, .int v7)] → (∀ (H : Heap) (locs : List Loc) (ls : Array Slot), WD D A s (wX10 cs a q S) H locs → lv_has ls 10 [(4, .int p3), (5, .int rv5), (6, .int rv6)] → W p l e rmX10_pressed s m args below meth c H locs 0 0 Q (F0 m 90 ls [])) → W p l e rmX10_pressed s m args below meth c H locs 0 0 Q (F0 m 30 ls []) := by
        intro n
        induction n with
        | zero => intro v5 v6 v7 rv5 rv6 hf; exact (loopF_z hf).elim
        | succ n ih =>
          intro v5 v6 v7 rv5 rv6 hf H locs ls hw hl K
          obtain ⟨x, hf, hx0⟩ := loopF_ob hf
          have hf : B_X10_pressed_30 p1 p2 p3 v5 v6 v7 = some x := hf
          unfold B_X10_pressed_30 at hf
          refine lv_iload (pc := 30) hx hb dX10_pressed_30 (lv_at hl 5 rfl) ?_
          refine lv_iconst (pc := 32) (v := 1) hx hb dX10_pressed_32 (by decide) ?_
          refine lv_iadd (pc := 33) hx hb dX10_pressed_33 ?_
          refine lv_iload_n (pc := 34) hx hb dX10_pressed_34 rfl (lv_at hl 1 rfl) ?_
          refine lv_icmp_ge (pc := 35) (tgt := 90) hx hb dX10_pressed_35 (by decide) (fun c8 => ?_) (fun c8 => ?_)
          · have hf := ipos c8 hf
            cases hf
            cases (hx0 : (v5, v6) = (rv5, rv6))
            exact K _ _ _ hw (lv_sub hl [2, 3, 4] rfl)
          · have hf := ineg c8 hf
            refine lv_lload_n (pc := 38) hx hb dX10_pressed_38 rfl (lv_at hl 0 rfl) ?_
            refine lv_iload (pc := 39) hx hb dX10_pressed_39 (lv_at hl 5 rfl) ?_
            refine lv_lshr (pc := 41) hx hb dX10_pressed_41 rfl ?_
            refine lv_lconst (pc := 42) (v := 1) hx hb dX10_pressed_42 (by decide) ?_
            refine lv_land (pc := 43) hx hb dX10_pressed_43 ?_
            refine lv_l2i (pc := 44) hx hb dX10_pressed_44 rfl ?_
            obtain ⟨v9, ev9, hf⟩ := bn_ob hf
            refine x_topi ev9 ?_
            refine lv_istore (lv' := [(8, .int v9), (1, .long p1), (3, .int p2), (4, .int p3), (5, .int v5), (6, .int v6), (7, .int v7)]) (pc := 45) hx hb dX10_pressed_45 hl (by decide) rfl (fun ls hl => ?_)
            refine lv_lload_n (pc := 47) hx hb dX10_pressed_47 rfl (lv_at hl 1 rfl) ?_
            refine lv_iload (pc := 48) hx hb dX10_pressed_48 (lv_at hl 6 rfl) ?_
            refine lv_iconst (pc := 50) (v := 1) hx hb dX10_pressed_50 (by decide) ?_
            refine lv_iadd (pc := 51) hx hb dX10_pressed_51 ?_
            refine lv_lshr (pc := 52) hx hb dX10_pressed_52 rfl ?_
            refine lv_lconst (pc := 53) (v := 1) hx hb dX10_pressed_53 (by decide) ?_
            refine lv_land (pc := 54) hx hb dX10_pressed_54 ?_
            refine lv_l2i (pc := 55) hx hb dX10_pressed_55 rfl ?_
            obtain ⟨v10, ev10, hf⟩ := bn_ob hf
            refine x_topi ev10 ?_
            refine lv_istore (lv' := [(9, .int v10), (8, .int v9), (1, .long p1), (3, .int p2), (4, .int p3), (5, .int v5), (6, .int v6), (7, .int v7)]) (pc := 56) hx hb dX10_pressed_56 hl (by decide) rfl (fun ls hl => ?_)
            refine lv_iload (pc := 58) hx hb dX10_pressed_58 (lv_at hl 1 rfl) ?_
            refine lv_iload (pc := 60) hx hb dX10_pressed_60 (lv_at hl 0 rfl) ?_
            obtain ⟨v11, v12, hj, hf⟩ := b2_ob hf
            have J84_10 : ∀ (H : Heap) (locs : List Loc) (ls : Array Slot), WD D A s (wX10 cs a q S) H locs → lv_has ls 10 [(1, .long p1), (3, .int p2), (4, .int p3), (5, .int v11), (6, .int v12), (7, .int v7)] → W p l e rmX10_pressed s m args below meth c H locs 0 0 Q (F0 m 84 ls []) := by
              intro H locs ls hw hl
              obtain ⟨v17, ev17, hf⟩ := bn_ob hf
              refine lv_iinc (pc := 84) (v := v17) (lv' := [(7, .int v17), (1, .long p1), (3, .int p2), (4, .int p3), (5, .int v11), (6, .int v12)]) hx hb dX10_pressed_84 hl (k := 5) rfl (by rw [ev17]; rfl) (by decide) rfl (fun ls hl => ?_)
              refine lv_goto (pc := 87) (tgt := 30) hx hb dX10_pressed_87 (by decide) ?_
              cases hf
              exact ih v11 v12 v17 rv5 rv6 hx0 _ _ _ hw (lv_sub hl [1, 2, 3, 4, 5, 0] rfl) K
            clear hf; have hf := hj; clear hj
            refine lv_icmp_eq (pc := 62) (tgt := 84) hx hb dX10_pressed_62 (by decide) (fun c13 => ?_) (fun c13 => ?_)
            · have hf := ipos c13 hf
              cases hf
              exact J84_10 _ _ _ hw (lv_sub hl [2, 3, 4, 5, 6, 7] rfl)
            · have hf := ineg c13 hf
              refine lv_iload (pc := 65) hx hb dX10_pressed_65 (lv_at hl 5 rfl) ?_
              refine lv_iload (pc := 67) hx hb dX10_pressed_67 (lv_at hl 4 rfl) ?_
              obtain ⟨v14, hj, hf⟩ := b1_ob hf
              have J79_13 : ∀ (H : Heap) (locs : List Loc) (ls : Array Slot), WD D A s (wX10 cs a q S) H locs → lv_has ls 10 [(1, .long p1), (3, .int p2), (4, .int p3), (5, .int v5), (7, .int v7)] → W p l e rmX10_pressed s m args below meth c H locs 0 0 Q (F0 m 79 ls [.int v14]) := by
                intro H locs ls hw hl
                refine lv_istore (lv' := [(6, .int v14), (1, .long p1), (3, .int p2), (4, .int p3), (5, .int v5), (7, .int v7)]) (pc := 79) hx hb dX10_pressed_79 hl (by decide) rfl (fun ls hl => ?_)
                obtain ⟨v16, ev16, hf⟩ := bn_ob hf
                refine lv_iinc (pc := 81) (v := v16) (lv' := [(5, .int v16), (6, .int v14), (1, .long p1), (3, .int p2), (4, .int p3), (7, .int v7)]) hx hb dX10_pressed_81 hl (k := 4) rfl (by rw [ev16]; rfl) (by decide) rfl (fun ls hl => ?_)
                cases hf
                exact J84_10 _ _ _ hw (lv_sub hl [2, 3, 4, 0, 1, 5] rfl)
              clear hf; have hf := hj; clear hj
              refine lv_icmp_ne (pc := 69) (tgt := 77) hx hb dX10_pressed_69 (by decide) (fun c15 => ?_) (fun c15 => ?_)
              · have hf := ineg c15 hf
                refine lv_iload (pc := 77) hx hb dX10_pressed_77 (lv_at hl 6 rfl) ?_
                cases hf
                exact J79_13 _ _ _ hw (lv_sub hl [2, 3, 4, 5, 7] rfl)
              · have hf := ipos c15 hf
                refine lv_iload (pc := 72) hx hb dX10_pressed_72 (lv_at hl 1 rfl) ?_
                refine lv_goto (pc := 74) (tgt := 79) hx hb dX10_pressed_74 (by decide) ?_
                cases hf
                exact J79_13 _ _ _ hw (lv_sub hl [2, 3, 4, 5, 7] rfl)
      obtain ⟨v18, v19, hj, hf⟩ := b2_ob hf
      refine L30 _ 0 v4 0 v18 v19 hj _ _ _ hw (lv_sub hl [4, 5, 6, 2, 1, 0] rfl) (fun H locs ls hw hl => ?_)
      clear hj L30
      refine lv_iload (pc := 90) hx hb dX10_pressed_90 (lv_at hl 0 rfl) ?_
      refine lv_iconst (pc := 92) (v := (-1)) hx hb dX10_pressed_92 (by decide) ?_
      obtain ⟨v20, hj, hf⟩ := b1_ob hf
      have J103_19 : ∀ (H : Heap) (locs : List Loc) (ls : Array Slot), WD D A s (wX10 cs a q S) H locs → lv_has ls 10 [] → W p l e rmX10_pressed s m args below meth c H locs 0 0 Q (F0 m 103 ls [.int v20]) := by
        intro H locs ls hw hl
        cases hf
        exact hret _ _ 103 _ hw ⟨_, rfl, rfl⟩ dX10_pressed_103
      clear hf; have hf := hj; clear hj
      refine lv_icmp_ne (pc := 93) (tgt := 101) hx hb dX10_pressed_93 (by decide) (fun c21 => ?_) (fun c21 => ?_)
      · have hf := ineg c21 hf
        refine lv_iload (pc := 101) hx hb dX10_pressed_101 (lv_at hl 2 rfl) ?_
        cases hf
        exact J103_19 _ _ _ hw (lv_sub hl [] rfl)
      · have hf := ipos c21 hf
        refine lv_iload (pc := 96) hx hb dX10_pressed_96 (lv_at hl 1 rfl) ?_
        refine lv_goto (pc := 98) (tgt := 103) hx hb dX10_pressed_98 (by decide) ?_
        cases hf
        exact J103_19 _ _ _ hw (lv_sub hl [] rfl)
    · have hf := ineg c3 hf
      refine lv_bipush (pc := 18) (v := (-3)) hx hb dX10_pressed_18 (by decide) ?_
      cases hf
      exact hret _ _ 20 _ hw ⟨_, rfl, rfl⟩ dX10_pressed_20

abbrev rmX10_mixed : Room := { frames := 2, cells := 0, slots := 0, locals := 55 }
def B_X10_mixed_53 (p1 : Int32) (p2 : Int32) (v9 : Int32) (v11 : Int32) (v12 : Int32) (v13 : Int32) : Option ((Int32 × Int32 × Int32) ⊕ (Int32 × Int32)) :=
  if 16 ≤ v13 then
    some (.inr (v11, v12))
  else
  b1 (
    if ((p1 >>> (v9 &&& 31)) &&& 1) = 1 then
      if ((p2 >>> (v13 &&& 31)) &&& 1) = 1 then
        some (1 : Int32)
      else
      some (0 : Int32)
    else
    some (0 : Int32)) fun v15 =>
  b1 (
    if v15 = 0 then
      some (0 : Int32)
    else
    some (1 : Int32)) fun v18 =>
  bn (v12 + v18) fun v20 =>
  b1 (
    if v15 = 0 then
      some (0 : Int32)
    else
    b1 (f_X10_bits (v9 &&& v13)) fun v23 =>
    if (v23 - v23 / 2 * 2) = 1 then
      some (1 : Int32)
    else
    some ((-1) : Int32)) fun v21 =>
  bn (v11 + v21) fun v25 =>
  bn (v13 + 1) fun v26 =>
  some (.inl (v25, v20, v26))
def L_X10_mixed_53 (p1 : Int32) (p2 : Int32) (v9 : Int32) (n : Nat) (v11 : Int32) (v12 : Int32) (v13 : Int32) : Option (Int32 × Int32) := loopF (fun x : Int32 × Int32 × Int32 => B_X10_mixed_53 p1 p2 v9 x.1 x.2.1 x.2.2) n (v11, v12, v13)
def B_X10_mixed_43 (p1 : Int32) (p2 : Int32) (v7 : Int32) (v8 : Int32) (v9 : Int32) : Option ((Int32 × Int32 × Int32) ⊕ (Int32 × Int32)) :=
  if 16 ≤ v9 then
    some (.inr (v7, v8))
  else
  b2 (L_X10_mixed_53 p1 p2 v9 FU v7 v8 0) fun v27 v28 =>
  bn (v9 + 1) fun v29 =>
  some (.inl (v27, v28, v29))
def L_X10_mixed_43 (p1 : Int32) (p2 : Int32) (n : Nat) (v7 : Int32) (v8 : Int32) (v9 : Int32) : Option (Int32 × Int32) := loopF (fun x : Int32 × Int32 × Int32 => B_X10_mixed_43 p1 p2 x.1 x.2.1 x.2.2) n (v7, v8, v9)
def f_X10_mixed (S : PS) (p1 : Int32) (p2 : Int32) (p3 : Int32) : Option (Int32) :=
  b1 (f_X10_in (p1.toInt64) 1 (65535)) fun v1 =>
  if v1 = 0 then
    some (-3)
  else
  b1 (f_X10_in (p2.toInt64) 1 (65535)) fun v3 =>
  if v3 = 0 then
    some (-3)
  else
  b1 (f_X10_isPart p3) fun v5 =>
  if v5 = 0 then
    some (-3)
  else
  b2 (L_X10_mixed_43 p1 p2 FU 0 0 0) fun v30 v31 =>
  b1 (
    if 0 ≤ v30 then
      some (v30.toInt64)
    else
    some ((-v30).toInt64)) fun v32 =>
  b1 (f_X10_partOf v32 (v31.toInt64) p3) fun v34 =>
  some v34
set_option maxHeartbeats 4000000 in
set_option maxRecDepth 100000 in
theorem c_X10_mixed (l : Launch) (D : va_G) (cs : CS) (a : Nat) (q : Nat → Nat) (S : PS) (p1 : Int32) (p2 : Int32) (p3 : Int32) (r : Int32) (hf : f_X10_mixed S p1 p2 p3 = some r) : CT l D (TY cs) yX10_mixed wsX10_mixed rmX10_mixed [.ref a, .int p1, .int p2, .int p3] (wX10 cs a q S) (some (.int r)) (wX10 cs a q S) := by
  refine CT.ofW (own := RX10) (cc := cX10_mixed) (maxL := 9) (ret := some .int) (by decide) rfl rfl (Nat.le_of_ble_eq_true rfl) ?_
  intro p e s m args below meth c A Q X hret ls hl hw
  obtain ⟨hx, hb, hml, hown, hts, hK, hA, hr, hlk⟩ := id X
  have hl : lv_has ls 9 [(0, .ref a), (1, .int p1), (2, .int p2), (3, .int p3)] := hl
  unfold f_X10_mixed at hf
  refine lv_iload_n (pc := 0) hx hb dX10_mixed_0 rfl (lv_at hl 1 rfl) ?_
  refine lv_i2l (pc := 1) hx hb dX10_mixed_1 rfl ?_
  refine lv_lconst (pc := 2) (v := 1) hx hb dX10_mixed_2 (by decide) ?_
  refine lv_ldc2 (pc := 3) (v := (65535)) hx hb hown (hts _ (List.mem_of_getElem? (i := 1) rfl)) dX10_mixed_3 ?_
  obtain ⟨v1, hc, hf⟩ := b1_ob hf
  refine x_nil (pc := 6) X hw (va_runS (As := [.long (p1.toInt64), .long 1, .long (65535)]) (rest := []) ⟨hx, hb, hml, hown, hts⟩ (c_X10_in l D cs (p1.toInt64) 1 (65535) v1 hc _) (va_cwS 3 hts gX10_mixed_X10_in rfl rfl rfl (by decide +kernel) ⟨Nat.le_of_ble_eq_true rfl, Nat.le_of_ble_eq_true rfl⟩) ⟨CP_blind, x_preN X [.long (p1.toInt64), .long 1, .long (65535)]⟩ rfl rfl hl.1 rfl (lv_room (Nat.le_of_ble_eq_true rfl)) dX10_mixed_6 ⟨Nat.zero_le _, Nat.zero_le _⟩) (fun H locs hw => ?_)
  refine lv_if_eq (pc := 9) (tgt := 31) hx hb dX10_mixed_9 (by decide) (fun c2 => ?_) (fun c2 => ?_)
  · have hf := ipos c2 hf
    refine lv_bipush (pc := 31) (v := (-3)) hx hb dX10_mixed_31 (by decide) ?_
    cases hf
    exact hret _ _ 33 _ hw ⟨_, rfl, rfl⟩ dX10_mixed_33
  · have hf := ineg c2 hf
    refine lv_iload_n (pc := 12) hx hb dX10_mixed_12 rfl (lv_at hl 2 rfl) ?_
    refine lv_i2l (pc := 13) hx hb dX10_mixed_13 rfl ?_
    refine lv_lconst (pc := 14) (v := 1) hx hb dX10_mixed_14 (by decide) ?_
    refine lv_ldc2 (pc := 15) (v := (65535)) hx hb hown (hts _ (List.mem_of_getElem? (i := 1) rfl)) dX10_mixed_15 ?_
    obtain ⟨v3, hc, hf⟩ := b1_ob hf
    refine x_nil (pc := 18) X hw (va_runS (As := [.long (p2.toInt64), .long 1, .long (65535)]) (rest := []) ⟨hx, hb, hml, hown, hts⟩ (c_X10_in l D cs (p2.toInt64) 1 (65535) v3 hc _) (va_cwS 3 hts gX10_mixed_X10_in rfl rfl rfl (by decide +kernel) ⟨Nat.le_of_ble_eq_true rfl, Nat.le_of_ble_eq_true rfl⟩) ⟨CP_blind, x_preN X [.long (p2.toInt64), .long 1, .long (65535)]⟩ rfl rfl hl.1 rfl (lv_room (Nat.le_of_ble_eq_true rfl)) dX10_mixed_18 ⟨Nat.zero_le _, Nat.zero_le _⟩) (fun H locs hw => ?_)
    refine lv_if_eq (pc := 21) (tgt := 31) hx hb dX10_mixed_21 (by decide) (fun c4 => ?_) (fun c4 => ?_)
    · have hf := ipos c4 hf
      refine lv_bipush (pc := 31) (v := (-3)) hx hb dX10_mixed_31 (by decide) ?_
      cases hf
      exact hret _ _ 33 _ hw ⟨_, rfl, rfl⟩ dX10_mixed_33
    · have hf := ineg c4 hf
      refine lv_iload_n (pc := 24) hx hb dX10_mixed_24 rfl (lv_at hl 3 rfl) ?_
      obtain ⟨v5, hc, hf⟩ := b1_ob hf
      refine x_nil (pc := 25) X hw (va_runS (As := [.int p3]) (rest := []) ⟨hx, hb, hml, hown, hts⟩ (c_X10_isPart l D cs p3 v5 hc _) (va_cwS 1 hts gX10_mixed_X10_isPart rfl rfl rfl (by decide +kernel) ⟨Nat.le_of_ble_eq_true rfl, Nat.le_of_ble_eq_true rfl⟩) ⟨CP_blind, x_preN X [.int p3]⟩ rfl rfl hl.1 rfl (lv_room (Nat.le_of_ble_eq_true rfl)) dX10_mixed_25 ⟨Nat.zero_le _, Nat.zero_le _⟩) (fun H locs hw => ?_)
      refine lv_if_ne (pc := 28) (tgt := 34) hx hb dX10_mixed_28 (by decide) (fun c6 => ?_) (fun c6 => ?_)
      · have hf := ineg c6 hf
        refine lv_iconst (pc := 34) (v := 0) hx hb dX10_mixed_34 (by decide) ?_
        refine lv_istore (lv' := [(4, .int 0), (0, .ref a), (1, .int p1), (2, .int p2), (3, .int p3)]) (pc := 35) hx hb dX10_mixed_35 hl (by decide) rfl (fun ls hl => ?_)
        refine lv_iconst (pc := 37) (v := 0) hx hb dX10_mixed_37 (by decide) ?_
        refine lv_istore (lv' := [(5, .int 0), (4, .int 0), (0, .ref a), (1, .int p1), (2, .int p2), (3, .int p3)]) (pc := 38) hx hb dX10_mixed_38 hl (by decide) rfl (fun ls hl => ?_)
        refine lv_iconst (pc := 40) (v := 0) hx hb dX10_mixed_40 (by decide) ?_
        refine lv_istore (lv' := [(6, .int 0), (5, .int 0), (4, .int 0), (0, .ref a), (1, .int p1), (2, .int p2), (3, .int p3)]) (pc := 41) hx hb dX10_mixed_41 hl (by decide) rfl (fun ls hl => ?_)
        have L43 : ∀ (n : Nat) (v7 : Int32) (v8 : Int32) (v9 : Int32) (rv7 : Int32) (rv8 : Int32), L_X10_mixed_43 p1 p2 n v7 v8 v9 = some (rv7, rv8) → ∀ (H : Heap) (locs : List Loc) (ls : Array Slot), WD D A s (wX10 cs a q S) H locs → lv_has ls 9 [(1, .int p1), (2, .int p2), (3, .int p3), (4, .int v7), (5, .int v8), (6, .int v9)] → (∀ (H : Heap) (locs : List Loc) (ls : Array Slot), WD D A s (wX10 cs a q S) H locs → lv_has ls 9 [(3, .int p3), (4, .int rv7), (5, .int rv8)] → W p l e rmX10_mixed s m args below meth c H locs 0 0 Q (F0 m 147 ls [])) → W p l e rmX10_mixed s m args below meth c H locs 0 0 Q (F0 m 43 ls []) := by
          intro n
          induction n with
          | zero => intro v7 v8 v9 rv7 rv8 hf; exact (loopF_z hf).elim
          | succ n ih =>
            intro v7 v8 v9 rv7 rv8 hf H locs ls hw hl K
            obtain ⟨x, hf, hx0⟩ := loopF_ob hf
            have hf : B_X10_mixed_43 p1 p2 v7 v8 v9 = some x := hf
            unfold B_X10_mixed_43 at hf
            refine lv_iload (pc := 43) hx hb dX10_mixed_43 (lv_at hl 5 rfl) ?_
            refine lv_bipush (pc := 45) (v := 16) hx hb dX10_mixed_45 (by decide) ?_
            refine lv_icmp_ge (pc := 47) (tgt := 147) hx hb dX10_mixed_47 (by decide) (fun c10 => ?_) (fun c10 => ?_)
            · have hf := ipos c10 hf
              cases hf
              cases (hx0 : (v7, v8) = (rv7, rv8))
              exact K _ _ _ hw (lv_sub hl [2, 3, 4] rfl)
            · have hf := ineg c10 hf
              refine lv_iconst (pc := 50) (v := 0) hx hb dX10_mixed_50 (by decide) ?_
              refine lv_istore (lv' := [(7, .int 0), (1, .int p1), (2, .int p2), (3, .int p3), (4, .int v7), (5, .int v8), (6, .int v9)]) (pc := 51) hx hb dX10_mixed_51 hl (by decide) rfl (fun ls hl => ?_)
              have L53 : ∀ (n : Nat) (v11 : Int32) (v12 : Int32) (v13 : Int32) (rv11 : Int32) (rv12 : Int32), L_X10_mixed_53 p1 p2 v9 n v11 v12 v13 = some (rv11, rv12) → ∀ (H : Heap) (locs : List Loc) (ls : Array Slot), WD D A s (wX10 cs a q S) H locs → lv_has ls 9 [(1, .int p1), (2, .int p2), (3, .int p3), (4, .int v11), (5, .int v12), (6, .int v9), (7, .int v13)] → (∀ (H : Heap) (locs : List Loc) (ls : Array Slot), WD D A s (wX10 cs a q S) H locs → lv_has ls 9 [(1, .int p1), (2, .int p2), (3, .int p3), (4, .int rv11), (5, .int rv12), (6, .int v9)] → W p l e rmX10_mixed s m args below meth c H locs 0 0 Q (F0 m 141 ls [])) → W p l e rmX10_mixed s m args below meth c H locs 0 0 Q (F0 m 53 ls []) := by
                intro n
                induction n with
                | zero => intro v11 v12 v13 rv11 rv12 hf; exact (loopF_z hf).elim
                | succ n ih =>
                  intro v11 v12 v13 rv11 rv12 hf H locs ls hw hl K
                  obtain ⟨x, hf, hx0⟩ := loopF_ob hf
                  have hf : B_X10_mixed_53 p1 p2 v9 v11 v12 v13 = some x := hf
                  unfold B_X10_mixed_53 at hf
                  refine lv_iload (pc := 53) hx hb dX10_mixed_53 (lv_at hl 6 rfl) ?_
                  refine lv_bipush (pc := 55) (v := 16) hx hb dX10_mixed_55 (by decide) ?_
                  refine lv_icmp_ge (pc := 57) (tgt := 141) hx hb dX10_mixed_57 (by decide) (fun c14 => ?_) (fun c14 => ?_)
                  · have hf := ipos c14 hf
                    cases hf
                    cases (hx0 : (v11, v12) = (rv11, rv12))
                    exact K _ _ _ hw (lv_sub hl [0, 1, 2, 3, 4, 5] rfl)
                  · have hf := ineg c14 hf
                    refine lv_iload_n (pc := 60) hx hb dX10_mixed_60 rfl (lv_at hl 0 rfl) ?_
                    refine lv_iload (pc := 61) hx hb dX10_mixed_61 (lv_at hl 5 rfl) ?_
                    refine lv_ishr (pc := 63) hx hb dX10_mixed_63 ?_
                    refine lv_iconst (pc := 64) (v := 1) hx hb dX10_mixed_64 (by decide) ?_
                    refine lv_iand (pc := 65) hx hb dX10_mixed_65 ?_
                    refine lv_iconst (pc := 66) (v := 1) hx hb dX10_mixed_66 (by decide) ?_
                    obtain ⟨v15, hj, hf⟩ := b1_ob hf
                    have J85_14 : ∀ (H : Heap) (locs : List Loc) (ls : Array Slot), WD D A s (wX10 cs a q S) H locs → lv_has ls 9 [(1, .int p1), (2, .int p2), (3, .int p3), (4, .int v11), (5, .int v12), (6, .int v9), (7, .int v13)] → W p l e rmX10_mixed s m args below meth c H locs 0 0 Q (F0 m 85 ls [.int v15]) := by
                      intro H locs ls hw hl
                      refine lv_istore (lv' := [(8, .int v15), (1, .int p1), (2, .int p2), (3, .int p3), (4, .int v11), (5, .int v12), (6, .int v9), (7, .int v13)]) (pc := 85) hx hb dX10_mixed_85 hl (by decide) rfl (fun ls hl => ?_)
                      refine lv_iload (pc := 87) hx hb dX10_mixed_87 (lv_at hl 5 rfl) ?_
                      refine lv_iload (pc := 89) hx hb dX10_mixed_89 (lv_at hl 0 rfl) ?_
                      obtain ⟨v18, hj, hf⟩ := b1_ob hf
                      have J99_17 : ∀ (H : Heap) (locs : List Loc) (ls : Array Slot), WD D A s (wX10 cs a q S) H locs → lv_has ls 9 [(1, .int p1), (2, .int p2), (3, .int p3), (4, .int v11), (6, .int v9), (7, .int v13), (8, .int v15)] → W p l e rmX10_mixed s m args below meth c H locs 0 0 Q (F0 m 99 ls [.int v18, .int v12]) := by
                        intro H locs ls hw hl
                        refine lv_iadd (pc := 99) hx hb dX10_mixed_99 ?_
                        obtain ⟨v20, ev20, hf⟩ := bn_ob hf
                        refine x_topi ev20 ?_
                        refine lv_istore (lv' := [(5, .int v20), (1, .int p1), (2, .int p2), (3, .int p3), (4, .int v11), (6, .int v9), (7, .int v13), (8, .int v15)]) (pc := 100) hx hb dX10_mixed_100 hl (by decide) rfl (fun ls hl => ?_)
                        refine lv_iload (pc := 102) hx hb dX10_mixed_102 (lv_at hl 4 rfl) ?_
                        refine lv_iload (pc := 104) hx hb dX10_mixed_104 (lv_at hl 7 rfl) ?_
                        obtain ⟨v21, hj, hf⟩ := b1_ob hf
                        have J132_20 : ∀ (H : Heap) (locs : List Loc) (ls : Array Slot), WD D A s (wX10 cs a q S) H locs → lv_has ls 9 [(1, .int p1), (2, .int p2), (3, .int p3), (5, .int v20), (6, .int v9), (7, .int v13)] → W p l e rmX10_mixed s m args below meth c H locs 0 0 Q (F0 m 132 ls [.int v21, .int v11]) := by
                          intro H locs ls hw hl
                          refine lv_iadd (pc := 132) hx hb dX10_mixed_132 ?_
                          obtain ⟨v25, ev25, hf⟩ := bn_ob hf
                          refine x_topi ev25 ?_
                          refine lv_istore (lv' := [(4, .int v25), (1, .int p1), (2, .int p2), (3, .int p3), (5, .int v20), (6, .int v9), (7, .int v13)]) (pc := 133) hx hb dX10_mixed_133 hl (by decide) rfl (fun ls hl => ?_)
                          obtain ⟨v26, ev26, hf⟩ := bn_ob hf
                          refine lv_iinc (pc := 135) (v := v26) (lv' := [(7, .int v26), (4, .int v25), (1, .int p1), (2, .int p2), (3, .int p3), (5, .int v20), (6, .int v9)]) hx hb dX10_mixed_135 hl (k := 6) rfl (by rw [ev26]; rfl) (by decide) rfl (fun ls hl => ?_)
                          refine lv_goto (pc := 138) (tgt := 53) hx hb dX10_mixed_138 (by decide) ?_
                          cases hf
                          exact ih v25 v20 v26 rv11 rv12 hx0 _ _ _ hw (lv_sub hl [2, 3, 4, 1, 5, 6, 0] rfl) K
                        clear hf; have hf := hj; clear hj
                        refine lv_if_ne (pc := 106) (tgt := 113) hx hb dX10_mixed_106 (by decide) (fun c22 => ?_) (fun c22 => ?_)
                        · have hf := ineg c22 hf
                          refine lv_iload (pc := 113) hx hb dX10_mixed_113 (lv_at hl 5 rfl) ?_
                          refine lv_iload (pc := 115) hx hb dX10_mixed_115 (lv_at hl 6 rfl) ?_
                          refine lv_iand (pc := 117) hx hb dX10_mixed_117 ?_
                          obtain ⟨v23, hc, hf⟩ := b1_ob hf
                          refine x_nil (pc := 118) X hw (va_runS (As := [.int (v9 &&& v13)]) (rest := [.int v11]) ⟨hx, hb, hml, hown, hts⟩ (c_X10_bits l D cs (v9 &&& v13) v23 hc _) (va_cwS 1 hts gX10_mixed_X10_bits rfl rfl rfl (by decide +kernel) ⟨Nat.le_of_ble_eq_true rfl, Nat.le_of_ble_eq_true rfl⟩) ⟨CP_blind, x_preN X [.int (v9 &&& v13)]⟩ rfl rfl hl.1 rfl (lv_room (Nat.le_of_ble_eq_true rfl)) dX10_mixed_118 ⟨Nat.zero_le _, Nat.zero_le _⟩) (fun H locs hw => ?_)
                          refine lv_iconst (pc := 121) (v := 2) hx hb dX10_mixed_121 (by decide) ?_
                          refine lv_irem (pc := 122) hx hb dX10_mixed_122 (by decide) ?_
                          refine lv_iconst (pc := 123) (v := 1) hx hb dX10_mixed_123 (by decide) ?_
                          refine lv_icmp_ne (pc := 124) (tgt := 131) hx hb dX10_mixed_124 (by decide) (fun c24 => ?_) (fun c24 => ?_)
                          · have hf := ineg c24 hf
                            refine lv_iconst (pc := 131) (v := (-1)) hx hb dX10_mixed_131 (by decide) ?_
                            cases hf
                            exact J132_20 _ _ _ hw (lv_sub hl [1, 2, 3, 0, 5, 6] rfl)
                          · have hf := ipos c24 hf
                            refine lv_iconst (pc := 127) (v := 1) hx hb dX10_mixed_127 (by decide) ?_
                            refine lv_goto (pc := 128) (tgt := 132) hx hb dX10_mixed_128 (by decide) ?_
                            cases hf
                            exact J132_20 _ _ _ hw (lv_sub hl [1, 2, 3, 0, 5, 6] rfl)
                        · have hf := ipos c22 hf
                          refine lv_iconst (pc := 109) (v := 0) hx hb dX10_mixed_109 (by decide) ?_
                          refine lv_goto (pc := 110) (tgt := 132) hx hb dX10_mixed_110 (by decide) ?_
                          cases hf
                          exact J132_20 _ _ _ hw (lv_sub hl [1, 2, 3, 0, 5, 6] rfl)
                      clear hf; have hf := hj; clear hj
                      refine lv_if_eq (pc := 91) (tgt := 98) hx hb dX10_mixed_91 (by decide) (fun c19 => ?_) (fun c19 => ?_)
                      · have hf := ipos c19 hf
                        refine lv_iconst (pc := 98) (v := 0) hx hb dX10_mixed_98 (by decide) ?_
                        cases hf
                        exact J99_17 _ _ _ hw (lv_sub hl [1, 2, 3, 4, 6, 7, 0] rfl)
                      · have hf := ineg c19 hf
                        refine lv_iconst (pc := 94) (v := 1) hx hb dX10_mixed_94 (by decide) ?_
                        refine lv_goto (pc := 95) (tgt := 99) hx hb dX10_mixed_95 (by decide) ?_
                        cases hf
                        exact J99_17 _ _ _ hw (lv_sub hl [1, 2, 3, 4, 6, 7, 0] rfl)
                    clear hf; have hf := hj; clear hj
                    refine lv_icmp_ne (pc := 67) (tgt := 84) hx hb dX10_mixed_67 (by decide) (fun c16 => ?_) (fun c16 => ?_)
                    · have hf := ineg c16 hf
                      refine lv_iconst (pc := 84) (v := 0) hx hb dX10_mixed_84 (by decide) ?_
                      cases hf
                      exact J85_14 _ _ _ hw (lv_sub hl [0, 1, 2, 3, 4, 5, 6] rfl)
                    · have hf := ipos c16 hf
                      refine lv_iload_n (pc := 70) hx hb dX10_mixed_70 rfl (lv_at hl 1 rfl) ?_
                      refine lv_iload (pc := 71) hx hb dX10_mixed_71 (lv_at hl 6 rfl) ?_
                      refine lv_ishr (pc := 73) hx hb dX10_mixed_73 ?_
                      refine lv_iconst (pc := 74) (v := 1) hx hb dX10_mixed_74 (by decide) ?_
                      refine lv_iand (pc := 75) hx hb dX10_mixed_75 ?_
                      refine lv_iconst (pc := 76) (v := 1) hx hb dX10_mixed_76 (by decide) ?_
                      refine lv_icmp_ne (pc := 77) (tgt := 84) hx hb dX10_mixed_77 (by decide) (fun c17 => ?_) (fun c17 => ?_)
                      · have hf := ineg c17 hf
                        refine lv_iconst (pc := 84) (v := 0) hx hb dX10_mixed_84 (by decide) ?_
                        cases hf
                        exact J85_14 _ _ _ hw (lv_sub hl [0, 1, 2, 3, 4, 5, 6] rfl)
                      · have hf := ipos c17 hf
                        refine lv_iconst (pc := 80) (v := 1) hx hb dX10_mixed_80 (by decide) ?_
                        refine lv_goto (pc := 81) (tgt := 85) hx hb dX10_mixed_81 (by decide) ?_
                        cases hf
                        exact J85_14 _ _ _ hw (lv_sub hl [0, 1, 2, 3, 4, 5, 6] rfl)
              obtain ⟨v27, v28, hj, hf⟩ := b2_ob hf
              refine L53 _ v7 v8 0 v27 v28 hj _ _ _ hw (lv_sub hl [1, 2, 3, 4, 5, 6, 0] rfl) (fun H locs ls hw hl => ?_)
              clear hj L53
              obtain ⟨v29, ev29, hf⟩ := bn_ob hf
              refine lv_iinc (pc := 141) (v := v29) (lv' := [(6, .int v29), (1, .int p1), (2, .int p2), (3, .int p3), (4, .int v27), (5, .int v28)]) hx hb dX10_mixed_141 hl (k := 5) rfl (by rw [ev29]; rfl) (by decide) rfl (fun ls hl => ?_)
              refine lv_goto (pc := 144) (tgt := 43) hx hb dX10_mixed_144 (by decide) ?_
              cases hf
              exact ih v27 v28 v29 rv7 rv8 hx0 _ _ _ hw (lv_sub hl [1, 2, 3, 4, 5, 0] rfl) K
        obtain ⟨v30, v31, hj, hf⟩ := b2_ob hf
        refine L43 _ 0 0 0 v30 v31 hj _ _ _ hw (lv_sub hl [4, 5, 6, 2, 1, 0] rfl) (fun H locs ls hw hl => ?_)
        clear hj L43
        refine lv_iload (pc := 147) hx hb dX10_mixed_147 (lv_at hl 1 rfl) ?_
        obtain ⟨v32, hj, hf⟩ := b1_ob hf
        have J162_31 : ∀ (H : Heap) (locs : List Loc) (ls : Array Slot), WD D A s (wX10 cs a q S) H locs → lv_has ls 9 [(3, .int p3), (5, .int v31)] → W p l e rmX10_mixed s m args below meth c H locs 0 0 Q (F0 m 162 ls [.long v32]) := by
          intro H locs ls hw hl
          refine lv_iload (pc := 162) hx hb dX10_mixed_162 (lv_at hl 1 rfl) ?_
          refine lv_i2l (pc := 164) hx hb dX10_mixed_164 rfl ?_
          refine lv_iload_n (pc := 165) hx hb dX10_mixed_165 rfl (lv_at hl 0 rfl) ?_
          obtain ⟨v34, hc, hf⟩ := b1_ob hf
          refine x_nil (pc := 166) X hw (va_runS (As := [.long v32, .long (v31.toInt64), .int p3]) (rest := []) ⟨hx, hb, hml, hown, hts⟩ (c_X10_partOf l D cs v32 (v31.toInt64) p3 v34 hc _) (va_cwS 3 hts gX10_mixed_X10_partOf rfl rfl rfl (by decide +kernel) ⟨Nat.le_of_ble_eq_true rfl, Nat.le_of_ble_eq_true rfl⟩) ⟨CP_blind, x_preN X [.long v32, .long (v31.toInt64), .int p3]⟩ rfl rfl hl.1 rfl (lv_room (Nat.le_of_ble_eq_true rfl)) dX10_mixed_166 ⟨Nat.zero_le _, Nat.zero_le _⟩) (fun H locs hw => ?_)
          cases hf
          exact hret _ _ 169 _ hw ⟨_, rfl, rfl⟩ dX10_mixed_169
        clear hf; have hf := hj; clear hj
        refine lv_if_ge (pc := 149) (tgt := 159) hx hb dX10_mixed_149 (by decide) (fun c33 => ?_) (fun c33 => ?_)
        · have hf := ipos c33 hf
          refine lv_iload (pc := 159) hx hb dX10_mixed_159 (lv_at hl 1 rfl) ?_
          refine lv_i2l (pc := 161) hx hb dX10_mixed_161 rfl ?_
          cases hf
          exact J162_31 _ _ _ hw (lv_sub hl [0, 2] rfl)
        · have hf := ineg c33 hf
          refine lv_iload (pc := 152) hx hb dX10_mixed_152 (lv_at hl 1 rfl) ?_
          refine lv_ineg (pc := 154) hx hb dX10_mixed_154 ?_
          refine lv_i2l (pc := 155) hx hb dX10_mixed_155 rfl ?_
          refine lv_goto (pc := 156) (tgt := 162) hx hb dX10_mixed_156 (by decide) ?_
          cases hf
          exact J162_31 _ _ _ hw (lv_sub hl [0, 2] rfl)
      · have hf := ipos c6 hf
        refine lv_bipush (pc := 31) (v := (-3)) hx hb dX10_mixed_31 (by decide) ?_
        cases hf
        exact hret _ _ 33 _ hw ⟨_, rfl, rfl⟩ dX10_mixed_33

theorem in_X10_count_X10 : ∀ w ∈ wsX100, w ∈ wsX10_count := fun _ h => List.mem_cons_of_mem _ (List.mem_append_right _ h)
abbrev rmX10_count : Room := { frames := 0, cells := 0, slots := 0, locals := 0 }
def f_X10_count (S : PS) (p1 : Int32) : Option (Int32) :=
  if p1 = 0 then
    some (S.1 1)
  else
  if p1 = 1 then
    some (S.1 7)
  else
  if p1 = 2 then
    some (S.1 10)
  else
  if p1 = 3 then
    some (S.1 11)
  else
  if p1 = 4 then
    some ((1 : Int32) <<< ((S.1 12) &&& 31))
  else
  if p1 = 5 then
    some (S.1 18)
  else
  if p1 = 6 then
    some (S.1 20)
  else
  if p1 = 7 then
    some (S.1 22)
  else
  some (-3)
set_option maxHeartbeats 4000000 in
set_option maxRecDepth 100000 in
theorem c_X10_count (l : Launch) (D : va_G) (cs : CS) (a : Nat) (q : Nat → Nat) (S : PS) (p1 : Int32) (r : Int32) (hf : f_X10_count S p1 = some r) : CT l D (TY cs) yX10_count wsX10_count rmX10_count [.ref a, .int p1] (wX10 cs a q S) (some (.int r)) (wX10 cs a q S) := by
  refine CT.ofW (own := RX10) (cc := cX10_count) (maxL := 2) (ret := some .int) (by decide) rfl rfl (Nat.le_of_ble_eq_true rfl) ?_
  intro p e s m args below meth c A Q X hret ls hl hw
  obtain ⟨hx, hb, hml, hown, hts, hK, hA, hr, hlk⟩ := id X
  have hl : lv_has ls 2 [(0, .ref a), (1, .int p1)] := hl
  unfold f_X10_count at hf
  refine lv_iload_n (pc := 0) hx hb dX10_count_0 rfl (lv_at hl 1 rfl) ?_
  by_cases c1 : p1 = 0
  · have hf := ipos c1 hf
    refine lv_tableIn (pc := 1) (tgt := 48) hx hb dX10_count_1 (by rw [c1]; decide) (by rw [c1]; decide) (off := 47) (by rw [c1]; decide) (by decide) ?_
    refine lv_aload_n (pc := 48) hx hb dX10_count_48 rfl (lv_at hl 0 rfl) ?_
    refine x_get (pc := 49) X hw in_X10_count_X10 0 rfl rfl 1 (by decide) (List.mem_of_getElem? (i := 1) rfl) rfl dX10_count_49 ?_
    cases hf
    exact hret _ _ 52 _ hw ⟨_, rfl, rfl⟩ dX10_count_52
  replace hf := ineg c1 hf
  by_cases c2 : p1 = 1
  · have hf := ipos c2 hf
    refine lv_tableIn (pc := 1) (tgt := 53) hx hb dX10_count_1 (by rw [c2]; decide) (by rw [c2]; decide) (off := 52) (by rw [c2]; decide) (by decide) ?_
    refine lv_aload_n (pc := 53) hx hb dX10_count_53 rfl (lv_at hl 0 rfl) ?_
    refine x_get (pc := 54) X hw in_X10_count_X10 0 rfl rfl 7 (by decide) (List.mem_of_getElem? (i := 2) rfl) rfl dX10_count_54 ?_
    cases hf
    exact hret _ _ 57 _ hw ⟨_, rfl, rfl⟩ dX10_count_57
  replace hf := ineg c2 hf
  by_cases c3 : p1 = 2
  · have hf := ipos c3 hf
    refine lv_tableIn (pc := 1) (tgt := 58) hx hb dX10_count_1 (by rw [c3]; decide) (by rw [c3]; decide) (off := 57) (by rw [c3]; decide) (by decide) ?_
    refine lv_aload_n (pc := 58) hx hb dX10_count_58 rfl (lv_at hl 0 rfl) ?_
    refine x_get (pc := 59) X hw in_X10_count_X10 0 rfl rfl 10 (by decide) (List.mem_of_getElem? (i := 3) rfl) rfl dX10_count_59 ?_
    cases hf
    exact hret _ _ 62 _ hw ⟨_, rfl, rfl⟩ dX10_count_62
  replace hf := ineg c3 hf
  by_cases c4 : p1 = 3
  · have hf := ipos c4 hf
    refine lv_tableIn (pc := 1) (tgt := 63) hx hb dX10_count_1 (by rw [c4]; decide) (by rw [c4]; decide) (off := 62) (by rw [c4]; decide) (by decide) ?_
    refine lv_aload_n (pc := 63) hx hb dX10_count_63 rfl (lv_at hl 0 rfl) ?_
    refine x_get (pc := 64) X hw in_X10_count_X10 0 rfl rfl 11 (by decide) (List.mem_of_getElem? (i := 4) rfl) rfl dX10_count_64 ?_
    cases hf
    exact hret _ _ 67 _ hw ⟨_, rfl, rfl⟩ dX10_count_67
  replace hf := ineg c4 hf
  by_cases c5 : p1 = 4
  · have hf := ipos c5 hf
    refine lv_tableIn (pc := 1) (tgt := 68) hx hb dX10_count_1 (by rw [c5]; decide) (by rw [c5]; decide) (off := 67) (by rw [c5]; decide) (by decide) ?_
    refine lv_iconst (pc := 68) (v := 1) hx hb dX10_count_68 (by decide) ?_
    refine lv_aload_n (pc := 69) hx hb dX10_count_69 rfl (lv_at hl 0 rfl) ?_
    refine x_get (pc := 70) X hw in_X10_count_X10 0 rfl rfl 12 (by decide) (List.mem_of_getElem? (i := 5) rfl) rfl dX10_count_70 ?_
    refine lv_ishl (pc := 73) hx hb dX10_count_73 ?_
    cases hf
    exact hret _ _ 74 _ hw ⟨_, rfl, rfl⟩ dX10_count_74
  replace hf := ineg c5 hf
  by_cases c6 : p1 = 5
  · have hf := ipos c6 hf
    refine lv_tableIn (pc := 1) (tgt := 75) hx hb dX10_count_1 (by rw [c6]; decide) (by rw [c6]; decide) (off := 74) (by rw [c6]; decide) (by decide) ?_
    refine lv_aload_n (pc := 75) hx hb dX10_count_75 rfl (lv_at hl 0 rfl) ?_
    refine x_get (pc := 76) X hw in_X10_count_X10 0 rfl rfl 18 (by decide) (List.mem_of_getElem? (i := 6) rfl) rfl dX10_count_76 ?_
    cases hf
    exact hret _ _ 79 _ hw ⟨_, rfl, rfl⟩ dX10_count_79
  replace hf := ineg c6 hf
  by_cases c7 : p1 = 6
  · have hf := ipos c7 hf
    refine lv_tableIn (pc := 1) (tgt := 80) hx hb dX10_count_1 (by rw [c7]; decide) (by rw [c7]; decide) (off := 79) (by rw [c7]; decide) (by decide) ?_
    refine lv_aload_n (pc := 80) hx hb dX10_count_80 rfl (lv_at hl 0 rfl) ?_
    refine x_get (pc := 81) X hw in_X10_count_X10 0 rfl rfl 20 (by decide) (List.mem_of_getElem? (i := 7) rfl) rfl dX10_count_81 ?_
    cases hf
    exact hret _ _ 84 _ hw ⟨_, rfl, rfl⟩ dX10_count_84
  replace hf := ineg c7 hf
  by_cases c8 : p1 = 7
  · have hf := ipos c8 hf
    refine lv_tableIn (pc := 1) (tgt := 85) hx hb dX10_count_1 (by rw [c8]; decide) (by rw [c8]; decide) (off := 84) (by rw [c8]; decide) (by decide) ?_
    refine lv_aload_n (pc := 85) hx hb dX10_count_85 rfl (lv_at hl 0 rfl) ?_
    refine x_get (pc := 86) X hw in_X10_count_X10 0 rfl rfl 22 (by decide) (List.mem_of_getElem? (i := 8) rfl) rfl dX10_count_86 ?_
    cases hf
    exact hret _ _ 89 _ hw ⟨_, rfl, rfl⟩ dX10_count_89
  replace hf := ineg c8 hf
  refine lv_tableOut (pc := 1) (tgt := 90) hx hb dX10_count_1 (by have zc1 := lv_neT (a := 0) c1 (by decide); have zc2 := lv_neT (a := 1) c2 (by decide); have zc3 := lv_neT (a := 2) c3 (by decide); have zc4 := lv_neT (a := 3) c4 (by decide); have zc5 := lv_neT (a := 4) c5 (by decide); have zc6 := lv_neT (a := 5) c6 (by decide); have zc7 := lv_neT (a := 6) c7 (by decide); have zc8 := lv_neT (a := 7) c8 (by decide); omega) (by decide) ?_
  refine lv_bipush (pc := 90) (v := (-3)) hx hb dX10_count_90 (by decide) ?_
  cases hf
  exact hret _ _ 92 _ hw ⟨_, rfl, rfl⟩ dX10_count_92
