abbrev rmX3_sortOf : Room := { frames := 0, cells := 0, slots := 0, locals := 0 }
def f_X3_sortOf (p1 : Int32) : Option (Int32) :=
  if p1 = (-1) then
    some 0
  else
  if p1 < 97 then
    if p1 < 48 then
      b1 (
        if p1 = 32 then
          some (4 : Int32)
        else
        some (3 : Int32)) fun v4 =>
      some v4
    else
    if 57 < p1 then
      b1 (
        if p1 = 32 then
          some (4 : Int32)
        else
        some (3 : Int32)) fun v7 =>
      some v7
    else
    some 2
  else
  if 122 < p1 then
    if p1 < 48 then
      b1 (
        if p1 = 32 then
          some (4 : Int32)
        else
        some (3 : Int32)) fun v11 =>
      some v11
    else
    if 57 < p1 then
      b1 (
        if p1 = 32 then
          some (4 : Int32)
        else
        some (3 : Int32)) fun v14 =>
      some v14
    else
    some 2
  else
  some 1
set_option maxHeartbeats 4000000 in
set_option maxRecDepth 100000 in
theorem c_X3_sortOf (l : Launch) (D : va_G) (cs : CS) (p1 : Int32) (r : Int32) (hf : f_X3_sortOf p1 = some r) : CT l D (TY cs) yX3_sortOf wsX3_sortOf rmX3_sortOf [.int p1] ([]) (some (.int r)) ([]) := by
  refine CT.ofW (own := RX3) (cc := cX3_sortOf) (maxL := 1) (ret := some .int) (by decide) rfl rfl (Nat.le_of_ble_eq_true rfl) ?_
  intro p e s m args below meth c A Q X hret ls hl hw
  obtain ⟨hx, hb, hml, hown, hts, hK, hA, hr, hlk⟩ := id X
  have hl : lv_has ls 1 [(0, .int p1)] := hl
  unfold f_X3_sortOf at hf
  refine lv_iload_n (pc := 0) hx hb dX3_sortOf_0 rfl (lv_at hl 0 rfl) ?_
  refine lv_iconst (pc := 1) (v := (-1)) hx hb dX3_sortOf_1 (by decide) ?_
  refine lv_icmp_ne (pc := 2) (tgt := 7) hx hb dX3_sortOf_2 (by decide) (fun c1 => ?_) (fun c1 => ?_)
  · have hf := ineg c1 hf
    refine lv_iload_n (pc := 7) hx hb dX3_sortOf_7 rfl (lv_at hl 0 rfl) ?_
    refine lv_bipush (pc := 8) (v := 97) hx hb dX3_sortOf_8 (by decide) ?_
    refine lv_icmp_lt (pc := 10) (tgt := 21) hx hb dX3_sortOf_10 (by decide) (fun c2 => ?_) (fun c2 => ?_)
    · have hf := ipos c2 hf
      refine lv_iload_n (pc := 21) hx hb dX3_sortOf_21 rfl (lv_at hl 0 rfl) ?_
      refine lv_bipush (pc := 22) (v := 48) hx hb dX3_sortOf_22 (by decide) ?_
      refine lv_icmp_lt (pc := 24) (tgt := 35) hx hb dX3_sortOf_24 (by decide) (fun c3 => ?_) (fun c3 => ?_)
      · have hf := ipos c3 hf
        refine lv_iload_n (pc := 35) hx hb dX3_sortOf_35 rfl (lv_at hl 0 rfl) ?_
        refine lv_bipush (pc := 36) (v := 32) hx hb dX3_sortOf_36 (by decide) ?_
        obtain ⟨v4, hj, hf⟩ := b1_ob hf
        have J46_3 : ∀ (H : Heap) (locs : List Loc) (ls : Array Slot), WD D A s ([]) H locs → lv_has ls 1 [] → W p l e rmX3_sortOf s m args below meth c H locs 0 0 Q (F0 m 46 ls [.int v4]) := by
          intro H locs ls hw hl
          cases hf
          exact hret _ _ 46 _ hw ⟨_, rfl, rfl⟩ dX3_sortOf_46
        clear hf; have hf := hj; clear hj
        refine lv_icmp_ne (pc := 38) (tgt := 45) hx hb dX3_sortOf_38 (by decide) (fun c5 => ?_) (fun c5 => ?_)
        · have hf := ineg c5 hf
          refine lv_iconst (pc := 45) (v := 3) hx hb dX3_sortOf_45 (by decide) ?_
          cases hf
          exact J46_3 _ _ _ hw (lv_sub hl [] rfl)
        · have hf := ipos c5 hf
          refine lv_iconst (pc := 41) (v := 4) hx hb dX3_sortOf_41 (by decide) ?_
          refine lv_goto (pc := 42) (tgt := 46) hx hb dX3_sortOf_42 (by decide) ?_
          cases hf
          exact J46_3 _ _ _ hw (lv_sub hl [] rfl)
      · have hf := ineg c3 hf
        refine lv_iload_n (pc := 27) hx hb dX3_sortOf_27 rfl (lv_at hl 0 rfl) ?_
        refine lv_bipush (pc := 28) (v := 57) hx hb dX3_sortOf_28 (by decide) ?_
        refine lv_icmp_gt (pc := 30) (tgt := 35) hx hb dX3_sortOf_30 (by decide) (fun c6 => ?_) (fun c6 => ?_)
        · have hf := ipos c6 hf
          refine lv_iload_n (pc := 35) hx hb dX3_sortOf_35 rfl (lv_at hl 0 rfl) ?_
          refine lv_bipush (pc := 36) (v := 32) hx hb dX3_sortOf_36 (by decide) ?_
          obtain ⟨v7, hj, hf⟩ := b1_ob hf
          have J46_6 : ∀ (H : Heap) (locs : List Loc) (ls : Array Slot), WD D A s ([]) H locs → lv_has ls 1 [] → W p l e rmX3_sortOf s m args below meth c H locs 0 0 Q (F0 m 46 ls [.int v7]) := by
            intro H locs ls hw hl
            cases hf
            exact hret _ _ 46 _ hw ⟨_, rfl, rfl⟩ dX3_sortOf_46
          clear hf; have hf := hj; clear hj
          refine lv_icmp_ne (pc := 38) (tgt := 45) hx hb dX3_sortOf_38 (by decide) (fun c8 => ?_) (fun c8 => ?_)
          · have hf := ineg c8 hf
            refine lv_iconst (pc := 45) (v := 3) hx hb dX3_sortOf_45 (by decide) ?_
            cases hf
            exact J46_6 _ _ _ hw (lv_sub hl [] rfl)
          · have hf := ipos c8 hf
            refine lv_iconst (pc := 41) (v := 4) hx hb dX3_sortOf_41 (by decide) ?_
            refine lv_goto (pc := 42) (tgt := 46) hx hb dX3_sortOf_42 (by decide) ?_
            cases hf
            exact J46_6 _ _ _ hw (lv_sub hl [] rfl)
        · have hf := ineg c6 hf
          refine lv_iconst (pc := 33) (v := 2) hx hb dX3_sortOf_33 (by decide) ?_
          cases hf
          exact hret _ _ 34 _ hw ⟨_, rfl, rfl⟩ dX3_sortOf_34
    · have hf := ineg c2 hf
      refine lv_iload_n (pc := 13) hx hb dX3_sortOf_13 rfl (lv_at hl 0 rfl) ?_
      refine lv_bipush (pc := 14) (v := 122) hx hb dX3_sortOf_14 (by decide) ?_
      refine lv_icmp_gt (pc := 16) (tgt := 21) hx hb dX3_sortOf_16 (by decide) (fun c9 => ?_) (fun c9 => ?_)
      · have hf := ipos c9 hf
        refine lv_iload_n (pc := 21) hx hb dX3_sortOf_21 rfl (lv_at hl 0 rfl) ?_
        refine lv_bipush (pc := 22) (v := 48) hx hb dX3_sortOf_22 (by decide) ?_
        refine lv_icmp_lt (pc := 24) (tgt := 35) hx hb dX3_sortOf_24 (by decide) (fun c10 => ?_) (fun c10 => ?_)
        · have hf := ipos c10 hf
          refine lv_iload_n (pc := 35) hx hb dX3_sortOf_35 rfl (lv_at hl 0 rfl) ?_
          refine lv_bipush (pc := 36) (v := 32) hx hb dX3_sortOf_36 (by decide) ?_
          obtain ⟨v11, hj, hf⟩ := b1_ob hf
          have J46_10 : ∀ (H : Heap) (locs : List Loc) (ls : Array Slot), WD D A s ([]) H locs → lv_has ls 1 [] → W p l e rmX3_sortOf s m args below meth c H locs 0 0 Q (F0 m 46 ls [.int v11]) := by
            intro H locs ls hw hl
            cases hf
            exact hret _ _ 46 _ hw ⟨_, rfl, rfl⟩ dX3_sortOf_46
          clear hf; have hf := hj; clear hj
          refine lv_icmp_ne (pc := 38) (tgt := 45) hx hb dX3_sortOf_38 (by decide) (fun c12 => ?_) (fun c12 => ?_)
          · have hf := ineg c12 hf
            refine lv_iconst (pc := 45) (v := 3) hx hb dX3_sortOf_45 (by decide) ?_
            cases hf
            exact J46_10 _ _ _ hw (lv_sub hl [] rfl)
          · have hf := ipos c12 hf
            refine lv_iconst (pc := 41) (v := 4) hx hb dX3_sortOf_41 (by decide) ?_
            refine lv_goto (pc := 42) (tgt := 46) hx hb dX3_sortOf_42 (by decide) ?_
            cases hf
            exact J46_10 _ _ _ hw (lv_sub hl [] rfl)
        · have hf := ineg c10 hf
          refine lv_iload_n (pc := 27) hx hb dX3_sortOf_27 rfl (lv_at hl 0 rfl) ?_
          refine lv_bipush (pc := 28) (v := 57) hx hb dX3_sortOf_28 (by decide) ?_
          refine lv_icmp_gt (pc := 30) (tgt := 35) hx hb dX3_sortOf_30 (by decide) (fun c13 => ?_) (fun c13 => ?_)
          · have hf := ipos c13 hf
            refine lv_iload_n (pc := 35) hx hb dX3_sortOf_35 rfl (lv_at hl 0 rfl) ?_
            refine lv_bipush (pc := 36) (v := 32) hx hb dX3_sortOf_36 (by decide) ?_
            obtain ⟨v14, hj, hf⟩ := b1_ob hf
            have J46_13 : ∀ (H : Heap) (locs : List Loc) (ls : Array Slot), WD D A s ([]) H locs → lv_has ls 1 [] → W p l e rmX3_sortOf s m args below meth c H locs 0 0 Q (F0 m 46 ls [.int v14]) := by
              intro H locs ls hw hl
              cases hf
              exact hret _ _ 46 _ hw ⟨_, rfl, rfl⟩ dX3_sortOf_46
            clear hf; have hf := hj; clear hj
            refine lv_icmp_ne (pc := 38) (tgt := 45) hx hb dX3_sortOf_38 (by decide) (fun c15 => ?_) (fun c15 => ?_)
            · have hf := ineg c15 hf
              refine lv_iconst (pc := 45) (v := 3) hx hb dX3_sortOf_45 (by decide) ?_
              cases hf
              exact J46_13 _ _ _ hw (lv_sub hl [] rfl)
            · have hf := ipos c15 hf
              refine lv_iconst (pc := 41) (v := 4) hx hb dX3_sortOf_41 (by decide) ?_
              refine lv_goto (pc := 42) (tgt := 46) hx hb dX3_sortOf_42 (by decide) ?_
              cases hf
              exact J46_13 _ _ _ hw (lv_sub hl [] rfl)
          · have hf := ineg c13 hf
            refine lv_iconst (pc := 33) (v := 2) hx hb dX3_sortOf_33 (by decide) ?_
            cases hf
            exact hret _ _ 34 _ hw ⟨_, rfl, rfl⟩ dX3_sortOf_34
      · have hf := ineg c9 hf
        refine lv_iconst (pc := 19) (v := 1) hx hb dX3_sortOf_19 (by decide) ?_
        cases hf
        exact hret _ _ 20 _ hw ⟨_, rfl, rfl⟩ dX3_sortOf_20
  · have hf := ipos c1 hf
    refine lv_iconst (pc := 5) (v := 0) hx hb dX3_sortOf_5 (by decide) ?_
    cases hf
    exact hret _ _ 6 _ hw ⟨_, rfl, rfl⟩ dX3_sortOf_6

theorem in_X3_behind_X3 : ∀ w ∈ wsX30, w ∈ wsX3_behind := fun _ h => List.mem_cons_of_mem _ (List.mem_append_left _ (List.mem_append_right _ h))
theorem in_X3_behind_X6 : ∀ w ∈ wsX60, w ∈ wsX3_behind := fun _ h => List.mem_cons_of_mem _ (List.mem_append_right _ h)
abbrev rmX3_behind : Room := { frames := 1, cells := 0, slots := 0, locals := 21 }
def B_X3_behind_2 (T : PS) (p2 : Int32) (v1 : Int32) : Option ((Int32) ⊕ (Int32)) :=
  if (T.1 1) ≤ v1 then
    some (.inr v1)
  else
  b1 (f_X6_at T v1) fun v3 =>
  b1 (f_X3_sortOf v3) fun v4 =>
  if v4 = p2 then
    bn (v1 + 1) fun v6 =>
    some (.inl v6)
  else
  some (.inr v1)
def L_X3_behind_2 (T : PS) (p2 : Int32) (n : Nat) (v1 : Int32) : Option (Int32) := loopF (fun x : Int32 => B_X3_behind_2 T p2 x) n v1
def f_X3_behind (S : PS) (T : PS) (p1 : Int32) (p2 : Int32) : Option (Int32) :=
  b1 (L_X3_behind_2 T p2 FU p1) fun v7 =>
  some v7
set_option maxHeartbeats 4000000 in
set_option maxRecDepth 100000 in
theorem c_X3_behind (l : Launch) (D : va_G) (cs : CS) (a : Nat) (q : Nat → Nat) (qT : Nat → Nat) (S : PS) (T : PS) (p1 : Int32) (p2 : Int32) (r : Int32) (hf : f_X3_behind S T p1 p2 = some r) : CT l D (TY cs) yX3_behind wsX3_behind rmX3_behind [.ref a, .int p1, .int p2] (wX3 cs a q S ++ wX6 cs (q 0) qT T) (some (.int r)) (wX3 cs a q S ++ wX6 cs (q 0) qT T) := by
  refine CT.ofW (own := RX3) (cc := cX3_behind) (maxL := 4) (ret := some .int) (by decide) rfl rfl (Nat.le_of_ble_eq_true rfl) ?_
  intro p e s m args below meth c A Q X hret ls hl hw
  obtain ⟨hx, hb, hml, hown, hts, hK, hA, hr, hlk⟩ := id X
  have hl : lv_has ls 4 [(0, .ref a), (1, .int p1), (2, .int p2)] := hl
  unfold f_X3_behind at hf
  refine lv_iload_n (pc := 0) hx hb dX3_behind_0 rfl (lv_at hl 1 rfl) ?_
  refine lv_istore_n (lv' := [(3, .int p1), (0, .ref a), (1, .int p1), (2, .int p2)]) (pc := 1) hx hb dX3_behind_1 rfl hl (by decide) rfl (fun ls hl => ?_)
  have L2 : ∀ (n : Nat) (v1 : Int32) (rv1 : Int32), L_X3_behind_2 T p2 n v1 = some rv1 → ∀ (H : Heap) (locs : List Loc) (ls : Array Slot), WD D A s (wX3 cs a q S ++ wX6 cs (q 0) qT T) H locs → lv_has ls 4 [(0, .ref a), (2, .int p2), (3, .int v1)] → (∀ (H : Heap) (locs : List Loc) (ls : Array Slot), WD D A s (wX3 cs a q S ++ wX6 cs (q 0) qT T) H locs → lv_has ls 4 [(3, .int rv1)] → W p l e rmX3_behind s m args below meth c H locs 0 0 Q (F0 m 34 ls [])) → W p l e rmX3_behind s m args below meth c H locs 0 0 Q (F0 m 2 ls []) := by
    intro n
    induction n with
    | zero => intro v1 rv1 hf; exact (loopF_z hf).elim
    | succ n ih =>
      intro v1 rv1 hf H locs ls hw hl K
      obtain ⟨x, hf, hx0⟩ := loopF_ob hf
      have hf : B_X3_behind_2 T p2 v1 = some x := hf
      unfold B_X3_behind_2 at hf
      refine lv_iload_n (pc := 2) hx hb dX3_behind_2 rfl (lv_at hl 2 rfl) ?_
      refine lv_aload_n (pc := 3) hx hb dX3_behind_3 rfl (lv_at hl 0 rfl) ?_
      refine x_get (pc := 4) X hw in_X3_behind_X3 0 rfl rfl 0 (by decide) (List.mem_of_getElem? (i := 1) rfl) rfl dX3_behind_4 ?_
      refine x_get (pc := 7) X hw in_X3_behind_X6 1 rfl rfl 1 (by decide) (List.mem_of_getElem? (i := 2) rfl) rfl dX3_behind_7 ?_
      refine lv_icmp_ge (pc := 10) (tgt := 34) hx hb dX3_behind_10 (by decide) (fun c2 => ?_) (fun c2 => ?_)
      · have hf := ipos c2 hf
        cases hf
        cases (hx0 : v1 = rv1)
        exact K _ _ _ hw (lv_sub hl [2] rfl)
      · have hf := ineg c2 hf
        refine lv_aload_n (pc := 13) hx hb dX3_behind_13 rfl (lv_at hl 0 rfl) ?_
        refine x_get (pc := 14) X hw in_X3_behind_X3 0 rfl rfl 0 (by decide) (List.mem_of_getElem? (i := 1) rfl) rfl dX3_behind_14 ?_
        refine lv_iload_n (pc := 17) hx hb dX3_behind_17 rfl (lv_at hl 2 rfl) ?_
        obtain ⟨v3, hc, hf⟩ := b1_ob hf
        refine x_cut (pc := 18) (wr := ([0].filterMap (fun i => (wX3 cs a q S ++ wX6 cs (q 0) qT T)[i]?))) (ws2 := wX3 cs a q S ++ wX6 cs (q 0) qT T) X hw [1, 2] [0] [0, 1, 2] rfl rfl (by decide) (by decide) rfl (by decide) (va_runV (As := [.int v1]) (rest := []) ⟨hx, hb, hml, hown, hts⟩ (c_X6_at l D cs (q 0) qT T v1 v3 hc _) (cwV 1 hts gX3_behind_X6_at rfl rfl rfl (by decide +kernel) ⟨Nat.le_of_ble_eq_true rfl, Nat.le_of_ble_eq_true rfl⟩) ⟨CP_blind, va_recv hK hw.1 (ci := 6) (q0 := 1) rfl rfl, x_preC X hw [1, 2] rfl (by decide) [.ref (q 0), .int v1]⟩ rfl rfl hl.1 rfl (lv_room (Nat.le_of_ble_eq_true rfl)) dX3_behind_18 ⟨Nat.zero_le _, Nat.zero_le _⟩) (fun H locs hw => ?_)
        obtain ⟨v4, hc, hf⟩ := b1_ob hf
        refine x_nil (pc := 21) X hw (va_runS (As := [.int v3]) (rest := []) ⟨hx, hb, hml, hown, hts⟩ (c_X3_sortOf l D cs v3 v4 hc _) (va_cwS 1 hts gX3_behind_X3_sortOf rfl rfl rfl (by decide +kernel) ⟨Nat.le_of_ble_eq_true rfl, Nat.le_of_ble_eq_true rfl⟩) ⟨CP_blind, x_preN X [.int v3]⟩ rfl rfl hl.1 rfl (lv_room (Nat.le_of_ble_eq_true rfl)) dX3_behind_21 ⟨Nat.zero_le _, Nat.zero_le _⟩) (fun H locs hw => ?_)
        refine lv_iload_n (pc := 24) hx hb dX3_behind_24 rfl (lv_at hl 1 rfl) ?_
        refine lv_icmp_ne (pc := 25) (tgt := 34) hx hb dX3_behind_25 (by decide) (fun c5 => ?_) (fun c5 => ?_)
        · have hf := ineg c5 hf
          cases hf
          cases (hx0 : v1 = rv1)
          exact K _ _ _ hw (lv_sub hl [2] rfl)
        · have hf := ipos c5 hf
          obtain ⟨v6, ev6, hf⟩ := bn_ob hf
          refine lv_iinc (pc := 28) (v := v6) (lv' := [(3, .int v6), (0, .ref a), (2, .int p2)]) hx hb dX3_behind_28 hl (k := 2) rfl (by rw [ev6]; rfl) (by decide) rfl (fun ls hl => ?_)
          refine lv_goto (pc := 31) (tgt := 2) hx hb dX3_behind_31 (by decide) ?_
          cases hf
          exact ih v6 rv1 hx0 _ _ _ hw (lv_sub hl [1, 2, 0] rfl) K
  obtain ⟨v7, hj, hf⟩ := b1_ob hf
  refine L2 _ p1 v7 hj _ _ _ hw (lv_sub hl [1, 3, 0] rfl) (fun H locs ls hw hl => ?_)
  clear hj L2
  refine lv_iload_n (pc := 34) hx hb dX3_behind_34 rfl (lv_at hl 0 rfl) ?_
  cases hf
  exact hret _ _ 35 _ hw ⟨_, rfl, rfl⟩ dX3_behind_35

theorem in_X3_step_X3 : ∀ w ∈ wsX30, w ∈ wsX3_step := fun _ h => List.mem_cons_of_mem _ (List.mem_append_left _ (List.mem_append_right _ h))
theorem in_X3_step_X6 : ∀ w ∈ wsX60, w ∈ wsX3_step := fun _ h => List.mem_cons_of_mem _ (List.mem_append_right _ h)
abbrev rmX3_step : Room := { frames := 2, cells := 0, slots := 0, locals := 44 }
def f_X3_step (S : PS) (T : PS) : Option (PS) :=
  b1 (f_X3_behind S T (S.1 2) 4) fun v1 =>
  bn (sI S 1 v1) fun S2 =>
  b1 (f_X6_at T (S2.1 1)) fun v3 =>
  b1 (f_X3_sortOf v3) fun v4 =>
  bn (sI S2 3 v4) fun S5 =>
  b1 (
    if (S5.1 3) = 1 then
      b1 (f_X3_behind S5 T (S5.1 1) (S5.1 3)) fun v8 =>
      bn (sI S5 2 v8) fun S9 =>
      some S9
    else
    if (S5.1 3) = 2 then
      b1 (f_X3_behind S5 T (S5.1 1) (S5.1 3)) fun v14 =>
      bn (sI S5 2 v14) fun S15 =>
      some S15
    else
    b1 (
      if (S5.1 3) = 0 then
        some (S5.1 1)
      else
      some ((S5.1 1) + 1)) fun v11 =>
    bn (sI S5 2 v11) fun S13 =>
    some S13) fun S6 =>
  some S6
set_option maxHeartbeats 4000000 in
set_option maxRecDepth 100000 in
theorem c_X3_step (l : Launch) (D : va_G) (cs : CS) (a : Nat) (q : Nat → Nat) (qT : Nat → Nat) (S : PS) (T : PS) (S' : PS) (hf : f_X3_step S T = some S') : CT l D (TY cs) yX3_step wsX3_step rmX3_step [.ref a] (wX3 cs a q S ++ wX6 cs (q 0) qT T) none (wX3 cs a q S' ++ wX6 cs (q 0) qT T) := by
  refine CT.ofW (own := RX3) (cc := cX3_step) (maxL := 1) (ret := none) (by decide) rfl rfl (Nat.le_of_ble_eq_true rfl) ?_
  intro p e s m args below meth c A Q X hret ls hl hw
  obtain ⟨hx, hb, hml, hown, hts, hK, hA, hr, hlk⟩ := id X
  have hl : lv_has ls 1 [(0, .ref a)] := hl
  unfold f_X3_step at hf
  refine lv_aload_n (pc := 0) hx hb dX3_step_0 rfl (lv_at hl 0 rfl) ?_
  refine lv_aload_n (pc := 1) hx hb dX3_step_1 rfl (lv_at hl 0 rfl) ?_
  refine lv_aload_n (pc := 2) hx hb dX3_step_2 rfl (lv_at hl 0 rfl) ?_
  refine x_get (pc := 3) X hw in_X3_step_X3 0 rfl rfl 2 (by decide) (List.mem_of_getElem? (i := 1) rfl) rfl dX3_step_3 ?_
  refine lv_iconst (pc := 6) (v := 4) hx hb dX3_step_6 (by decide) ?_
  obtain ⟨v1, hc, hf⟩ := b1_ob hf
  refine x_all (pc := 7) X hw (va_runV (As := [.int (S.1 2), .int 4]) (rest := [.ref a]) ⟨hx, hb, hml, hown, hts⟩ (c_X3_behind l D cs a q qT S T (S.1 2) 4 v1 hc _) (cwV 2 hts gX3_step_X3_behind rfl rfl rfl (by decide +kernel) ⟨Nat.le_of_ble_eq_true rfl, Nat.le_of_ble_eq_true rfl⟩) ⟨CP_blind, va_recv hK hw.1 (ci := 3) (q0 := 0) rfl rfl, x_preA X hw [.ref a, .int (S.1 2), .int 4]⟩ rfl rfl hl.1 rfl (lv_room (Nat.le_of_ble_eq_true rfl)) dX3_step_7 ⟨Nat.zero_le _, Nat.zero_le _⟩) (fun H locs hw => ?_)
  obtain ⟨S2, eS2, hf⟩ := bn_ob hf
  refine x_put (pc := 10) X hw in_X3_step_X3 tyX3 tyX3_ok nmX3 0 rfl rfl 1 (by decide) (List.mem_of_getElem? (i := 2) rfl) rfl rfl rfl (Nat.le_of_ble_eq_true rfl) dX3_step_10 (ws2 := wX3 cs a q S2 ++ wX6 cs (q 0) qT T) (by rw [eS2]; rfl) (fun H locs hw => ?_)
  refine lv_aload_n (pc := 13) hx hb dX3_step_13 rfl (lv_at hl 0 rfl) ?_
  refine lv_aload_n (pc := 14) hx hb dX3_step_14 rfl (lv_at hl 0 rfl) ?_
  refine x_get (pc := 15) X hw in_X3_step_X3 0 rfl rfl 0 (by decide) (List.mem_of_getElem? (i := 3) rfl) rfl dX3_step_15 ?_
  refine lv_aload_n (pc := 18) hx hb dX3_step_18 rfl (lv_at hl 0 rfl) ?_
  refine x_get (pc := 19) X hw in_X3_step_X3 0 rfl rfl 1 (by decide) (List.mem_of_getElem? (i := 2) rfl) rfl dX3_step_19 ?_
  obtain ⟨v3, hc, hf⟩ := b1_ob hf
  refine x_cut (pc := 22) (wr := ([0].filterMap (fun i => (wX3 cs a q S2 ++ wX6 cs (q 0) qT T)[i]?))) (ws2 := wX3 cs a q S2 ++ wX6 cs (q 0) qT T) X hw [1, 2] [0] [0, 1, 2] rfl rfl (by decide) (by decide) rfl (by decide) (va_runV (As := [.int (S2.1 1)]) (rest := [.ref a]) ⟨hx, hb, hml, hown, hts⟩ (c_X6_at l D cs (q 0) qT T (S2.1 1) v3 hc _) (cwV 1 hts gX3_step_X6_at rfl rfl rfl (by decide +kernel) ⟨Nat.le_of_ble_eq_true rfl, Nat.le_of_ble_eq_true rfl⟩) ⟨CP_blind, va_recv hK hw.1 (ci := 6) (q0 := 1) rfl rfl, x_preC X hw [1, 2] rfl (by decide) [.ref (q 0), .int (S2.1 1)]⟩ rfl rfl hl.1 rfl (lv_room (Nat.le_of_ble_eq_true rfl)) dX3_step_22 ⟨Nat.zero_le _, Nat.zero_le _⟩) (fun H locs hw => ?_)
  obtain ⟨v4, hc, hf⟩ := b1_ob hf
  refine x_nil (pc := 25) X hw (va_runS (As := [.int v3]) (rest := [.ref a]) ⟨hx, hb, hml, hown, hts⟩ (c_X3_sortOf l D cs v3 v4 hc _) (va_cwS 1 hts gX3_step_X3_sortOf rfl rfl rfl (by decide +kernel) ⟨Nat.le_of_ble_eq_true rfl, Nat.le_of_ble_eq_true rfl⟩) ⟨CP_blind, x_preN X [.int v3]⟩ rfl rfl hl.1 rfl (lv_room (Nat.le_of_ble_eq_true rfl)) dX3_step_25 ⟨Nat.zero_le _, Nat.zero_le _⟩) (fun H locs hw => ?_)
  obtain ⟨S5, eS5, hf⟩ := bn_ob hf
  refine x_put (pc := 28) X hw in_X3_step_X3 tyX3 tyX3_ok nmX3 0 rfl rfl 3 (by decide) (List.mem_of_getElem? (i := 4) rfl) rfl rfl rfl (Nat.le_of_ble_eq_true rfl) dX3_step_28 (ws2 := wX3 cs a q S5 ++ wX6 cs (q 0) qT T) (by rw [eS5]; rfl) (fun H locs hw => ?_)
  refine lv_aload_n (pc := 31) hx hb dX3_step_31 rfl (lv_at hl 0 rfl) ?_
  refine x_get (pc := 32) X hw in_X3_step_X3 0 rfl rfl 3 (by decide) (List.mem_of_getElem? (i := 4) rfl) rfl dX3_step_32 ?_
  refine lv_iconst (pc := 35) (v := 1) hx hb dX3_step_35 (by decide) ?_
  obtain ⟨S6, hj, hf⟩ := b1_ob hf
  have J90_5 : ∀ (H : Heap) (locs : List Loc) (ls : Array Slot), WD D A s (wX3 cs a q S6 ++ wX6 cs (q 0) qT T) H locs → lv_has ls 1 [] → W p l e rmX3_step s m args below meth c H locs 0 0 Q (F0 m 90 ls []) := by
    intro H locs ls hw hl
    cases hf
    exact hret _ _ 90 _ hw rfl dX3_step_90
  clear hf; have hf := hj; clear hj
  refine lv_icmp_eq (pc := 36) (tgt := 47) hx hb dX3_step_36 (by decide) (fun c7 => ?_) (fun c7 => ?_)
  · have hf := ipos c7 hf
    refine lv_aload_n (pc := 47) hx hb dX3_step_47 rfl (lv_at hl 0 rfl) ?_
    refine lv_aload_n (pc := 48) hx hb dX3_step_48 rfl (lv_at hl 0 rfl) ?_
    refine lv_aload_n (pc := 49) hx hb dX3_step_49 rfl (lv_at hl 0 rfl) ?_
    refine x_get (pc := 50) X hw in_X3_step_X3 0 rfl rfl 1 (by decide) (List.mem_of_getElem? (i := 2) rfl) rfl dX3_step_50 ?_
    refine lv_aload_n (pc := 53) hx hb dX3_step_53 rfl (lv_at hl 0 rfl) ?_
    refine x_get (pc := 54) X hw in_X3_step_X3 0 rfl rfl 3 (by decide) (List.mem_of_getElem? (i := 4) rfl) rfl dX3_step_54 ?_
    obtain ⟨v8, hc, hf⟩ := b1_ob hf
    refine x_all (pc := 57) X hw (va_runV (As := [.int (S5.1 1), .int (S5.1 3)]) (rest := [.ref a]) ⟨hx, hb, hml, hown, hts⟩ (c_X3_behind l D cs a q qT S5 T (S5.1 1) (S5.1 3) v8 hc _) (cwV 2 hts gX3_step_X3_behind rfl rfl rfl (by decide +kernel) ⟨Nat.le_of_ble_eq_true rfl, Nat.le_of_ble_eq_true rfl⟩) ⟨CP_blind, va_recv hK hw.1 (ci := 3) (q0 := 0) rfl rfl, x_preA X hw [.ref a, .int (S5.1 1), .int (S5.1 3)]⟩ rfl rfl hl.1 rfl (lv_room (Nat.le_of_ble_eq_true rfl)) dX3_step_57 ⟨Nat.zero_le _, Nat.zero_le _⟩) (fun H locs hw => ?_)
    obtain ⟨S9, eS9, hf⟩ := bn_ob hf
    refine x_put (pc := 60) X hw in_X3_step_X3 tyX3 tyX3_ok nmX3 0 rfl rfl 2 (by decide) (List.mem_of_getElem? (i := 1) rfl) rfl rfl rfl (Nat.le_of_ble_eq_true rfl) dX3_step_60 (ws2 := wX3 cs a q S9 ++ wX6 cs (q 0) qT T) (by rw [eS9]; rfl) (fun H locs hw => ?_)
    refine lv_goto (pc := 63) (tgt := 90) hx hb dX3_step_63 (by decide) ?_
    cases hf
    exact J90_5 _ _ _ hw (lv_sub hl [] rfl)
  · have hf := ineg c7 hf
    refine lv_aload_n (pc := 39) hx hb dX3_step_39 rfl (lv_at hl 0 rfl) ?_
    refine x_get (pc := 40) X hw in_X3_step_X3 0 rfl rfl 3 (by decide) (List.mem_of_getElem? (i := 4) rfl) rfl dX3_step_40 ?_
    refine lv_iconst (pc := 43) (v := 2) hx hb dX3_step_43 (by decide) ?_
    refine lv_icmp_ne (pc := 44) (tgt := 66) hx hb dX3_step_44 (by decide) (fun c10 => ?_) (fun c10 => ?_)
    · have hf := ineg c10 hf
      refine lv_aload_n (pc := 66) hx hb dX3_step_66 rfl (lv_at hl 0 rfl) ?_
      refine lv_aload_n (pc := 67) hx hb dX3_step_67 rfl (lv_at hl 0 rfl) ?_
      refine x_get (pc := 68) X hw in_X3_step_X3 0 rfl rfl 3 (by decide) (List.mem_of_getElem? (i := 4) rfl) rfl dX3_step_68 ?_
      obtain ⟨v11, hj, hf⟩ := b1_ob hf
      have J87_10 : ∀ (H : Heap) (locs : List Loc) (ls : Array Slot), WD D A s (wX3 cs a q S5 ++ wX6 cs (q 0) qT T) H locs → lv_has ls 1 [] → W p l e rmX3_step s m args below meth c H locs 0 0 Q (F0 m 87 ls [.int v11, .ref a]) := by
        intro H locs ls hw hl
        obtain ⟨S13, eS13, hf⟩ := bn_ob hf
        refine x_put (pc := 87) X hw in_X3_step_X3 tyX3 tyX3_ok nmX3 0 rfl rfl 2 (by decide) (List.mem_of_getElem? (i := 1) rfl) rfl rfl rfl (Nat.le_of_ble_eq_true rfl) dX3_step_87 (ws2 := wX3 cs a q S13 ++ wX6 cs (q 0) qT T) (by rw [eS13]; rfl) (fun H locs hw => ?_)
        cases hf
        exact J90_5 _ _ _ hw (lv_sub hl [] rfl)
      clear hf; have hf := hj; clear hj
      refine lv_if_ne (pc := 71) (tgt := 81) hx hb dX3_step_71 (by decide) (fun c12 => ?_) (fun c12 => ?_)
      · have hf := ineg c12 hf
        refine lv_aload_n (pc := 81) hx hb dX3_step_81 rfl (lv_at hl 0 rfl) ?_
        refine x_get (pc := 82) X hw in_X3_step_X3 0 rfl rfl 1 (by decide) (List.mem_of_getElem? (i := 2) rfl) rfl dX3_step_82 ?_
        refine lv_iconst (pc := 85) (v := 1) hx hb dX3_step_85 (by decide) ?_
        refine lv_iadd (pc := 86) hx hb dX3_step_86 ?_
        cases hf
        exact J87_10 _ _ _ hw (lv_sub hl [] rfl)
      · have hf := ipos c12 hf
        refine lv_aload_n (pc := 74) hx hb dX3_step_74 rfl (lv_at hl 0 rfl) ?_
        refine x_get (pc := 75) X hw in_X3_step_X3 0 rfl rfl 1 (by decide) (List.mem_of_getElem? (i := 2) rfl) rfl dX3_step_75 ?_
        refine lv_goto (pc := 78) (tgt := 87) hx hb dX3_step_78 (by decide) ?_
        cases hf
        exact J87_10 _ _ _ hw (lv_sub hl [] rfl)
    · have hf := ipos c10 hf
      refine lv_aload_n (pc := 47) hx hb dX3_step_47 rfl (lv_at hl 0 rfl) ?_
      refine lv_aload_n (pc := 48) hx hb dX3_step_48 rfl (lv_at hl 0 rfl) ?_
      refine lv_aload_n (pc := 49) hx hb dX3_step_49 rfl (lv_at hl 0 rfl) ?_
      refine x_get (pc := 50) X hw in_X3_step_X3 0 rfl rfl 1 (by decide) (List.mem_of_getElem? (i := 2) rfl) rfl dX3_step_50 ?_
      refine lv_aload_n (pc := 53) hx hb dX3_step_53 rfl (lv_at hl 0 rfl) ?_
      refine x_get (pc := 54) X hw in_X3_step_X3 0 rfl rfl 3 (by decide) (List.mem_of_getElem? (i := 4) rfl) rfl dX3_step_54 ?_
      obtain ⟨v14, hc, hf⟩ := b1_ob hf
      refine x_all (pc := 57) X hw (va_runV (As := [.int (S5.1 1), .int (S5.1 3)]) (rest := [.ref a]) ⟨hx, hb, hml, hown, hts⟩ (c_X3_behind l D cs a q qT S5 T (S5.1 1) (S5.1 3) v14 hc _) (cwV 2 hts gX3_step_X3_behind rfl rfl rfl (by decide +kernel) ⟨Nat.le_of_ble_eq_true rfl, Nat.le_of_ble_eq_true rfl⟩) ⟨CP_blind, va_recv hK hw.1 (ci := 3) (q0 := 0) rfl rfl, x_preA X hw [.ref a, .int (S5.1 1), .int (S5.1 3)]⟩ rfl rfl hl.1 rfl (lv_room (Nat.le_of_ble_eq_true rfl)) dX3_step_57 ⟨Nat.zero_le _, Nat.zero_le _⟩) (fun H locs hw => ?_)
      obtain ⟨S15, eS15, hf⟩ := bn_ob hf
      refine x_put (pc := 60) X hw in_X3_step_X3 tyX3 tyX3_ok nmX3 0 rfl rfl 2 (by decide) (List.mem_of_getElem? (i := 1) rfl) rfl rfl rfl (Nat.le_of_ble_eq_true rfl) dX3_step_60 (ws2 := wX3 cs a q S15 ++ wX6 cs (q 0) qT T) (by rw [eS15]; rfl) (fun H locs hw => ?_)
      refine lv_goto (pc := 63) (tgt := 90) hx hb dX3_step_63 (by decide) ?_
      cases hf
      exact J90_5 _ _ _ hw (lv_sub hl [] rfl)

theorem in_X3_number_X3 : ∀ w ∈ wsX30, w ∈ wsX3_number := fun _ h => List.mem_cons_of_mem _ (List.mem_append_left _ (List.mem_append_right _ h))
theorem in_X3_number_X6 : ∀ w ∈ wsX60, w ∈ wsX3_number := fun _ h => List.mem_cons_of_mem _ (List.mem_append_right _ h)
abbrev rmX3_number : Room := { frames := 1, cells := 0, slots := 0, locals := 21 }
def B_X3_number_7 (S : PS) (T : PS) (v2 : Int32) (v3 : Int32) : Option ((Int32 × Int32) ⊕ (Int32)) :=
  if (S.1 2) ≤ v3 then
    some (.inr v2)
  else
  b1 (f_X6_at T v3) fun v5 =>
  bn (((10 * v2) + v5) - 48) fun v6 =>
  bn (v3 + 1) fun v7 =>
  some (.inl (v6, v7))
def L_X3_number_7 (S : PS) (T : PS) (n : Nat) (v2 : Int32) (v3 : Int32) : Option (Int32) := loopF (fun x : Int32 × Int32 => B_X3_number_7 S T x.1 x.2) n (v2, v3)
def f_X3_number (S : PS) (T : PS) : Option (Int32) :=
  bn (S.1 1) fun v1 =>
  b1 (L_X3_number_7 S T FU 0 v1) fun v8 =>
  some v8
set_option maxHeartbeats 4000000 in
set_option maxRecDepth 100000 in
theorem c_X3_number (l : Launch) (D : va_G) (cs : CS) (a : Nat) (q : Nat → Nat) (qT : Nat → Nat) (S : PS) (T : PS) (r : Int32) (hf : f_X3_number S T = some r) : CT l D (TY cs) yX3_number wsX3_number rmX3_number [.ref a] (wX3 cs a q S ++ wX6 cs (q 0) qT T) (some (.int r)) (wX3 cs a q S ++ wX6 cs (q 0) qT T) := by
  refine CT.ofW (own := RX3) (cc := cX3_number) (maxL := 3) (ret := some .int) (by decide) rfl rfl (Nat.le_of_ble_eq_true rfl) ?_
  intro p e s m args below meth c A Q X hret ls hl hw
  obtain ⟨hx, hb, hml, hown, hts, hK, hA, hr, hlk⟩ := id X
  have hl : lv_has ls 3 [(0, .ref a)] := hl
  unfold f_X3_number at hf
  refine lv_iconst (pc := 0) (v := 0) hx hb dX3_number_0 (by decide) ?_
  refine lv_istore_n (lv' := [(1, .int 0), (0, .ref a)]) (pc := 1) hx hb dX3_number_1 rfl hl (by decide) rfl (fun ls hl => ?_)
  refine lv_aload_n (pc := 2) hx hb dX3_number_2 rfl (lv_at hl 1 rfl) ?_
  refine x_get (pc := 3) X hw in_X3_number_X3 0 rfl rfl 1 (by decide) (List.mem_of_getElem? (i := 1) rfl) rfl dX3_number_3 ?_
  obtain ⟨v1, ev1, hf⟩ := bn_ob hf
  refine x_topi ev1 ?_
  refine lv_istore_n (lv' := [(2, .int v1), (1, .int 0), (0, .ref a)]) (pc := 6) hx hb dX3_number_6 rfl hl (by decide) rfl (fun ls hl => ?_)
  have L7 : ∀ (n : Nat) (v2 : Int32) (v3 : Int32) (rv2 : Int32), L_X3_number_7 S T n v2 v3 = some rv2 → ∀ (H : Heap) (locs : List Loc) (ls : Array Slot), WD D A s (wX3 cs a q S ++ wX6 cs (q 0) qT T) H locs → lv_has ls 3 [(0, .ref a), (1, .int v2), (2, .int v3)] → (∀ (H : Heap) (locs : List Loc) (ls : Array Slot), WD D A s (wX3 cs a q S ++ wX6 cs (q 0) qT T) H locs → lv_has ls 3 [(1, .int rv2)] → W p l e rmX3_number s m args below meth c H locs 0 0 Q (F0 m 38 ls [])) → W p l e rmX3_number s m args below meth c H locs 0 0 Q (F0 m 7 ls []) := by
    intro n
    induction n with
    | zero => intro v2 v3 rv2 hf; exact (loopF_z hf).elim
    | succ n ih =>
      intro v2 v3 rv2 hf H locs ls hw hl K
      obtain ⟨x, hf, hx0⟩ := loopF_ob hf
      have hf : B_X3_number_7 S T v2 v3 = some x := hf
      unfold B_X3_number_7 at hf
      refine lv_iload_n (pc := 7) hx hb dX3_number_7 rfl (lv_at hl 2 rfl) ?_
      refine lv_aload_n (pc := 8) hx hb dX3_number_8 rfl (lv_at hl 0 rfl) ?_
      refine x_get (pc := 9) X hw in_X3_number_X3 0 rfl rfl 2 (by decide) (List.mem_of_getElem? (i := 2) rfl) rfl dX3_number_9 ?_
      refine lv_icmp_ge (pc := 12) (tgt := 38) hx hb dX3_number_12 (by decide) (fun c4 => ?_) (fun c4 => ?_)
      · have hf := ipos c4 hf
        cases hf
        cases (hx0 : v2 = rv2)
        exact K _ _ _ hw (lv_sub hl [1] rfl)
      · have hf := ineg c4 hf
        refine lv_bipush (pc := 15) (v := 10) hx hb dX3_number_15 (by decide) ?_
        refine lv_iload_n (pc := 17) hx hb dX3_number_17 rfl (lv_at hl 1 rfl) ?_
        refine lv_imul (pc := 18) hx hb dX3_number_18 ?_
        refine lv_aload_n (pc := 19) hx hb dX3_number_19 rfl (lv_at hl 0 rfl) ?_
        refine x_get (pc := 20) X hw in_X3_number_X3 0 rfl rfl 0 (by decide) (List.mem_of_getElem? (i := 3) rfl) rfl dX3_number_20 ?_
        refine lv_iload_n (pc := 23) hx hb dX3_number_23 rfl (lv_at hl 2 rfl) ?_
        obtain ⟨v5, hc, hf⟩ := b1_ob hf
        refine x_cut (pc := 24) (wr := ([0].filterMap (fun i => (wX3 cs a q S ++ wX6 cs (q 0) qT T)[i]?))) (ws2 := wX3 cs a q S ++ wX6 cs (q 0) qT T) X hw [1, 2] [0] [0, 1, 2] rfl rfl (by decide) (by decide) rfl (by decide) (va_runV (As := [.int v3]) (rest := [.int (10 * v2)]) ⟨hx, hb, hml, hown, hts⟩ (c_X6_at l D cs (q 0) qT T v3 v5 hc _) (cwV 1 hts gX3_number_X6_at rfl rfl rfl (by decide +kernel) ⟨Nat.le_of_ble_eq_true rfl, Nat.le_of_ble_eq_true rfl⟩) ⟨CP_blind, va_recv hK hw.1 (ci := 6) (q0 := 1) rfl rfl, x_preC X hw [1, 2] rfl (by decide) [.ref (q 0), .int v3]⟩ rfl rfl hl.1 rfl (lv_room (Nat.le_of_ble_eq_true rfl)) dX3_number_24 ⟨Nat.zero_le _, Nat.zero_le _⟩) (fun H locs hw => ?_)
        refine lv_iadd (pc := 27) hx hb dX3_number_27 ?_
        refine lv_bipush (pc := 28) (v := 48) hx hb dX3_number_28 (by decide) ?_
        refine lv_isub (pc := 30) hx hb dX3_number_30 ?_
        obtain ⟨v6, ev6, hf⟩ := bn_ob hf
        refine x_topi ev6 ?_
        refine lv_istore_n (lv' := [(1, .int v6), (0, .ref a), (2, .int v3)]) (pc := 31) hx hb dX3_number_31 rfl hl (by decide) rfl (fun ls hl => ?_)
        obtain ⟨v7, ev7, hf⟩ := bn_ob hf
        refine lv_iinc (pc := 32) (v := v7) (lv' := [(2, .int v7), (1, .int v6), (0, .ref a)]) hx hb dX3_number_32 hl (k := 2) rfl (by rw [ev7]; rfl) (by decide) rfl (fun ls hl => ?_)
        refine lv_goto (pc := 35) (tgt := 7) hx hb dX3_number_35 (by decide) ?_
        cases hf
        exact ih v6 v7 rv2 hx0 _ _ _ hw (lv_sub hl [2, 1, 0] rfl) K
  obtain ⟨v8, hj, hf⟩ := b1_ob hf
  refine L7 _ 0 v1 v8 hj _ _ _ hw (lv_sub hl [2, 1, 0] rfl) (fun H locs ls hw hl => ?_)
  clear hj L7
  refine lv_iload_n (pc := 38) hx hb dX3_number_38 rfl (lv_at hl 0 rfl) ?_
  cases hf
  exact hret _ _ 39 _ hw ⟨_, rfl, rfl⟩ dX3_number_39

theorem in_X3_isNumberWithin_X3 : ∀ w ∈ wsX30, w ∈ wsX3_isNumberWithin := fun _ h => List.mem_cons_of_mem _ (List.mem_append_left _ (List.mem_append_right _ h))
theorem in_X3_isNumberWithin_X6 : ∀ w ∈ wsX60, w ∈ wsX3_isNumberWithin := fun _ h => List.mem_cons_of_mem _ (List.mem_append_right _ h)
abbrev rmX3_isNumberWithin : Room := { frames := 2, cells := 0, slots := 0, locals := 43 }
def f_X3_isNumberWithin (S : PS) (T : PS) (p1 : Int32) (p2 : Int32) : Option (Int32) :=
  if (S.1 3) = 2 then
    if ((S.1 2) - (S.1 1)) ≤ 2 then
      b1 (f_X3_number S T) fun v3 =>
      b1 (
        if v3 < p1 then
          some (0 : Int32)
        else
        if p2 < v3 then
          some (0 : Int32)
        else
        some (1 : Int32)) fun v4 =>
      b1 (ckB v4) fun v7 =>
      some v7
    else
    some 0
  else
  some 0
set_option maxHeartbeats 4000000 in
set_option maxRecDepth 100000 in
theorem c_X3_isNumberWithin (l : Launch) (D : va_G) (cs : CS) (a : Nat) (q : Nat → Nat) (qT : Nat → Nat) (S : PS) (T : PS) (p1 : Int32) (p2 : Int32) (r : Int32) (hf : f_X3_isNumberWithin S T p1 p2 = some r) : CT l D (TY cs) yX3_isNumberWithin wsX3_isNumberWithin rmX3_isNumberWithin [.ref a, .int p1, .int p2] (wX3 cs a q S ++ wX6 cs (q 0) qT T) (some (.int r)) (wX3 cs a q S ++ wX6 cs (q 0) qT T) := by
  refine CT.ofW (own := RX3) (cc := cX3_isNumberWithin) (maxL := 4) (ret := some .boolean) (by decide) rfl rfl (Nat.le_of_ble_eq_true rfl) ?_
  intro p e s m args below meth c A Q X hret ls hl hw
  obtain ⟨hx, hb, hml, hown, hts, hK, hA, hr, hlk⟩ := id X
  have hl : lv_has ls 4 [(0, .ref a), (1, .int p1), (2, .int p2)] := hl
  unfold f_X3_isNumberWithin at hf
  refine lv_aload_n (pc := 0) hx hb dX3_isNumberWithin_0 rfl (lv_at hl 0 rfl) ?_
  refine x_get (pc := 1) X hw in_X3_isNumberWithin_X3 0 rfl rfl 3 (by decide) (List.mem_of_getElem? (i := 1) rfl) rfl dX3_isNumberWithin_1 ?_
  refine lv_iconst (pc := 4) (v := 2) hx hb dX3_isNumberWithin_4 (by decide) ?_
  refine lv_icmp_ne (pc := 5) (tgt := 21) hx hb dX3_isNumberWithin_5 (by decide) (fun c1 => ?_) (fun c1 => ?_)
  · have hf := ineg c1 hf
    refine lv_iconst (pc := 21) (v := 0) hx hb dX3_isNumberWithin_21 (by decide) ?_
    cases hf
    exact hret _ _ 22 _ hw ⟨_, rfl, by decide⟩ dX3_isNumberWithin_22
  · have hf := ipos c1 hf
    refine lv_aload_n (pc := 8) hx hb dX3_isNumberWithin_8 rfl (lv_at hl 0 rfl) ?_
    refine x_get (pc := 9) X hw in_X3_isNumberWithin_X3 0 rfl rfl 2 (by decide) (List.mem_of_getElem? (i := 2) rfl) rfl dX3_isNumberWithin_9 ?_
    refine lv_aload_n (pc := 12) hx hb dX3_isNumberWithin_12 rfl (lv_at hl 0 rfl) ?_
    refine x_get (pc := 13) X hw in_X3_isNumberWithin_X3 0 rfl rfl 1 (by decide) (List.mem_of_getElem? (i := 3) rfl) rfl dX3_isNumberWithin_13 ?_
    refine lv_isub (pc := 16) hx hb dX3_isNumberWithin_16 ?_
    refine lv_iconst (pc := 17) (v := 2) hx hb dX3_isNumberWithin_17 (by decide) ?_
    refine lv_icmp_le (pc := 18) (tgt := 23) hx hb dX3_isNumberWithin_18 (by decide) (fun c2 => ?_) (fun c2 => ?_)
    · have hf := ipos c2 hf
      refine lv_aload_n (pc := 23) hx hb dX3_isNumberWithin_23 rfl (lv_at hl 0 rfl) ?_
      obtain ⟨v3, hc, hf⟩ := b1_ob hf
      refine x_all (pc := 24) X hw (va_runV (As := []) (rest := []) ⟨hx, hb, hml, hown, hts⟩ (c_X3_number l D cs a q qT S T v3 hc _) (cwV 0 hts gX3_isNumberWithin_X3_number rfl rfl rfl (by decide +kernel) ⟨Nat.le_of_ble_eq_true rfl, Nat.le_of_ble_eq_true rfl⟩) ⟨CP_blind, va_recv hK hw.1 (ci := 3) (q0 := 0) rfl rfl, x_preA X hw [.ref a]⟩ rfl rfl hl.1 rfl (lv_room (Nat.le_of_ble_eq_true rfl)) dX3_isNumberWithin_24 ⟨Nat.zero_le _, Nat.zero_le _⟩) (fun H locs hw => ?_)
      refine lv_istore_n (lv' := [(3, .int v3), (0, .ref a), (1, .int p1), (2, .int p2)]) (pc := 27) hx hb dX3_isNumberWithin_27 rfl hl (by decide) rfl (fun ls hl => ?_)
      refine lv_iload_n (pc := 28) hx hb dX3_isNumberWithin_28 rfl (lv_at hl 0 rfl) ?_
      refine lv_iload_n (pc := 29) hx hb dX3_isNumberWithin_29 rfl (lv_at hl 2 rfl) ?_
      obtain ⟨v4, hj, hf⟩ := b1_ob hf
      have J43_3 : ∀ (H : Heap) (locs : List Loc) (ls : Array Slot), WD D A s (wX3 cs a q S ++ wX6 cs (q 0) qT T) H locs → lv_has ls 4 [] → W p l e rmX3_isNumberWithin s m args below meth c H locs 0 0 Q (F0 m 43 ls [.int v4]) := by
        intro H locs ls hw hl
        obtain ⟨v7, ev7, hf⟩ := b1_ob hf
        refine x_topi (ckB_ob ev7).1.symm ?_
        cases hf
        exact hret _ _ 43 _ hw ⟨_, rfl, ckB_nar (ckB_ob ev7).2⟩ dX3_isNumberWithin_43
      clear hf; have hf := hj; clear hj
      refine lv_icmp_lt (pc := 30) (tgt := 42) hx hb dX3_isNumberWithin_30 (by decide) (fun c5 => ?_) (fun c5 => ?_)
      · have hf := ipos c5 hf
        refine lv_iconst (pc := 42) (v := 0) hx hb dX3_isNumberWithin_42 (by decide) ?_
        cases hf
        exact J43_3 _ _ _ hw (lv_sub hl [] rfl)
      · have hf := ineg c5 hf
        refine lv_iload_n (pc := 33) hx hb dX3_isNumberWithin_33 rfl (lv_at hl 0 rfl) ?_
        refine lv_iload_n (pc := 34) hx hb dX3_isNumberWithin_34 rfl (lv_at hl 3 rfl) ?_
        refine lv_icmp_gt (pc := 35) (tgt := 42) hx hb dX3_isNumberWithin_35 (by decide) (fun c6 => ?_) (fun c6 => ?_)
        · have hf := ipos c6 hf
          refine lv_iconst (pc := 42) (v := 0) hx hb dX3_isNumberWithin_42 (by decide) ?_
          cases hf
          exact J43_3 _ _ _ hw (lv_sub hl [] rfl)
        · have hf := ineg c6 hf
          refine lv_iconst (pc := 38) (v := 1) hx hb dX3_isNumberWithin_38 (by decide) ?_
          refine lv_goto (pc := 39) (tgt := 43) hx hb dX3_isNumberWithin_39 (by decide) ?_
          cases hf
          exact J43_3 _ _ _ hw (lv_sub hl [] rfl)
    · have hf := ineg c2 hf
      refine lv_iconst (pc := 21) (v := 0) hx hb dX3_isNumberWithin_21 (by decide) ?_
      cases hf
      exact hret _ _ 22 _ hw ⟨_, rfl, by decide⟩ dX3_isNumberWithin_22
