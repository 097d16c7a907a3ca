theorem in_X0_add_X0 : ∀ w ∈ wsX00, w ∈ wsX0_add := fun _ h => List.mem_cons_of_mem _ (List.mem_append_right _ h)
abbrev rmX0_add : Room := { frames := 0, cells := 0, slots := 0, locals := 0 }
def f_X0_add (S : PS) (p1 : Int32) : Option (Int32 × PS) :=
  if (S.1 1) < 32 then
    b1 (wA 32 S 0 (S.1 1) p1) fun S2 =>
    bn (sI S2 1 ((S2.1 1) + 1)) fun S3 =>
    some ((S3.1 1), S3)
  else
  some ((-5), S)
set_option maxHeartbeats 4000000 in
set_option maxRecDepth 100000 in
theorem c_X0_add (l : Launch) (D : va_G) (cs : CS) (a : Nat) (q : Nat → Nat) (S : PS) (p1 : Int32) (r : Int32) (S' : PS) (hf : f_X0_add S p1 = some (r, S')) : CT l D (TY cs) yX0_add wsX0_add rmX0_add [.ref a, .int p1] (wX0 cs a q S) (some (.int r)) (wX0 cs a q S') := by
  refine CT.ofW (own := RX0) (cc := cX0_add) (maxL := 2) (ret := some .int) (by decide) rfl rfl (Nat.le_of_ble_eq_true rfl) ?_
  intro p e s m args below meth c A Q X hret ls hl hw
  obtain ⟨hx, hb, hml, hown, hts, hK, hA, hr, hlk⟩ := id X
  have hl : lv_has ls 2 [(0, .ref a), (1, .int p1)] := hl
  unfold f_X0_add at hf
  refine lv_aload_n (pc := 0) hx hb dX0_add_0 rfl (lv_at hl 0 rfl) ?_
  refine x_get (pc := 1) X hw in_X0_add_X0 0 rfl rfl 1 (by decide) (List.mem_of_getElem? (i := 1) rfl) rfl dX0_add_1 ?_
  refine lv_bipush (pc := 4) (v := 32) hx hb dX0_add_4 (by decide) ?_
  refine lv_icmp_lt (pc := 6) (tgt := 12) hx hb dX0_add_6 (by decide) (fun c1 => ?_) (fun c1 => ?_)
  · have hf := ipos c1 hf
    refine lv_aload_n (pc := 12) hx hb dX0_add_12 rfl (lv_at hl 0 rfl) ?_
    refine x_get (pc := 13) X hw in_X0_add_X0 0 rfl rfl 0 (by decide) (List.mem_of_getElem? (i := 2) rfl) rfl dX0_add_13 ?_
    refine lv_aload_n (pc := 16) hx hb dX0_add_16 rfl (lv_at hl 0 rfl) ?_
    refine x_get (pc := 17) X hw in_X0_add_X0 0 rfl rfl 1 (by decide) (List.mem_of_getElem? (i := 1) rfl) rfl dX0_add_17 ?_
    refine lv_iload_n (pc := 20) hx hb dX0_add_20 rfl (lv_at hl 1 rfl) ?_
    obtain ⟨S2, eS2, hf⟩ := b1_ob hf
    refine x_iast (pc := 21) X hw 1 0 rfl rfl (wA_ob eS2).1 dX0_add_21 (ws2 := wX0 cs a q S2) (by rw [(wA_ob eS2).2]; rfl) (fun H locs hw => ?_)
    refine lv_aload_n (pc := 22) hx hb dX0_add_22 rfl (lv_at hl 0 rfl) ?_
    refine lv_dup (pc := 23) hx hb dX0_add_23 rfl ?_
    refine x_get (pc := 24) X hw in_X0_add_X0 0 rfl rfl 1 (by decide) (List.mem_of_getElem? (i := 1) rfl) rfl dX0_add_24 ?_
    refine lv_iconst (pc := 27) (v := 1) hx hb dX0_add_27 (by decide) ?_
    refine lv_iadd (pc := 28) hx hb dX0_add_28 ?_
    obtain ⟨S3, eS3, hf⟩ := bn_ob hf
    refine x_put (pc := 29) X hw in_X0_add_X0 tyX0 tyX0_ok nmX0 0 rfl rfl 1 (by decide) (List.mem_of_getElem? (i := 1) rfl) rfl rfl rfl (Nat.le_of_ble_eq_true rfl) dX0_add_29 (ws2 := wX0 cs a q S3) (by rw [eS3]; rfl) (fun H locs hw => ?_)
    refine lv_aload_n (pc := 32) hx hb dX0_add_32 rfl (lv_at hl 0 rfl) ?_
    refine x_get (pc := 33) X hw in_X0_add_X0 0 rfl rfl 1 (by decide) (List.mem_of_getElem? (i := 1) rfl) rfl dX0_add_33 ?_
    cases hf
    exact hret _ _ 36 _ hw ⟨_, rfl, rfl⟩ dX0_add_36
  · have hf := ineg c1 hf
    refine lv_bipush (pc := 9) (v := (-5)) hx hb dX0_add_9 (by decide) ?_
    cases hf
    exact hret _ _ 11 _ hw ⟨_, rfl, rfl⟩ dX0_add_11

abbrev rmX0_sidesOf : Room := { frames := 1, cells := 0, slots := 0, locals := 20 }
def B_X0_sidesOf_5 (p1 : Int32) (p2 : Int32) (p3 : Int32) (v1 : Int32) (v2 : Int32) : Option ((Int32 × Int32) ⊕ (Int32)) :=
  if p2 ≤ v2 then
    some (.inr v1)
  else
  b1 (
    if p3 = 0 then
      some (v2 + 1)
    else
    some ((2 * (v2 + 1)) + 1)) fun v4 =>
  b1 (f_J6_bitCount_0f7a4 (p1 &&& v4)) fun v6 =>
  bn (v1 ||| ((v6 &&& 1) <<< (v2 &&& 31))) fun v7 =>
  bn (v2 + 1) fun v8 =>
  some (.inl (v7, v8))
def L_X0_sidesOf_5 (p1 : Int32) (p2 : Int32) (p3 : Int32) (n : Nat) (v1 : Int32) (v2 : Int32) : Option (Int32) := loopF (fun x : Int32 × Int32 => B_X0_sidesOf_5 p1 p2 p3 x.1 x.2) n (v1, v2)
def f_X0_sidesOf (p1 : Int32) (p2 : Int32) (p3 : Int32) : Option (Int32) :=
  b1 (L_X0_sidesOf_5 p1 p2 p3 FU 0 0) fun v9 =>
  some v9
set_option maxHeartbeats 4000000 in
set_option maxRecDepth 100000 in
theorem c_X0_sidesOf (l : Launch) (D : va_G) (cs : CS) (p1 : Int32) (p2 : Int32) (p3 : Int32) (r : Int32) (hf : f_X0_sidesOf p1 p2 p3 = some r) : CT l D (TY cs) yX0_sidesOf wsX0_sidesOf rmX0_sidesOf [.int p1, .int p2, .int p3] ([]) (some (.int r)) ([]) := by
  refine CT.ofW (own := RX0) (cc := cX0_sidesOf) (maxL := 6) (ret := some .int) (by decide) rfl rfl (Nat.le_of_ble_eq_true rfl) ?_
  intro p e s m args below meth c A Q X hret ls hl hw
  obtain ⟨hx, hb, hml, hown, hts, hK, hA, hr, hlk⟩ := id X
  have hl : lv_has ls 6 [(0, .int p1), (1, .int p2), (2, .int p3)] := hl
  unfold f_X0_sidesOf at hf
  refine lv_iconst (pc := 0) (v := 0) hx hb dX0_sidesOf_0 (by decide) ?_
  refine lv_istore_n (lv' := [(3, .int 0), (0, .int p1), (1, .int p2), (2, .int p3)]) (pc := 1) hx hb dX0_sidesOf_1 rfl hl (by decide) rfl (fun ls hl => ?_)
  refine lv_iconst (pc := 2) (v := 0) hx hb dX0_sidesOf_2 (by decide) ?_
  refine lv_istore (lv' := [(4, .int 0), (3, .int 0), (0, .int p1), (1, .int p2), (2, .int p3)]) (pc := 3) hx hb dX0_sidesOf_3 hl (by decide) rfl (fun ls hl => ?_)
  have L5 : ∀ (n : Nat) (v1 : Int32) (v2 : Int32) (rv1 : Int32), L_X0_sidesOf_5 p1 p2 p3 n v1 v2 = some rv1 → ∀ (H : Heap) (locs : List Loc) (ls : Array Slot), WD D A s ([]) H locs → lv_has ls 6 [(0, .int p1), (1, .int p2), (2, .int p3), (3, .int v1), (4, .int v2)] → (∀ (H : Heap) (locs : List Loc) (ls : Array Slot), WD D A s ([]) H locs → lv_has ls 6 [(3, .int rv1)] → W p l e rmX0_sidesOf s m args below meth c H locs 0 0 Q (F0 m 53 ls [])) → W p l e rmX0_sidesOf s m args below meth c H locs 0 0 Q (F0 m 5 ls []) := by
    intro n
    induction n with
    | zero => intro v1 v2 rv1 hf; exact (loopF_z hf).elim
    | succ n ih =>
      intro v1 v2 rv1 hf H locs ls hw hl K
      obtain ⟨x, hf, hx0⟩ := loopF_ob hf
      have hf : B_X0_sidesOf_5 p1 p2 p3 v1 v2 = some x := hf
      unfold B_X0_sidesOf_5 at hf
      refine lv_iload (pc := 5) hx hb dX0_sidesOf_5 (lv_at hl 4 rfl) ?_
      refine lv_iload_n (pc := 7) hx hb dX0_sidesOf_7 rfl (lv_at hl 1 rfl) ?_
      refine lv_icmp_ge (pc := 8) (tgt := 53) hx hb dX0_sidesOf_8 (by decide) (fun c3 => ?_) (fun c3 => ?_)
      · have hf := ipos c3 hf
        cases hf
        cases (hx0 : v1 = rv1)
        exact K _ _ _ hw (lv_sub hl [3] rfl)
      · have hf := ineg c3 hf
        refine lv_iload_n (pc := 11) hx hb dX0_sidesOf_11 rfl (lv_at hl 2 rfl) ?_
        obtain ⟨v4, hj, hf⟩ := b1_ob hf
        have J30_3 : ∀ (H : Heap) (locs : List Loc) (ls : Array Slot), WD D A s ([]) H locs → lv_has ls 6 [(0, .int p1), (1, .int p2), (2, .int p3), (3, .int v1), (4, .int v2)] → W p l e rmX0_sidesOf s m args below meth c H locs 0 0 Q (F0 m 30 ls [.int v4]) := by
          intro H locs ls hw hl
          refine lv_istore (lv' := [(5, .int v4), (0, .int p1), (1, .int p2), (2, .int p3), (3, .int v1), (4, .int v2)]) (pc := 30) hx hb dX0_sidesOf_30 hl (by decide) rfl (fun ls hl => ?_)
          refine lv_iload_n (pc := 32) hx hb dX0_sidesOf_32 rfl (lv_at hl 4 rfl) ?_
          refine lv_iload_n (pc := 33) hx hb dX0_sidesOf_33 rfl (lv_at hl 1 rfl) ?_
          refine lv_iload (pc := 34) hx hb dX0_sidesOf_34 (lv_at hl 0 rfl) ?_
          refine lv_iand (pc := 36) hx hb dX0_sidesOf_36 ?_
          obtain ⟨v6, hc, hf⟩ := b1_ob hf
          refine x_nil (pc := 37) X hw (va_runS (As := [.int (p1 &&& v4)]) (rest := [.int v1]) ⟨hx, hb, hml, hown, hts⟩ (c_J6_bitCount_0f7a4 l D cs (p1 &&& v4) v6 hc _) (va_cwS 1 hts gX0_sidesOf_J6_bitCount_0f7a4 rfl rfl rfl (by decide +kernel) ⟨Nat.le_of_ble_eq_true rfl, Nat.le_of_ble_eq_true rfl⟩) ⟨CP_blind, x_preN X [.int (p1 &&& v4)]⟩ rfl rfl hl.1 rfl (lv_room (Nat.le_of_ble_eq_true rfl)) dX0_sidesOf_37 ⟨Nat.zero_le _, Nat.zero_le _⟩) (fun H locs hw => ?_)
          refine lv_iconst (pc := 40) (v := 1) hx hb dX0_sidesOf_40 (by decide) ?_
          refine lv_iand (pc := 41) hx hb dX0_sidesOf_41 ?_
          refine lv_iload (pc := 42) hx hb dX0_sidesOf_42 (lv_at hl 5 rfl) ?_
          refine lv_ishl (pc := 44) hx hb dX0_sidesOf_44 ?_
          refine lv_ior (pc := 45) hx hb dX0_sidesOf_45 ?_
          obtain ⟨v7, ev7, hf⟩ := bn_ob hf
          refine x_topi ev7 ?_
          refine lv_istore_n (lv' := [(3, .int v7), (5, .int v4), (0, .int p1), (1, .int p2), (2, .int p3), (4, .int v2)]) (pc := 46) hx hb dX0_sidesOf_46 rfl hl (by decide) rfl (fun ls hl => ?_)
          obtain ⟨v8, ev8, hf⟩ := bn_ob hf
          refine lv_iinc (pc := 47) (v := v8) (lv' := [(4, .int v8), (3, .int v7), (5, .int v4), (0, .int p1), (1, .int p2), (2, .int p3)]) hx hb dX0_sidesOf_47 hl (k := 5) rfl (by rw [ev8]; rfl) (by decide) rfl (fun ls hl => ?_)
          refine lv_goto (pc := 50) (tgt := 5) hx hb dX0_sidesOf_50 (by decide) ?_
          cases hf
          exact ih v7 v8 rv1 hx0 _ _ _ hw (lv_sub hl [3, 4, 5, 1, 0] rfl) K
        clear hf; have hf := hj; clear hj
        refine lv_if_eq (pc := 12) (tgt := 26) hx hb dX0_sidesOf_12 (by decide) (fun c5 => ?_) (fun c5 => ?_)
        · have hf := ipos c5 hf
          refine lv_iload (pc := 26) hx hb dX0_sidesOf_26 (lv_at hl 4 rfl) ?_
          refine lv_iconst (pc := 28) (v := 1) hx hb dX0_sidesOf_28 (by decide) ?_
          refine lv_iadd (pc := 29) hx hb dX0_sidesOf_29 ?_
          cases hf
          exact J30_3 _ _ _ hw (lv_sub hl [0, 1, 2, 3, 4] rfl)
        · have hf := ineg c5 hf
          refine lv_iconst (pc := 15) (v := 2) hx hb dX0_sidesOf_15 (by decide) ?_
          refine lv_iload (pc := 16) hx hb dX0_sidesOf_16 (lv_at hl 4 rfl) ?_
          refine lv_iconst (pc := 18) (v := 1) hx hb dX0_sidesOf_18 (by decide) ?_
          refine lv_iadd (pc := 19) hx hb dX0_sidesOf_19 ?_
          refine lv_imul (pc := 20) hx hb dX0_sidesOf_20 ?_
          refine lv_iconst (pc := 21) (v := 1) hx hb dX0_sidesOf_21 (by decide) ?_
          refine lv_iadd (pc := 22) hx hb dX0_sidesOf_22 ?_
          refine lv_goto (pc := 23) (tgt := 30) hx hb dX0_sidesOf_23 (by decide) ?_
          cases hf
          exact J30_3 _ _ _ hw (lv_sub hl [0, 1, 2, 3, 4] rfl)
  obtain ⟨v9, hj, hf⟩ := b1_ob hf
  refine L5 _ 0 0 v9 hj _ _ _ hw (lv_sub hl [2, 3, 4, 1, 0] rfl) (fun H locs ls hw hl => ?_)
  clear hj L5
  refine lv_iload_n (pc := 53) hx hb dX0_sidesOf_53 rfl (lv_at hl 0 rfl) ?_
  cases hf
  exact hret _ _ 54 _ hw ⟨_, rfl, rfl⟩ dX0_sidesOf_54

theorem in_X0_make_X0 : ∀ w ∈ wsX00, w ∈ wsX0_make := fun _ h => List.mem_cons_of_mem _ (List.mem_append_right _ h)
abbrev rmX0_make : Room := { frames := 2, cells := 0, slots := 0, locals := 45 }
def B_X0_make_5 (p1 : Int32) (v1 : Int32) (v2 : Int32) : Option ((Int32 × Int32) ⊕ (Int32)) :=
  if 4 ≤ v2 then
    some (.inr v1)
  else
  if p1 < v1 then
    some (.inr v1)
  else
  bn (v1 * 2) fun v5 =>
  bn (v2 + 1) fun v6 =>
  some (.inl (v5, v6))
def L_X0_make_5 (p1 : Int32) (n : Nat) (v1 : Int32) (v2 : Int32) : Option (Int32) := loopF (fun x : Int32 × Int32 => B_X0_make_5 p1 x.1 x.2) n (v1, v2)
def B_X0_make_42 (p1 : Int32) (p2 : Int32) (v8 : Int32) (v12 : Int32) (S13 : PS) : Option ((Int32 × PS) ⊕ (PS)) :=
  if v8 ≤ v12 then
    some (.inr S13)
  else
  b1 (f_X0_sidesOf v12 p1 p2) fun v15 =>
  b2 (f_X0_add S13 v15) fun v16 S17 =>
  bn (v12 + 1) fun v18 =>
  some (.inl (v18, S17))
def L_X0_make_42 (p1 : Int32) (p2 : Int32) (v8 : Int32) (n : Nat) (v12 : Int32) (S13 : PS) : Option (PS) := loopF (fun x : Int32 × PS => B_X0_make_42 p1 p2 v8 x.1 x.2) n (v12, S13)
def f_X0_make (S : PS) (p1 : Int32) (p2 : Int32) : Option (PS) :=
  b1 (L_X0_make_5 p1 FU 1 0) fun v7 =>
  b1 (
    if p2 = 0 then
      some v7
    else
    bn (v7 * 2) fun v10 =>
    some v10) fun v8 =>
  bn (sI S 1 0) fun S11 =>
  b1 (L_X0_make_42 p1 p2 v8 FU 0 S11) fun S19 =>
  some S19
set_option maxHeartbeats 4000000 in
set_option maxRecDepth 100000 in
theorem c_X0_make (l : Launch) (D : va_G) (cs : CS) (a : Nat) (q : Nat → Nat) (S : PS) (p1 : Int32) (p2 : Int32) (S' : PS) (hf : f_X0_make S p1 p2 = some S') : CT l D (TY cs) yX0_make wsX0_make rmX0_make [.ref a, .int p1, .int p2] (wX0 cs a q S) none (wX0 cs a q S') := by
  refine CT.ofW (own := RX0) (cc := cX0_make) (maxL := 5) (ret := none) (by decide) rfl rfl (Nat.le_of_ble_eq_true rfl) ?_
  intro p e s m args below meth c A Q X hret ls hl hw
  obtain ⟨hx, hb, hml, hown, hts, hK, hA, hr, hlk⟩ := id X
  have hl : lv_has ls 5 [(0, .ref a), (1, .int p1), (2, .int p2)] := hl
  unfold f_X0_make at hf
  refine lv_iconst (pc := 0) (v := 1) hx hb dX0_make_0 (by decide) ?_
  refine lv_istore_n (lv' := [(3, .int 1), (0, .ref a), (1, .int p1), (2, .int p2)]) (pc := 1) hx hb dX0_make_1 rfl hl (by decide) rfl (fun ls hl => ?_)
  refine lv_iconst (pc := 2) (v := 0) hx hb dX0_make_2 (by decide) ?_
  refine lv_istore (lv' := [(4, .int 0), (3, .int 1), (0, .ref a), (1, .int p1), (2, .int p2)]) (pc := 3) hx hb dX0_make_3 hl (by decide) rfl (fun ls hl => ?_)
  have L5 : ∀ (n : Nat) (v1 : Int32) (v2 : Int32) (rv1 : Int32), L_X0_make_5 p1 n v1 v2 = some rv1 → ∀ (H : Heap) (locs : List Loc) (ls : Array Slot), WD D A s (wX0 cs a q S) H locs → lv_has ls 5 [(0, .ref a), (1, .int p1), (2, .int p2), (3, .int v1), (4, .int v2)] → (∀ (H : Heap) (locs : List Loc) (ls : Array Slot), WD D A s (wX0 cs a q S) H locs → lv_has ls 5 [(0, .ref a), (1, .int p1), (2, .int p2), (3, .int rv1)] → W p l e rmX0_make s m args below meth c H locs 0 0 Q (F0 m 26 ls [])) → W p l e rmX0_make s m args below meth c H locs 0 0 Q (F0 m 5 ls []) := by
    intro n
    induction n with
    | zero => intro v1 v2 rv1 hf; exact (loopF_z hf).elim
    | succ n ih =>
      intro v1 v2 rv1 hf H locs ls hw hl K
      obtain ⟨x, hf, hx0⟩ := loopF_ob hf
      have hf : B_X0_make_5 p1 v1 v2 = some x := hf
      unfold B_X0_make_5 at hf
      refine lv_iload (pc := 5) hx hb dX0_make_5 (lv_at hl 4 rfl) ?_
      refine lv_iconst (pc := 7) (v := 4) hx hb dX0_make_7 (by decide) ?_
      refine lv_icmp_ge (pc := 8) (tgt := 26) hx hb dX0_make_8 (by decide) (fun c3 => ?_) (fun c3 => ?_)
      · have hf := ipos c3 hf
        cases hf
        cases (hx0 : v1 = rv1)
        exact K _ _ _ hw (lv_sub hl [0, 1, 2, 3] rfl)
      · have hf := ineg c3 hf
        refine lv_iload_n (pc := 11) hx hb dX0_make_11 rfl (lv_at hl 3 rfl) ?_
        refine lv_iload_n (pc := 12) hx hb dX0_make_12 rfl (lv_at hl 1 rfl) ?_
        refine lv_icmp_gt (pc := 13) (tgt := 26) hx hb dX0_make_13 (by decide) (fun c4 => ?_) (fun c4 => ?_)
        · have hf := ipos c4 hf
          cases hf
          cases (hx0 : v1 = rv1)
          exact K _ _ _ hw (lv_sub hl [0, 1, 2, 3] rfl)
        · have hf := ineg c4 hf
          refine lv_iload_n (pc := 16) hx hb dX0_make_16 rfl (lv_at hl 3 rfl) ?_
          refine lv_iconst (pc := 17) (v := 2) hx hb dX0_make_17 (by decide) ?_
          refine lv_imul (pc := 18) hx hb dX0_make_18 ?_
          obtain ⟨v5, ev5, hf⟩ := bn_ob hf
          refine x_topi ev5 ?_
          refine lv_istore_n (lv' := [(3, .int v5), (0, .ref a), (1, .int p1), (2, .int p2), (4, .int v2)]) (pc := 19) hx hb dX0_make_19 rfl hl (by decide) rfl (fun ls hl => ?_)
          obtain ⟨v6, ev6, hf⟩ := bn_ob hf
          refine lv_iinc (pc := 20) (v := v6) (lv' := [(4, .int v6), (3, .int v5), (0, .ref a), (1, .int p1), (2, .int p2)]) hx hb dX0_make_20 hl (k := 4) rfl (by rw [ev6]; rfl) (by decide) rfl (fun ls hl => ?_)
          refine lv_goto (pc := 23) (tgt := 5) hx hb dX0_make_23 (by decide) ?_
          cases hf
          exact ih v5 v6 rv1 hx0 _ _ _ hw (lv_sub hl [2, 3, 4, 1, 0] rfl) K
  obtain ⟨v7, hj, hf⟩ := b1_ob hf
  refine L5 _ 1 0 v7 hj _ _ _ hw (lv_sub hl [2, 3, 4, 1, 0] rfl) (fun H locs ls hw hl => ?_)
  clear hj L5
  refine lv_iload_n (pc := 26) hx hb dX0_make_26 rfl (lv_at hl 2 rfl) ?_
  obtain ⟨v8, hj, hf⟩ := b1_ob hf
  have J34_7 : ∀ (H : Heap) (locs : List Loc) (ls : Array Slot), WD D A s (wX0 cs a q S) H locs → lv_has ls 5 [(0, .ref a), (1, .int p1), (2, .int p2), (3, .int v8)] → W p l e rmX0_make s m args below meth c H locs 0 0 Q (F0 m 34 ls []) := by
    intro H locs ls hw hl
    refine lv_aload_n (pc := 34) hx hb dX0_make_34 rfl (lv_at hl 0 rfl) ?_
    refine lv_iconst (pc := 35) (v := 0) hx hb dX0_make_35 (by decide) ?_
    obtain ⟨S11, eS11, hf⟩ := bn_ob hf
    refine x_put (pc := 36) X hw in_X0_make_X0 tyX0 tyX0_ok nmX0 0 rfl rfl 1 (by decide) (List.mem_of_getElem? (i := 1) rfl) rfl rfl rfl (Nat.le_of_ble_eq_true rfl) dX0_make_36 (ws2 := wX0 cs a q S11) (by rw [eS11]; rfl) (fun H locs hw => ?_)
    refine lv_iconst (pc := 39) (v := 0) hx hb dX0_make_39 (by decide) ?_
    refine lv_istore (lv' := [(4, .int 0), (0, .ref a), (1, .int p1), (2, .int p2), (3, .int v8)]) (pc := 40) hx hb dX0_make_40 hl (by decide) rfl (fun ls hl => ?_)
    have L42 : ∀ (n : Nat) (v12 : Int32) (S13 : PS) (rS13 : PS), L_X0_make_42 p1 p2 v8 n v12 S13 = some rS13 → ∀ (H : Heap) (locs : List Loc) (ls : Array Slot), WD D A s (wX0 cs a q S13) H locs → lv_has ls 5 [(0, .ref a), (1, .int p1), (2, .int p2), (3, .int v8), (4, .int v12)] → (∀ (H : Heap) (locs : List Loc) (ls : Array Slot), WD D A s (wX0 cs a q rS13) H locs → lv_has ls 5 [] → W p l e rmX0_make s m args below meth c H locs 0 0 Q (F0 m 66 ls [])) → W p l e rmX0_make s m args below meth c H locs 0 0 Q (F0 m 42 ls []) := by
      intro n
      induction n with
      | zero => intro v12 S13 rS13 hf; exact (loopF_z hf).elim
      | succ n ih =>
        intro v12 S13 rS13 hf H locs ls hw hl K
        obtain ⟨x, hf, hx0⟩ := loopF_ob hf
        have hf : B_X0_make_42 p1 p2 v8 v12 S13 = some x := hf
        unfold B_X0_make_42 at hf
        refine lv_iload (pc := 42) hx hb dX0_make_42 (lv_at hl 4 rfl) ?_
        refine lv_iload_n (pc := 44) hx hb dX0_make_44 rfl (lv_at hl 3 rfl) ?_
        refine lv_icmp_ge (pc := 45) (tgt := 66) hx hb dX0_make_45 (by decide) (fun c14 => ?_) (fun c14 => ?_)
        · have hf := ipos c14 hf
          cases hf
          cases (hx0 : S13 = rS13)
          exact K _ _ _ hw (lv_sub hl [] rfl)
        · have hf := ineg c14 hf
          refine lv_aload_n (pc := 48) hx hb dX0_make_48 rfl (lv_at hl 0 rfl) ?_
          refine lv_iload (pc := 49) hx hb dX0_make_49 (lv_at hl 4 rfl) ?_
          refine lv_iload_n (pc := 51) hx hb dX0_make_51 rfl (lv_at hl 1 rfl) ?_
          refine lv_iload_n (pc := 52) hx hb dX0_make_52 rfl (lv_at hl 2 rfl) ?_
          obtain ⟨v15, hc, hf⟩ := b1_ob hf
          refine x_nil (pc := 53) X hw (va_runS (As := [.int v12, .int p1, .int p2]) (rest := [.ref a]) ⟨hx, hb, hml, hown, hts⟩ (c_X0_sidesOf l D cs v12 p1 p2 v15 hc _) (va_cwS 3 hts gX0_make_X0_sidesOf rfl rfl rfl (by decide +kernel) ⟨Nat.le_of_ble_eq_true rfl, Nat.le_of_ble_eq_true rfl⟩) ⟨CP_blind, x_preN X [.int v12, .int p1, .int p2]⟩ rfl rfl hl.1 rfl (lv_room (Nat.le_of_ble_eq_true rfl)) dX0_make_53 ⟨Nat.zero_le _, Nat.zero_le _⟩) (fun H locs hw => ?_)
          obtain ⟨v16, S17, hc, hf⟩ := b2_ob hf
          refine x_all (pc := 56) X hw (va_runV (As := [.int v15]) (rest := []) ⟨hx, hb, hml, hown, hts⟩ (c_X0_add l D cs a q S13 v15 v16 S17 hc _) (cwV 1 hts gX0_make_X0_add rfl rfl rfl (by decide +kernel) ⟨Nat.le_of_ble_eq_true rfl, Nat.le_of_ble_eq_true rfl⟩) ⟨CP_blind, va_recv hK hw.1 (ci := 0) (q0 := 0) rfl rfl, x_preA X hw [.ref a, .int v15]⟩ rfl rfl hl.1 rfl (lv_room (Nat.le_of_ble_eq_true rfl)) dX0_make_56 ⟨Nat.zero_le _, Nat.zero_le _⟩) (fun H locs hw => ?_)
          refine lv_pop (pc := 59) hx hb dX0_make_59 rfl ?_
          obtain ⟨v18, ev18, hf⟩ := bn_ob hf
          refine lv_iinc (pc := 60) (v := v18) (lv' := [(4, .int v18), (0, .ref a), (1, .int p1), (2, .int p2), (3, .int v8)]) hx hb dX0_make_60 hl (k := 4) rfl (by rw [ev18]; rfl) (by decide) rfl (fun ls hl => ?_)
          refine lv_goto (pc := 63) (tgt := 42) hx hb dX0_make_63 (by decide) ?_
          cases hf
          exact ih v18 S17 rS13 hx0 _ _ _ hw (lv_sub hl [1, 2, 3, 4, 0] rfl) K
    obtain ⟨S19, hj, hf⟩ := b1_ob hf
    refine L42 _ 0 S11 S19 hj _ _ _ hw (lv_sub hl [1, 2, 3, 4, 0] rfl) (fun H locs ls hw hl => ?_)
    clear hj L42
    cases hf
    exact hret _ _ 66 _ hw rfl dX0_make_66
  clear hf; have hf := hj; clear hj
  refine lv_if_eq (pc := 27) (tgt := 34) hx hb dX0_make_27 (by decide) (fun c9 => ?_) (fun c9 => ?_)
  · have hf := ipos c9 hf
    cases hf
    exact J34_7 _ _ _ hw (lv_sub hl [0, 1, 2, 3] rfl)
  · have hf := ineg c9 hf
    refine lv_iload_n (pc := 30) hx hb dX0_make_30 rfl (lv_at hl 3 rfl) ?_
    refine lv_iconst (pc := 31) (v := 2) hx hb dX0_make_31 (by decide) ?_
    refine lv_imul (pc := 32) hx hb dX0_make_32 ?_
    obtain ⟨v10, ev10, hf⟩ := bn_ob hf
    refine x_topi ev10 ?_
    refine lv_istore_n (lv' := [(3, .int v10), (0, .ref a), (1, .int p1), (2, .int p2)]) (pc := 33) hx hb dX0_make_33 rfl hl (by decide) rfl (fun ls hl => ?_)
    cases hf
    exact J34_7 _ _ _ hw (lv_sub hl [1, 2, 3, 0] rfl)

theorem in_X0_bestBy_X0 : ∀ w ∈ wsX00, w ∈ wsX0_bestBy := fun _ h => List.mem_cons_of_mem _ (List.mem_append_left _ (List.mem_append_right _ h))
theorem in_X0_bestBy_X8 : ∀ w ∈ wsX80, w ∈ wsX0_bestBy := fun _ h => List.mem_cons_of_mem _ (List.mem_append_right _ h)
abbrev rmX0_bestBy : Room := { frames := 2, cells := 0, slots := 0, locals := 46 }
def B_X0_bestBy_19 (S : PS) (U1 : PS) (p2 : Int32) (v3 : Int32) (v4 : Int32) : Option ((Int32 × Int32) ⊕ (Int32)) :=
  if (S.1 1) ≤ v4 then
    some (.inr v3)
  else
  b1 (rdI 32 (S.2.1 0) v4) fun v6 =>
  b1 (f_X8_measureOf U1 p2 v6) fun v7 =>
  b1 (f_X8_measureOf U1 p2 v3) fun v8 =>
  b1 (f_X8_isBetter p2 v7 v8) fun v9 =>
  b1 (
    if v9 = 0 then
      some v3
    else
    b1 (rdI 32 (S.2.1 0) v4) fun v12 =>
    some v12) fun v10 =>
  bn (v4 + 1) fun v13 =>
  some (.inl (v10, v13))
def L_X0_bestBy_19 (S : PS) (U1 : PS) (p2 : Int32) (n : Nat) (v3 : Int32) (v4 : Int32) : Option (Int32) := loopF (fun x : Int32 × Int32 => B_X0_bestBy_19 S U1 p2 x.1 x.2) n (v3, v4)
def f_X0_bestBy (S : PS) (U1 : PS) (p2 : Int32) : Option (Int32) :=
  if (S.1 1) = 0 then
    some (-1)
  else
  b1 (rdI 32 (S.2.1 0) 0) fun v2 =>
  b1 (L_X0_bestBy_19 S U1 p2 FU v2 1) fun v14 =>
  some v14
set_option maxHeartbeats 4000000 in
set_option maxRecDepth 100000 in
theorem c_X0_bestBy (l : Launch) (D : va_G) (cs : CS) (a : Nat) (b1 : Nat) (q : Nat → Nat) (qU1 : Nat → Nat) (S : PS) (U1 : PS) (p2 : Int32) (r : Int32) (hf : f_X0_bestBy S U1 p2 = some r) : CT l D (TY cs) yX0_bestBy wsX0_bestBy rmX0_bestBy [.ref a, .ref b1, .int p2] (wX0 cs a q S ++ wX8 cs b1 qU1 U1) (some (.int r)) (wX0 cs a q S ++ wX8 cs b1 qU1 U1) := by
  refine CT.ofW (own := RX0) (cc := cX0_bestBy) (maxL := 5) (ret := some .int) (by decide) rfl rfl (Nat.le_of_ble_eq_true rfl) ?_
  intro p e s m args below meth c A Q X hret ls hl hw
  obtain ⟨hx, hb, hml, hown, hts, hK, hA, hr, hlk⟩ := id X
  have hl : lv_has ls 5 [(0, .ref a), (1, .ref b1), (2, .int p2)] := hl
  unfold f_X0_bestBy at hf
  refine lv_aload_n (pc := 0) hx hb dX0_bestBy_0 rfl (lv_at hl 0 rfl) ?_
  refine x_get (pc := 1) X hw in_X0_bestBy_X0 0 rfl rfl 1 (by decide) (List.mem_of_getElem? (i := 1) rfl) rfl dX0_bestBy_1 ?_
  refine lv_if_ne (pc := 4) (tgt := 9) hx hb dX0_bestBy_4 (by decide) (fun c1 => ?_) (fun c1 => ?_)
  · have hf := ineg c1 hf
    refine lv_aload_n (pc := 9) hx hb dX0_bestBy_9 rfl (lv_at hl 0 rfl) ?_
    refine x_get (pc := 10) X hw in_X0_bestBy_X0 0 rfl rfl 0 (by decide) (List.mem_of_getElem? (i := 2) rfl) rfl dX0_bestBy_10 ?_
    refine lv_iconst (pc := 13) (v := 0) hx hb dX0_bestBy_13 (by decide) ?_
    obtain ⟨v2, ev2, hf⟩ := b1_ob hf
    refine x_iald (pc := 14) X hw 1 0 rfl rfl ev2 dX0_bestBy_14 ?_
    refine lv_istore_n (lv' := [(3, .int v2), (0, .ref a), (1, .ref b1), (2, .int p2)]) (pc := 15) hx hb dX0_bestBy_15 rfl hl (by decide) rfl (fun ls hl => ?_)
    refine lv_iconst (pc := 16) (v := 1) hx hb dX0_bestBy_16 (by decide) ?_
    refine lv_istore (lv' := [(4, .int 1), (3, .int v2), (0, .ref a), (1, .ref b1), (2, .int p2)]) (pc := 17) hx hb dX0_bestBy_17 hl (by decide) rfl (fun ls hl => ?_)
    have L19 : ∀ (n : Nat) (v3 : Int32) (v4 : Int32) (rv3 : Int32), L_X0_bestBy_19 S U1 p2 n v3 v4 = some rv3 → ∀ (H : Heap) (locs : List Loc) (ls : Array Slot), WD D A s (wX0 cs a q S ++ wX8 cs b1 qU1 U1) H locs → lv_has ls 5 [(0, .ref a), (1, .ref b1), (2, .int p2), (3, .int v3), (4, .int v4)] → (∀ (H : Heap) (locs : List Loc) (ls : Array Slot), WD D A s (wX0 cs a q S ++ wX8 cs b1 qU1 U1) H locs → lv_has ls 5 [(3, .int rv3)] → W p l e rmX0_bestBy s m args below meth c H locs 0 0 Q (F0 m 67 ls [])) → W p l e rmX0_bestBy s m args below meth c H locs 0 0 Q (F0 m 19 ls []) := by
      intro n
      induction n with
      | zero => intro v3 v4 rv3 hf; exact (loopF_z hf).elim
      | succ n ih =>
        intro v3 v4 rv3 hf H locs ls hw hl K
        obtain ⟨x, hf, hx0⟩ := loopF_ob hf
        have hf : B_X0_bestBy_19 S U1 p2 v3 v4 = some x := hf
        unfold B_X0_bestBy_19 at hf
        refine lv_iload (pc := 19) hx hb dX0_bestBy_19 (lv_at hl 4 rfl) ?_
        refine lv_aload_n (pc := 21) hx hb dX0_bestBy_21 rfl (lv_at hl 0 rfl) ?_
        refine x_get (pc := 22) X hw in_X0_bestBy_X0 0 rfl rfl 1 (by decide) (List.mem_of_getElem? (i := 1) rfl) rfl dX0_bestBy_22 ?_
        refine lv_icmp_ge (pc := 25) (tgt := 67) hx hb dX0_bestBy_25 (by decide) (fun c5 => ?_) (fun c5 => ?_)
        · have hf := ipos c5 hf
          cases hf
          cases (hx0 : v3 = rv3)
          exact K _ _ _ hw (lv_sub hl [3] rfl)
        · have hf := ineg c5 hf
          refine lv_iload_n (pc := 28) hx hb dX0_bestBy_28 rfl (lv_at hl 2 rfl) ?_
          refine lv_aload_n (pc := 29) hx hb dX0_bestBy_29 rfl (lv_at hl 1 rfl) ?_
          refine lv_iload_n (pc := 30) hx hb dX0_bestBy_30 rfl (lv_at hl 2 rfl) ?_
          refine lv_aload_n (pc := 31) hx hb dX0_bestBy_31 rfl (lv_at hl 0 rfl) ?_
          refine x_get (pc := 32) X hw in_X0_bestBy_X0 0 rfl rfl 0 (by decide) (List.mem_of_getElem? (i := 2) rfl) rfl dX0_bestBy_32 ?_
          refine lv_iload (pc := 35) hx hb dX0_bestBy_35 (lv_at hl 4 rfl) ?_
          obtain ⟨v6, ev6, hf⟩ := b1_ob hf
          refine x_iald (pc := 37) X hw 1 0 rfl rfl ev6 dX0_bestBy_37 ?_
          obtain ⟨v7, hc, hf⟩ := b1_ob hf
          refine x_cut (pc := 38) (wr := ([0, 1].filterMap (fun i => (wX0 cs a q S ++ wX8 cs b1 qU1 U1)[i]?))) (ws2 := wX0 cs a q S ++ wX8 cs b1 qU1 U1) X hw [2, 3, 4, 5, 6, 7, 8] [0, 1] [0, 1, 2, 3, 4, 5, 6, 7, 8] rfl rfl (by decide) (by decide) rfl (by decide) (va_runV (As := [.int p2, .int v6]) (rest := [.int p2]) ⟨hx, hb, hml, hown, hts⟩ (c_X8_measureOf l D cs b1 qU1 U1 p2 v6 v7 hc _) (cwV 2 hts gX0_bestBy_X8_measureOf rfl rfl rfl (by decide +kernel) ⟨Nat.le_of_ble_eq_true rfl, Nat.le_of_ble_eq_true rfl⟩) ⟨CP_blind, va_recv hK hw.1 (ci := 8) (q0 := 2) rfl rfl, x_preC X hw [2, 3, 4, 5, 6, 7, 8] rfl (by decide) [.ref b1, .int p2, .int v6]⟩ rfl rfl hl.1 rfl (lv_room (Nat.le_of_ble_eq_true rfl)) dX0_bestBy_38 ⟨Nat.zero_le _, Nat.zero_le _⟩) (fun H locs hw => ?_)
          refine lv_aload_n (pc := 41) hx hb dX0_bestBy_41 rfl (lv_at hl 1 rfl) ?_
          refine lv_iload_n (pc := 42) hx hb dX0_bestBy_42 rfl (lv_at hl 2 rfl) ?_
          refine lv_iload_n (pc := 43) hx hb dX0_bestBy_43 rfl (lv_at hl 3 rfl) ?_
          obtain ⟨v8, hc, hf⟩ := b1_ob hf
          refine x_cut (pc := 44) (wr := ([0, 1].filterMap (fun i => (wX0 cs a q S ++ wX8 cs b1 qU1 U1)[i]?))) (ws2 := wX0 cs a q S ++ wX8 cs b1 qU1 U1) X hw [2, 3, 4, 5, 6, 7, 8] [0, 1] [0, 1, 2, 3, 4, 5, 6, 7, 8] rfl rfl (by decide) (by decide) rfl (by decide) (va_runV (As := [.int p2, .int v3]) (rest := [.int v7, .int p2]) ⟨hx, hb, hml, hown, hts⟩ (c_X8_measureOf l D cs b1 qU1 U1 p2 v3 v8 hc _) (cwV 2 hts gX0_bestBy_X8_measureOf rfl rfl rfl (by decide +kernel) ⟨Nat.le_of_ble_eq_true rfl, Nat.le_of_ble_eq_true rfl⟩) ⟨CP_blind, va_recv hK hw.1 (ci := 8) (q0 := 2) rfl rfl, x_preC X hw [2, 3, 4, 5, 6, 7, 8] rfl (by decide) [.ref b1, .int p2, .int v3]⟩ rfl rfl hl.1 rfl (lv_room (Nat.le_of_ble_eq_true rfl)) dX0_bestBy_44 ⟨Nat.zero_le _, Nat.zero_le _⟩) (fun H locs hw => ?_)
          obtain ⟨v9, hc, hf⟩ := b1_ob hf
          refine x_nil (pc := 47) X hw (va_runS (As := [.int p2, .int v7, .int v8]) (rest := []) ⟨hx, hb, hml, hown, hts⟩ (c_X8_isBetter l D cs p2 v7 v8 v9 hc _) (va_cwS 3 hts gX0_bestBy_X8_isBetter rfl rfl rfl (by decide +kernel) ⟨Nat.le_of_ble_eq_true rfl, Nat.le_of_ble_eq_true rfl⟩) ⟨CP_blind, x_preN X [.int p2, .int v7, .int v8]⟩ rfl rfl hl.1 rfl (lv_room (Nat.le_of_ble_eq_true rfl)) dX0_bestBy_47 ⟨Nat.zero_le _, Nat.zero_le _⟩) (fun H locs hw => ?_)
          obtain ⟨v10, hj, hf⟩ := b1_ob hf
          have J61_9 : ∀ (H : Heap) (locs : List Loc) (ls : Array Slot), WD D A s (wX0 cs a q S ++ wX8 cs b1 qU1 U1) H locs → lv_has ls 5 [(0, .ref a), (1, .ref b1), (2, .int p2), (3, .int v10), (4, .int v4)] → W p l e rmX0_bestBy s m args below meth c H locs 0 0 Q (F0 m 61 ls []) := by
            intro H locs ls hw hl
            obtain ⟨v13, ev13, hf⟩ := bn_ob hf
            refine lv_iinc (pc := 61) (v := v13) (lv' := [(4, .int v13), (0, .ref a), (1, .ref b1), (2, .int p2), (3, .int v10)]) hx hb dX0_bestBy_61 hl (k := 4) rfl (by rw [ev13]; rfl) (by decide) rfl (fun ls hl => ?_)
            refine lv_goto (pc := 64) (tgt := 19) hx hb dX0_bestBy_64 (by decide) ?_
            cases hf
            exact ih v10 v13 rv3 hx0 _ _ _ hw (lv_sub hl [1, 2, 3, 4, 0] rfl) K
          clear hf; have hf := hj; clear hj
          refine lv_if_eq (pc := 50) (tgt := 61) hx hb dX0_bestBy_50 (by decide) (fun c11 => ?_) (fun c11 => ?_)
          · have hf := ipos c11 hf
            cases hf
            exact J61_9 _ _ _ hw (lv_sub hl [0, 1, 2, 3, 4] rfl)
          · have hf := ineg c11 hf
            refine lv_aload_n (pc := 53) hx hb dX0_bestBy_53 rfl (lv_at hl 0 rfl) ?_
            refine x_get (pc := 54) X hw in_X0_bestBy_X0 0 rfl rfl 0 (by decide) (List.mem_of_getElem? (i := 2) rfl) rfl dX0_bestBy_54 ?_
            refine lv_iload (pc := 57) hx hb dX0_bestBy_57 (lv_at hl 4 rfl) ?_
            obtain ⟨v12, ev12, hf⟩ := b1_ob hf
            refine x_iald (pc := 59) X hw 1 0 rfl rfl ev12 dX0_bestBy_59 ?_
            refine lv_istore_n (lv' := [(3, .int v12), (0, .ref a), (1, .ref b1), (2, .int p2), (4, .int v4)]) (pc := 60) hx hb dX0_bestBy_60 rfl hl (by decide) rfl (fun ls hl => ?_)
            cases hf
            exact J61_9 _ _ _ hw (lv_sub hl [1, 2, 3, 0, 4] rfl)
    obtain ⟨v14, hj, hf⟩ := b1_ob hf
    refine L19 _ v2 1 v14 hj _ _ _ hw (lv_sub hl [2, 3, 4, 1, 0] rfl) (fun H locs ls hw hl => ?_)
    clear hj L19
    refine lv_iload_n (pc := 67) hx hb dX0_bestBy_67 rfl (lv_at hl 0 rfl) ?_
    cases hf
    exact hret _ _ 68 _ hw ⟨_, rfl, rfl⟩ dX0_bestBy_68
  · have hf := ipos c1 hf
    refine lv_iconst (pc := 7) (v := (-1)) hx hb dX0_bestBy_7 (by decide) ?_
    cases hf
    exact hret _ _ 8 _ hw ⟨_, rfl, rfl⟩ dX0_bestBy_8

theorem in_X0_leanOf_X0 : ∀ w ∈ wsX00, w ∈ wsX0_leanOf := fun _ h => List.mem_cons_of_mem _ (List.mem_append_right _ h)
abbrev rmX0_leanOf : Room := { frames := 1, cells := 0, slots := 0, locals := 23 }
def B_X0_leanOf_4 (S : PS) (p1 : Int32) (v1 : Int32) (v2 : Int32) : Option ((Int32 × Int32) ⊕ (Int32)) :=
  if (S.1 1) ≤ v2 then
    some (.inr v1)
  else
  b1 (rdI 32 (S.2.1 0) v2) fun v4 =>
  b1 (f_J6_bitCount_0f7a4 (v4 &&& p1)) fun v5 =>
  bn (v1 + (v5 &&& 1)) fun v6 =>
  bn (v2 + 1) fun v7 =>
  some (.inl (v6, v7))
def L_X0_leanOf_4 (S : PS) (p1 : Int32) (n : Nat) (v1 : Int32) (v2 : Int32) : Option (Int32) := loopF (fun x : Int32 × Int32 => B_X0_leanOf_4 S p1 x.1 x.2) n (v1, v2)
def f_X0_leanOf (S : PS) (p1 : Int32) : Option (Int32) :=
  b1 (L_X0_leanOf_4 S p1 FU 0 0) fun v8 =>
  some (if 0 ≤ ((S.1 1) - (2 * v8)) then ((S.1 1) - (2 * v8)) else 0 - ((S.1 1) - (2 * v8)))
set_option maxHeartbeats 4000000 in
set_option maxRecDepth 100000 in
theorem c_X0_leanOf (l : Launch) (D : va_G) (cs : CS) (a : Nat) (q : Nat → Nat) (S : PS) (p1 : Int32) (r : Int32) (hf : f_X0_leanOf S p1 = some r) : CT l D (TY cs) yX0_leanOf wsX0_leanOf rmX0_leanOf [.ref a, .int p1] (wX0 cs a q S) (some (.int r)) (wX0 cs a q S) := by
  refine CT.ofW (own := RX0) (cc := cX0_leanOf) (maxL := 4) (ret := some .int) (by decide) rfl rfl (Nat.le_of_ble_eq_true rfl) ?_
  intro p e s m args below meth c A Q X hret ls hl hw
  obtain ⟨hx, hb, hml, hown, hts, hK, hA, hr, hlk⟩ := id X
  have hl : lv_has ls 4 [(0, .ref a), (1, .int p1)] := hl
  unfold f_X0_leanOf at hf
  refine lv_iconst (pc := 0) (v := 0) hx hb dX0_leanOf_0 (by decide) ?_
  refine lv_istore_n (lv' := [(2, .int 0), (0, .ref a), (1, .int p1)]) (pc := 1) hx hb dX0_leanOf_1 rfl hl (by decide) rfl (fun ls hl => ?_)
  refine lv_iconst (pc := 2) (v := 0) hx hb dX0_leanOf_2 (by decide) ?_
  refine lv_istore_n (lv' := [(3, .int 0), (2, .int 0), (0, .ref a), (1, .int p1)]) (pc := 3) hx hb dX0_leanOf_3 rfl hl (by decide) rfl (fun ls hl => ?_)
  have L4 : ∀ (n : Nat) (v1 : Int32) (v2 : Int32) (rv1 : Int32), L_X0_leanOf_4 S p1 n v1 v2 = some rv1 → ∀ (H : Heap) (locs : List Loc) (ls : Array Slot), WD D A s (wX0 cs a q S) H locs → lv_has ls 4 [(0, .ref a), (1, .int p1), (2, .int v1), (3, .int v2)] → (∀ (H : Heap) (locs : List Loc) (ls : Array Slot), WD D A s (wX0 cs a q S) H locs → lv_has ls 4 [(0, .ref a), (2, .int rv1)] → W p l e rmX0_leanOf s m args below meth c H locs 0 0 Q (F0 m 34 ls [])) → W p l e rmX0_leanOf s m args below meth c H locs 0 0 Q (F0 m 4 ls []) := by
    intro n
    induction n with
    | zero => intro v1 v2 rv1 hf; exact (loopF_z hf).elim
    | succ n ih =>
      intro v1 v2 rv1 hf H locs ls hw hl K
      obtain ⟨x, hf, hx0⟩ := loopF_ob hf
      have hf : B_X0_leanOf_4 S p1 v1 v2 = some x := hf
      unfold B_X0_leanOf_4 at hf
      refine lv_iload_n (pc := 4) hx hb dX0_leanOf_4 rfl (lv_at hl 3 rfl) ?_
      refine lv_aload_n (pc := 5) hx hb dX0_leanOf_5 rfl (lv_at hl 0 rfl) ?_
      refine x_get (pc := 6) X hw in_X0_leanOf_X0 0 rfl rfl 1 (by decide) (List.mem_of_getElem? (i := 1) rfl) rfl dX0_leanOf_6 ?_
      refine lv_icmp_ge (pc := 9) (tgt := 34) hx hb dX0_leanOf_9 (by decide) (fun c3 => ?_) (fun c3 => ?_)
      · have hf := ipos c3 hf
        cases hf
        cases (hx0 : v1 = rv1)
        exact K _ _ _ hw (lv_sub hl [0, 2] rfl)
      · have hf := ineg c3 hf
        refine lv_iload_n (pc := 12) hx hb dX0_leanOf_12 rfl (lv_at hl 2 rfl) ?_
        refine lv_aload_n (pc := 13) hx hb dX0_leanOf_13 rfl (lv_at hl 0 rfl) ?_
        refine x_get (pc := 14) X hw in_X0_leanOf_X0 0 rfl rfl 0 (by decide) (List.mem_of_getElem? (i := 2) rfl) rfl dX0_leanOf_14 ?_
        refine lv_iload_n (pc := 17) hx hb dX0_leanOf_17 rfl (lv_at hl 3 rfl) ?_
        obtain ⟨v4, ev4, hf⟩ := b1_ob hf
        refine x_iald (pc := 18) X hw 1 0 rfl rfl ev4 dX0_leanOf_18 ?_
        refine lv_iload_n (pc := 19) hx hb dX0_leanOf_19 rfl (lv_at hl 1 rfl) ?_
        refine lv_iand (pc := 20) hx hb dX0_leanOf_20 ?_
        obtain ⟨v5, hc, hf⟩ := b1_ob hf
        refine x_nil (pc := 21) X hw (va_runS (As := [.int (v4 &&& p1)]) (rest := [.int v1]) ⟨hx, hb, hml, hown, hts⟩ (c_J6_bitCount_0f7a4 l D cs (v4 &&& p1) v5 hc _) (va_cwS 1 hts gX0_leanOf_J6_bitCount_0f7a4 rfl rfl rfl (by decide +kernel) ⟨Nat.le_of_ble_eq_true rfl, Nat.le_of_ble_eq_true rfl⟩) ⟨CP_blind, x_preN X [.int (v4 &&& p1)]⟩ rfl rfl hl.1 rfl (lv_room (Nat.le_of_ble_eq_true rfl)) dX0_leanOf_21 ⟨Nat.zero_le _, Nat.zero_le _⟩) (fun H locs hw => ?_)
        refine lv_iconst (pc := 24) (v := 1) hx hb dX0_leanOf_24 (by decide) ?_
        refine lv_iand (pc := 25) hx hb dX0_leanOf_25 ?_
        refine lv_iadd (pc := 26) hx hb dX0_leanOf_26 ?_
        obtain ⟨v6, ev6, hf⟩ := bn_ob hf
        refine x_topi ev6 ?_
        refine lv_istore_n (lv' := [(2, .int v6), (0, .ref a), (1, .int p1), (3, .int v2)]) (pc := 27) hx hb dX0_leanOf_27 rfl hl (by decide) rfl (fun ls hl => ?_)
        obtain ⟨v7, ev7, hf⟩ := bn_ob hf
        refine lv_iinc (pc := 28) (v := v7) (lv' := [(3, .int v7), (2, .int v6), (0, .ref a), (1, .int p1)]) hx hb dX0_leanOf_28 hl (k := 3) rfl (by rw [ev7]; rfl) (by decide) rfl (fun ls hl => ?_)
        refine lv_goto (pc := 31) (tgt := 4) hx hb dX0_leanOf_31 (by decide) ?_
        cases hf
        exact ih v6 v7 rv1 hx0 _ _ _ hw (lv_sub hl [2, 3, 1, 0] rfl) K
  obtain ⟨v8, hj, hf⟩ := b1_ob hf
  refine L4 _ 0 0 v8 hj _ _ _ hw (lv_sub hl [2, 3, 1, 0] rfl) (fun H locs ls hw hl => ?_)
  clear hj L4
  refine lv_aload_n (pc := 34) hx hb dX0_leanOf_34 rfl (lv_at hl 0 rfl) ?_
  refine x_get (pc := 35) X hw in_X0_leanOf_X0 0 rfl rfl 1 (by decide) (List.mem_of_getElem? (i := 1) rfl) rfl dX0_leanOf_35 ?_
  refine lv_iconst (pc := 38) (v := 2) hx hb dX0_leanOf_38 (by decide) ?_
  refine lv_iload_n (pc := 39) hx hb dX0_leanOf_39 rfl (lv_at hl 1 rfl) ?_
  refine lv_imul (pc := 40) hx hb dX0_leanOf_40 ?_
  refine lv_isub (pc := 41) hx hb dX0_leanOf_41 ?_
  refine va_mabs (pc := 42) hx hb (hml.trans hl.1.symm) hown (hts _ (List.mem_of_getElem? (i := 3) rfl)) (hts _ (List.mem_of_getElem? (i := 4) rfl)) (hts _ (List.mem_of_getElem? (i := 5) rfl)) (hts _ (List.mem_of_getElem? (i := 6) rfl)) (Nat.le_of_ble_eq_true rfl) (Nat.le_of_ble_eq_true rfl) (Nat.zero_le _) (Nat.zero_le _) dX0_leanOf_42 ?_
  cases hf
  exact hret _ _ 45 _ hw ⟨_, rfl, rfl⟩ dX0_leanOf_45

theorem in_X0_greatestLean_X0 : ∀ w ∈ wsX00, w ∈ wsX0_greatestLean := fun _ h => List.mem_cons_of_mem _ (List.mem_append_right _ h)
abbrev rmX0_greatestLean : Room := { frames := 2, cells := 0, slots := 0, locals := 46 }
def B_X0_greatestLean_5 (S : PS) (p1 : Int32) (p2 : Int32) (v1 : Int32) (v2 : Int32) : Option ((Int32 × Int32) ⊕ (Int32)) :=
  if ((1 : Int32) <<< (p1 &&& 31)) ≤ v2 then
    some (.inr v1)
  else
  b1 (f_J6_bitCount_0f7a4 v2) fun v4 =>
  b1 (
    if p2 < v4 then
      some v1
    else
    b1 (f_X0_leanOf S v2) fun v7 =>
    bn (if v1 < v7 then v7 else v1) fun v8 =>
    some v8) fun v5 =>
  bn (v2 + 1) fun v9 =>
  some (.inl (v5, v9))
def L_X0_greatestLean_5 (S : PS) (p1 : Int32) (p2 : Int32) (n : Nat) (v1 : Int32) (v2 : Int32) : Option (Int32) := loopF (fun x : Int32 × Int32 => B_X0_greatestLean_5 S p1 p2 x.1 x.2) n (v1, v2)
def f_X0_greatestLean (S : PS) (p1 : Int32) (p2 : Int32) : Option (Int32) :=
  b1 (L_X0_greatestLean_5 S p1 p2 FU 0 1) fun v10 =>
  some v10
set_option maxHeartbeats 4000000 in
set_option maxRecDepth 100000 in
theorem c_X0_greatestLean (l : Launch) (D : va_G) (cs : CS) (a : Nat) (q : Nat → Nat) (S : PS) (p1 : Int32) (p2 : Int32) (r : Int32) (hf : f_X0_greatestLean S p1 p2 = some r) : CT l D (TY cs) yX0_greatestLean wsX0_greatestLean rmX0_greatestLean [.ref a, .int p1, .int p2] (wX0 cs a q S) (some (.int r)) (wX0 cs a q S) := by
  refine CT.ofW (own := RX0) (cc := cX0_greatestLean) (maxL := 5) (ret := some .int) (by decide) rfl rfl (Nat.le_of_ble_eq_true rfl) ?_
  intro p e s m args below meth c A Q X hret ls hl hw
  obtain ⟨hx, hb, hml, hown, hts, hK, hA, hr, hlk⟩ := id X
  have hl : lv_has ls 5 [(0, .ref a), (1, .int p1), (2, .int p2)] := hl
  unfold f_X0_greatestLean at hf
  refine lv_iconst (pc := 0) (v := 0) hx hb dX0_greatestLean_0 (by decide) ?_
  refine lv_istore_n (lv' := [(3, .int 0), (0, .ref a), (1, .int p1), (2, .int p2)]) (pc := 1) hx hb dX0_greatestLean_1 rfl hl (by decide) rfl (fun ls hl => ?_)
  refine lv_iconst (pc := 2) (v := 1) hx hb dX0_greatestLean_2 (by decide) ?_
  refine lv_istore (lv' := [(4, .int 1), (3, .int 0), (0, .ref a), (1, .int p1), (2, .int p2)]) (pc := 3) hx hb dX0_greatestLean_3 hl (by decide) rfl (fun ls hl => ?_)
  have L5 : ∀ (n : Nat) (v1 : Int32) (v2 : Int32) (rv1 : Int32), L_X0_greatestLean_5 S p1 p2 n v1 v2 = some rv1 → ∀ (H : Heap) (locs : List Loc) (ls : Array Slot), WD D A s (wX0 cs a q S) H locs → lv_has ls 5 [(0, .ref a), (1, .int p1), (2, .int p2), (3, .int v1), (4, .int v2)] → (∀ (H : Heap) (locs : List Loc) (ls : Array Slot), WD D A s (wX0 cs a q S) H locs → lv_has ls 5 [(3, .int rv1)] → W p l e rmX0_greatestLean s m args below meth c H locs 0 0 Q (F0 m 39 ls [])) → W p l e rmX0_greatestLean s m args below meth c H locs 0 0 Q (F0 m 5 ls []) := by
    intro n
    induction n with
    | zero => intro v1 v2 rv1 hf; exact (loopF_z hf).elim
    | succ n ih =>
      intro v1 v2 rv1 hf H locs ls hw hl K
      obtain ⟨x, hf, hx0⟩ := loopF_ob hf
      have hf : B_X0_greatestLean_5 S p1 p2 v1 v2 = some x := hf
      unfold B_X0_greatestLean_5 at hf
      refine lv_iload (pc := 5) hx hb dX0_greatestLean_5 (lv_at hl 4 rfl) ?_
      refine lv_iconst (pc := 7) (v := 1) hx hb dX0_greatestLean_7 (by decide) ?_
      refine lv_iload_n (pc := 8) hx hb dX0_greatestLean_8 rfl (lv_at hl 1 rfl) ?_
      refine lv_ishl (pc := 9) hx hb dX0_greatestLean_9 ?_
      refine lv_icmp_ge (pc := 10) (tgt := 39) hx hb dX0_greatestLean_10 (by decide) (fun c3 => ?_) (fun c3 => ?_)
      · have hf := ipos c3 hf
        cases hf
        cases (hx0 : v1 = rv1)
        exact K _ _ _ hw (lv_sub hl [3] rfl)
      · have hf := ineg c3 hf
        refine lv_iload (pc := 13) hx hb dX0_greatestLean_13 (lv_at hl 4 rfl) ?_
        obtain ⟨v4, hc, hf⟩ := b1_ob hf
        refine x_nil (pc := 15) X hw (va_runS (As := [.int v2]) (rest := []) ⟨hx, hb, hml, hown, hts⟩ (c_J6_bitCount_0f7a4 l D cs v2 v4 hc _) (va_cwS 1 hts gX0_greatestLean_J6_bitCount_0f7a4 rfl rfl rfl (by decide +kernel) ⟨Nat.le_of_ble_eq_true rfl, Nat.le_of_ble_eq_true rfl⟩) ⟨CP_blind, x_preN X [.int v2]⟩ rfl rfl hl.1 rfl (lv_room (Nat.le_of_ble_eq_true rfl)) dX0_greatestLean_15 ⟨Nat.zero_le _, Nat.zero_le _⟩) (fun H locs hw => ?_)
        refine lv_iload_n (pc := 18) hx hb dX0_greatestLean_18 rfl (lv_at hl 2 rfl) ?_
        obtain ⟨v5, hj, hf⟩ := b1_ob hf
        have J33_4 : ∀ (H : Heap) (locs : List Loc) (ls : Array Slot), WD D A s (wX0 cs a q S) H locs → lv_has ls 5 [(0, .ref a), (1, .int p1), (2, .int p2), (3, .int v5), (4, .int v2)] → W p l e rmX0_greatestLean s m args below meth c H locs 0 0 Q (F0 m 33 ls []) := by
          intro H locs ls hw hl
          obtain ⟨v9, ev9, hf⟩ := bn_ob hf
          refine lv_iinc (pc := 33) (v := v9) (lv' := [(4, .int v9), (0, .ref a), (1, .int p1), (2, .int p2), (3, .int v5)]) hx hb dX0_greatestLean_33 hl (k := 4) rfl (by rw [ev9]; rfl) (by decide) rfl (fun ls hl => ?_)
          refine lv_goto (pc := 36) (tgt := 5) hx hb dX0_greatestLean_36 (by decide) ?_
          cases hf
          exact ih v5 v9 rv1 hx0 _ _ _ hw (lv_sub hl [1, 2, 3, 4, 0] rfl) K
        clear hf; have hf := hj; clear hj
        refine lv_icmp_gt (pc := 19) (tgt := 33) hx hb dX0_greatestLean_19 (by decide) (fun c6 => ?_) (fun c6 => ?_)
        · have hf := ipos c6 hf
          cases hf
          exact J33_4 _ _ _ hw (lv_sub hl [0, 1, 2, 3, 4] rfl)
        · have hf := ineg c6 hf
          refine lv_iload_n (pc := 22) hx hb dX0_greatestLean_22 rfl (lv_at hl 3 rfl) ?_
          refine lv_aload_n (pc := 23) hx hb dX0_greatestLean_23 rfl (lv_at hl 0 rfl) ?_
          refine lv_iload (pc := 24) hx hb dX0_greatestLean_24 (lv_at hl 4 rfl) ?_
          obtain ⟨v7, hc, hf⟩ := b1_ob hf
          refine x_all (pc := 26) X hw (va_runV (As := [.int v2]) (rest := [.int v1]) ⟨hx, hb, hml, hown, hts⟩ (c_X0_leanOf l D cs a q S v2 v7 hc _) (cwV 1 hts gX0_greatestLean_X0_leanOf rfl rfl rfl (by decide +kernel) ⟨Nat.le_of_ble_eq_true rfl, Nat.le_of_ble_eq_true rfl⟩) ⟨CP_blind, va_recv hK hw.1 (ci := 0) (q0 := 0) rfl rfl, x_preA X hw [.ref a, .int v2]⟩ rfl rfl hl.1 rfl (lv_room (Nat.le_of_ble_eq_true rfl)) dX0_greatestLean_26 ⟨Nat.zero_le _, Nat.zero_le _⟩) (fun H locs hw => ?_)
          refine va_mmax (pc := 29) hx hb (hml.trans hl.1.symm) hown (hts _ (List.mem_of_getElem? (i := 1) rfl)) (hts _ (List.mem_of_getElem? (i := 2) rfl)) (hts _ (List.mem_of_getElem? (i := 3) rfl)) (hts _ (List.mem_of_getElem? (i := 4) rfl)) (Nat.le_of_ble_eq_true rfl) (Nat.le_of_ble_eq_true rfl) (Nat.zero_le _) (Nat.zero_le _) dX0_greatestLean_29 ?_
          obtain ⟨v8, ev8, hf⟩ := bn_ob hf
          refine x_topi ev8 ?_
          refine lv_istore_n (lv' := [(3, .int v8), (0, .ref a), (1, .int p1), (2, .int p2), (4, .int v2)]) (pc := 32) hx hb dX0_greatestLean_32 rfl hl (by decide) rfl (fun ls hl => ?_)
          cases hf
          exact J33_4 _ _ _ hw (lv_sub hl [1, 2, 3, 0, 4] rfl)
  obtain ⟨v10, hj, hf⟩ := b1_ob hf
  refine L5 _ 0 1 v10 hj _ _ _ hw (lv_sub hl [2, 3, 4, 1, 0] rfl) (fun H locs ls hw hl => ?_)
  clear hj L5
  refine lv_iload_n (pc := 39) hx hb dX0_greatestLean_39 rfl (lv_at hl 0 rfl) ?_
  cases hf
  exact hret _ _ 40 _ hw ⟨_, rfl, rfl⟩ dX0_greatestLean_40
