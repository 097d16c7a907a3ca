theorem in_X10_layGood_X10 : ∀ w ∈ wsX100, w ∈ wsX10_layGood := fun _ h => List.mem_cons_of_mem _ (List.mem_append_right _ h)
abbrev rmX10_layGood : Room := { frames := 3, cells := 0, slots := 0, locals := 75 }
def B_X10_layGood_14 (v1 : Int32) (v4 : Int32) (S5 : PS) : Option ((Int32 × PS) ⊕ (PS)) :=
  if (S5.1 11) ≤ v4 then
    some (.inr S5)
  else
  b2 (f_X10_isRight S5 v1 v4) fun v7 S8 =>
  b1 (wA 2048 S8 34 ((64 * v1) + v4) v7) fun S9 =>
  bn (v4 + 1) fun v10 =>
  some (.inl (v10, S9))
def L_X10_layGood_14 (v1 : Int32) (n : Nat) (v4 : Int32) (S5 : PS) : Option (PS) := loopF (fun x : Int32 × PS => B_X10_layGood_14 v1 x.1 x.2) n (v4, S5)
def B_X10_layGood_2 (v1 : Int32) (S2 : PS) : Option ((Int32 × PS) ⊕ (PS)) :=
  if ((1 : Int32) <<< ((S2.1 12) &&& 31)) ≤ v1 then
    some (.inr S2)
  else
  b1 (L_X10_layGood_14 v1 FU 0 S2) fun S11 =>
  bn (v1 + 1) fun v12 =>
  some (.inl (v12, S11))
def L_X10_layGood_2 (n : Nat) (v1 : Int32) (S2 : PS) : Option (PS) := loopF (fun x : Int32 × PS => B_X10_layGood_2 x.1 x.2) n (v1, S2)
def f_X10_layGood (S : PS) : Option (PS) :=
  b1 (L_X10_layGood_2 FU 0 S) fun S13 =>
  some S13
set_option maxHeartbeats 4000000 in
set_option maxRecDepth 100000 in
theorem c_X10_layGood (l : Launch) (D : va_G) (cs : CS) (a : Nat) (q : Nat → Nat) (S : PS) (S' : PS) (hf : f_X10_layGood S = some S') : CT l D (TY cs) yX10_layGood wsX10_layGood rmX10_layGood [.ref a] (wX10 cs a q S) none (wX10 cs a q S') := by
  refine CT.ofW (own := RX10) (cc := cX10_layGood) (maxL := 3) (ret := none) (by decide) rfl rfl (Nat.le_of_ble_eq_true rfl) ?_
  intro p e s m args below meth c A Q X hret ls hl hw
  obtain ⟨hx, hb, hml, hown, hts, hK, hA, hr, hlk⟩ := id X
  have hl : lv_has ls 3 [(0, .ref a)] := hl
  unfold f_X10_layGood at hf
  refine lv_iconst (pc := 0) (v := 0) hx hb dX10_layGood_0 (by decide) ?_
  refine lv_istore_n (lv' := [(1, .int 0), (0, .ref a)]) (pc := 1) hx hb dX10_layGood_1 rfl hl (by decide) rfl (fun ls hl => ?_)
  have L2 : ∀ (n : Nat) (v1 : Int32) (S2 : PS) (rS2 : PS), L_X10_layGood_2 n v1 S2 = some rS2 → ∀ (H : Heap) (locs : List Loc) (ls : Array Slot), WD D A s (wX10 cs a q S2) H locs → lv_has ls 3 [(0, .ref a), (1, .int v1)] → (∀ (H : Heap) (locs : List Loc) (ls : Array Slot), WD D A s (wX10 cs a q rS2) H locs → lv_has ls 3 [] → W p l e rmX10_layGood s m args below meth c H locs 0 0 Q (F0 m 51 ls [])) → W p l e rmX10_layGood s m args below meth c H locs 0 0 Q (F0 m 2 ls []) := by
    intro n
    induction n with
    | zero => intro v1 S2 rS2 hf; exact (loopF_z hf).elim
    | succ n ih =>
      intro v1 S2 rS2 hf H locs ls hw hl K
      obtain ⟨x, hf, hx0⟩ := loopF_ob hf
      have hf : B_X10_layGood_2 v1 S2 = some x := hf
      unfold B_X10_layGood_2 at hf
      refine lv_iload_n (pc := 2) hx hb dX10_layGood_2 rfl (lv_at hl 1 rfl) ?_
      refine lv_iconst (pc := 3) (v := 1) hx hb dX10_layGood_3 (by decide) ?_
      refine lv_aload_n (pc := 4) hx hb dX10_layGood_4 rfl (lv_at hl 0 rfl) ?_
      refine x_get (pc := 5) X hw in_X10_layGood_X10 0 rfl rfl 12 (by decide) (List.mem_of_getElem? (i := 1) rfl) rfl dX10_layGood_5 ?_
      refine lv_ishl (pc := 8) hx hb dX10_layGood_8 ?_
      refine lv_icmp_ge (pc := 9) (tgt := 51) hx hb dX10_layGood_9 (by decide) (fun c3 => ?_) (fun c3 => ?_)
      · have hf := ipos c3 hf
        cases hf
        cases (hx0 : S2 = rS2)
        exact K _ _ _ hw (lv_sub hl [] rfl)
      · have hf := ineg c3 hf
        refine lv_iconst (pc := 12) (v := 0) hx hb dX10_layGood_12 (by decide) ?_
        refine lv_istore_n (lv' := [(2, .int 0), (0, .ref a), (1, .int v1)]) (pc := 13) hx hb dX10_layGood_13 rfl hl (by decide) rfl (fun ls hl => ?_)
        have L14 : ∀ (n : Nat) (v4 : Int32) (S5 : PS) (rS5 : PS), L_X10_layGood_14 v1 n v4 S5 = some rS5 → ∀ (H : Heap) (locs : List Loc) (ls : Array Slot), WD D A s (wX10 cs a q S5) H locs → lv_has ls 3 [(0, .ref a), (1, .int v1), (2, .int v4)] → (∀ (H : Heap) (locs : List Loc) (ls : Array Slot), WD D A s (wX10 cs a q rS5) H locs → lv_has ls 3 [(0, .ref a), (1, .int v1)] → W p l e rmX10_layGood s m args below meth c H locs 0 0 Q (F0 m 45 ls [])) → W p l e rmX10_layGood s m args below meth c H locs 0 0 Q (F0 m 14 ls []) := by
          intro n
          induction n with
          | zero => intro v4 S5 rS5 hf; exact (loopF_z hf).elim
          | succ n ih =>
            intro v4 S5 rS5 hf H locs ls hw hl K
            obtain ⟨x, hf, hx0⟩ := loopF_ob hf
            have hf : B_X10_layGood_14 v1 v4 S5 = some x := hf
            unfold B_X10_layGood_14 at hf
            refine lv_iload_n (pc := 14) hx hb dX10_layGood_14 rfl (lv_at hl 2 rfl) ?_
            refine lv_aload_n (pc := 15) hx hb dX10_layGood_15 rfl (lv_at hl 0 rfl) ?_
            refine x_get (pc := 16) X hw in_X10_layGood_X10 0 rfl rfl 11 (by decide) (List.mem_of_getElem? (i := 2) rfl) rfl dX10_layGood_16 ?_
            refine lv_icmp_ge (pc := 19) (tgt := 45) hx hb dX10_layGood_19 (by decide) (fun c6 => ?_) (fun c6 => ?_)
            · have hf := ipos c6 hf
              cases hf
              cases (hx0 : S5 = rS5)
              exact K _ _ _ hw (lv_sub hl [0, 1] rfl)
            · have hf := ineg c6 hf
              refine lv_aload_n (pc := 22) hx hb dX10_layGood_22 rfl (lv_at hl 0 rfl) ?_
              refine x_get (pc := 23) X hw in_X10_layGood_X10 0 rfl rfl 34 (by decide) (List.mem_of_getElem? (i := 3) rfl) rfl dX10_layGood_23 ?_
              refine lv_bipush (pc := 26) (v := 64) hx hb dX10_layGood_26 (by decide) ?_
              refine lv_iload_n (pc := 28) hx hb dX10_layGood_28 rfl (lv_at hl 1 rfl) ?_
              refine lv_imul (pc := 29) hx hb dX10_layGood_29 ?_
              refine lv_iload_n (pc := 30) hx hb dX10_layGood_30 rfl (lv_at hl 2 rfl) ?_
              refine lv_iadd (pc := 31) hx hb dX10_layGood_31 ?_
              refine lv_aload_n (pc := 32) hx hb dX10_layGood_32 rfl (lv_at hl 0 rfl) ?_
              refine lv_iload_n (pc := 33) hx hb dX10_layGood_33 rfl (lv_at hl 1 rfl) ?_
              refine lv_iload_n (pc := 34) hx hb dX10_layGood_34 rfl (lv_at hl 2 rfl) ?_
              obtain ⟨v7, S8, hc, hf⟩ := b2_ob hf
              refine x_all (pc := 35) X hw (va_runV (As := [.int v1, .int v4]) (rest := [.int ((64 * v1) + v4), .ref (q 34)]) ⟨hx, hb, hml, hown, hts⟩ (c_X10_isRight l D cs a q S5 v1 v4 v7 S8 hc _) (cwV 2 hts gX10_layGood_X10_isRight rfl rfl rfl (by decide +kernel) ⟨Nat.le_of_ble_eq_true rfl, Nat.le_of_ble_eq_true rfl⟩) ⟨CP_blind, va_recv hK hw.1 (ci := 10) (q0 := 0) rfl rfl, x_preA X hw [.ref a, .int v1, .int v4]⟩ rfl rfl hl.1 rfl (lv_room (Nat.le_of_ble_eq_true rfl)) dX10_layGood_35 ⟨Nat.zero_le _, Nat.zero_le _⟩) (fun H locs hw => ?_)
              obtain ⟨S9, eS9, hf⟩ := b1_ob hf
              refine x_iast (pc := 38) X hw 19 0 rfl rfl (wA_ob eS9).1 dX10_layGood_38 (ws2 := wX10 cs a q S9) (by rw [(wA_ob eS9).2]; rfl) (fun H locs hw => ?_)
              obtain ⟨v10, ev10, hf⟩ := bn_ob hf
              refine lv_iinc (pc := 39) (v := v10) (lv' := [(2, .int v10), (0, .ref a), (1, .int v1)]) hx hb dX10_layGood_39 hl (k := 2) rfl (by rw [ev10]; rfl) (by decide) rfl (fun ls hl => ?_)
              refine lv_goto (pc := 42) (tgt := 14) hx hb dX10_layGood_42 (by decide) ?_
              cases hf
              exact ih v10 S9 rS5 hx0 _ _ _ hw (lv_sub hl [1, 2, 0] rfl) K
        obtain ⟨S11, hj, hf⟩ := b1_ob hf
        refine L14 _ 0 S2 S11 hj _ _ _ hw (lv_sub hl [1, 2, 0] rfl) (fun H locs ls hw hl => ?_)
        clear hj L14
        obtain ⟨v12, ev12, hf⟩ := bn_ob hf
        refine lv_iinc (pc := 45) (v := v12) (lv' := [(1, .int v12), (0, .ref a)]) hx hb dX10_layGood_45 hl (k := 1) rfl (by rw [ev12]; rfl) (by decide) rfl (fun ls hl => ?_)
        refine lv_goto (pc := 48) (tgt := 2) hx hb dX10_layGood_48 (by decide) ?_
        cases hf
        exact ih v12 S11 rS2 hx0 _ _ _ hw (lv_sub hl [1, 0] rfl) K
  obtain ⟨S13, hj, hf⟩ := b1_ob hf
  refine L2 _ 0 S S13 hj _ _ _ hw (lv_sub hl [1, 0] rfl) (fun H locs ls hw hl => ?_)
  clear hj L2
  cases hf
  exact hret _ _ 51 _ hw rfl dX10_layGood_51

theorem in_X10_rightFrom_X10 : ∀ w ∈ wsX100, w ∈ wsX10_rightFrom := fun _ h => List.mem_cons_of_mem _ (List.mem_append_right _ h)
abbrev rmX10_rightFrom : Room := { frames := 0, cells := 0, slots := 0, locals := 0 }
def B_X10_rightFrom_6 (S : PS) (p1 : Int32) (p2 : Int32) (p3 : Int32) (v1 : Int32) (v2 : Int32) : Option ((Int32 × Int32) ⊕ (Int32)) :=
  if (p2 + p3) ≤ v2 then
    some (.inr v1)
  else
  b1 (rdI 2048 (S.2.1 34) ((64 * p1) + v2)) fun v4 =>
  bn (v1 + v4) fun v5 =>
  bn (v2 + 1) fun v6 =>
  some (.inl (v5, v6))
def L_X10_rightFrom_6 (S : PS) (p1 : Int32) (p2 : Int32) (p3 : Int32) (n : Nat) (v1 : Int32) (v2 : Int32) : Option (Int32) := loopF (fun x : Int32 × Int32 => B_X10_rightFrom_6 S p1 p2 p3 x.1 x.2) n (v1, v2)
def f_X10_rightFrom (S : PS) (p1 : Int32) (p2 : Int32) (p3 : Int32) : Option (Int32) :=
  b1 (L_X10_rightFrom_6 S p1 p2 p3 FU 0 p2) fun v7 =>
  some v7
set_option maxHeartbeats 4000000 in
set_option maxRecDepth 100000 in
theorem c_X10_rightFrom (l : Launch) (D : va_G) (cs : CS) (a : Nat) (q : Nat → Nat) (S : PS) (p1 : Int32) (p2 : Int32) (p3 : Int32) (r : Int32) (hf : f_X10_rightFrom S p1 p2 p3 = some r) : CT l D (TY cs) yX10_rightFrom wsX10_rightFrom rmX10_rightFrom [.ref a, .int p1, .int p2, .int p3] (wX10 cs a q S) (some (.int r)) (wX10 cs a q S) := by
  refine CT.ofW (own := RX10) (cc := cX10_rightFrom) (maxL := 6) (ret := some .int) (by decide) rfl rfl (Nat.le_of_ble_eq_true rfl) ?_
  intro p e s m args below meth c A Q X hret ls hl hw
  obtain ⟨hx, hb, hml, hown, hts, hK, hA, hr, hlk⟩ := id X
  have hl : lv_has ls 6 [(0, .ref a), (1, .int p1), (2, .int p2), (3, .int p3)] := hl
  unfold f_X10_rightFrom at hf
  refine lv_iconst (pc := 0) (v := 0) hx hb dX10_rightFrom_0 (by decide) ?_
  refine lv_istore (lv' := [(4, .int 0), (0, .ref a), (1, .int p1), (2, .int p2), (3, .int p3)]) (pc := 1) hx hb dX10_rightFrom_1 hl (by decide) rfl (fun ls hl => ?_)
  refine lv_iload_n (pc := 3) hx hb dX10_rightFrom_3 rfl (lv_at hl 3 rfl) ?_
  refine lv_istore (lv' := [(5, .int p2), (4, .int 0), (0, .ref a), (1, .int p1), (2, .int p2), (3, .int p3)]) (pc := 4) hx hb dX10_rightFrom_4 hl (by decide) rfl (fun ls hl => ?_)
  have L6 : ∀ (n : Nat) (v1 : Int32) (v2 : Int32) (rv1 : Int32), L_X10_rightFrom_6 S p1 p2 p3 n v1 v2 = some rv1 → ∀ (H : Heap) (locs : List Loc) (ls : Array Slot), WD D A s (wX10 cs a q S) H locs → lv_has ls 6 [(0, .ref a), (1, .int p1), (2, .int p2), (3, .int p3), (4, .int v1), (5, .int v2)] → (∀ (H : Heap) (locs : List Loc) (ls : Array Slot), WD D A s (wX10 cs a q S) H locs → lv_has ls 6 [(4, .int rv1)] → W p l e rmX10_rightFrom s m args below meth c H locs 0 0 Q (F0 m 37 ls [])) → W p l e rmX10_rightFrom s m args below meth c H locs 0 0 Q (F0 m 6 ls []) := by
    intro n
    induction n with
    | zero => intro v1 v2 rv1 hf; exact (loopF_z hf).elim
    | succ n ih =>
      intro v1 v2 rv1 hf H locs ls hw hl K
      obtain ⟨x, hf, hx0⟩ := loopF_ob hf
      have hf : B_X10_rightFrom_6 S p1 p2 p3 v1 v2 = some x := hf
      unfold B_X10_rightFrom_6 at hf
      refine lv_iload (pc := 6) hx hb dX10_rightFrom_6 (lv_at hl 5 rfl) ?_
      refine lv_iload_n (pc := 8) hx hb dX10_rightFrom_8 rfl (lv_at hl 2 rfl) ?_
      refine lv_iload_n (pc := 9) hx hb dX10_rightFrom_9 rfl (lv_at hl 3 rfl) ?_
      refine lv_iadd (pc := 10) hx hb dX10_rightFrom_10 ?_
      refine lv_icmp_ge (pc := 11) (tgt := 37) hx hb dX10_rightFrom_11 (by decide) (fun c3 => ?_) (fun c3 => ?_)
      · have hf := ipos c3 hf
        cases hf
        cases (hx0 : v1 = rv1)
        exact K _ _ _ hw (lv_sub hl [4] rfl)
      · have hf := ineg c3 hf
        refine lv_iload (pc := 14) hx hb dX10_rightFrom_14 (lv_at hl 4 rfl) ?_
        refine lv_aload_n (pc := 16) hx hb dX10_rightFrom_16 rfl (lv_at hl 0 rfl) ?_
        refine x_get (pc := 17) X hw in_X10_rightFrom_X10 0 rfl rfl 34 (by decide) (List.mem_of_getElem? (i := 1) rfl) rfl dX10_rightFrom_17 ?_
        refine lv_bipush (pc := 20) (v := 64) hx hb dX10_rightFrom_20 (by decide) ?_
        refine lv_iload_n (pc := 22) hx hb dX10_rightFrom_22 rfl (lv_at hl 1 rfl) ?_
        refine lv_imul (pc := 23) hx hb dX10_rightFrom_23 ?_
        refine lv_iload (pc := 24) hx hb dX10_rightFrom_24 (lv_at hl 5 rfl) ?_
        refine lv_iadd (pc := 26) hx hb dX10_rightFrom_26 ?_
        obtain ⟨v4, ev4, hf⟩ := b1_ob hf
        refine x_iald (pc := 27) X hw 19 0 rfl rfl ev4 dX10_rightFrom_27 ?_
        refine lv_iadd (pc := 28) hx hb dX10_rightFrom_28 ?_
        obtain ⟨v5, ev5, hf⟩ := bn_ob hf
        refine x_topi ev5 ?_
        refine lv_istore (lv' := [(4, .int v5), (0, .ref a), (1, .int p1), (2, .int p2), (3, .int p3), (5, .int v2)]) (pc := 29) hx hb dX10_rightFrom_29 hl (by decide) rfl (fun ls hl => ?_)
        obtain ⟨v6, ev6, hf⟩ := bn_ob hf
        refine lv_iinc (pc := 31) (v := v6) (lv' := [(5, .int v6), (4, .int v5), (0, .ref a), (1, .int p1), (2, .int p2), (3, .int p3)]) hx hb dX10_rightFrom_31 hl (k := 5) rfl (by rw [ev6]; rfl) (by decide) rfl (fun ls hl => ?_)
        refine lv_goto (pc := 34) (tgt := 6) hx hb dX10_rightFrom_34 (by decide) ?_
        cases hf
        exact ih v5 v6 rv1 hx0 _ _ _ hw (lv_sub hl [2, 3, 4, 5, 1, 0] rfl) K
  obtain ⟨v7, hj, hf⟩ := b1_ob hf
  refine L6 _ 0 p2 v7 hj _ _ _ hw (lv_sub hl [2, 3, 4, 5, 1, 0] rfl) (fun H locs ls hw hl => ?_)
  clear hj L6
  refine lv_iload (pc := 37) hx hb dX10_rightFrom_37 (lv_at hl 0 rfl) ?_
  cases hf
  exact hret _ _ 39 _ hw ⟨_, rfl, rfl⟩ dX10_rightFrom_39

abbrev rmX10_isPart : Room := { frames := 1, cells := 0, slots := 0, locals := 25 }
def f_X10_isPart (p1 : Int32) : Option (Int32) :=
  b1 (f_X10_in (p1.toInt64) 0 1) fun v1 =>
  b1 (ckB v1) fun v2 =>
  some v2
set_option maxHeartbeats 4000000 in
set_option maxRecDepth 100000 in
theorem c_X10_isPart (l : Launch) (D : va_G) (cs : CS) (p1 : Int32) (r : Int32) (hf : f_X10_isPart p1 = some r) : CT l D (TY cs) yX10_isPart wsX10_isPart rmX10_isPart [.int p1] ([]) (some (.int r)) ([]) := by
  refine CT.ofW (own := RX10) (cc := cX10_isPart) (maxL := 1) (ret := some .boolean) (by decide) rfl rfl (Nat.le_of_ble_eq_true rfl) ?_
  intro p e s m args below meth c A Q X hret ls hl hw
  obtain ⟨hx, hb, hml, hown, hts, hK, hA, hr, hlk⟩ := id X
  have hl : lv_has ls 1 [(0, .int p1)] := hl
  unfold f_X10_isPart at hf
  refine lv_iload_n (pc := 0) hx hb dX10_isPart_0 rfl (lv_at hl 0 rfl) ?_
  refine lv_i2l (pc := 1) hx hb dX10_isPart_1 rfl ?_
  refine lv_lconst (pc := 2) (v := 0) hx hb dX10_isPart_2 (by decide) ?_
  refine lv_lconst (pc := 3) (v := 1) hx hb dX10_isPart_3 (by decide) ?_
  obtain ⟨v1, hc, hf⟩ := b1_ob hf
  refine x_nil (pc := 4) X hw (va_runS (As := [.long (p1.toInt64), .long 0, .long 1]) (rest := []) ⟨hx, hb, hml, hown, hts⟩ (c_X10_in l D cs (p1.toInt64) 0 1 v1 hc _) (va_cwS 3 hts gX10_isPart_X10_in rfl rfl rfl (by decide +kernel) ⟨Nat.le_of_ble_eq_true rfl, Nat.le_of_ble_eq_true rfl⟩) ⟨CP_blind, x_preN X [.long (p1.toInt64), .long 0, .long 1]⟩ rfl rfl hl.1 rfl (lv_room (Nat.le_of_ble_eq_true rfl)) dX10_isPart_4 ⟨Nat.zero_le _, Nat.zero_le _⟩) (fun H locs hw => ?_)
  obtain ⟨v2, ev2, hf⟩ := b1_ob hf
  refine x_topi (ckB_ob ev2).1.symm ?_
  cases hf
  exact hret _ _ 7 _ hw ⟨_, rfl, ckB_nar (ckB_ob ev2).2⟩ dX10_isPart_7

theorem in_X10_odds_X10 : ∀ w ∈ wsX100, w ∈ wsX10_odds := fun _ h => List.mem_cons_of_mem _ (List.mem_append_right _ h)
abbrev rmX10_odds : Room := { frames := 4, cells := 0, slots := 0, locals := 97 }
def f_X10_odds (S : PS) (p1 : Int32) (p2 : Int32) : Option (Int32 × PS) :=
  b1 (f_X10_isInput S p1) fun v1 =>
  if v1 = 0 then
    some ((-2), S)
  else
  b1 (f_X10_isPart p2) fun v3 =>
  if v3 = 0 then
    some ((-3), S)
  else
  b1 (f_X10_layGood S) fun S5 =>
  b1 (f_X10_rightFrom S5 p1 0 (S5.1 11)) fun v6 =>
  b1 (f_X10_partOf (v6.toInt64) ((S5.1 11).toInt64) p2) fun v7 =>
  some (v7, S5)
set_option maxHeartbeats 4000000 in
set_option maxRecDepth 100000 in
theorem c_X10_odds (l : Launch) (D : va_G) (cs : CS) (a : Nat) (q : Nat → Nat) (S : PS) (p1 : Int32) (p2 : Int32) (r : Int32) (S' : PS) (hf : f_X10_odds S p1 p2 = some (r, S')) : CT l D (TY cs) yX10_odds wsX10_odds rmX10_odds [.ref a, .int p1, .int p2] (wX10 cs a q S) (some (.int r)) (wX10 cs a q S') := by
  refine CT.ofW (own := RX10) (cc := cX10_odds) (maxL := 3) (ret := some .int) (by decide) rfl rfl (Nat.le_of_ble_eq_true rfl) ?_
  intro p e s m args below meth c A Q X hret ls hl hw
  obtain ⟨hx, hb, hml, hown, hts, hK, hA, hr, hlk⟩ := id X
  have hl : lv_has ls 3 [(0, .ref a), (1, .int p1), (2, .int p2)] := hl
  unfold f_X10_odds at hf
  refine lv_aload_n (pc := 0) hx hb dX10_odds_0 rfl (lv_at hl 0 rfl) ?_
  refine lv_iload_n (pc := 1) hx hb dX10_odds_1 rfl (lv_at hl 1 rfl) ?_
  obtain ⟨v1, hc, hf⟩ := b1_ob hf
  refine x_all (pc := 2) X hw (va_runV (As := [.int p1]) (rest := []) ⟨hx, hb, hml, hown, hts⟩ (c_X10_isInput l D cs a q S p1 v1 hc _) (cwV 1 hts gX10_odds_X10_isInput rfl rfl rfl (by decide +kernel) ⟨Nat.le_of_ble_eq_true rfl, Nat.le_of_ble_eq_true rfl⟩) ⟨CP_blind, va_recv hK hw.1 (ci := 10) (q0 := 0) rfl rfl, x_preA X hw [.ref a, .int p1]⟩ rfl rfl hl.1 rfl (lv_room (Nat.le_of_ble_eq_true rfl)) dX10_odds_2 ⟨Nat.zero_le _, Nat.zero_le _⟩) (fun H locs hw => ?_)
  refine lv_if_ne (pc := 5) (tgt := 11) hx hb dX10_odds_5 (by decide) (fun c2 => ?_) (fun c2 => ?_)
  · have hf := ineg c2 hf
    refine lv_iload_n (pc := 11) hx hb dX10_odds_11 rfl (lv_at hl 2 rfl) ?_
    obtain ⟨v3, hc, hf⟩ := b1_ob hf
    refine x_nil (pc := 12) X hw (va_runS (As := [.int p2]) (rest := []) ⟨hx, hb, hml, hown, hts⟩ (c_X10_isPart l D cs p2 v3 hc _) (va_cwS 1 hts gX10_odds_X10_isPart rfl rfl rfl (by decide +kernel) ⟨Nat.le_of_ble_eq_true rfl, Nat.le_of_ble_eq_true rfl⟩) ⟨CP_blind, x_preN X [.int p2]⟩ rfl rfl hl.1 rfl (lv_room (Nat.le_of_ble_eq_true rfl)) dX10_odds_12 ⟨Nat.zero_le _, Nat.zero_le _⟩) (fun H locs hw => ?_)
    refine lv_if_ne (pc := 15) (tgt := 21) hx hb dX10_odds_15 (by decide) (fun c4 => ?_) (fun c4 => ?_)
    · have hf := ineg c4 hf
      refine lv_aload_n (pc := 21) hx hb dX10_odds_21 rfl (lv_at hl 0 rfl) ?_
      obtain ⟨S5, hc, hf⟩ := b1_ob hf
      refine x_all (pc := 22) X hw (va_runV (As := []) (rest := []) ⟨hx, hb, hml, hown, hts⟩ (c_X10_layGood l D cs a q S S5 hc _) (cwV 0 hts gX10_odds_X10_layGood rfl rfl rfl (by decide +kernel) ⟨Nat.le_of_ble_eq_true rfl, Nat.le_of_ble_eq_true rfl⟩) ⟨CP_blind, va_recv hK hw.1 (ci := 10) (q0 := 0) rfl rfl, x_preA X hw [.ref a]⟩ rfl rfl hl.1 rfl (lv_room (Nat.le_of_ble_eq_true rfl)) dX10_odds_22 ⟨Nat.zero_le _, Nat.zero_le _⟩) (fun H locs hw => ?_)
      refine lv_aload_n (pc := 25) hx hb dX10_odds_25 rfl (lv_at hl 0 rfl) ?_
      refine lv_iload_n (pc := 26) hx hb dX10_odds_26 rfl (lv_at hl 1 rfl) ?_
      refine lv_iconst (pc := 27) (v := 0) hx hb dX10_odds_27 (by decide) ?_
      refine lv_aload_n (pc := 28) hx hb dX10_odds_28 rfl (lv_at hl 0 rfl) ?_
      refine x_get (pc := 29) X hw in_X10_odds_X10 0 rfl rfl 11 (by decide) (List.mem_of_getElem? (i := 1) rfl) rfl dX10_odds_29 ?_
      obtain ⟨v6, hc, hf⟩ := b1_ob hf
      refine x_all (pc := 32) X hw (va_runV (As := [.int p1, .int 0, .int (S5.1 11)]) (rest := []) ⟨hx, hb, hml, hown, hts⟩ (c_X10_rightFrom l D cs a q S5 p1 0 (S5.1 11) v6 hc _) (cwV 3 hts gX10_odds_X10_rightFrom rfl rfl rfl (by decide +kernel) ⟨Nat.le_of_ble_eq_true rfl, Nat.le_of_ble_eq_true rfl⟩) ⟨CP_blind, va_recv hK hw.1 (ci := 10) (q0 := 0) rfl rfl, x_preA X hw [.ref a, .int p1, .int 0, .int (S5.1 11)]⟩ rfl rfl hl.1 rfl (lv_room (Nat.le_of_ble_eq_true rfl)) dX10_odds_32 ⟨Nat.zero_le _, Nat.zero_le _⟩) (fun H locs hw => ?_)
      refine lv_i2l (pc := 35) hx hb dX10_odds_35 rfl ?_
      refine lv_aload_n (pc := 36) hx hb dX10_odds_36 rfl (lv_at hl 0 rfl) ?_
      refine x_get (pc := 37) X hw in_X10_odds_X10 0 rfl rfl 11 (by decide) (List.mem_of_getElem? (i := 1) rfl) rfl dX10_odds_37 ?_
      refine lv_i2l (pc := 40) hx hb dX10_odds_40 rfl ?_
      refine lv_iload_n (pc := 41) hx hb dX10_odds_41 rfl (lv_at hl 2 rfl) ?_
      obtain ⟨v7, hc, hf⟩ := b1_ob hf
      refine x_nil (pc := 42) X hw (va_runS (As := [.long (v6.toInt64), .long ((S5.1 11).toInt64), .int p2]) (rest := []) ⟨hx, hb, hml, hown, hts⟩ (c_X10_partOf l D cs (v6.toInt64) ((S5.1 11).toInt64) p2 v7 hc _) (va_cwS 3 hts gX10_odds_X10_partOf rfl rfl rfl (by decide +kernel) ⟨Nat.le_of_ble_eq_true rfl, Nat.le_of_ble_eq_true rfl⟩) ⟨CP_blind, x_preN X [.long (v6.toInt64), .long ((S5.1 11).toInt64), .int p2]⟩ rfl rfl hl.1 rfl (lv_room (Nat.le_of_ble_eq_true rfl)) dX10_odds_42 ⟨Nat.zero_le _, Nat.zero_le _⟩) (fun H locs hw => ?_)
      cases hf
      exact hret _ _ 45 _ hw ⟨_, rfl, rfl⟩ dX10_odds_45
    · have hf := ipos c4 hf
      refine lv_bipush (pc := 18) (v := (-3)) hx hb dX10_odds_18 (by decide) ?_
      cases hf
      exact hret _ _ 20 _ hw ⟨_, rfl, rfl⟩ dX10_odds_20
  · have hf := ipos c2 hf
    refine lv_bipush (pc := 8) (v := (-2)) hx hb dX10_odds_8 (by decide) ?_
    cases hf
    exact hret _ _ 10 _ hw ⟨_, rfl, rfl⟩ dX10_odds_10

theorem in_X10_worst_X10 : ∀ w ∈ wsX100, w ∈ wsX10_worst := fun _ h => List.mem_cons_of_mem _ (List.mem_append_right _ h)
abbrev rmX10_worst : Room := { frames := 4, cells := 0, slots := 0, locals := 97 }
def B_X10_worst_23 (S3 : PS) (v4 : Int32) (v5 : Int32) : Option ((Int32 × Int32) ⊕ (Int32)) :=
  if ((1 : Int32) <<< ((S3.1 12) &&& 31)) ≤ v5 then
    some (.inr v4)
  else
  b1 (f_X10_rightFrom S3 v5 0 (S3.1 11)) fun v7 =>
  b1 (f_X10_rightFrom S3 v4 0 (S3.1 11)) fun v8 =>
  b1 (
    if v8 ≤ v7 then
      some v4
    else
    some v5) fun v9 =>
  bn (v5 + 1) fun v11 =>
  some (.inl (v9, v11))
def L_X10_worst_23 (S3 : PS) (n : Nat) (v4 : Int32) (v5 : Int32) : Option (Int32) := loopF (fun x : Int32 × Int32 => B_X10_worst_23 S3 x.1 x.2) n (v4, v5)
def f_X10_worst (S : PS) (p1 : Int32) : Option (Int32 × PS) :=
  b1 (f_X10_in (p1.toInt64) 0 (2)) fun v1 =>
  if v1 = 0 then
    some ((-3), S)
  else
  b1 (f_X10_layGood S) fun S3 =>
  b1 (L_X10_worst_23 S3 FU 0 1) fun v12 =>
  b1 (
    if p1 = 2 then
      some v12
    else
    b1 (f_X10_rightFrom S3 v12 0 (S3.1 11)) fun v15 =>
    b1 (f_X10_partOf (v15.toInt64) ((S3.1 11).toInt64) p1) fun v16 =>
    some v16) fun v13 =>
  some (v13, S3)
set_option maxHeartbeats 4000000 in
set_option maxRecDepth 100000 in
theorem c_X10_worst (l : Launch) (D : va_G) (cs : CS) (a : Nat) (q : Nat → Nat) (S : PS) (p1 : Int32) (r : Int32) (S' : PS) (hf : f_X10_worst S p1 = some (r, S')) : CT l D (TY cs) yX10_worst wsX10_worst rmX10_worst [.ref a, .int p1] (wX10 cs a q S) (some (.int r)) (wX10 cs a q S') := by
  refine CT.ofW (own := RX10) (cc := cX10_worst) (maxL := 4) (ret := some .int) (by decide) rfl rfl (Nat.le_of_ble_eq_true rfl) ?_
  intro p e s m args below meth c A Q X hret ls hl hw
  obtain ⟨hx, hb, hml, hown, hts, hK, hA, hr, hlk⟩ := id X
  have hl : lv_has ls 4 [(0, .ref a), (1, .int p1)] := hl
  unfold f_X10_worst at hf
  refine lv_iload_n (pc := 0) hx hb dX10_worst_0 rfl (lv_at hl 1 rfl) ?_
  refine lv_i2l (pc := 1) hx hb dX10_worst_1 rfl ?_
  refine lv_lconst (pc := 2) (v := 0) hx hb dX10_worst_2 (by decide) ?_
  refine lv_ldc2 (pc := 3) (v := (2)) hx hb hown (hts _ (List.mem_of_getElem? (i := 1) rfl)) dX10_worst_3 ?_
  obtain ⟨v1, hc, hf⟩ := b1_ob hf
  refine x_nil (pc := 6) X hw (va_runS (As := [.long (p1.toInt64), .long 0, .long (2)]) (rest := []) ⟨hx, hb, hml, hown, hts⟩ (c_X10_in l D cs (p1.toInt64) 0 (2) v1 hc _) (va_cwS 3 hts gX10_worst_X10_in rfl rfl rfl (by decide +kernel) ⟨Nat.le_of_ble_eq_true rfl, Nat.le_of_ble_eq_true rfl⟩) ⟨CP_blind, x_preN X [.long (p1.toInt64), .long 0, .long (2)]⟩ rfl rfl hl.1 rfl (lv_room (Nat.le_of_ble_eq_true rfl)) dX10_worst_6 ⟨Nat.zero_le _, Nat.zero_le _⟩) (fun H locs hw => ?_)
  refine lv_if_ne (pc := 9) (tgt := 15) hx hb dX10_worst_9 (by decide) (fun c2 => ?_) (fun c2 => ?_)
  · have hf := ineg c2 hf
    refine lv_aload_n (pc := 15) hx hb dX10_worst_15 rfl (lv_at hl 0 rfl) ?_
    obtain ⟨S3, hc, hf⟩ := b1_ob hf
    refine x_all (pc := 16) X hw (va_runV (As := []) (rest := []) ⟨hx, hb, hml, hown, hts⟩ (c_X10_layGood l D cs a q S S3 hc _) (cwV 0 hts gX10_worst_X10_layGood rfl rfl rfl (by decide +kernel) ⟨Nat.le_of_ble_eq_true rfl, Nat.le_of_ble_eq_true rfl⟩) ⟨CP_blind, va_recv hK hw.1 (ci := 10) (q0 := 0) rfl rfl, x_preA X hw [.ref a]⟩ rfl rfl hl.1 rfl (lv_room (Nat.le_of_ble_eq_true rfl)) dX10_worst_16 ⟨Nat.zero_le _, Nat.zero_le _⟩) (fun H locs hw => ?_)
    refine lv_iconst (pc := 19) (v := 0) hx hb dX10_worst_19 (by decide) ?_
    refine lv_istore_n (lv' := [(2, .int 0), (0, .ref a), (1, .int p1)]) (pc := 20) hx hb dX10_worst_20 rfl hl (by decide) rfl (fun ls hl => ?_)
    refine lv_iconst (pc := 21) (v := 1) hx hb dX10_worst_21 (by decide) ?_
    refine lv_istore_n (lv' := [(3, .int 1), (2, .int 0), (0, .ref a), (1, .int p1)]) (pc := 22) hx hb dX10_worst_22 rfl hl (by decide) rfl (fun ls hl => ?_)
    have L23 : ∀ (n : Nat) (v4 : Int32) (v5 : Int32) (rv4 : Int32), L_X10_worst_23 S3 n v4 v5 = some rv4 → ∀ (H : Heap) (locs : List Loc) (ls : Array Slot), WD D A s (wX10 cs a q S3) H locs → lv_has ls 4 [(0, .ref a), (1, .int p1), (2, .int v4), (3, .int v5)] → (∀ (H : Heap) (locs : List Loc) (ls : Array Slot), WD D A s (wX10 cs a q S3) H locs → lv_has ls 4 [(0, .ref a), (1, .int p1), (2, .int rv4)] → W p l e rmX10_worst s m args below meth c H locs 0 0 Q (F0 m 68 ls [])) → W p l e rmX10_worst s m args below meth c H locs 0 0 Q (F0 m 23 ls []) := by
      intro n
      induction n with
      | zero => intro v4 v5 rv4 hf; exact (loopF_z hf).elim
      | succ n ih =>
        intro v4 v5 rv4 hf H locs ls hw hl K
        obtain ⟨x, hf, hx0⟩ := loopF_ob hf
        have hf : B_X10_worst_23 S3 v4 v5 = some x := hf
        unfold B_X10_worst_23 at hf
        refine lv_iload_n (pc := 23) hx hb dX10_worst_23 rfl (lv_at hl 3 rfl) ?_
        refine lv_iconst (pc := 24) (v := 1) hx hb dX10_worst_24 (by decide) ?_
        refine lv_aload_n (pc := 25) hx hb dX10_worst_25 rfl (lv_at hl 0 rfl) ?_
        refine x_get (pc := 26) X hw in_X10_worst_X10 0 rfl rfl 12 (by decide) (List.mem_of_getElem? (i := 2) rfl) rfl dX10_worst_26 ?_
        refine lv_ishl (pc := 29) hx hb dX10_worst_29 ?_
        refine lv_icmp_ge (pc := 30) (tgt := 68) hx hb dX10_worst_30 (by decide) (fun c6 => ?_) (fun c6 => ?_)
        · have hf := ipos c6 hf
          cases hf
          cases (hx0 : v4 = rv4)
          exact K _ _ _ hw (lv_sub hl [0, 1, 2] rfl)
        · have hf := ineg c6 hf
          refine lv_aload_n (pc := 33) hx hb dX10_worst_33 rfl (lv_at hl 0 rfl) ?_
          refine lv_iload_n (pc := 34) hx hb dX10_worst_34 rfl (lv_at hl 3 rfl) ?_
          refine lv_iconst (pc := 35) (v := 0) hx hb dX10_worst_35 (by decide) ?_
          refine lv_aload_n (pc := 36) hx hb dX10_worst_36 rfl (lv_at hl 0 rfl) ?_
          refine x_get (pc := 37) X hw in_X10_worst_X10 0 rfl rfl 11 (by decide) (List.mem_of_getElem? (i := 3) rfl) rfl dX10_worst_37 ?_
          obtain ⟨v7, hc, hf⟩ := b1_ob hf
          refine x_all (pc := 40) X hw (va_runV (As := [.int v5, .int 0, .int (S3.1 11)]) (rest := []) ⟨hx, hb, hml, hown, hts⟩ (c_X10_rightFrom l D cs a q S3 v5 0 (S3.1 11) v7 hc _) (cwV 3 hts gX10_worst_X10_rightFrom rfl rfl rfl (by decide +kernel) ⟨Nat.le_of_ble_eq_true rfl, Nat.le_of_ble_eq_true rfl⟩) ⟨CP_blind, va_recv hK hw.1 (ci := 10) (q0 := 0) rfl rfl, x_preA X hw [.ref a, .int v5, .int 0, .int (S3.1 11)]⟩ rfl rfl hl.1 rfl (lv_room (Nat.le_of_ble_eq_true rfl)) dX10_worst_40 ⟨Nat.zero_le _, Nat.zero_le _⟩) (fun H locs hw => ?_)
          refine lv_aload_n (pc := 43) hx hb dX10_worst_43 rfl (lv_at hl 0 rfl) ?_
          refine lv_iload_n (pc := 44) hx hb dX10_worst_44 rfl (lv_at hl 2 rfl) ?_
          refine lv_iconst (pc := 45) (v := 0) hx hb dX10_worst_45 (by decide) ?_
          refine lv_aload_n (pc := 46) hx hb dX10_worst_46 rfl (lv_at hl 0 rfl) ?_
          refine x_get (pc := 47) X hw in_X10_worst_X10 0 rfl rfl 11 (by decide) (List.mem_of_getElem? (i := 3) rfl) rfl dX10_worst_47 ?_
          obtain ⟨v8, hc, hf⟩ := b1_ob hf
          refine x_all (pc := 50) X hw (va_runV (As := [.int v4, .int 0, .int (S3.1 11)]) (rest := [.int v7]) ⟨hx, hb, hml, hown, hts⟩ (c_X10_rightFrom l D cs a q S3 v4 0 (S3.1 11) v8 hc _) (cwV 3 hts gX10_worst_X10_rightFrom rfl rfl rfl (by decide +kernel) ⟨Nat.le_of_ble_eq_true rfl, Nat.le_of_ble_eq_true rfl⟩) ⟨CP_blind, va_recv hK hw.1 (ci := 10) (q0 := 0) rfl rfl, x_preA X hw [.ref a, .int v4, .int 0, .int (S3.1 11)]⟩ rfl rfl hl.1 rfl (lv_room (Nat.le_of_ble_eq_true rfl)) dX10_worst_50 ⟨Nat.zero_le _, Nat.zero_le _⟩) (fun H locs hw => ?_)
          obtain ⟨v9, hj, hf⟩ := b1_ob hf
          have J61_8 : ∀ (H : Heap) (locs : List Loc) (ls : Array Slot), WD D A s (wX10 cs a q S3) H locs → lv_has ls 4 [(0, .ref a), (1, .int p1), (3, .int v5)] → W p l e rmX10_worst s m args below meth c H locs 0 0 Q (F0 m 61 ls [.int v9]) := by
            intro H locs ls hw hl
            refine lv_istore_n (lv' := [(2, .int v9), (0, .ref a), (1, .int p1), (3, .int v5)]) (pc := 61) hx hb dX10_worst_61 rfl hl (by decide) rfl (fun ls hl => ?_)
            obtain ⟨v11, ev11, hf⟩ := bn_ob hf
            refine lv_iinc (pc := 62) (v := v11) (lv' := [(3, .int v11), (2, .int v9), (0, .ref a), (1, .int p1)]) hx hb dX10_worst_62 hl (k := 3) rfl (by rw [ev11]; rfl) (by decide) rfl (fun ls hl => ?_)
            refine lv_goto (pc := 65) (tgt := 23) hx hb dX10_worst_65 (by decide) ?_
            cases hf
            exact ih v9 v11 rv4 hx0 _ _ _ hw (lv_sub hl [2, 3, 1, 0] rfl) K
          clear hf; have hf := hj; clear hj
          refine lv_icmp_ge (pc := 53) (tgt := 60) hx hb dX10_worst_53 (by decide) (fun c10 => ?_) (fun c10 => ?_)
          · have hf := ipos c10 hf
            refine lv_iload_n (pc := 60) hx hb dX10_worst_60 rfl (lv_at hl 2 rfl) ?_
            cases hf
            exact J61_8 _ _ _ hw (lv_sub hl [0, 1, 3] rfl)
          · have hf := ineg c10 hf
            refine lv_iload_n (pc := 56) hx hb dX10_worst_56 rfl (lv_at hl 3 rfl) ?_
            refine lv_goto (pc := 57) (tgt := 61) hx hb dX10_worst_57 (by decide) ?_
            cases hf
            exact J61_8 _ _ _ hw (lv_sub hl [0, 1, 3] rfl)
    obtain ⟨v12, hj, hf⟩ := b1_ob hf
    refine L23 _ 0 1 v12 hj _ _ _ hw (lv_sub hl [2, 3, 1, 0] rfl) (fun H locs ls hw hl => ?_)
    clear hj L23
    refine lv_iload_n (pc := 68) hx hb dX10_worst_68 rfl (lv_at hl 1 rfl) ?_
    refine lv_iconst (pc := 69) (v := 2) hx hb dX10_worst_69 (by decide) ?_
    obtain ⟨v13, hj, hf⟩ := b1_ob hf
    have J97_12 : ∀ (H : Heap) (locs : List Loc) (ls : Array Slot), WD D A s (wX10 cs a q S3) H locs → lv_has ls 4 [] → W p l e rmX10_worst s m args below meth c H locs 0 0 Q (F0 m 97 ls [.int v13]) := by
      intro H locs ls hw hl
      cases hf
      exact hret _ _ 97 _ hw ⟨_, rfl, rfl⟩ dX10_worst_97
    clear hf; have hf := hj; clear hj
    refine lv_icmp_ne (pc := 70) (tgt := 77) hx hb dX10_worst_70 (by decide) (fun c14 => ?_) (fun c14 => ?_)
    · have hf := ineg c14 hf
      refine lv_aload_n (pc := 77) hx hb dX10_worst_77 rfl (lv_at hl 0 rfl) ?_
      refine lv_iload_n (pc := 78) hx hb dX10_worst_78 rfl (lv_at hl 2 rfl) ?_
      refine lv_iconst (pc := 79) (v := 0) hx hb dX10_worst_79 (by decide) ?_
      refine lv_aload_n (pc := 80) hx hb dX10_worst_80 rfl (lv_at hl 0 rfl) ?_
      refine x_get (pc := 81) X hw in_X10_worst_X10 0 rfl rfl 11 (by decide) (List.mem_of_getElem? (i := 3) rfl) rfl dX10_worst_81 ?_
      obtain ⟨v15, hc, hf⟩ := b1_ob hf
      refine x_all (pc := 84) X hw (va_runV (As := [.int v12, .int 0, .int (S3.1 11)]) (rest := []) ⟨hx, hb, hml, hown, hts⟩ (c_X10_rightFrom l D cs a q S3 v12 0 (S3.1 11) v15 hc _) (cwV 3 hts gX10_worst_X10_rightFrom rfl rfl rfl (by decide +kernel) ⟨Nat.le_of_ble_eq_true rfl, Nat.le_of_ble_eq_true rfl⟩) ⟨CP_blind, va_recv hK hw.1 (ci := 10) (q0 := 0) rfl rfl, x_preA X hw [.ref a, .int v12, .int 0, .int (S3.1 11)]⟩ rfl rfl hl.1 rfl (lv_room (Nat.le_of_ble_eq_true rfl)) dX10_worst_84 ⟨Nat.zero_le _, Nat.zero_le _⟩) (fun H locs hw => ?_)
      refine lv_i2l (pc := 87) hx hb dX10_worst_87 rfl ?_
      refine lv_aload_n (pc := 88) hx hb dX10_worst_88 rfl (lv_at hl 0 rfl) ?_
      refine x_get (pc := 89) X hw in_X10_worst_X10 0 rfl rfl 11 (by decide) (List.mem_of_getElem? (i := 3) rfl) rfl dX10_worst_89 ?_
      refine lv_i2l (pc := 92) hx hb dX10_worst_92 rfl ?_
      refine lv_iload_n (pc := 93) hx hb dX10_worst_93 rfl (lv_at hl 1 rfl) ?_
      obtain ⟨v16, hc, hf⟩ := b1_ob hf
      refine x_nil (pc := 94) X hw (va_runS (As := [.long (v15.toInt64), .long ((S3.1 11).toInt64), .int p1]) (rest := []) ⟨hx, hb, hml, hown, hts⟩ (c_X10_partOf l D cs (v15.toInt64) ((S3.1 11).toInt64) p1 v16 hc _) (va_cwS 3 hts gX10_worst_X10_partOf rfl rfl rfl (by decide +kernel) ⟨Nat.le_of_ble_eq_true rfl, Nat.le_of_ble_eq_true rfl⟩) ⟨CP_blind, x_preN X [.long (v15.toInt64), .long ((S3.1 11).toInt64), .int p1]⟩ rfl rfl hl.1 rfl (lv_room (Nat.le_of_ble_eq_true rfl)) dX10_worst_94 ⟨Nat.zero_le _, Nat.zero_le _⟩) (fun H locs hw => ?_)
      cases hf
      exact J97_12 _ _ _ hw (lv_sub hl [] rfl)
    · have hf := ipos c14 hf
      refine lv_iload_n (pc := 73) hx hb dX10_worst_73 rfl (lv_at hl 2 rfl) ?_
      refine lv_goto (pc := 74) (tgt := 97) hx hb dX10_worst_74 (by decide) ?_
      cases hf
      exact J97_12 _ _ _ hw (lv_sub hl [] rfl)
  · have hf := ipos c2 hf
    refine lv_bipush (pc := 12) (v := (-3)) hx hb dX10_worst_12 (by decide) ?_
    cases hf
    exact hret _ _ 14 _ hw ⟨_, rfl, rfl⟩ dX10_worst_14

theorem in_X10_allFrom_X10 : ∀ w ∈ wsX100, w ∈ wsX10_allFrom := fun _ h => List.mem_cons_of_mem _ (List.mem_append_right _ h)
abbrev rmX10_allFrom : Room := { frames := 1, cells := 0, slots := 0, locals := 25 }
def B_X10_allFrom_5 (S : PS) (p1 : Int32) (p2 : Int32) (v1 : Int32) (v2 : Int32) : Option ((Int32 × Int32) ⊕ (Int32)) :=
  if ((1 : Int32) <<< ((S.1 12) &&& 31)) ≤ v2 then
    some (.inr v1)
  else
  b1 (f_X10_rightFrom S v2 p1 p2) fun v4 =>
  bn (v1 + v4) fun v5 =>
  bn (v2 + 1) fun v6 =>
  some (.inl (v5, v6))
def L_X10_allFrom_5 (S : PS) (p1 : Int32) (p2 : Int32) (n : Nat) (v1 : Int32) (v2 : Int32) : Option (Int32) := loopF (fun x : Int32 × Int32 => B_X10_allFrom_5 S p1 p2 x.1 x.2) n (v1, v2)
def f_X10_allFrom (S : PS) (p1 : Int32) (p2 : Int32) : Option (Int32) :=
  b1 (L_X10_allFrom_5 S p1 p2 FU 0 0) fun v7 =>
  some v7
set_option maxHeartbeats 4000000 in
set_option maxRecDepth 100000 in
theorem c_X10_allFrom (l : Launch) (D : va_G) (cs : CS) (a : Nat) (q : Nat → Nat) (S : PS) (p1 : Int32) (p2 : Int32) (r : Int32) (hf : f_X10_allFrom S p1 p2 = some r) : CT l D (TY cs) yX10_allFrom wsX10_allFrom rmX10_allFrom [.ref a, .int p1, .int p2] (wX10 cs a q S) (some (.int r)) (wX10 cs a q S) := by
  refine CT.ofW (own := RX10) (cc := cX10_allFrom) (maxL := 5) (ret := some .int) (by decide) rfl rfl (Nat.le_of_ble_eq_true rfl) ?_
  intro p e s m args below meth c A Q X hret ls hl hw
  obtain ⟨hx, hb, hml, hown, hts, hK, hA, hr, hlk⟩ := id X
  have hl : lv_has ls 5 [(0, .ref a), (1, .int p1), (2, .int p2)] := hl
  unfold f_X10_allFrom at hf
  refine lv_iconst (pc := 0) (v := 0) hx hb dX10_allFrom_0 (by decide) ?_
  refine lv_istore_n (lv' := [(3, .int 0), (0, .ref a), (1, .int p1), (2, .int p2)]) (pc := 1) hx hb dX10_allFrom_1 rfl hl (by decide) rfl (fun ls hl => ?_)
  refine lv_iconst (pc := 2) (v := 0) hx hb dX10_allFrom_2 (by decide) ?_
  refine lv_istore (lv' := [(4, .int 0), (3, .int 0), (0, .ref a), (1, .int p1), (2, .int p2)]) (pc := 3) hx hb dX10_allFrom_3 hl (by decide) rfl (fun ls hl => ?_)
  have L5 : ∀ (n : Nat) (v1 : Int32) (v2 : Int32) (rv1 : Int32), L_X10_allFrom_5 S p1 p2 n v1 v2 = some rv1 → ∀ (H : Heap) (locs : List Loc) (ls : Array Slot), WD D A s (wX10 cs a q S) H locs → lv_has ls 5 [(0, .ref a), (1, .int p1), (2, .int p2), (3, .int v1), (4, .int v2)] → (∀ (H : Heap) (locs : List Loc) (ls : Array Slot), WD D A s (wX10 cs a q S) H locs → lv_has ls 5 [(3, .int rv1)] → W p l e rmX10_allFrom s m args below meth c H locs 0 0 Q (F0 m 33 ls [])) → W p l e rmX10_allFrom s m args below meth c H locs 0 0 Q (F0 m 5 ls []) := by
    intro n
    induction n with
    | zero => intro v1 v2 rv1 hf; exact (loopF_z hf).elim
    | succ n ih =>
      intro v1 v2 rv1 hf H locs ls hw hl K
      obtain ⟨x, hf, hx0⟩ := loopF_ob hf
      have hf : B_X10_allFrom_5 S p1 p2 v1 v2 = some x := hf
      unfold B_X10_allFrom_5 at hf
      refine lv_iload (pc := 5) hx hb dX10_allFrom_5 (lv_at hl 4 rfl) ?_
      refine lv_iconst (pc := 7) (v := 1) hx hb dX10_allFrom_7 (by decide) ?_
      refine lv_aload_n (pc := 8) hx hb dX10_allFrom_8 rfl (lv_at hl 0 rfl) ?_
      refine x_get (pc := 9) X hw in_X10_allFrom_X10 0 rfl rfl 12 (by decide) (List.mem_of_getElem? (i := 1) rfl) rfl dX10_allFrom_9 ?_
      refine lv_ishl (pc := 12) hx hb dX10_allFrom_12 ?_
      refine lv_icmp_ge (pc := 13) (tgt := 33) hx hb dX10_allFrom_13 (by decide) (fun c3 => ?_) (fun c3 => ?_)
      · have hf := ipos c3 hf
        cases hf
        cases (hx0 : v1 = rv1)
        exact K _ _ _ hw (lv_sub hl [3] rfl)
      · have hf := ineg c3 hf
        refine lv_iload_n (pc := 16) hx hb dX10_allFrom_16 rfl (lv_at hl 3 rfl) ?_
        refine lv_aload_n (pc := 17) hx hb dX10_allFrom_17 rfl (lv_at hl 0 rfl) ?_
        refine lv_iload (pc := 18) hx hb dX10_allFrom_18 (lv_at hl 4 rfl) ?_
        refine lv_iload_n (pc := 20) hx hb dX10_allFrom_20 rfl (lv_at hl 1 rfl) ?_
        refine lv_iload_n (pc := 21) hx hb dX10_allFrom_21 rfl (lv_at hl 2 rfl) ?_
        obtain ⟨v4, hc, hf⟩ := b1_ob hf
        refine x_all (pc := 22) X hw (va_runV (As := [.int v2, .int p1, .int p2]) (rest := [.int v1]) ⟨hx, hb, hml, hown, hts⟩ (c_X10_rightFrom l D cs a q S v2 p1 p2 v4 hc _) (cwV 3 hts gX10_allFrom_X10_rightFrom rfl rfl rfl (by decide +kernel) ⟨Nat.le_of_ble_eq_true rfl, Nat.le_of_ble_eq_true rfl⟩) ⟨CP_blind, va_recv hK hw.1 (ci := 10) (q0 := 0) rfl rfl, x_preA X hw [.ref a, .int v2, .int p1, .int p2]⟩ rfl rfl hl.1 rfl (lv_room (Nat.le_of_ble_eq_true rfl)) dX10_allFrom_22 ⟨Nat.zero_le _, Nat.zero_le _⟩) (fun H locs hw => ?_)
        refine lv_iadd (pc := 25) hx hb dX10_allFrom_25 ?_
        obtain ⟨v5, ev5, hf⟩ := bn_ob hf
        refine x_topi ev5 ?_
        refine lv_istore_n (lv' := [(3, .int v5), (0, .ref a), (1, .int p1), (2, .int p2), (4, .int v2)]) (pc := 26) hx hb dX10_allFrom_26 rfl hl (by decide) rfl (fun ls hl => ?_)
        obtain ⟨v6, ev6, hf⟩ := bn_ob hf
        refine lv_iinc (pc := 27) (v := v6) (lv' := [(4, .int v6), (3, .int v5), (0, .ref a), (1, .int p1), (2, .int p2)]) hx hb dX10_allFrom_27 hl (k := 4) rfl (by rw [ev6]; rfl) (by decide) rfl (fun ls hl => ?_)
        refine lv_goto (pc := 30) (tgt := 5) hx hb dX10_allFrom_30 (by decide) ?_
        cases hf
        exact ih v5 v6 rv1 hx0 _ _ _ hw (lv_sub hl [2, 3, 4, 1, 0] rfl) K
  obtain ⟨v7, hj, hf⟩ := b1_ob hf
  refine L5 _ 0 0 v7 hj _ _ _ hw (lv_sub hl [2, 3, 4, 1, 0] rfl) (fun H locs ls hw hl => ?_)
  clear hj L5
  refine lv_iload_n (pc := 33) hx hb dX10_allFrom_33 rfl (lv_at hl 0 rfl) ?_
  cases hf
  exact hret _ _ 34 _ hw ⟨_, rfl, rfl⟩ dX10_allFrom_34

theorem in_X10_mean_X10 : ∀ w ∈ wsX100, w ∈ wsX10_mean := fun _ h => List.mem_cons_of_mem _ (List.mem_append_right _ h)
abbrev rmX10_mean : Room := { frames := 4, cells := 0, slots := 0, locals := 97 }
def f_X10_mean (S : PS) (p1 : Int32) : Option (Int32 × PS) :=
  b1 (f_X10_isPart p1) fun v1 =>
  if v1 = 0 then
    some ((-3), S)
  else
  b1 (f_X10_layGood S) fun S3 =>
  b1 (f_X10_allFrom S3 0 (S3.1 11)) fun v4 =>
  b1 (f_X10_partOf (v4.toInt64) (((S3.1 11).toInt64) <<< ((S3.1 12).toInt64 &&& 63)) p1) fun v5 =>
  some (v5, S3)
set_option maxHeartbeats 4000000 in
set_option maxRecDepth 100000 in
theorem c_X10_mean (l : Launch) (D : va_G) (cs : CS) (a : Nat) (q : Nat → Nat) (S : PS) (p1 : Int32) (r : Int32) (S' : PS) (hf : f_X10_mean S p1 = some (r, S')) : CT l D (TY cs) yX10_mean wsX10_mean rmX10_mean [.ref a, .int p1] (wX10 cs a q S) (some (.int r)) (wX10 cs a q S') := by
  refine CT.ofW (own := RX10) (cc := cX10_mean) (maxL := 2) (ret := some .int) (by decide) rfl rfl (Nat.le_of_ble_eq_true rfl) ?_
  intro p e s m args below meth c A Q X hret ls hl hw
  obtain ⟨hx, hb, hml, hown, hts, hK, hA, hr, hlk⟩ := id X
  have hl : lv_has ls 2 [(0, .ref a), (1, .int p1)] := hl
  unfold f_X10_mean at hf
  refine lv_iload_n (pc := 0) hx hb dX10_mean_0 rfl (lv_at hl 1 rfl) ?_
  obtain ⟨v1, hc, hf⟩ := b1_ob hf
  refine x_nil (pc := 1) X hw (va_runS (As := [.int p1]) (rest := []) ⟨hx, hb, hml, hown, hts⟩ (c_X10_isPart l D cs p1 v1 hc _) (va_cwS 1 hts gX10_mean_X10_isPart rfl rfl rfl (by decide +kernel) ⟨Nat.le_of_ble_eq_true rfl, Nat.le_of_ble_eq_true rfl⟩) ⟨CP_blind, x_preN X [.int p1]⟩ rfl rfl hl.1 rfl (lv_room (Nat.le_of_ble_eq_true rfl)) dX10_mean_1 ⟨Nat.zero_le _, Nat.zero_le _⟩) (fun H locs hw => ?_)
  refine lv_if_ne (pc := 4) (tgt := 10) hx hb dX10_mean_4 (by decide) (fun c2 => ?_) (fun c2 => ?_)
  · have hf := ineg c2 hf
    refine lv_aload_n (pc := 10) hx hb dX10_mean_10 rfl (lv_at hl 0 rfl) ?_
    obtain ⟨S3, hc, hf⟩ := b1_ob hf
    refine x_all (pc := 11) X hw (va_runV (As := []) (rest := []) ⟨hx, hb, hml, hown, hts⟩ (c_X10_layGood l D cs a q S S3 hc _) (cwV 0 hts gX10_mean_X10_layGood rfl rfl rfl (by decide +kernel) ⟨Nat.le_of_ble_eq_true rfl, Nat.le_of_ble_eq_true rfl⟩) ⟨CP_blind, va_recv hK hw.1 (ci := 10) (q0 := 0) rfl rfl, x_preA X hw [.ref a]⟩ rfl rfl hl.1 rfl (lv_room (Nat.le_of_ble_eq_true rfl)) dX10_mean_11 ⟨Nat.zero_le _, Nat.zero_le _⟩) (fun H locs hw => ?_)
    refine lv_aload_n (pc := 14) hx hb dX10_mean_14 rfl (lv_at hl 0 rfl) ?_
    refine lv_iconst (pc := 15) (v := 0) hx hb dX10_mean_15 (by decide) ?_
    refine lv_aload_n (pc := 16) hx hb dX10_mean_16 rfl (lv_at hl 0 rfl) ?_
    refine x_get (pc := 17) X hw in_X10_mean_X10 0 rfl rfl 11 (by decide) (List.mem_of_getElem? (i := 1) rfl) rfl dX10_mean_17 ?_
    obtain ⟨v4, hc, hf⟩ := b1_ob hf
    refine x_all (pc := 20) X hw (va_runV (As := [.int 0, .int (S3.1 11)]) (rest := []) ⟨hx, hb, hml, hown, hts⟩ (c_X10_allFrom l D cs a q S3 0 (S3.1 11) v4 hc _) (cwV 2 hts gX10_mean_X10_allFrom rfl rfl rfl (by decide +kernel) ⟨Nat.le_of_ble_eq_true rfl, Nat.le_of_ble_eq_true rfl⟩) ⟨CP_blind, va_recv hK hw.1 (ci := 10) (q0 := 0) rfl rfl, x_preA X hw [.ref a, .int 0, .int (S3.1 11)]⟩ rfl rfl hl.1 rfl (lv_room (Nat.le_of_ble_eq_true rfl)) dX10_mean_20 ⟨Nat.zero_le _, Nat.zero_le _⟩) (fun H locs hw => ?_)
    refine lv_i2l (pc := 23) hx hb dX10_mean_23 rfl ?_
    refine lv_aload_n (pc := 24) hx hb dX10_mean_24 rfl (lv_at hl 0 rfl) ?_
    refine x_get (pc := 25) X hw in_X10_mean_X10 0 rfl rfl 11 (by decide) (List.mem_of_getElem? (i := 1) rfl) rfl dX10_mean_25 ?_
    refine lv_i2l (pc := 28) hx hb dX10_mean_28 rfl ?_
    refine lv_aload_n (pc := 29) hx hb dX10_mean_29 rfl (lv_at hl 0 rfl) ?_
    refine x_get (pc := 30) X hw in_X10_mean_X10 0 rfl rfl 12 (by decide) (List.mem_of_getElem? (i := 2) rfl) rfl dX10_mean_30 ?_
    refine lv_lshl (pc := 33) hx hb dX10_mean_33 rfl ?_
    refine lv_iload_n (pc := 34) hx hb dX10_mean_34 rfl (lv_at hl 1 rfl) ?_
    obtain ⟨v5, hc, hf⟩ := b1_ob hf
    refine x_nil (pc := 35) X hw (va_runS (As := [.long (v4.toInt64), .long (((S3.1 11).toInt64) <<< ((S3.1 12).toInt64 &&& 63)), .int p1]) (rest := []) ⟨hx, hb, hml, hown, hts⟩ (c_X10_partOf l D cs (v4.toInt64) (((S3.1 11).toInt64) <<< ((S3.1 12).toInt64 &&& 63)) p1 v5 hc _) (va_cwS 3 hts gX10_mean_X10_partOf rfl rfl rfl (by decide +kernel) ⟨Nat.le_of_ble_eq_true rfl, Nat.le_of_ble_eq_true rfl⟩) ⟨CP_blind, x_preN X [.long (v4.toInt64), .long (((S3.1 11).toInt64) <<< ((S3.1 12).toInt64 &&& 63)), .int p1]⟩ rfl rfl hl.1 rfl (lv_room (Nat.le_of_ble_eq_true rfl)) dX10_mean_35 ⟨Nat.zero_le _, Nat.zero_le _⟩) (fun H locs hw => ?_)
    cases hf
    exact hret _ _ 38 _ hw ⟨_, rfl, rfl⟩ dX10_mean_38
  · have hf := ipos c2 hf
    refine lv_bipush (pc := 7) (v := (-3)) hx hb dX10_mean_7 (by decide) ?_
    cases hf
    exact hret _ _ 9 _ hw ⟨_, rfl, rfl⟩ dX10_mean_9

theorem in_X10_seen_X10 : ∀ w ∈ wsX100, w ∈ wsX10_seen := fun _ h => List.mem_cons_of_mem _ (List.mem_append_right _ h)
abbrev rmX10_seen : Room := { frames := 4, cells := 0, slots := 0, locals := 97 }
def B_X10_seen_39 (p1 : Int32) (S5 : PS) (v7 : Int32) (v8 : Int32) : Option ((Int32 × Int32) ⊕ (Int32)) :=
  if p1 ≤ v8 then
    some (.inr v7)
  else
  b1 (rdI 20 (S5.2.1 9) v8) fun v10 =>
  b1 (dvI v7 v10) fun v11 =>
  bn (v8 + 1) fun v12 =>
  some (.inl (v11, v12))
def L_X10_seen_39 (p1 : Int32) (S5 : PS) (n : Nat) (v7 : Int32) (v8 : Int32) : Option (Int32) := loopF (fun x : Int32 × Int32 => B_X10_seen_39 p1 S5 x.1 x.2) n (v7, v8)
def B_X10_seen_83 (S5 : PS) (v13 : Int32) (v15 : Int32) (v18 : Int32) (v19 : Int32) : Option ((Int32 × Int32) ⊕ (Int32)) :=
  if ((1 : Int32) <<< ((S5.1 12) &&& 31)) ≤ v19 then
    some (.inr v18)
  else
  b1 (f_X10_rightFrom S5 v19 v15 v13) fun v21 =>
  b1 (
    if v18 ≤ v21 then
      some v18
    else
    some v21) fun v22 =>
  bn (v19 + 1) fun v24 =>
  some (.inl (v22, v24))
def L_X10_seen_83 (S5 : PS) (v13 : Int32) (v15 : Int32) (n : Nat) (v18 : Int32) (v19 : Int32) : Option (Int32) := loopF (fun x : Int32 × Int32 => B_X10_seen_83 S5 v13 v15 x.1 x.2) n (v18, v19)
def B_X10_seen_67 (S5 : PS) (v13 : Int32) (v14 : Int32) (v15 : Int32) : Option ((Int32 × Int32) ⊕ (Int32)) :=
  if (S5.1 11) ≤ v15 then
    some (.inr v14)
  else
  bn (268435456) fun v17 =>
  b1 (L_X10_seen_83 S5 v13 v15 FU v17 0) fun v25 =>
  bn (v14 + v25) fun v26 =>
  bn (v15 + v13) fun v27 =>
  some (.inl (v26, v27))
def L_X10_seen_67 (S5 : PS) (v13 : Int32) (n : Nat) (v14 : Int32) (v15 : Int32) : Option (Int32) := loopF (fun x : Int32 × Int32 => B_X10_seen_67 S5 v13 x.1 x.2) n (v14, v15)
def f_X10_seen (S : PS) (p1 : Int32) (p2 : Int32) : Option (Int32 × PS) :=
  b1 (f_X10_in (p1.toInt64) 0 ((S.1 10).toInt64)) fun v1 =>
  if v1 = 0 then
    some ((-2), S)
  else
  b1 (f_X10_isPart p2) fun v3 =>
  if v3 = 0 then
    some ((-3), S)
  else
  b1 (f_X10_layGood S) fun S5 =>
  bn (S5.1 11) fun v6 =>
  b1 (L_X10_seen_39 p1 S5 FU v6 0) fun v13 =>
  b1 (L_X10_seen_67 S5 v13 FU 0 0) fun v28 =>
  b1 (f_X10_partOf (v28.toInt64) ((S5.1 11).toInt64) p2) fun v29 =>
  some (v29, S5)
set_option maxHeartbeats 4000000 in
set_option maxRecDepth 100000 in
theorem c_X10_seen (l : Launch) (D : va_G) (cs : CS) (a : Nat) (q : Nat → Nat) (S : PS) (p1 : Int32) (p2 : Int32) (r : Int32) (S' : PS) (hf : f_X10_seen S p1 p2 = some (r, S')) : CT l D (TY cs) yX10_seen wsX10_seen rmX10_seen [.ref a, .int p1, .int p2] (wX10 cs a q S) (some (.int r)) (wX10 cs a q S') := by
  refine CT.ofW (own := RX10) (cc := cX10_seen) (maxL := 9) (ret := some .int) (by decide) rfl rfl (Nat.le_of_ble_eq_true rfl) ?_
  intro p e s m args below meth c A Q X hret ls hl hw
  obtain ⟨hx, hb, hml, hown, hts, hK, hA, hr, hlk⟩ := id X
  have hl : lv_has ls 9 [(0, .ref a), (1, .int p1), (2, .int p2)] := hl
  unfold f_X10_seen at hf
  refine lv_iload_n (pc := 0) hx hb dX10_seen_0 rfl (lv_at hl 1 rfl) ?_
  refine lv_i2l (pc := 1) hx hb dX10_seen_1 rfl ?_
  refine lv_lconst (pc := 2) (v := 0) hx hb dX10_seen_2 (by decide) ?_
  refine lv_aload_n (pc := 3) hx hb dX10_seen_3 rfl (lv_at hl 0 rfl) ?_
  refine x_get (pc := 4) X hw in_X10_seen_X10 0 rfl rfl 10 (by decide) (List.mem_of_getElem? (i := 1) rfl) rfl dX10_seen_4 ?_
  refine lv_i2l (pc := 7) hx hb dX10_seen_7 rfl ?_
  obtain ⟨v1, hc, hf⟩ := b1_ob hf
  refine x_nil (pc := 8) X hw (va_runS (As := [.long (p1.toInt64), .long 0, .long ((S.1 10).toInt64)]) (rest := []) ⟨hx, hb, hml, hown, hts⟩ (c_X10_in l D cs (p1.toInt64) 0 ((S.1 10).toInt64) v1 hc _) (va_cwS 3 hts gX10_seen_X10_in rfl rfl rfl (by decide +kernel) ⟨Nat.le_of_ble_eq_true rfl, Nat.le_of_ble_eq_true rfl⟩) ⟨CP_blind, x_preN X [.long (p1.toInt64), .long 0, .long ((S.1 10).toInt64)]⟩ rfl rfl hl.1 rfl (lv_room (Nat.le_of_ble_eq_true rfl)) dX10_seen_8 ⟨Nat.zero_le _, Nat.zero_le _⟩) (fun H locs hw => ?_)
  refine lv_if_ne (pc := 11) (tgt := 17) hx hb dX10_seen_11 (by decide) (fun c2 => ?_) (fun c2 => ?_)
  · have hf := ineg c2 hf
    refine lv_iload_n (pc := 17) hx hb dX10_seen_17 rfl (lv_at hl 2 rfl) ?_
    obtain ⟨v3, hc, hf⟩ := b1_ob hf
    refine x_nil (pc := 18) X hw (va_runS (As := [.int p2]) (rest := []) ⟨hx, hb, hml, hown, hts⟩ (c_X10_isPart l D cs p2 v3 hc _) (va_cwS 1 hts gX10_seen_X10_isPart rfl rfl rfl (by decide +kernel) ⟨Nat.le_of_ble_eq_true rfl, Nat.le_of_ble_eq_true rfl⟩) ⟨CP_blind, x_preN X [.int p2]⟩ rfl rfl hl.1 rfl (lv_room (Nat.le_of_ble_eq_true rfl)) dX10_seen_18 ⟨Nat.zero_le _, Nat.zero_le _⟩) (fun H locs hw => ?_)
    refine lv_if_ne (pc := 21) (tgt := 27) hx hb dX10_seen_21 (by decide) (fun c4 => ?_) (fun c4 => ?_)
    · have hf := ineg c4 hf
      refine lv_aload_n (pc := 27) hx hb dX10_seen_27 rfl (lv_at hl 0 rfl) ?_
      obtain ⟨S5, hc, hf⟩ := b1_ob hf
      refine x_all (pc := 28) X hw (va_runV (As := []) (rest := []) ⟨hx, hb, hml, hown, hts⟩ (c_X10_layGood l D cs a q S S5 hc _) (cwV 0 hts gX10_seen_X10_layGood rfl rfl rfl (by decide +kernel) ⟨Nat.le_of_ble_eq_true rfl, Nat.le_of_ble_eq_true rfl⟩) ⟨CP_blind, va_recv hK hw.1 (ci := 10) (q0 := 0) rfl rfl, x_preA X hw [.ref a]⟩ rfl rfl hl.1 rfl (lv_room (Nat.le_of_ble_eq_true rfl)) dX10_seen_28 ⟨Nat.zero_le _, Nat.zero_le _⟩) (fun H locs hw => ?_)
      refine lv_aload_n (pc := 31) hx hb dX10_seen_31 rfl (lv_at hl 0 rfl) ?_
      refine x_get (pc := 32) X hw in_X10_seen_X10 0 rfl rfl 11 (by decide) (List.mem_of_getElem? (i := 2) rfl) rfl dX10_seen_32 ?_
      obtain ⟨v6, ev6, hf⟩ := bn_ob hf
      refine x_topi ev6 ?_
      refine lv_istore_n (lv' := [(3, .int v6), (0, .ref a), (1, .int p1), (2, .int p2)]) (pc := 35) hx hb dX10_seen_35 rfl hl (by decide) rfl (fun ls hl => ?_)
      refine lv_iconst (pc := 36) (v := 0) hx hb dX10_seen_36 (by decide) ?_
      refine lv_istore (lv' := [(4, .int 0), (3, .int v6), (0, .ref a), (1, .int p1), (2, .int p2)]) (pc := 37) hx hb dX10_seen_37 hl (by decide) rfl (fun ls hl => ?_)
      have L39 : ∀ (n : Nat) (v7 : Int32) (v8 : Int32) (rv7 : Int32), L_X10_seen_39 p1 S5 n v7 v8 = some rv7 → ∀ (H : Heap) (locs : List Loc) (ls : Array Slot), WD D A s (wX10 cs a q S5) H locs → lv_has ls 9 [(0, .ref a), (1, .int p1), (2, .int p2), (3, .int v7), (4, .int v8)] → (∀ (H : Heap) (locs : List Loc) (ls : Array Slot), WD D A s (wX10 cs a q S5) H locs → lv_has ls 9 [(0, .ref a), (2, .int p2), (3, .int rv7)] → W p l e rmX10_seen s m args below meth c H locs 0 0 Q (F0 m 61 ls [])) → W p l e rmX10_seen s m args below meth c H locs 0 0 Q (F0 m 39 ls []) := by
        intro n
        induction n with
        | zero => intro v7 v8 rv7 hf; exact (loopF_z hf).elim
        | succ n ih =>
          intro v7 v8 rv7 hf H locs ls hw hl K
          obtain ⟨x, hf, hx0⟩ := loopF_ob hf
          have hf : B_X10_seen_39 p1 S5 v7 v8 = some x := hf
          unfold B_X10_seen_39 at hf
          refine lv_iload (pc := 39) hx hb dX10_seen_39 (lv_at hl 4 rfl) ?_
          refine lv_iload_n (pc := 41) hx hb dX10_seen_41 rfl (lv_at hl 1 rfl) ?_
          refine lv_icmp_ge (pc := 42) (tgt := 61) hx hb dX10_seen_42 (by decide) (fun c9 => ?_) (fun c9 => ?_)
          · have hf := ipos c9 hf
            cases hf
            cases (hx0 : v7 = rv7)
            exact K _ _ _ hw (lv_sub hl [0, 2, 3] rfl)
          · have hf := ineg c9 hf
            refine lv_iload_n (pc := 45) hx hb dX10_seen_45 rfl (lv_at hl 3 rfl) ?_
            refine lv_aload_n (pc := 46) hx hb dX10_seen_46 rfl (lv_at hl 0 rfl) ?_
            refine x_get (pc := 47) X hw in_X10_seen_X10 0 rfl rfl 9 (by decide) (List.mem_of_getElem? (i := 3) rfl) rfl dX10_seen_47 ?_
            refine lv_iload (pc := 50) hx hb dX10_seen_50 (lv_at hl 4 rfl) ?_
            obtain ⟨v10, ev10, hf⟩ := b1_ob hf
            refine x_iald (pc := 52) X hw 7 0 rfl rfl ev10 dX10_seen_52 ?_
            obtain ⟨v11, ev11, hf⟩ := b1_ob hf
            refine lv_idiv (pc := 53) hx hb dX10_seen_53 (dvI_ob ev11).1 ?_
            refine x_topi (dvI_ob ev11).2.symm ?_
            refine lv_istore_n (lv' := [(3, .int v11), (0, .ref a), (1, .int p1), (2, .int p2), (4, .int v8)]) (pc := 54) hx hb dX10_seen_54 rfl hl (by decide) rfl (fun ls hl => ?_)
            obtain ⟨v12, ev12, hf⟩ := bn_ob hf
            refine lv_iinc (pc := 55) (v := v12) (lv' := [(4, .int v12), (3, .int v11), (0, .ref a), (1, .int p1), (2, .int p2)]) hx hb dX10_seen_55 hl (k := 4) rfl (by rw [ev12]; rfl) (by decide) rfl (fun ls hl => ?_)
            refine lv_goto (pc := 58) (tgt := 39) hx hb dX10_seen_58 (by decide) ?_
            cases hf
            exact ih v11 v12 rv7 hx0 _ _ _ hw (lv_sub hl [2, 3, 4, 1, 0] rfl) K
      obtain ⟨v13, hj, hf⟩ := b1_ob hf
      refine L39 _ v6 0 v13 hj _ _ _ hw (lv_sub hl [2, 3, 4, 1, 0] rfl) (fun H locs ls hw hl => ?_)
      clear hj L39
      refine lv_iconst (pc := 61) (v := 0) hx hb dX10_seen_61 (by decide) ?_
      refine lv_istore (lv' := [(4, .int 0), (0, .ref a), (2, .int p2), (3, .int v13)]) (pc := 62) hx hb dX10_seen_62 hl (by decide) rfl (fun ls hl => ?_)
      refine lv_iconst (pc := 64) (v := 0) hx hb dX10_seen_64 (by decide) ?_
      refine lv_istore (lv' := [(5, .int 0), (4, .int 0), (0, .ref a), (2, .int p2), (3, .int v13)]) (pc := 65) hx hb dX10_seen_65 hl (by decide) rfl (fun ls hl => ?_)
      have L67 : ∀ (n : Nat) (v14 : Int32) (v15 : Int32) (rv14 : Int32), L_X10_seen_67 S5 v13 n v14 v15 = some rv14 → ∀ (H : Heap) (locs : List Loc) (ls : Array Slot), WD D A s (wX10 cs a q S5) H locs → lv_has ls 9 [(0, .ref a), (2, .int p2), (3, .int v13), (4, .int v14), (5, .int v15)] → (∀ (H : Heap) (locs : List Loc) (ls : Array Slot), WD D A s (wX10 cs a q S5) H locs → lv_has ls 9 [(0, .ref a), (2, .int p2), (4, .int rv14)] → W p l e rmX10_seen s m args below meth c H locs 0 0 Q (F0 m 143 ls [])) → W p l e rmX10_seen s m args below meth c H locs 0 0 Q (F0 m 67 ls []) := by
        intro n
        induction n with
        | zero => intro v14 v15 rv14 hf; exact (loopF_z hf).elim
        | succ n ih =>
          intro v14 v15 rv14 hf H locs ls hw hl K
          obtain ⟨x, hf, hx0⟩ := loopF_ob hf
          have hf : B_X10_seen_67 S5 v13 v14 v15 = some x := hf
          unfold B_X10_seen_67 at hf
          refine lv_iload (pc := 67) hx hb dX10_seen_67 (lv_at hl 4 rfl) ?_
          refine lv_aload_n (pc := 69) hx hb dX10_seen_69 rfl (lv_at hl 0 rfl) ?_
          refine x_get (pc := 70) X hw in_X10_seen_X10 0 rfl rfl 11 (by decide) (List.mem_of_getElem? (i := 2) rfl) rfl dX10_seen_70 ?_
          refine lv_icmp_ge (pc := 73) (tgt := 143) hx hb dX10_seen_73 (by decide) (fun c16 => ?_) (fun c16 => ?_)
          · have hf := ipos c16 hf
            cases hf
            cases (hx0 : v14 = rv14)
            exact K _ _ _ hw (lv_sub hl [0, 1, 3] rfl)
          · have hf := ineg c16 hf
            refine lv_ldc (pc := 76) (v := (268435456)) hx hb hown (hts _ (List.mem_of_getElem? (i := 4) rfl)) dX10_seen_76 ?_
            obtain ⟨v17, ev17, hf⟩ := bn_ob hf
            refine x_topi ev17 ?_
            refine lv_istore (lv' := [(6, .int v17), (0, .ref a), (2, .int p2), (3, .int v13), (4, .int v14), (5, .int v15)]) (pc := 78) hx hb dX10_seen_78 hl (by decide) rfl (fun ls hl => ?_)
            refine lv_iconst (pc := 80) (v := 0) hx hb dX10_seen_80 (by decide) ?_
            refine lv_istore (lv' := [(7, .int 0), (6, .int v17), (0, .ref a), (2, .int p2), (3, .int v13), (4, .int v14), (5, .int v15)]) (pc := 81) hx hb dX10_seen_81 hl (by decide) rfl (fun ls hl => ?_)
            have L83 : ∀ (n : Nat) (v18 : Int32) (v19 : Int32) (rv18 : Int32), L_X10_seen_83 S5 v13 v15 n v18 v19 = some rv18 → ∀ (H : Heap) (locs : List Loc) (ls : Array Slot), WD D A s (wX10 cs a q S5) H locs → lv_has ls 9 [(0, .ref a), (2, .int p2), (3, .int v13), (4, .int v14), (5, .int v15), (6, .int v18), (7, .int v19)] → (∀ (H : Heap) (locs : List Loc) (ls : Array Slot), WD D A s (wX10 cs a q S5) H locs → lv_has ls 9 [(0, .ref a), (2, .int p2), (3, .int v13), (4, .int v14), (5, .int v15), (6, .int rv18)] → W p l e rmX10_seen s m args below meth c H locs 0 0 Q (F0 m 127 ls [])) → W p l e rmX10_seen s m args below meth c H locs 0 0 Q (F0 m 83 ls []) := by
              intro n
              induction n with
              | zero => intro v18 v19 rv18 hf; exact (loopF_z hf).elim
              | succ n ih =>
                intro v18 v19 rv18 hf H locs ls hw hl K
                obtain ⟨x, hf, hx0⟩ := loopF_ob hf
                have hf : B_X10_seen_83 S5 v13 v15 v18 v19 = some x := hf
                unfold B_X10_seen_83 at hf
                refine lv_iload (pc := 83) hx hb dX10_seen_83 (lv_at hl 6 rfl) ?_
                refine lv_iconst (pc := 85) (v := 1) hx hb dX10_seen_85 (by decide) ?_
                refine lv_aload_n (pc := 86) hx hb dX10_seen_86 rfl (lv_at hl 0 rfl) ?_
                refine x_get (pc := 87) X hw in_X10_seen_X10 0 rfl rfl 12 (by decide) (List.mem_of_getElem? (i := 5) rfl) rfl dX10_seen_87 ?_
                refine lv_ishl (pc := 90) hx hb dX10_seen_90 ?_
                refine lv_icmp_ge (pc := 91) (tgt := 127) hx hb dX10_seen_91 (by decide) (fun c20 => ?_) (fun c20 => ?_)
                · have hf := ipos c20 hf
                  cases hf
                  cases (hx0 : v18 = rv18)
                  exact K _ _ _ hw (lv_sub hl [0, 1, 2, 3, 4, 5] rfl)
                · have hf := ineg c20 hf
                  refine lv_aload_n (pc := 94) hx hb dX10_seen_94 rfl (lv_at hl 0 rfl) ?_
                  refine lv_iload (pc := 95) hx hb dX10_seen_95 (lv_at hl 6 rfl) ?_
                  refine lv_iload (pc := 97) hx hb dX10_seen_97 (lv_at hl 4 rfl) ?_
                  refine lv_iload_n (pc := 99) hx hb dX10_seen_99 rfl (lv_at hl 2 rfl) ?_
                  obtain ⟨v21, hc, hf⟩ := b1_ob hf
                  refine x_all (pc := 100) X hw (va_runV (As := [.int v19, .int v15, .int v13]) (rest := []) ⟨hx, hb, hml, hown, hts⟩ (c_X10_rightFrom l D cs a q S5 v19 v15 v13 v21 hc _) (cwV 3 hts gX10_seen_X10_rightFrom rfl rfl rfl (by decide +kernel) ⟨Nat.le_of_ble_eq_true rfl, Nat.le_of_ble_eq_true rfl⟩) ⟨CP_blind, va_recv hK hw.1 (ci := 10) (q0 := 0) rfl rfl, x_preA X hw [.ref a, .int v19, .int v15, .int v13]⟩ rfl rfl hl.1 rfl (lv_room (Nat.le_of_ble_eq_true rfl)) dX10_seen_100 ⟨Nat.zero_le _, Nat.zero_le _⟩) (fun H locs hw => ?_)
                  refine lv_istore (lv' := [(8, .int v21), (0, .ref a), (2, .int p2), (3, .int v13), (4, .int v14), (5, .int v15), (6, .int v18), (7, .int v19)]) (pc := 103) hx hb dX10_seen_103 hl (by decide) rfl (fun ls hl => ?_)
                  refine lv_iload (pc := 105) hx hb dX10_seen_105 (lv_at hl 0 rfl) ?_
                  refine lv_iload (pc := 107) hx hb dX10_seen_107 (lv_at hl 6 rfl) ?_
                  obtain ⟨v22, hj, hf⟩ := b1_ob hf
                  have J119_21 : ∀ (H : Heap) (locs : List Loc) (ls : Array Slot), WD D A s (wX10 cs a q S5) H locs → lv_has ls 9 [(0, .ref a), (2, .int p2), (3, .int v13), (4, .int v14), (5, .int v15), (7, .int v19)] → W p l e rmX10_seen s m args below meth c H locs 0 0 Q (F0 m 119 ls [.int v22]) := by
                    intro H locs ls hw hl
                    refine lv_istore (lv' := [(6, .int v22), (0, .ref a), (2, .int p2), (3, .int v13), (4, .int v14), (5, .int v15), (7, .int v19)]) (pc := 119) hx hb dX10_seen_119 hl (by decide) rfl (fun ls hl => ?_)
                    obtain ⟨v24, ev24, hf⟩ := bn_ob hf
                    refine lv_iinc (pc := 121) (v := v24) (lv' := [(7, .int v24), (6, .int v22), (0, .ref a), (2, .int p2), (3, .int v13), (4, .int v14), (5, .int v15)]) hx hb dX10_seen_121 hl (k := 6) rfl (by rw [ev24]; rfl) (by decide) rfl (fun ls hl => ?_)
                    refine lv_goto (pc := 124) (tgt := 83) hx hb dX10_seen_124 (by decide) ?_
                    cases hf
                    exact ih v22 v24 rv18 hx0 _ _ _ hw (lv_sub hl [2, 3, 4, 5, 6, 1, 0] rfl) K
                  clear hf; have hf := hj; clear hj
                  refine lv_icmp_ge (pc := 109) (tgt := 117) hx hb dX10_seen_109 (by decide) (fun c23 => ?_) (fun c23 => ?_)
                  · have hf := ipos c23 hf
                    refine lv_iload (pc := 117) hx hb dX10_seen_117 (lv_at hl 6 rfl) ?_
                    cases hf
                    exact J119_21 _ _ _ hw (lv_sub hl [1, 2, 3, 4, 5, 7] rfl)
                  · have hf := ineg c23 hf
                    refine lv_iload (pc := 112) hx hb dX10_seen_112 (lv_at hl 0 rfl) ?_
                    refine lv_goto (pc := 114) (tgt := 119) hx hb dX10_seen_114 (by decide) ?_
                    cases hf
                    exact J119_21 _ _ _ hw (lv_sub hl [1, 2, 3, 4, 5, 7] rfl)
            obtain ⟨v25, hj, hf⟩ := b1_ob hf
            refine L83 _ v17 0 v25 hj _ _ _ hw (lv_sub hl [2, 3, 4, 5, 6, 1, 0] rfl) (fun H locs ls hw hl => ?_)
            clear hj L83
            refine lv_iload (pc := 127) hx hb dX10_seen_127 (lv_at hl 3 rfl) ?_
            refine lv_iload (pc := 129) hx hb dX10_seen_129 (lv_at hl 5 rfl) ?_
            refine lv_iadd (pc := 131) hx hb dX10_seen_131 ?_
            obtain ⟨v26, ev26, hf⟩ := bn_ob hf
            refine x_topi ev26 ?_
            refine lv_istore (lv' := [(4, .int v26), (0, .ref a), (2, .int p2), (3, .int v13), (5, .int v15), (6, .int v25)]) (pc := 132) hx hb dX10_seen_132 hl (by decide) rfl (fun ls hl => ?_)
            refine lv_iload (pc := 134) hx hb dX10_seen_134 (lv_at hl 4 rfl) ?_
            refine lv_iload_n (pc := 136) hx hb dX10_seen_136 rfl (lv_at hl 3 rfl) ?_
            refine lv_iadd (pc := 137) hx hb dX10_seen_137 ?_
            obtain ⟨v27, ev27, hf⟩ := bn_ob hf
            refine x_topi ev27 ?_
            refine lv_istore (lv' := [(5, .int v27), (4, .int v26), (0, .ref a), (2, .int p2), (3, .int v13), (6, .int v25)]) (pc := 138) hx hb dX10_seen_138 hl (by decide) rfl (fun ls hl => ?_)
            refine lv_goto (pc := 140) (tgt := 67) hx hb dX10_seen_140 (by decide) ?_
            cases hf
            exact ih v26 v27 rv14 hx0 _ _ _ hw (lv_sub hl [2, 3, 4, 1, 0] rfl) K
      obtain ⟨v28, hj, hf⟩ := b1_ob hf
      refine L67 _ 0 0 v28 hj _ _ _ hw (lv_sub hl [2, 3, 4, 1, 0] rfl) (fun H locs ls hw hl => ?_)
      clear hj L67
      refine lv_iload (pc := 143) hx hb dX10_seen_143 (lv_at hl 2 rfl) ?_
      refine lv_i2l (pc := 145) hx hb dX10_seen_145 rfl ?_
      refine lv_aload_n (pc := 146) hx hb dX10_seen_146 rfl (lv_at hl 0 rfl) ?_
      refine x_get (pc := 147) X hw in_X10_seen_X10 0 rfl rfl 11 (by decide) (List.mem_of_getElem? (i := 2) rfl) rfl dX10_seen_147 ?_
      refine lv_i2l (pc := 150) hx hb dX10_seen_150 rfl ?_
      refine lv_iload_n (pc := 151) hx hb dX10_seen_151 rfl (lv_at hl 1 rfl) ?_
      obtain ⟨v29, hc, hf⟩ := b1_ob hf
      refine x_nil (pc := 152) X hw (va_runS (As := [.long (v28.toInt64), .long ((S5.1 11).toInt64), .int p2]) (rest := []) ⟨hx, hb, hml, hown, hts⟩ (c_X10_partOf l D cs (v28.toInt64) ((S5.1 11).toInt64) p2 v29 hc _) (va_cwS 3 hts gX10_seen_X10_partOf rfl rfl rfl (by decide +kernel) ⟨Nat.le_of_ble_eq_true rfl, Nat.le_of_ble_eq_true rfl⟩) ⟨CP_blind, x_preN X [.long (v28.toInt64), .long ((S5.1 11).toInt64), .int p2]⟩ rfl rfl hl.1 rfl (lv_room (Nat.le_of_ble_eq_true rfl)) dX10_seen_152 ⟨Nat.zero_le _, Nat.zero_le _⟩) (fun H locs hw => ?_)
      cases hf
      exact hret _ _ 155 _ hw ⟨_, rfl, rfl⟩ dX10_seen_155
    · have hf := ipos c4 hf
      refine lv_bipush (pc := 24) (v := (-3)) hx hb dX10_seen_24 (by decide) ?_
      cases hf
      exact hret _ _ 26 _ hw ⟨_, rfl, rfl⟩ dX10_seen_26
  · have hf := ipos c2 hf
    refine lv_bipush (pc := 14) (v := (-2)) hx hb dX10_seen_14 (by decide) ?_
    cases hf
    exact hret _ _ 16 _ hw ⟨_, rfl, rfl⟩ dX10_seen_16

theorem in_X10_kept_X10 : ∀ w ∈ wsX100, w ∈ wsX10_kept := fun _ h => List.mem_cons_of_mem _ (List.mem_append_right _ h)
abbrev rmX10_kept : Room := { frames := 4, cells := 0, slots := 0, locals := 97 }
def B_X10_kept_52 (S3 : PS) (v5 : Int32) (v7 : Int32) (v10 : Int32) (v11 : Int32) (v12 : Int32) : Option ((Int32 × Int32) ⊕ (Int32)) :=
  b1 (rdI 20 (S3.2.1 9) v7) fun v13 =>
  if v13 ≤ v12 then
    some (.inr v11)
  else
  b1 (f_X10_allFrom S3 (v5 + (v12 * v10)) v10) fun v15 =>
  b1 (f_X10_allFrom S3 (v5 + (v11 * v10)) v10) fun v16 =>
  b1 (
    if v15 ≤ v16 then
      some v11
    else
    some v12) fun v17 =>
  bn (v12 + 1) fun v19 =>
  some (.inl (v17, v19))
def L_X10_kept_52 (S3 : PS) (v5 : Int32) (v7 : Int32) (v10 : Int32) (n : Nat) (v11 : Int32) (v12 : Int32) : Option (Int32) := loopF (fun x : Int32 × Int32 => B_X10_kept_52 S3 v5 v7 v10 x.1 x.2) n (v11, v12)
def B_X10_kept_27 (S3 : PS) (v5 : Int32) (v6 : Int32) (v7 : Int32) : Option ((Int32 × Int32 × Int32) ⊕ (Int32)) :=
  if (S3.1 10) ≤ v7 then
    some (.inr v5)
  else
  b1 (rdI 20 (S3.2.1 9) v7) fun v9 =>
  b1 (dvI v6 v9) fun v10 =>
  b1 (L_X10_kept_52 S3 v5 v7 v10 FU 0 1) fun v20 =>
  bn (v5 + (v20 * v10)) fun v21 =>
  bn (v7 + 1) fun v22 =>
  some (.inl (v21, v10, v22))
def L_X10_kept_27 (S3 : PS) (n : Nat) (v5 : Int32) (v6 : Int32) (v7 : Int32) : Option (Int32) := loopF (fun x : Int32 × Int32 × Int32 => B_X10_kept_27 S3 x.1 x.2.1 x.2.2) n (v5, v6, v7)
def f_X10_kept (S : PS) (p1 : Int32) : Option (Int32 × PS) :=
  b1 (f_X10_in (p1.toInt64) 0 1) fun v1 =>
  if v1 = 0 then
    some ((-3), S)
  else
  b1 (f_X10_layGood S) fun S3 =>
  bn (S3.1 11) fun v4 =>
  b1 (L_X10_kept_27 S3 FU 0 v4 0) fun v23 =>
  b1 (
    if p1 = 1 then
      some v23
    else
    b1 (f_X10_allFrom S3 v23 1) fun v26 =>
    some v26) fun v24 =>
  some (v24, S3)
set_option maxHeartbeats 4000000 in
set_option maxRecDepth 100000 in
theorem c_X10_kept (l : Launch) (D : va_G) (cs : CS) (a : Nat) (q : Nat → Nat) (S : PS) (p1 : Int32) (r : Int32) (S' : PS) (hf : f_X10_kept S p1 = some (r, S')) : CT l D (TY cs) yX10_kept wsX10_kept rmX10_kept [.ref a, .int p1] (wX10 cs a q S) (some (.int r)) (wX10 cs a q S') := by
  refine CT.ofW (own := RX10) (cc := cX10_kept) (maxL := 7) (ret := some .int) (by decide) rfl rfl (Nat.le_of_ble_eq_true rfl) ?_
  intro p e s m args below meth c A Q X hret ls hl hw
  obtain ⟨hx, hb, hml, hown, hts, hK, hA, hr, hlk⟩ := id X
  have hl : lv_has ls 7 [(0, .ref a), (1, .int p1)] := hl
  unfold f_X10_kept at hf
  refine lv_iload_n (pc := 0) hx hb dX10_kept_0 rfl (lv_at hl 1 rfl) ?_
  refine lv_i2l (pc := 1) hx hb dX10_kept_1 rfl ?_
  refine lv_lconst (pc := 2) (v := 0) hx hb dX10_kept_2 (by decide) ?_
  refine lv_lconst (pc := 3) (v := 1) hx hb dX10_kept_3 (by decide) ?_
  obtain ⟨v1, hc, hf⟩ := b1_ob hf
  refine x_nil (pc := 4) X hw (va_runS (As := [.long (p1.toInt64), .long 0, .long 1]) (rest := []) ⟨hx, hb, hml, hown, hts⟩ (c_X10_in l D cs (p1.toInt64) 0 1 v1 hc _) (va_cwS 3 hts gX10_kept_X10_in rfl rfl rfl (by decide +kernel) ⟨Nat.le_of_ble_eq_true rfl, Nat.le_of_ble_eq_true rfl⟩) ⟨CP_blind, x_preN X [.long (p1.toInt64), .long 0, .long 1]⟩ rfl rfl hl.1 rfl (lv_room (Nat.le_of_ble_eq_true rfl)) dX10_kept_4 ⟨Nat.zero_le _, Nat.zero_le _⟩) (fun H locs hw => ?_)
  refine lv_if_ne (pc := 7) (tgt := 13) hx hb dX10_kept_7 (by decide) (fun c2 => ?_) (fun c2 => ?_)
  · have hf := ineg c2 hf
    refine lv_aload_n (pc := 13) hx hb dX10_kept_13 rfl (lv_at hl 0 rfl) ?_
    obtain ⟨S3, hc, hf⟩ := b1_ob hf
    refine x_all (pc := 14) X hw (va_runV (As := []) (rest := []) ⟨hx, hb, hml, hown, hts⟩ (c_X10_layGood l D cs a q S S3 hc _) (cwV 0 hts gX10_kept_X10_layGood rfl rfl rfl (by decide +kernel) ⟨Nat.le_of_ble_eq_true rfl, Nat.le_of_ble_eq_true rfl⟩) ⟨CP_blind, va_recv hK hw.1 (ci := 10) (q0 := 0) rfl rfl, x_preA X hw [.ref a]⟩ rfl rfl hl.1 rfl (lv_room (Nat.le_of_ble_eq_true rfl)) dX10_kept_14 ⟨Nat.zero_le _, Nat.zero_le _⟩) (fun H locs hw => ?_)
    refine lv_iconst (pc := 17) (v := 0) hx hb dX10_kept_17 (by decide) ?_
    refine lv_istore_n (lv' := [(2, .int 0), (0, .ref a), (1, .int p1)]) (pc := 18) hx hb dX10_kept_18 rfl hl (by decide) rfl (fun ls hl => ?_)
    refine lv_aload_n (pc := 19) hx hb dX10_kept_19 rfl (lv_at hl 1 rfl) ?_
    refine x_get (pc := 20) X hw in_X10_kept_X10 0 rfl rfl 11 (by decide) (List.mem_of_getElem? (i := 1) rfl) rfl dX10_kept_20 ?_
    obtain ⟨v4, ev4, hf⟩ := bn_ob hf
    refine x_topi ev4 ?_
    refine lv_istore_n (lv' := [(3, .int v4), (2, .int 0), (0, .ref a), (1, .int p1)]) (pc := 23) hx hb dX10_kept_23 rfl hl (by decide) rfl (fun ls hl => ?_)
    refine lv_iconst (pc := 24) (v := 0) hx hb dX10_kept_24 (by decide) ?_
    refine lv_istore (lv' := [(4, .int 0), (3, .int v4), (2, .int 0), (0, .ref a), (1, .int p1)]) (pc := 25) hx hb dX10_kept_25 hl (by decide) rfl (fun ls hl => ?_)
    have L27 : ∀ (n : Nat) (v5 : Int32) (v6 : Int32) (v7 : Int32) (rv5 : Int32), L_X10_kept_27 S3 n v5 v6 v7 = some rv5 → ∀ (H : Heap) (locs : List Loc) (ls : Array Slot), WD D A s (wX10 cs a q S3) H locs → lv_has ls 7 [(0, .ref a), (1, .int p1), (2, .int v5), (3, .int v6), (4, .int v7)] → (∀ (H : Heap) (locs : List Loc) (ls : Array Slot), WD D A s (wX10 cs a q S3) H locs → lv_has ls 7 [(0, .ref a), (1, .int p1), (2, .int rv5)] → W p l e rmX10_kept s m args below meth c H locs 0 0 Q (F0 m 117 ls [])) → W p l e rmX10_kept s m args below meth c H locs 0 0 Q (F0 m 27 ls []) := by
      intro n
      induction n with
      | zero => intro v5 v6 v7 rv5 hf; exact (loopF_z hf).elim
      | succ n ih =>
        intro v5 v6 v7 rv5 hf H locs ls hw hl K
        obtain ⟨x, hf, hx0⟩ := loopF_ob hf
        have hf : B_X10_kept_27 S3 v5 v6 v7 = some x := hf
        unfold B_X10_kept_27 at hf
        refine lv_iload (pc := 27) hx hb dX10_kept_27 (lv_at hl 4 rfl) ?_
        refine lv_aload_n (pc := 29) hx hb dX10_kept_29 rfl (lv_at hl 0 rfl) ?_
        refine x_get (pc := 30) X hw in_X10_kept_X10 0 rfl rfl 10 (by decide) (List.mem_of_getElem? (i := 2) rfl) rfl dX10_kept_30 ?_
        refine lv_icmp_ge (pc := 33) (tgt := 117) hx hb dX10_kept_33 (by decide) (fun c8 => ?_) (fun c8 => ?_)
        · have hf := ipos c8 hf
          cases hf
          cases (hx0 : v5 = rv5)
          exact K _ _ _ hw (lv_sub hl [0, 1, 2] rfl)
        · have hf := ineg c8 hf
          refine lv_iload_n (pc := 36) hx hb dX10_kept_36 rfl (lv_at hl 3 rfl) ?_
          refine lv_aload_n (pc := 37) hx hb dX10_kept_37 rfl (lv_at hl 0 rfl) ?_
          refine x_get (pc := 38) X hw in_X10_kept_X10 0 rfl rfl 9 (by decide) (List.mem_of_getElem? (i := 3) rfl) rfl dX10_kept_38 ?_
          refine lv_iload (pc := 41) hx hb dX10_kept_41 (lv_at hl 4 rfl) ?_
          obtain ⟨v9, ev9, hf⟩ := b1_ob hf
          refine x_iald (pc := 43) X hw 7 0 rfl rfl ev9 dX10_kept_43 ?_
          obtain ⟨v10, ev10, hf⟩ := b1_ob hf
          refine lv_idiv (pc := 44) hx hb dX10_kept_44 (dvI_ob ev10).1 ?_
          refine x_topi (dvI_ob ev10).2.symm ?_
          refine lv_istore_n (lv' := [(3, .int v10), (0, .ref a), (1, .int p1), (2, .int v5), (4, .int v7)]) (pc := 45) hx hb dX10_kept_45 rfl hl (by decide) rfl (fun ls hl => ?_)
          refine lv_iconst (pc := 46) (v := 0) hx hb dX10_kept_46 (by decide) ?_
          refine lv_istore (lv' := [(5, .int 0), (3, .int v10), (0, .ref a), (1, .int p1), (2, .int v5), (4, .int v7)]) (pc := 47) hx hb dX10_kept_47 hl (by decide) rfl (fun ls hl => ?_)
          refine lv_iconst (pc := 49) (v := 1) hx hb dX10_kept_49 (by decide) ?_
          refine lv_istore (lv' := [(6, .int 1), (5, .int 0), (3, .int v10), (0, .ref a), (1, .int p1), (2, .int v5), (4, .int v7)]) (pc := 50) hx hb dX10_kept_50 hl (by decide) rfl (fun ls hl => ?_)
          have L52 : ∀ (n : Nat) (v11 : Int32) (v12 : Int32) (rv11 : Int32), L_X10_kept_52 S3 v5 v7 v10 n v11 v12 = some rv11 → ∀ (H : Heap) (locs : List Loc) (ls : Array Slot), WD D A s (wX10 cs a q S3) H locs → lv_has ls 7 [(0, .ref a), (1, .int p1), (2, .int v5), (3, .int v10), (4, .int v7), (5, .int v11), (6, .int v12)] → (∀ (H : Heap) (locs : List Loc) (ls : Array Slot), WD D A s (wX10 cs a q S3) H locs → lv_has ls 7 [(0, .ref a), (1, .int p1), (2, .int v5), (3, .int v10), (4, .int v7), (5, .int rv11)] → W p l e rmX10_kept s m args below meth c H locs 0 0 Q (F0 m 104 ls [])) → W p l e rmX10_kept s m args below meth c H locs 0 0 Q (F0 m 52 ls []) := by
            intro n
            induction n with
            | zero => intro v11 v12 rv11 hf; exact (loopF_z hf).elim
            | succ n ih =>
              intro v11 v12 rv11 hf H locs ls hw hl K
              obtain ⟨x, hf, hx0⟩ := loopF_ob hf
              have hf : B_X10_kept_52 S3 v5 v7 v10 v11 v12 = some x := hf
              unfold B_X10_kept_52 at hf
              refine lv_iload (pc := 52) hx hb dX10_kept_52 (lv_at hl 6 rfl) ?_
              refine lv_aload_n (pc := 54) hx hb dX10_kept_54 rfl (lv_at hl 0 rfl) ?_
              refine x_get (pc := 55) X hw in_X10_kept_X10 0 rfl rfl 9 (by decide) (List.mem_of_getElem? (i := 3) rfl) rfl dX10_kept_55 ?_
              refine lv_iload (pc := 58) hx hb dX10_kept_58 (lv_at hl 4 rfl) ?_
              obtain ⟨v13, ev13, hf⟩ := b1_ob hf
              refine x_iald (pc := 60) X hw 7 0 rfl rfl ev13 dX10_kept_60 ?_
              refine lv_icmp_ge (pc := 61) (tgt := 104) hx hb dX10_kept_61 (by decide) (fun c14 => ?_) (fun c14 => ?_)
              · have hf := ipos c14 hf
                cases hf
                cases (hx0 : v11 = rv11)
                exact K _ _ _ hw (lv_sub hl [0, 1, 2, 3, 4, 5] rfl)
              · have hf := ineg c14 hf
                refine lv_aload_n (pc := 64) hx hb dX10_kept_64 rfl (lv_at hl 0 rfl) ?_
                refine lv_iload_n (pc := 65) hx hb dX10_kept_65 rfl (lv_at hl 2 rfl) ?_
                refine lv_iload (pc := 66) hx hb dX10_kept_66 (lv_at hl 6 rfl) ?_
                refine lv_iload_n (pc := 68) hx hb dX10_kept_68 rfl (lv_at hl 3 rfl) ?_
                refine lv_imul (pc := 69) hx hb dX10_kept_69 ?_
                refine lv_iadd (pc := 70) hx hb dX10_kept_70 ?_
                refine lv_iload_n (pc := 71) hx hb dX10_kept_71 rfl (lv_at hl 3 rfl) ?_
                obtain ⟨v15, hc, hf⟩ := b1_ob hf
                refine x_all (pc := 72) X hw (va_runV (As := [.int (v5 + (v12 * v10)), .int v10]) (rest := []) ⟨hx, hb, hml, hown, hts⟩ (c_X10_allFrom l D cs a q S3 (v5 + (v12 * v10)) v10 v15 hc _) (cwV 2 hts gX10_kept_X10_allFrom rfl rfl rfl (by decide +kernel) ⟨Nat.le_of_ble_eq_true rfl, Nat.le_of_ble_eq_true rfl⟩) ⟨CP_blind, va_recv hK hw.1 (ci := 10) (q0 := 0) rfl rfl, x_preA X hw [.ref a, .int (v5 + (v12 * v10)), .int v10]⟩ rfl rfl hl.1 rfl (lv_room (Nat.le_of_ble_eq_true rfl)) dX10_kept_72 ⟨Nat.zero_le _, Nat.zero_le _⟩) (fun H locs hw => ?_)
                refine lv_aload_n (pc := 75) hx hb dX10_kept_75 rfl (lv_at hl 0 rfl) ?_
                refine lv_iload_n (pc := 76) hx hb dX10_kept_76 rfl (lv_at hl 2 rfl) ?_
                refine lv_iload (pc := 77) hx hb dX10_kept_77 (lv_at hl 5 rfl) ?_
                refine lv_iload_n (pc := 79) hx hb dX10_kept_79 rfl (lv_at hl 3 rfl) ?_
                refine lv_imul (pc := 80) hx hb dX10_kept_80 ?_
                refine lv_iadd (pc := 81) hx hb dX10_kept_81 ?_
                refine lv_iload_n (pc := 82) hx hb dX10_kept_82 rfl (lv_at hl 3 rfl) ?_
                obtain ⟨v16, hc, hf⟩ := b1_ob hf
                refine x_all (pc := 83) X hw (va_runV (As := [.int (v5 + (v11 * v10)), .int v10]) (rest := [.int v15]) ⟨hx, hb, hml, hown, hts⟩ (c_X10_allFrom l D cs a q S3 (v5 + (v11 * v10)) v10 v16 hc _) (cwV 2 hts gX10_kept_X10_allFrom rfl rfl rfl (by decide +kernel) ⟨Nat.le_of_ble_eq_true rfl, Nat.le_of_ble_eq_true rfl⟩) ⟨CP_blind, va_recv hK hw.1 (ci := 10) (q0 := 0) rfl rfl, x_preA X hw [.ref a, .int (v5 + (v11 * v10)), .int v10]⟩ rfl rfl hl.1 rfl (lv_room (Nat.le_of_ble_eq_true rfl)) dX10_kept_83 ⟨Nat.zero_le _, Nat.zero_le _⟩) (fun H locs hw => ?_)
                obtain ⟨v17, hj, hf⟩ := b1_ob hf
                have J96_16 : ∀ (H : Heap) (locs : List Loc) (ls : Array Slot), WD D A s (wX10 cs a q S3) H locs → lv_has ls 7 [(0, .ref a), (1, .int p1), (2, .int v5), (3, .int v10), (4, .int v7), (6, .int v12)] → W p l e rmX10_kept s m args below meth c H locs 0 0 Q (F0 m 96 ls [.int v17]) := by
                  intro H locs ls hw hl
                  refine lv_istore (lv' := [(5, .int v17), (0, .ref a), (1, .int p1), (2, .int v5), (3, .int v10), (4, .int v7), (6, .int v12)]) (pc := 96) hx hb dX10_kept_96 hl (by decide) rfl (fun ls hl => ?_)
                  obtain ⟨v19, ev19, hf⟩ := bn_ob hf
                  refine lv_iinc (pc := 98) (v := v19) (lv' := [(6, .int v19), (5, .int v17), (0, .ref a), (1, .int p1), (2, .int v5), (3, .int v10), (4, .int v7)]) hx hb dX10_kept_98 hl (k := 6) rfl (by rw [ev19]; rfl) (by decide) rfl (fun ls hl => ?_)
                  refine lv_goto (pc := 101) (tgt := 52) hx hb dX10_kept_101 (by decide) ?_
                  cases hf
                  exact ih v17 v19 rv11 hx0 _ _ _ hw (lv_sub hl [2, 3, 4, 5, 6, 1, 0] rfl) K
                clear hf; have hf := hj; clear hj
                refine lv_icmp_le (pc := 86) (tgt := 94) hx hb dX10_kept_86 (by decide) (fun c18 => ?_) (fun c18 => ?_)
                · have hf := ipos c18 hf
                  refine lv_iload (pc := 94) hx hb dX10_kept_94 (lv_at hl 5 rfl) ?_
                  cases hf
                  exact J96_16 _ _ _ hw (lv_sub hl [0, 1, 2, 3, 4, 6] rfl)
                · have hf := ineg c18 hf
                  refine lv_iload (pc := 89) hx hb dX10_kept_89 (lv_at hl 6 rfl) ?_
                  refine lv_goto (pc := 91) (tgt := 96) hx hb dX10_kept_91 (by decide) ?_
                  cases hf
                  exact J96_16 _ _ _ hw (lv_sub hl [0, 1, 2, 3, 4, 6] rfl)
          obtain ⟨v20, hj, hf⟩ := b1_ob hf
          refine L52 _ 0 1 v20 hj _ _ _ hw (lv_sub hl [3, 4, 5, 2, 6, 1, 0] rfl) (fun H locs ls hw hl => ?_)
          clear hj L52
          refine lv_iload_n (pc := 104) hx hb dX10_kept_104 rfl (lv_at hl 2 rfl) ?_
          refine lv_iload (pc := 105) hx hb dX10_kept_105 (lv_at hl 5 rfl) ?_
          refine lv_iload_n (pc := 107) hx hb dX10_kept_107 rfl (lv_at hl 3 rfl) ?_
          refine lv_imul (pc := 108) hx hb dX10_kept_108 ?_
          refine lv_iadd (pc := 109) hx hb dX10_kept_109 ?_
          obtain ⟨v21, ev21, hf⟩ := bn_ob hf
          refine x_topi ev21 ?_
          refine lv_istore_n (lv' := [(2, .int v21), (0, .ref a), (1, .int p1), (3, .int v10), (4, .int v7), (5, .int v20)]) (pc := 110) hx hb dX10_kept_110 rfl hl (by decide) rfl (fun ls hl => ?_)
          obtain ⟨v22, ev22, hf⟩ := bn_ob hf
          refine lv_iinc (pc := 111) (v := v22) (lv' := [(4, .int v22), (2, .int v21), (0, .ref a), (1, .int p1), (3, .int v10), (5, .int v20)]) hx hb dX10_kept_111 hl (k := 4) rfl (by rw [ev22]; rfl) (by decide) rfl (fun ls hl => ?_)
          refine lv_goto (pc := 114) (tgt := 27) hx hb dX10_kept_114 (by decide) ?_
          cases hf
          exact ih v21 v10 v22 rv5 hx0 _ _ _ hw (lv_sub hl [2, 3, 1, 4, 0] rfl) K
    obtain ⟨v23, hj, hf⟩ := b1_ob hf
    refine L27 _ 0 v4 0 v23 hj _ _ _ hw (lv_sub hl [3, 4, 2, 1, 0] rfl) (fun H locs ls hw hl => ?_)
    clear hj L27
    refine lv_iload_n (pc := 117) hx hb dX10_kept_117 rfl (lv_at hl 1 rfl) ?_
    refine lv_iconst (pc := 118) (v := 1) hx hb dX10_kept_118 (by decide) ?_
    obtain ⟨v24, hj, hf⟩ := b1_ob hf
    have J132_23 : ∀ (H : Heap) (locs : List Loc) (ls : Array Slot), WD D A s (wX10 cs a q S3) H locs → lv_has ls 7 [] → W p l e rmX10_kept s m args below meth c H locs 0 0 Q (F0 m 132 ls [.int v24]) := by
      intro H locs ls hw hl
      cases hf
      exact hret _ _ 132 _ hw ⟨_, rfl, rfl⟩ dX10_kept_132
    clear hf; have hf := hj; clear hj
    refine lv_icmp_ne (pc := 119) (tgt := 126) hx hb dX10_kept_119 (by decide) (fun c25 => ?_) (fun c25 => ?_)
    · have hf := ineg c25 hf
      refine lv_aload_n (pc := 126) hx hb dX10_kept_126 rfl (lv_at hl 0 rfl) ?_
      refine lv_iload_n (pc := 127) hx hb dX10_kept_127 rfl (lv_at hl 2 rfl) ?_
      refine lv_iconst (pc := 128) (v := 1) hx hb dX10_kept_128 (by decide) ?_
      obtain ⟨v26, hc, hf⟩ := b1_ob hf
      refine x_all (pc := 129) X hw (va_runV (As := [.int v23, .int 1]) (rest := []) ⟨hx, hb, hml, hown, hts⟩ (c_X10_allFrom l D cs a q S3 v23 1 v26 hc _) (cwV 2 hts gX10_kept_X10_allFrom rfl rfl rfl (by decide +kernel) ⟨Nat.le_of_ble_eq_true rfl, Nat.le_of_ble_eq_true rfl⟩) ⟨CP_blind, va_recv hK hw.1 (ci := 10) (q0 := 0) rfl rfl, x_preA X hw [.ref a, .int v23, .int 1]⟩ rfl rfl hl.1 rfl (lv_room (Nat.le_of_ble_eq_true rfl)) dX10_kept_129 ⟨Nat.zero_le _, Nat.zero_le _⟩) (fun H locs hw => ?_)
      cases hf
      exact J132_23 _ _ _ hw (lv_sub hl [] rfl)
    · have hf := ipos c25 hf
      refine lv_iload_n (pc := 122) hx hb dX10_kept_122 rfl (lv_at hl 2 rfl) ?_
      refine lv_goto (pc := 123) (tgt := 132) hx hb dX10_kept_123 (by decide) ?_
      cases hf
      exact J132_23 _ _ _ hw (lv_sub hl [] rfl)
  · have hf := ipos c2 hf
    refine lv_bipush (pc := 10) (v := (-3)) hx hb dX10_kept_10 (by decide) ?_
    cases hf
    exact hret _ _ 12 _ hw ⟨_, rfl, rfl⟩ dX10_kept_12

theorem in_X10_good_X10 : ∀ w ∈ wsX100, w ∈ wsX10_good := fun _ h => List.mem_cons_of_mem _ (List.mem_append_right _ h)
abbrev rmX10_good : Room := { frames := 4, cells := 0, slots := 0, locals := 97 }
def B_X10_good_29 (S3 : PS) (v6 : Int32) (v7 : Int32) (v8 : Int32) : Option ((Int32 × Int32 × Int32) ⊕ (Int32 × Int32)) :=
  if v8 < 0 then
    some (.inr (v6, v7))
  else
  b1 (f_X10_allFrom S3 v8 1) fun v10 =>
  b1 (
    if v10 = ((1 : Int32) <<< ((S3.1 12) &&& 31)) then
      some (1 : Int32)
    else
    some (0 : Int32)) fun v11 =>
  b1 (
    if v11 = 0 then
      some (0 : Int32)
    else
    some (1 : Int32)) fun v13 =>
  bn (v6 + v13) fun v15 =>
  b1 (
    if v11 = 0 then
      some v7
    else
    some v8) fun v16 =>
  bn (v8 + (-1)) fun v18 =>
  some (.inl (v15, v16, v18))
def L_X10_good_29 (S3 : PS) (n : Nat) (v6 : Int32) (v7 : Int32) (v8 : Int32) : Option (Int32 × Int32) := loopF (fun x : Int32 × Int32 × Int32 => B_X10_good_29 S3 x.1 x.2.1 x.2.2) n (v6, v7, v8)
def f_X10_good (S : PS) (p1 : Int32) : Option (Int32 × PS) :=
  b1 (f_X10_in (p1.toInt64) 0 1) fun v1 =>
  if v1 = 0 then
    some ((-3), S)
  else
  b1 (f_X10_layGood S) fun S3 =>
  bn ((-1) : Int32) fun v4 =>
  bn ((S3.1 11) - 1) fun v5 =>
  b2 (L_X10_good_29 S3 FU 0 v4 v5) fun v19 v20 =>
  b1 (
    if p1 = 0 then
      some v19
    else
    some v20) fun v21 =>
  some (v21, S3)
set_option maxHeartbeats 4000000 in
set_option maxRecDepth 100000 in
theorem c_X10_good (l : Launch) (D : va_G) (cs : CS) (a : Nat) (q : Nat → Nat) (S : PS) (p1 : Int32) (r : Int32) (S' : PS) (hf : f_X10_good S p1 = some (r, S')) : CT l D (TY cs) yX10_good wsX10_good rmX10_good [.ref a, .int p1] (wX10 cs a q S) (some (.int r)) (wX10 cs a q S') := by
  refine CT.ofW (own := RX10) (cc := cX10_good) (maxL := 6) (ret := some .int) (by decide) rfl rfl (Nat.le_of_ble_eq_true rfl) ?_
  intro p e s m args below meth c A Q X hret ls hl hw
  obtain ⟨hx, hb, hml, hown, hts, hK, hA, hr, hlk⟩ := id X
  have hl : lv_has ls 6 [(0, .ref a), (1, .int p1)] := hl
  unfold f_X10_good at hf
  refine lv_iload_n (pc := 0) hx hb dX10_good_0 rfl (lv_at hl 1 rfl) ?_
  refine lv_i2l (pc := 1) hx hb dX10_good_1 rfl ?_
  refine lv_lconst (pc := 2) (v := 0) hx hb dX10_good_2 (by decide) ?_
  refine lv_lconst (pc := 3) (v := 1) hx hb dX10_good_3 (by decide) ?_
  obtain ⟨v1, hc, hf⟩ := b1_ob hf
  refine x_nil (pc := 4) X hw (va_runS (As := [.long (p1.toInt64), .long 0, .long 1]) (rest := []) ⟨hx, hb, hml, hown, hts⟩ (c_X10_in l D cs (p1.toInt64) 0 1 v1 hc _) (va_cwS 3 hts gX10_good_X10_in rfl rfl rfl (by decide +kernel) ⟨Nat.le_of_ble_eq_true rfl, Nat.le_of_ble_eq_true rfl⟩) ⟨CP_blind, x_preN X [.long (p1.toInt64), .long 0, .long 1]⟩ rfl rfl hl.1 rfl (lv_room (Nat.le_of_ble_eq_true rfl)) dX10_good_4 ⟨Nat.zero_le _, Nat.zero_le _⟩) (fun H locs hw => ?_)
  refine lv_if_ne (pc := 7) (tgt := 13) hx hb dX10_good_7 (by decide) (fun c2 => ?_) (fun c2 => ?_)
  · have hf := ineg c2 hf
    refine lv_aload_n (pc := 13) hx hb dX10_good_13 rfl (lv_at hl 0 rfl) ?_
    obtain ⟨S3, hc, hf⟩ := b1_ob hf
    refine x_all (pc := 14) X hw (va_runV (As := []) (rest := []) ⟨hx, hb, hml, hown, hts⟩ (c_X10_layGood l D cs a q S S3 hc _) (cwV 0 hts gX10_good_X10_layGood rfl rfl rfl (by decide +kernel) ⟨Nat.le_of_ble_eq_true rfl, Nat.le_of_ble_eq_true rfl⟩) ⟨CP_blind, va_recv hK hw.1 (ci := 10) (q0 := 0) rfl rfl, x_preA X hw [.ref a]⟩ rfl rfl hl.1 rfl (lv_room (Nat.le_of_ble_eq_true rfl)) dX10_good_14 ⟨Nat.zero_le _, Nat.zero_le _⟩) (fun H locs hw => ?_)
    refine lv_iconst (pc := 17) (v := 0) hx hb dX10_good_17 (by decide) ?_
    refine lv_istore_n (lv' := [(2, .int 0), (0, .ref a), (1, .int p1)]) (pc := 18) hx hb dX10_good_18 rfl hl (by decide) rfl (fun ls hl => ?_)
    refine lv_iconst (pc := 19) (v := (-1)) hx hb dX10_good_19 (by decide) ?_
    obtain ⟨v4, ev4, hf⟩ := bn_ob hf
    refine x_topi ev4 ?_
    refine lv_istore_n (lv' := [(3, .int v4), (2, .int 0), (0, .ref a), (1, .int p1)]) (pc := 20) hx hb dX10_good_20 rfl hl (by decide) rfl (fun ls hl => ?_)
    refine lv_aload_n (pc := 21) hx hb dX10_good_21 rfl (lv_at hl 2 rfl) ?_
    refine x_get (pc := 22) X hw in_X10_good_X10 0 rfl rfl 11 (by decide) (List.mem_of_getElem? (i := 1) rfl) rfl dX10_good_22 ?_
    refine lv_iconst (pc := 25) (v := 1) hx hb dX10_good_25 (by decide) ?_
    refine lv_isub (pc := 26) hx hb dX10_good_26 ?_
    obtain ⟨v5, ev5, hf⟩ := bn_ob hf
    refine x_topi ev5 ?_
    refine lv_istore (lv' := [(4, .int v5), (3, .int v4), (2, .int 0), (0, .ref a), (1, .int p1)]) (pc := 27) hx hb dX10_good_27 hl (by decide) rfl (fun ls hl => ?_)
    have L29 : ∀ (n : Nat) (v6 : Int32) (v7 : Int32) (v8 : Int32) (rv6 : Int32) (rv7 : Int32), L_X10_good_29 S3 n v6 v7 v8 = some (rv6, rv7) → ∀ (H : Heap) (locs : List Loc) (ls : Array Slot), WD D A s (wX10 cs a q S3) H locs → lv_has ls 6 [(0, .ref a), (1, .int p1), (2, .int v6), (3, .int v7), (4, .int v8)] → (∀ (H : Heap) (locs : List Loc) (ls : Array Slot), WD D A s (wX10 cs a q S3) H locs → lv_has ls 6 [(1, .int p1), (2, .int rv6), (3, .int rv7)] → W p l e rmX10_good s m args below meth c H locs 0 0 Q (F0 m 88 ls [])) → W p l e rmX10_good s m args below meth c H locs 0 0 Q (F0 m 29 ls []) := by
      intro n
      induction n with
      | zero => intro v6 v7 v8 rv6 rv7 hf; exact (loopF_z hf).elim
      | succ n ih =>
        intro v6 v7 v8 rv6 rv7 hf H locs ls hw hl K
        obtain ⟨x, hf, hx0⟩ := loopF_ob hf
        have hf : B_X10_good_29 S3 v6 v7 v8 = some x := hf
        unfold B_X10_good_29 at hf
        refine lv_iload (pc := 29) hx hb dX10_good_29 (lv_at hl 4 rfl) ?_
        refine lv_if_lt (pc := 31) (tgt := 88) hx hb dX10_good_31 (by decide) (fun c9 => ?_) (fun c9 => ?_)
        · have hf := ipos c9 hf
          cases hf
          cases (hx0 : (v6, v7) = (rv6, rv7))
          exact K _ _ _ hw (lv_sub hl [1, 2, 3] rfl)
        · have hf := ineg c9 hf
          refine lv_aload_n (pc := 34) hx hb dX10_good_34 rfl (lv_at hl 0 rfl) ?_
          refine lv_iload (pc := 35) hx hb dX10_good_35 (lv_at hl 4 rfl) ?_
          refine lv_iconst (pc := 37) (v := 1) hx hb dX10_good_37 (by decide) ?_
          obtain ⟨v10, hc, hf⟩ := b1_ob hf
          refine x_all (pc := 38) X hw (va_runV (As := [.int v8, .int 1]) (rest := []) ⟨hx, hb, hml, hown, hts⟩ (c_X10_allFrom l D cs a q S3 v8 1 v10 hc _) (cwV 2 hts gX10_good_X10_allFrom rfl rfl rfl (by decide +kernel) ⟨Nat.le_of_ble_eq_true rfl, Nat.le_of_ble_eq_true rfl⟩) ⟨CP_blind, va_recv hK hw.1 (ci := 10) (q0 := 0) rfl rfl, x_preA X hw [.ref a, .int v8, .int 1]⟩ rfl rfl hl.1 rfl (lv_room (Nat.le_of_ble_eq_true rfl)) dX10_good_38 ⟨Nat.zero_le _, Nat.zero_le _⟩) (fun H locs hw => ?_)
          refine lv_iconst (pc := 41) (v := 1) hx hb dX10_good_41 (by decide) ?_
          refine lv_aload_n (pc := 42) hx hb dX10_good_42 rfl (lv_at hl 0 rfl) ?_
          refine x_get (pc := 43) X hw in_X10_good_X10 0 rfl rfl 12 (by decide) (List.mem_of_getElem? (i := 2) rfl) rfl dX10_good_43 ?_
          refine lv_ishl (pc := 46) hx hb dX10_good_46 ?_
          obtain ⟨v11, hj, hf⟩ := b1_ob hf
          have J55_10 : ∀ (H : Heap) (locs : List Loc) (ls : Array Slot), WD D A s (wX10 cs a q S3) H locs → lv_has ls 6 [(0, .ref a), (1, .int p1), (2, .int v6), (3, .int v7), (4, .int v8)] → W p l e rmX10_good s m args below meth c H locs 0 0 Q (F0 m 55 ls [.int v11]) := by
            intro H locs ls hw hl
            refine lv_istore (lv' := [(5, .int v11), (0, .ref a), (1, .int p1), (2, .int v6), (3, .int v7), (4, .int v8)]) (pc := 55) hx hb dX10_good_55 hl (by decide) rfl (fun ls hl => ?_)
            refine lv_iload_n (pc := 57) hx hb dX10_good_57 rfl (lv_at hl 3 rfl) ?_
            refine lv_iload (pc := 58) hx hb dX10_good_58 (lv_at hl 0 rfl) ?_
            obtain ⟨v13, hj, hf⟩ := b1_ob hf
            have J68_12 : ∀ (H : Heap) (locs : List Loc) (ls : Array Slot), WD D A s (wX10 cs a q S3) H locs → lv_has ls 6 [(0, .ref a), (1, .int p1), (3, .int v7), (4, .int v8), (5, .int v11)] → W p l e rmX10_good s m args below meth c H locs 0 0 Q (F0 m 68 ls [.int v13, .int v6]) := by
              intro H locs ls hw hl
              refine lv_iadd (pc := 68) hx hb dX10_good_68 ?_
              obtain ⟨v15, ev15, hf⟩ := bn_ob hf
              refine x_topi ev15 ?_
              refine lv_istore_n (lv' := [(2, .int v15), (0, .ref a), (1, .int p1), (3, .int v7), (4, .int v8), (5, .int v11)]) (pc := 69) hx hb dX10_good_69 rfl hl (by decide) rfl (fun ls hl => ?_)
              refine lv_iload (pc := 70) hx hb dX10_good_70 (lv_at hl 5 rfl) ?_
              obtain ⟨v16, hj, hf⟩ := b1_ob hf
              have J81_15 : ∀ (H : Heap) (locs : List Loc) (ls : Array Slot), WD D A s (wX10 cs a q S3) H locs → lv_has ls 6 [(0, .ref a), (1, .int p1), (2, .int v15), (4, .int v8)] → W p l e rmX10_good s m args below meth c H locs 0 0 Q (F0 m 81 ls [.int v16]) := by
                intro H locs ls hw hl
                refine lv_istore_n (lv' := [(3, .int v16), (0, .ref a), (1, .int p1), (2, .int v15), (4, .int v8)]) (pc := 81) hx hb dX10_good_81 rfl hl (by decide) rfl (fun ls hl => ?_)
                obtain ⟨v18, ev18, hf⟩ := bn_ob hf
                refine lv_iinc (pc := 82) (v := v18) (lv' := [(4, .int v18), (3, .int v16), (0, .ref a), (1, .int p1), (2, .int v15)]) hx hb dX10_good_82 hl (k := 4) rfl (by rw [ev18]; rfl) (by decide) rfl (fun ls hl => ?_)
                refine lv_goto (pc := 85) (tgt := 29) hx hb dX10_good_85 (by decide) ?_
                cases hf
                exact ih v15 v16 v18 rv6 rv7 hx0 _ _ _ hw (lv_sub hl [2, 3, 4, 1, 0] rfl) K
              clear hf; have hf := hj; clear hj
              refine lv_if_eq (pc := 72) (tgt := 80) hx hb dX10_good_72 (by decide) (fun c17 => ?_) (fun c17 => ?_)
              · have hf := ipos c17 hf
                refine lv_iload_n (pc := 80) hx hb dX10_good_80 rfl (lv_at hl 3 rfl) ?_
                cases hf
                exact J81_15 _ _ _ hw (lv_sub hl [1, 2, 0, 4] rfl)
              · have hf := ineg c17 hf
                refine lv_iload (pc := 75) hx hb dX10_good_75 (lv_at hl 4 rfl) ?_
                refine lv_goto (pc := 77) (tgt := 81) hx hb dX10_good_77 (by decide) ?_
                cases hf
                exact J81_15 _ _ _ hw (lv_sub hl [1, 2, 0, 4] rfl)
            clear hf; have hf := hj; clear hj
            refine lv_if_eq (pc := 60) (tgt := 67) hx hb dX10_good_60 (by decide) (fun c14 => ?_) (fun c14 => ?_)
            · have hf := ipos c14 hf
              refine lv_iconst (pc := 67) (v := 0) hx hb dX10_good_67 (by decide) ?_
              cases hf
              exact J68_12 _ _ _ hw (lv_sub hl [1, 2, 4, 5, 0] rfl)
            · have hf := ineg c14 hf
              refine lv_iconst (pc := 63) (v := 1) hx hb dX10_good_63 (by decide) ?_
              refine lv_goto (pc := 64) (tgt := 68) hx hb dX10_good_64 (by decide) ?_
              cases hf
              exact J68_12 _ _ _ hw (lv_sub hl [1, 2, 4, 5, 0] rfl)
          clear hf; have hf := hj; clear hj
          refine lv_icmp_ne (pc := 47) (tgt := 54) hx hb dX10_good_47 (by decide) (fun c12 => ?_) (fun c12 => ?_)
          · have hf := ineg c12 hf
            refine lv_iconst (pc := 54) (v := 0) hx hb dX10_good_54 (by decide) ?_
            cases hf
            exact J55_10 _ _ _ hw (lv_sub hl [0, 1, 2, 3, 4] rfl)
          · have hf := ipos c12 hf
            refine lv_iconst (pc := 50) (v := 1) hx hb dX10_good_50 (by decide) ?_
            refine lv_goto (pc := 51) (tgt := 55) hx hb dX10_good_51 (by decide) ?_
            cases hf
            exact J55_10 _ _ _ hw (lv_sub hl [0, 1, 2, 3, 4] rfl)
    obtain ⟨v19, v20, hj, hf⟩ := b2_ob hf
    refine L29 _ 0 v4 v5 v19 v20 hj _ _ _ hw (lv_sub hl [3, 4, 2, 1, 0] rfl) (fun H locs ls hw hl => ?_)
    clear hj L29
    refine lv_iload_n (pc := 88) hx hb dX10_good_88 rfl (lv_at hl 0 rfl) ?_
    obtain ⟨v21, hj, hf⟩ := b1_ob hf
    have J97_20 : ∀ (H : Heap) (locs : List Loc) (ls : Array Slot), WD D A s (wX10 cs a q S3) H locs → lv_has ls 6 [] → W p l e rmX10_good s m args below meth c H locs 0 0 Q (F0 m 97 ls [.int v21]) := by
      intro H locs ls hw hl
      cases hf
      exact hret _ _ 97 _ hw ⟨_, rfl, rfl⟩ dX10_good_97
    clear hf; have hf := hj; clear hj
    refine lv_if_ne (pc := 89) (tgt := 96) hx hb dX10_good_89 (by decide) (fun c22 => ?_) (fun c22 => ?_)
    · have hf := ineg c22 hf
      refine lv_iload_n (pc := 96) hx hb dX10_good_96 rfl (lv_at hl 2 rfl) ?_
      cases hf
      exact J97_20 _ _ _ hw (lv_sub hl [] rfl)
    · have hf := ipos c22 hf
      refine lv_iload_n (pc := 92) hx hb dX10_good_92 rfl (lv_at hl 1 rfl) ?_
      refine lv_goto (pc := 93) (tgt := 97) hx hb dX10_good_93 (by decide) ?_
      cases hf
      exact J97_20 _ _ _ hw (lv_sub hl [] rfl)
  · have hf := ipos c2 hf
    refine lv_bipush (pc := 10) (v := (-3)) hx hb dX10_good_10 (by decide) ?_
    cases hf
    exact hret _ _ 12 _ hw ⟨_, rfl, rfl⟩ dX10_good_12

theorem in_X10_newBy_X10 : ∀ w ∈ wsX100, w ∈ wsX10_newBy := fun _ h => List.mem_cons_of_mem _ (List.mem_append_right _ h)
abbrev rmX10_newBy : Room := { frames := 0, cells := 0, slots := 0, locals := 0 }
def B_X10_newBy_4 (S : PS) (p1 : Int32) (v1 : Int32) (v2 : Int32) : Option ((Int32 × Int32) ⊕ (Int32)) :=
  if ((1 : Int32) <<< ((S.1 12) &&& 31)) ≤ v2 then
    some (.inr v1)
  else
  b1 (rdI 32 (S.2.1 35) v2) fun v4 =>
  b1 (
    if v4 = 0 then
      b1 (rdI 2048 (S.2.1 34) ((64 * v2) + p1)) fun v7 =>
      some v7
    else
    some (0 : Int32)) fun v5 =>
  bn (v1 + v5) fun v8 =>
  bn (v2 + 1) fun v9 =>
  some (.inl (v8, v9))
def L_X10_newBy_4 (S : PS) (p1 : Int32) (n : Nat) (v1 : Int32) (v2 : Int32) : Option (Int32) := loopF (fun x : Int32 × Int32 => B_X10_newBy_4 S p1 x.1 x.2) n (v1, v2)
def f_X10_newBy (S : PS) (p1 : Int32) : Option (Int32) :=
  b1 (L_X10_newBy_4 S p1 FU 0 0) fun v10 =>
  some v10
set_option maxHeartbeats 4000000 in
set_option maxRecDepth 100000 in
theorem c_X10_newBy (l : Launch) (D : va_G) (cs : CS) (a : Nat) (q : Nat → Nat) (S : PS) (p1 : Int32) (r : Int32) (hf : f_X10_newBy S p1 = some r) : CT l D (TY cs) yX10_newBy wsX10_newBy rmX10_newBy [.ref a, .int p1] (wX10 cs a q S) (some (.int r)) (wX10 cs a q S) := by
  refine CT.ofW (own := RX10) (cc := cX10_newBy) (maxL := 4) (ret := some .int) (by decide) rfl rfl (Nat.le_of_ble_eq_true rfl) ?_
  intro p e s m args below meth c A Q X hret ls hl hw
  obtain ⟨hx, hb, hml, hown, hts, hK, hA, hr, hlk⟩ := id X
  have hl : lv_has ls 4 [(0, .ref a), (1, .int p1)] := hl
  unfold f_X10_newBy at hf
  refine lv_iconst (pc := 0) (v := 0) hx hb dX10_newBy_0 (by decide) ?_
  refine lv_istore_n (lv' := [(2, .int 0), (0, .ref a), (1, .int p1)]) (pc := 1) hx hb dX10_newBy_1 rfl hl (by decide) rfl (fun ls hl => ?_)
  refine lv_iconst (pc := 2) (v := 0) hx hb dX10_newBy_2 (by decide) ?_
  refine lv_istore_n (lv' := [(3, .int 0), (2, .int 0), (0, .ref a), (1, .int p1)]) (pc := 3) hx hb dX10_newBy_3 rfl hl (by decide) rfl (fun ls hl => ?_)
  have L4 : ∀ (n : Nat) (v1 : Int32) (v2 : Int32) (rv1 : Int32), L_X10_newBy_4 S p1 n v1 v2 = some rv1 → ∀ (H : Heap) (locs : List Loc) (ls : Array Slot), WD D A s (wX10 cs a q S) H locs → lv_has ls 4 [(0, .ref a), (1, .int p1), (2, .int v1), (3, .int v2)] → (∀ (H : Heap) (locs : List Loc) (ls : Array Slot), WD D A s (wX10 cs a q S) H locs → lv_has ls 4 [(2, .int rv1)] → W p l e rmX10_newBy s m args below meth c H locs 0 0 Q (F0 m 47 ls [])) → W p l e rmX10_newBy s m args below meth c H locs 0 0 Q (F0 m 4 ls []) := by
    intro n
    induction n with
    | zero => intro v1 v2 rv1 hf; exact (loopF_z hf).elim
    | succ n ih =>
      intro v1 v2 rv1 hf H locs ls hw hl K
      obtain ⟨x, hf, hx0⟩ := loopF_ob hf
      have hf : B_X10_newBy_4 S p1 v1 v2 = some x := hf
      unfold B_X10_newBy_4 at hf
      refine lv_iload_n (pc := 4) hx hb dX10_newBy_4 rfl (lv_at hl 3 rfl) ?_
      refine lv_iconst (pc := 5) (v := 1) hx hb dX10_newBy_5 (by decide) ?_
      refine lv_aload_n (pc := 6) hx hb dX10_newBy_6 rfl (lv_at hl 0 rfl) ?_
      refine x_get (pc := 7) X hw in_X10_newBy_X10 0 rfl rfl 12 (by decide) (List.mem_of_getElem? (i := 1) rfl) rfl dX10_newBy_7 ?_
      refine lv_ishl (pc := 10) hx hb dX10_newBy_10 ?_
      refine lv_icmp_ge (pc := 11) (tgt := 47) hx hb dX10_newBy_11 (by decide) (fun c3 => ?_) (fun c3 => ?_)
      · have hf := ipos c3 hf
        cases hf
        cases (hx0 : v1 = rv1)
        exact K _ _ _ hw (lv_sub hl [2] rfl)
      · have hf := ineg c3 hf
        refine lv_iload_n (pc := 14) hx hb dX10_newBy_14 rfl (lv_at hl 2 rfl) ?_
        refine lv_aload_n (pc := 15) hx hb dX10_newBy_15 rfl (lv_at hl 0 rfl) ?_
        refine x_get (pc := 16) X hw in_X10_newBy_X10 0 rfl rfl 35 (by decide) (List.mem_of_getElem? (i := 2) rfl) rfl dX10_newBy_16 ?_
        refine lv_iload_n (pc := 19) hx hb dX10_newBy_19 rfl (lv_at hl 3 rfl) ?_
        obtain ⟨v4, ev4, hf⟩ := b1_ob hf
        refine x_zald (pc := 20) X hw 20 2 rfl rfl ev4 dX10_newBy_20 ?_
        obtain ⟨v5, hj, hf⟩ := b1_ob hf
        have J39_4 : ∀ (H : Heap) (locs : List Loc) (ls : Array Slot), WD D A s (wX10 cs a q S) H locs → lv_has ls 4 [(0, .ref a), (1, .int p1), (3, .int v2)] → W p l e rmX10_newBy s m args below meth c H locs 0 0 Q (F0 m 39 ls [.int v5, .int v1]) := by
          intro H locs ls hw hl
          refine lv_iadd (pc := 39) hx hb dX10_newBy_39 ?_
          obtain ⟨v8, ev8, hf⟩ := bn_ob hf
          refine x_topi ev8 ?_
          refine lv_istore_n (lv' := [(2, .int v8), (0, .ref a), (1, .int p1), (3, .int v2)]) (pc := 40) hx hb dX10_newBy_40 rfl hl (by decide) rfl (fun ls hl => ?_)
          obtain ⟨v9, ev9, hf⟩ := bn_ob hf
          refine lv_iinc (pc := 41) (v := v9) (lv' := [(3, .int v9), (2, .int v8), (0, .ref a), (1, .int p1)]) hx hb dX10_newBy_41 hl (k := 3) rfl (by rw [ev9]; rfl) (by decide) rfl (fun ls hl => ?_)
          refine lv_goto (pc := 44) (tgt := 4) hx hb dX10_newBy_44 (by decide) ?_
          cases hf
          exact ih v8 v9 rv1 hx0 _ _ _ hw (lv_sub hl [2, 3, 1, 0] rfl) K
        clear hf; have hf := hj; clear hj
        refine lv_if_eq (pc := 21) (tgt := 28) hx hb dX10_newBy_21 (by decide) (fun c6 => ?_) (fun c6 => ?_)
        · have hf := ipos c6 hf
          refine lv_aload_n (pc := 28) hx hb dX10_newBy_28 rfl (lv_at hl 0 rfl) ?_
          refine x_get (pc := 29) X hw in_X10_newBy_X10 0 rfl rfl 34 (by decide) (List.mem_of_getElem? (i := 3) rfl) rfl dX10_newBy_29 ?_
          refine lv_bipush (pc := 32) (v := 64) hx hb dX10_newBy_32 (by decide) ?_
          refine lv_iload_n (pc := 34) hx hb dX10_newBy_34 rfl (lv_at hl 3 rfl) ?_
          refine lv_imul (pc := 35) hx hb dX10_newBy_35 ?_
          refine lv_iload_n (pc := 36) hx hb dX10_newBy_36 rfl (lv_at hl 1 rfl) ?_
          refine lv_iadd (pc := 37) hx hb dX10_newBy_37 ?_
          obtain ⟨v7, ev7, hf⟩ := b1_ob hf
          refine x_iald (pc := 38) X hw 19 0 rfl rfl ev7 dX10_newBy_38 ?_
          cases hf
          exact J39_4 _ _ _ hw (lv_sub hl [0, 1, 3] rfl)
        · have hf := ineg c6 hf
          refine lv_iconst (pc := 24) (v := 0) hx hb dX10_newBy_24 (by decide) ?_
          refine lv_goto (pc := 25) (tgt := 39) hx hb dX10_newBy_25 (by decide) ?_
          cases hf
          exact J39_4 _ _ _ hw (lv_sub hl [0, 1, 3] rfl)
  obtain ⟨v10, hj, hf⟩ := b1_ob hf
  refine L4 _ 0 0 v10 hj _ _ _ hw (lv_sub hl [2, 3, 1, 0] rfl) (fun H locs ls hw hl => ?_)
  clear hj L4
  refine lv_iload_n (pc := 47) hx hb dX10_newBy_47 rfl (lv_at hl 0 rfl) ?_
  cases hf
  exact hret _ _ 48 _ hw ⟨_, rfl, rfl⟩ dX10_newBy_48

theorem in_X10_together_X10 : ∀ w ∈ wsX100, w ∈ wsX10_together := fun _ h => List.mem_cons_of_mem _ (List.mem_append_right _ h)
abbrev rmX10_together : Room := { frames := 4, cells := 0, slots := 0, locals := 97 }
def B_X10_together_14 (v3 : Int32) (S4 : PS) : Option ((Int32 × PS) ⊕ (PS)) :=
  if 32 ≤ v3 then
    some (.inr S4)
  else
  b1 (wA 32 S4 35 v3 (vp_nar .boolean 0)) fun S6 =>
  bn (v3 + 1) fun v7 =>
  some (.inl (v7, S6))
def L_X10_together_14 (n : Nat) (v3 : Int32) (S4 : PS) : Option (PS) := loopF (fun x : Int32 × PS => B_X10_together_14 x.1 x.2) n (v3, S4)
def B_X10_together_52 (S12 : PS) (v17 : Int32) (v18 : Int32) : Option ((Int32 × Int32) ⊕ (Int32)) :=
  if (S12.1 11) ≤ v18 then
    some (.inr v17)
  else
  b1 (f_X10_newBy S12 v18) fun v20 =>
  b1 (f_X10_newBy S12 v17) fun v21 =>
  b1 (
    if v20 ≤ v21 then
      some v17
    else
    some v18) fun v22 =>
  bn (v18 + 1) fun v24 =>
  some (.inl (v22, v24))
def L_X10_together_52 (S12 : PS) (n : Nat) (v17 : Int32) (v18 : Int32) : Option (Int32) := loopF (fun x : Int32 × Int32 => B_X10_together_52 S12 x.1 x.2) n (v17, v18)
def B_X10_together_114 (v25 : Int32) (v30 : Int32) (S31 : PS) : Option ((Int32 × PS) ⊕ (PS)) :=
  if ((1 : Int32) <<< ((S31.1 12) &&& 31)) ≤ v30 then
    some (.inr S31)
  else
  b1 (rdI 32 (S31.2.1 35) v30) fun v33 =>
  b1 (
    if v33 = 0 then
      b1 (rdI 2048 (S31.2.1 34) ((64 * v30) + v25)) fun v36 =>
      if v36 = 1 then
        some (1 : Int32)
      else
      some (0 : Int32)
    else
    some (1 : Int32)) fun v34 =>
  b1 (wA 32 S31 35 v30 (vp_nar .boolean v34)) fun S38 =>
  bn (v30 + 1) fun v39 =>
  some (.inl (v39, S38))
def L_X10_together_114 (v25 : Int32) (n : Nat) (v30 : Int32) (S31 : PS) : Option (PS) := loopF (fun x : Int32 × PS => B_X10_together_114 v25 x.1 x.2) n (v30, S31)
def B_X10_together_42 (p1 : Int32) (v10 : Int32) (v11 : Int32) (S12 : PS) : Option ((Int32 × Int32 × PS) ⊕ (Int32 × PS)) :=
  if v10 ≤ 0 then
    if p1 = (-1) then
      some (.inr (v11, S12))
    else
    if v11 ≤ p1 then
      some (.inr ((-1), S12))
    else
    b1 (rdI 32 (S12.2.1 36) p1) fun v16 =>
    some (.inr (v16, S12))
  else
  b1 (L_X10_together_52 S12 FU 0 1) fun v25 =>
  b1 (f_X10_newBy S12 v25) fun v26 =>
  if v26 = 0 then
    some (.inr ((-1), S12))
  else
  b1 (f_X10_newBy S12 v25) fun v28 =>
  bn (v10 - v28) fun v29 =>
  b1 (L_X10_together_114 v25 FU 0 S12) fun S40 =>
  b1 (wA 32 S40 36 v11 v25) fun S41 =>
  bn (v11 + 1) fun v42 =>
  some (.inl (v29, v42, S41))
def L_X10_together_42 (p1 : Int32) (n : Nat) (v10 : Int32) (v11 : Int32) (S12 : PS) : Option (Int32 × PS) := loopF (fun x : Int32 × Int32 × PS => B_X10_together_42 p1 x.1 x.2.1 x.2.2) n (v10, v11, S12)
def f_X10_together (S : PS) (p1 : Int32) : Option (Int32 × PS) :=
  if (-1) ≤ p1 then
    b1 (f_X10_layGood S) fun S2 =>
    b1 (L_X10_together_14 FU 0 S2) fun S8 =>
    bn ((1 : Int32) <<< ((S8.1 12) &&& 31)) fun v9 =>
    L_X10_together_42 p1 FU v9 0 S8
  else
  some ((-3), S)
set_option maxHeartbeats 4000000 in
set_option maxRecDepth 100000 in
theorem c_X10_together (l : Launch) (D : va_G) (cs : CS) (a : Nat) (q : Nat → Nat) (S : PS) (p1 : Int32) (r : Int32) (S' : PS) (hf : f_X10_together S p1 = some (r, S')) : CT l D (TY cs) yX10_together wsX10_together rmX10_together [.ref a, .int p1] (wX10 cs a q S) (some (.int r)) (wX10 cs a q S') := by
  refine CT.ofW (own := RX10) (cc := cX10_together) (maxL := 6) (ret := some .int) (by decide) rfl rfl (Nat.le_of_ble_eq_true rfl) ?_
  intro p e s m args below meth c A Q X hret ls hl hw
  obtain ⟨hx, hb, hml, hown, hts, hK, hA, hr, hlk⟩ := id X
  have hl : lv_has ls 6 [(0, .ref a), (1, .int p1)] := hl
  unfold f_X10_together at hf
  refine lv_iload_n (pc := 0) hx hb dX10_together_0 rfl (lv_at hl 1 rfl) ?_
  refine lv_iconst (pc := 1) (v := (-1)) hx hb dX10_together_1 (by decide) ?_
  refine lv_icmp_ge (pc := 2) (tgt := 8) hx hb dX10_together_2 (by decide) (fun c1 => ?_) (fun c1 => ?_)
  · have hf := ipos c1 hf
    refine lv_aload_n (pc := 8) hx hb dX10_together_8 rfl (lv_at hl 0 rfl) ?_
    obtain ⟨S2, hc, hf⟩ := b1_ob hf
    refine x_all (pc := 9) X hw (va_runV (As := []) (rest := []) ⟨hx, hb, hml, hown, hts⟩ (c_X10_layGood l D cs a q S S2 hc _) (cwV 0 hts gX10_together_X10_layGood rfl rfl rfl (by decide +kernel) ⟨Nat.le_of_ble_eq_true rfl, Nat.le_of_ble_eq_true rfl⟩) ⟨CP_blind, va_recv hK hw.1 (ci := 10) (q0 := 0) rfl rfl, x_preA X hw [.ref a]⟩ rfl rfl hl.1 rfl (lv_room (Nat.le_of_ble_eq_true rfl)) dX10_together_9 ⟨Nat.zero_le _, Nat.zero_le _⟩) (fun H locs hw => ?_)
    refine lv_iconst (pc := 12) (v := 0) hx hb dX10_together_12 (by decide) ?_
    refine lv_istore_n (lv' := [(2, .int 0), (0, .ref a), (1, .int p1)]) (pc := 13) hx hb dX10_together_13 rfl hl (by decide) rfl (fun ls hl => ?_)
    have L14 : ∀ (n : Nat) (v3 : Int32) (S4 : PS) (rS4 : PS), L_X10_together_14 n v3 S4 = some rS4 → ∀ (H : Heap) (locs : List Loc) (ls : Array Slot), WD D A s (wX10 cs a q S4) H locs → lv_has ls 6 [(0, .ref a), (1, .int p1), (2, .int v3)] → (∀ (H : Heap) (locs : List Loc) (ls : Array Slot), WD D A s (wX10 cs a q rS4) H locs → lv_has ls 6 [(0, .ref a), (1, .int p1)] → W p l e rmX10_together s m args below meth c H locs 0 0 Q (F0 m 33 ls [])) → W p l e rmX10_together s m args below meth c H locs 0 0 Q (F0 m 14 ls []) := by
      intro n
      induction n with
      | zero => intro v3 S4 rS4 hf; exact (loopF_z hf).elim
      | succ n ih =>
        intro v3 S4 rS4 hf H locs ls hw hl K
        obtain ⟨x, hf, hx0⟩ := loopF_ob hf
        have hf : B_X10_together_14 v3 S4 = some x := hf
        unfold B_X10_together_14 at hf
        refine lv_iload_n (pc := 14) hx hb dX10_together_14 rfl (lv_at hl 2 rfl) ?_
        refine lv_bipush (pc := 15) (v := 32) hx hb dX10_together_15 (by decide) ?_
        refine lv_icmp_ge (pc := 17) (tgt := 33) hx hb dX10_together_17 (by decide) (fun c5 => ?_) (fun c5 => ?_)
        · have hf := ipos c5 hf
          cases hf
          cases (hx0 : S4 = rS4)
          exact K _ _ _ hw (lv_sub hl [0, 1] rfl)
        · have hf := ineg c5 hf
          refine lv_aload_n (pc := 20) hx hb dX10_together_20 rfl (lv_at hl 0 rfl) ?_
          refine x_get (pc := 21) X hw in_X10_together_X10 0 rfl rfl 35 (by decide) (List.mem_of_getElem? (i := 1) rfl) rfl dX10_together_21 ?_
          refine lv_iload_n (pc := 24) hx hb dX10_together_24 rfl (lv_at hl 2 rfl) ?_
          refine lv_iconst (pc := 25) (v := 0) hx hb dX10_together_25 (by decide) ?_
          obtain ⟨S6, eS6, hf⟩ := b1_ob hf
          refine x_zast (pc := 26) X hw 20 2 rfl rfl (wA_ob eS6).1 dX10_together_26 (ws2 := wX10 cs a q S6) (by rw [(wA_ob eS6).2]; rfl) (fun H locs hw => ?_)
          obtain ⟨v7, ev7, hf⟩ := bn_ob hf
          refine lv_iinc (pc := 27) (v := v7) (lv' := [(2, .int v7), (0, .ref a), (1, .int p1)]) hx hb dX10_together_27 hl (k := 2) rfl (by rw [ev7]; rfl) (by decide) rfl (fun ls hl => ?_)
          refine lv_goto (pc := 30) (tgt := 14) hx hb dX10_together_30 (by decide) ?_
          cases hf
          exact ih v7 S6 rS4 hx0 _ _ _ hw (lv_sub hl [1, 2, 0] rfl) K
    obtain ⟨S8, hj, hf⟩ := b1_ob hf
    refine L14 _ 0 S2 S8 hj _ _ _ hw (lv_sub hl [1, 2, 0] rfl) (fun H locs ls hw hl => ?_)
    clear hj L14
    refine lv_iconst (pc := 33) (v := 1) hx hb dX10_together_33 (by decide) ?_
    refine lv_aload_n (pc := 34) hx hb dX10_together_34 rfl (lv_at hl 0 rfl) ?_
    refine x_get (pc := 35) X hw in_X10_together_X10 0 rfl rfl 12 (by decide) (List.mem_of_getElem? (i := 2) rfl) rfl dX10_together_35 ?_
    refine lv_ishl (pc := 38) hx hb dX10_together_38 ?_
    obtain ⟨v9, ev9, hf⟩ := bn_ob hf
    refine x_topi ev9 ?_
    refine lv_istore_n (lv' := [(2, .int v9), (0, .ref a), (1, .int p1)]) (pc := 39) hx hb dX10_together_39 rfl hl (by decide) rfl (fun ls hl => ?_)
    refine lv_iconst (pc := 40) (v := 0) hx hb dX10_together_40 (by decide) ?_
    refine lv_istore_n (lv' := [(3, .int 0), (2, .int v9), (0, .ref a), (1, .int p1)]) (pc := 41) hx hb dX10_together_41 rfl hl (by decide) rfl (fun ls hl => ?_)
    have L42 : ∀ (n : Nat) (v10 : Int32) (v11 : Int32) (S12 : PS), L_X10_together_42 p1 n v10 v11 S12 = some (r, S') → ∀ (H : Heap) (locs : List Loc) (ls : Array Slot), WD D A s (wX10 cs a q S12) H locs → lv_has ls 6 [(0, .ref a), (1, .int p1), (2, .int v10), (3, .int v11)] → W p l e rmX10_together s m args below meth c H locs 0 0 Q (F0 m 42 ls []) := by
      intro n
      induction n with
      | zero => intro v10 v11 S12 hf; exact (loopF_z hf).elim
      | succ n ih =>
        intro v10 v11 S12 hf H locs ls hw hl
        obtain ⟨x, hf, hx0⟩ := loopF_ob hf
        have hf : B_X10_together_42 p1 v10 v11 S12 = some x := hf
        unfold B_X10_together_42 at hf
        refine lv_iload_n (pc := 42) hx hb dX10_together_42 rfl (lv_at hl 2 rfl) ?_
        refine lv_if_le (pc := 43) (tgt := 184) hx hb dX10_together_43 (by decide) (fun c13 => ?_) (fun c13 => ?_)
        · have hf := ipos c13 hf
          refine lv_iload_n (pc := 184) hx hb dX10_together_184 rfl (lv_at hl 1 rfl) ?_
          refine lv_iconst (pc := 185) (v := (-1)) hx hb dX10_together_185 (by decide) ?_
          refine lv_icmp_ne (pc := 186) (tgt := 193) hx hb dX10_together_186 (by decide) (fun c14 => ?_) (fun c14 => ?_)
          · have hf := ineg c14 hf
            refine lv_iload_n (pc := 193) hx hb dX10_together_193 rfl (lv_at hl 1 rfl) ?_
            refine lv_iload_n (pc := 194) hx hb dX10_together_194 rfl (lv_at hl 3 rfl) ?_
            refine lv_icmp_ge (pc := 195) (tgt := 207) hx hb dX10_together_195 (by decide) (fun c15 => ?_) (fun c15 => ?_)
            · have hf := ipos c15 hf
              refine lv_iconst (pc := 207) (v := (-1)) hx hb dX10_together_207 (by decide) ?_
              cases hf
              cases (hx0 : ((-1), S12) = (r, S'))
              exact hret _ _ 208 _ hw ⟨_, rfl, rfl⟩ dX10_together_208
            · have hf := ineg c15 hf
              refine lv_aload_n (pc := 198) hx hb dX10_together_198 rfl (lv_at hl 0 rfl) ?_
              refine x_get (pc := 199) X hw in_X10_together_X10 0 rfl rfl 36 (by decide) (List.mem_of_getElem? (i := 5) rfl) rfl dX10_together_199 ?_
              refine lv_iload_n (pc := 202) hx hb dX10_together_202 rfl (lv_at hl 1 rfl) ?_
              obtain ⟨v16, ev16, hf⟩ := b1_ob hf
              refine x_iald (pc := 203) X hw 21 0 rfl rfl ev16 dX10_together_203 ?_
              refine lv_goto (pc := 204) (tgt := 208) hx hb dX10_together_204 (by decide) ?_
              cases hf
              cases (hx0 : (v16, S12) = (r, S'))
              exact hret _ _ 208 _ hw ⟨_, rfl, rfl⟩ dX10_together_208
          · have hf := ipos c14 hf
            refine lv_iload_n (pc := 189) hx hb dX10_together_189 rfl (lv_at hl 3 rfl) ?_
            refine lv_goto (pc := 190) (tgt := 208) hx hb dX10_together_190 (by decide) ?_
            cases hf
            cases (hx0 : (v11, S12) = (r, S'))
            exact hret _ _ 208 _ hw ⟨_, rfl, rfl⟩ dX10_together_208
        · have hf := ineg c13 hf
          refine lv_iconst (pc := 46) (v := 0) hx hb dX10_together_46 (by decide) ?_
          refine lv_istore (lv' := [(4, .int 0), (0, .ref a), (1, .int p1), (2, .int v10), (3, .int v11)]) (pc := 47) hx hb dX10_together_47 hl (by decide) rfl (fun ls hl => ?_)
          refine lv_iconst (pc := 49) (v := 1) hx hb dX10_together_49 (by decide) ?_
          refine lv_istore (lv' := [(5, .int 1), (4, .int 0), (0, .ref a), (1, .int p1), (2, .int v10), (3, .int v11)]) (pc := 50) hx hb dX10_together_50 hl (by decide) rfl (fun ls hl => ?_)
          have L52 : ∀ (n : Nat) (v17 : Int32) (v18 : Int32) (rv17 : Int32), L_X10_together_52 S12 n v17 v18 = some rv17 → ∀ (H : Heap) (locs : List Loc) (ls : Array Slot), WD D A s (wX10 cs a q S12) H locs → lv_has ls 6 [(0, .ref a), (1, .int p1), (2, .int v10), (3, .int v11), (4, .int v17), (5, .int v18)] → (∀ (H : Heap) (locs : List Loc) (ls : Array Slot), WD D A s (wX10 cs a q S12) H locs → lv_has ls 6 [(0, .ref a), (1, .int p1), (2, .int v10), (3, .int v11), (4, .int rv17)] → W p l e rmX10_together s m args below meth c H locs 0 0 Q (F0 m 91 ls [])) → W p l e rmX10_together s m args below meth c H locs 0 0 Q (F0 m 52 ls []) := by
            intro n
            induction n with
            | zero => intro v17 v18 rv17 hf; exact (loopF_z hf).elim
            | succ n ih =>
              intro v17 v18 rv17 hf H locs ls hw hl K
              obtain ⟨x, hf, hx0⟩ := loopF_ob hf
              have hf : B_X10_together_52 S12 v17 v18 = some x := hf
              unfold B_X10_together_52 at hf
              refine lv_iload (pc := 52) hx hb dX10_together_52 (lv_at hl 5 rfl) ?_
              refine lv_aload_n (pc := 54) hx hb dX10_together_54 rfl (lv_at hl 0 rfl) ?_
              refine x_get (pc := 55) X hw in_X10_together_X10 0 rfl rfl 11 (by decide) (List.mem_of_getElem? (i := 3) rfl) rfl dX10_together_55 ?_
              refine lv_icmp_ge (pc := 58) (tgt := 91) hx hb dX10_together_58 (by decide) (fun c19 => ?_) (fun c19 => ?_)
              · have hf := ipos c19 hf
                cases hf
                cases (hx0 : v17 = rv17)
                exact K _ _ _ hw (lv_sub hl [0, 1, 2, 3, 4] rfl)
              · have hf := ineg c19 hf
                refine lv_aload_n (pc := 61) hx hb dX10_together_61 rfl (lv_at hl 0 rfl) ?_
                refine lv_iload (pc := 62) hx hb dX10_together_62 (lv_at hl 5 rfl) ?_
                obtain ⟨v20, hc, hf⟩ := b1_ob hf
                refine x_all (pc := 64) X hw (va_runV (As := [.int v18]) (rest := []) ⟨hx, hb, hml, hown, hts⟩ (c_X10_newBy l D cs a q S12 v18 v20 hc _) (cwV 1 hts gX10_together_X10_newBy rfl rfl rfl (by decide +kernel) ⟨Nat.le_of_ble_eq_true rfl, Nat.le_of_ble_eq_true rfl⟩) ⟨CP_blind, va_recv hK hw.1 (ci := 10) (q0 := 0) rfl rfl, x_preA X hw [.ref a, .int v18]⟩ rfl rfl hl.1 rfl (lv_room (Nat.le_of_ble_eq_true rfl)) dX10_together_64 ⟨Nat.zero_le _, Nat.zero_le _⟩) (fun H locs hw => ?_)
                refine lv_aload_n (pc := 67) hx hb dX10_together_67 rfl (lv_at hl 0 rfl) ?_
                refine lv_iload (pc := 68) hx hb dX10_together_68 (lv_at hl 4 rfl) ?_
                obtain ⟨v21, hc, hf⟩ := b1_ob hf
                refine x_all (pc := 70) X hw (va_runV (As := [.int v17]) (rest := [.int v20]) ⟨hx, hb, hml, hown, hts⟩ (c_X10_newBy l D cs a q S12 v17 v21 hc _) (cwV 1 hts gX10_together_X10_newBy rfl rfl rfl (by decide +kernel) ⟨Nat.le_of_ble_eq_true rfl, Nat.le_of_ble_eq_true rfl⟩) ⟨CP_blind, va_recv hK hw.1 (ci := 10) (q0 := 0) rfl rfl, x_preA X hw [.ref a, .int v17]⟩ rfl rfl hl.1 rfl (lv_room (Nat.le_of_ble_eq_true rfl)) dX10_together_70 ⟨Nat.zero_le _, Nat.zero_le _⟩) (fun H locs hw => ?_)
                obtain ⟨v22, hj, hf⟩ := b1_ob hf
                have J83_21 : ∀ (H : Heap) (locs : List Loc) (ls : Array Slot), WD D A s (wX10 cs a q S12) H locs → lv_has ls 6 [(0, .ref a), (1, .int p1), (2, .int v10), (3, .int v11), (5, .int v18)] → W p l e rmX10_together s m args below meth c H locs 0 0 Q (F0 m 83 ls [.int v22]) := by
                  intro H locs ls hw hl
                  refine lv_istore (lv' := [(4, .int v22), (0, .ref a), (1, .int p1), (2, .int v10), (3, .int v11), (5, .int v18)]) (pc := 83) hx hb dX10_together_83 hl (by decide) rfl (fun ls hl => ?_)
                  obtain ⟨v24, ev24, hf⟩ := bn_ob hf
                  refine lv_iinc (pc := 85) (v := v24) (lv' := [(5, .int v24), (4, .int v22), (0, .ref a), (1, .int p1), (2, .int v10), (3, .int v11)]) hx hb dX10_together_85 hl (k := 5) rfl (by rw [ev24]; rfl) (by decide) rfl (fun ls hl => ?_)
                  refine lv_goto (pc := 88) (tgt := 52) hx hb dX10_together_88 (by decide) ?_
                  cases hf
                  exact ih v22 v24 rv17 hx0 _ _ _ hw (lv_sub hl [2, 3, 4, 5, 1, 0] rfl) K
                clear hf; have hf := hj; clear hj
                refine lv_icmp_le (pc := 73) (tgt := 81) hx hb dX10_together_73 (by decide) (fun c23 => ?_) (fun c23 => ?_)
                · have hf := ipos c23 hf
                  refine lv_iload (pc := 81) hx hb dX10_together_81 (lv_at hl 4 rfl) ?_
                  cases hf
                  exact J83_21 _ _ _ hw (lv_sub hl [0, 1, 2, 3, 5] rfl)
                · have hf := ineg c23 hf
                  refine lv_iload (pc := 76) hx hb dX10_together_76 (lv_at hl 5 rfl) ?_
                  refine lv_goto (pc := 78) (tgt := 83) hx hb dX10_together_78 (by decide) ?_
                  cases hf
                  exact J83_21 _ _ _ hw (lv_sub hl [0, 1, 2, 3, 5] rfl)
          obtain ⟨v25, hj, hf⟩ := b1_ob hf
          refine L52 _ 0 1 v25 hj _ _ _ hw (lv_sub hl [2, 3, 4, 5, 1, 0] rfl) (fun H locs ls hw hl => ?_)
          clear hj L52
          refine lv_aload_n (pc := 91) hx hb dX10_together_91 rfl (lv_at hl 0 rfl) ?_
          refine lv_iload (pc := 92) hx hb dX10_together_92 (lv_at hl 4 rfl) ?_
          obtain ⟨v26, hc, hf⟩ := b1_ob hf
          refine x_all (pc := 94) X hw (va_runV (As := [.int v25]) (rest := []) ⟨hx, hb, hml, hown, hts⟩ (c_X10_newBy l D cs a q S12 v25 v26 hc _) (cwV 1 hts gX10_together_X10_newBy rfl rfl rfl (by decide +kernel) ⟨Nat.le_of_ble_eq_true rfl, Nat.le_of_ble_eq_true rfl⟩) ⟨CP_blind, va_recv hK hw.1 (ci := 10) (q0 := 0) rfl rfl, x_preA X hw [.ref a, .int v25]⟩ rfl rfl hl.1 rfl (lv_room (Nat.le_of_ble_eq_true rfl)) dX10_together_94 ⟨Nat.zero_le _, Nat.zero_le _⟩) (fun H locs hw => ?_)
          refine lv_if_ne (pc := 97) (tgt := 102) hx hb dX10_together_97 (by decide) (fun c27 => ?_) (fun c27 => ?_)
          · have hf := ineg c27 hf
            refine lv_iload_n (pc := 102) hx hb dX10_together_102 rfl (lv_at hl 2 rfl) ?_
            refine lv_aload_n (pc := 103) hx hb dX10_together_103 rfl (lv_at hl 0 rfl) ?_
            refine lv_iload (pc := 104) hx hb dX10_together_104 (lv_at hl 4 rfl) ?_
            obtain ⟨v28, hc, hf⟩ := b1_ob hf
            refine x_all (pc := 106) X hw (va_runV (As := [.int v25]) (rest := [.int v10]) ⟨hx, hb, hml, hown, hts⟩ (c_X10_newBy l D cs a q S12 v25 v28 hc _) (cwV 1 hts gX10_together_X10_newBy rfl rfl rfl (by decide +kernel) ⟨Nat.le_of_ble_eq_true rfl, Nat.le_of_ble_eq_true rfl⟩) ⟨CP_blind, va_recv hK hw.1 (ci := 10) (q0 := 0) rfl rfl, x_preA X hw [.ref a, .int v25]⟩ rfl rfl hl.1 rfl (lv_room (Nat.le_of_ble_eq_true rfl)) dX10_together_106 ⟨Nat.zero_le _, Nat.zero_le _⟩) (fun H locs hw => ?_)
            refine lv_isub (pc := 109) hx hb dX10_together_109 ?_
            obtain ⟨v29, ev29, hf⟩ := bn_ob hf
            refine x_topi ev29 ?_
            refine lv_istore_n (lv' := [(2, .int v29), (0, .ref a), (1, .int p1), (3, .int v11), (4, .int v25)]) (pc := 110) hx hb dX10_together_110 rfl hl (by decide) rfl (fun ls hl => ?_)
            refine lv_iconst (pc := 111) (v := 0) hx hb dX10_together_111 (by decide) ?_
            refine lv_istore (lv' := [(5, .int 0), (2, .int v29), (0, .ref a), (1, .int p1), (3, .int v11), (4, .int v25)]) (pc := 112) hx hb dX10_together_112 hl (by decide) rfl (fun ls hl => ?_)
            have L114 : ∀ (n : Nat) (v30 : Int32) (S31 : PS) (rS31 : PS), L_X10_together_114 v25 n v30 S31 = some rS31 → ∀ (H : Heap) (locs : List Loc) (ls : Array Slot), WD D A s (wX10 cs a q S31) H locs → lv_has ls 6 [(0, .ref a), (1, .int p1), (2, .int v29), (3, .int v11), (4, .int v25), (5, .int v30)] → (∀ (H : Heap) (locs : List Loc) (ls : Array Slot), WD D A s (wX10 cs a q rS31) H locs → lv_has ls 6 [(0, .ref a), (1, .int p1), (2, .int v29), (3, .int v11), (4, .int v25)] → W p l e rmX10_together s m args below meth c H locs 0 0 Q (F0 m 170 ls [])) → W p l e rmX10_together s m args below meth c H locs 0 0 Q (F0 m 114 ls []) := by
              intro n
              induction n with
              | zero => intro v30 S31 rS31 hf; exact (loopF_z hf).elim
              | succ n ih =>
                intro v30 S31 rS31 hf H locs ls hw hl K
                obtain ⟨x, hf, hx0⟩ := loopF_ob hf
                have hf : B_X10_together_114 v25 v30 S31 = some x := hf
                unfold B_X10_together_114 at hf
                refine lv_iload (pc := 114) hx hb dX10_together_114 (lv_at hl 5 rfl) ?_
                refine lv_iconst (pc := 116) (v := 1) hx hb dX10_together_116 (by decide) ?_
                refine lv_aload_n (pc := 117) hx hb dX10_together_117 rfl (lv_at hl 0 rfl) ?_
                refine x_get (pc := 118) X hw in_X10_together_X10 0 rfl rfl 12 (by decide) (List.mem_of_getElem? (i := 2) rfl) rfl dX10_together_118 ?_
                refine lv_ishl (pc := 121) hx hb dX10_together_121 ?_
                refine lv_icmp_ge (pc := 122) (tgt := 170) hx hb dX10_together_122 (by decide) (fun c32 => ?_) (fun c32 => ?_)
                · have hf := ipos c32 hf
                  cases hf
                  cases (hx0 : S31 = rS31)
                  exact K _ _ _ hw (lv_sub hl [0, 1, 2, 3, 4] rfl)
                · have hf := ineg c32 hf
                  refine lv_aload_n (pc := 125) hx hb dX10_together_125 rfl (lv_at hl 0 rfl) ?_
                  refine x_get (pc := 126) X hw in_X10_together_X10 0 rfl rfl 35 (by decide) (List.mem_of_getElem? (i := 1) rfl) rfl dX10_together_126 ?_
                  refine lv_iload (pc := 129) hx hb dX10_together_129 (lv_at hl 5 rfl) ?_
                  refine lv_aload_n (pc := 131) hx hb dX10_together_131 rfl (lv_at hl 0 rfl) ?_
                  refine x_get (pc := 132) X hw in_X10_together_X10 0 rfl rfl 35 (by decide) (List.mem_of_getElem? (i := 1) rfl) rfl dX10_together_132 ?_
                  refine lv_iload (pc := 135) hx hb dX10_together_135 (lv_at hl 5 rfl) ?_
                  obtain ⟨v33, ev33, hf⟩ := b1_ob hf
                  refine x_zald (pc := 137) X hw 20 2 rfl rfl ev33 dX10_together_137 ?_
                  obtain ⟨v34, hj, hf⟩ := b1_ob hf
                  have J163_33 : ∀ (H : Heap) (locs : List Loc) (ls : Array Slot), WD D A s (wX10 cs a q S31) H locs → lv_has ls 6 [(0, .ref a), (1, .int p1), (2, .int v29), (3, .int v11), (4, .int v25), (5, .int v30)] → W p l e rmX10_together s m args below meth c H locs 0 0 Q (F0 m 163 ls [.int v34, .int v30, .ref (q 35)]) := by
                    intro H locs ls hw hl
                    obtain ⟨S38, eS38, hf⟩ := b1_ob hf
                    refine x_zast (pc := 163) X hw 20 2 rfl rfl (wA_ob eS38).1 dX10_together_163 (ws2 := wX10 cs a q S38) (by rw [(wA_ob eS38).2]; rfl) (fun H locs hw => ?_)
                    obtain ⟨v39, ev39, hf⟩ := bn_ob hf
                    refine lv_iinc (pc := 164) (v := v39) (lv' := [(5, .int v39), (0, .ref a), (1, .int p1), (2, .int v29), (3, .int v11), (4, .int v25)]) hx hb dX10_together_164 hl (k := 5) rfl (by rw [ev39]; rfl) (by decide) rfl (fun ls hl => ?_)
                    refine lv_goto (pc := 167) (tgt := 114) hx hb dX10_together_167 (by decide) ?_
                    cases hf
                    exact ih v39 S38 rS31 hx0 _ _ _ hw (lv_sub hl [1, 2, 3, 4, 5, 0] rfl) K
                  clear hf; have hf := hj; clear hj
                  refine lv_if_ne (pc := 138) (tgt := 158) hx hb dX10_together_138 (by decide) (fun c35 => ?_) (fun c35 => ?_)
                  · have hf := ineg c35 hf
                    refine lv_iconst (pc := 158) (v := 1) hx hb dX10_together_158 (by decide) ?_
                    refine lv_goto (pc := 159) (tgt := 163) hx hb dX10_together_159 (by decide) ?_
                    cases hf
                    exact J163_33 _ _ _ hw (lv_sub hl [0, 1, 2, 3, 4, 5] rfl)
                  · have hf := ipos c35 hf
                    refine lv_aload_n (pc := 141) hx hb dX10_together_141 rfl (lv_at hl 0 rfl) ?_
                    refine x_get (pc := 142) X hw in_X10_together_X10 0 rfl rfl 34 (by decide) (List.mem_of_getElem? (i := 4) rfl) rfl dX10_together_142 ?_
                    refine lv_bipush (pc := 145) (v := 64) hx hb dX10_together_145 (by decide) ?_
                    refine lv_iload (pc := 147) hx hb dX10_together_147 (lv_at hl 5 rfl) ?_
                    refine lv_imul (pc := 149) hx hb dX10_together_149 ?_
                    refine lv_iload (pc := 150) hx hb dX10_together_150 (lv_at hl 4 rfl) ?_
                    refine lv_iadd (pc := 152) hx hb dX10_together_152 ?_
                    obtain ⟨v36, ev36, hf⟩ := b1_ob hf
                    refine x_iald (pc := 153) X hw 19 0 rfl rfl ev36 dX10_together_153 ?_
                    refine lv_iconst (pc := 154) (v := 1) hx hb dX10_together_154 (by decide) ?_
                    refine lv_icmp_ne (pc := 155) (tgt := 162) hx hb dX10_together_155 (by decide) (fun c37 => ?_) (fun c37 => ?_)
                    · have hf := ineg c37 hf
                      refine lv_iconst (pc := 162) (v := 0) hx hb dX10_together_162 (by decide) ?_
                      cases hf
                      exact J163_33 _ _ _ hw (lv_sub hl [0, 1, 2, 3, 4, 5] rfl)
                    · have hf := ipos c37 hf
                      refine lv_iconst (pc := 158) (v := 1) hx hb dX10_together_158 (by decide) ?_
                      refine lv_goto (pc := 159) (tgt := 163) hx hb dX10_together_159 (by decide) ?_
                      cases hf
                      exact J163_33 _ _ _ hw (lv_sub hl [0, 1, 2, 3, 4, 5] rfl)
            obtain ⟨S40, hj, hf⟩ := b1_ob hf
            refine L114 _ 0 S12 S40 hj _ _ _ hw (lv_sub hl [2, 3, 1, 4, 5, 0] rfl) (fun H locs ls hw hl => ?_)
            clear hj L114
            refine lv_aload_n (pc := 170) hx hb dX10_together_170 rfl (lv_at hl 0 rfl) ?_
            refine x_get (pc := 171) X hw in_X10_together_X10 0 rfl rfl 36 (by decide) (List.mem_of_getElem? (i := 5) rfl) rfl dX10_together_171 ?_
            refine lv_iload_n (pc := 174) hx hb dX10_together_174 rfl (lv_at hl 3 rfl) ?_
            refine lv_iload (pc := 175) hx hb dX10_together_175 (lv_at hl 4 rfl) ?_
            obtain ⟨S41, eS41, hf⟩ := b1_ob hf
            refine x_iast (pc := 177) X hw 21 0 rfl rfl (wA_ob eS41).1 dX10_together_177 (ws2 := wX10 cs a q S41) (by rw [(wA_ob eS41).2]; rfl) (fun H locs hw => ?_)
            obtain ⟨v42, ev42, hf⟩ := bn_ob hf
            refine lv_iinc (pc := 178) (v := v42) (lv' := [(3, .int v42), (0, .ref a), (1, .int p1), (2, .int v29), (4, .int v25)]) hx hb dX10_together_178 hl (k := 3) rfl (by rw [ev42]; rfl) (by decide) rfl (fun ls hl => ?_)
            refine lv_goto (pc := 181) (tgt := 42) hx hb dX10_together_181 (by decide) ?_
            cases hf
            exact ih v29 v42 S41  hx0 _ _ _ hw (lv_sub hl [1, 2, 3, 0] rfl)
          · have hf := ipos c27 hf
            refine lv_iconst (pc := 100) (v := (-1)) hx hb dX10_together_100 (by decide) ?_
            cases hf
            cases (hx0 : ((-1), S12) = (r, S'))
            exact hret _ _ 101 _ hw ⟨_, rfl, rfl⟩ dX10_together_101
    exact L42 _ v9 0 S8 hf _ _ _ hw (lv_sub hl [2, 3, 1, 0] rfl)
  · have hf := ineg c1 hf
    refine lv_bipush (pc := 5) (v := (-3)) hx hb dX10_together_5 (by decide) ?_
    cases hf
    exact hret _ _ 7 _ hw ⟨_, rfl, rfl⟩ dX10_together_7

abbrev rmX10_power : Room := { frames := 0, cells := 0, slots := 0, locals := 0 }
def B_X10_power_5 (p1 : Int64) (p2 : Int32) (v1 : Int64) (v2 : Int32) : Option ((Int64 × Int32) ⊕ (Int64)) :=
  if p2 ≤ v2 then
    some (.inr v1)
  else
  bn (v1 * p1) fun v4 =>
  bn (v2 + 1) fun v5 =>
  some (.inl (v4, v5))
def L_X10_power_5 (p1 : Int64) (p2 : Int32) (n : Nat) (v1 : Int64) (v2 : Int32) : Option (Int64) := loopF (fun x : Int64 × Int32 => B_X10_power_5 p1 p2 x.1 x.2) n (v1, v2)
def f_X10_power (p1 : Int64) (p2 : Int32) : Option (Int64) :=
  b1 (L_X10_power_5 p1 p2 FU 1 0) fun v6 =>
  some v6
set_option maxHeartbeats 4000000 in
set_option maxRecDepth 100000 in
theorem c_X10_power (l : Launch) (D : va_G) (cs : CS) (p1 : Int64) (p2 : Int32) (r : Int64) (hf : f_X10_power p1 p2 = some r) : CT l D (TY cs) yX10_power wsX10_power rmX10_power [.long p1, .int p2] ([]) (some (.long r)) ([]) := by
  refine CT.ofW (own := RX10) (cc := cX10_power) (maxL := 6) (ret := some .long) (by decide) rfl rfl (Nat.le_of_ble_eq_true rfl) ?_
  intro p e s m args below meth c A Q X hret ls hl hw
  obtain ⟨hx, hb, hml, hown, hts, hK, hA, hr, hlk⟩ := id X
  have hl : lv_has ls 6 [(0, .long p1), (2, .int p2)] := hl
  unfold f_X10_power at hf
  refine lv_lconst (pc := 0) (v := 1) hx hb dX10_power_0 (by decide) ?_
  refine lv_lstore_n (lv' := [(3, .long 1), (0, .long p1), (2, .int p2)]) (pc := 1) hx hb dX10_power_1 rfl hl (by decide) rfl (fun ls hl => ?_)
  refine lv_iconst (pc := 2) (v := 0) hx hb dX10_power_2 (by decide) ?_
  refine lv_istore (lv' := [(5, .int 0), (3, .long 1), (0, .long p1), (2, .int p2)]) (pc := 3) hx hb dX10_power_3 hl (by decide) rfl (fun ls hl => ?_)
  have L5 : ∀ (n : Nat) (v1 : Int64) (v2 : Int32) (rv1 : Int64), L_X10_power_5 p1 p2 n v1 v2 = some rv1 → ∀ (H : Heap) (locs : List Loc) (ls : Array Slot), WD D A s ([]) H locs → lv_has ls 6 [(0, .long p1), (2, .int p2), (3, .long v1), (5, .int v2)] → (∀ (H : Heap) (locs : List Loc) (ls : Array Slot), WD D A s ([]) H locs → lv_has ls 6 [(3, .long rv1)] → W p l e rmX10_power s m args below meth c H locs 0 0 Q (F0 m 21 ls [])) → W p l e rmX10_power s m args below meth c H locs 0 0 Q (F0 m 5 ls []) := by
    intro n
    induction n with
    | zero => intro v1 v2 rv1 hf; exact (loopF_z hf).elim
    | succ n ih =>
      intro v1 v2 rv1 hf H locs ls hw hl K
      obtain ⟨x, hf, hx0⟩ := loopF_ob hf
      have hf : B_X10_power_5 p1 p2 v1 v2 = some x := hf
      unfold B_X10_power_5 at hf
      refine lv_iload (pc := 5) hx hb dX10_power_5 (lv_at hl 3 rfl) ?_
      refine lv_iload_n (pc := 7) hx hb dX10_power_7 rfl (lv_at hl 1 rfl) ?_
      refine lv_icmp_ge (pc := 8) (tgt := 21) hx hb dX10_power_8 (by decide) (fun c3 => ?_) (fun c3 => ?_)
      · have hf := ipos c3 hf
        cases hf
        cases (hx0 : v1 = rv1)
        exact K _ _ _ hw (lv_sub hl [2] rfl)
      · have hf := ineg c3 hf
        refine lv_lload_n (pc := 11) hx hb dX10_power_11 rfl (lv_at hl 2 rfl) ?_
        refine lv_lload_n (pc := 12) hx hb dX10_power_12 rfl (lv_at hl 0 rfl) ?_
        refine lv_lmul (pc := 13) hx hb dX10_power_13 ?_
        obtain ⟨v4, ev4, hf⟩ := bn_ob hf
        refine x_topl ev4 ?_
        refine lv_lstore_n (lv' := [(3, .long v4), (0, .long p1), (2, .int p2), (5, .int v2)]) (pc := 14) hx hb dX10_power_14 rfl hl (by decide) rfl (fun ls hl => ?_)
        obtain ⟨v5, ev5, hf⟩ := bn_ob hf
        refine lv_iinc (pc := 15) (v := v5) (lv' := [(5, .int v5), (3, .long v4), (0, .long p1), (2, .int p2)]) hx hb dX10_power_15 hl (k := 3) rfl (by rw [ev5]; rfl) (by decide) rfl (fun ls hl => ?_)
        refine lv_goto (pc := 18) (tgt := 5) hx hb dX10_power_18 (by decide) ?_
        cases hf
        exact ih v4 v5 rv1 hx0 _ _ _ hw (lv_sub hl [2, 3, 1, 0] rfl) K
  obtain ⟨v6, hj, hf⟩ := b1_ob hf
  refine L5 _ 1 0 v6 hj _ _ _ hw (lv_sub hl [2, 3, 1, 0] rfl) (fun H locs ls hw hl => ?_)
  clear hj L5
  refine lv_lload_n (pc := 21) hx hb dX10_power_21 rfl (lv_at hl 0 rfl) ?_
  cases hf
  exact hret _ _ 22 _ hw rfl dX10_power_22

abbrev rmX10_choose : Room := { frames := 0, cells := 0, slots := 0, locals := 0 }
def B_X10_choose_5 (p1 : Int32) (p2 : Int32) (v1 : Int64) (v2 : Int32) : Option ((Int64 × Int32) ⊕ (Int64)) :=
  if p2 < v2 then
    some (.inr v1)
  else
  b1 (dvL (v1 * (((p1 - p2) + v2).toInt64)) (v2.toInt64)) fun v4 =>
  bn (v2 + 1) fun v5 =>
  some (.inl (v4, v5))
def L_X10_choose_5 (p1 : Int32) (p2 : Int32) (n : Nat) (v1 : Int64) (v2 : Int32) : Option (Int64) := loopF (fun x : Int64 × Int32 => B_X10_choose_5 p1 p2 x.1 x.2) n (v1, v2)
def f_X10_choose (p1 : Int32) (p2 : Int32) : Option (Int64) :=
  b1 (L_X10_choose_5 p1 p2 FU 1 1) fun v6 =>
  some v6
set_option maxHeartbeats 4000000 in
set_option maxRecDepth 100000 in
theorem c_X10_choose (l : Launch) (D : va_G) (cs : CS) (p1 : Int32) (p2 : Int32) (r : Int64) (hf : f_X10_choose p1 p2 = some r) : CT l D (TY cs) yX10_choose wsX10_choose rmX10_choose [.int p1, .int p2] ([]) (some (.long r)) ([]) := by
  refine CT.ofW (own := RX10) (cc := cX10_choose) (maxL := 5) (ret := some .long) (by decide) rfl rfl (Nat.le_of_ble_eq_true rfl) ?_
  intro p e s m args below meth c A Q X hret ls hl hw
  obtain ⟨hx, hb, hml, hown, hts, hK, hA, hr, hlk⟩ := id X
  have hl : lv_has ls 5 [(0, .int p1), (1, .int p2)] := hl
  unfold f_X10_choose at hf
  refine lv_lconst (pc := 0) (v := 1) hx hb dX10_choose_0 (by decide) ?_
  refine lv_lstore_n (lv' := [(2, .long 1), (0, .int p1), (1, .int p2)]) (pc := 1) hx hb dX10_choose_1 rfl hl (by decide) rfl (fun ls hl => ?_)
  refine lv_iconst (pc := 2) (v := 1) hx hb dX10_choose_2 (by decide) ?_
  refine lv_istore (lv' := [(4, .int 1), (2, .long 1), (0, .int p1), (1, .int p2)]) (pc := 3) hx hb dX10_choose_3 hl (by decide) rfl (fun ls hl => ?_)
  have L5 : ∀ (n : Nat) (v1 : Int64) (v2 : Int32) (rv1 : Int64), L_X10_choose_5 p1 p2 n v1 v2 = some rv1 → ∀ (H : Heap) (locs : List Loc) (ls : Array Slot), WD D A s ([]) H locs → lv_has ls 5 [(0, .int p1), (1, .int p2), (2, .long v1), (4, .int v2)] → (∀ (H : Heap) (locs : List Loc) (ls : Array Slot), WD D A s ([]) H locs → lv_has ls 5 [(2, .long rv1)] → W p l e rmX10_choose s m args below meth c H locs 0 0 Q (F0 m 31 ls [])) → W p l e rmX10_choose s m args below meth c H locs 0 0 Q (F0 m 5 ls []) := by
    intro n
    induction n with
    | zero => intro v1 v2 rv1 hf; exact (loopF_z hf).elim
    | succ n ih =>
      intro v1 v2 rv1 hf H locs ls hw hl K
      obtain ⟨x, hf, hx0⟩ := loopF_ob hf
      have hf : B_X10_choose_5 p1 p2 v1 v2 = some x := hf
      unfold B_X10_choose_5 at hf
      refine lv_iload (pc := 5) hx hb dX10_choose_5 (lv_at hl 3 rfl) ?_
      refine lv_iload_n (pc := 7) hx hb dX10_choose_7 rfl (lv_at hl 1 rfl) ?_
      refine lv_icmp_gt (pc := 8) (tgt := 31) hx hb dX10_choose_8 (by decide) (fun c3 => ?_) (fun c3 => ?_)
      · have hf := ipos c3 hf
        cases hf
        cases (hx0 : v1 = rv1)
        exact K _ _ _ hw (lv_sub hl [2] rfl)
      · have hf := ineg c3 hf
        refine lv_lload_n (pc := 11) hx hb dX10_choose_11 rfl (lv_at hl 2 rfl) ?_
        refine lv_iload_n (pc := 12) hx hb dX10_choose_12 rfl (lv_at hl 0 rfl) ?_
        refine lv_iload_n (pc := 13) hx hb dX10_choose_13 rfl (lv_at hl 1 rfl) ?_
        refine lv_isub (pc := 14) hx hb dX10_choose_14 ?_
        refine lv_iload (pc := 15) hx hb dX10_choose_15 (lv_at hl 3 rfl) ?_
        refine lv_iadd (pc := 17) hx hb dX10_choose_17 ?_
        refine lv_i2l (pc := 18) hx hb dX10_choose_18 rfl ?_
        refine lv_lmul (pc := 19) hx hb dX10_choose_19 ?_
        refine lv_iload (pc := 20) hx hb dX10_choose_20 (lv_at hl 3 rfl) ?_
        refine lv_i2l (pc := 22) hx hb dX10_choose_22 rfl ?_
        obtain ⟨v4, ev4, hf⟩ := b1_ob hf
        refine lv_ldiv (pc := 23) hx hb dX10_choose_23 (dvL_ob ev4).1 ?_
        refine x_topl (dvL_ob ev4).2.symm ?_
        refine lv_lstore_n (lv' := [(2, .long v4), (0, .int p1), (1, .int p2), (4, .int v2)]) (pc := 24) hx hb dX10_choose_24 rfl hl (by decide) rfl (fun ls hl => ?_)
        obtain ⟨v5, ev5, hf⟩ := bn_ob hf
        refine lv_iinc (pc := 25) (v := v5) (lv' := [(4, .int v5), (2, .long v4), (0, .int p1), (1, .int p2)]) hx hb dX10_choose_25 hl (k := 3) rfl (by rw [ev5]; rfl) (by decide) rfl (fun ls hl => ?_)
        refine lv_goto (pc := 28) (tgt := 5) hx hb dX10_choose_28 (by decide) ?_
        cases hf
        exact ih v4 v5 rv1 hx0 _ _ _ hw (lv_sub hl [2, 3, 1, 0] rfl) K
  obtain ⟨v6, hj, hf⟩ := b1_ob hf
  refine L5 _ 1 1 v6 hj _ _ _ hw (lv_sub hl [2, 3, 1, 0] rfl) (fun H locs ls hw hl => ?_)
  clear hj L5
  refine lv_lload_n (pc := 31) hx hb dX10_choose_31 rfl (lv_at hl 0 rfl) ?_
  cases hf
  exact hret _ _ 32 _ hw rfl dX10_choose_32

abbrev rmX10_isBound : Room := { frames := 1, cells := 0, slots := 0, locals := 25 }
def f_X10_isBound (p1 : Int32) (p2 : Int32) : Option (Int32) :=
  b1 (f_X10_in (p1.toInt64) 0 (100)) fun v1 =>
  b1 (
    if v1 = 0 then
      some (0 : Int32)
    else
    b1 (f_X10_in (p2.toInt64) 1 (100)) fun v4 =>
    if v4 = 0 then
      some (0 : Int32)
    else
    some (1 : Int32)) fun v2 =>
  b1 (ckB v2) fun v6 =>
  some v6
set_option maxHeartbeats 4000000 in
set_option maxRecDepth 100000 in
theorem c_X10_isBound (l : Launch) (D : va_G) (cs : CS) (p1 : Int32) (p2 : Int32) (r : Int32) (hf : f_X10_isBound p1 p2 = some r) : CT l D (TY cs) yX10_isBound wsX10_isBound rmX10_isBound [.int p1, .int p2] ([]) (some (.int r)) ([]) := by
  refine CT.ofW (own := RX10) (cc := cX10_isBound) (maxL := 2) (ret := some .boolean) (by decide) rfl rfl (Nat.le_of_ble_eq_true rfl) ?_
  intro p e s m args below meth c A Q X hret ls hl hw
  obtain ⟨hx, hb, hml, hown, hts, hK, hA, hr, hlk⟩ := id X
  have hl : lv_has ls 2 [(0, .int p1), (1, .int p2)] := hl
  unfold f_X10_isBound at hf
  refine lv_iload_n (pc := 0) hx hb dX10_isBound_0 rfl (lv_at hl 0 rfl) ?_
  refine lv_i2l (pc := 1) hx hb dX10_isBound_1 rfl ?_
  refine lv_lconst (pc := 2) (v := 0) hx hb dX10_isBound_2 (by decide) ?_
  refine lv_ldc2 (pc := 3) (v := (100)) hx hb hown (hts _ (List.mem_of_getElem? (i := 1) rfl)) dX10_isBound_3 ?_
  obtain ⟨v1, hc, hf⟩ := b1_ob hf
  refine x_nil (pc := 6) X hw (va_runS (As := [.long (p1.toInt64), .long 0, .long (100)]) (rest := []) ⟨hx, hb, hml, hown, hts⟩ (c_X10_in l D cs (p1.toInt64) 0 (100) v1 hc _) (va_cwS 3 hts gX10_isBound_X10_in rfl rfl rfl (by decide +kernel) ⟨Nat.le_of_ble_eq_true rfl, Nat.le_of_ble_eq_true rfl⟩) ⟨CP_blind, x_preN X [.long (p1.toInt64), .long 0, .long (100)]⟩ rfl rfl hl.1 rfl (lv_room (Nat.le_of_ble_eq_true rfl)) dX10_isBound_6 ⟨Nat.zero_le _, Nat.zero_le _⟩) (fun H locs hw => ?_)
  obtain ⟨v2, hj, hf⟩ := b1_ob hf
  have J29_1 : ∀ (H : Heap) (locs : List Loc) (ls : Array Slot), WD D A s ([]) H locs → lv_has ls 2 [] → W p l e rmX10_isBound s m args below meth c H locs 0 0 Q (F0 m 29 ls [.int v2]) := by
    intro H locs ls hw hl
    obtain ⟨v6, ev6, hf⟩ := b1_ob hf
    refine x_topi (ckB_ob ev6).1.symm ?_
    cases hf
    exact hret _ _ 29 _ hw ⟨_, rfl, ckB_nar (ckB_ob ev6).2⟩ dX10_isBound_29
  clear hf; have hf := hj; clear hj
  refine lv_if_eq (pc := 9) (tgt := 28) hx hb dX10_isBound_9 (by decide) (fun c3 => ?_) (fun c3 => ?_)
  · have hf := ipos c3 hf
    refine lv_iconst (pc := 28) (v := 0) hx hb dX10_isBound_28 (by decide) ?_
    cases hf
    exact J29_1 _ _ _ hw (lv_sub hl [] rfl)
  · have hf := ineg c3 hf
    refine lv_iload_n (pc := 12) hx hb dX10_isBound_12 rfl (lv_at hl 1 rfl) ?_
    refine lv_i2l (pc := 13) hx hb dX10_isBound_13 rfl ?_
    refine lv_lconst (pc := 14) (v := 1) hx hb dX10_isBound_14 (by decide) ?_
    refine lv_ldc2 (pc := 15) (v := (100)) hx hb hown (hts _ (List.mem_of_getElem? (i := 1) rfl)) dX10_isBound_15 ?_
    obtain ⟨v4, hc, hf⟩ := b1_ob hf
    refine x_nil (pc := 18) X hw (va_runS (As := [.long (p2.toInt64), .long 1, .long (100)]) (rest := []) ⟨hx, hb, hml, hown, hts⟩ (c_X10_in l D cs (p2.toInt64) 1 (100) v4 hc _) (va_cwS 3 hts gX10_isBound_X10_in rfl rfl rfl (by decide +kernel) ⟨Nat.le_of_ble_eq_true rfl, Nat.le_of_ble_eq_true rfl⟩) ⟨CP_blind, x_preN X [.long (p2.toInt64), .long 1, .long (100)]⟩ rfl rfl hl.1 rfl (lv_room (Nat.le_of_ble_eq_true rfl)) dX10_isBound_18 ⟨Nat.zero_le _, Nat.zero_le _⟩) (fun H locs hw => ?_)
    refine lv_if_eq (pc := 21) (tgt := 28) hx hb dX10_isBound_21 (by decide) (fun c5 => ?_) (fun c5 => ?_)
    · have hf := ipos c5 hf
      refine lv_iconst (pc := 28) (v := 0) hx hb dX10_isBound_28 (by decide) ?_
      cases hf
      exact J29_1 _ _ _ hw (lv_sub hl [] rfl)
    · have hf := ineg c5 hf
      refine lv_iconst (pc := 24) (v := 1) hx hb dX10_isBound_24 (by decide) ?_
      refine lv_goto (pc := 25) (tgt := 29) hx hb dX10_isBound_25 (by decide) ?_
      cases hf
      exact J29_1 _ _ _ hw (lv_sub hl [] rfl)

theorem in_X10_again_X10 : ∀ w ∈ wsX100, w ∈ wsX10_again := fun _ h => List.mem_cons_of_mem _ (List.mem_append_right _ h)
abbrev rmX10_again : Room := { frames := 4, cells := 0, slots := 0, locals := 97 }
def B_X10_again_63 (S3 : PS) (v4 : Int32) (v9 : Int32) (v11 : Int64) (v12 : Int32) : Option ((Int64 × Int32) ⊕ (Int64)) :=
  if v4 < v12 then
    some (.inr v11)
  else
  b1 (f_X10_choose v4 v12) fun v14 =>
  b1 (f_X10_power (v9.toInt64) v12) fun v15 =>
  b1 (f_X10_power (((S3.1 11) - v9).toInt64) (v4 - v12)) fun v16 =>
  bn (v11 + ((v14 * v15) * v16)) fun v17 =>
  bn (v12 + 1) fun v18 =>
  some (.inl (v17, v18))
def L_X10_again_63 (S3 : PS) (v4 : Int32) (v9 : Int32) (n : Nat) (v11 : Int64) (v12 : Int32) : Option (Int64) := loopF (fun x : Int64 × Int32 => B_X10_again_63 S3 v4 v9 x.1 x.2) n (v11, v12)
def B_X10_again_29 (p1 : Int32) (p2 : Int32) (S3 : PS) (v4 : Int32) (v6 : Int32) (v7 : Int32) : Option ((Int32 × Int32) ⊕ (Int32)) :=
  if ((1 : Int32) <<< ((S3.1 12) &&& 31)) ≤ v7 then
    some (.inr v6)
  else
  b1 (f_X10_rightFrom S3 v7 0 (S3.1 11)) fun v9 =>
  bn ((v4 / 2) + 1) fun v10 =>
  b1 (L_X10_again_63 S3 v4 v9 FU 0 v10) fun v19 =>
  b1 (
    if v6 = 0 then
      some (0 : Int32)
    else
    b1 (f_X10_power ((S3.1 11).toInt64) v4) fun v22 =>
    if (lg_cmp (v19 * (p2.toInt64)) (v22 * (p1.toInt64))) < 0 then
      some (0 : Int32)
    else
    some (1 : Int32)) fun v20 =>
  bn (v7 + 1) fun v24 =>
  some (.inl (v20, v24))
def L_X10_again_29 (p1 : Int32) (p2 : Int32) (S3 : PS) (v4 : Int32) (n : Nat) (v6 : Int32) (v7 : Int32) : Option (Int32) := loopF (fun x : Int32 × Int32 => B_X10_again_29 p1 p2 S3 v4 x.1 x.2) n (v6, v7)
def B_X10_again_17 (p1 : Int32) (p2 : Int32) (S3 : PS) (v4 : Int32) : Option ((Int32) ⊕ (Int32 × PS)) :=
  if 8 ≤ v4 then
    some (.inr ((-1), S3))
  else
  b1 (L_X10_again_29 p1 p2 S3 v4 FU 1 0) fun v25 =>
  if v25 = 0 then
    bn (v4 + 2) fun v27 =>
    some (.inl v27)
  else
  some (.inr (v4, S3))
def L_X10_again_17 (p1 : Int32) (p2 : Int32) (S3 : PS) (n : Nat) (v4 : Int32) : Option (Int32 × PS) := loopF (fun x : Int32 => B_X10_again_17 p1 p2 S3 x) n v4
def f_X10_again (S : PS) (p1 : Int32) (p2 : Int32) : Option (Int32 × PS) :=
  b1 (f_X10_isBound p1 p2) fun v1 =>
  if v1 = 0 then
    some ((-3), S)
  else
  b1 (f_X10_layGood S) fun S3 =>
  L_X10_again_17 p1 p2 S3 FU 1
set_option maxHeartbeats 4000000 in
set_option maxRecDepth 100000 in
theorem c_X10_again (l : Launch) (D : va_G) (cs : CS) (a : Nat) (q : Nat → Nat) (S : PS) (p1 : Int32) (p2 : Int32) (r : Int32) (S' : PS) (hf : f_X10_again S p1 p2 = some (r, S')) : CT l D (TY cs) yX10_again wsX10_again rmX10_again [.ref a, .int p1, .int p2] (wX10 cs a q S) (some (.int r)) (wX10 cs a q S') := by
  refine CT.ofW (own := RX10) (cc := cX10_again) (maxL := 10) (ret := some .int) (by decide) rfl rfl (Nat.le_of_ble_eq_true rfl) ?_
  intro p e s m args below meth c A Q X hret ls hl hw
  obtain ⟨hx, hb, hml, hown, hts, hK, hA, hr, hlk⟩ := id X
  have hl : lv_has ls 10 [(0, .ref a), (1, .int p1), (2, .int p2)] := hl
  unfold f_X10_again at hf
  refine lv_iload_n (pc := 0) hx hb dX10_again_0 rfl (lv_at hl 1 rfl) ?_
  refine lv_iload_n (pc := 1) hx hb dX10_again_1 rfl (lv_at hl 2 rfl) ?_
  obtain ⟨v1, hc, hf⟩ := b1_ob hf
  refine x_nil (pc := 2) X hw (va_runS (As := [.int p1, .int p2]) (rest := []) ⟨hx, hb, hml, hown, hts⟩ (c_X10_isBound l D cs p1 p2 v1 hc _) (va_cwS 2 hts gX10_again_X10_isBound rfl rfl rfl (by decide +kernel) ⟨Nat.le_of_ble_eq_true rfl, Nat.le_of_ble_eq_true rfl⟩) ⟨CP_blind, x_preN X [.int p1, .int p2]⟩ rfl rfl hl.1 rfl (lv_room (Nat.le_of_ble_eq_true rfl)) dX10_again_2 ⟨Nat.zero_le _, Nat.zero_le _⟩) (fun H locs hw => ?_)
  refine lv_if_ne (pc := 5) (tgt := 11) hx hb dX10_again_5 (by decide) (fun c2 => ?_) (fun c2 => ?_)
  · have hf := ineg c2 hf
    refine lv_aload_n (pc := 11) hx hb dX10_again_11 rfl (lv_at hl 0 rfl) ?_
    obtain ⟨S3, hc, hf⟩ := b1_ob hf
    refine x_all (pc := 12) X hw (va_runV (As := []) (rest := []) ⟨hx, hb, hml, hown, hts⟩ (c_X10_layGood l D cs a q S S3 hc _) (cwV 0 hts gX10_again_X10_layGood rfl rfl rfl (by decide +kernel) ⟨Nat.le_of_ble_eq_true rfl, Nat.le_of_ble_eq_true rfl⟩) ⟨CP_blind, va_recv hK hw.1 (ci := 10) (q0 := 0) rfl rfl, x_preA X hw [.ref a]⟩ rfl rfl hl.1 rfl (lv_room (Nat.le_of_ble_eq_true rfl)) dX10_again_12 ⟨Nat.zero_le _, Nat.zero_le _⟩) (fun H locs hw => ?_)
    refine lv_iconst (pc := 15) (v := 1) hx hb dX10_again_15 (by decide) ?_
    refine lv_istore_n (lv' := [(3, .int 1), (0, .ref a), (1, .int p1), (2, .int p2)]) (pc := 16) hx hb dX10_again_16 rfl hl (by decide) rfl (fun ls hl => ?_)
    have L17 : ∀ (n : Nat) (v4 : Int32), L_X10_again_17 p1 p2 S3 n v4 = some (r, S') → ∀ (H : Heap) (locs : List Loc) (ls : Array Slot), WD D A s (wX10 cs a q S3) H locs → lv_has ls 10 [(0, .ref a), (1, .int p1), (2, .int p2), (3, .int v4)] → W p l e rmX10_again s m args below meth c H locs 0 0 Q (F0 m 17 ls []) := by
      intro n
      induction n with
      | zero => intro v4 hf; exact (loopF_z hf).elim
      | succ n ih =>
        intro v4 hf H locs ls hw hl
        obtain ⟨x, hf, hx0⟩ := loopF_ob hf
        have hf : B_X10_again_17 p1 p2 S3 v4 = some x := hf
        unfold B_X10_again_17 at hf
        refine lv_iload_n (pc := 17) hx hb dX10_again_17 rfl (lv_at hl 3 rfl) ?_
        refine lv_bipush (pc := 18) (v := 8) hx hb dX10_again_18 (by decide) ?_
        refine lv_icmp_ge (pc := 20) (tgt := 163) hx hb dX10_again_20 (by decide) (fun c5 => ?_) (fun c5 => ?_)
        · have hf := ipos c5 hf
          refine lv_iconst (pc := 163) (v := (-1)) hx hb dX10_again_163 (by decide) ?_
          cases hf
          cases (hx0 : ((-1), S3) = (r, S'))
          exact hret _ _ 164 _ hw ⟨_, rfl, rfl⟩ dX10_again_164
        · have hf := ineg c5 hf
          refine lv_iconst (pc := 23) (v := 1) hx hb dX10_again_23 (by decide) ?_
          refine lv_istore (lv' := [(4, .int 1), (0, .ref a), (1, .int p1), (2, .int p2), (3, .int v4)]) (pc := 24) hx hb dX10_again_24 hl (by decide) rfl (fun ls hl => ?_)
          refine lv_iconst (pc := 26) (v := 0) hx hb dX10_again_26 (by decide) ?_
          refine lv_istore (lv' := [(5, .int 0), (4, .int 1), (0, .ref a), (1, .int p1), (2, .int p2), (3, .int v4)]) (pc := 27) hx hb dX10_again_27 hl (by decide) rfl (fun ls hl => ?_)
          have L29 : ∀ (n : Nat) (v6 : Int32) (v7 : Int32) (rv6 : Int32), L_X10_again_29 p1 p2 S3 v4 n v6 v7 = some rv6 → ∀ (H : Heap) (locs : List Loc) (ls : Array Slot), WD D A s (wX10 cs a q S3) H locs → lv_has ls 10 [(0, .ref a), (1, .int p1), (2, .int p2), (3, .int v4), (4, .int v6), (5, .int v7)] → (∀ (H : Heap) (locs : List Loc) (ls : Array Slot), WD D A s (wX10 cs a q S3) H locs → lv_has ls 10 [(0, .ref a), (1, .int p1), (2, .int p2), (3, .int v4), (4, .int rv6)] → W p l e rmX10_again s m args below meth c H locs 0 0 Q (F0 m 150 ls [])) → W p l e rmX10_again s m args below meth c H locs 0 0 Q (F0 m 29 ls []) := by
            intro n
            induction n with
            | zero => intro v6 v7 rv6 hf; exact (loopF_z hf).elim
            | succ n ih =>
              intro v6 v7 rv6 hf H locs ls hw hl K
              obtain ⟨x, hf, hx0⟩ := loopF_ob hf
              have hf : B_X10_again_29 p1 p2 S3 v4 v6 v7 = some x := hf
              unfold B_X10_again_29 at hf
              refine lv_iload (pc := 29) hx hb dX10_again_29 (lv_at hl 5 rfl) ?_
              refine lv_iconst (pc := 31) (v := 1) hx hb dX10_again_31 (by decide) ?_
              refine lv_aload_n (pc := 32) hx hb dX10_again_32 rfl (lv_at hl 0 rfl) ?_
              refine x_get (pc := 33) X hw in_X10_again_X10 0 rfl rfl 12 (by decide) (List.mem_of_getElem? (i := 1) rfl) rfl dX10_again_33 ?_
              refine lv_ishl (pc := 36) hx hb dX10_again_36 ?_
              refine lv_icmp_ge (pc := 37) (tgt := 150) hx hb dX10_again_37 (by decide) (fun c8 => ?_) (fun c8 => ?_)
              · have hf := ipos c8 hf
                cases hf
                cases (hx0 : v6 = rv6)
                exact K _ _ _ hw (lv_sub hl [0, 1, 2, 3, 4] rfl)
              · have hf := ineg c8 hf
                refine lv_aload_n (pc := 40) hx hb dX10_again_40 rfl (lv_at hl 0 rfl) ?_
                refine lv_iload (pc := 41) hx hb dX10_again_41 (lv_at hl 5 rfl) ?_
                refine lv_iconst (pc := 43) (v := 0) hx hb dX10_again_43 (by decide) ?_
                refine lv_aload_n (pc := 44) hx hb dX10_again_44 rfl (lv_at hl 0 rfl) ?_
                refine x_get (pc := 45) X hw in_X10_again_X10 0 rfl rfl 11 (by decide) (List.mem_of_getElem? (i := 2) rfl) rfl dX10_again_45 ?_
                obtain ⟨v9, hc, hf⟩ := b1_ob hf
                refine x_all (pc := 48) X hw (va_runV (As := [.int v7, .int 0, .int (S3.1 11)]) (rest := []) ⟨hx, hb, hml, hown, hts⟩ (c_X10_rightFrom l D cs a q S3 v7 0 (S3.1 11) v9 hc _) (cwV 3 hts gX10_again_X10_rightFrom rfl rfl rfl (by decide +kernel) ⟨Nat.le_of_ble_eq_true rfl, Nat.le_of_ble_eq_true rfl⟩) ⟨CP_blind, va_recv hK hw.1 (ci := 10) (q0 := 0) rfl rfl, x_preA X hw [.ref a, .int v7, .int 0, .int (S3.1 11)]⟩ rfl rfl hl.1 rfl (lv_room (Nat.le_of_ble_eq_true rfl)) dX10_again_48 ⟨Nat.zero_le _, Nat.zero_le _⟩) (fun H locs hw => ?_)
                refine lv_istore (lv' := [(6, .int v9), (0, .ref a), (1, .int p1), (2, .int p2), (3, .int v4), (4, .int v6), (5, .int v7)]) (pc := 51) hx hb dX10_again_51 hl (by decide) rfl (fun ls hl => ?_)
                refine lv_lconst (pc := 53) (v := 0) hx hb dX10_again_53 (by decide) ?_
                refine lv_lstore (lv' := [(7, .long 0), (6, .int v9), (0, .ref a), (1, .int p1), (2, .int p2), (3, .int v4), (4, .int v6), (5, .int v7)]) (pc := 54) hx hb dX10_again_54 hl (by decide) rfl (fun ls hl => ?_)
                refine lv_iload_n (pc := 56) hx hb dX10_again_56 rfl (lv_at hl 5 rfl) ?_
                refine lv_iconst (pc := 57) (v := 2) hx hb dX10_again_57 (by decide) ?_
                refine lv_idiv (pc := 58) hx hb dX10_again_58 (by decide) ?_
                refine lv_iconst (pc := 59) (v := 1) hx hb dX10_again_59 (by decide) ?_
                refine lv_iadd (pc := 60) hx hb dX10_again_60 ?_
                obtain ⟨v10, ev10, hf⟩ := bn_ob hf
                refine x_topi ev10 ?_
                refine lv_istore (lv' := [(9, .int v10), (7, .long 0), (6, .int v9), (0, .ref a), (1, .int p1), (2, .int p2), (3, .int v4), (4, .int v6), (5, .int v7)]) (pc := 61) hx hb dX10_again_61 hl (by decide) rfl (fun ls hl => ?_)
                have L63 : ∀ (n : Nat) (v11 : Int64) (v12 : Int32) (rv11 : Int64), L_X10_again_63 S3 v4 v9 n v11 v12 = some rv11 → ∀ (H : Heap) (locs : List Loc) (ls : Array Slot), WD D A s (wX10 cs a q S3) H locs → lv_has ls 10 [(0, .ref a), (1, .int p1), (2, .int p2), (3, .int v4), (4, .int v6), (5, .int v7), (6, .int v9), (7, .long v11), (9, .int v12)] → (∀ (H : Heap) (locs : List Loc) (ls : Array Slot), WD D A s (wX10 cs a q S3) H locs → lv_has ls 10 [(0, .ref a), (1, .int p1), (2, .int p2), (3, .int v4), (4, .int v6), (5, .int v7), (7, .long rv11)] → W p l e rmX10_again s m args below meth c H locs 0 0 Q (F0 m 111 ls [])) → W p l e rmX10_again s m args below meth c H locs 0 0 Q (F0 m 63 ls []) := by
                  intro n
                  induction n with
                  | zero => intro v11 v12 rv11 hf; exact (loopF_z hf).elim
                  | succ n ih =>
                    intro v11 v12 rv11 hf H locs ls hw hl K
                    obtain ⟨x, hf, hx0⟩ := loopF_ob hf
                    have hf : B_X10_again_63 S3 v4 v9 v11 v12 = some x := hf
                    unfold B_X10_again_63 at hf
                    refine lv_iload (pc := 63) hx hb dX10_again_63 (lv_at hl 8 rfl) ?_
                    refine lv_iload_n (pc := 65) hx hb dX10_again_65 rfl (lv_at hl 3 rfl) ?_
                    refine lv_icmp_gt (pc := 66) (tgt := 111) hx hb dX10_again_66 (by decide) (fun c13 => ?_) (fun c13 => ?_)
                    · have hf := ipos c13 hf
                      cases hf
                      cases (hx0 : v11 = rv11)
                      exact K _ _ _ hw (lv_sub hl [0, 1, 2, 3, 4, 5, 7] rfl)
                    · have hf := ineg c13 hf
                      refine lv_lload (pc := 69) hx hb dX10_again_69 (lv_at hl 7 rfl) ?_
                      refine lv_iload_n (pc := 71) hx hb dX10_again_71 rfl (lv_at hl 3 rfl) ?_
                      refine lv_iload (pc := 72) hx hb dX10_again_72 (lv_at hl 8 rfl) ?_
                      obtain ⟨v14, hc, hf⟩ := b1_ob hf
                      refine x_nil (pc := 74) X hw (va_runS (As := [.int v4, .int v12]) (rest := [.long v11]) ⟨hx, hb, hml, hown, hts⟩ (c_X10_choose l D cs v4 v12 v14 hc _) (va_cwS 2 hts gX10_again_X10_choose rfl rfl rfl (by decide +kernel) ⟨Nat.le_of_ble_eq_true rfl, Nat.le_of_ble_eq_true rfl⟩) ⟨CP_blind, x_preN X [.int v4, .int v12]⟩ rfl rfl hl.1 rfl (lv_room (Nat.le_of_ble_eq_true rfl)) dX10_again_74 ⟨Nat.zero_le _, Nat.zero_le _⟩) (fun H locs hw => ?_)
                      refine lv_iload (pc := 77) hx hb dX10_again_77 (lv_at hl 6 rfl) ?_
                      refine lv_i2l (pc := 79) hx hb dX10_again_79 rfl ?_
                      refine lv_iload (pc := 80) hx hb dX10_again_80 (lv_at hl 8 rfl) ?_
                      obtain ⟨v15, hc, hf⟩ := b1_ob hf
                      refine x_nil (pc := 82) X hw (va_runS (As := [.long (v9.toInt64), .int v12]) (rest := [.long v14, .long v11]) ⟨hx, hb, hml, hown, hts⟩ (c_X10_power l D cs (v9.toInt64) v12 v15 hc _) (va_cwS 2 hts gX10_again_X10_power rfl rfl rfl (by decide +kernel) ⟨Nat.le_of_ble_eq_true rfl, Nat.le_of_ble_eq_true rfl⟩) ⟨CP_blind, x_preN X [.long (v9.toInt64), .int v12]⟩ rfl rfl hl.1 rfl (lv_room (Nat.le_of_ble_eq_true rfl)) dX10_again_82 ⟨Nat.zero_le _, Nat.zero_le _⟩) (fun H locs hw => ?_)
                      refine lv_lmul (pc := 85) hx hb dX10_again_85 ?_
                      refine lv_aload_n (pc := 86) hx hb dX10_again_86 rfl (lv_at hl 0 rfl) ?_
                      refine x_get (pc := 87) X hw in_X10_again_X10 0 rfl rfl 11 (by decide) (List.mem_of_getElem? (i := 2) rfl) rfl dX10_again_87 ?_
                      refine lv_iload (pc := 90) hx hb dX10_again_90 (lv_at hl 6 rfl) ?_
                      refine lv_isub (pc := 92) hx hb dX10_again_92 ?_
                      refine lv_i2l (pc := 93) hx hb dX10_again_93 rfl ?_
                      refine lv_iload_n (pc := 94) hx hb dX10_again_94 rfl (lv_at hl 3 rfl) ?_
                      refine lv_iload (pc := 95) hx hb dX10_again_95 (lv_at hl 8 rfl) ?_
                      refine lv_isub (pc := 97) hx hb dX10_again_97 ?_
                      obtain ⟨v16, hc, hf⟩ := b1_ob hf
                      refine x_nil (pc := 98) X hw (va_runS (As := [.long (((S3.1 11) - v9).toInt64), .int (v4 - v12)]) (rest := [.long (v14 * v15), .long v11]) ⟨hx, hb, hml, hown, hts⟩ (c_X10_power l D cs (((S3.1 11) - v9).toInt64) (v4 - v12) v16 hc _) (va_cwS 2 hts gX10_again_X10_power rfl rfl rfl (by decide +kernel) ⟨Nat.le_of_ble_eq_true rfl, Nat.le_of_ble_eq_true rfl⟩) ⟨CP_blind, x_preN X [.long (((S3.1 11) - v9).toInt64), .int (v4 - v12)]⟩ rfl rfl hl.1 rfl (lv_room (Nat.le_of_ble_eq_true rfl)) dX10_again_98 ⟨Nat.zero_le _, Nat.zero_le _⟩) (fun H locs hw => ?_)
                      refine lv_lmul (pc := 101) hx hb dX10_again_101 ?_
                      refine lv_ladd (pc := 102) hx hb dX10_again_102 ?_
                      obtain ⟨v17, ev17, hf⟩ := bn_ob hf
                      refine x_topl ev17 ?_
                      refine lv_lstore (lv' := [(7, .long v17), (0, .ref a), (1, .int p1), (2, .int p2), (3, .int v4), (4, .int v6), (5, .int v7), (6, .int v9), (9, .int v12)]) (pc := 103) hx hb dX10_again_103 hl (by decide) rfl (fun ls hl => ?_)
                      obtain ⟨v18, ev18, hf⟩ := bn_ob hf
                      refine lv_iinc (pc := 105) (v := v18) (lv' := [(9, .int v18), (7, .long v17), (0, .ref a), (1, .int p1), (2, .int p2), (3, .int v4), (4, .int v6), (5, .int v7), (6, .int v9)]) hx hb dX10_again_105 hl (k := 8) rfl (by rw [ev18]; rfl) (by decide) rfl (fun ls hl => ?_)
                      refine lv_goto (pc := 108) (tgt := 63) hx hb dX10_again_108 (by decide) ?_
                      cases hf
                      exact ih v17 v18 rv11 hx0 _ _ _ hw (lv_sub hl [2, 3, 4, 5, 6, 7, 8, 1, 0] rfl) K
                obtain ⟨v19, hj, hf⟩ := b1_ob hf
                refine L63 _ 0 v10 v19 hj _ _ _ hw (lv_sub hl [3, 4, 5, 6, 7, 8, 2, 1, 0] rfl) (fun H locs ls hw hl => ?_)
                clear hj L63
                refine lv_iload (pc := 111) hx hb dX10_again_111 (lv_at hl 4 rfl) ?_
                obtain ⟨v20, hj, hf⟩ := b1_ob hf
                have J142_19 : ∀ (H : Heap) (locs : List Loc) (ls : Array Slot), WD D A s (wX10 cs a q S3) H locs → lv_has ls 10 [(0, .ref a), (1, .int p1), (2, .int p2), (3, .int v4), (5, .int v7)] → W p l e rmX10_again s m args below meth c H locs 0 0 Q (F0 m 142 ls [.int v20]) := by
                  intro H locs ls hw hl
                  refine lv_istore (lv' := [(4, .int v20), (0, .ref a), (1, .int p1), (2, .int p2), (3, .int v4), (5, .int v7)]) (pc := 142) hx hb dX10_again_142 hl (by decide) rfl (fun ls hl => ?_)
                  obtain ⟨v24, ev24, hf⟩ := bn_ob hf
                  refine lv_iinc (pc := 144) (v := v24) (lv' := [(5, .int v24), (4, .int v20), (0, .ref a), (1, .int p1), (2, .int p2), (3, .int v4)]) hx hb dX10_again_144 hl (k := 5) rfl (by rw [ev24]; rfl) (by decide) rfl (fun ls hl => ?_)
                  refine lv_goto (pc := 147) (tgt := 29) hx hb dX10_again_147 (by decide) ?_
                  cases hf
                  exact ih v20 v24 rv6 hx0 _ _ _ hw (lv_sub hl [2, 3, 4, 5, 1, 0] rfl) K
                clear hf; have hf := hj; clear hj
                refine lv_if_eq (pc := 113) (tgt := 141) hx hb dX10_again_113 (by decide) (fun c21 => ?_) (fun c21 => ?_)
                · have hf := ipos c21 hf
                  refine lv_iconst (pc := 141) (v := 0) hx hb dX10_again_141 (by decide) ?_
                  cases hf
                  exact J142_19 _ _ _ hw (lv_sub hl [0, 1, 2, 3, 5] rfl)
                · have hf := ineg c21 hf
                  refine lv_lload (pc := 116) hx hb dX10_again_116 (lv_at hl 6 rfl) ?_
                  refine lv_iload_n (pc := 118) hx hb dX10_again_118 rfl (lv_at hl 2 rfl) ?_
                  refine lv_i2l (pc := 119) hx hb dX10_again_119 rfl ?_
                  refine lv_lmul (pc := 120) hx hb dX10_again_120 ?_
                  refine lv_aload_n (pc := 121) hx hb dX10_again_121 rfl (lv_at hl 0 rfl) ?_
                  refine x_get (pc := 122) X hw in_X10_again_X10 0 rfl rfl 11 (by decide) (List.mem_of_getElem? (i := 2) rfl) rfl dX10_again_122 ?_
                  refine lv_i2l (pc := 125) hx hb dX10_again_125 rfl ?_
                  refine lv_iload_n (pc := 126) hx hb dX10_again_126 rfl (lv_at hl 3 rfl) ?_
                  obtain ⟨v22, hc, hf⟩ := b1_ob hf
                  refine x_nil (pc := 127) X hw (va_runS (As := [.long ((S3.1 11).toInt64), .int v4]) (rest := [.long (v19 * (p2.toInt64))]) ⟨hx, hb, hml, hown, hts⟩ (c_X10_power l D cs ((S3.1 11).toInt64) v4 v22 hc _) (va_cwS 2 hts gX10_again_X10_power rfl rfl rfl (by decide +kernel) ⟨Nat.le_of_ble_eq_true rfl, Nat.le_of_ble_eq_true rfl⟩) ⟨CP_blind, x_preN X [.long ((S3.1 11).toInt64), .int v4]⟩ rfl rfl hl.1 rfl (lv_room (Nat.le_of_ble_eq_true rfl)) dX10_again_127 ⟨Nat.zero_le _, Nat.zero_le _⟩) (fun H locs hw => ?_)
                  refine lv_iload_n (pc := 130) hx hb dX10_again_130 rfl (lv_at hl 1 rfl) ?_
                  refine lv_i2l (pc := 131) hx hb dX10_again_131 rfl ?_
                  refine lv_lmul (pc := 132) hx hb dX10_again_132 ?_
                  refine W.lcmp (pc := 133) hx hb dX10_again_133 ?_
                  refine lv_if_lt (pc := 134) (tgt := 141) hx hb dX10_again_134 (by decide) (fun c23 => ?_) (fun c23 => ?_)
                  · have hf := ipos c23 hf
                    refine lv_iconst (pc := 141) (v := 0) hx hb dX10_again_141 (by decide) ?_
                    cases hf
                    exact J142_19 _ _ _ hw (lv_sub hl [0, 1, 2, 3, 5] rfl)
                  · have hf := ineg c23 hf
                    refine lv_iconst (pc := 137) (v := 1) hx hb dX10_again_137 (by decide) ?_
                    refine lv_goto (pc := 138) (tgt := 142) hx hb dX10_again_138 (by decide) ?_
                    cases hf
                    exact J142_19 _ _ _ hw (lv_sub hl [0, 1, 2, 3, 5] rfl)
          obtain ⟨v25, hj, hf⟩ := b1_ob hf
          refine L29 _ 1 0 v25 hj _ _ _ hw (lv_sub hl [2, 3, 4, 5, 1, 0] rfl) (fun H locs ls hw hl => ?_)
          clear hj L29
          refine lv_iload (pc := 150) hx hb dX10_again_150 (lv_at hl 4 rfl) ?_
          refine lv_if_eq (pc := 152) (tgt := 157) hx hb dX10_again_152 (by decide) (fun c26 => ?_) (fun c26 => ?_)
          · have hf := ipos c26 hf
            obtain ⟨v27, ev27, hf⟩ := bn_ob hf
            refine lv_iinc (pc := 157) (v := v27) (lv' := [(3, .int v27), (0, .ref a), (1, .int p1), (2, .int p2), (4, .int v25)]) hx hb dX10_again_157 hl (k := 3) rfl (by rw [ev27]; rfl) (by decide) rfl (fun ls hl => ?_)
            refine lv_goto (pc := 160) (tgt := 17) hx hb dX10_again_160 (by decide) ?_
            cases hf
            exact ih v27  hx0 _ _ _ hw (lv_sub hl [1, 2, 3, 0] rfl)
          · have hf := ineg c26 hf
            refine lv_iload_n (pc := 155) hx hb dX10_again_155 rfl (lv_at hl 3 rfl) ?_
            cases hf
            cases (hx0 : (v4, S3) = (r, S'))
            exact hret _ _ 156 _ hw ⟨_, rfl, rfl⟩ dX10_again_156
    exact L17 _ 1 hf _ _ _ hw (lv_sub hl [1, 2, 3, 0] rfl)
  · have hf := ipos c2 hf
    refine lv_bipush (pc := 8) (v := (-3)) hx hb dX10_again_8 (by decide) ?_
    cases hf
    exact hret _ _ 10 _ hw ⟨_, rfl, rfl⟩ dX10_again_10

theorem in_X10_cap_X10 : ∀ w ∈ wsX100, w ∈ wsX10_cap := fun _ h => List.mem_cons_of_mem _ (List.mem_append_right _ h)
abbrev rmX10_cap : Room := { frames := 4, cells := 0, slots := 0, locals := 97 }
def B_X10_cap_29 (p1 : Int32) (p2 : Int32) (S3 : PS) (v4 : Int32) (v6 : Int32) (v7 : Int32) : Option ((Int32 × Int32) ⊕ (Int32)) :=
  if ((1 : Int32) <<< ((S3.1 12) &&& 31)) ≤ v7 then
    some (.inr v6)
  else
  b1 (
    if v6 = 0 then
      some (0 : Int32)
    else
    b1 (f_X10_rightFrom S3 v7 0 (S3.1 11)) fun v11 =>
    b1 (f_X10_power (((S3.1 11) - v11).toInt64) v4) fun v12 =>
    b1 (f_X10_power ((S3.1 11).toInt64) v4) fun v13 =>
    if 0 < (lg_cmp (v12 * (p2.toInt64)) (v13 * (p1.toInt64))) then
      some (0 : Int32)
    else
    some (1 : Int32)) fun v9 =>
  bn (v7 + 1) fun v15 =>
  some (.inl (v9, v15))
def L_X10_cap_29 (p1 : Int32) (p2 : Int32) (S3 : PS) (v4 : Int32) (n : Nat) (v6 : Int32) (v7 : Int32) : Option (Int32) := loopF (fun x : Int32 × Int32 => B_X10_cap_29 p1 p2 S3 v4 x.1 x.2) n (v6, v7)
def B_X10_cap_17 (p1 : Int32) (p2 : Int32) (S3 : PS) (v4 : Int32) : Option ((Int32) ⊕ (Int32 × PS)) :=
  if 8 ≤ v4 then
    some (.inr ((-1), S3))
  else
  b1 (L_X10_cap_29 p1 p2 S3 v4 FU 1 0) fun v16 =>
  if v16 = 0 then
    bn (v4 + 1) fun v18 =>
    some (.inl v18)
  else
  some (.inr (v4, S3))
def L_X10_cap_17 (p1 : Int32) (p2 : Int32) (S3 : PS) (n : Nat) (v4 : Int32) : Option (Int32 × PS) := loopF (fun x : Int32 => B_X10_cap_17 p1 p2 S3 x) n v4
def f_X10_cap (S : PS) (p1 : Int32) (p2 : Int32) : Option (Int32 × PS) :=
  b1 (f_X10_isBound p1 p2) fun v1 =>
  if v1 = 0 then
    some ((-3), S)
  else
  b1 (f_X10_layGood S) fun S3 =>
  L_X10_cap_17 p1 p2 S3 FU 1
set_option maxHeartbeats 4000000 in
set_option maxRecDepth 100000 in
theorem c_X10_cap (l : Launch) (D : va_G) (cs : CS) (a : Nat) (q : Nat → Nat) (S : PS) (p1 : Int32) (p2 : Int32) (r : Int32) (S' : PS) (hf : f_X10_cap S p1 p2 = some (r, S')) : CT l D (TY cs) yX10_cap wsX10_cap rmX10_cap [.ref a, .int p1, .int p2] (wX10 cs a q S) (some (.int r)) (wX10 cs a q S') := by
  refine CT.ofW (own := RX10) (cc := cX10_cap) (maxL := 6) (ret := some .int) (by decide) rfl rfl (Nat.le_of_ble_eq_true rfl) ?_
  intro p e s m args below meth c A Q X hret ls hl hw
  obtain ⟨hx, hb, hml, hown, hts, hK, hA, hr, hlk⟩ := id X
  have hl : lv_has ls 6 [(0, .ref a), (1, .int p1), (2, .int p2)] := hl
  unfold f_X10_cap at hf
  refine lv_iload_n (pc := 0) hx hb dX10_cap_0 rfl (lv_at hl 1 rfl) ?_
  refine lv_iload_n (pc := 1) hx hb dX10_cap_1 rfl (lv_at hl 2 rfl) ?_
  obtain ⟨v1, hc, hf⟩ := b1_ob hf
  refine x_nil (pc := 2) X hw (va_runS (As := [.int p1, .int p2]) (rest := []) ⟨hx, hb, hml, hown, hts⟩ (c_X10_isBound l D cs p1 p2 v1 hc _) (va_cwS 2 hts gX10_cap_X10_isBound rfl rfl rfl (by decide +kernel) ⟨Nat.le_of_ble_eq_true rfl, Nat.le_of_ble_eq_true rfl⟩) ⟨CP_blind, x_preN X [.int p1, .int p2]⟩ rfl rfl hl.1 rfl (lv_room (Nat.le_of_ble_eq_true rfl)) dX10_cap_2 ⟨Nat.zero_le _, Nat.zero_le _⟩) (fun H locs hw => ?_)
  refine lv_if_ne (pc := 5) (tgt := 11) hx hb dX10_cap_5 (by decide) (fun c2 => ?_) (fun c2 => ?_)
  · have hf := ineg c2 hf
    refine lv_aload_n (pc := 11) hx hb dX10_cap_11 rfl (lv_at hl 0 rfl) ?_
    obtain ⟨S3, hc, hf⟩ := b1_ob hf
    refine x_all (pc := 12) X hw (va_runV (As := []) (rest := []) ⟨hx, hb, hml, hown, hts⟩ (c_X10_layGood l D cs a q S S3 hc _) (cwV 0 hts gX10_cap_X10_layGood rfl rfl rfl (by decide +kernel) ⟨Nat.le_of_ble_eq_true rfl, Nat.le_of_ble_eq_true rfl⟩) ⟨CP_blind, va_recv hK hw.1 (ci := 10) (q0 := 0) rfl rfl, x_preA X hw [.ref a]⟩ rfl rfl hl.1 rfl (lv_room (Nat.le_of_ble_eq_true rfl)) dX10_cap_12 ⟨Nat.zero_le _, Nat.zero_le _⟩) (fun H locs hw => ?_)
    refine lv_iconst (pc := 15) (v := 1) hx hb dX10_cap_15 (by decide) ?_
    refine lv_istore_n (lv' := [(3, .int 1), (0, .ref a), (1, .int p1), (2, .int p2)]) (pc := 16) hx hb dX10_cap_16 rfl hl (by decide) rfl (fun ls hl => ?_)
    have L17 : ∀ (n : Nat) (v4 : Int32), L_X10_cap_17 p1 p2 S3 n v4 = some (r, S') → ∀ (H : Heap) (locs : List Loc) (ls : Array Slot), WD D A s (wX10 cs a q S3) H locs → lv_has ls 6 [(0, .ref a), (1, .int p1), (2, .int p2), (3, .int v4)] → W p l e rmX10_cap s m args below meth c H locs 0 0 Q (F0 m 17 ls []) := by
      intro n
      induction n with
      | zero => intro v4 hf; exact (loopF_z hf).elim
      | succ n ih =>
        intro v4 hf H locs ls hw hl
        obtain ⟨x, hf, hx0⟩ := loopF_ob hf
        have hf : B_X10_cap_17 p1 p2 S3 v4 = some x := hf
        unfold B_X10_cap_17 at hf
        refine lv_iload_n (pc := 17) hx hb dX10_cap_17 rfl (lv_at hl 3 rfl) ?_
        refine lv_bipush (pc := 18) (v := 8) hx hb dX10_cap_18 (by decide) ?_
        refine lv_icmp_ge (pc := 20) (tgt := 111) hx hb dX10_cap_20 (by decide) (fun c5 => ?_) (fun c5 => ?_)
        · have hf := ipos c5 hf
          refine lv_iconst (pc := 111) (v := (-1)) hx hb dX10_cap_111 (by decide) ?_
          cases hf
          cases (hx0 : ((-1), S3) = (r, S'))
          exact hret _ _ 112 _ hw ⟨_, rfl, rfl⟩ dX10_cap_112
        · have hf := ineg c5 hf
          refine lv_iconst (pc := 23) (v := 1) hx hb dX10_cap_23 (by decide) ?_
          refine lv_istore (lv' := [(4, .int 1), (0, .ref a), (1, .int p1), (2, .int p2), (3, .int v4)]) (pc := 24) hx hb dX10_cap_24 hl (by decide) rfl (fun ls hl => ?_)
          refine lv_iconst (pc := 26) (v := 0) hx hb dX10_cap_26 (by decide) ?_
          refine lv_istore (lv' := [(5, .int 0), (4, .int 1), (0, .ref a), (1, .int p1), (2, .int p2), (3, .int v4)]) (pc := 27) hx hb dX10_cap_27 hl (by decide) rfl (fun ls hl => ?_)
          have L29 : ∀ (n : Nat) (v6 : Int32) (v7 : Int32) (rv6 : Int32), L_X10_cap_29 p1 p2 S3 v4 n v6 v7 = some rv6 → ∀ (H : Heap) (locs : List Loc) (ls : Array Slot), WD D A s (wX10 cs a q S3) H locs → lv_has ls 6 [(0, .ref a), (1, .int p1), (2, .int p2), (3, .int v4), (4, .int v6), (5, .int v7)] → (∀ (H : Heap) (locs : List Loc) (ls : Array Slot), WD D A s (wX10 cs a q S3) H locs → lv_has ls 6 [(0, .ref a), (1, .int p1), (2, .int p2), (3, .int v4), (4, .int rv6)] → W p l e rmX10_cap s m args below meth c H locs 0 0 Q (F0 m 98 ls [])) → W p l e rmX10_cap s m args below meth c H locs 0 0 Q (F0 m 29 ls []) := by
            intro n
            induction n with
            | zero => intro v6 v7 rv6 hf; exact (loopF_z hf).elim
            | succ n ih =>
              intro v6 v7 rv6 hf H locs ls hw hl K
              obtain ⟨x, hf, hx0⟩ := loopF_ob hf
              have hf : B_X10_cap_29 p1 p2 S3 v4 v6 v7 = some x := hf
              unfold B_X10_cap_29 at hf
              refine lv_iload (pc := 29) hx hb dX10_cap_29 (lv_at hl 5 rfl) ?_
              refine lv_iconst (pc := 31) (v := 1) hx hb dX10_cap_31 (by decide) ?_
              refine lv_aload_n (pc := 32) hx hb dX10_cap_32 rfl (lv_at hl 0 rfl) ?_
              refine x_get (pc := 33) X hw in_X10_cap_X10 0 rfl rfl 12 (by decide) (List.mem_of_getElem? (i := 1) rfl) rfl dX10_cap_33 ?_
              refine lv_ishl (pc := 36) hx hb dX10_cap_36 ?_
              refine lv_icmp_ge (pc := 37) (tgt := 98) hx hb dX10_cap_37 (by decide) (fun c8 => ?_) (fun c8 => ?_)
              · have hf := ipos c8 hf
                cases hf
                cases (hx0 : v6 = rv6)
                exact K _ _ _ hw (lv_sub hl [0, 1, 2, 3, 4] rfl)
              · have hf := ineg c8 hf
                refine lv_iload (pc := 40) hx hb dX10_cap_40 (lv_at hl 4 rfl) ?_
                obtain ⟨v9, hj, hf⟩ := b1_ob hf
                have J90_8 : ∀ (H : Heap) (locs : List Loc) (ls : Array Slot), WD D A s (wX10 cs a q S3) H locs → lv_has ls 6 [(0, .ref a), (1, .int p1), (2, .int p2), (3, .int v4), (5, .int v7)] → W p l e rmX10_cap s m args below meth c H locs 0 0 Q (F0 m 90 ls [.int v9]) := by
                  intro H locs ls hw hl
                  refine lv_istore (lv' := [(4, .int v9), (0, .ref a), (1, .int p1), (2, .int p2), (3, .int v4), (5, .int v7)]) (pc := 90) hx hb dX10_cap_90 hl (by decide) rfl (fun ls hl => ?_)
                  obtain ⟨v15, ev15, hf⟩ := bn_ob hf
                  refine lv_iinc (pc := 92) (v := v15) (lv' := [(5, .int v15), (4, .int v9), (0, .ref a), (1, .int p1), (2, .int p2), (3, .int v4)]) hx hb dX10_cap_92 hl (k := 5) rfl (by rw [ev15]; rfl) (by decide) rfl (fun ls hl => ?_)
                  refine lv_goto (pc := 95) (tgt := 29) hx hb dX10_cap_95 (by decide) ?_
                  cases hf
                  exact ih v9 v15 rv6 hx0 _ _ _ hw (lv_sub hl [2, 3, 4, 5, 1, 0] rfl) K
                clear hf; have hf := hj; clear hj
                refine lv_if_eq (pc := 42) (tgt := 89) hx hb dX10_cap_42 (by decide) (fun c10 => ?_) (fun c10 => ?_)
                · have hf := ipos c10 hf
                  refine lv_iconst (pc := 89) (v := 0) hx hb dX10_cap_89 (by decide) ?_
                  cases hf
                  exact J90_8 _ _ _ hw (lv_sub hl [0, 1, 2, 3, 5] rfl)
                · have hf := ineg c10 hf
                  refine lv_aload_n (pc := 45) hx hb dX10_cap_45 rfl (lv_at hl 0 rfl) ?_
                  refine x_get (pc := 46) X hw in_X10_cap_X10 0 rfl rfl 11 (by decide) (List.mem_of_getElem? (i := 2) rfl) rfl dX10_cap_46 ?_
                  refine lv_aload_n (pc := 49) hx hb dX10_cap_49 rfl (lv_at hl 0 rfl) ?_
                  refine lv_iload (pc := 50) hx hb dX10_cap_50 (lv_at hl 5 rfl) ?_
                  refine lv_iconst (pc := 52) (v := 0) hx hb dX10_cap_52 (by decide) ?_
                  refine lv_aload_n (pc := 53) hx hb dX10_cap_53 rfl (lv_at hl 0 rfl) ?_
                  refine x_get (pc := 54) X hw in_X10_cap_X10 0 rfl rfl 11 (by decide) (List.mem_of_getElem? (i := 2) rfl) rfl dX10_cap_54 ?_
                  obtain ⟨v11, hc, hf⟩ := b1_ob hf
                  refine x_all (pc := 57) X hw (va_runV (As := [.int v7, .int 0, .int (S3.1 11)]) (rest := [.int (S3.1 11)]) ⟨hx, hb, hml, hown, hts⟩ (c_X10_rightFrom l D cs a q S3 v7 0 (S3.1 11) v11 hc _) (cwV 3 hts gX10_cap_X10_rightFrom rfl rfl rfl (by decide +kernel) ⟨Nat.le_of_ble_eq_true rfl, Nat.le_of_ble_eq_true rfl⟩) ⟨CP_blind, va_recv hK hw.1 (ci := 10) (q0 := 0) rfl rfl, x_preA X hw [.ref a, .int v7, .int 0, .int (S3.1 11)]⟩ rfl rfl hl.1 rfl (lv_room (Nat.le_of_ble_eq_true rfl)) dX10_cap_57 ⟨Nat.zero_le _, Nat.zero_le _⟩) (fun H locs hw => ?_)
                  refine lv_isub (pc := 60) hx hb dX10_cap_60 ?_
                  refine lv_i2l (pc := 61) hx hb dX10_cap_61 rfl ?_
                  refine lv_iload_n (pc := 62) hx hb dX10_cap_62 rfl (lv_at hl 3 rfl) ?_
                  obtain ⟨v12, hc, hf⟩ := b1_ob hf
                  refine x_nil (pc := 63) X hw (va_runS (As := [.long (((S3.1 11) - v11).toInt64), .int v4]) (rest := []) ⟨hx, hb, hml, hown, hts⟩ (c_X10_power l D cs (((S3.1 11) - v11).toInt64) v4 v12 hc _) (va_cwS 2 hts gX10_cap_X10_power rfl rfl rfl (by decide +kernel) ⟨Nat.le_of_ble_eq_true rfl, Nat.le_of_ble_eq_true rfl⟩) ⟨CP_blind, x_preN X [.long (((S3.1 11) - v11).toInt64), .int v4]⟩ rfl rfl hl.1 rfl (lv_room (Nat.le_of_ble_eq_true rfl)) dX10_cap_63 ⟨Nat.zero_le _, Nat.zero_le _⟩) (fun H locs hw => ?_)
                  refine lv_iload_n (pc := 66) hx hb dX10_cap_66 rfl (lv_at hl 2 rfl) ?_
                  refine lv_i2l (pc := 67) hx hb dX10_cap_67 rfl ?_
                  refine lv_lmul (pc := 68) hx hb dX10_cap_68 ?_
                  refine lv_aload_n (pc := 69) hx hb dX10_cap_69 rfl (lv_at hl 0 rfl) ?_
                  refine x_get (pc := 70) X hw in_X10_cap_X10 0 rfl rfl 11 (by decide) (List.mem_of_getElem? (i := 2) rfl) rfl dX10_cap_70 ?_
                  refine lv_i2l (pc := 73) hx hb dX10_cap_73 rfl ?_
                  refine lv_iload_n (pc := 74) hx hb dX10_cap_74 rfl (lv_at hl 3 rfl) ?_
                  obtain ⟨v13, hc, hf⟩ := b1_ob hf
                  refine x_nil (pc := 75) X hw (va_runS (As := [.long ((S3.1 11).toInt64), .int v4]) (rest := [.long (v12 * (p2.toInt64))]) ⟨hx, hb, hml, hown, hts⟩ (c_X10_power l D cs ((S3.1 11).toInt64) v4 v13 hc _) (va_cwS 2 hts gX10_cap_X10_power rfl rfl rfl (by decide +kernel) ⟨Nat.le_of_ble_eq_true rfl, Nat.le_of_ble_eq_true rfl⟩) ⟨CP_blind, x_preN X [.long ((S3.1 11).toInt64), .int v4]⟩ rfl rfl hl.1 rfl (lv_room (Nat.le_of_ble_eq_true rfl)) dX10_cap_75 ⟨Nat.zero_le _, Nat.zero_le _⟩) (fun H locs hw => ?_)
                  refine lv_iload_n (pc := 78) hx hb dX10_cap_78 rfl (lv_at hl 1 rfl) ?_
                  refine lv_i2l (pc := 79) hx hb dX10_cap_79 rfl ?_
                  refine lv_lmul (pc := 80) hx hb dX10_cap_80 ?_
                  refine W.lcmp (pc := 81) hx hb dX10_cap_81 ?_
                  refine lv_if_gt (pc := 82) (tgt := 89) hx hb dX10_cap_82 (by decide) (fun c14 => ?_) (fun c14 => ?_)
                  · have hf := ipos c14 hf
                    refine lv_iconst (pc := 89) (v := 0) hx hb dX10_cap_89 (by decide) ?_
                    cases hf
                    exact J90_8 _ _ _ hw (lv_sub hl [0, 1, 2, 3, 5] rfl)
                  · have hf := ineg c14 hf
                    refine lv_iconst (pc := 85) (v := 1) hx hb dX10_cap_85 (by decide) ?_
                    refine lv_goto (pc := 86) (tgt := 90) hx hb dX10_cap_86 (by decide) ?_
                    cases hf
                    exact J90_8 _ _ _ hw (lv_sub hl [0, 1, 2, 3, 5] rfl)
          obtain ⟨v16, hj, hf⟩ := b1_ob hf
          refine L29 _ 1 0 v16 hj _ _ _ hw (lv_sub hl [2, 3, 4, 5, 1, 0] rfl) (fun H locs ls hw hl => ?_)
          clear hj L29
          refine lv_iload (pc := 98) hx hb dX10_cap_98 (lv_at hl 4 rfl) ?_
          refine lv_if_eq (pc := 100) (tgt := 105) hx hb dX10_cap_100 (by decide) (fun c17 => ?_) (fun c17 => ?_)
          · have hf := ipos c17 hf
            obtain ⟨v18, ev18, hf⟩ := bn_ob hf
            refine lv_iinc (pc := 105) (v := v18) (lv' := [(3, .int v18), (0, .ref a), (1, .int p1), (2, .int p2), (4, .int v16)]) hx hb dX10_cap_105 hl (k := 3) rfl (by rw [ev18]; rfl) (by decide) rfl (fun ls hl => ?_)
            refine lv_goto (pc := 108) (tgt := 17) hx hb dX10_cap_108 (by decide) ?_
            cases hf
            exact ih v18  hx0 _ _ _ hw (lv_sub hl [1, 2, 3, 0] rfl)
          · have hf := ineg c17 hf
            refine lv_iload_n (pc := 103) hx hb dX10_cap_103 rfl (lv_at hl 3 rfl) ?_
            cases hf
            cases (hx0 : (v4, S3) = (r, S'))
            exact hret _ _ 104 _ hw ⟨_, rfl, rfl⟩ dX10_cap_104
    exact L17 _ 1 hf _ _ _ hw (lv_sub hl [1, 2, 3, 0] rfl)
  · have hf := ipos c2 hf
    refine lv_bipush (pc := 8) (v := (-3)) hx hb dX10_cap_8 (by decide) ?_
    cases hf
    exact hret _ _ 10 _ hw ⟨_, rfl, rfl⟩ dX10_cap_10

theorem in_X10_knots_X10 : ∀ w ∈ wsX100, w ∈ wsX10_knots := fun _ h => List.mem_cons_of_mem _ (List.mem_append_right _ h)
abbrev rmX10_knots : Room := { frames := 1, cells := 0, slots := 0, locals := 25 }
def f_X10_knots (S : PS) (p1 : Int32) : Option (Int32 × PS) :=
  b1 (f_X10_in (p1.toInt64) 1 (8)) fun v1 =>
  if v1 = 0 then
    some ((-3), S)
  else
  bn (sI S 14 p1) fun S3 =>
  bn (sI S3 18 0) fun S4 =>
  bn (sI S4 20 0) fun S5 =>
  bn (sI S5 22 0) fun S6 =>
  some (1, S6)
set_option maxHeartbeats 4000000 in
set_option maxRecDepth 100000 in
theorem c_X10_knots (l : Launch) (D : va_G) (cs : CS) (a : Nat) (q : Nat → Nat) (S : PS) (p1 : Int32) (r : Int32) (S' : PS) (hf : f_X10_knots S p1 = some (r, S')) : CT l D (TY cs) yX10_knots wsX10_knots rmX10_knots [.ref a, .int p1] (wX10 cs a q S) (some (.int r)) (wX10 cs a q S') := by
  refine CT.ofW (own := RX10) (cc := cX10_knots) (maxL := 2) (ret := some .int) (by decide) rfl rfl (Nat.le_of_ble_eq_true rfl) ?_
  intro p e s m args below meth c A Q X hret ls hl hw
  obtain ⟨hx, hb, hml, hown, hts, hK, hA, hr, hlk⟩ := id X
  have hl : lv_has ls 2 [(0, .ref a), (1, .int p1)] := hl
  unfold f_X10_knots at hf
  refine lv_iload_n (pc := 0) hx hb dX10_knots_0 rfl (lv_at hl 1 rfl) ?_
  refine lv_i2l (pc := 1) hx hb dX10_knots_1 rfl ?_
  refine lv_lconst (pc := 2) (v := 1) hx hb dX10_knots_2 (by decide) ?_
  refine lv_ldc2 (pc := 3) (v := (8)) hx hb hown (hts _ (List.mem_of_getElem? (i := 1) rfl)) dX10_knots_3 ?_
  obtain ⟨v1, hc, hf⟩ := b1_ob hf
  refine x_nil (pc := 6) X hw (va_runS (As := [.long (p1.toInt64), .long 1, .long (8)]) (rest := []) ⟨hx, hb, hml, hown, hts⟩ (c_X10_in l D cs (p1.toInt64) 1 (8) v1 hc _) (va_cwS 3 hts gX10_knots_X10_in rfl rfl rfl (by decide +kernel) ⟨Nat.le_of_ble_eq_true rfl, Nat.le_of_ble_eq_true rfl⟩) ⟨CP_blind, x_preN X [.long (p1.toInt64), .long 1, .long (8)]⟩ rfl rfl hl.1 rfl (lv_room (Nat.le_of_ble_eq_true rfl)) dX10_knots_6 ⟨Nat.zero_le _, Nat.zero_le _⟩) (fun H locs hw => ?_)
  refine lv_if_ne (pc := 9) (tgt := 15) hx hb dX10_knots_9 (by decide) (fun c2 => ?_) (fun c2 => ?_)
  · have hf := ineg c2 hf
    refine lv_aload_n (pc := 15) hx hb dX10_knots_15 rfl (lv_at hl 0 rfl) ?_
    refine lv_iload_n (pc := 16) hx hb dX10_knots_16 rfl (lv_at hl 1 rfl) ?_
    obtain ⟨S3, eS3, hf⟩ := bn_ob hf
    refine x_put (pc := 17) X hw in_X10_knots_X10 tyX10 tyX10_ok nmX10 0 rfl rfl 14 (by decide) (List.mem_of_getElem? (i := 2) rfl) rfl rfl rfl (Nat.le_of_ble_eq_true rfl) dX10_knots_17 (ws2 := wX10 cs a q S3) (by rw [eS3]; rfl) (fun H locs hw => ?_)
    refine lv_aload_n (pc := 20) hx hb dX10_knots_20 rfl (lv_at hl 0 rfl) ?_
    refine lv_iconst (pc := 21) (v := 0) hx hb dX10_knots_21 (by decide) ?_
    obtain ⟨S4, eS4, hf⟩ := bn_ob hf
    refine x_put (pc := 22) X hw in_X10_knots_X10 tyX10 tyX10_ok nmX10 0 rfl rfl 18 (by decide) (List.mem_of_getElem? (i := 3) rfl) rfl rfl rfl (Nat.le_of_ble_eq_true rfl) dX10_knots_22 (ws2 := wX10 cs a q S4) (by rw [eS4]; rfl) (fun H locs hw => ?_)
    refine lv_aload_n (pc := 25) hx hb dX10_knots_25 rfl (lv_at hl 0 rfl) ?_
    refine lv_iconst (pc := 26) (v := 0) hx hb dX10_knots_26 (by decide) ?_
    obtain ⟨S5, eS5, hf⟩ := bn_ob hf
    refine x_put (pc := 27) X hw in_X10_knots_X10 tyX10 tyX10_ok nmX10 0 rfl rfl 20 (by decide) (List.mem_of_getElem? (i := 4) rfl) rfl rfl rfl (Nat.le_of_ble_eq_true rfl) dX10_knots_27 (ws2 := wX10 cs a q S5) (by rw [eS5]; rfl) (fun H locs hw => ?_)
    refine lv_aload_n (pc := 30) hx hb dX10_knots_30 rfl (lv_at hl 0 rfl) ?_
    refine lv_iconst (pc := 31) (v := 0) hx hb dX10_knots_31 (by decide) ?_
    obtain ⟨S6, eS6, hf⟩ := bn_ob hf
    refine x_put (pc := 32) X hw in_X10_knots_X10 tyX10 tyX10_ok nmX10 0 rfl rfl 22 (by decide) (List.mem_of_getElem? (i := 5) rfl) rfl rfl rfl (Nat.le_of_ble_eq_true rfl) dX10_knots_32 (ws2 := wX10 cs a q S6) (by rw [eS6]; rfl) (fun H locs hw => ?_)
    refine lv_iconst (pc := 35) (v := 1) hx hb dX10_knots_35 (by decide) ?_
    cases hf
    exact hret _ _ 36 _ hw ⟨_, rfl, rfl⟩ dX10_knots_36
  · have hf := ipos c2 hf
    refine lv_bipush (pc := 12) (v := (-3)) hx hb dX10_knots_12 (by decide) ?_
    cases hf
    exact hret _ _ 14 _ hw ⟨_, rfl, rfl⟩ dX10_knots_14

theorem in_X10_isKnot_X10 : ∀ w ∈ wsX100, w ∈ wsX10_isKnot := fun _ h => List.mem_cons_of_mem _ (List.mem_append_right _ h)
abbrev rmX10_isKnot : Room := { frames := 1, cells := 0, slots := 0, locals := 25 }
def f_X10_isKnot (S : PS) (p1 : Int32) : Option (Int32) :=
  b1 (f_X10_in (p1.toInt64) 0 (((S.1 14) - 1).toInt64)) fun v1 =>
  b1 (ckB v1) fun v2 =>
  some v2
set_option maxHeartbeats 4000000 in
set_option maxRecDepth 100000 in
theorem c_X10_isKnot (l : Launch) (D : va_G) (cs : CS) (a : Nat) (q : Nat → Nat) (S : PS) (p1 : Int32) (r : Int32) (hf : f_X10_isKnot S p1 = some r) : CT l D (TY cs) yX10_isKnot wsX10_isKnot rmX10_isKnot [.ref a, .int p1] (wX10 cs a q S) (some (.int r)) (wX10 cs a q S) := by
  refine CT.ofW (own := RX10) (cc := cX10_isKnot) (maxL := 2) (ret := some .boolean) (by decide) rfl rfl (Nat.le_of_ble_eq_true rfl) ?_
  intro p e s m args below meth c A Q X hret ls hl hw
  obtain ⟨hx, hb, hml, hown, hts, hK, hA, hr, hlk⟩ := id X
  have hl : lv_has ls 2 [(0, .ref a), (1, .int p1)] := hl
  unfold f_X10_isKnot at hf
  refine lv_iload_n (pc := 0) hx hb dX10_isKnot_0 rfl (lv_at hl 1 rfl) ?_
  refine lv_i2l (pc := 1) hx hb dX10_isKnot_1 rfl ?_
  refine lv_lconst (pc := 2) (v := 0) hx hb dX10_isKnot_2 (by decide) ?_
  refine lv_aload_n (pc := 3) hx hb dX10_isKnot_3 rfl (lv_at hl 0 rfl) ?_
  refine x_get (pc := 4) X hw in_X10_isKnot_X10 0 rfl rfl 14 (by decide) (List.mem_of_getElem? (i := 1) rfl) rfl dX10_isKnot_4 ?_
  refine lv_iconst (pc := 7) (v := 1) hx hb dX10_isKnot_7 (by decide) ?_
  refine lv_isub (pc := 8) hx hb dX10_isKnot_8 ?_
  refine lv_i2l (pc := 9) hx hb dX10_isKnot_9 rfl ?_
  obtain ⟨v1, hc, hf⟩ := b1_ob hf
  refine x_nil (pc := 10) X hw (va_runS (As := [.long (p1.toInt64), .long 0, .long (((S.1 14) - 1).toInt64)]) (rest := []) ⟨hx, hb, hml, hown, hts⟩ (c_X10_in l D cs (p1.toInt64) 0 (((S.1 14) - 1).toInt64) v1 hc _) (va_cwS 3 hts gX10_isKnot_X10_in rfl rfl rfl (by decide +kernel) ⟨Nat.le_of_ble_eq_true rfl, Nat.le_of_ble_eq_true rfl⟩) ⟨CP_blind, x_preN X [.long (p1.toInt64), .long 0, .long (((S.1 14) - 1).toInt64)]⟩ rfl rfl hl.1 rfl (lv_room (Nat.le_of_ble_eq_true rfl)) dX10_isKnot_10 ⟨Nat.zero_le _, Nat.zero_le _⟩) (fun H locs hw => ?_)
  obtain ⟨v2, ev2, hf⟩ := b1_ob hf
  refine x_topi (ckB_ob ev2).1.symm ?_
  cases hf
  exact hret _ _ 13 _ hw ⟨_, rfl, ckB_nar (ckB_ob ev2).2⟩ dX10_isKnot_13

theorem in_X10_areKnots_X10 : ∀ w ∈ wsX100, w ∈ wsX10_areKnots := fun _ h => List.mem_cons_of_mem _ (List.mem_append_right _ h)
abbrev rmX10_areKnots : Room := { frames := 1, cells := 0, slots := 0, locals := 25 }
def f_X10_areKnots (S : PS) (p1 : Int32) : Option (Int32) :=
  b1 (f_X10_in (p1.toInt64) 0 ((((1 : Int32) <<< ((S.1 14) &&& 31)) - 1).toInt64)) fun v1 =>
  b1 (ckB v1) fun v2 =>
  some v2
set_option maxHeartbeats 4000000 in
set_option maxRecDepth 100000 in
theorem c_X10_areKnots (l : Launch) (D : va_G) (cs : CS) (a : Nat) (q : Nat → Nat) (S : PS) (p1 : Int32) (r : Int32) (hf : f_X10_areKnots S p1 = some r) : CT l D (TY cs) yX10_areKnots wsX10_areKnots rmX10_areKnots [.ref a, .int p1] (wX10 cs a q S) (some (.int r)) (wX10 cs a q S) := by
  refine CT.ofW (own := RX10) (cc := cX10_areKnots) (maxL := 2) (ret := some .boolean) (by decide) rfl rfl (Nat.le_of_ble_eq_true rfl) ?_
  intro p e s m args below meth c A Q X hret ls hl hw
  obtain ⟨hx, hb, hml, hown, hts, hK, hA, hr, hlk⟩ := id X
  have hl : lv_has ls 2 [(0, .ref a), (1, .int p1)] := hl
  unfold f_X10_areKnots at hf
  refine lv_iload_n (pc := 0) hx hb dX10_areKnots_0 rfl (lv_at hl 1 rfl) ?_
  refine lv_i2l (pc := 1) hx hb dX10_areKnots_1 rfl ?_
  refine lv_lconst (pc := 2) (v := 0) hx hb dX10_areKnots_2 (by decide) ?_
  refine lv_iconst (pc := 3) (v := 1) hx hb dX10_areKnots_3 (by decide) ?_
  refine lv_aload_n (pc := 4) hx hb dX10_areKnots_4 rfl (lv_at hl 0 rfl) ?_
  refine x_get (pc := 5) X hw in_X10_areKnots_X10 0 rfl rfl 14 (by decide) (List.mem_of_getElem? (i := 1) rfl) rfl dX10_areKnots_5 ?_
  refine lv_ishl (pc := 8) hx hb dX10_areKnots_8 ?_
  refine lv_iconst (pc := 9) (v := 1) hx hb dX10_areKnots_9 (by decide) ?_
  refine lv_isub (pc := 10) hx hb dX10_areKnots_10 ?_
  refine lv_i2l (pc := 11) hx hb dX10_areKnots_11 rfl ?_
  obtain ⟨v1, hc, hf⟩ := b1_ob hf
  refine x_nil (pc := 12) X hw (va_runS (As := [.long (p1.toInt64), .long 0, .long ((((1 : Int32) <<< ((S.1 14) &&& 31)) - 1).toInt64)]) (rest := []) ⟨hx, hb, hml, hown, hts⟩ (c_X10_in l D cs (p1.toInt64) 0 ((((1 : Int32) <<< ((S.1 14) &&& 31)) - 1).toInt64) v1 hc _) (va_cwS 3 hts gX10_areKnots_X10_in rfl rfl rfl (by decide +kernel) ⟨Nat.le_of_ble_eq_true rfl, Nat.le_of_ble_eq_true rfl⟩) ⟨CP_blind, x_preN X [.long (p1.toInt64), .long 0, .long ((((1 : Int32) <<< ((S.1 14) &&& 31)) - 1).toInt64)]⟩ rfl rfl hl.1 rfl (lv_room (Nat.le_of_ble_eq_true rfl)) dX10_areKnots_12 ⟨Nat.zero_le _, Nat.zero_le _⟩) (fun H locs hw => ?_)
  obtain ⟨v2, ev2, hf⟩ := b1_ob hf
  refine x_topi (ckB_ob ev2).1.symm ?_
  cases hf
  exact hret _ _ 15 _ hw ⟨_, rfl, ckB_nar (ckB_ob ev2).2⟩ dX10_areKnots_15

theorem in_X10_edge_X10 : ∀ w ∈ wsX100, w ∈ wsX10_edge := fun _ h => List.mem_cons_of_mem _ (List.mem_append_right _ h)
abbrev rmX10_edge : Room := { frames := 2, cells := 0, slots := 0, locals := 46 }
def f_X10_edge (S : PS) (p1 : Int32) (p2 : Int32) (p3 : Int32) : Option (Int32 × PS) :=
  b1 (f_X10_isKnot S p1) fun v1 =>
  if v1 = 0 then
    some ((-2), S)
  else
  b1 (f_X10_isKnot S p2) fun v3 =>
  if v3 = 0 then
    some ((-2), S)
  else
  if p1 = p2 then
    some ((-2), S)
  else
  b1 (f_X10_in (p3.toInt64) 1 (99)) fun v6 =>
  if v6 = 0 then
    some ((-3), S)
  else
  if (S.1 18) = 16 then
    some ((-5), S)
  else
  b1 (wA 16 S 15 (S.1 18) p1) fun S9 =>
  b1 (wA 16 S9 16 (S9.1 18) p2) fun S10 =>
  b1 (wA 16 S10 17 (S10.1 18) p3) fun S11 =>
  bn (sI S11 18 ((S11.1 18) + 1)) fun S12 =>
  some ((S12.1 18), S12)
set_option maxHeartbeats 4000000 in
set_option maxRecDepth 100000 in
theorem c_X10_edge (l : Launch) (D : va_G) (cs : CS) (a : Nat) (q : Nat → Nat) (S : PS) (p1 : Int32) (p2 : Int32) (p3 : Int32) (r : Int32) (S' : PS) (hf : f_X10_edge S p1 p2 p3 = some (r, S')) : CT l D (TY cs) yX10_edge wsX10_edge rmX10_edge [.ref a, .int p1, .int p2, .int p3] (wX10 cs a q S) (some (.int r)) (wX10 cs a q S') := by
  refine CT.ofW (own := RX10) (cc := cX10_edge) (maxL := 4) (ret := some .int) (by decide) rfl rfl (Nat.le_of_ble_eq_true rfl) ?_
  intro p e s m args below meth c A Q X hret ls hl hw
  obtain ⟨hx, hb, hml, hown, hts, hK, hA, hr, hlk⟩ := id X
  have hl : lv_has ls 4 [(0, .ref a), (1, .int p1), (2, .int p2), (3, .int p3)] := hl
  unfold f_X10_edge at hf
  refine lv_aload_n (pc := 0) hx hb dX10_edge_0 rfl (lv_at hl 0 rfl) ?_
  refine lv_iload_n (pc := 1) hx hb dX10_edge_1 rfl (lv_at hl 1 rfl) ?_
  obtain ⟨v1, hc, hf⟩ := b1_ob hf
  refine x_all (pc := 2) X hw (va_runV (As := [.int p1]) (rest := []) ⟨hx, hb, hml, hown, hts⟩ (c_X10_isKnot l D cs a q S p1 v1 hc _) (cwV 1 hts gX10_edge_X10_isKnot rfl rfl rfl (by decide +kernel) ⟨Nat.le_of_ble_eq_true rfl, Nat.le_of_ble_eq_true rfl⟩) ⟨CP_blind, va_recv hK hw.1 (ci := 10) (q0 := 0) rfl rfl, x_preA X hw [.ref a, .int p1]⟩ rfl rfl hl.1 rfl (lv_room (Nat.le_of_ble_eq_true rfl)) dX10_edge_2 ⟨Nat.zero_le _, Nat.zero_le _⟩) (fun H locs hw => ?_)
  refine lv_if_eq (pc := 5) (tgt := 21) hx hb dX10_edge_5 (by decide) (fun c2 => ?_) (fun c2 => ?_)
  · have hf := ipos c2 hf
    refine lv_bipush (pc := 21) (v := (-2)) hx hb dX10_edge_21 (by decide) ?_
    cases hf
    exact hret _ _ 23 _ hw ⟨_, rfl, rfl⟩ dX10_edge_23
  · have hf := ineg c2 hf
    refine lv_aload_n (pc := 8) hx hb dX10_edge_8 rfl (lv_at hl 0 rfl) ?_
    refine lv_iload_n (pc := 9) hx hb dX10_edge_9 rfl (lv_at hl 2 rfl) ?_
    obtain ⟨v3, hc, hf⟩ := b1_ob hf
    refine x_all (pc := 10) X hw (va_runV (As := [.int p2]) (rest := []) ⟨hx, hb, hml, hown, hts⟩ (c_X10_isKnot l D cs a q S p2 v3 hc _) (cwV 1 hts gX10_edge_X10_isKnot rfl rfl rfl (by decide +kernel) ⟨Nat.le_of_ble_eq_true rfl, Nat.le_of_ble_eq_true rfl⟩) ⟨CP_blind, va_recv hK hw.1 (ci := 10) (q0 := 0) rfl rfl, x_preA X hw [.ref a, .int p2]⟩ rfl rfl hl.1 rfl (lv_room (Nat.le_of_ble_eq_true rfl)) dX10_edge_10 ⟨Nat.zero_le _, Nat.zero_le _⟩) (fun H locs hw => ?_)
    refine lv_if_eq (pc := 13) (tgt := 21) hx hb dX10_edge_13 (by decide) (fun c4 => ?_) (fun c4 => ?_)
    · have hf := ipos c4 hf
      refine lv_bipush (pc := 21) (v := (-2)) hx hb dX10_edge_21 (by decide) ?_
      cases hf
      exact hret _ _ 23 _ hw ⟨_, rfl, rfl⟩ dX10_edge_23
    · have hf := ineg c4 hf
      refine lv_iload_n (pc := 16) hx hb dX10_edge_16 rfl (lv_at hl 1 rfl) ?_
      refine lv_iload_n (pc := 17) hx hb dX10_edge_17 rfl (lv_at hl 2 rfl) ?_
      refine lv_icmp_ne (pc := 18) (tgt := 24) hx hb dX10_edge_18 (by decide) (fun c5 => ?_) (fun c5 => ?_)
      · have hf := ineg c5 hf
        refine lv_iload_n (pc := 24) hx hb dX10_edge_24 rfl (lv_at hl 3 rfl) ?_
        refine lv_i2l (pc := 25) hx hb dX10_edge_25 rfl ?_
        refine lv_lconst (pc := 26) (v := 1) hx hb dX10_edge_26 (by decide) ?_
        refine lv_ldc2 (pc := 27) (v := (99)) hx hb hown (hts _ (List.mem_of_getElem? (i := 1) rfl)) dX10_edge_27 ?_
        obtain ⟨v6, hc, hf⟩ := b1_ob hf
        refine x_nil (pc := 30) X hw (va_runS (As := [.long (p3.toInt64), .long 1, .long (99)]) (rest := []) ⟨hx, hb, hml, hown, hts⟩ (c_X10_in l D cs (p3.toInt64) 1 (99) v6 hc _) (va_cwS 3 hts gX10_edge_X10_in rfl rfl rfl (by decide +kernel) ⟨Nat.le_of_ble_eq_true rfl, Nat.le_of_ble_eq_true rfl⟩) ⟨CP_blind, x_preN X [.long (p3.toInt64), .long 1, .long (99)]⟩ rfl rfl hl.1 rfl (lv_room (Nat.le_of_ble_eq_true rfl)) dX10_edge_30 ⟨Nat.zero_le _, Nat.zero_le _⟩) (fun H locs hw => ?_)
        refine lv_if_ne (pc := 33) (tgt := 39) hx hb dX10_edge_33 (by decide) (fun c7 => ?_) (fun c7 => ?_)
        · have hf := ineg c7 hf
          refine lv_aload_n (pc := 39) hx hb dX10_edge_39 rfl (lv_at hl 0 rfl) ?_
          refine x_get (pc := 40) X hw in_X10_edge_X10 0 rfl rfl 18 (by decide) (List.mem_of_getElem? (i := 2) rfl) rfl dX10_edge_40 ?_
          refine lv_bipush (pc := 43) (v := 16) hx hb dX10_edge_43 (by decide) ?_
          refine lv_icmp_ne (pc := 45) (tgt := 51) hx hb dX10_edge_45 (by decide) (fun c8 => ?_) (fun c8 => ?_)
          · have hf := ineg c8 hf
            refine lv_aload_n (pc := 51) hx hb dX10_edge_51 rfl (lv_at hl 0 rfl) ?_
            refine x_get (pc := 52) X hw in_X10_edge_X10 0 rfl rfl 15 (by decide) (List.mem_of_getElem? (i := 3) rfl) rfl dX10_edge_52 ?_
            refine lv_aload_n (pc := 55) hx hb dX10_edge_55 rfl (lv_at hl 0 rfl) ?_
            refine x_get (pc := 56) X hw in_X10_edge_X10 0 rfl rfl 18 (by decide) (List.mem_of_getElem? (i := 2) rfl) rfl dX10_edge_56 ?_
            refine lv_iload_n (pc := 59) hx hb dX10_edge_59 rfl (lv_at hl 1 rfl) ?_
            obtain ⟨S9, eS9, hf⟩ := b1_ob hf
            refine x_iast (pc := 60) X hw 8 0 rfl rfl (wA_ob eS9).1 dX10_edge_60 (ws2 := wX10 cs a q S9) (by rw [(wA_ob eS9).2]; rfl) (fun H locs hw => ?_)
            refine lv_aload_n (pc := 61) hx hb dX10_edge_61 rfl (lv_at hl 0 rfl) ?_
            refine x_get (pc := 62) X hw in_X10_edge_X10 0 rfl rfl 16 (by decide) (List.mem_of_getElem? (i := 4) rfl) rfl dX10_edge_62 ?_
            refine lv_aload_n (pc := 65) hx hb dX10_edge_65 rfl (lv_at hl 0 rfl) ?_
            refine x_get (pc := 66) X hw in_X10_edge_X10 0 rfl rfl 18 (by decide) (List.mem_of_getElem? (i := 2) rfl) rfl dX10_edge_66 ?_
            refine lv_iload_n (pc := 69) hx hb dX10_edge_69 rfl (lv_at hl 2 rfl) ?_
            obtain ⟨S10, eS10, hf⟩ := b1_ob hf
            refine x_iast (pc := 70) X hw 9 0 rfl rfl (wA_ob eS10).1 dX10_edge_70 (ws2 := wX10 cs a q S10) (by rw [(wA_ob eS10).2]; rfl) (fun H locs hw => ?_)
            refine lv_aload_n (pc := 71) hx hb dX10_edge_71 rfl (lv_at hl 0 rfl) ?_
            refine x_get (pc := 72) X hw in_X10_edge_X10 0 rfl rfl 17 (by decide) (List.mem_of_getElem? (i := 5) rfl) rfl dX10_edge_72 ?_
            refine lv_aload_n (pc := 75) hx hb dX10_edge_75 rfl (lv_at hl 0 rfl) ?_
            refine x_get (pc := 76) X hw in_X10_edge_X10 0 rfl rfl 18 (by decide) (List.mem_of_getElem? (i := 2) rfl) rfl dX10_edge_76 ?_
            refine lv_iload_n (pc := 79) hx hb dX10_edge_79 rfl (lv_at hl 3 rfl) ?_
            obtain ⟨S11, eS11, hf⟩ := b1_ob hf
            refine x_iast (pc := 80) X hw 10 0 rfl rfl (wA_ob eS11).1 dX10_edge_80 (ws2 := wX10 cs a q S11) (by rw [(wA_ob eS11).2]; rfl) (fun H locs hw => ?_)
            refine lv_aload_n (pc := 81) hx hb dX10_edge_81 rfl (lv_at hl 0 rfl) ?_
            refine lv_dup (pc := 82) hx hb dX10_edge_82 rfl ?_
            refine x_get (pc := 83) X hw in_X10_edge_X10 0 rfl rfl 18 (by decide) (List.mem_of_getElem? (i := 2) rfl) rfl dX10_edge_83 ?_
            refine lv_iconst (pc := 86) (v := 1) hx hb dX10_edge_86 (by decide) ?_
            refine lv_iadd (pc := 87) hx hb dX10_edge_87 ?_
            obtain ⟨S12, eS12, hf⟩ := bn_ob hf
            refine x_put (pc := 88) X hw in_X10_edge_X10 tyX10 tyX10_ok nmX10 0 rfl rfl 18 (by decide) (List.mem_of_getElem? (i := 2) rfl) rfl rfl rfl (Nat.le_of_ble_eq_true rfl) dX10_edge_88 (ws2 := wX10 cs a q S12) (by rw [eS12]; rfl) (fun H locs hw => ?_)
            refine lv_aload_n (pc := 91) hx hb dX10_edge_91 rfl (lv_at hl 0 rfl) ?_
            refine x_get (pc := 92) X hw in_X10_edge_X10 0 rfl rfl 18 (by decide) (List.mem_of_getElem? (i := 2) rfl) rfl dX10_edge_92 ?_
            cases hf
            exact hret _ _ 95 _ hw ⟨_, rfl, rfl⟩ dX10_edge_95
          · have hf := ipos c8 hf
            refine lv_bipush (pc := 48) (v := (-5)) hx hb dX10_edge_48 (by decide) ?_
            cases hf
            exact hret _ _ 50 _ hw ⟨_, rfl, rfl⟩ dX10_edge_50
        · have hf := ipos c7 hf
          refine lv_bipush (pc := 36) (v := (-3)) hx hb dX10_edge_36 (by decide) ?_
          cases hf
          exact hret _ _ 38 _ hw ⟨_, rfl, rfl⟩ dX10_edge_38
      · have hf := ipos c5 hf
        refine lv_bipush (pc := 21) (v := (-2)) hx hb dX10_edge_21 (by decide) ?_
        cases hf
        exact hret _ _ 23 _ hw ⟨_, rfl, rfl⟩ dX10_edge_23

theorem in_X10_cord_X10 : ∀ w ∈ wsX100, w ∈ wsX10_cord := fun _ h => List.mem_cons_of_mem _ (List.mem_append_right _ h)
abbrev rmX10_cord : Room := { frames := 2, cells := 0, slots := 0, locals := 46 }
def f_X10_cord (S : PS) (p1 : Int32) : Option (Int32 × PS) :=
  b1 (f_X10_areKnots S p1) fun v1 =>
  if v1 = 0 then
    some ((-3), S)
  else
  b1 (f_X10_bits p1) fun v3 =>
  if 2 ≤ v3 then
    if (S.1 20) = 10 then
      some ((-5), S)
    else
    b1 (wA 10 S 19 (S.1 20) p1) fun S6 =>
    bn (sI S6 20 ((S6.1 20) + 1)) fun S7 =>
    some ((S7.1 20), S7)
  else
  some ((-3), S)
set_option maxHeartbeats 4000000 in
set_option maxRecDepth 100000 in
theorem c_X10_cord (l : Launch) (D : va_G) (cs : CS) (a : Nat) (q : Nat → Nat) (S : PS) (p1 : Int32) (r : Int32) (S' : PS) (hf : f_X10_cord S p1 = some (r, S')) : CT l D (TY cs) yX10_cord wsX10_cord rmX10_cord [.ref a, .int p1] (wX10 cs a q S) (some (.int r)) (wX10 cs a q S') := by
  refine CT.ofW (own := RX10) (cc := cX10_cord) (maxL := 2) (ret := some .int) (by decide) rfl rfl (Nat.le_of_ble_eq_true rfl) ?_
  intro p e s m args below meth c A Q X hret ls hl hw
  obtain ⟨hx, hb, hml, hown, hts, hK, hA, hr, hlk⟩ := id X
  have hl : lv_has ls 2 [(0, .ref a), (1, .int p1)] := hl
  unfold f_X10_cord at hf
  refine lv_aload_n (pc := 0) hx hb dX10_cord_0 rfl (lv_at hl 0 rfl) ?_
  refine lv_iload_n (pc := 1) hx hb dX10_cord_1 rfl (lv_at hl 1 rfl) ?_
  obtain ⟨v1, hc, hf⟩ := b1_ob hf
  refine x_all (pc := 2) X hw (va_runV (As := [.int p1]) (rest := []) ⟨hx, hb, hml, hown, hts⟩ (c_X10_areKnots l D cs a q S p1 v1 hc _) (cwV 1 hts gX10_cord_X10_areKnots rfl rfl rfl (by decide +kernel) ⟨Nat.le_of_ble_eq_true rfl, Nat.le_of_ble_eq_true rfl⟩) ⟨CP_blind, va_recv hK hw.1 (ci := 10) (q0 := 0) rfl rfl, x_preA X hw [.ref a, .int p1]⟩ rfl rfl hl.1 rfl (lv_room (Nat.le_of_ble_eq_true rfl)) dX10_cord_2 ⟨Nat.zero_le _, Nat.zero_le _⟩) (fun H locs hw => ?_)
  refine lv_if_eq (pc := 5) (tgt := 16) hx hb dX10_cord_5 (by decide) (fun c2 => ?_) (fun c2 => ?_)
  · have hf := ipos c2 hf
    refine lv_bipush (pc := 16) (v := (-3)) hx hb dX10_cord_16 (by decide) ?_
    cases hf
    exact hret _ _ 18 _ hw ⟨_, rfl, rfl⟩ dX10_cord_18
  · have hf := ineg c2 hf
    refine lv_iload_n (pc := 8) hx hb dX10_cord_8 rfl (lv_at hl 1 rfl) ?_
    obtain ⟨v3, hc, hf⟩ := b1_ob hf
    refine x_nil (pc := 9) X hw (va_runS (As := [.int p1]) (rest := []) ⟨hx, hb, hml, hown, hts⟩ (c_X10_bits l D cs p1 v3 hc _) (va_cwS 1 hts gX10_cord_X10_bits rfl rfl rfl (by decide +kernel) ⟨Nat.le_of_ble_eq_true rfl, Nat.le_of_ble_eq_true rfl⟩) ⟨CP_blind, x_preN X [.int p1]⟩ rfl rfl hl.1 rfl (lv_room (Nat.le_of_ble_eq_true rfl)) dX10_cord_9 ⟨Nat.zero_le _, Nat.zero_le _⟩) (fun H locs hw => ?_)
    refine lv_iconst (pc := 12) (v := 2) hx hb dX10_cord_12 (by decide) ?_
    refine lv_icmp_ge (pc := 13) (tgt := 19) hx hb dX10_cord_13 (by decide) (fun c4 => ?_) (fun c4 => ?_)
    · have hf := ipos c4 hf
      refine lv_aload_n (pc := 19) hx hb dX10_cord_19 rfl (lv_at hl 0 rfl) ?_
      refine x_get (pc := 20) X hw in_X10_cord_X10 0 rfl rfl 20 (by decide) (List.mem_of_getElem? (i := 1) rfl) rfl dX10_cord_20 ?_
      refine lv_bipush (pc := 23) (v := 10) hx hb dX10_cord_23 (by decide) ?_
      refine lv_icmp_ne (pc := 25) (tgt := 31) hx hb dX10_cord_25 (by decide) (fun c5 => ?_) (fun c5 => ?_)
      · have hf := ineg c5 hf
        refine lv_aload_n (pc := 31) hx hb dX10_cord_31 rfl (lv_at hl 0 rfl) ?_
        refine x_get (pc := 32) X hw in_X10_cord_X10 0 rfl rfl 19 (by decide) (List.mem_of_getElem? (i := 2) rfl) rfl dX10_cord_32 ?_
        refine lv_aload_n (pc := 35) hx hb dX10_cord_35 rfl (lv_at hl 0 rfl) ?_
        refine x_get (pc := 36) X hw in_X10_cord_X10 0 rfl rfl 20 (by decide) (List.mem_of_getElem? (i := 1) rfl) rfl dX10_cord_36 ?_
        refine lv_iload_n (pc := 39) hx hb dX10_cord_39 rfl (lv_at hl 1 rfl) ?_
        obtain ⟨S6, eS6, hf⟩ := b1_ob hf
        refine x_iast (pc := 40) X hw 11 0 rfl rfl (wA_ob eS6).1 dX10_cord_40 (ws2 := wX10 cs a q S6) (by rw [(wA_ob eS6).2]; rfl) (fun H locs hw => ?_)
        refine lv_aload_n (pc := 41) hx hb dX10_cord_41 rfl (lv_at hl 0 rfl) ?_
        refine lv_dup (pc := 42) hx hb dX10_cord_42 rfl ?_
        refine x_get (pc := 43) X hw in_X10_cord_X10 0 rfl rfl 20 (by decide) (List.mem_of_getElem? (i := 1) rfl) rfl dX10_cord_43 ?_
        refine lv_iconst (pc := 46) (v := 1) hx hb dX10_cord_46 (by decide) ?_
        refine lv_iadd (pc := 47) hx hb dX10_cord_47 ?_
        obtain ⟨S7, eS7, hf⟩ := bn_ob hf
        refine x_put (pc := 48) X hw in_X10_cord_X10 tyX10 tyX10_ok nmX10 0 rfl rfl 20 (by decide) (List.mem_of_getElem? (i := 1) rfl) rfl rfl rfl (Nat.le_of_ble_eq_true rfl) dX10_cord_48 (ws2 := wX10 cs a q S7) (by rw [eS7]; rfl) (fun H locs hw => ?_)
        refine lv_aload_n (pc := 51) hx hb dX10_cord_51 rfl (lv_at hl 0 rfl) ?_
        refine x_get (pc := 52) X hw in_X10_cord_X10 0 rfl rfl 20 (by decide) (List.mem_of_getElem? (i := 1) rfl) rfl dX10_cord_52 ?_
        cases hf
        exact hret _ _ 55 _ hw ⟨_, rfl, rfl⟩ dX10_cord_55
      · have hf := ipos c5 hf
        refine lv_bipush (pc := 28) (v := (-5)) hx hb dX10_cord_28 (by decide) ?_
        cases hf
        exact hret _ _ 30 _ hw ⟨_, rfl, rfl⟩ dX10_cord_30
    · have hf := ineg c4 hf
      refine lv_bipush (pc := 16) (v := (-3)) hx hb dX10_cord_16 (by decide) ?_
      cases hf
      exact hret _ _ 18 _ hw ⟨_, rfl, rfl⟩ dX10_cord_18

theorem in_X10_measureOf_X10 : ∀ w ∈ wsX100, w ∈ wsX10_measureOf := fun _ h => List.mem_cons_of_mem _ (List.mem_append_right _ h)
abbrev rmX10_measureOf : Room := { frames := 0, cells := 0, slots := 0, locals := 0 }
def B_X10_measureOf_5 (S : PS) (p1 : Int32) (p2 : Int32) (v1 : Int32) (v2 : Int32) : Option ((Int32 × Int32) ⊕ (Int32)) :=
  if (S.1 18) ≤ v2 then
    some (.inr v1)
  else
  if p1 = 0 then
    b1 (rdI 16 (S.2.1 15) v2) fun v5 =>
    b1 (rdI 16 (S.2.1 16) v2) fun v6 =>
    b1 (
      if ((p2 >>> (v5 &&& 31)) &&& 1) = ((p2 >>> (v6 &&& 31)) &&& 1) then
        some (0 : Int32)
      else
      b1 (rdI 16 (S.2.1 17) v2) fun v9 =>
      some v9) fun v7 =>
    bn (v1 + v7) fun v10 =>
    bn (v2 + 1) fun v11 =>
    some (.inl (v10, v11))
  else
  some (.inr v1)
def L_X10_measureOf_5 (S : PS) (p1 : Int32) (p2 : Int32) (n : Nat) (v1 : Int32) (v2 : Int32) : Option (Int32) := loopF (fun x : Int32 × Int32 => B_X10_measureOf_5 S p1 p2 x.1 x.2) n (v1, v2)
def B_X10_measureOf_66 (S : PS) (p1 : Int32) (p2 : Int32) (v13 : Int32) (v14 : Int32) : Option ((Int32 × Int32) ⊕ (Int32)) :=
  if (S.1 20) ≤ v14 then
    some (.inr v13)
  else
  if p1 = 1 then
    b1 (rdI 10 (S.2.1 19) v14) fun v17 =>
    b1 (
      if (p2 &&& v17) = 0 then
        some (1 : Int32)
      else
      b1 (rdI 10 (S.2.1 19) v14) fun v20 =>
      b1 (rdI 10 (S.2.1 19) v14) fun v21 =>
      if (p2 &&& v20) = v21 then
        some (1 : Int32)
      else
      some (0 : Int32)) fun v18 =>
    bn (v13 + v18) fun v23 =>
    bn (v14 + 1) fun v24 =>
    some (.inl (v23, v24))
  else
  some (.inr v13)
def L_X10_measureOf_66 (S : PS) (p1 : Int32) (p2 : Int32) (n : Nat) (v13 : Int32) (v14 : Int32) : Option (Int32) := loopF (fun x : Int32 × Int32 => B_X10_measureOf_66 S p1 p2 x.1 x.2) n (v13, v14)
def f_X10_measureOf (S : PS) (p1 : Int32) (p2 : Int32) : Option (Int32) :=
  b1 (L_X10_measureOf_5 S p1 p2 FU 0 0) fun v12 =>
  b1 (L_X10_measureOf_66 S p1 p2 FU v12 0) fun v25 =>
  some v25
set_option maxHeartbeats 4000000 in
set_option maxRecDepth 100000 in
theorem c_X10_measureOf (l : Launch) (D : va_G) (cs : CS) (a : Nat) (q : Nat → Nat) (S : PS) (p1 : Int32) (p2 : Int32) (r : Int32) (hf : f_X10_measureOf S p1 p2 = some r) : CT l D (TY cs) yX10_measureOf wsX10_measureOf rmX10_measureOf [.ref a, .int p1, .int p2] (wX10 cs a q S) (some (.int r)) (wX10 cs a q S) := by
  refine CT.ofW (own := RX10) (cc := cX10_measureOf) (maxL := 5) (ret := some .int) (by decide) rfl rfl (Nat.le_of_ble_eq_true rfl) ?_
  intro p e s m args below meth c A Q X hret ls hl hw
  obtain ⟨hx, hb, hml, hown, hts, hK, hA, hr, hlk⟩ := id X
  have hl : lv_has ls 5 [(0, .ref a), (1, .int p1), (2, .int p2)] := hl
  unfold f_X10_measureOf at hf
  refine lv_iconst (pc := 0) (v := 0) hx hb dX10_measureOf_0 (by decide) ?_
  refine lv_istore_n (lv' := [(3, .int 0), (0, .ref a), (1, .int p1), (2, .int p2)]) (pc := 1) hx hb dX10_measureOf_1 rfl hl (by decide) rfl (fun ls hl => ?_)
  refine lv_iconst (pc := 2) (v := 0) hx hb dX10_measureOf_2 (by decide) ?_
  refine lv_istore (lv' := [(4, .int 0), (3, .int 0), (0, .ref a), (1, .int p1), (2, .int p2)]) (pc := 3) hx hb dX10_measureOf_3 hl (by decide) rfl (fun ls hl => ?_)
  have L5 : ∀ (n : Nat) (v1 : Int32) (v2 : Int32) (rv1 : Int32), L_X10_measureOf_5 S p1 p2 n v1 v2 = some rv1 → ∀ (H : Heap) (locs : List Loc) (ls : Array Slot), WD D A s (wX10 cs a q S) H locs → lv_has ls 5 [(0, .ref a), (1, .int p1), (2, .int p2), (3, .int v1), (4, .int v2)] → (∀ (H : Heap) (locs : List Loc) (ls : Array Slot), WD D A s (wX10 cs a q S) H locs → lv_has ls 5 [(0, .ref a), (1, .int p1), (2, .int p2), (3, .int rv1)] → W p l e rmX10_measureOf s m args below meth c H locs 0 0 Q (F0 m 63 ls [])) → W p l e rmX10_measureOf s m args below meth c H locs 0 0 Q (F0 m 5 ls []) := by
    intro n
    induction n with
    | zero => intro v1 v2 rv1 hf; exact (loopF_z hf).elim
    | succ n ih =>
      intro v1 v2 rv1 hf H locs ls hw hl K
      obtain ⟨x, hf, hx0⟩ := loopF_ob hf
      have hf : B_X10_measureOf_5 S p1 p2 v1 v2 = some x := hf
      unfold B_X10_measureOf_5 at hf
      refine lv_iload (pc := 5) hx hb dX10_measureOf_5 (lv_at hl 4 rfl) ?_
      refine lv_aload_n (pc := 7) hx hb dX10_measureOf_7 rfl (lv_at hl 0 rfl) ?_
      refine x_get (pc := 8) X hw in_X10_measureOf_X10 0 rfl rfl 18 (by decide) (List.mem_of_getElem? (i := 1) rfl) rfl dX10_measureOf_8 ?_
      refine lv_icmp_ge (pc := 11) (tgt := 63) hx hb dX10_measureOf_11 (by decide) (fun c3 => ?_) (fun c3 => ?_)
      · have hf := ipos c3 hf
        cases hf
        cases (hx0 : v1 = rv1)
        exact K _ _ _ hw (lv_sub hl [0, 1, 2, 3] rfl)
      · have hf := ineg c3 hf
        refine lv_iload_n (pc := 14) hx hb dX10_measureOf_14 rfl (lv_at hl 1 rfl) ?_
        refine lv_if_ne (pc := 15) (tgt := 63) hx hb dX10_measureOf_15 (by decide) (fun c4 => ?_) (fun c4 => ?_)
        · have hf := ineg c4 hf
          cases hf
          cases (hx0 : v1 = rv1)
          exact K _ _ _ hw (lv_sub hl [0, 1, 2, 3] rfl)
        · have hf := ipos c4 hf
          refine lv_iload_n (pc := 18) hx hb dX10_measureOf_18 rfl (lv_at hl 3 rfl) ?_
          refine lv_iload_n (pc := 19) hx hb dX10_measureOf_19 rfl (lv_at hl 2 rfl) ?_
          refine lv_aload_n (pc := 20) hx hb dX10_measureOf_20 rfl (lv_at hl 0 rfl) ?_
          refine x_get (pc := 21) X hw in_X10_measureOf_X10 0 rfl rfl 15 (by decide) (List.mem_of_getElem? (i := 2) rfl) rfl dX10_measureOf_21 ?_
          refine lv_iload (pc := 24) hx hb dX10_measureOf_24 (lv_at hl 4 rfl) ?_
          obtain ⟨v5, ev5, hf⟩ := b1_ob hf
          refine x_iald (pc := 26) X hw 8 0 rfl rfl ev5 dX10_measureOf_26 ?_
          refine lv_ishr (pc := 27) hx hb dX10_measureOf_27 ?_
          refine lv_iconst (pc := 28) (v := 1) hx hb dX10_measureOf_28 (by decide) ?_
          refine lv_iand (pc := 29) hx hb dX10_measureOf_29 ?_
          refine lv_iload_n (pc := 30) hx hb dX10_measureOf_30 rfl (lv_at hl 2 rfl) ?_
          refine lv_aload_n (pc := 31) hx hb dX10_measureOf_31 rfl (lv_at hl 0 rfl) ?_
          refine x_get (pc := 32) X hw in_X10_measureOf_X10 0 rfl rfl 16 (by decide) (List.mem_of_getElem? (i := 3) rfl) rfl dX10_measureOf_32 ?_
          refine lv_iload (pc := 35) hx hb dX10_measureOf_35 (lv_at hl 4 rfl) ?_
          obtain ⟨v6, ev6, hf⟩ := b1_ob hf
          refine x_iald (pc := 37) X hw 9 0 rfl rfl ev6 dX10_measureOf_37 ?_
          refine lv_ishr (pc := 38) hx hb dX10_measureOf_38 ?_
          refine lv_iconst (pc := 39) (v := 1) hx hb dX10_measureOf_39 (by decide) ?_
          refine lv_iand (pc := 40) hx hb dX10_measureOf_40 ?_
          obtain ⟨v7, hj, hf⟩ := b1_ob hf
          have J55_6 : ∀ (H : Heap) (locs : List Loc) (ls : Array Slot), WD D A s (wX10 cs a q S) H locs → lv_has ls 5 [(0, .ref a), (1, .int p1), (2, .int p2), (4, .int v2)] → W p l e rmX10_measureOf s m args below meth c H locs 0 0 Q (F0 m 55 ls [.int v7, .int v1]) := by
            intro H locs ls hw hl
            refine lv_iadd (pc := 55) hx hb dX10_measureOf_55 ?_
            obtain ⟨v10, ev10, hf⟩ := bn_ob hf
            refine x_topi ev10 ?_
            refine lv_istore_n (lv' := [(3, .int v10), (0, .ref a), (1, .int p1), (2, .int p2), (4, .int v2)]) (pc := 56) hx hb dX10_measureOf_56 rfl hl (by decide) rfl (fun ls hl => ?_)
            obtain ⟨v11, ev11, hf⟩ := bn_ob hf
            refine lv_iinc (pc := 57) (v := v11) (lv' := [(4, .int v11), (3, .int v10), (0, .ref a), (1, .int p1), (2, .int p2)]) hx hb dX10_measureOf_57 hl (k := 4) rfl (by rw [ev11]; rfl) (by decide) rfl (fun ls hl => ?_)
            refine lv_goto (pc := 60) (tgt := 5) hx hb dX10_measureOf_60 (by decide) ?_
            cases hf
            exact ih v10 v11 rv1 hx0 _ _ _ hw (lv_sub hl [2, 3, 4, 1, 0] rfl) K
          clear hf; have hf := hj; clear hj
          refine lv_icmp_eq (pc := 41) (tgt := 54) hx hb dX10_measureOf_41 (by decide) (fun c8 => ?_) (fun c8 => ?_)
          · have hf := ipos c8 hf
            refine lv_iconst (pc := 54) (v := 0) hx hb dX10_measureOf_54 (by decide) ?_
            cases hf
            exact J55_6 _ _ _ hw (lv_sub hl [0, 1, 2, 4] rfl)
          · have hf := ineg c8 hf
            refine lv_aload_n (pc := 44) hx hb dX10_measureOf_44 rfl (lv_at hl 0 rfl) ?_
            refine x_get (pc := 45) X hw in_X10_measureOf_X10 0 rfl rfl 17 (by decide) (List.mem_of_getElem? (i := 4) rfl) rfl dX10_measureOf_45 ?_
            refine lv_iload (pc := 48) hx hb dX10_measureOf_48 (lv_at hl 4 rfl) ?_
            obtain ⟨v9, ev9, hf⟩ := b1_ob hf
            refine x_iald (pc := 50) X hw 10 0 rfl rfl ev9 dX10_measureOf_50 ?_
            refine lv_goto (pc := 51) (tgt := 55) hx hb dX10_measureOf_51 (by decide) ?_
            cases hf
            exact J55_6 _ _ _ hw (lv_sub hl [0, 1, 2, 4] rfl)
  obtain ⟨v12, hj, hf⟩ := b1_ob hf
  refine L5 _ 0 0 v12 hj _ _ _ hw (lv_sub hl [2, 3, 4, 1, 0] rfl) (fun H locs ls hw hl => ?_)
  clear hj L5
  refine lv_iconst (pc := 63) (v := 0) hx hb dX10_measureOf_63 (by decide) ?_
  refine lv_istore (lv' := [(4, .int 0), (0, .ref a), (1, .int p1), (2, .int p2), (3, .int v12)]) (pc := 64) hx hb dX10_measureOf_64 hl (by decide) rfl (fun ls hl => ?_)
  have L66 : ∀ (n : Nat) (v13 : Int32) (v14 : Int32) (rv13 : Int32), L_X10_measureOf_66 S p1 p2 n v13 v14 = some rv13 → ∀ (H : Heap) (locs : List Loc) (ls : Array Slot), WD D A s (wX10 cs a q S) H locs → lv_has ls 5 [(0, .ref a), (1, .int p1), (2, .int p2), (3, .int v13), (4, .int v14)] → (∀ (H : Heap) (locs : List Loc) (ls : Array Slot), WD D A s (wX10 cs a q S) H locs → lv_has ls 5 [(3, .int rv13)] → W p l e rmX10_measureOf s m args below meth c H locs 0 0 Q (F0 m 125 ls [])) → W p l e rmX10_measureOf s m args below meth c H locs 0 0 Q (F0 m 66 ls []) := by
    intro n
    induction n with
    | zero => intro v13 v14 rv13 hf; exact (loopF_z hf).elim
    | succ n ih =>
      intro v13 v14 rv13 hf H locs ls hw hl K
      obtain ⟨x, hf, hx0⟩ := loopF_ob hf
      have hf : B_X10_measureOf_66 S p1 p2 v13 v14 = some x := hf
      unfold B_X10_measureOf_66 at hf
      refine lv_iload (pc := 66) hx hb dX10_measureOf_66 (lv_at hl 4 rfl) ?_
      refine lv_aload_n (pc := 68) hx hb dX10_measureOf_68 rfl (lv_at hl 0 rfl) ?_
      refine x_get (pc := 69) X hw in_X10_measureOf_X10 0 rfl rfl 20 (by decide) (List.mem_of_getElem? (i := 5) rfl) rfl dX10_measureOf_69 ?_
      refine lv_icmp_ge (pc := 72) (tgt := 125) hx hb dX10_measureOf_72 (by decide) (fun c15 => ?_) (fun c15 => ?_)
      · have hf := ipos c15 hf
        cases hf
        cases (hx0 : v13 = rv13)
        exact K _ _ _ hw (lv_sub hl [3] rfl)
      · have hf := ineg c15 hf
        refine lv_iload_n (pc := 75) hx hb dX10_measureOf_75 rfl (lv_at hl 1 rfl) ?_
        refine lv_iconst (pc := 76) (v := 1) hx hb dX10_measureOf_76 (by decide) ?_
        refine lv_icmp_ne (pc := 77) (tgt := 125) hx hb dX10_measureOf_77 (by decide) (fun c16 => ?_) (fun c16 => ?_)
        · have hf := ineg c16 hf
          cases hf
          cases (hx0 : v13 = rv13)
          exact K _ _ _ hw (lv_sub hl [3] rfl)
        · have hf := ipos c16 hf
          refine lv_iload_n (pc := 80) hx hb dX10_measureOf_80 rfl (lv_at hl 3 rfl) ?_
          refine lv_iload_n (pc := 81) hx hb dX10_measureOf_81 rfl (lv_at hl 2 rfl) ?_
          refine lv_aload_n (pc := 82) hx hb dX10_measureOf_82 rfl (lv_at hl 0 rfl) ?_
          refine x_get (pc := 83) X hw in_X10_measureOf_X10 0 rfl rfl 19 (by decide) (List.mem_of_getElem? (i := 6) rfl) rfl dX10_measureOf_83 ?_
          refine lv_iload (pc := 86) hx hb dX10_measureOf_86 (lv_at hl 4 rfl) ?_
          obtain ⟨v17, ev17, hf⟩ := b1_ob hf
          refine x_iald (pc := 88) X hw 11 0 rfl rfl ev17 dX10_measureOf_88 ?_
          refine lv_iand (pc := 89) hx hb dX10_measureOf_89 ?_
          obtain ⟨v18, hj, hf⟩ := b1_ob hf
          have J117_17 : ∀ (H : Heap) (locs : List Loc) (ls : Array Slot), WD D A s (wX10 cs a q S) H locs → lv_has ls 5 [(0, .ref a), (1, .int p1), (2, .int p2), (4, .int v14)] → W p l e rmX10_measureOf s m args below meth c H locs 0 0 Q (F0 m 117 ls [.int v18, .int v13]) := by
            intro H locs ls hw hl
            refine lv_iadd (pc := 117) hx hb dX10_measureOf_117 ?_
            obtain ⟨v23, ev23, hf⟩ := bn_ob hf
            refine x_topi ev23 ?_
            refine lv_istore_n (lv' := [(3, .int v23), (0, .ref a), (1, .int p1), (2, .int p2), (4, .int v14)]) (pc := 118) hx hb dX10_measureOf_118 rfl hl (by decide) rfl (fun ls hl => ?_)
            obtain ⟨v24, ev24, hf⟩ := bn_ob hf
            refine lv_iinc (pc := 119) (v := v24) (lv' := [(4, .int v24), (3, .int v23), (0, .ref a), (1, .int p1), (2, .int p2)]) hx hb dX10_measureOf_119 hl (k := 4) rfl (by rw [ev24]; rfl) (by decide) rfl (fun ls hl => ?_)
            refine lv_goto (pc := 122) (tgt := 66) hx hb dX10_measureOf_122 (by decide) ?_
            cases hf
            exact ih v23 v24 rv13 hx0 _ _ _ hw (lv_sub hl [2, 3, 4, 1, 0] rfl) K
          clear hf; have hf := hj; clear hj
          refine lv_if_eq (pc := 90) (tgt := 112) hx hb dX10_measureOf_90 (by decide) (fun c19 => ?_) (fun c19 => ?_)
          · have hf := ipos c19 hf
            refine lv_iconst (pc := 112) (v := 1) hx hb dX10_measureOf_112 (by decide) ?_
            refine lv_goto (pc := 113) (tgt := 117) hx hb dX10_measureOf_113 (by decide) ?_
            cases hf
            exact J117_17 _ _ _ hw (lv_sub hl [0, 1, 2, 4] rfl)
          · have hf := ineg c19 hf
            refine lv_iload_n (pc := 93) hx hb dX10_measureOf_93 rfl (lv_at hl 2 rfl) ?_
            refine lv_aload_n (pc := 94) hx hb dX10_measureOf_94 rfl (lv_at hl 0 rfl) ?_
            refine x_get (pc := 95) X hw in_X10_measureOf_X10 0 rfl rfl 19 (by decide) (List.mem_of_getElem? (i := 6) rfl) rfl dX10_measureOf_95 ?_
            refine lv_iload (pc := 98) hx hb dX10_measureOf_98 (lv_at hl 4 rfl) ?_
            obtain ⟨v20, ev20, hf⟩ := b1_ob hf
            refine x_iald (pc := 100) X hw 11 0 rfl rfl ev20 dX10_measureOf_100 ?_
            refine lv_iand (pc := 101) hx hb dX10_measureOf_101 ?_
            refine lv_aload_n (pc := 102) hx hb dX10_measureOf_102 rfl (lv_at hl 0 rfl) ?_
            refine x_get (pc := 103) X hw in_X10_measureOf_X10 0 rfl rfl 19 (by decide) (List.mem_of_getElem? (i := 6) rfl) rfl dX10_measureOf_103 ?_
            refine lv_iload (pc := 106) hx hb dX10_measureOf_106 (lv_at hl 4 rfl) ?_
            obtain ⟨v21, ev21, hf⟩ := b1_ob hf
            refine x_iald (pc := 108) X hw 11 0 rfl rfl ev21 dX10_measureOf_108 ?_
            refine lv_icmp_ne (pc := 109) (tgt := 116) hx hb dX10_measureOf_109 (by decide) (fun c22 => ?_) (fun c22 => ?_)
            · have hf := ineg c22 hf
              refine lv_iconst (pc := 116) (v := 0) hx hb dX10_measureOf_116 (by decide) ?_
              cases hf
              exact J117_17 _ _ _ hw (lv_sub hl [0, 1, 2, 4] rfl)
            · have hf := ipos c22 hf
              refine lv_iconst (pc := 112) (v := 1) hx hb dX10_measureOf_112 (by decide) ?_
              refine lv_goto (pc := 113) (tgt := 117) hx hb dX10_measureOf_113 (by decide) ?_
              cases hf
              exact J117_17 _ _ _ hw (lv_sub hl [0, 1, 2, 4] rfl)
  obtain ⟨v25, hj, hf⟩ := b1_ob hf
  refine L66 _ v12 0 v25 hj _ _ _ hw (lv_sub hl [1, 2, 3, 4, 0] rfl) (fun H locs ls hw hl => ?_)
  clear hj L66
  refine lv_iload_n (pc := 125) hx hb dX10_measureOf_125 rfl (lv_at hl 0 rfl) ?_
  cases hf
  exact hret _ _ 126 _ hw ⟨_, rfl, rfl⟩ dX10_measureOf_126

theorem in_X10_measure_X10 : ∀ w ∈ wsX100, w ∈ wsX10_measure := fun _ h => List.mem_cons_of_mem _ (List.mem_append_right _ h)
abbrev rmX10_measure : Room := { frames := 2, cells := 0, slots := 0, locals := 46 }
def f_X10_measure (S : PS) (p1 : Int32) (p2 : Int32) : Option (Int32) :=
  b1 (f_X10_in (p1.toInt64) 0 1) fun v1 =>
  b1 (
    if v1 = 0 then
      some ((-3) : Int32)
    else
    b1 (f_X10_areKnots S p2) fun v4 =>
    if v4 = 0 then
      some ((-3) : Int32)
    else
    b1 (f_X10_measureOf S p1 p2) fun v6 =>
    some v6) fun v2 =>
  some v2
set_option maxHeartbeats 4000000 in
set_option maxRecDepth 100000 in
theorem c_X10_measure (l : Launch) (D : va_G) (cs : CS) (a : Nat) (q : Nat → Nat) (S : PS) (p1 : Int32) (p2 : Int32) (r : Int32) (hf : f_X10_measure S p1 p2 = some r) : CT l D (TY cs) yX10_measure wsX10_measure rmX10_measure [.ref a, .int p1, .int p2] (wX10 cs a q S) (some (.int r)) (wX10 cs a q S) := by
  refine CT.ofW (own := RX10) (cc := cX10_measure) (maxL := 3) (ret := some .int) (by decide) rfl rfl (Nat.le_of_ble_eq_true rfl) ?_
  intro p e s m args below meth c A Q X hret ls hl hw
  obtain ⟨hx, hb, hml, hown, hts, hK, hA, hr, hlk⟩ := id X
  have hl : lv_has ls 3 [(0, .ref a), (1, .int p1), (2, .int p2)] := hl
  unfold f_X10_measure at hf
  refine lv_iload_n (pc := 0) hx hb dX10_measure_0 rfl (lv_at hl 1 rfl) ?_
  refine lv_i2l (pc := 1) hx hb dX10_measure_1 rfl ?_
  refine lv_lconst (pc := 2) (v := 0) hx hb dX10_measure_2 (by decide) ?_
  refine lv_lconst (pc := 3) (v := 1) hx hb dX10_measure_3 (by decide) ?_
  obtain ⟨v1, hc, hf⟩ := b1_ob hf
  refine x_nil (pc := 4) X hw (va_runS (As := [.long (p1.toInt64), .long 0, .long 1]) (rest := []) ⟨hx, hb, hml, hown, hts⟩ (c_X10_in l D cs (p1.toInt64) 0 1 v1 hc _) (va_cwS 3 hts gX10_measure_X10_in rfl rfl rfl (by decide +kernel) ⟨Nat.le_of_ble_eq_true rfl, Nat.le_of_ble_eq_true rfl⟩) ⟨CP_blind, x_preN X [.long (p1.toInt64), .long 0, .long 1]⟩ rfl rfl hl.1 rfl (lv_room (Nat.le_of_ble_eq_true rfl)) dX10_measure_4 ⟨Nat.zero_le _, Nat.zero_le _⟩) (fun H locs hw => ?_)
  obtain ⟨v2, hj, hf⟩ := b1_ob hf
  have J29_1 : ∀ (H : Heap) (locs : List Loc) (ls : Array Slot), WD D A s (wX10 cs a q S) H locs → lv_has ls 3 [] → W p l e rmX10_measure s m args below meth c H locs 0 0 Q (F0 m 29 ls [.int v2]) := by
    intro H locs ls hw hl
    cases hf
    exact hret _ _ 29 _ hw ⟨_, rfl, rfl⟩ dX10_measure_29
  clear hf; have hf := hj; clear hj
  refine lv_if_eq (pc := 7) (tgt := 27) hx hb dX10_measure_7 (by decide) (fun c3 => ?_) (fun c3 => ?_)
  · have hf := ipos c3 hf
    refine lv_bipush (pc := 27) (v := (-3)) hx hb dX10_measure_27 (by decide) ?_
    cases hf
    exact J29_1 _ _ _ hw (lv_sub hl [] rfl)
  · have hf := ineg c3 hf
    refine lv_aload_n (pc := 10) hx hb dX10_measure_10 rfl (lv_at hl 0 rfl) ?_
    refine lv_iload_n (pc := 11) hx hb dX10_measure_11 rfl (lv_at hl 2 rfl) ?_
    obtain ⟨v4, hc, hf⟩ := b1_ob hf
    refine x_all (pc := 12) X hw (va_runV (As := [.int p2]) (rest := []) ⟨hx, hb, hml, hown, hts⟩ (c_X10_areKnots l D cs a q S p2 v4 hc _) (cwV 1 hts gX10_measure_X10_areKnots rfl rfl rfl (by decide +kernel) ⟨Nat.le_of_ble_eq_true rfl, Nat.le_of_ble_eq_true rfl⟩) ⟨CP_blind, va_recv hK hw.1 (ci := 10) (q0 := 0) rfl rfl, x_preA X hw [.ref a, .int p2]⟩ rfl rfl hl.1 rfl (lv_room (Nat.le_of_ble_eq_true rfl)) dX10_measure_12 ⟨Nat.zero_le _, Nat.zero_le _⟩) (fun H locs hw => ?_)
    refine lv_if_eq (pc := 15) (tgt := 27) hx hb dX10_measure_15 (by decide) (fun c5 => ?_) (fun c5 => ?_)
    · have hf := ipos c5 hf
      refine lv_bipush (pc := 27) (v := (-3)) hx hb dX10_measure_27 (by decide) ?_
      cases hf
      exact J29_1 _ _ _ hw (lv_sub hl [] rfl)
    · have hf := ineg c5 hf
      refine lv_aload_n (pc := 18) hx hb dX10_measure_18 rfl (lv_at hl 0 rfl) ?_
      refine lv_iload_n (pc := 19) hx hb dX10_measure_19 rfl (lv_at hl 1 rfl) ?_
      refine lv_iload_n (pc := 20) hx hb dX10_measure_20 rfl (lv_at hl 2 rfl) ?_
      obtain ⟨v6, hc, hf⟩ := b1_ob hf
      refine x_all (pc := 21) X hw (va_runV (As := [.int p1, .int p2]) (rest := []) ⟨hx, hb, hml, hown, hts⟩ (c_X10_measureOf l D cs a q S p1 p2 v6 hc _) (cwV 2 hts gX10_measure_X10_measureOf rfl rfl rfl (by decide +kernel) ⟨Nat.le_of_ble_eq_true rfl, Nat.le_of_ble_eq_true rfl⟩) ⟨CP_blind, va_recv hK hw.1 (ci := 10) (q0 := 0) rfl rfl, x_preA X hw [.ref a, .int p1, .int p2]⟩ rfl rfl hl.1 rfl (lv_room (Nat.le_of_ble_eq_true rfl)) dX10_measure_21 ⟨Nat.zero_le _, Nat.zero_le _⟩) (fun H locs hw => ?_)
      refine lv_goto (pc := 24) (tgt := 29) hx hb dX10_measure_24 (by decide) ?_
      cases hf
      exact J29_1 _ _ _ hw (lv_sub hl [] rfl)

theorem in_X10_sumOf_X10 : ∀ w ∈ wsX100, w ∈ wsX10_sumOf := fun _ h => List.mem_cons_of_mem _ (List.mem_append_right _ h)
abbrev rmX10_sumOf : Room := { frames := 1, cells := 0, slots := 0, locals := 24 }
def B_X10_sumOf_6 (S : PS) (p1 : Int32) (p2 : Int32) (p3 : Int32) (v1 : Int32) (v2 : Int32) : Option ((Int32 × Int32) ⊕ (Int32)) :=
  if ((1 : Int32) <<< ((S.1 14) &&& 31)) ≤ v2 then
    some (.inr v1)
  else
  b1 (
    if (v2 &&& p2) = p3 then
      b1 (f_X10_measureOf S p1 v2) fun v6 =>
      some v6
    else
    some (0 : Int32)) fun v4 =>
  bn (v1 + v4) fun v7 =>
  bn (v2 + 1) fun v8 =>
  some (.inl (v7, v8))
def L_X10_sumOf_6 (S : PS) (p1 : Int32) (p2 : Int32) (p3 : Int32) (n : Nat) (v1 : Int32) (v2 : Int32) : Option (Int32) := loopF (fun x : Int32 × Int32 => B_X10_sumOf_6 S p1 p2 p3 x.1 x.2) n (v1, v2)
def f_X10_sumOf (S : PS) (p1 : Int32) (p2 : Int32) (p3 : Int32) : Option (Int32) :=
  b1 (L_X10_sumOf_6 S p1 p2 p3 FU 0 0) fun v9 =>
  some v9
set_option maxHeartbeats 4000000 in
set_option maxRecDepth 100000 in
theorem c_X10_sumOf (l : Launch) (D : va_G) (cs : CS) (a : Nat) (q : Nat → Nat) (S : PS) (p1 : Int32) (p2 : Int32) (p3 : Int32) (r : Int32) (hf : f_X10_sumOf S p1 p2 p3 = some r) : CT l D (TY cs) yX10_sumOf wsX10_sumOf rmX10_sumOf [.ref a, .int p1, .int p2, .int p3] (wX10 cs a q S) (some (.int r)) (wX10 cs a q S) := by
  refine CT.ofW (own := RX10) (cc := cX10_sumOf) (maxL := 6) (ret := some .int) (by decide) rfl rfl (Nat.le_of_ble_eq_true rfl) ?_
  intro p e s m args below meth c A Q X hret ls hl hw
  obtain ⟨hx, hb, hml, hown, hts, hK, hA, hr, hlk⟩ := id X
  have hl : lv_has ls 6 [(0, .ref a), (1, .int p1), (2, .int p2), (3, .int p3)] := hl
  unfold f_X10_sumOf at hf
  refine lv_iconst (pc := 0) (v := 0) hx hb dX10_sumOf_0 (by decide) ?_
  refine lv_istore (lv' := [(4, .int 0), (0, .ref a), (1, .int p1), (2, .int p2), (3, .int p3)]) (pc := 1) hx hb dX10_sumOf_1 hl (by decide) rfl (fun ls hl => ?_)
  refine lv_iconst (pc := 3) (v := 0) hx hb dX10_sumOf_3 (by decide) ?_
  refine lv_istore (lv' := [(5, .int 0), (4, .int 0), (0, .ref a), (1, .int p1), (2, .int p2), (3, .int p3)]) (pc := 4) hx hb dX10_sumOf_4 hl (by decide) rfl (fun ls hl => ?_)
  have L6 : ∀ (n : Nat) (v1 : Int32) (v2 : Int32) (rv1 : Int32), L_X10_sumOf_6 S p1 p2 p3 n v1 v2 = some rv1 → ∀ (H : Heap) (locs : List Loc) (ls : Array Slot), WD D A s (wX10 cs a q S) H locs → lv_has ls 6 [(0, .ref a), (1, .int p1), (2, .int p2), (3, .int p3), (4, .int v1), (5, .int v2)] → (∀ (H : Heap) (locs : List Loc) (ls : Array Slot), WD D A s (wX10 cs a q S) H locs → lv_has ls 6 [(4, .int rv1)] → W p l e rmX10_sumOf s m args below meth c H locs 0 0 Q (F0 m 47 ls [])) → W p l e rmX10_sumOf s m args below meth c H locs 0 0 Q (F0 m 6 ls []) := by
    intro n
    induction n with
    | zero => intro v1 v2 rv1 hf; exact (loopF_z hf).elim
    | succ n ih =>
      intro v1 v2 rv1 hf H locs ls hw hl K
      obtain ⟨x, hf, hx0⟩ := loopF_ob hf
      have hf : B_X10_sumOf_6 S p1 p2 p3 v1 v2 = some x := hf
      unfold B_X10_sumOf_6 at hf
      refine lv_iload (pc := 6) hx hb dX10_sumOf_6 (lv_at hl 5 rfl) ?_
      refine lv_iconst (pc := 8) (v := 1) hx hb dX10_sumOf_8 (by decide) ?_
      refine lv_aload_n (pc := 9) hx hb dX10_sumOf_9 rfl (lv_at hl 0 rfl) ?_
      refine x_get (pc := 10) X hw in_X10_sumOf_X10 0 rfl rfl 14 (by decide) (List.mem_of_getElem? (i := 1) rfl) rfl dX10_sumOf_10 ?_
      refine lv_ishl (pc := 13) hx hb dX10_sumOf_13 ?_
      refine lv_icmp_ge (pc := 14) (tgt := 47) hx hb dX10_sumOf_14 (by decide) (fun c3 => ?_) (fun c3 => ?_)
      · have hf := ipos c3 hf
        cases hf
        cases (hx0 : v1 = rv1)
        exact K _ _ _ hw (lv_sub hl [4] rfl)
      · have hf := ineg c3 hf
        refine lv_iload (pc := 17) hx hb dX10_sumOf_17 (lv_at hl 4 rfl) ?_
        refine lv_iload (pc := 19) hx hb dX10_sumOf_19 (lv_at hl 5 rfl) ?_
        refine lv_iload_n (pc := 21) hx hb dX10_sumOf_21 rfl (lv_at hl 2 rfl) ?_
        refine lv_iand (pc := 22) hx hb dX10_sumOf_22 ?_
        refine lv_iload_n (pc := 23) hx hb dX10_sumOf_23 rfl (lv_at hl 3 rfl) ?_
        obtain ⟨v4, hj, hf⟩ := b1_ob hf
        have J38_3 : ∀ (H : Heap) (locs : List Loc) (ls : Array Slot), WD D A s (wX10 cs a q S) H locs → lv_has ls 6 [(0, .ref a), (1, .int p1), (2, .int p2), (3, .int p3), (5, .int v2)] → W p l e rmX10_sumOf s m args below meth c H locs 0 0 Q (F0 m 38 ls [.int v4, .int v1]) := by
          intro H locs ls hw hl
          refine lv_iadd (pc := 38) hx hb dX10_sumOf_38 ?_
          obtain ⟨v7, ev7, hf⟩ := bn_ob hf
          refine x_topi ev7 ?_
          refine lv_istore (lv' := [(4, .int v7), (0, .ref a), (1, .int p1), (2, .int p2), (3, .int p3), (5, .int v2)]) (pc := 39) hx hb dX10_sumOf_39 hl (by decide) rfl (fun ls hl => ?_)
          obtain ⟨v8, ev8, hf⟩ := bn_ob hf
          refine lv_iinc (pc := 41) (v := v8) (lv' := [(5, .int v8), (4, .int v7), (0, .ref a), (1, .int p1), (2, .int p2), (3, .int p3)]) hx hb dX10_sumOf_41 hl (k := 5) rfl (by rw [ev8]; rfl) (by decide) rfl (fun ls hl => ?_)
          refine lv_goto (pc := 44) (tgt := 6) hx hb dX10_sumOf_44 (by decide) ?_
          cases hf
          exact ih v7 v8 rv1 hx0 _ _ _ hw (lv_sub hl [2, 3, 4, 5, 1, 0] rfl) K
        clear hf; have hf := hj; clear hj
        refine lv_icmp_ne (pc := 24) (tgt := 37) hx hb dX10_sumOf_24 (by decide) (fun c5 => ?_) (fun c5 => ?_)
        · have hf := ineg c5 hf
          refine lv_iconst (pc := 37) (v := 0) hx hb dX10_sumOf_37 (by decide) ?_
          cases hf
          exact J38_3 _ _ _ hw (lv_sub hl [0, 1, 2, 3, 5] rfl)
        · have hf := ipos c5 hf
          refine lv_aload_n (pc := 27) hx hb dX10_sumOf_27 rfl (lv_at hl 0 rfl) ?_
          refine lv_iload_n (pc := 28) hx hb dX10_sumOf_28 rfl (lv_at hl 1 rfl) ?_
          refine lv_iload (pc := 29) hx hb dX10_sumOf_29 (lv_at hl 5 rfl) ?_
          obtain ⟨v6, hc, hf⟩ := b1_ob hf
          refine x_all (pc := 31) X hw (va_runV (As := [.int p1, .int v2]) (rest := [.int v1]) ⟨hx, hb, hml, hown, hts⟩ (c_X10_measureOf l D cs a q S p1 v2 v6 hc _) (cwV 2 hts gX10_sumOf_X10_measureOf rfl rfl rfl (by decide +kernel) ⟨Nat.le_of_ble_eq_true rfl, Nat.le_of_ble_eq_true rfl⟩) ⟨CP_blind, va_recv hK hw.1 (ci := 10) (q0 := 0) rfl rfl, x_preA X hw [.ref a, .int p1, .int v2]⟩ rfl rfl hl.1 rfl (lv_room (Nat.le_of_ble_eq_true rfl)) dX10_sumOf_31 ⟨Nat.zero_le _, Nat.zero_le _⟩) (fun H locs hw => ?_)
          refine lv_goto (pc := 34) (tgt := 38) hx hb dX10_sumOf_34 (by decide) ?_
          cases hf
          exact J38_3 _ _ _ hw (lv_sub hl [0, 1, 2, 3, 5] rfl)
  obtain ⟨v9, hj, hf⟩ := b1_ob hf
  refine L6 _ 0 0 v9 hj _ _ _ hw (lv_sub hl [2, 3, 4, 5, 1, 0] rfl) (fun H locs ls hw hl => ?_)
  clear hj L6
  refine lv_iload (pc := 47) hx hb dX10_sumOf_47 (lv_at hl 0 rfl) ?_
  cases hf
  exact hret _ _ 49 _ hw ⟨_, rfl, rfl⟩ dX10_sumOf_49
