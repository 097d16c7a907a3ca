abbrev rmX10_in : Room := { frames := 0, cells := 0, slots := 0, locals := 0 }
def f_X10_in (p1 : Int64) (p2 : Int64) (p3 : Int64) : Option (Int32) :=
  b1 (
    if (lg_cmp p1 p2) < 0 then
      some (0 : Int32)
    else
    if 0 < (lg_cmp p1 p3) then
      some (0 : Int32)
    else
    some (1 : Int32)) fun v1 =>
  b1 (ckB v1) fun v4 =>
  some v4
set_option maxHeartbeats 4000000 in
set_option maxRecDepth 100000 in
theorem c_X10_in (l : Launch) (D : va_G) (cs : CS) (p1 : Int64) (p2 : Int64) (p3 : Int64) (r : Int32) (hf : f_X10_in p1 p2 p3 = some r) : CT l D (TY cs) yX10_in wsX10_in rmX10_in [.long p1, .long p2, .long p3] ([]) (some (.int r)) ([]) := by
  refine CT.ofW (own := RX10) (cc := cX10_in) (maxL := 6) (ret := some .boolean) (by decide) rfl rfl (Nat.le_of_ble_eq_true rfl) ?_
  intro p e s m args below meth c A Q X hret ls hl hw
  obtain ⟨hx, hb, hml, hown, hts, hK, hA, hr, hlk⟩ := id X
  have hl : lv_has ls 6 [(0, .long p1), (2, .long p2), (4, .long p3)] := hl
  unfold f_X10_in at hf
  refine lv_lload_n (pc := 0) hx hb dX10_in_0 rfl (lv_at hl 0 rfl) ?_
  refine lv_lload_n (pc := 1) hx hb dX10_in_1 rfl (lv_at hl 1 rfl) ?_
  refine W.lcmp (pc := 2) hx hb dX10_in_2 ?_
  obtain ⟨v1, hj, hf⟩ := b1_ob hf
  have J18_0 : ∀ (H : Heap) (locs : List Loc) (ls : Array Slot), WD D A s ([]) H locs → lv_has ls 6 [] → W p l e rmX10_in s m args below meth c H locs 0 0 Q (F0 m 18 ls [.int v1]) := by
    intro H locs ls hw hl
    obtain ⟨v4, ev4, hf⟩ := b1_ob hf
    refine x_topi (ckB_ob ev4).1.symm ?_
    cases hf
    exact hret _ _ 18 _ hw ⟨_, rfl, ckB_nar (ckB_ob ev4).2⟩ dX10_in_18
  clear hf; have hf := hj; clear hj
  refine lv_if_lt (pc := 3) (tgt := 17) hx hb dX10_in_3 (by decide) (fun c2 => ?_) (fun c2 => ?_)
  · have hf := ipos c2 hf
    refine lv_iconst (pc := 17) (v := 0) hx hb dX10_in_17 (by decide) ?_
    cases hf
    exact J18_0 _ _ _ hw (lv_sub hl [] rfl)
  · have hf := ineg c2 hf
    refine lv_lload_n (pc := 6) hx hb dX10_in_6 rfl (lv_at hl 0 rfl) ?_
    refine lv_lload (pc := 7) hx hb dX10_in_7 (lv_at hl 2 rfl) ?_
    refine W.lcmp (pc := 9) hx hb dX10_in_9 ?_
    refine lv_if_gt (pc := 10) (tgt := 17) hx hb dX10_in_10 (by decide) (fun c3 => ?_) (fun c3 => ?_)
    · have hf := ipos c3 hf
      refine lv_iconst (pc := 17) (v := 0) hx hb dX10_in_17 (by decide) ?_
      cases hf
      exact J18_0 _ _ _ hw (lv_sub hl [] rfl)
    · have hf := ineg c3 hf
      refine lv_iconst (pc := 13) (v := 1) hx hb dX10_in_13 (by decide) ?_
      refine lv_goto (pc := 14) (tgt := 18) hx hb dX10_in_14 (by decide) ?_
      cases hf
      exact J18_0 _ _ _ hw (lv_sub hl [] rfl)

abbrev rmX10_divisor : Room := { frames := 0, cells := 0, slots := 0, locals := 0 }
def B_X10_divisor_6 (v1 : Int64) (v2 : Int64) : Option ((Int64 × Int64) ⊕ (Int64)) :=
  if (lg_cmp v2 0) = 0 then
    some (.inr v1)
  else
  b1 (rmL v1 v2) fun v4 =>
  some (.inl (v2, v4))
def L_X10_divisor_6 (n : Nat) (v1 : Int64) (v2 : Int64) : Option (Int64) := loopF (fun x : Int64 × Int64 => B_X10_divisor_6 x.1 x.2) n (v1, v2)
def f_X10_divisor (p1 : Int64) (p2 : Int64) : Option (Int64) :=
  b1 (L_X10_divisor_6 FU p1 p2) fun v5 =>
  some v5
set_option maxHeartbeats 4000000 in
set_option maxRecDepth 100000 in
theorem c_X10_divisor (l : Launch) (D : va_G) (cs : CS) (p1 : Int64) (p2 : Int64) (r : Int64) (hf : f_X10_divisor p1 p2 = some r) : CT l D (TY cs) yX10_divisor wsX10_divisor rmX10_divisor [.long p1, .long p2] ([]) (some (.long r)) ([]) := by
  refine CT.ofW (own := RX10) (cc := cX10_divisor) (maxL := 10) (ret := some .long) (by decide) rfl rfl (Nat.le_of_ble_eq_true rfl) ?_
  intro p e s m args below meth c A Q X hret ls hl hw
  obtain ⟨hx, hb, hml, hown, hts, hK, hA, hr, hlk⟩ := id X
  have hl : lv_has ls 10 [(0, .long p1), (2, .long p2)] := hl
  unfold f_X10_divisor at hf
  refine lv_lload_n (pc := 0) hx hb dX10_divisor_0 rfl (lv_at hl 0 rfl) ?_
  refine lv_lstore (lv' := [(4, .long p1), (0, .long p1), (2, .long p2)]) (pc := 1) hx hb dX10_divisor_1 hl (by decide) rfl (fun ls hl => ?_)
  refine lv_lload_n (pc := 3) hx hb dX10_divisor_3 rfl (lv_at hl 2 rfl) ?_
  refine lv_lstore (lv' := [(6, .long p2), (4, .long p1), (0, .long p1), (2, .long p2)]) (pc := 4) hx hb dX10_divisor_4 hl (by decide) rfl (fun ls hl => ?_)
  have L6 : ∀ (n : Nat) (v1 : Int64) (v2 : Int64) (rv1 : Int64), L_X10_divisor_6 n v1 v2 = some rv1 → ∀ (H : Heap) (locs : List Loc) (ls : Array Slot), WD D A s ([]) H locs → lv_has ls 10 [(4, .long v1), (6, .long v2)] → (∀ (H : Heap) (locs : List Loc) (ls : Array Slot), WD D A s ([]) H locs → lv_has ls 10 [(4, .long rv1)] → W p l e rmX10_divisor s m args below meth c H locs 0 0 Q (F0 m 31 ls [])) → W p l e rmX10_divisor s m args below meth c H locs 0 0 Q (F0 m 6 ls []) := by
    intro n
    induction n with
    | zero => intro v1 v2 rv1 hf; exact (loopF_z hf).elim
    | succ n ih =>
      intro v1 v2 rv1 hf H locs ls hw hl K
      obtain ⟨x, hf, hx0⟩ := loopF_ob hf
      have hf : B_X10_divisor_6 v1 v2 = some x := hf
      unfold B_X10_divisor_6 at hf
      refine lv_lload (pc := 6) hx hb dX10_divisor_6 (lv_at hl 1 rfl) ?_
      refine lv_lconst (pc := 8) (v := 0) hx hb dX10_divisor_8 (by decide) ?_
      refine W.lcmp (pc := 9) hx hb dX10_divisor_9 ?_
      refine lv_if_eq (pc := 10) (tgt := 31) hx hb dX10_divisor_10 (by decide) (fun c3 => ?_) (fun c3 => ?_)
      · have hf := ipos c3 hf
        cases hf
        cases (hx0 : v1 = rv1)
        exact K _ _ _ hw (lv_sub hl [0] rfl)
      · have hf := ineg c3 hf
        refine lv_lload (pc := 13) hx hb dX10_divisor_13 (lv_at hl 0 rfl) ?_
        refine lv_lload (pc := 15) hx hb dX10_divisor_15 (lv_at hl 1 rfl) ?_
        obtain ⟨v4, ev4, hf⟩ := b1_ob hf
        refine lv_lrem (pc := 17) hx hb dX10_divisor_17 (rmL_ob ev4).1 ?_
        refine x_topl (rmL_ob ev4).2.symm ?_
        refine lv_lstore (lv' := [(8, .long v4), (4, .long v1), (6, .long v2)]) (pc := 18) hx hb dX10_divisor_18 hl (by decide) rfl (fun ls hl => ?_)
        refine lv_lload (pc := 20) hx hb dX10_divisor_20 (lv_at hl 2 rfl) ?_
        refine lv_lstore (lv' := [(4, .long v2), (8, .long v4), (6, .long v2)]) (pc := 22) hx hb dX10_divisor_22 hl (by decide) rfl (fun ls hl => ?_)
        refine lv_lload (pc := 24) hx hb dX10_divisor_24 (lv_at hl 1 rfl) ?_
        refine lv_lstore (lv' := [(6, .long v4), (4, .long v2), (8, .long v4)]) (pc := 26) hx hb dX10_divisor_26 hl (by decide) rfl (fun ls hl => ?_)
        refine lv_goto (pc := 28) (tgt := 6) hx hb dX10_divisor_28 (by decide) ?_
        cases hf
        exact ih v2 v4 rv1 hx0 _ _ _ hw (lv_sub hl [1, 0] rfl) K
  obtain ⟨v5, hj, hf⟩ := b1_ob hf
  refine L6 _ p1 p2 v5 hj _ _ _ hw (lv_sub hl [1, 0] rfl) (fun H locs ls hw hl => ?_)
  clear hj L6
  refine lv_lload (pc := 31) hx hb dX10_divisor_31 (lv_at hl 0 rfl) ?_
  cases hf
  exact hret _ _ 33 _ hw rfl dX10_divisor_33

abbrev rmX10_partOf : Room := { frames := 1, cells := 0, slots := 0, locals := 29 }
def f_X10_partOf (p1 : Int64) (p2 : Int64) (p3 : Int32) : Option (Int32) :=
  b1 (f_X10_divisor p1 p2) fun v1 =>
  b1 (
    if p3 = 0 then
      b1 (dvL p1 v1) fun v5 =>
      some v5
    else
    b1 (dvL p2 v1) fun v4 =>
    some v4) fun v2 =>
  some (v2.toInt32)
set_option maxHeartbeats 4000000 in
set_option maxRecDepth 100000 in
theorem c_X10_partOf (l : Launch) (D : va_G) (cs : CS) (p1 : Int64) (p2 : Int64) (p3 : Int32) (r : Int32) (hf : f_X10_partOf p1 p2 p3 = some r) : CT l D (TY cs) yX10_partOf wsX10_partOf rmX10_partOf [.long p1, .long p2, .int p3] ([]) (some (.int r)) ([]) := by
  refine CT.ofW (own := RX10) (cc := cX10_partOf) (maxL := 7) (ret := some .int) (by decide) rfl rfl (Nat.le_of_ble_eq_true rfl) ?_
  intro p e s m args below meth c A Q X hret ls hl hw
  obtain ⟨hx, hb, hml, hown, hts, hK, hA, hr, hlk⟩ := id X
  have hl : lv_has ls 7 [(0, .long p1), (2, .long p2), (4, .int p3)] := hl
  unfold f_X10_partOf at hf
  refine lv_lload_n (pc := 0) hx hb dX10_partOf_0 rfl (lv_at hl 0 rfl) ?_
  refine lv_lload_n (pc := 1) hx hb dX10_partOf_1 rfl (lv_at hl 1 rfl) ?_
  obtain ⟨v1, hc, hf⟩ := b1_ob hf
  refine x_nil (pc := 2) X hw (va_runS (As := [.long p1, .long p2]) (rest := []) ⟨hx, hb, hml, hown, hts⟩ (c_X10_divisor l D cs p1 p2 v1 hc _) (va_cwS 2 hts gX10_partOf_X10_divisor rfl rfl rfl (by decide +kernel) ⟨Nat.le_of_ble_eq_true rfl, Nat.le_of_ble_eq_true rfl⟩) ⟨CP_blind, x_preN X [.long p1, .long p2]⟩ rfl rfl hl.1 rfl (lv_room (Nat.le_of_ble_eq_true rfl)) dX10_partOf_2 ⟨Nat.zero_le _, Nat.zero_le _⟩) (fun H locs hw => ?_)
  refine lv_lstore (lv' := [(5, .long v1), (0, .long p1), (2, .long p2), (4, .int p3)]) (pc := 5) hx hb dX10_partOf_5 hl (by decide) rfl (fun ls hl => ?_)
  refine lv_iload (pc := 7) hx hb dX10_partOf_7 (lv_at hl 3 rfl) ?_
  obtain ⟨v2, hj, hf⟩ := b1_ob hf
  have J23_1 : ∀ (H : Heap) (locs : List Loc) (ls : Array Slot), WD D A s ([]) H locs → lv_has ls 7 [] → W p l e rmX10_partOf s m args below meth c H locs 0 0 Q (F0 m 23 ls [.long v2]) := by
    intro H locs ls hw hl
    refine lv_l2i (pc := 23) hx hb dX10_partOf_23 rfl ?_
    cases hf
    exact hret _ _ 24 _ hw ⟨_, rfl, rfl⟩ dX10_partOf_24
  clear hf; have hf := hj; clear hj
  refine lv_if_ne (pc := 9) (tgt := 19) hx hb dX10_partOf_9 (by decide) (fun c3 => ?_) (fun c3 => ?_)
  · have hf := ineg c3 hf
    refine lv_lload_n (pc := 19) hx hb dX10_partOf_19 rfl (lv_at hl 2 rfl) ?_
    refine lv_lload (pc := 20) hx hb dX10_partOf_20 (lv_at hl 0 rfl) ?_
    obtain ⟨v4, ev4, hf⟩ := b1_ob hf
    refine lv_ldiv (pc := 22) hx hb dX10_partOf_22 (dvL_ob ev4).1 ?_
    refine x_topl (dvL_ob ev4).2.symm ?_
    cases hf
    exact J23_1 _ _ _ hw (lv_sub hl [] rfl)
  · have hf := ipos c3 hf
    refine lv_lload_n (pc := 12) hx hb dX10_partOf_12 rfl (lv_at hl 1 rfl) ?_
    refine lv_lload (pc := 13) hx hb dX10_partOf_13 (lv_at hl 0 rfl) ?_
    obtain ⟨v5, ev5, hf⟩ := b1_ob hf
    refine lv_ldiv (pc := 15) hx hb dX10_partOf_15 (dvL_ob ev5).1 ?_
    refine x_topl (dvL_ob ev5).2.symm ?_
    refine lv_goto (pc := 16) (tgt := 23) hx hb dX10_partOf_16 (by decide) ?_
    cases hf
    exact J23_1 _ _ _ hw (lv_sub hl [] rfl)

abbrev rmX10_bits : Room := { frames := 0, cells := 0, slots := 0, locals := 0 }
def B_X10_bits_4 (p1 : Int32) (v1 : Int32) (v2 : Int32) : Option ((Int32 × Int32) ⊕ (Int32)) :=
  if 32 ≤ v2 then
    some (.inr v1)
  else
  bn (v1 + ((p1 >>> (v2 &&& 31)) &&& 1)) fun v4 =>
  bn (v2 + 1) fun v5 =>
  some (.inl (v4, v5))
def L_X10_bits_4 (p1 : Int32) (n : Nat) (v1 : Int32) (v2 : Int32) : Option (Int32) := loopF (fun x : Int32 × Int32 => B_X10_bits_4 p1 x.1 x.2) n (v1, v2)
def f_X10_bits (p1 : Int32) : Option (Int32) :=
  b1 (L_X10_bits_4 p1 FU 0 0) fun v6 =>
  some v6
set_option maxHeartbeats 4000000 in
set_option maxRecDepth 100000 in
theorem c_X10_bits (l : Launch) (D : va_G) (cs : CS) (p1 : Int32) (r : Int32) (hf : f_X10_bits p1 = some r) : CT l D (TY cs) yX10_bits wsX10_bits rmX10_bits [.int p1] ([]) (some (.int r)) ([]) := by
  refine CT.ofW (own := RX10) (cc := cX10_bits) (maxL := 3) (ret := some .int) (by decide) rfl rfl (Nat.le_of_ble_eq_true rfl) ?_
  intro p e s m args below meth c A Q X hret ls hl hw
  obtain ⟨hx, hb, hml, hown, hts, hK, hA, hr, hlk⟩ := id X
  have hl : lv_has ls 3 [(0, .int p1)] := hl
  unfold f_X10_bits at hf
  refine lv_iconst (pc := 0) (v := 0) hx hb dX10_bits_0 (by decide) ?_
  refine lv_istore_n (lv' := [(1, .int 0), (0, .int p1)]) (pc := 1) hx hb dX10_bits_1 rfl hl (by decide) rfl (fun ls hl => ?_)
  refine lv_iconst (pc := 2) (v := 0) hx hb dX10_bits_2 (by decide) ?_
  refine lv_istore_n (lv' := [(2, .int 0), (1, .int 0), (0, .int p1)]) (pc := 3) hx hb dX10_bits_3 rfl hl (by decide) rfl (fun ls hl => ?_)
  have L4 : ∀ (n : Nat) (v1 : Int32) (v2 : Int32) (rv1 : Int32), L_X10_bits_4 p1 n v1 v2 = some rv1 → ∀ (H : Heap) (locs : List Loc) (ls : Array Slot), WD D A s ([]) H locs → lv_has ls 3 [(0, .int p1), (1, .int v1), (2, .int v2)] → (∀ (H : Heap) (locs : List Loc) (ls : Array Slot), WD D A s ([]) H locs → lv_has ls 3 [(1, .int rv1)] → W p l e rmX10_bits s m args below meth c H locs 0 0 Q (F0 m 24 ls [])) → W p l e rmX10_bits s m args below meth c H locs 0 0 Q (F0 m 4 ls []) := by
    intro n
    induction n with
    | zero => intro v1 v2 rv1 hf; exact (loopF_z hf).elim
    | succ n ih =>
      intro v1 v2 rv1 hf H locs ls hw hl K
      obtain ⟨x, hf, hx0⟩ := loopF_ob hf
      have hf : B_X10_bits_4 p1 v1 v2 = some x := hf
      unfold B_X10_bits_4 at hf
      refine lv_iload_n (pc := 4) hx hb dX10_bits_4 rfl (lv_at hl 2 rfl) ?_
      refine lv_bipush (pc := 5) (v := 32) hx hb dX10_bits_5 (by decide) ?_
      refine lv_icmp_ge (pc := 7) (tgt := 24) hx hb dX10_bits_7 (by decide) (fun c3 => ?_) (fun c3 => ?_)
      · have hf := ipos c3 hf
        cases hf
        cases (hx0 : v1 = rv1)
        exact K _ _ _ hw (lv_sub hl [1] rfl)
      · have hf := ineg c3 hf
        refine lv_iload_n (pc := 10) hx hb dX10_bits_10 rfl (lv_at hl 1 rfl) ?_
        refine lv_iload_n (pc := 11) hx hb dX10_bits_11 rfl (lv_at hl 0 rfl) ?_
        refine lv_iload_n (pc := 12) hx hb dX10_bits_12 rfl (lv_at hl 2 rfl) ?_
        refine lv_ishr (pc := 13) hx hb dX10_bits_13 ?_
        refine lv_iconst (pc := 14) (v := 1) hx hb dX10_bits_14 (by decide) ?_
        refine lv_iand (pc := 15) hx hb dX10_bits_15 ?_
        refine lv_iadd (pc := 16) hx hb dX10_bits_16 ?_
        obtain ⟨v4, ev4, hf⟩ := bn_ob hf
        refine x_topi ev4 ?_
        refine lv_istore_n (lv' := [(1, .int v4), (0, .int p1), (2, .int v2)]) (pc := 17) hx hb dX10_bits_17 rfl hl (by decide) rfl (fun ls hl => ?_)
        obtain ⟨v5, ev5, hf⟩ := bn_ob hf
        refine lv_iinc (pc := 18) (v := v5) (lv' := [(2, .int v5), (1, .int v4), (0, .int p1)]) hx hb dX10_bits_18 hl (k := 2) rfl (by rw [ev5]; rfl) (by decide) rfl (fun ls hl => ?_)
        refine lv_goto (pc := 21) (tgt := 4) hx hb dX10_bits_21 (by decide) ?_
        cases hf
        exact ih v4 v5 rv1 hx0 _ _ _ hw (lv_sub hl [2, 1, 0] rfl) K
  obtain ⟨v6, hj, hf⟩ := b1_ob hf
  refine L4 _ 0 0 v6 hj _ _ _ hw (lv_sub hl [2, 1, 0] rfl) (fun H locs ls hw hl => ?_)
  clear hj L4
  refine lv_iload_n (pc := 24) hx hb dX10_bits_24 rfl (lv_at hl 0 rfl) ?_
  cases hf
  exact hret _ _ 25 _ hw ⟨_, rfl, rfl⟩ dX10_bits_25

theorem in_X10_write_X10 : ∀ w ∈ wsX100, w ∈ wsX10_write := fun _ h => List.mem_cons_of_mem _ (List.mem_append_right _ h)
abbrev rmX10_write : Room := { frames := 1, cells := 0, slots := 0, locals := 25 }
def B_X10_write_33 (p1 : Int64) (p2 : Int32) (v4 : Int32) (S5 : PS) : Option ((Int32 × PS) ⊕ (PS)) :=
  if p2 ≤ v4 then
    some (.inr S5)
  else
  b1 (wA 200 S5 0 (S5.1 1) (((p1 >>> ((8 * v4).toInt64 &&& 63)) &&& (255)).toInt32)) fun S7 =>
  bn (sI S7 1 ((S7.1 1) + 1)) fun S8 =>
  bn (v4 + 1) fun v9 =>
  some (.inl (v9, S8))
def L_X10_write_33 (p1 : Int64) (p2 : Int32) (n : Nat) (v4 : Int32) (S5 : PS) : Option (PS) := loopF (fun x : Int32 × PS => B_X10_write_33 p1 p2 x.1 x.2) n (v4, S5)
def f_X10_write (S : PS) (p1 : Int64) (p2 : Int32) : Option (Int32 × PS) :=
  b1 (f_X10_in (p2.toInt64) 1 (8)) fun v1 =>
  if v1 = 0 then
    some ((-3), S)
  else
  if ((S.1 1) + p2) ≤ 200 then
    b1 (L_X10_write_33 p1 p2 FU 0 S) fun S10 =>
    some ((S10.1 1), S10)
  else
  some ((-5), S)
set_option maxHeartbeats 4000000 in
set_option maxRecDepth 100000 in
theorem c_X10_write (l : Launch) (D : va_G) (cs : CS) (a : Nat) (q : Nat → Nat) (S : PS) (p1 : Int64) (p2 : Int32) (r : Int32) (S' : PS) (hf : f_X10_write S p1 p2 = some (r, S')) : CT l D (TY cs) yX10_write wsX10_write rmX10_write [.ref a, .long p1, .int p2] (wX10 cs a q S) (some (.int r)) (wX10 cs a q S') := by
  refine CT.ofW (own := RX10) (cc := cX10_write) (maxL := 5) (ret := some .int) (by decide) rfl rfl (Nat.le_of_ble_eq_true rfl) ?_
  intro p e s m args below meth c A Q X hret ls hl hw
  obtain ⟨hx, hb, hml, hown, hts, hK, hA, hr, hlk⟩ := id X
  have hl : lv_has ls 5 [(0, .ref a), (1, .long p1), (3, .int p2)] := hl
  unfold f_X10_write at hf
  refine lv_iload_n (pc := 0) hx hb dX10_write_0 rfl (lv_at hl 2 rfl) ?_
  refine lv_i2l (pc := 1) hx hb dX10_write_1 rfl ?_
  refine lv_lconst (pc := 2) (v := 1) hx hb dX10_write_2 (by decide) ?_
  refine lv_ldc2 (pc := 3) (v := (8)) hx hb hown (hts _ (List.mem_of_getElem? (i := 1) rfl)) dX10_write_3 ?_
  obtain ⟨v1, hc, hf⟩ := b1_ob hf
  refine x_nil (pc := 6) X hw (va_runS (As := [.long (p2.toInt64), .long 1, .long (8)]) (rest := []) ⟨hx, hb, hml, hown, hts⟩ (c_X10_in l D cs (p2.toInt64) 1 (8) v1 hc _) (va_cwS 3 hts gX10_write_X10_in rfl rfl rfl (by decide +kernel) ⟨Nat.le_of_ble_eq_true rfl, Nat.le_of_ble_eq_true rfl⟩) ⟨CP_blind, x_preN X [.long (p2.toInt64), .long 1, .long (8)]⟩ rfl rfl hl.1 rfl (lv_room (Nat.le_of_ble_eq_true rfl)) dX10_write_6 ⟨Nat.zero_le _, Nat.zero_le _⟩) (fun H locs hw => ?_)
  refine lv_if_ne (pc := 9) (tgt := 15) hx hb dX10_write_9 (by decide) (fun c2 => ?_) (fun c2 => ?_)
  · have hf := ineg c2 hf
    refine lv_aload_n (pc := 15) hx hb dX10_write_15 rfl (lv_at hl 0 rfl) ?_
    refine x_get (pc := 16) X hw in_X10_write_X10 0 rfl rfl 1 (by decide) (List.mem_of_getElem? (i := 2) rfl) rfl dX10_write_16 ?_
    refine lv_iload_n (pc := 19) hx hb dX10_write_19 rfl (lv_at hl 2 rfl) ?_
    refine lv_iadd (pc := 20) hx hb dX10_write_20 ?_
    refine lv_sipush (pc := 21) (v := 200) hx hb dX10_write_21 (by decide) ?_
    refine lv_icmp_le (pc := 24) (tgt := 30) hx hb dX10_write_24 (by decide) (fun c3 => ?_) (fun c3 => ?_)
    · have hf := ipos c3 hf
      refine lv_iconst (pc := 30) (v := 0) hx hb dX10_write_30 (by decide) ?_
      refine lv_istore (lv' := [(4, .int 0), (0, .ref a), (1, .long p1), (3, .int p2)]) (pc := 31) hx hb dX10_write_31 hl (by decide) rfl (fun ls hl => ?_)
      have L33 : ∀ (n : Nat) (v4 : Int32) (S5 : PS) (rS5 : PS), L_X10_write_33 p1 p2 n v4 S5 = some rS5 → ∀ (H : Heap) (locs : List Loc) (ls : Array Slot), WD D A s (wX10 cs a q S5) H locs → lv_has ls 5 [(0, .ref a), (1, .long p1), (3, .int p2), (4, .int v4)] → (∀ (H : Heap) (locs : List Loc) (ls : Array Slot), WD D A s (wX10 cs a q rS5) H locs → lv_has ls 5 [(0, .ref a)] → W p l e rmX10_write s m args below meth c H locs 0 0 Q (F0 m 76 ls [])) → W p l e rmX10_write s m args below meth c H locs 0 0 Q (F0 m 33 ls []) := by
        intro n
        induction n with
        | zero => intro v4 S5 rS5 hf; exact (loopF_z hf).elim
        | succ n ih =>
          intro v4 S5 rS5 hf H locs ls hw hl K
          obtain ⟨x, hf, hx0⟩ := loopF_ob hf
          have hf : B_X10_write_33 p1 p2 v4 S5 = some x := hf
          unfold B_X10_write_33 at hf
          refine lv_iload (pc := 33) hx hb dX10_write_33 (lv_at hl 3 rfl) ?_
          refine lv_iload_n (pc := 35) hx hb dX10_write_35 rfl (lv_at hl 2 rfl) ?_
          refine lv_icmp_ge (pc := 36) (tgt := 76) hx hb dX10_write_36 (by decide) (fun c6 => ?_) (fun c6 => ?_)
          · have hf := ipos c6 hf
            cases hf
            cases (hx0 : S5 = rS5)
            exact K _ _ _ hw (lv_sub hl [0] rfl)
          · have hf := ineg c6 hf
            refine lv_aload_n (pc := 39) hx hb dX10_write_39 rfl (lv_at hl 0 rfl) ?_
            refine x_get (pc := 40) X hw in_X10_write_X10 0 rfl rfl 0 (by decide) (List.mem_of_getElem? (i := 3) rfl) rfl dX10_write_40 ?_
            refine lv_aload_n (pc := 43) hx hb dX10_write_43 rfl (lv_at hl 0 rfl) ?_
            refine x_get (pc := 44) X hw in_X10_write_X10 0 rfl rfl 1 (by decide) (List.mem_of_getElem? (i := 2) rfl) rfl dX10_write_44 ?_
            refine lv_lload_n (pc := 47) hx hb dX10_write_47 rfl (lv_at hl 1 rfl) ?_
            refine lv_bipush (pc := 48) (v := 8) hx hb dX10_write_48 (by decide) ?_
            refine lv_iload (pc := 50) hx hb dX10_write_50 (lv_at hl 3 rfl) ?_
            refine lv_imul (pc := 52) hx hb dX10_write_52 ?_
            refine lv_lshr (pc := 53) hx hb dX10_write_53 rfl ?_
            refine lv_ldc2 (pc := 54) (v := (255)) hx hb hown (hts _ (List.mem_of_getElem? (i := 4) rfl)) dX10_write_54 ?_
            refine lv_land (pc := 57) hx hb dX10_write_57 ?_
            refine lv_l2i (pc := 58) hx hb dX10_write_58 rfl ?_
            obtain ⟨S7, eS7, hf⟩ := b1_ob hf
            refine x_iast (pc := 59) X hw 1 0 rfl rfl (wA_ob eS7).1 dX10_write_59 (ws2 := wX10 cs a q S7) (by rw [(wA_ob eS7).2]; rfl) (fun H locs hw => ?_)
            refine lv_aload_n (pc := 60) hx hb dX10_write_60 rfl (lv_at hl 0 rfl) ?_
            refine lv_dup (pc := 61) hx hb dX10_write_61 rfl ?_
            refine x_get (pc := 62) X hw in_X10_write_X10 0 rfl rfl 1 (by decide) (List.mem_of_getElem? (i := 2) rfl) rfl dX10_write_62 ?_
            refine lv_iconst (pc := 65) (v := 1) hx hb dX10_write_65 (by decide) ?_
            refine lv_iadd (pc := 66) hx hb dX10_write_66 ?_
            obtain ⟨S8, eS8, hf⟩ := bn_ob hf
            refine x_put (pc := 67) X hw in_X10_write_X10 tyX10 tyX10_ok nmX10 0 rfl rfl 1 (by decide) (List.mem_of_getElem? (i := 2) rfl) rfl rfl rfl (Nat.le_of_ble_eq_true rfl) dX10_write_67 (ws2 := wX10 cs a q S8) (by rw [eS8]; rfl) (fun H locs hw => ?_)
            obtain ⟨v9, ev9, hf⟩ := bn_ob hf
            refine lv_iinc (pc := 70) (v := v9) (lv' := [(4, .int v9), (0, .ref a), (1, .long p1), (3, .int p2)]) hx hb dX10_write_70 hl (k := 3) rfl (by rw [ev9]; rfl) (by decide) rfl (fun ls hl => ?_)
            refine lv_goto (pc := 73) (tgt := 33) hx hb dX10_write_73 (by decide) ?_
            cases hf
            exact ih v9 S8 rS5 hx0 _ _ _ hw (lv_sub hl [1, 2, 3, 0] rfl) K
      obtain ⟨S10, hj, hf⟩ := b1_ob hf
      refine L33 _ 0 S S10 hj _ _ _ hw (lv_sub hl [1, 2, 3, 0] rfl) (fun H locs ls hw hl => ?_)
      clear hj L33
      refine lv_aload_n (pc := 76) hx hb dX10_write_76 rfl (lv_at hl 0 rfl) ?_
      refine x_get (pc := 77) X hw in_X10_write_X10 0 rfl rfl 1 (by decide) (List.mem_of_getElem? (i := 2) rfl) rfl dX10_write_77 ?_
      cases hf
      exact hret _ _ 80 _ hw ⟨_, rfl, rfl⟩ dX10_write_80
    · have hf := ineg c3 hf
      refine lv_bipush (pc := 27) (v := (-5)) hx hb dX10_write_27 (by decide) ?_
      cases hf
      exact hret _ _ 29 _ hw ⟨_, rfl, rfl⟩ dX10_write_29
  · have hf := ipos c2 hf
    refine lv_bipush (pc := 12) (v := (-3)) hx hb dX10_write_12 (by decide) ?_
    cases hf
    exact hret _ _ 14 _ hw ⟨_, rfl, rfl⟩ dX10_write_14

theorem in_X10_erase_X10 : ∀ w ∈ wsX100, w ∈ wsX10_erase := fun _ h => List.mem_cons_of_mem _ (List.mem_append_right _ h)
abbrev rmX10_erase : Room := { frames := 0, cells := 0, slots := 0, locals := 0 }
def f_X10_erase (S : PS) : Option (Int32 × PS) :=
  bn (S.1 1) fun v1 =>
  bn (sI S 1 0) fun S2 =>
  some (v1, S2)
set_option maxHeartbeats 4000000 in
set_option maxRecDepth 100000 in
theorem c_X10_erase (l : Launch) (D : va_G) (cs : CS) (a : Nat) (q : Nat → Nat) (S : PS) (r : Int32) (S' : PS) (hf : f_X10_erase S = some (r, S')) : CT l D (TY cs) yX10_erase wsX10_erase rmX10_erase [.ref a] (wX10 cs a q S) (some (.int r)) (wX10 cs a q S') := by
  refine CT.ofW (own := RX10) (cc := cX10_erase) (maxL := 2) (ret := some .int) (by decide) rfl rfl (Nat.le_of_ble_eq_true rfl) ?_
  intro p e s m args below meth c A Q X hret ls hl hw
  obtain ⟨hx, hb, hml, hown, hts, hK, hA, hr, hlk⟩ := id X
  have hl : lv_has ls 2 [(0, .ref a)] := hl
  unfold f_X10_erase at hf
  refine lv_aload_n (pc := 0) hx hb dX10_erase_0 rfl (lv_at hl 0 rfl) ?_
  refine x_get (pc := 1) X hw in_X10_erase_X10 0 rfl rfl 1 (by decide) (List.mem_of_getElem? (i := 1) rfl) rfl dX10_erase_1 ?_
  obtain ⟨v1, ev1, hf⟩ := bn_ob hf
  refine x_topi ev1 ?_
  refine lv_istore_n (lv' := [(1, .int v1), (0, .ref a)]) (pc := 4) hx hb dX10_erase_4 rfl hl (by decide) rfl (fun ls hl => ?_)
  refine lv_aload_n (pc := 5) hx hb dX10_erase_5 rfl (lv_at hl 1 rfl) ?_
  refine lv_iconst (pc := 6) (v := 0) hx hb dX10_erase_6 (by decide) ?_
  obtain ⟨S2, eS2, hf⟩ := bn_ob hf
  refine x_put (pc := 7) X hw in_X10_erase_X10 tyX10 tyX10_ok nmX10 0 rfl rfl 1 (by decide) (List.mem_of_getElem? (i := 1) rfl) rfl rfl rfl (Nat.le_of_ble_eq_true rfl) dX10_erase_7 (ws2 := wX10 cs a q S2) (by rw [eS2]; rfl) (fun H locs hw => ?_)
  refine lv_iload_n (pc := 10) hx hb dX10_erase_10 rfl (lv_at hl 0 rfl) ?_
  cases hf
  exact hret _ _ 11 _ hw ⟨_, rfl, rfl⟩ dX10_erase_11

abbrev rmX10_sort : Room := { frames := 0, cells := 0, slots := 0, locals := 0 }
def f_X10_sort (p1 : Int32) : Option (Int32) :=
  b1 (
    if p1 < 97 then
      if p1 < 48 then
        some (0 : Int32)
      else
      if 57 < p1 then
        some (0 : Int32)
      else
      some (2 : Int32)
    else
    if 122 < p1 then
      if p1 < 48 then
        some (0 : Int32)
      else
      if 57 < p1 then
        some (0 : Int32)
      else
      some (2 : Int32)
    else
    some (1 : Int32)) fun v1 =>
  some v1
set_option maxHeartbeats 4000000 in
set_option maxRecDepth 100000 in
theorem c_X10_sort (l : Launch) (D : va_G) (cs : CS) (p1 : Int32) (r : Int32) (hf : f_X10_sort p1 = some r) : CT l D (TY cs) yX10_sort wsX10_sort rmX10_sort [.int p1] ([]) (some (.int r)) ([]) := by
  refine CT.ofW (own := RX10) (cc := cX10_sort) (maxL := 1) (ret := some .int) (by decide) rfl rfl (Nat.le_of_ble_eq_true rfl) ?_
  intro p e s m args below meth c A Q X hret ls hl hw
  obtain ⟨hx, hb, hml, hown, hts, hK, hA, hr, hlk⟩ := id X
  have hl : lv_has ls 1 [(0, .int p1)] := hl
  unfold f_X10_sort at hf
  refine lv_iload_n (pc := 0) hx hb dX10_sort_0 rfl (lv_at hl 0 rfl) ?_
  refine lv_bipush (pc := 1) (v := 97) hx hb dX10_sort_1 (by decide) ?_
  obtain ⟨v1, hj, hf⟩ := b1_ob hf
  have J33_0 : ∀ (H : Heap) (locs : List Loc) (ls : Array Slot), WD D A s ([]) H locs → lv_has ls 1 [] → W p l e rmX10_sort s m args below meth c H locs 0 0 Q (F0 m 33 ls [.int v1]) := by
    intro H locs ls hw hl
    cases hf
    exact hret _ _ 33 _ hw ⟨_, rfl, rfl⟩ dX10_sort_33
  clear hf; have hf := hj; clear hj
  refine lv_icmp_lt (pc := 3) (tgt := 16) hx hb dX10_sort_3 (by decide) (fun c2 => ?_) (fun c2 => ?_)
  · have hf := ipos c2 hf
    refine lv_iload_n (pc := 16) hx hb dX10_sort_16 rfl (lv_at hl 0 rfl) ?_
    refine lv_bipush (pc := 17) (v := 48) hx hb dX10_sort_17 (by decide) ?_
    refine lv_icmp_lt (pc := 19) (tgt := 32) hx hb dX10_sort_19 (by decide) (fun c3 => ?_) (fun c3 => ?_)
    · have hf := ipos c3 hf
      refine lv_iconst (pc := 32) (v := 0) hx hb dX10_sort_32 (by decide) ?_
      cases hf
      exact J33_0 _ _ _ hw (lv_sub hl [] rfl)
    · have hf := ineg c3 hf
      refine lv_iload_n (pc := 22) hx hb dX10_sort_22 rfl (lv_at hl 0 rfl) ?_
      refine lv_bipush (pc := 23) (v := 57) hx hb dX10_sort_23 (by decide) ?_
      refine lv_icmp_gt (pc := 25) (tgt := 32) hx hb dX10_sort_25 (by decide) (fun c4 => ?_) (fun c4 => ?_)
      · have hf := ipos c4 hf
        refine lv_iconst (pc := 32) (v := 0) hx hb dX10_sort_32 (by decide) ?_
        cases hf
        exact J33_0 _ _ _ hw (lv_sub hl [] rfl)
      · have hf := ineg c4 hf
        refine lv_iconst (pc := 28) (v := 2) hx hb dX10_sort_28 (by decide) ?_
        refine lv_goto (pc := 29) (tgt := 33) hx hb dX10_sort_29 (by decide) ?_
        cases hf
        exact J33_0 _ _ _ hw (lv_sub hl [] rfl)
  · have hf := ineg c2 hf
    refine lv_iload_n (pc := 6) hx hb dX10_sort_6 rfl (lv_at hl 0 rfl) ?_
    refine lv_bipush (pc := 7) (v := 122) hx hb dX10_sort_7 (by decide) ?_
    refine lv_icmp_gt (pc := 9) (tgt := 16) hx hb dX10_sort_9 (by decide) (fun c5 => ?_) (fun c5 => ?_)
    · have hf := ipos c5 hf
      refine lv_iload_n (pc := 16) hx hb dX10_sort_16 rfl (lv_at hl 0 rfl) ?_
      refine lv_bipush (pc := 17) (v := 48) hx hb dX10_sort_17 (by decide) ?_
      refine lv_icmp_lt (pc := 19) (tgt := 32) hx hb dX10_sort_19 (by decide) (fun c6 => ?_) (fun c6 => ?_)
      · have hf := ipos c6 hf
        refine lv_iconst (pc := 32) (v := 0) hx hb dX10_sort_32 (by decide) ?_
        cases hf
        exact J33_0 _ _ _ hw (lv_sub hl [] rfl)
      · have hf := ineg c6 hf
        refine lv_iload_n (pc := 22) hx hb dX10_sort_22 rfl (lv_at hl 0 rfl) ?_
        refine lv_bipush (pc := 23) (v := 57) hx hb dX10_sort_23 (by decide) ?_
        refine lv_icmp_gt (pc := 25) (tgt := 32) hx hb dX10_sort_25 (by decide) (fun c7 => ?_) (fun c7 => ?_)
        · have hf := ipos c7 hf
          refine lv_iconst (pc := 32) (v := 0) hx hb dX10_sort_32 (by decide) ?_
          cases hf
          exact J33_0 _ _ _ hw (lv_sub hl [] rfl)
        · have hf := ineg c7 hf
          refine lv_iconst (pc := 28) (v := 2) hx hb dX10_sort_28 (by decide) ?_
          refine lv_goto (pc := 29) (tgt := 33) hx hb dX10_sort_29 (by decide) ?_
          cases hf
          exact J33_0 _ _ _ hw (lv_sub hl [] rfl)
    · have hf := ineg c5 hf
      refine lv_iconst (pc := 12) (v := 1) hx hb dX10_sort_12 (by decide) ?_
      refine lv_goto (pc := 13) (tgt := 33) hx hb dX10_sort_13 (by decide) ?_
      cases hf
      exact J33_0 _ _ _ hw (lv_sub hl [] rfl)

theorem in_X10_token_X10 : ∀ w ∈ wsX100, w ∈ wsX10_token := fun _ h => List.mem_cons_of_mem _ (List.mem_append_right _ h)
abbrev rmX10_token : Room := { frames := 1, cells := 0, slots := 0, locals := 20 }
def B_X10_token_0 (S1 : PS) : Option ((PS) ⊕ (PS)) :=
  if (S1.1 1) ≤ (S1.1 28) then
    some (.inr S1)
  else
  b1 (rdI 200 (S1.2.1 0) (S1.1 28)) fun v3 =>
  if v3 = 32 then
    bn (sI S1 28 ((S1.1 28) + 1)) fun S5 =>
    some (.inl S5)
  else
  some (.inr S1)
def L_X10_token_0 (n : Nat) (S1 : PS) : Option (PS) := loopF (fun x : PS => B_X10_token_0 x) n S1
def B_X10_token_71 (S11 : PS) : Option ((PS) ⊕ (PS)) :=
  if (S11.1 1) ≤ (S11.1 28) then
    some (.inr S11)
  else
  b1 (rdI 200 (S11.2.1 0) (S11.1 29)) fun v13 =>
  b1 (f_X10_sort v13) fun v14 =>
  if v14 ≤ 0 then
    some (.inr S11)
  else
  b1 (rdI 200 (S11.2.1 0) (S11.1 28)) fun v16 =>
  b1 (f_X10_sort v16) fun v17 =>
  b1 (rdI 200 (S11.2.1 0) (S11.1 29)) fun v18 =>
  b1 (f_X10_sort v18) fun v19 =>
  if v17 = v19 then
    bn (sI S11 28 ((S11.1 28) + 1)) fun S21 =>
    some (.inl S21)
  else
  some (.inr S11)
def L_X10_token_71 (n : Nat) (S11 : PS) : Option (PS) := loopF (fun x : PS => B_X10_token_71 x) n S11
def f_X10_token (S : PS) : Option (PS) :=
  b1 (L_X10_token_0 FU S) fun S6 =>
  bn (sI S6 29 (S6.1 28)) fun S7 =>
  b1 (
    if (S7.1 1) ≤ (S7.1 28) then
      some (0 : Int32)
    else
    some (1 : Int32)) fun v8 =>
  bn (sI S7 28 ((S7.1 28) + v8)) fun S10 =>
  b1 (L_X10_token_71 FU S10) fun S22 =>
  bn (sI S22 30 (S22.1 28)) fun S23 =>
  some S23
set_option maxHeartbeats 4000000 in
set_option maxRecDepth 100000 in
theorem c_X10_token (l : Launch) (D : va_G) (cs : CS) (a : Nat) (q : Nat → Nat) (S : PS) (S' : PS) (hf : f_X10_token S = some S') : CT l D (TY cs) yX10_token wsX10_token rmX10_token [.ref a] (wX10 cs a q S) none (wX10 cs a q S') := by
  refine CT.ofW (own := RX10) (cc := cX10_token) (maxL := 1) (ret := none) (by decide) rfl rfl (Nat.le_of_ble_eq_true rfl) ?_
  intro p e s m args below meth c A Q X hret ls hl hw
  obtain ⟨hx, hb, hml, hown, hts, hK, hA, hr, hlk⟩ := id X
  have hl : lv_has ls 1 [(0, .ref a)] := hl
  unfold f_X10_token at hf
  have L0 : ∀ (n : Nat) (S1 : PS) (rS1 : PS), L_X10_token_0 n S1 = some rS1 → ∀ (H : Heap) (locs : List Loc) (ls : Array Slot), WD D A s (wX10 cs a q S1) H locs → lv_has ls 1 [(0, .ref a)] → (∀ (H : Heap) (locs : List Loc) (ls : Array Slot), WD D A s (wX10 cs a q rS1) H locs → lv_has ls 1 [(0, .ref a)] → W p l e rmX10_token s m args below meth c H locs 0 0 Q (F0 m 38 ls [])) → W p l e rmX10_token s m args below meth c H locs 0 0 Q (F0 m 0 ls []) := by
    intro n
    induction n with
    | zero => intro S1 rS1 hf; exact (loopF_z hf).elim
    | succ n ih =>
      intro S1 rS1 hf H locs ls hw hl K
      obtain ⟨x, hf, hx0⟩ := loopF_ob hf
      have hf : B_X10_token_0 S1 = some x := hf
      unfold B_X10_token_0 at hf
      refine lv_aload_n (pc := 0) hx hb dX10_token_0 rfl (lv_at hl 0 rfl) ?_
      refine x_get (pc := 1) X hw in_X10_token_X10 0 rfl rfl 28 (by decide) (List.mem_of_getElem? (i := 1) rfl) rfl dX10_token_1 ?_
      refine lv_aload_n (pc := 4) hx hb dX10_token_4 rfl (lv_at hl 0 rfl) ?_
      refine x_get (pc := 5) X hw in_X10_token_X10 0 rfl rfl 1 (by decide) (List.mem_of_getElem? (i := 2) rfl) rfl dX10_token_5 ?_
      refine lv_icmp_ge (pc := 8) (tgt := 38) hx hb dX10_token_8 (by decide) (fun c2 => ?_) (fun c2 => ?_)
      · have hf := ipos c2 hf
        cases hf
        cases (hx0 : S1 = rS1)
        exact K _ _ _ hw (lv_sub hl [0] rfl)
      · have hf := ineg c2 hf
        refine lv_aload_n (pc := 11) hx hb dX10_token_11 rfl (lv_at hl 0 rfl) ?_
        refine x_get (pc := 12) X hw in_X10_token_X10 0 rfl rfl 0 (by decide) (List.mem_of_getElem? (i := 3) rfl) rfl dX10_token_12 ?_
        refine lv_aload_n (pc := 15) hx hb dX10_token_15 rfl (lv_at hl 0 rfl) ?_
        refine x_get (pc := 16) X hw in_X10_token_X10 0 rfl rfl 28 (by decide) (List.mem_of_getElem? (i := 1) rfl) rfl dX10_token_16 ?_
        obtain ⟨v3, ev3, hf⟩ := b1_ob hf
        refine x_iald (pc := 19) X hw 1 0 rfl rfl ev3 dX10_token_19 ?_
        refine lv_bipush (pc := 20) (v := 32) hx hb dX10_token_20 (by decide) ?_
        refine lv_icmp_ne (pc := 22) (tgt := 38) hx hb dX10_token_22 (by decide) (fun c4 => ?_) (fun c4 => ?_)
        · have hf := ineg c4 hf
          cases hf
          cases (hx0 : S1 = rS1)
          exact K _ _ _ hw (lv_sub hl [0] rfl)
        · have hf := ipos c4 hf
          refine lv_aload_n (pc := 25) hx hb dX10_token_25 rfl (lv_at hl 0 rfl) ?_
          refine lv_dup (pc := 26) hx hb dX10_token_26 rfl ?_
          refine x_get (pc := 27) X hw in_X10_token_X10 0 rfl rfl 28 (by decide) (List.mem_of_getElem? (i := 1) rfl) rfl dX10_token_27 ?_
          refine lv_iconst (pc := 30) (v := 1) hx hb dX10_token_30 (by decide) ?_
          refine lv_iadd (pc := 31) hx hb dX10_token_31 ?_
          obtain ⟨S5, eS5, hf⟩ := bn_ob hf
          refine x_put (pc := 32) X hw in_X10_token_X10 tyX10 tyX10_ok nmX10 0 rfl rfl 28 (by decide) (List.mem_of_getElem? (i := 1) rfl) rfl rfl rfl (Nat.le_of_ble_eq_true rfl) dX10_token_32 (ws2 := wX10 cs a q S5) (by rw [eS5]; rfl) (fun H locs hw => ?_)
          refine lv_goto (pc := 35) (tgt := 0) hx hb dX10_token_35 (by decide) ?_
          cases hf
          exact ih S5 rS1 hx0 _ _ _ hw (lv_sub hl [0] rfl) K
  obtain ⟨S6, hj, hf⟩ := b1_ob hf
  refine L0 _ S S6 hj _ _ _ hw (lv_sub hl [0] rfl) (fun H locs ls hw hl => ?_)
  clear hj L0
  refine lv_aload_n (pc := 38) hx hb dX10_token_38 rfl (lv_at hl 0 rfl) ?_
  refine lv_aload_n (pc := 39) hx hb dX10_token_39 rfl (lv_at hl 0 rfl) ?_
  refine x_get (pc := 40) X hw in_X10_token_X10 0 rfl rfl 28 (by decide) (List.mem_of_getElem? (i := 1) rfl) rfl dX10_token_40 ?_
  obtain ⟨S7, eS7, hf⟩ := bn_ob hf
  refine x_put (pc := 43) X hw in_X10_token_X10 tyX10 tyX10_ok nmX10 0 rfl rfl 29 (by decide) (List.mem_of_getElem? (i := 4) rfl) rfl rfl rfl (Nat.le_of_ble_eq_true rfl) dX10_token_43 (ws2 := wX10 cs a q S7) (by rw [eS7]; rfl) (fun H locs hw => ?_)
  refine lv_aload_n (pc := 46) hx hb dX10_token_46 rfl (lv_at hl 0 rfl) ?_
  refine lv_dup (pc := 47) hx hb dX10_token_47 rfl ?_
  refine x_get (pc := 48) X hw in_X10_token_X10 0 rfl rfl 28 (by decide) (List.mem_of_getElem? (i := 1) rfl) rfl dX10_token_48 ?_
  refine lv_aload_n (pc := 51) hx hb dX10_token_51 rfl (lv_at hl 0 rfl) ?_
  refine x_get (pc := 52) X hw in_X10_token_X10 0 rfl rfl 28 (by decide) (List.mem_of_getElem? (i := 1) rfl) rfl dX10_token_52 ?_
  refine lv_aload_n (pc := 55) hx hb dX10_token_55 rfl (lv_at hl 0 rfl) ?_
  refine x_get (pc := 56) X hw in_X10_token_X10 0 rfl rfl 1 (by decide) (List.mem_of_getElem? (i := 2) rfl) rfl dX10_token_56 ?_
  obtain ⟨v8, hj, hf⟩ := b1_ob hf
  have J67_7 : ∀ (H : Heap) (locs : List Loc) (ls : Array Slot), WD D A s (wX10 cs a q S7) H locs → lv_has ls 1 [(0, .ref a)] → W p l e rmX10_token s m args below meth c H locs 0 0 Q (F0 m 67 ls [.int v8, .int (S7.1 28), .ref a]) := by
    intro H locs ls hw hl
    refine lv_iadd (pc := 67) hx hb dX10_token_67 ?_
    obtain ⟨S10, eS10, hf⟩ := bn_ob hf
    refine x_put (pc := 68) X hw in_X10_token_X10 tyX10 tyX10_ok nmX10 0 rfl rfl 28 (by decide) (List.mem_of_getElem? (i := 1) rfl) rfl rfl rfl (Nat.le_of_ble_eq_true rfl) dX10_token_68 (ws2 := wX10 cs a q S10) (by rw [eS10]; rfl) (fun H locs hw => ?_)
    have L71 : ∀ (n : Nat) (S11 : PS) (rS11 : PS), L_X10_token_71 n S11 = some rS11 → ∀ (H : Heap) (locs : List Loc) (ls : Array Slot), WD D A s (wX10 cs a q S11) H locs → lv_has ls 1 [(0, .ref a)] → (∀ (H : Heap) (locs : List Loc) (ls : Array Slot), WD D A s (wX10 cs a q rS11) H locs → lv_has ls 1 [(0, .ref a)] → W p l e rmX10_token s m args below meth c H locs 0 0 Q (F0 m 137 ls [])) → W p l e rmX10_token s m args below meth c H locs 0 0 Q (F0 m 71 ls []) := by
      intro n
      induction n with
      | zero => intro S11 rS11 hf; exact (loopF_z hf).elim
      | succ n ih =>
        intro S11 rS11 hf H locs ls hw hl K
        obtain ⟨x, hf, hx0⟩ := loopF_ob hf
        have hf : B_X10_token_71 S11 = some x := hf
        unfold B_X10_token_71 at hf
        refine lv_aload_n (pc := 71) hx hb dX10_token_71 rfl (lv_at hl 0 rfl) ?_
        refine x_get (pc := 72) X hw in_X10_token_X10 0 rfl rfl 28 (by decide) (List.mem_of_getElem? (i := 1) rfl) rfl dX10_token_72 ?_
        refine lv_aload_n (pc := 75) hx hb dX10_token_75 rfl (lv_at hl 0 rfl) ?_
        refine x_get (pc := 76) X hw in_X10_token_X10 0 rfl rfl 1 (by decide) (List.mem_of_getElem? (i := 2) rfl) rfl dX10_token_76 ?_
        refine lv_icmp_ge (pc := 79) (tgt := 137) hx hb dX10_token_79 (by decide) (fun c12 => ?_) (fun c12 => ?_)
        · have hf := ipos c12 hf
          cases hf
          cases (hx0 : S11 = rS11)
          exact K _ _ _ hw (lv_sub hl [0] rfl)
        · have hf := ineg c12 hf
          refine lv_aload_n (pc := 82) hx hb dX10_token_82 rfl (lv_at hl 0 rfl) ?_
          refine x_get (pc := 83) X hw in_X10_token_X10 0 rfl rfl 0 (by decide) (List.mem_of_getElem? (i := 3) rfl) rfl dX10_token_83 ?_
          refine lv_aload_n (pc := 86) hx hb dX10_token_86 rfl (lv_at hl 0 rfl) ?_
          refine x_get (pc := 87) X hw in_X10_token_X10 0 rfl rfl 29 (by decide) (List.mem_of_getElem? (i := 4) rfl) rfl dX10_token_87 ?_
          obtain ⟨v13, ev13, hf⟩ := b1_ob hf
          refine x_iald (pc := 90) X hw 1 0 rfl rfl ev13 dX10_token_90 ?_
          obtain ⟨v14, hc, hf⟩ := b1_ob hf
          refine x_nil (pc := 91) X hw (va_runS (As := [.int v13]) (rest := []) ⟨hx, hb, hml, hown, hts⟩ (c_X10_sort l D cs v13 v14 hc _) (va_cwS 1 hts gX10_token_X10_sort rfl rfl rfl (by decide +kernel) ⟨Nat.le_of_ble_eq_true rfl, Nat.le_of_ble_eq_true rfl⟩) ⟨CP_blind, x_preN X [.int v13]⟩ rfl rfl hl.1 rfl (lv_room (Nat.le_of_ble_eq_true rfl)) dX10_token_91 ⟨Nat.zero_le _, Nat.zero_le _⟩) (fun H locs hw => ?_)
          refine lv_if_le (pc := 94) (tgt := 137) hx hb dX10_token_94 (by decide) (fun c15 => ?_) (fun c15 => ?_)
          · have hf := ipos c15 hf
            cases hf
            cases (hx0 : S11 = rS11)
            exact K _ _ _ hw (lv_sub hl [0] rfl)
          · have hf := ineg c15 hf
            refine lv_aload_n (pc := 97) hx hb dX10_token_97 rfl (lv_at hl 0 rfl) ?_
            refine x_get (pc := 98) X hw in_X10_token_X10 0 rfl rfl 0 (by decide) (List.mem_of_getElem? (i := 3) rfl) rfl dX10_token_98 ?_
            refine lv_aload_n (pc := 101) hx hb dX10_token_101 rfl (lv_at hl 0 rfl) ?_
            refine x_get (pc := 102) X hw in_X10_token_X10 0 rfl rfl 28 (by decide) (List.mem_of_getElem? (i := 1) rfl) rfl dX10_token_102 ?_
            obtain ⟨v16, ev16, hf⟩ := b1_ob hf
            refine x_iald (pc := 105) X hw 1 0 rfl rfl ev16 dX10_token_105 ?_
            obtain ⟨v17, hc, hf⟩ := b1_ob hf
            refine x_nil (pc := 106) X hw (va_runS (As := [.int v16]) (rest := []) ⟨hx, hb, hml, hown, hts⟩ (c_X10_sort l D cs v16 v17 hc _) (va_cwS 1 hts gX10_token_X10_sort rfl rfl rfl (by decide +kernel) ⟨Nat.le_of_ble_eq_true rfl, Nat.le_of_ble_eq_true rfl⟩) ⟨CP_blind, x_preN X [.int v16]⟩ rfl rfl hl.1 rfl (lv_room (Nat.le_of_ble_eq_true rfl)) dX10_token_106 ⟨Nat.zero_le _, Nat.zero_le _⟩) (fun H locs hw => ?_)
            refine lv_aload_n (pc := 109) hx hb dX10_token_109 rfl (lv_at hl 0 rfl) ?_
            refine x_get (pc := 110) X hw in_X10_token_X10 0 rfl rfl 0 (by decide) (List.mem_of_getElem? (i := 3) rfl) rfl dX10_token_110 ?_
            refine lv_aload_n (pc := 113) hx hb dX10_token_113 rfl (lv_at hl 0 rfl) ?_
            refine x_get (pc := 114) X hw in_X10_token_X10 0 rfl rfl 29 (by decide) (List.mem_of_getElem? (i := 4) rfl) rfl dX10_token_114 ?_
            obtain ⟨v18, ev18, hf⟩ := b1_ob hf
            refine x_iald (pc := 117) X hw 1 0 rfl rfl ev18 dX10_token_117 ?_
            obtain ⟨v19, hc, hf⟩ := b1_ob hf
            refine x_nil (pc := 118) X hw (va_runS (As := [.int v18]) (rest := [.int v17]) ⟨hx, hb, hml, hown, hts⟩ (c_X10_sort l D cs v18 v19 hc _) (va_cwS 1 hts gX10_token_X10_sort rfl rfl rfl (by decide +kernel) ⟨Nat.le_of_ble_eq_true rfl, Nat.le_of_ble_eq_true rfl⟩) ⟨CP_blind, x_preN X [.int v18]⟩ rfl rfl hl.1 rfl (lv_room (Nat.le_of_ble_eq_true rfl)) dX10_token_118 ⟨Nat.zero_le _, Nat.zero_le _⟩) (fun H locs hw => ?_)
            refine lv_icmp_ne (pc := 121) (tgt := 137) hx hb dX10_token_121 (by decide) (fun c20 => ?_) (fun c20 => ?_)
            · have hf := ineg c20 hf
              cases hf
              cases (hx0 : S11 = rS11)
              exact K _ _ _ hw (lv_sub hl [0] rfl)
            · have hf := ipos c20 hf
              refine lv_aload_n (pc := 124) hx hb dX10_token_124 rfl (lv_at hl 0 rfl) ?_
              refine lv_dup (pc := 125) hx hb dX10_token_125 rfl ?_
              refine x_get (pc := 126) X hw in_X10_token_X10 0 rfl rfl 28 (by decide) (List.mem_of_getElem? (i := 1) rfl) rfl dX10_token_126 ?_
              refine lv_iconst (pc := 129) (v := 1) hx hb dX10_token_129 (by decide) ?_
              refine lv_iadd (pc := 130) hx hb dX10_token_130 ?_
              obtain ⟨S21, eS21, hf⟩ := bn_ob hf
              refine x_put (pc := 131) X hw in_X10_token_X10 tyX10 tyX10_ok nmX10 0 rfl rfl 28 (by decide) (List.mem_of_getElem? (i := 1) rfl) rfl rfl rfl (Nat.le_of_ble_eq_true rfl) dX10_token_131 (ws2 := wX10 cs a q S21) (by rw [eS21]; rfl) (fun H locs hw => ?_)
              refine lv_goto (pc := 134) (tgt := 71) hx hb dX10_token_134 (by decide) ?_
              cases hf
              exact ih S21 rS11 hx0 _ _ _ hw (lv_sub hl [0] rfl) K
    obtain ⟨S22, hj, hf⟩ := b1_ob hf
    refine L71 _ S10 S22 hj _ _ _ hw (lv_sub hl [0] rfl) (fun H locs ls hw hl => ?_)
    clear hj L71
    refine lv_aload_n (pc := 137) hx hb dX10_token_137 rfl (lv_at hl 0 rfl) ?_
    refine lv_aload_n (pc := 138) hx hb dX10_token_138 rfl (lv_at hl 0 rfl) ?_
    refine x_get (pc := 139) X hw in_X10_token_X10 0 rfl rfl 28 (by decide) (List.mem_of_getElem? (i := 1) rfl) rfl dX10_token_139 ?_
    obtain ⟨S23, eS23, hf⟩ := bn_ob hf
    refine x_put (pc := 142) X hw in_X10_token_X10 tyX10 tyX10_ok nmX10 0 rfl rfl 30 (by decide) (List.mem_of_getElem? (i := 5) rfl) rfl rfl rfl (Nat.le_of_ble_eq_true rfl) dX10_token_142 (ws2 := wX10 cs a q S23) (by rw [eS23]; rfl) (fun H locs hw => ?_)
    cases hf
    exact hret _ _ 145 _ hw rfl dX10_token_145
  clear hf; have hf := hj; clear hj
  refine lv_icmp_ge (pc := 59) (tgt := 66) hx hb dX10_token_59 (by decide) (fun c9 => ?_) (fun c9 => ?_)
  · have hf := ipos c9 hf
    refine lv_iconst (pc := 66) (v := 0) hx hb dX10_token_66 (by decide) ?_
    cases hf
    exact J67_7 _ _ _ hw (lv_sub hl [0] rfl)
  · have hf := ineg c9 hf
    refine lv_iconst (pc := 62) (v := 1) hx hb dX10_token_62 (by decide) ?_
    refine lv_goto (pc := 63) (tgt := 67) hx hb dX10_token_63 (by decide) ?_
    cases hf
    exact J67_7 _ _ _ hw (lv_sub hl [0] rfl)

theorem in_X10_isWord_X10 : ∀ w ∈ wsX100, w ∈ wsX10_isWord := fun _ h => List.mem_cons_of_mem _ (List.mem_append_right _ h)
abbrev rmX10_isWord : Room := { frames := 0, cells := 0, slots := 0, locals := 0 }
def B_X10_isWord_22 (S : PS) (p1 : Int32) (p2 : Int32) (v3 : Int32) (v4 : Int32) : Option ((Int32 × Int32) ⊕ (Int32)) :=
  if v3 = 0 then
    some (.inr v3)
  else
  if p2 ≤ v4 then
    some (.inr v3)
  else
  b1 (rdI 200 (S.2.1 0) ((S.1 29) + v4)) fun v7 =>
  b1 (
    if v7 = (96 + ((p1 >>> ((5 * v4) &&& 31)) &&& 31)) then
      some (1 : Int32)
    else
    some (0 : Int32)) fun v8 =>
  bn (v4 + 1) fun v10 =>
  some (.inl (v8, v10))
def L_X10_isWord_22 (S : PS) (p1 : Int32) (p2 : Int32) (n : Nat) (v3 : Int32) (v4 : Int32) : Option (Int32) := loopF (fun x : Int32 × Int32 => B_X10_isWord_22 S p1 p2 x.1 x.2) n (v3, v4)
def f_X10_isWord (S : PS) (p1 : Int32) (p2 : Int32) : Option (Int32) :=
  b1 (
    if ((S.1 30) - (S.1 29)) = p2 then
      some (1 : Int32)
    else
    some (0 : Int32)) fun v1 =>
  b1 (L_X10_isWord_22 S p1 p2 FU v1 0) fun v11 =>
  b1 (ckB v11) fun v12 =>
  some v12
set_option maxHeartbeats 4000000 in
set_option maxRecDepth 100000 in
theorem c_X10_isWord (l : Launch) (D : va_G) (cs : CS) (a : Nat) (q : Nat → Nat) (S : PS) (p1 : Int32) (p2 : Int32) (r : Int32) (hf : f_X10_isWord S p1 p2 = some r) : CT l D (TY cs) yX10_isWord wsX10_isWord rmX10_isWord [.ref a, .int p1, .int p2] (wX10 cs a q S) (some (.int r)) (wX10 cs a q S) := by
  refine CT.ofW (own := RX10) (cc := cX10_isWord) (maxL := 5) (ret := some .boolean) (by decide) rfl rfl (Nat.le_of_ble_eq_true rfl) ?_
  intro p e s m args below meth c A Q X hret ls hl hw
  obtain ⟨hx, hb, hml, hown, hts, hK, hA, hr, hlk⟩ := id X
  have hl : lv_has ls 5 [(0, .ref a), (1, .int p1), (2, .int p2)] := hl
  unfold f_X10_isWord at hf
  refine lv_aload_n (pc := 0) hx hb dX10_isWord_0 rfl (lv_at hl 0 rfl) ?_
  refine x_get (pc := 1) X hw in_X10_isWord_X10 0 rfl rfl 30 (by decide) (List.mem_of_getElem? (i := 1) rfl) rfl dX10_isWord_1 ?_
  refine lv_aload_n (pc := 4) hx hb dX10_isWord_4 rfl (lv_at hl 0 rfl) ?_
  refine x_get (pc := 5) X hw in_X10_isWord_X10 0 rfl rfl 29 (by decide) (List.mem_of_getElem? (i := 2) rfl) rfl dX10_isWord_5 ?_
  refine lv_isub (pc := 8) hx hb dX10_isWord_8 ?_
  refine lv_iload_n (pc := 9) hx hb dX10_isWord_9 rfl (lv_at hl 2 rfl) ?_
  obtain ⟨v1, hj, hf⟩ := b1_ob hf
  have J18_0 : ∀ (H : Heap) (locs : List Loc) (ls : Array Slot), WD D A s (wX10 cs a q S) H locs → lv_has ls 5 [(0, .ref a), (1, .int p1), (2, .int p2)] → W p l e rmX10_isWord s m args below meth c H locs 0 0 Q (F0 m 18 ls [.int v1]) := by
    intro H locs ls hw hl
    refine lv_istore_n (lv' := [(3, .int v1), (0, .ref a), (1, .int p1), (2, .int p2)]) (pc := 18) hx hb dX10_isWord_18 rfl hl (by decide) rfl (fun ls hl => ?_)
    refine lv_iconst (pc := 19) (v := 0) hx hb dX10_isWord_19 (by decide) ?_
    refine lv_istore (lv' := [(4, .int 0), (3, .int v1), (0, .ref a), (1, .int p1), (2, .int p2)]) (pc := 20) hx hb dX10_isWord_20 hl (by decide) rfl (fun ls hl => ?_)
    have L22 : ∀ (n : Nat) (v3 : Int32) (v4 : Int32) (rv3 : Int32), L_X10_isWord_22 S p1 p2 n v3 v4 = some rv3 → ∀ (H : Heap) (locs : List Loc) (ls : Array Slot), WD D A s (wX10 cs a q S) H locs → lv_has ls 5 [(0, .ref a), (1, .int p1), (2, .int p2), (3, .int v3), (4, .int v4)] → (∀ (H : Heap) (locs : List Loc) (ls : Array Slot), WD D A s (wX10 cs a q S) H locs → lv_has ls 5 [(3, .int rv3)] → W p l e rmX10_isWord s m args below meth c H locs 0 0 Q (F0 m 71 ls [])) → W p l e rmX10_isWord s m args below meth c H locs 0 0 Q (F0 m 22 ls []) := by
      intro n
      induction n with
      | zero => intro v3 v4 rv3 hf; exact (loopF_z hf).elim
      | succ n ih =>
        intro v3 v4 rv3 hf H locs ls hw hl K
        obtain ⟨x, hf, hx0⟩ := loopF_ob hf
        have hf : B_X10_isWord_22 S p1 p2 v3 v4 = some x := hf
        unfold B_X10_isWord_22 at hf
        refine lv_iload_n (pc := 22) hx hb dX10_isWord_22 rfl (lv_at hl 3 rfl) ?_
        refine lv_if_eq (pc := 23) (tgt := 71) hx hb dX10_isWord_23 (by decide) (fun c5 => ?_) (fun c5 => ?_)
        · have hf := ipos c5 hf
          cases hf
          cases (hx0 : v3 = rv3)
          exact K _ _ _ hw (lv_sub hl [3] rfl)
        · have hf := ineg c5 hf
          refine lv_iload (pc := 26) hx hb dX10_isWord_26 (lv_at hl 4 rfl) ?_
          refine lv_iload_n (pc := 28) hx hb dX10_isWord_28 rfl (lv_at hl 2 rfl) ?_
          refine lv_icmp_ge (pc := 29) (tgt := 71) hx hb dX10_isWord_29 (by decide) (fun c6 => ?_) (fun c6 => ?_)
          · have hf := ipos c6 hf
            cases hf
            cases (hx0 : v3 = rv3)
            exact K _ _ _ hw (lv_sub hl [3] rfl)
          · have hf := ineg c6 hf
            refine lv_aload_n (pc := 32) hx hb dX10_isWord_32 rfl (lv_at hl 0 rfl) ?_
            refine x_get (pc := 33) X hw in_X10_isWord_X10 0 rfl rfl 0 (by decide) (List.mem_of_getElem? (i := 3) rfl) rfl dX10_isWord_33 ?_
            refine lv_aload_n (pc := 36) hx hb dX10_isWord_36 rfl (lv_at hl 0 rfl) ?_
            refine x_get (pc := 37) X hw in_X10_isWord_X10 0 rfl rfl 29 (by decide) (List.mem_of_getElem? (i := 2) rfl) rfl dX10_isWord_37 ?_
            refine lv_iload (pc := 40) hx hb dX10_isWord_40 (lv_at hl 4 rfl) ?_
            refine lv_iadd (pc := 42) hx hb dX10_isWord_42 ?_
            obtain ⟨v7, ev7, hf⟩ := b1_ob hf
            refine x_iald (pc := 43) X hw 1 0 rfl rfl ev7 dX10_isWord_43 ?_
            refine lv_bipush (pc := 44) (v := 96) hx hb dX10_isWord_44 (by decide) ?_
            refine lv_iload_n (pc := 46) hx hb dX10_isWord_46 rfl (lv_at hl 1 rfl) ?_
            refine lv_iconst (pc := 47) (v := 5) hx hb dX10_isWord_47 (by decide) ?_
            refine lv_iload (pc := 48) hx hb dX10_isWord_48 (lv_at hl 4 rfl) ?_
            refine lv_imul (pc := 50) hx hb dX10_isWord_50 ?_
            refine lv_ishr (pc := 51) hx hb dX10_isWord_51 ?_
            refine lv_bipush (pc := 52) (v := 31) hx hb dX10_isWord_52 (by decide) ?_
            refine lv_iand (pc := 54) hx hb dX10_isWord_54 ?_
            refine lv_iadd (pc := 55) hx hb dX10_isWord_55 ?_
            obtain ⟨v8, hj, hf⟩ := b1_ob hf
            have J64_7 : ∀ (H : Heap) (locs : List Loc) (ls : Array Slot), WD D A s (wX10 cs a q S) H locs → lv_has ls 5 [(0, .ref a), (1, .int p1), (2, .int p2), (4, .int v4)] → W p l e rmX10_isWord s m args below meth c H locs 0 0 Q (F0 m 64 ls [.int v8]) := by
              intro H locs ls hw hl
              refine lv_istore_n (lv' := [(3, .int v8), (0, .ref a), (1, .int p1), (2, .int p2), (4, .int v4)]) (pc := 64) hx hb dX10_isWord_64 rfl hl (by decide) rfl (fun ls hl => ?_)
              obtain ⟨v10, ev10, hf⟩ := bn_ob hf
              refine lv_iinc (pc := 65) (v := v10) (lv' := [(4, .int v10), (3, .int v8), (0, .ref a), (1, .int p1), (2, .int p2)]) hx hb dX10_isWord_65 hl (k := 4) rfl (by rw [ev10]; rfl) (by decide) rfl (fun ls hl => ?_)
              refine lv_goto (pc := 68) (tgt := 22) hx hb dX10_isWord_68 (by decide) ?_
              cases hf
              exact ih v8 v10 rv3 hx0 _ _ _ hw (lv_sub hl [2, 3, 4, 1, 0] rfl) K
            clear hf; have hf := hj; clear hj
            refine lv_icmp_ne (pc := 56) (tgt := 63) hx hb dX10_isWord_56 (by decide) (fun c9 => ?_) (fun c9 => ?_)
            · have hf := ineg c9 hf
              refine lv_iconst (pc := 63) (v := 0) hx hb dX10_isWord_63 (by decide) ?_
              cases hf
              exact J64_7 _ _ _ hw (lv_sub hl [0, 1, 2, 4] rfl)
            · have hf := ipos c9 hf
              refine lv_iconst (pc := 59) (v := 1) hx hb dX10_isWord_59 (by decide) ?_
              refine lv_goto (pc := 60) (tgt := 64) hx hb dX10_isWord_60 (by decide) ?_
              cases hf
              exact J64_7 _ _ _ hw (lv_sub hl [0, 1, 2, 4] rfl)
    obtain ⟨v11, hj, hf⟩ := b1_ob hf
    refine L22 _ v1 0 v11 hj _ _ _ hw (lv_sub hl [2, 3, 4, 1, 0] rfl) (fun H locs ls hw hl => ?_)
    clear hj L22
    refine lv_iload_n (pc := 71) hx hb dX10_isWord_71 rfl (lv_at hl 0 rfl) ?_
    obtain ⟨v12, ev12, hf⟩ := b1_ob hf
    refine x_topi (ckB_ob ev12).1.symm ?_
    cases hf
    exact hret _ _ 72 _ hw ⟨_, rfl, ckB_nar (ckB_ob ev12).2⟩ dX10_isWord_72
  clear hf; have hf := hj; clear hj
  refine lv_icmp_ne (pc := 10) (tgt := 17) hx hb dX10_isWord_10 (by decide) (fun c2 => ?_) (fun c2 => ?_)
  · have hf := ineg c2 hf
    refine lv_iconst (pc := 17) (v := 0) hx hb dX10_isWord_17 (by decide) ?_
    cases hf
    exact J18_0 _ _ _ hw (lv_sub hl [0, 1, 2] rfl)
  · have hf := ipos c2 hf
    refine lv_iconst (pc := 13) (v := 1) hx hb dX10_isWord_13 (by decide) ?_
    refine lv_goto (pc := 14) (tgt := 18) hx hb dX10_isWord_14 (by decide) ?_
    cases hf
    exact J18_0 _ _ _ hw (lv_sub hl [0, 1, 2] rfl)

theorem in_X10_isNumber_X10 : ∀ w ∈ wsX100, w ∈ wsX10_isNumber := fun _ h => List.mem_cons_of_mem _ (List.mem_append_right _ h)
abbrev rmX10_isNumber : Room := { frames := 1, cells := 0, slots := 0, locals := 25 }
def B_X10_isNumber_57 (v1 : Int32) (v9 : Int32) (S10 : PS) : Option ((Int32 × PS) ⊕ (PS)) :=
  if v1 = 0 then
    some (.inr S10)
  else
  if (S10.1 30) ≤ v9 then
    some (.inr S10)
  else
  b1 (rdI 200 (S10.2.1 0) v9) fun v13 =>
  bn (sI S10 31 (((10 * (S10.1 31)) + v13) - 48)) fun S14 =>
  bn (v9 + 1) fun v15 =>
  some (.inl (v15, S14))
def L_X10_isNumber_57 (v1 : Int32) (n : Nat) (v9 : Int32) (S10 : PS) : Option (PS) := loopF (fun x : Int32 × PS => B_X10_isNumber_57 v1 x.1 x.2) n (v9, S10)
def f_X10_isNumber (S : PS) (p1 : Int32) (p2 : Int32) : Option (Int32 × PS) :=
  b1 (
    if (S.1 1) ≤ (S.1 29) then
      some (0 : Int32)
    else
    b1 (rdI 200 (S.2.1 0) (S.1 29)) fun v3 =>
    b1 (f_X10_sort v3) fun v4 =>
    if v4 = 2 then
      if 2 < ((S.1 30) - (S.1 29)) then
        some (0 : Int32)
      else
      some (1 : Int32)
    else
    some (0 : Int32)) fun v1 =>
  bn (sI S 31 0) fun S7 =>
  bn (S7.1 29) fun v8 =>
  b1 (L_X10_isNumber_57 v1 FU v8 S7) fun S16 =>
  b1 (
    if v1 = 0 then
      some (0 : Int32)
    else
    b1 (f_X10_in ((S16.1 31).toInt64) (p1.toInt64) (p2.toInt64)) fun v19 =>
    if v19 = 0 then
      some (0 : Int32)
    else
    some (1 : Int32)) fun v17 =>
  b1 (ckB v17) fun v21 =>
  some (v21, S16)
set_option maxHeartbeats 4000000 in
set_option maxRecDepth 100000 in
theorem c_X10_isNumber (l : Launch) (D : va_G) (cs : CS) (a : Nat) (q : Nat → Nat) (S : PS) (p1 : Int32) (p2 : Int32) (r : Int32) (S' : PS) (hf : f_X10_isNumber S p1 p2 = some (r, S')) : CT l D (TY cs) yX10_isNumber wsX10_isNumber rmX10_isNumber [.ref a, .int p1, .int p2] (wX10 cs a q S) (some (.int r)) (wX10 cs a q S') := by
  refine CT.ofW (own := RX10) (cc := cX10_isNumber) (maxL := 5) (ret := some .boolean) (by decide) rfl rfl (Nat.le_of_ble_eq_true rfl) ?_
  intro p e s m args below meth c A Q X hret ls hl hw
  obtain ⟨hx, hb, hml, hown, hts, hK, hA, hr, hlk⟩ := id X
  have hl : lv_has ls 5 [(0, .ref a), (1, .int p1), (2, .int p2)] := hl
  unfold f_X10_isNumber at hf
  refine lv_aload_n (pc := 0) hx hb dX10_isNumber_0 rfl (lv_at hl 0 rfl) ?_
  refine x_get (pc := 1) X hw in_X10_isNumber_X10 0 rfl rfl 29 (by decide) (List.mem_of_getElem? (i := 1) rfl) rfl dX10_isNumber_1 ?_
  refine lv_aload_n (pc := 4) hx hb dX10_isNumber_4 rfl (lv_at hl 0 rfl) ?_
  refine x_get (pc := 5) X hw in_X10_isNumber_X10 0 rfl rfl 1 (by decide) (List.mem_of_getElem? (i := 2) rfl) rfl dX10_isNumber_5 ?_
  obtain ⟨v1, hj, hf⟩ := b1_ob hf
  have J45_0 : ∀ (H : Heap) (locs : List Loc) (ls : Array Slot), WD D A s (wX10 cs a q S) H locs → lv_has ls 5 [(0, .ref a), (1, .int p1), (2, .int p2)] → W p l e rmX10_isNumber s m args below meth c H locs 0 0 Q (F0 m 45 ls [.int v1]) := by
    intro H locs ls hw hl
    refine lv_istore_n (lv' := [(3, .int v1), (0, .ref a), (1, .int p1), (2, .int p2)]) (pc := 45) hx hb dX10_isNumber_45 rfl hl (by decide) rfl (fun ls hl => ?_)
    refine lv_aload_n (pc := 46) hx hb dX10_isNumber_46 rfl (lv_at hl 1 rfl) ?_
    refine lv_iconst (pc := 47) (v := 0) hx hb dX10_isNumber_47 (by decide) ?_
    obtain ⟨S7, eS7, hf⟩ := bn_ob hf
    refine x_put (pc := 48) X hw in_X10_isNumber_X10 tyX10 tyX10_ok nmX10 0 rfl rfl 31 (by decide) (List.mem_of_getElem? (i := 5) rfl) rfl rfl rfl (Nat.le_of_ble_eq_true rfl) dX10_isNumber_48 (ws2 := wX10 cs a q S7) (by rw [eS7]; rfl) (fun H locs hw => ?_)
    refine lv_aload_n (pc := 51) hx hb dX10_isNumber_51 rfl (lv_at hl 1 rfl) ?_
    refine x_get (pc := 52) X hw in_X10_isNumber_X10 0 rfl rfl 29 (by decide) (List.mem_of_getElem? (i := 1) rfl) rfl dX10_isNumber_52 ?_
    obtain ⟨v8, ev8, hf⟩ := bn_ob hf
    refine x_topi ev8 ?_
    refine lv_istore (lv' := [(4, .int v8), (3, .int v1), (0, .ref a), (1, .int p1), (2, .int p2)]) (pc := 55) hx hb dX10_isNumber_55 hl (by decide) rfl (fun ls hl => ?_)
    have L57 : ∀ (n : Nat) (v9 : Int32) (S10 : PS) (rS10 : PS), L_X10_isNumber_57 v1 n v9 S10 = some rS10 → ∀ (H : Heap) (locs : List Loc) (ls : Array Slot), WD D A s (wX10 cs a q S10) H locs → lv_has ls 5 [(0, .ref a), (1, .int p1), (2, .int p2), (3, .int v1), (4, .int v9)] → (∀ (H : Heap) (locs : List Loc) (ls : Array Slot), WD D A s (wX10 cs a q rS10) H locs → lv_has ls 5 [(0, .ref a), (1, .int p1), (2, .int p2), (3, .int v1)] → W p l e rmX10_isNumber s m args below meth c H locs 0 0 Q (F0 m 98 ls [])) → W p l e rmX10_isNumber s m args below meth c H locs 0 0 Q (F0 m 57 ls []) := by
      intro n
      induction n with
      | zero => intro v9 S10 rS10 hf; exact (loopF_z hf).elim
      | succ n ih =>
        intro v9 S10 rS10 hf H locs ls hw hl K
        obtain ⟨x, hf, hx0⟩ := loopF_ob hf
        have hf : B_X10_isNumber_57 v1 v9 S10 = some x := hf
        unfold B_X10_isNumber_57 at hf
        refine lv_iload_n (pc := 57) hx hb dX10_isNumber_57 rfl (lv_at hl 3 rfl) ?_
        refine lv_if_eq (pc := 58) (tgt := 98) hx hb dX10_isNumber_58 (by decide) (fun c11 => ?_) (fun c11 => ?_)
        · have hf := ipos c11 hf
          cases hf
          cases (hx0 : S10 = rS10)
          exact K _ _ _ hw (lv_sub hl [0, 1, 2, 3] rfl)
        · have hf := ineg c11 hf
          refine lv_iload (pc := 61) hx hb dX10_isNumber_61 (lv_at hl 4 rfl) ?_
          refine lv_aload_n (pc := 63) hx hb dX10_isNumber_63 rfl (lv_at hl 0 rfl) ?_
          refine x_get (pc := 64) X hw in_X10_isNumber_X10 0 rfl rfl 30 (by decide) (List.mem_of_getElem? (i := 4) rfl) rfl dX10_isNumber_64 ?_
          refine lv_icmp_ge (pc := 67) (tgt := 98) hx hb dX10_isNumber_67 (by decide) (fun c12 => ?_) (fun c12 => ?_)
          · have hf := ipos c12 hf
            cases hf
            cases (hx0 : S10 = rS10)
            exact K _ _ _ hw (lv_sub hl [0, 1, 2, 3] rfl)
          · have hf := ineg c12 hf
            refine lv_aload_n (pc := 70) hx hb dX10_isNumber_70 rfl (lv_at hl 0 rfl) ?_
            refine lv_bipush (pc := 71) (v := 10) hx hb dX10_isNumber_71 (by decide) ?_
            refine lv_aload_n (pc := 73) hx hb dX10_isNumber_73 rfl (lv_at hl 0 rfl) ?_
            refine x_get (pc := 74) X hw in_X10_isNumber_X10 0 rfl rfl 31 (by decide) (List.mem_of_getElem? (i := 5) rfl) rfl dX10_isNumber_74 ?_
            refine lv_imul (pc := 77) hx hb dX10_isNumber_77 ?_
            refine lv_aload_n (pc := 78) hx hb dX10_isNumber_78 rfl (lv_at hl 0 rfl) ?_
            refine x_get (pc := 79) X hw in_X10_isNumber_X10 0 rfl rfl 0 (by decide) (List.mem_of_getElem? (i := 3) rfl) rfl dX10_isNumber_79 ?_
            refine lv_iload (pc := 82) hx hb dX10_isNumber_82 (lv_at hl 4 rfl) ?_
            obtain ⟨v13, ev13, hf⟩ := b1_ob hf
            refine x_iald (pc := 84) X hw 1 0 rfl rfl ev13 dX10_isNumber_84 ?_
            refine lv_iadd (pc := 85) hx hb dX10_isNumber_85 ?_
            refine lv_bipush (pc := 86) (v := 48) hx hb dX10_isNumber_86 (by decide) ?_
            refine lv_isub (pc := 88) hx hb dX10_isNumber_88 ?_
            obtain ⟨S14, eS14, hf⟩ := bn_ob hf
            refine x_put (pc := 89) X hw in_X10_isNumber_X10 tyX10 tyX10_ok nmX10 0 rfl rfl 31 (by decide) (List.mem_of_getElem? (i := 5) rfl) rfl rfl rfl (Nat.le_of_ble_eq_true rfl) dX10_isNumber_89 (ws2 := wX10 cs a q S14) (by rw [eS14]; rfl) (fun H locs hw => ?_)
            obtain ⟨v15, ev15, hf⟩ := bn_ob hf
            refine lv_iinc (pc := 92) (v := v15) (lv' := [(4, .int v15), (0, .ref a), (1, .int p1), (2, .int p2), (3, .int v1)]) hx hb dX10_isNumber_92 hl (k := 4) rfl (by rw [ev15]; rfl) (by decide) rfl (fun ls hl => ?_)
            refine lv_goto (pc := 95) (tgt := 57) hx hb dX10_isNumber_95 (by decide) ?_
            cases hf
            exact ih v15 S14 rS10 hx0 _ _ _ hw (lv_sub hl [1, 2, 3, 4, 0] rfl) K
    obtain ⟨S16, hj, hf⟩ := b1_ob hf
    refine L57 _ v8 S7 S16 hj _ _ _ hw (lv_sub hl [2, 3, 4, 1, 0] rfl) (fun H locs ls hw hl => ?_)
    clear hj L57
    refine lv_iload_n (pc := 98) hx hb dX10_isNumber_98 rfl (lv_at hl 3 rfl) ?_
    obtain ⟨v17, hj, hf⟩ := b1_ob hf
    have J122_16 : ∀ (H : Heap) (locs : List Loc) (ls : Array Slot), WD D A s (wX10 cs a q S16) H locs → lv_has ls 5 [] → W p l e rmX10_isNumber s m args below meth c H locs 0 0 Q (F0 m 122 ls [.int v17]) := by
      intro H locs ls hw hl
      obtain ⟨v21, ev21, hf⟩ := b1_ob hf
      refine x_topi (ckB_ob ev21).1.symm ?_
      cases hf
      exact hret _ _ 122 _ hw ⟨_, rfl, ckB_nar (ckB_ob ev21).2⟩ dX10_isNumber_122
    clear hf; have hf := hj; clear hj
    refine lv_if_eq (pc := 99) (tgt := 121) hx hb dX10_isNumber_99 (by decide) (fun c18 => ?_) (fun c18 => ?_)
    · have hf := ipos c18 hf
      refine lv_iconst (pc := 121) (v := 0) hx hb dX10_isNumber_121 (by decide) ?_
      cases hf
      exact J122_16 _ _ _ hw (lv_sub hl [] rfl)
    · have hf := ineg c18 hf
      refine lv_aload_n (pc := 102) hx hb dX10_isNumber_102 rfl (lv_at hl 0 rfl) ?_
      refine x_get (pc := 103) X hw in_X10_isNumber_X10 0 rfl rfl 31 (by decide) (List.mem_of_getElem? (i := 5) rfl) rfl dX10_isNumber_103 ?_
      refine lv_i2l (pc := 106) hx hb dX10_isNumber_106 rfl ?_
      refine lv_iload_n (pc := 107) hx hb dX10_isNumber_107 rfl (lv_at hl 1 rfl) ?_
      refine lv_i2l (pc := 108) hx hb dX10_isNumber_108 rfl ?_
      refine lv_iload_n (pc := 109) hx hb dX10_isNumber_109 rfl (lv_at hl 2 rfl) ?_
      refine lv_i2l (pc := 110) hx hb dX10_isNumber_110 rfl ?_
      obtain ⟨v19, hc, hf⟩ := b1_ob hf
      refine x_nil (pc := 111) X hw (va_runS (As := [.long ((S16.1 31).toInt64), .long (p1.toInt64), .long (p2.toInt64)]) (rest := []) ⟨hx, hb, hml, hown, hts⟩ (c_X10_in l D cs ((S16.1 31).toInt64) (p1.toInt64) (p2.toInt64) v19 hc _) (va_cwS 3 hts gX10_isNumber_X10_in rfl rfl rfl (by decide +kernel) ⟨Nat.le_of_ble_eq_true rfl, Nat.le_of_ble_eq_true rfl⟩) ⟨CP_blind, x_preN X [.long ((S16.1 31).toInt64), .long (p1.toInt64), .long (p2.toInt64)]⟩ rfl rfl hl.1 rfl (lv_room (Nat.le_of_ble_eq_true rfl)) dX10_isNumber_111 ⟨Nat.zero_le _, Nat.zero_le _⟩) (fun H locs hw => ?_)
      refine lv_if_eq (pc := 114) (tgt := 121) hx hb dX10_isNumber_114 (by decide) (fun c20 => ?_) (fun c20 => ?_)
      · have hf := ipos c20 hf
        refine lv_iconst (pc := 121) (v := 0) hx hb dX10_isNumber_121 (by decide) ?_
        cases hf
        exact J122_16 _ _ _ hw (lv_sub hl [] rfl)
      · have hf := ineg c20 hf
        refine lv_iconst (pc := 117) (v := 1) hx hb dX10_isNumber_117 (by decide) ?_
        refine lv_goto (pc := 118) (tgt := 122) hx hb dX10_isNumber_118 (by decide) ?_
        cases hf
        exact J122_16 _ _ _ hw (lv_sub hl [] rfl)
  clear hf; have hf := hj; clear hj
  refine lv_icmp_ge (pc := 8) (tgt := 44) hx hb dX10_isNumber_8 (by decide) (fun c2 => ?_) (fun c2 => ?_)
  · have hf := ipos c2 hf
    refine lv_iconst (pc := 44) (v := 0) hx hb dX10_isNumber_44 (by decide) ?_
    cases hf
    exact J45_0 _ _ _ hw (lv_sub hl [0, 1, 2] rfl)
  · have hf := ineg c2 hf
    refine lv_aload_n (pc := 11) hx hb dX10_isNumber_11 rfl (lv_at hl 0 rfl) ?_
    refine x_get (pc := 12) X hw in_X10_isNumber_X10 0 rfl rfl 0 (by decide) (List.mem_of_getElem? (i := 3) rfl) rfl dX10_isNumber_12 ?_
    refine lv_aload_n (pc := 15) hx hb dX10_isNumber_15 rfl (lv_at hl 0 rfl) ?_
    refine x_get (pc := 16) X hw in_X10_isNumber_X10 0 rfl rfl 29 (by decide) (List.mem_of_getElem? (i := 1) rfl) rfl dX10_isNumber_16 ?_
    obtain ⟨v3, ev3, hf⟩ := b1_ob hf
    refine x_iald (pc := 19) X hw 1 0 rfl rfl ev3 dX10_isNumber_19 ?_
    obtain ⟨v4, hc, hf⟩ := b1_ob hf
    refine x_nil (pc := 20) X hw (va_runS (As := [.int v3]) (rest := []) ⟨hx, hb, hml, hown, hts⟩ (c_X10_sort l D cs v3 v4 hc _) (va_cwS 1 hts gX10_isNumber_X10_sort rfl rfl rfl (by decide +kernel) ⟨Nat.le_of_ble_eq_true rfl, Nat.le_of_ble_eq_true rfl⟩) ⟨CP_blind, x_preN X [.int v3]⟩ rfl rfl hl.1 rfl (lv_room (Nat.le_of_ble_eq_true rfl)) dX10_isNumber_20 ⟨Nat.zero_le _, Nat.zero_le _⟩) (fun H locs hw => ?_)
    refine lv_iconst (pc := 23) (v := 2) hx hb dX10_isNumber_23 (by decide) ?_
    refine lv_icmp_ne (pc := 24) (tgt := 44) hx hb dX10_isNumber_24 (by decide) (fun c5 => ?_) (fun c5 => ?_)
    · have hf := ineg c5 hf
      refine lv_iconst (pc := 44) (v := 0) hx hb dX10_isNumber_44 (by decide) ?_
      cases hf
      exact J45_0 _ _ _ hw (lv_sub hl [0, 1, 2] rfl)
    · have hf := ipos c5 hf
      refine lv_aload_n (pc := 27) hx hb dX10_isNumber_27 rfl (lv_at hl 0 rfl) ?_
      refine x_get (pc := 28) X hw in_X10_isNumber_X10 0 rfl rfl 30 (by decide) (List.mem_of_getElem? (i := 4) rfl) rfl dX10_isNumber_28 ?_
      refine lv_aload_n (pc := 31) hx hb dX10_isNumber_31 rfl (lv_at hl 0 rfl) ?_
      refine x_get (pc := 32) X hw in_X10_isNumber_X10 0 rfl rfl 29 (by decide) (List.mem_of_getElem? (i := 1) rfl) rfl dX10_isNumber_32 ?_
      refine lv_isub (pc := 35) hx hb dX10_isNumber_35 ?_
      refine lv_iconst (pc := 36) (v := 2) hx hb dX10_isNumber_36 (by decide) ?_
      refine lv_icmp_gt (pc := 37) (tgt := 44) hx hb dX10_isNumber_37 (by decide) (fun c6 => ?_) (fun c6 => ?_)
      · have hf := ipos c6 hf
        refine lv_iconst (pc := 44) (v := 0) hx hb dX10_isNumber_44 (by decide) ?_
        cases hf
        exact J45_0 _ _ _ hw (lv_sub hl [0, 1, 2] rfl)
      · have hf := ineg c6 hf
        refine lv_iconst (pc := 40) (v := 1) hx hb dX10_isNumber_40 (by decide) ?_
        refine lv_goto (pc := 41) (tgt := 45) hx hb dX10_isNumber_41 (by decide) ?_
        cases hf
        exact J45_0 _ _ _ hw (lv_sub hl [0, 1, 2] rfl)

theorem in_X10_skipsNumber_X10 : ∀ w ∈ wsX100, w ∈ wsX10_skipsNumber := fun _ h => List.mem_cons_of_mem _ (List.mem_append_right _ h)
abbrev rmX10_skipsNumber : Room := { frames := 2, cells := 0, slots := 0, locals := 49 }
def f_X10_skipsNumber (S : PS) (p1 : Int32) (p2 : Int32) : Option (Int32 × PS) :=
  b2 (f_X10_isNumber S p1 p2) fun v1 S2 =>
  b1 (
    if v1 = 0 then
      some S2
    else
    b1 (f_X10_token S2) fun S5 =>
    some S5) fun S3 =>
  b1 (ckB v1) fun v6 =>
  some (v6, S3)
set_option maxHeartbeats 4000000 in
set_option maxRecDepth 100000 in
theorem c_X10_skipsNumber (l : Launch) (D : va_G) (cs : CS) (a : Nat) (q : Nat → Nat) (S : PS) (p1 : Int32) (p2 : Int32) (r : Int32) (S' : PS) (hf : f_X10_skipsNumber S p1 p2 = some (r, S')) : CT l D (TY cs) yX10_skipsNumber wsX10_skipsNumber rmX10_skipsNumber [.ref a, .int p1, .int p2] (wX10 cs a q S) (some (.int r)) (wX10 cs a q S') := by
  refine CT.ofW (own := RX10) (cc := cX10_skipsNumber) (maxL := 4) (ret := some .boolean) (by decide) rfl rfl (Nat.le_of_ble_eq_true rfl) ?_
  intro p e s m args below meth c A Q X hret ls hl hw
  obtain ⟨hx, hb, hml, hown, hts, hK, hA, hr, hlk⟩ := id X
  have hl : lv_has ls 4 [(0, .ref a), (1, .int p1), (2, .int p2)] := hl
  unfold f_X10_skipsNumber at hf
  refine lv_aload_n (pc := 0) hx hb dX10_skipsNumber_0 rfl (lv_at hl 0 rfl) ?_
  refine lv_iload_n (pc := 1) hx hb dX10_skipsNumber_1 rfl (lv_at hl 1 rfl) ?_
  refine lv_iload_n (pc := 2) hx hb dX10_skipsNumber_2 rfl (lv_at hl 2 rfl) ?_
  obtain ⟨v1, S2, hc, hf⟩ := b2_ob hf
  refine x_all (pc := 3) X hw (va_runV (As := [.int p1, .int p2]) (rest := []) ⟨hx, hb, hml, hown, hts⟩ (c_X10_isNumber l D cs a q S p1 p2 v1 S2 hc _) (cwV 2 hts gX10_skipsNumber_X10_isNumber rfl rfl rfl (by decide +kernel) ⟨Nat.le_of_ble_eq_true rfl, Nat.le_of_ble_eq_true rfl⟩) ⟨CP_blind, va_recv hK hw.1 (ci := 10) (q0 := 0) rfl rfl, x_preA X hw [.ref a, .int p1, .int p2]⟩ rfl rfl hl.1 rfl (lv_room (Nat.le_of_ble_eq_true rfl)) dX10_skipsNumber_3 ⟨Nat.zero_le _, Nat.zero_le _⟩) (fun H locs hw => ?_)
  refine lv_istore_n (lv' := [(3, .int v1), (0, .ref a), (1, .int p1), (2, .int p2)]) (pc := 6) hx hb dX10_skipsNumber_6 rfl hl (by decide) rfl (fun ls hl => ?_)
  refine lv_iload_n (pc := 7) hx hb dX10_skipsNumber_7 rfl (lv_at hl 0 rfl) ?_
  obtain ⟨S3, hj, hf⟩ := b1_ob hf
  have J15_2 : ∀ (H : Heap) (locs : List Loc) (ls : Array Slot), WD D A s (wX10 cs a q S3) H locs → lv_has ls 4 [(3, .int v1)] → W p l e rmX10_skipsNumber s m args below meth c H locs 0 0 Q (F0 m 15 ls []) := by
    intro H locs ls hw hl
    refine lv_iload_n (pc := 15) hx hb dX10_skipsNumber_15 rfl (lv_at hl 0 rfl) ?_
    obtain ⟨v6, ev6, hf⟩ := b1_ob hf
    refine x_topi (ckB_ob ev6).1.symm ?_
    cases hf
    exact hret _ _ 16 _ hw ⟨_, rfl, ckB_nar (ckB_ob ev6).2⟩ dX10_skipsNumber_16
  clear hf; have hf := hj; clear hj
  refine lv_if_eq (pc := 8) (tgt := 15) hx hb dX10_skipsNumber_8 (by decide) (fun c4 => ?_) (fun c4 => ?_)
  · have hf := ipos c4 hf
    cases hf
    exact J15_2 _ _ _ hw (lv_sub hl [0] rfl)
  · have hf := ineg c4 hf
    refine lv_aload_n (pc := 11) hx hb dX10_skipsNumber_11 rfl (lv_at hl 1 rfl) ?_
    obtain ⟨S5, hc, hf⟩ := b1_ob hf
    refine x_all (pc := 12) X hw (va_runV (As := []) (rest := []) ⟨hx, hb, hml, hown, hts⟩ (c_X10_token l D cs a q S2 S5 hc _) (cwV 0 hts gX10_skipsNumber_X10_token rfl rfl rfl (by decide +kernel) ⟨Nat.le_of_ble_eq_true rfl, Nat.le_of_ble_eq_true rfl⟩) ⟨CP_blind, va_recv hK hw.1 (ci := 10) (q0 := 0) rfl rfl, x_preA X hw [.ref a]⟩ rfl rfl hl.1 rfl (lv_room (Nat.le_of_ble_eq_true rfl)) dX10_skipsNumber_12 ⟨Nat.zero_le _, Nat.zero_le _⟩) (fun H locs hw => ?_)
    cases hf
    exact J15_2 _ _ _ hw (lv_sub hl [0] rfl)

theorem in_X10_wordNow_X10 : ∀ w ∈ wsX100, w ∈ wsX10_wordNow := fun _ h => List.mem_cons_of_mem _ (List.mem_append_right _ h)
abbrev rmX10_wordNow : Room := { frames := 1, cells := 0, slots := 0, locals := 24 }
def f_X10_wordNow (S : PS) : Option (Int32) :=
  b1 (f_X10_isWord S (755268) 4) fun v1 =>
  b1 (
    if v1 = 0 then
      b1 (f_X10_isWord S 457 2) fun v4 =>
      if v4 = 0 then
        b1 (f_X10_isWord S 617 2) fun v6 =>
        if v6 = 0 then
          b1 (f_X10_isWord S 4225 3) fun v8 =>
          if v8 = 0 then
            b1 (f_X10_isWord S 12973 3) fun v10 =>
            if v10 = 0 then
              b1 (f_X10_isWord S 18936 3) fun v12 =>
              if v12 = 0 then
                b1 (f_X10_isWord S (642220) 4) fun v14 =>
                if v14 = 0 then
                  b1 (f_X10_isWord S (363824) 4) fun v16 =>
                  if v16 = 0 then
                    some ((-1) : Int32)
                  else
                  some (7 : Int32)
                else
                some (6 : Int32)
              else
              some (5 : Int32)
            else
            some (4 : Int32)
          else
          some (3 : Int32)
        else
        some (2 : Int32)
      else
      some (1 : Int32)
    else
    some (0 : Int32)) fun v2 =>
  some v2
set_option maxHeartbeats 4000000 in
set_option maxRecDepth 100000 in
theorem c_X10_wordNow (l : Launch) (D : va_G) (cs : CS) (a : Nat) (q : Nat → Nat) (S : PS) (r : Int32) (hf : f_X10_wordNow S = some r) : CT l D (TY cs) yX10_wordNow wsX10_wordNow rmX10_wordNow [.ref a] (wX10 cs a q S) (some (.int r)) (wX10 cs a q S) := by
  refine CT.ofW (own := RX10) (cc := cX10_wordNow) (maxL := 1) (ret := some .int) (by decide) rfl rfl (Nat.le_of_ble_eq_true rfl) ?_
  intro p e s m args below meth c A Q X hret ls hl hw
  obtain ⟨hx, hb, hml, hown, hts, hK, hA, hr, hlk⟩ := id X
  have hl : lv_has ls 1 [(0, .ref a)] := hl
  unfold f_X10_wordNow at hf
  refine lv_aload_n (pc := 0) hx hb dX10_wordNow_0 rfl (lv_at hl 0 rfl) ?_
  refine lv_ldc (pc := 1) (v := (755268)) hx hb hown (hts _ (List.mem_of_getElem? (i := 1) rfl)) dX10_wordNow_1 ?_
  refine lv_iconst (pc := 3) (v := 4) hx hb dX10_wordNow_3 (by decide) ?_
  obtain ⟨v1, hc, hf⟩ := b1_ob hf
  refine x_all (pc := 4) X hw (va_runV (As := [.int (755268), .int 4]) (rest := []) ⟨hx, hb, hml, hown, hts⟩ (c_X10_isWord l D cs a q S (755268) 4 v1 hc _) (cwV 2 hts gX10_wordNow_X10_isWord rfl rfl rfl (by decide +kernel) ⟨Nat.le_of_ble_eq_true rfl, Nat.le_of_ble_eq_true rfl⟩) ⟨CP_blind, va_recv hK hw.1 (ci := 10) (q0 := 0) rfl rfl, x_preA X hw [.ref a, .int (755268), .int 4]⟩ rfl rfl hl.1 rfl (lv_room (Nat.le_of_ble_eq_true rfl)) dX10_wordNow_4 ⟨Nat.zero_le _, Nat.zero_le _⟩) (fun H locs hw => ?_)
  obtain ⟨v2, hj, hf⟩ := b1_ob hf
  have J120_1 : ∀ (H : Heap) (locs : List Loc) (ls : Array Slot), WD D A s (wX10 cs a q S) H locs → lv_has ls 1 [] → W p l e rmX10_wordNow s m args below meth c H locs 0 0 Q (F0 m 120 ls [.int v2]) := by
    intro H locs ls hw hl
    cases hf
    exact hret _ _ 120 _ hw ⟨_, rfl, rfl⟩ dX10_wordNow_120
  clear hf; have hf := hj; clear hj
  refine lv_if_eq (pc := 7) (tgt := 14) hx hb dX10_wordNow_7 (by decide) (fun c3 => ?_) (fun c3 => ?_)
  · have hf := ipos c3 hf
    refine lv_aload_n (pc := 14) hx hb dX10_wordNow_14 rfl (lv_at hl 0 rfl) ?_
    refine lv_sipush (pc := 15) (v := 457) hx hb dX10_wordNow_15 (by decide) ?_
    refine lv_iconst (pc := 18) (v := 2) hx hb dX10_wordNow_18 (by decide) ?_
    obtain ⟨v4, hc, hf⟩ := b1_ob hf
    refine x_all (pc := 19) X hw (va_runV (As := [.int 457, .int 2]) (rest := []) ⟨hx, hb, hml, hown, hts⟩ (c_X10_isWord l D cs a q S 457 2 v4 hc _) (cwV 2 hts gX10_wordNow_X10_isWord rfl rfl rfl (by decide +kernel) ⟨Nat.le_of_ble_eq_true rfl, Nat.le_of_ble_eq_true rfl⟩) ⟨CP_blind, va_recv hK hw.1 (ci := 10) (q0 := 0) rfl rfl, x_preA X hw [.ref a, .int 457, .int 2]⟩ rfl rfl hl.1 rfl (lv_room (Nat.le_of_ble_eq_true rfl)) dX10_wordNow_19 ⟨Nat.zero_le _, Nat.zero_le _⟩) (fun H locs hw => ?_)
    refine lv_if_eq (pc := 22) (tgt := 29) hx hb dX10_wordNow_22 (by decide) (fun c5 => ?_) (fun c5 => ?_)
    · have hf := ipos c5 hf
      refine lv_aload_n (pc := 29) hx hb dX10_wordNow_29 rfl (lv_at hl 0 rfl) ?_
      refine lv_sipush (pc := 30) (v := 617) hx hb dX10_wordNow_30 (by decide) ?_
      refine lv_iconst (pc := 33) (v := 2) hx hb dX10_wordNow_33 (by decide) ?_
      obtain ⟨v6, hc, hf⟩ := b1_ob hf
      refine x_all (pc := 34) X hw (va_runV (As := [.int 617, .int 2]) (rest := []) ⟨hx, hb, hml, hown, hts⟩ (c_X10_isWord l D cs a q S 617 2 v6 hc _) (cwV 2 hts gX10_wordNow_X10_isWord rfl rfl rfl (by decide +kernel) ⟨Nat.le_of_ble_eq_true rfl, Nat.le_of_ble_eq_true rfl⟩) ⟨CP_blind, va_recv hK hw.1 (ci := 10) (q0 := 0) rfl rfl, x_preA X hw [.ref a, .int 617, .int 2]⟩ rfl rfl hl.1 rfl (lv_room (Nat.le_of_ble_eq_true rfl)) dX10_wordNow_34 ⟨Nat.zero_le _, Nat.zero_le _⟩) (fun H locs hw => ?_)
      refine lv_if_eq (pc := 37) (tgt := 44) hx hb dX10_wordNow_37 (by decide) (fun c7 => ?_) (fun c7 => ?_)
      · have hf := ipos c7 hf
        refine lv_aload_n (pc := 44) hx hb dX10_wordNow_44 rfl (lv_at hl 0 rfl) ?_
        refine lv_sipush (pc := 45) (v := 4225) hx hb dX10_wordNow_45 (by decide) ?_
        refine lv_iconst (pc := 48) (v := 3) hx hb dX10_wordNow_48 (by decide) ?_
        obtain ⟨v8, hc, hf⟩ := b1_ob hf
        refine x_all (pc := 49) X hw (va_runV (As := [.int 4225, .int 3]) (rest := []) ⟨hx, hb, hml, hown, hts⟩ (c_X10_isWord l D cs a q S 4225 3 v8 hc _) (cwV 2 hts gX10_wordNow_X10_isWord rfl rfl rfl (by decide +kernel) ⟨Nat.le_of_ble_eq_true rfl, Nat.le_of_ble_eq_true rfl⟩) ⟨CP_blind, va_recv hK hw.1 (ci := 10) (q0 := 0) rfl rfl, x_preA X hw [.ref a, .int 4225, .int 3]⟩ rfl rfl hl.1 rfl (lv_room (Nat.le_of_ble_eq_true rfl)) dX10_wordNow_49 ⟨Nat.zero_le _, Nat.zero_le _⟩) (fun H locs hw => ?_)
        refine lv_if_eq (pc := 52) (tgt := 59) hx hb dX10_wordNow_52 (by decide) (fun c9 => ?_) (fun c9 => ?_)
        · have hf := ipos c9 hf
          refine lv_aload_n (pc := 59) hx hb dX10_wordNow_59 rfl (lv_at hl 0 rfl) ?_
          refine lv_sipush (pc := 60) (v := 12973) hx hb dX10_wordNow_60 (by decide) ?_
          refine lv_iconst (pc := 63) (v := 3) hx hb dX10_wordNow_63 (by decide) ?_
          obtain ⟨v10, hc, hf⟩ := b1_ob hf
          refine x_all (pc := 64) X hw (va_runV (As := [.int 12973, .int 3]) (rest := []) ⟨hx, hb, hml, hown, hts⟩ (c_X10_isWord l D cs a q S 12973 3 v10 hc _) (cwV 2 hts gX10_wordNow_X10_isWord rfl rfl rfl (by decide +kernel) ⟨Nat.le_of_ble_eq_true rfl, Nat.le_of_ble_eq_true rfl⟩) ⟨CP_blind, va_recv hK hw.1 (ci := 10) (q0 := 0) rfl rfl, x_preA X hw [.ref a, .int 12973, .int 3]⟩ rfl rfl hl.1 rfl (lv_room (Nat.le_of_ble_eq_true rfl)) dX10_wordNow_64 ⟨Nat.zero_le _, Nat.zero_le _⟩) (fun H locs hw => ?_)
          refine lv_if_eq (pc := 67) (tgt := 74) hx hb dX10_wordNow_67 (by decide) (fun c11 => ?_) (fun c11 => ?_)
          · have hf := ipos c11 hf
            refine lv_aload_n (pc := 74) hx hb dX10_wordNow_74 rfl (lv_at hl 0 rfl) ?_
            refine lv_sipush (pc := 75) (v := 18936) hx hb dX10_wordNow_75 (by decide) ?_
            refine lv_iconst (pc := 78) (v := 3) hx hb dX10_wordNow_78 (by decide) ?_
            obtain ⟨v12, hc, hf⟩ := b1_ob hf
            refine x_all (pc := 79) X hw (va_runV (As := [.int 18936, .int 3]) (rest := []) ⟨hx, hb, hml, hown, hts⟩ (c_X10_isWord l D cs a q S 18936 3 v12 hc _) (cwV 2 hts gX10_wordNow_X10_isWord rfl rfl rfl (by decide +kernel) ⟨Nat.le_of_ble_eq_true rfl, Nat.le_of_ble_eq_true rfl⟩) ⟨CP_blind, va_recv hK hw.1 (ci := 10) (q0 := 0) rfl rfl, x_preA X hw [.ref a, .int 18936, .int 3]⟩ rfl rfl hl.1 rfl (lv_room (Nat.le_of_ble_eq_true rfl)) dX10_wordNow_79 ⟨Nat.zero_le _, Nat.zero_le _⟩) (fun H locs hw => ?_)
            refine lv_if_eq (pc := 82) (tgt := 89) hx hb dX10_wordNow_82 (by decide) (fun c13 => ?_) (fun c13 => ?_)
            · have hf := ipos c13 hf
              refine lv_aload_n (pc := 89) hx hb dX10_wordNow_89 rfl (lv_at hl 0 rfl) ?_
              refine lv_ldc (pc := 90) (v := (642220)) hx hb hown (hts _ (List.mem_of_getElem? (i := 2) rfl)) dX10_wordNow_90 ?_
              refine lv_iconst (pc := 92) (v := 4) hx hb dX10_wordNow_92 (by decide) ?_
              obtain ⟨v14, hc, hf⟩ := b1_ob hf
              refine x_all (pc := 93) X hw (va_runV (As := [.int (642220), .int 4]) (rest := []) ⟨hx, hb, hml, hown, hts⟩ (c_X10_isWord l D cs a q S (642220) 4 v14 hc _) (cwV 2 hts gX10_wordNow_X10_isWord rfl rfl rfl (by decide +kernel) ⟨Nat.le_of_ble_eq_true rfl, Nat.le_of_ble_eq_true rfl⟩) ⟨CP_blind, va_recv hK hw.1 (ci := 10) (q0 := 0) rfl rfl, x_preA X hw [.ref a, .int (642220), .int 4]⟩ rfl rfl hl.1 rfl (lv_room (Nat.le_of_ble_eq_true rfl)) dX10_wordNow_93 ⟨Nat.zero_le _, Nat.zero_le _⟩) (fun H locs hw => ?_)
              refine lv_if_eq (pc := 96) (tgt := 104) hx hb dX10_wordNow_96 (by decide) (fun c15 => ?_) (fun c15 => ?_)
              · have hf := ipos c15 hf
                refine lv_aload_n (pc := 104) hx hb dX10_wordNow_104 rfl (lv_at hl 0 rfl) ?_
                refine lv_ldc (pc := 105) (v := (363824)) hx hb hown (hts _ (List.mem_of_getElem? (i := 3) rfl)) dX10_wordNow_105 ?_
                refine lv_iconst (pc := 107) (v := 4) hx hb dX10_wordNow_107 (by decide) ?_
                obtain ⟨v16, hc, hf⟩ := b1_ob hf
                refine x_all (pc := 108) X hw (va_runV (As := [.int (363824), .int 4]) (rest := []) ⟨hx, hb, hml, hown, hts⟩ (c_X10_isWord l D cs a q S (363824) 4 v16 hc _) (cwV 2 hts gX10_wordNow_X10_isWord rfl rfl rfl (by decide +kernel) ⟨Nat.le_of_ble_eq_true rfl, Nat.le_of_ble_eq_true rfl⟩) ⟨CP_blind, va_recv hK hw.1 (ci := 10) (q0 := 0) rfl rfl, x_preA X hw [.ref a, .int (363824), .int 4]⟩ rfl rfl hl.1 rfl (lv_room (Nat.le_of_ble_eq_true rfl)) dX10_wordNow_108 ⟨Nat.zero_le _, Nat.zero_le _⟩) (fun H locs hw => ?_)
                refine lv_if_eq (pc := 111) (tgt := 119) hx hb dX10_wordNow_111 (by decide) (fun c17 => ?_) (fun c17 => ?_)
                · have hf := ipos c17 hf
                  refine lv_iconst (pc := 119) (v := (-1)) hx hb dX10_wordNow_119 (by decide) ?_
                  cases hf
                  exact J120_1 _ _ _ hw (lv_sub hl [] rfl)
                · have hf := ineg c17 hf
                  refine lv_bipush (pc := 114) (v := 7) hx hb dX10_wordNow_114 (by decide) ?_
                  refine lv_goto (pc := 116) (tgt := 120) hx hb dX10_wordNow_116 (by decide) ?_
                  cases hf
                  exact J120_1 _ _ _ hw (lv_sub hl [] rfl)
              · have hf := ineg c15 hf
                refine lv_bipush (pc := 99) (v := 6) hx hb dX10_wordNow_99 (by decide) ?_
                refine lv_goto (pc := 101) (tgt := 120) hx hb dX10_wordNow_101 (by decide) ?_
                cases hf
                exact J120_1 _ _ _ hw (lv_sub hl [] rfl)
            · have hf := ineg c13 hf
              refine lv_iconst (pc := 85) (v := 5) hx hb dX10_wordNow_85 (by decide) ?_
              refine lv_goto (pc := 86) (tgt := 120) hx hb dX10_wordNow_86 (by decide) ?_
              cases hf
              exact J120_1 _ _ _ hw (lv_sub hl [] rfl)
          · have hf := ineg c11 hf
            refine lv_iconst (pc := 70) (v := 4) hx hb dX10_wordNow_70 (by decide) ?_
            refine lv_goto (pc := 71) (tgt := 120) hx hb dX10_wordNow_71 (by decide) ?_
            cases hf
            exact J120_1 _ _ _ hw (lv_sub hl [] rfl)
        · have hf := ineg c9 hf
          refine lv_iconst (pc := 55) (v := 3) hx hb dX10_wordNow_55 (by decide) ?_
          refine lv_goto (pc := 56) (tgt := 120) hx hb dX10_wordNow_56 (by decide) ?_
          cases hf
          exact J120_1 _ _ _ hw (lv_sub hl [] rfl)
      · have hf := ineg c7 hf
        refine lv_iconst (pc := 40) (v := 2) hx hb dX10_wordNow_40 (by decide) ?_
        refine lv_goto (pc := 41) (tgt := 120) hx hb dX10_wordNow_41 (by decide) ?_
        cases hf
        exact J120_1 _ _ _ hw (lv_sub hl [] rfl)
    · have hf := ineg c5 hf
      refine lv_iconst (pc := 25) (v := 1) hx hb dX10_wordNow_25 (by decide) ?_
      refine lv_goto (pc := 26) (tgt := 120) hx hb dX10_wordNow_26 (by decide) ?_
      cases hf
      exact J120_1 _ _ _ hw (lv_sub hl [] rfl)
  · have hf := ineg c3 hf
    refine lv_iconst (pc := 10) (v := 0) hx hb dX10_wordNow_10 (by decide) ?_
    refine lv_goto (pc := 11) (tgt := 120) hx hb dX10_wordNow_11 (by decide) ?_
    cases hf
    exact J120_1 _ _ _ hw (lv_sub hl [] rfl)

theorem in_X10_readsArgs_X10 : ∀ w ∈ wsX100, w ∈ wsX10_readsArgs := fun _ h => List.mem_cons_of_mem _ (List.mem_append_right _ h)
abbrev rmX10_readsArgs : Room := { frames := 3, cells := 0, slots := 0, locals := 72 }
def f_X10_readsArgs (S : PS) (p1 : Int32) : Option (Int32 × PS) :=
  b1 (rdI 40 (S.2.1 2) p1) fun v1 =>
  if v1 = 0 then
    b2 (f_X10_isNumber S 2 8) fun v25 S26 =>
    if v25 = 0 then
      some (0, S26)
    else
    if ((S26.1 32) * (S26.1 31)) ≤ 64 then
      bn (sI S26 32 ((S26.1 32) * (S26.1 31))) fun S29 =>
      b1 (wA 40 S29 4 p1 (S29.1 31)) fun S30 =>
      b1 (f_X10_token S30) fun S31 =>
      some (1, S31)
    else
    some (0, S26)
  else
  b1 (
    if v1 = 1 then
      some (4 : Int32)
    else
    if v1 = 2 then
      some (15 : Int32)
    else
    some (7 : Int32)) fun v3 =>
  b2 (f_X10_skipsNumber S 0 v3) fun v6 S7 =>
  if v6 = 0 then
    some (0, S7)
  else
  b1 (wA 40 S7 4 p1 (S7.1 31)) fun S9 =>
  if v1 ≤ 2 then
    if v1 = 7 then
      b2 (f_X10_skipsNumber S9 0 7) fun v12 S13 =>
      if v12 = 0 then
        some (0, S13)
      else
      b1 (wA 40 S13 6 p1 (S13.1 31)) fun S15 =>
      some (1, S15)
    else
    some (1, S9)
  else
  b2 (f_X10_skipsNumber S9 0 7) fun v16 S17 =>
  if v16 = 0 then
    some (0, S17)
  else
  b1 (wA 40 S17 5 p1 (S17.1 31)) fun S19 =>
  if v1 = 7 then
    b2 (f_X10_skipsNumber S19 0 7) fun v21 S22 =>
    if v21 = 0 then
      some (0, S22)
    else
    b1 (wA 40 S22 6 p1 (S22.1 31)) fun S24 =>
    some (1, S24)
  else
  some (1, S19)
set_option maxHeartbeats 4000000 in
set_option maxRecDepth 100000 in
theorem c_X10_readsArgs (l : Launch) (D : va_G) (cs : CS) (a : Nat) (q : Nat → Nat) (S : PS) (p1 : Int32) (r : Int32) (S' : PS) (hf : f_X10_readsArgs S p1 = some (r, S')) : CT l D (TY cs) yX10_readsArgs wsX10_readsArgs rmX10_readsArgs [.ref a, .int p1] (wX10 cs a q S) (some (.int r)) (wX10 cs a q S') := by
  refine CT.ofW (own := RX10) (cc := cX10_readsArgs) (maxL := 3) (ret := some .boolean) (by decide) rfl rfl (Nat.le_of_ble_eq_true rfl) ?_
  intro p e s m args below meth c A Q X hret ls hl hw
  obtain ⟨hx, hb, hml, hown, hts, hK, hA, hr, hlk⟩ := id X
  have hl : lv_has ls 3 [(0, .ref a), (1, .int p1)] := hl
  unfold f_X10_readsArgs at hf
  refine lv_aload_n (pc := 0) hx hb dX10_readsArgs_0 rfl (lv_at hl 0 rfl) ?_
  refine x_get (pc := 1) X hw in_X10_readsArgs_X10 0 rfl rfl 2 (by decide) (List.mem_of_getElem? (i := 1) rfl) rfl dX10_readsArgs_1 ?_
  refine lv_iload_n (pc := 4) hx hb dX10_readsArgs_4 rfl (lv_at hl 1 rfl) ?_
  obtain ⟨v1, ev1, hf⟩ := b1_ob hf
  refine x_iald (pc := 5) X hw 2 0 rfl rfl ev1 dX10_readsArgs_5 ?_
  refine lv_istore_n (lv' := [(2, .int v1), (0, .ref a), (1, .int p1)]) (pc := 6) hx hb dX10_readsArgs_6 rfl hl (by decide) rfl (fun ls hl => ?_)
  refine lv_iload_n (pc := 7) hx hb dX10_readsArgs_7 rfl (lv_at hl 0 rfl) ?_
  refine lv_if_ne (pc := 8) (tgt := 66) hx hb dX10_readsArgs_8 (by decide) (fun c2 => ?_) (fun c2 => ?_)
  · have hf := ineg c2 hf
    refine lv_aload_n (pc := 66) hx hb dX10_readsArgs_66 rfl (lv_at hl 1 rfl) ?_
    refine lv_iconst (pc := 67) (v := 0) hx hb dX10_readsArgs_67 (by decide) ?_
    refine lv_iload_n (pc := 68) hx hb dX10_readsArgs_68 rfl (lv_at hl 0 rfl) ?_
    refine lv_iconst (pc := 69) (v := 1) hx hb dX10_readsArgs_69 (by decide) ?_
    obtain ⟨v3, hj, hf⟩ := b1_ob hf
    have J89_2 : ∀ (H : Heap) (locs : List Loc) (ls : Array Slot), WD D A s (wX10 cs a q S) H locs → lv_has ls 3 [(0, .ref a), (1, .int p1), (2, .int v1)] → W p l e rmX10_readsArgs s m args below meth c H locs 0 0 Q (F0 m 89 ls [.int v3, .int 0, .ref a]) := by
      intro H locs ls hw hl
      obtain ⟨v6, S7, hc, hf⟩ := b2_ob hf
      refine x_all (pc := 89) X hw (va_runV (As := [.int 0, .int v3]) (rest := []) ⟨hx, hb, hml, hown, hts⟩ (c_X10_skipsNumber l D cs a q S 0 v3 v6 S7 hc _) (cwV 2 hts gX10_readsArgs_X10_skipsNumber rfl rfl rfl (by decide +kernel) ⟨Nat.le_of_ble_eq_true rfl, Nat.le_of_ble_eq_true rfl⟩) ⟨CP_blind, va_recv hK hw.1 (ci := 10) (q0 := 0) rfl rfl, x_preA X hw [.ref a, .int 0, .int v3]⟩ rfl rfl hl.1 rfl (lv_room (Nat.le_of_ble_eq_true rfl)) dX10_readsArgs_89 ⟨Nat.zero_le _, Nat.zero_le _⟩) (fun H locs hw => ?_)
      refine lv_if_ne (pc := 92) (tgt := 97) hx hb dX10_readsArgs_92 (by decide) (fun c8 => ?_) (fun c8 => ?_)
      · have hf := ineg c8 hf
        refine lv_aload_n (pc := 97) hx hb dX10_readsArgs_97 rfl (lv_at hl 0 rfl) ?_
        refine x_get (pc := 98) X hw in_X10_readsArgs_X10 0 rfl rfl 4 (by decide) (List.mem_of_getElem? (i := 4) rfl) rfl dX10_readsArgs_98 ?_
        refine lv_iload_n (pc := 101) hx hb dX10_readsArgs_101 rfl (lv_at hl 1 rfl) ?_
        refine lv_aload_n (pc := 102) hx hb dX10_readsArgs_102 rfl (lv_at hl 0 rfl) ?_
        refine x_get (pc := 103) X hw in_X10_readsArgs_X10 0 rfl rfl 31 (by decide) (List.mem_of_getElem? (i := 3) rfl) rfl dX10_readsArgs_103 ?_
        obtain ⟨S9, eS9, hf⟩ := b1_ob hf
        refine x_iast (pc := 106) X hw 4 0 rfl rfl (wA_ob eS9).1 dX10_readsArgs_106 (ws2 := wX10 cs a q S9) (by rw [(wA_ob eS9).2]; rfl) (fun H locs hw => ?_)
        refine lv_iload_n (pc := 107) hx hb dX10_readsArgs_107 rfl (lv_at hl 2 rfl) ?_
        refine lv_iconst (pc := 108) (v := 2) hx hb dX10_readsArgs_108 (by decide) ?_
        refine lv_icmp_le (pc := 109) (tgt := 134) hx hb dX10_readsArgs_109 (by decide) (fun c10 => ?_) (fun c10 => ?_)
        · have hf := ipos c10 hf
          refine lv_iload_n (pc := 134) hx hb dX10_readsArgs_134 rfl (lv_at hl 2 rfl) ?_
          refine lv_bipush (pc := 135) (v := 7) hx hb dX10_readsArgs_135 (by decide) ?_
          refine lv_icmp_ne (pc := 137) (tgt := 162) hx hb dX10_readsArgs_137 (by decide) (fun c11 => ?_) (fun c11 => ?_)
          · have hf := ineg c11 hf
            refine lv_iconst (pc := 162) (v := 1) hx hb dX10_readsArgs_162 (by decide) ?_
            cases hf
            exact hret _ _ 163 _ hw ⟨_, rfl, by decide⟩ dX10_readsArgs_163
          · have hf := ipos c11 hf
            refine lv_aload_n (pc := 140) hx hb dX10_readsArgs_140 rfl (lv_at hl 0 rfl) ?_
            refine lv_iconst (pc := 141) (v := 0) hx hb dX10_readsArgs_141 (by decide) ?_
            refine lv_bipush (pc := 142) (v := 7) hx hb dX10_readsArgs_142 (by decide) ?_
            obtain ⟨v12, S13, hc, hf⟩ := b2_ob hf
            refine x_all (pc := 144) X hw (va_runV (As := [.int 0, .int 7]) (rest := []) ⟨hx, hb, hml, hown, hts⟩ (c_X10_skipsNumber l D cs a q S9 0 7 v12 S13 hc _) (cwV 2 hts gX10_readsArgs_X10_skipsNumber rfl rfl rfl (by decide +kernel) ⟨Nat.le_of_ble_eq_true rfl, Nat.le_of_ble_eq_true rfl⟩) ⟨CP_blind, va_recv hK hw.1 (ci := 10) (q0 := 0) rfl rfl, x_preA X hw [.ref a, .int 0, .int 7]⟩ rfl rfl hl.1 rfl (lv_room (Nat.le_of_ble_eq_true rfl)) dX10_readsArgs_144 ⟨Nat.zero_le _, Nat.zero_le _⟩) (fun H locs hw => ?_)
            refine lv_if_ne (pc := 147) (tgt := 152) hx hb dX10_readsArgs_147 (by decide) (fun c14 => ?_) (fun c14 => ?_)
            · have hf := ineg c14 hf
              refine lv_aload_n (pc := 152) hx hb dX10_readsArgs_152 rfl (lv_at hl 0 rfl) ?_
              refine x_get (pc := 153) X hw in_X10_readsArgs_X10 0 rfl rfl 6 (by decide) (List.mem_of_getElem? (i := 6) rfl) rfl dX10_readsArgs_153 ?_
              refine lv_iload_n (pc := 156) hx hb dX10_readsArgs_156 rfl (lv_at hl 1 rfl) ?_
              refine lv_aload_n (pc := 157) hx hb dX10_readsArgs_157 rfl (lv_at hl 0 rfl) ?_
              refine x_get (pc := 158) X hw in_X10_readsArgs_X10 0 rfl rfl 31 (by decide) (List.mem_of_getElem? (i := 3) rfl) rfl dX10_readsArgs_158 ?_
              obtain ⟨S15, eS15, hf⟩ := b1_ob hf
              refine x_iast (pc := 161) X hw 6 0 rfl rfl (wA_ob eS15).1 dX10_readsArgs_161 (ws2 := wX10 cs a q S15) (by rw [(wA_ob eS15).2]; rfl) (fun H locs hw => ?_)
              refine lv_iconst (pc := 162) (v := 1) hx hb dX10_readsArgs_162 (by decide) ?_
              cases hf
              exact hret _ _ 163 _ hw ⟨_, rfl, by decide⟩ dX10_readsArgs_163
            · have hf := ipos c14 hf
              refine lv_iconst (pc := 150) (v := 0) hx hb dX10_readsArgs_150 (by decide) ?_
              cases hf
              exact hret _ _ 151 _ hw ⟨_, rfl, by decide⟩ dX10_readsArgs_151
        · have hf := ineg c10 hf
          refine lv_aload_n (pc := 112) hx hb dX10_readsArgs_112 rfl (lv_at hl 0 rfl) ?_
          refine lv_iconst (pc := 113) (v := 0) hx hb dX10_readsArgs_113 (by decide) ?_
          refine lv_bipush (pc := 114) (v := 7) hx hb dX10_readsArgs_114 (by decide) ?_
          obtain ⟨v16, S17, hc, hf⟩ := b2_ob hf
          refine x_all (pc := 116) X hw (va_runV (As := [.int 0, .int 7]) (rest := []) ⟨hx, hb, hml, hown, hts⟩ (c_X10_skipsNumber l D cs a q S9 0 7 v16 S17 hc _) (cwV 2 hts gX10_readsArgs_X10_skipsNumber rfl rfl rfl (by decide +kernel) ⟨Nat.le_of_ble_eq_true rfl, Nat.le_of_ble_eq_true rfl⟩) ⟨CP_blind, va_recv hK hw.1 (ci := 10) (q0 := 0) rfl rfl, x_preA X hw [.ref a, .int 0, .int 7]⟩ rfl rfl hl.1 rfl (lv_room (Nat.le_of_ble_eq_true rfl)) dX10_readsArgs_116 ⟨Nat.zero_le _, Nat.zero_le _⟩) (fun H locs hw => ?_)
          refine lv_if_ne (pc := 119) (tgt := 124) hx hb dX10_readsArgs_119 (by decide) (fun c18 => ?_) (fun c18 => ?_)
          · have hf := ineg c18 hf
            refine lv_aload_n (pc := 124) hx hb dX10_readsArgs_124 rfl (lv_at hl 0 rfl) ?_
            refine x_get (pc := 125) X hw in_X10_readsArgs_X10 0 rfl rfl 5 (by decide) (List.mem_of_getElem? (i := 5) rfl) rfl dX10_readsArgs_125 ?_
            refine lv_iload_n (pc := 128) hx hb dX10_readsArgs_128 rfl (lv_at hl 1 rfl) ?_
            refine lv_aload_n (pc := 129) hx hb dX10_readsArgs_129 rfl (lv_at hl 0 rfl) ?_
            refine x_get (pc := 130) X hw in_X10_readsArgs_X10 0 rfl rfl 31 (by decide) (List.mem_of_getElem? (i := 3) rfl) rfl dX10_readsArgs_130 ?_
            obtain ⟨S19, eS19, hf⟩ := b1_ob hf
            refine x_iast (pc := 133) X hw 5 0 rfl rfl (wA_ob eS19).1 dX10_readsArgs_133 (ws2 := wX10 cs a q S19) (by rw [(wA_ob eS19).2]; rfl) (fun H locs hw => ?_)
            refine lv_iload_n (pc := 134) hx hb dX10_readsArgs_134 rfl (lv_at hl 2 rfl) ?_
            refine lv_bipush (pc := 135) (v := 7) hx hb dX10_readsArgs_135 (by decide) ?_
            refine lv_icmp_ne (pc := 137) (tgt := 162) hx hb dX10_readsArgs_137 (by decide) (fun c20 => ?_) (fun c20 => ?_)
            · have hf := ineg c20 hf
              refine lv_iconst (pc := 162) (v := 1) hx hb dX10_readsArgs_162 (by decide) ?_
              cases hf
              exact hret _ _ 163 _ hw ⟨_, rfl, by decide⟩ dX10_readsArgs_163
            · have hf := ipos c20 hf
              refine lv_aload_n (pc := 140) hx hb dX10_readsArgs_140 rfl (lv_at hl 0 rfl) ?_
              refine lv_iconst (pc := 141) (v := 0) hx hb dX10_readsArgs_141 (by decide) ?_
              refine lv_bipush (pc := 142) (v := 7) hx hb dX10_readsArgs_142 (by decide) ?_
              obtain ⟨v21, S22, hc, hf⟩ := b2_ob hf
              refine x_all (pc := 144) X hw (va_runV (As := [.int 0, .int 7]) (rest := []) ⟨hx, hb, hml, hown, hts⟩ (c_X10_skipsNumber l D cs a q S19 0 7 v21 S22 hc _) (cwV 2 hts gX10_readsArgs_X10_skipsNumber rfl rfl rfl (by decide +kernel) ⟨Nat.le_of_ble_eq_true rfl, Nat.le_of_ble_eq_true rfl⟩) ⟨CP_blind, va_recv hK hw.1 (ci := 10) (q0 := 0) rfl rfl, x_preA X hw [.ref a, .int 0, .int 7]⟩ rfl rfl hl.1 rfl (lv_room (Nat.le_of_ble_eq_true rfl)) dX10_readsArgs_144 ⟨Nat.zero_le _, Nat.zero_le _⟩) (fun H locs hw => ?_)
              refine lv_if_ne (pc := 147) (tgt := 152) hx hb dX10_readsArgs_147 (by decide) (fun c23 => ?_) (fun c23 => ?_)
              · have hf := ineg c23 hf
                refine lv_aload_n (pc := 152) hx hb dX10_readsArgs_152 rfl (lv_at hl 0 rfl) ?_
                refine x_get (pc := 153) X hw in_X10_readsArgs_X10 0 rfl rfl 6 (by decide) (List.mem_of_getElem? (i := 6) rfl) rfl dX10_readsArgs_153 ?_
                refine lv_iload_n (pc := 156) hx hb dX10_readsArgs_156 rfl (lv_at hl 1 rfl) ?_
                refine lv_aload_n (pc := 157) hx hb dX10_readsArgs_157 rfl (lv_at hl 0 rfl) ?_
                refine x_get (pc := 158) X hw in_X10_readsArgs_X10 0 rfl rfl 31 (by decide) (List.mem_of_getElem? (i := 3) rfl) rfl dX10_readsArgs_158 ?_
                obtain ⟨S24, eS24, hf⟩ := b1_ob hf
                refine x_iast (pc := 161) X hw 6 0 rfl rfl (wA_ob eS24).1 dX10_readsArgs_161 (ws2 := wX10 cs a q S24) (by rw [(wA_ob eS24).2]; rfl) (fun H locs hw => ?_)
                refine lv_iconst (pc := 162) (v := 1) hx hb dX10_readsArgs_162 (by decide) ?_
                cases hf
                exact hret _ _ 163 _ hw ⟨_, rfl, by decide⟩ dX10_readsArgs_163
              · have hf := ipos c23 hf
                refine lv_iconst (pc := 150) (v := 0) hx hb dX10_readsArgs_150 (by decide) ?_
                cases hf
                exact hret _ _ 151 _ hw ⟨_, rfl, by decide⟩ dX10_readsArgs_151
          · have hf := ipos c18 hf
            refine lv_iconst (pc := 122) (v := 0) hx hb dX10_readsArgs_122 (by decide) ?_
            cases hf
            exact hret _ _ 123 _ hw ⟨_, rfl, by decide⟩ dX10_readsArgs_123
      · have hf := ipos c8 hf
        refine lv_iconst (pc := 95) (v := 0) hx hb dX10_readsArgs_95 (by decide) ?_
        cases hf
        exact hret _ _ 96 _ hw ⟨_, rfl, by decide⟩ dX10_readsArgs_96
    clear hf; have hf := hj; clear hj
    refine lv_icmp_ne (pc := 70) (tgt := 77) hx hb dX10_readsArgs_70 (by decide) (fun c4 => ?_) (fun c4 => ?_)
    · have hf := ineg c4 hf
      refine lv_iload_n (pc := 77) hx hb dX10_readsArgs_77 rfl (lv_at hl 0 rfl) ?_
      refine lv_iconst (pc := 78) (v := 2) hx hb dX10_readsArgs_78 (by decide) ?_
      refine lv_icmp_ne (pc := 79) (tgt := 87) hx hb dX10_readsArgs_79 (by decide) (fun c5 => ?_) (fun c5 => ?_)
      · have hf := ineg c5 hf
        refine lv_bipush (pc := 87) (v := 7) hx hb dX10_readsArgs_87 (by decide) ?_
        cases hf
        exact J89_2 _ _ _ hw (lv_sub hl [1, 2, 0] rfl)
      · have hf := ipos c5 hf
        refine lv_bipush (pc := 82) (v := 15) hx hb dX10_readsArgs_82 (by decide) ?_
        refine lv_goto (pc := 84) (tgt := 89) hx hb dX10_readsArgs_84 (by decide) ?_
        cases hf
        exact J89_2 _ _ _ hw (lv_sub hl [1, 2, 0] rfl)
    · have hf := ipos c4 hf
      refine lv_iconst (pc := 73) (v := 4) hx hb dX10_readsArgs_73 (by decide) ?_
      refine lv_goto (pc := 74) (tgt := 89) hx hb dX10_readsArgs_74 (by decide) ?_
      cases hf
      exact J89_2 _ _ _ hw (lv_sub hl [1, 2, 0] rfl)
  · have hf := ipos c2 hf
    refine lv_aload_n (pc := 11) hx hb dX10_readsArgs_11 rfl (lv_at hl 1 rfl) ?_
    refine lv_iconst (pc := 12) (v := 2) hx hb dX10_readsArgs_12 (by decide) ?_
    refine lv_bipush (pc := 13) (v := 8) hx hb dX10_readsArgs_13 (by decide) ?_
    obtain ⟨v25, S26, hc, hf⟩ := b2_ob hf
    refine x_all (pc := 15) X hw (va_runV (As := [.int 2, .int 8]) (rest := []) ⟨hx, hb, hml, hown, hts⟩ (c_X10_isNumber l D cs a q S 2 8 v25 S26 hc _) (cwV 2 hts gX10_readsArgs_X10_isNumber rfl rfl rfl (by decide +kernel) ⟨Nat.le_of_ble_eq_true rfl, Nat.le_of_ble_eq_true rfl⟩) ⟨CP_blind, va_recv hK hw.1 (ci := 10) (q0 := 0) rfl rfl, x_preA X hw [.ref a, .int 2, .int 8]⟩ rfl rfl hl.1 rfl (lv_room (Nat.le_of_ble_eq_true rfl)) dX10_readsArgs_15 ⟨Nat.zero_le _, Nat.zero_le _⟩) (fun H locs hw => ?_)
    refine lv_if_eq (pc := 18) (tgt := 35) hx hb dX10_readsArgs_18 (by decide) (fun c27 => ?_) (fun c27 => ?_)
    · have hf := ipos c27 hf
      refine lv_iconst (pc := 35) (v := 0) hx hb dX10_readsArgs_35 (by decide) ?_
      cases hf
      exact hret _ _ 36 _ hw ⟨_, rfl, by decide⟩ dX10_readsArgs_36
    · have hf := ineg c27 hf
      refine lv_aload_n (pc := 21) hx hb dX10_readsArgs_21 rfl (lv_at hl 1 rfl) ?_
      refine x_get (pc := 22) X hw in_X10_readsArgs_X10 0 rfl rfl 32 (by decide) (List.mem_of_getElem? (i := 2) rfl) rfl dX10_readsArgs_22 ?_
      refine lv_aload_n (pc := 25) hx hb dX10_readsArgs_25 rfl (lv_at hl 1 rfl) ?_
      refine x_get (pc := 26) X hw in_X10_readsArgs_X10 0 rfl rfl 31 (by decide) (List.mem_of_getElem? (i := 3) rfl) rfl dX10_readsArgs_26 ?_
      refine lv_imul (pc := 29) hx hb dX10_readsArgs_29 ?_
      refine lv_bipush (pc := 30) (v := 64) hx hb dX10_readsArgs_30 (by decide) ?_
      refine lv_icmp_le (pc := 32) (tgt := 37) hx hb dX10_readsArgs_32 (by decide) (fun c28 => ?_) (fun c28 => ?_)
      · have hf := ipos c28 hf
        refine lv_aload_n (pc := 37) hx hb dX10_readsArgs_37 rfl (lv_at hl 1 rfl) ?_
        refine lv_dup (pc := 38) hx hb dX10_readsArgs_38 rfl ?_
        refine x_get (pc := 39) X hw in_X10_readsArgs_X10 0 rfl rfl 32 (by decide) (List.mem_of_getElem? (i := 2) rfl) rfl dX10_readsArgs_39 ?_
        refine lv_aload_n (pc := 42) hx hb dX10_readsArgs_42 rfl (lv_at hl 1 rfl) ?_
        refine x_get (pc := 43) X hw in_X10_readsArgs_X10 0 rfl rfl 31 (by decide) (List.mem_of_getElem? (i := 3) rfl) rfl dX10_readsArgs_43 ?_
        refine lv_imul (pc := 46) hx hb dX10_readsArgs_46 ?_
        obtain ⟨S29, eS29, hf⟩ := bn_ob hf
        refine x_put (pc := 47) X hw in_X10_readsArgs_X10 tyX10 tyX10_ok nmX10 0 rfl rfl 32 (by decide) (List.mem_of_getElem? (i := 2) rfl) rfl rfl rfl (Nat.le_of_ble_eq_true rfl) dX10_readsArgs_47 (ws2 := wX10 cs a q S29) (by rw [eS29]; rfl) (fun H locs hw => ?_)
        refine lv_aload_n (pc := 50) hx hb dX10_readsArgs_50 rfl (lv_at hl 1 rfl) ?_
        refine x_get (pc := 51) X hw in_X10_readsArgs_X10 0 rfl rfl 4 (by decide) (List.mem_of_getElem? (i := 4) rfl) rfl dX10_readsArgs_51 ?_
        refine lv_iload_n (pc := 54) hx hb dX10_readsArgs_54 rfl (lv_at hl 2 rfl) ?_
        refine lv_aload_n (pc := 55) hx hb dX10_readsArgs_55 rfl (lv_at hl 1 rfl) ?_
        refine x_get (pc := 56) X hw in_X10_readsArgs_X10 0 rfl rfl 31 (by decide) (List.mem_of_getElem? (i := 3) rfl) rfl dX10_readsArgs_56 ?_
        obtain ⟨S30, eS30, hf⟩ := b1_ob hf
        refine x_iast (pc := 59) X hw 4 0 rfl rfl (wA_ob eS30).1 dX10_readsArgs_59 (ws2 := wX10 cs a q S30) (by rw [(wA_ob eS30).2]; rfl) (fun H locs hw => ?_)
        refine lv_aload_n (pc := 60) hx hb dX10_readsArgs_60 rfl (lv_at hl 1 rfl) ?_
        obtain ⟨S31, hc, hf⟩ := b1_ob hf
        refine x_all (pc := 61) X hw (va_runV (As := []) (rest := []) ⟨hx, hb, hml, hown, hts⟩ (c_X10_token l D cs a q S30 S31 hc _) (cwV 0 hts gX10_readsArgs_X10_token rfl rfl rfl (by decide +kernel) ⟨Nat.le_of_ble_eq_true rfl, Nat.le_of_ble_eq_true rfl⟩) ⟨CP_blind, va_recv hK hw.1 (ci := 10) (q0 := 0) rfl rfl, x_preA X hw [.ref a]⟩ rfl rfl hl.1 rfl (lv_room (Nat.le_of_ble_eq_true rfl)) dX10_readsArgs_61 ⟨Nat.zero_le _, Nat.zero_le _⟩) (fun H locs hw => ?_)
        refine lv_iconst (pc := 64) (v := 1) hx hb dX10_readsArgs_64 (by decide) ?_
        cases hf
        exact hret _ _ 65 _ hw ⟨_, rfl, by decide⟩ dX10_readsArgs_65
      · have hf := ineg c28 hf
        refine lv_iconst (pc := 35) (v := 0) hx hb dX10_readsArgs_35 (by decide) ?_
        cases hf
        exact hret _ _ 36 _ hw ⟨_, rfl, by decide⟩ dX10_readsArgs_36

theorem in_X10_readsLine_X10 : ∀ w ∈ wsX100, w ∈ wsX10_readsLine := fun _ h => List.mem_cons_of_mem _ (List.mem_append_right _ h)
abbrev rmX10_readsLine : Room := { frames := 4, cells := 0, slots := 0, locals := 94 }
def f_X10_readsLine (S : PS) : Option (Int32 × PS) :=
  bn (20 + (S.1 8)) fun v1 =>
  b1 (f_X10_isWord S 21167 3) fun v2 =>
  if v2 = 0 then
    b2 (f_X10_skipsNumber S 0 7) fun v4 S5 =>
    if v4 = 0 then
      some (0, S5)
    else
    b1 (wA 40 S5 3 v1 (S5.1 31)) fun S7 =>
    b1 (f_X10_wordNow S7) fun v8 =>
    b1 (wA 40 S7 2 v1 v8) fun S9 =>
    b1 (rdI 40 (S9.2.1 2) v1) fun v10 =>
    if v10 = (-1) then
      some (0, S9)
    else
    b1 (f_X10_token S9) fun S12 =>
    b2 (f_X10_readsArgs S12 v1) fun v13 S14 =>
    if v13 = 0 then
      some (0, S14)
    else
    bn (sI S14 8 ((S14.1 8) + 1)) fun S16 =>
    some (1, S16)
  else
  b1 (wA 40 S 2 v1 8) fun S17 =>
  b1 (f_X10_token S17) fun S18 =>
  b2 (f_X10_skipsNumber S18 0 7) fun v19 S20 =>
  if v19 = 0 then
    some (0, S20)
  else
  b1 (wA 40 S20 3 v1 (S20.1 31)) fun S22 =>
  bn (sI S22 8 ((S22.1 8) + 1)) fun S23 =>
  some (1, S23)
set_option maxHeartbeats 4000000 in
set_option maxRecDepth 100000 in
theorem c_X10_readsLine (l : Launch) (D : va_G) (cs : CS) (a : Nat) (q : Nat → Nat) (S : PS) (r : Int32) (S' : PS) (hf : f_X10_readsLine S = some (r, S')) : CT l D (TY cs) yX10_readsLine wsX10_readsLine rmX10_readsLine [.ref a] (wX10 cs a q S) (some (.int r)) (wX10 cs a q S') := by
  refine CT.ofW (own := RX10) (cc := cX10_readsLine) (maxL := 2) (ret := some .boolean) (by decide) rfl rfl (Nat.le_of_ble_eq_true rfl) ?_
  intro p e s m args below meth c A Q X hret ls hl hw
  obtain ⟨hx, hb, hml, hown, hts, hK, hA, hr, hlk⟩ := id X
  have hl : lv_has ls 2 [(0, .ref a)] := hl
  unfold f_X10_readsLine at hf
  refine lv_bipush (pc := 0) (v := 20) hx hb dX10_readsLine_0 (by decide) ?_
  refine lv_aload_n (pc := 2) hx hb dX10_readsLine_2 rfl (lv_at hl 0 rfl) ?_
  refine x_get (pc := 3) X hw in_X10_readsLine_X10 0 rfl rfl 8 (by decide) (List.mem_of_getElem? (i := 1) rfl) rfl dX10_readsLine_3 ?_
  refine lv_iadd (pc := 6) hx hb dX10_readsLine_6 ?_
  obtain ⟨v1, ev1, hf⟩ := bn_ob hf
  refine x_topi ev1 ?_
  refine lv_istore_n (lv' := [(1, .int v1), (0, .ref a)]) (pc := 7) hx hb dX10_readsLine_7 rfl hl (by decide) rfl (fun ls hl => ?_)
  refine lv_aload_n (pc := 8) hx hb dX10_readsLine_8 rfl (lv_at hl 1 rfl) ?_
  refine lv_sipush (pc := 9) (v := 21167) hx hb dX10_readsLine_9 (by decide) ?_
  refine lv_iconst (pc := 12) (v := 3) hx hb dX10_readsLine_12 (by decide) ?_
  obtain ⟨v2, hc, hf⟩ := b1_ob hf
  refine x_all (pc := 13) X hw (va_runV (As := [.int 21167, .int 3]) (rest := []) ⟨hx, hb, hml, hown, hts⟩ (c_X10_isWord l D cs a q S 21167 3 v2 hc _) (cwV 2 hts gX10_readsLine_X10_isWord rfl rfl rfl (by decide +kernel) ⟨Nat.le_of_ble_eq_true rfl, Nat.le_of_ble_eq_true rfl⟩) ⟨CP_blind, va_recv hK hw.1 (ci := 10) (q0 := 0) rfl rfl, x_preA X hw [.ref a, .int 21167, .int 3]⟩ rfl rfl hl.1 rfl (lv_room (Nat.le_of_ble_eq_true rfl)) dX10_readsLine_13 ⟨Nat.zero_le _, Nat.zero_le _⟩) (fun H locs hw => ?_)
  refine lv_if_eq (pc := 16) (tgt := 65) hx hb dX10_readsLine_16 (by decide) (fun c3 => ?_) (fun c3 => ?_)
  · have hf := ipos c3 hf
    refine lv_aload_n (pc := 65) hx hb dX10_readsLine_65 rfl (lv_at hl 1 rfl) ?_
    refine lv_iconst (pc := 66) (v := 0) hx hb dX10_readsLine_66 (by decide) ?_
    refine lv_bipush (pc := 67) (v := 7) hx hb dX10_readsLine_67 (by decide) ?_
    obtain ⟨v4, S5, hc, hf⟩ := b2_ob hf
    refine x_all (pc := 69) X hw (va_runV (As := [.int 0, .int 7]) (rest := []) ⟨hx, hb, hml, hown, hts⟩ (c_X10_skipsNumber l D cs a q S 0 7 v4 S5 hc _) (cwV 2 hts gX10_readsLine_X10_skipsNumber rfl rfl rfl (by decide +kernel) ⟨Nat.le_of_ble_eq_true rfl, Nat.le_of_ble_eq_true rfl⟩) ⟨CP_blind, va_recv hK hw.1 (ci := 10) (q0 := 0) rfl rfl, x_preA X hw [.ref a, .int 0, .int 7]⟩ rfl rfl hl.1 rfl (lv_room (Nat.le_of_ble_eq_true rfl)) dX10_readsLine_69 ⟨Nat.zero_le _, Nat.zero_le _⟩) (fun H locs hw => ?_)
    refine lv_if_ne (pc := 72) (tgt := 77) hx hb dX10_readsLine_72 (by decide) (fun c6 => ?_) (fun c6 => ?_)
    · have hf := ineg c6 hf
      refine lv_aload_n (pc := 77) hx hb dX10_readsLine_77 rfl (lv_at hl 1 rfl) ?_
      refine x_get (pc := 78) X hw in_X10_readsLine_X10 0 rfl rfl 3 (by decide) (List.mem_of_getElem? (i := 3) rfl) rfl dX10_readsLine_78 ?_
      refine lv_iload_n (pc := 81) hx hb dX10_readsLine_81 rfl (lv_at hl 0 rfl) ?_
      refine lv_aload_n (pc := 82) hx hb dX10_readsLine_82 rfl (lv_at hl 1 rfl) ?_
      refine x_get (pc := 83) X hw in_X10_readsLine_X10 0 rfl rfl 31 (by decide) (List.mem_of_getElem? (i := 4) rfl) rfl dX10_readsLine_83 ?_
      obtain ⟨S7, eS7, hf⟩ := b1_ob hf
      refine x_iast (pc := 86) X hw 3 0 rfl rfl (wA_ob eS7).1 dX10_readsLine_86 (ws2 := wX10 cs a q S7) (by rw [(wA_ob eS7).2]; rfl) (fun H locs hw => ?_)
      refine lv_aload_n (pc := 87) hx hb dX10_readsLine_87 rfl (lv_at hl 1 rfl) ?_
      refine x_get (pc := 88) X hw in_X10_readsLine_X10 0 rfl rfl 2 (by decide) (List.mem_of_getElem? (i := 2) rfl) rfl dX10_readsLine_88 ?_
      refine lv_iload_n (pc := 91) hx hb dX10_readsLine_91 rfl (lv_at hl 0 rfl) ?_
      refine lv_aload_n (pc := 92) hx hb dX10_readsLine_92 rfl (lv_at hl 1 rfl) ?_
      obtain ⟨v8, hc, hf⟩ := b1_ob hf
      refine x_all (pc := 93) X hw (va_runV (As := []) (rest := [.int v1, .ref (q 2)]) ⟨hx, hb, hml, hown, hts⟩ (c_X10_wordNow l D cs a q S7 v8 hc _) (cwV 0 hts gX10_readsLine_X10_wordNow rfl rfl rfl (by decide +kernel) ⟨Nat.le_of_ble_eq_true rfl, Nat.le_of_ble_eq_true rfl⟩) ⟨CP_blind, va_recv hK hw.1 (ci := 10) (q0 := 0) rfl rfl, x_preA X hw [.ref a]⟩ rfl rfl hl.1 rfl (lv_room (Nat.le_of_ble_eq_true rfl)) dX10_readsLine_93 ⟨Nat.zero_le _, Nat.zero_le _⟩) (fun H locs hw => ?_)
      obtain ⟨S9, eS9, hf⟩ := b1_ob hf
      refine x_iast (pc := 96) X hw 2 0 rfl rfl (wA_ob eS9).1 dX10_readsLine_96 (ws2 := wX10 cs a q S9) (by rw [(wA_ob eS9).2]; rfl) (fun H locs hw => ?_)
      refine lv_aload_n (pc := 97) hx hb dX10_readsLine_97 rfl (lv_at hl 1 rfl) ?_
      refine x_get (pc := 98) X hw in_X10_readsLine_X10 0 rfl rfl 2 (by decide) (List.mem_of_getElem? (i := 2) rfl) rfl dX10_readsLine_98 ?_
      refine lv_iload_n (pc := 101) hx hb dX10_readsLine_101 rfl (lv_at hl 0 rfl) ?_
      obtain ⟨v10, ev10, hf⟩ := b1_ob hf
      refine x_iald (pc := 102) X hw 2 0 rfl rfl ev10 dX10_readsLine_102 ?_
      refine lv_iconst (pc := 103) (v := (-1)) hx hb dX10_readsLine_103 (by decide) ?_
      refine lv_icmp_ne (pc := 104) (tgt := 109) hx hb dX10_readsLine_104 (by decide) (fun c11 => ?_) (fun c11 => ?_)
      · have hf := ineg c11 hf
        refine lv_aload_n (pc := 109) hx hb dX10_readsLine_109 rfl (lv_at hl 1 rfl) ?_
        obtain ⟨S12, hc, hf⟩ := b1_ob hf
        refine x_all (pc := 110) X hw (va_runV (As := []) (rest := []) ⟨hx, hb, hml, hown, hts⟩ (c_X10_token l D cs a q S9 S12 hc _) (cwV 0 hts gX10_readsLine_X10_token rfl rfl rfl (by decide +kernel) ⟨Nat.le_of_ble_eq_true rfl, Nat.le_of_ble_eq_true rfl⟩) ⟨CP_blind, va_recv hK hw.1 (ci := 10) (q0 := 0) rfl rfl, x_preA X hw [.ref a]⟩ rfl rfl hl.1 rfl (lv_room (Nat.le_of_ble_eq_true rfl)) dX10_readsLine_110 ⟨Nat.zero_le _, Nat.zero_le _⟩) (fun H locs hw => ?_)
        refine lv_aload_n (pc := 113) hx hb dX10_readsLine_113 rfl (lv_at hl 1 rfl) ?_
        refine lv_iload_n (pc := 114) hx hb dX10_readsLine_114 rfl (lv_at hl 0 rfl) ?_
        obtain ⟨v13, S14, hc, hf⟩ := b2_ob hf
        refine x_all (pc := 115) X hw (va_runV (As := [.int v1]) (rest := []) ⟨hx, hb, hml, hown, hts⟩ (c_X10_readsArgs l D cs a q S12 v1 v13 S14 hc _) (cwV 1 hts gX10_readsLine_X10_readsArgs rfl rfl rfl (by decide +kernel) ⟨Nat.le_of_ble_eq_true rfl, Nat.le_of_ble_eq_true rfl⟩) ⟨CP_blind, va_recv hK hw.1 (ci := 10) (q0 := 0) rfl rfl, x_preA X hw [.ref a, .int v1]⟩ rfl rfl hl.1 rfl (lv_room (Nat.le_of_ble_eq_true rfl)) dX10_readsLine_115 ⟨Nat.zero_le _, Nat.zero_le _⟩) (fun H locs hw => ?_)
        refine lv_if_ne (pc := 118) (tgt := 123) hx hb dX10_readsLine_118 (by decide) (fun c15 => ?_) (fun c15 => ?_)
        · have hf := ineg c15 hf
          refine lv_aload_n (pc := 123) hx hb dX10_readsLine_123 rfl (lv_at hl 1 rfl) ?_
          refine lv_dup (pc := 124) hx hb dX10_readsLine_124 rfl ?_
          refine x_get (pc := 125) X hw in_X10_readsLine_X10 0 rfl rfl 8 (by decide) (List.mem_of_getElem? (i := 1) rfl) rfl dX10_readsLine_125 ?_
          refine lv_iconst (pc := 128) (v := 1) hx hb dX10_readsLine_128 (by decide) ?_
          refine lv_iadd (pc := 129) hx hb dX10_readsLine_129 ?_
          obtain ⟨S16, eS16, hf⟩ := bn_ob hf
          refine x_put (pc := 130) X hw in_X10_readsLine_X10 tyX10 tyX10_ok nmX10 0 rfl rfl 8 (by decide) (List.mem_of_getElem? (i := 1) rfl) rfl rfl rfl (Nat.le_of_ble_eq_true rfl) dX10_readsLine_130 (ws2 := wX10 cs a q S16) (by rw [eS16]; rfl) (fun H locs hw => ?_)
          refine lv_iconst (pc := 133) (v := 1) hx hb dX10_readsLine_133 (by decide) ?_
          cases hf
          exact hret _ _ 134 _ hw ⟨_, rfl, by decide⟩ dX10_readsLine_134
        · have hf := ipos c15 hf
          refine lv_iconst (pc := 121) (v := 0) hx hb dX10_readsLine_121 (by decide) ?_
          cases hf
          exact hret _ _ 122 _ hw ⟨_, rfl, by decide⟩ dX10_readsLine_122
      · have hf := ipos c11 hf
        refine lv_iconst (pc := 107) (v := 0) hx hb dX10_readsLine_107 (by decide) ?_
        cases hf
        exact hret _ _ 108 _ hw ⟨_, rfl, by decide⟩ dX10_readsLine_108
    · have hf := ipos c6 hf
      refine lv_iconst (pc := 75) (v := 0) hx hb dX10_readsLine_75 (by decide) ?_
      cases hf
      exact hret _ _ 76 _ hw ⟨_, rfl, by decide⟩ dX10_readsLine_76
  · have hf := ineg c3 hf
    refine lv_aload_n (pc := 19) hx hb dX10_readsLine_19 rfl (lv_at hl 1 rfl) ?_
    refine x_get (pc := 20) X hw in_X10_readsLine_X10 0 rfl rfl 2 (by decide) (List.mem_of_getElem? (i := 2) rfl) rfl dX10_readsLine_20 ?_
    refine lv_iload_n (pc := 23) hx hb dX10_readsLine_23 rfl (lv_at hl 0 rfl) ?_
    refine lv_bipush (pc := 24) (v := 8) hx hb dX10_readsLine_24 (by decide) ?_
    obtain ⟨S17, eS17, hf⟩ := b1_ob hf
    refine x_iast (pc := 26) X hw 2 0 rfl rfl (wA_ob eS17).1 dX10_readsLine_26 (ws2 := wX10 cs a q S17) (by rw [(wA_ob eS17).2]; rfl) (fun H locs hw => ?_)
    refine lv_aload_n (pc := 27) hx hb dX10_readsLine_27 rfl (lv_at hl 1 rfl) ?_
    obtain ⟨S18, hc, hf⟩ := b1_ob hf
    refine x_all (pc := 28) X hw (va_runV (As := []) (rest := []) ⟨hx, hb, hml, hown, hts⟩ (c_X10_token l D cs a q S17 S18 hc _) (cwV 0 hts gX10_readsLine_X10_token rfl rfl rfl (by decide +kernel) ⟨Nat.le_of_ble_eq_true rfl, Nat.le_of_ble_eq_true rfl⟩) ⟨CP_blind, va_recv hK hw.1 (ci := 10) (q0 := 0) rfl rfl, x_preA X hw [.ref a]⟩ rfl rfl hl.1 rfl (lv_room (Nat.le_of_ble_eq_true rfl)) dX10_readsLine_28 ⟨Nat.zero_le _, Nat.zero_le _⟩) (fun H locs hw => ?_)
    refine lv_aload_n (pc := 31) hx hb dX10_readsLine_31 rfl (lv_at hl 1 rfl) ?_
    refine lv_iconst (pc := 32) (v := 0) hx hb dX10_readsLine_32 (by decide) ?_
    refine lv_bipush (pc := 33) (v := 7) hx hb dX10_readsLine_33 (by decide) ?_
    obtain ⟨v19, S20, hc, hf⟩ := b2_ob hf
    refine x_all (pc := 35) X hw (va_runV (As := [.int 0, .int 7]) (rest := []) ⟨hx, hb, hml, hown, hts⟩ (c_X10_skipsNumber l D cs a q S18 0 7 v19 S20 hc _) (cwV 2 hts gX10_readsLine_X10_skipsNumber rfl rfl rfl (by decide +kernel) ⟨Nat.le_of_ble_eq_true rfl, Nat.le_of_ble_eq_true rfl⟩) ⟨CP_blind, va_recv hK hw.1 (ci := 10) (q0 := 0) rfl rfl, x_preA X hw [.ref a, .int 0, .int 7]⟩ rfl rfl hl.1 rfl (lv_room (Nat.le_of_ble_eq_true rfl)) dX10_readsLine_35 ⟨Nat.zero_le _, Nat.zero_le _⟩) (fun H locs hw => ?_)
    refine lv_if_ne (pc := 38) (tgt := 43) hx hb dX10_readsLine_38 (by decide) (fun c21 => ?_) (fun c21 => ?_)
    · have hf := ineg c21 hf
      refine lv_aload_n (pc := 43) hx hb dX10_readsLine_43 rfl (lv_at hl 1 rfl) ?_
      refine x_get (pc := 44) X hw in_X10_readsLine_X10 0 rfl rfl 3 (by decide) (List.mem_of_getElem? (i := 3) rfl) rfl dX10_readsLine_44 ?_
      refine lv_iload_n (pc := 47) hx hb dX10_readsLine_47 rfl (lv_at hl 0 rfl) ?_
      refine lv_aload_n (pc := 48) hx hb dX10_readsLine_48 rfl (lv_at hl 1 rfl) ?_
      refine x_get (pc := 49) X hw in_X10_readsLine_X10 0 rfl rfl 31 (by decide) (List.mem_of_getElem? (i := 4) rfl) rfl dX10_readsLine_49 ?_
      obtain ⟨S22, eS22, hf⟩ := b1_ob hf
      refine x_iast (pc := 52) X hw 3 0 rfl rfl (wA_ob eS22).1 dX10_readsLine_52 (ws2 := wX10 cs a q S22) (by rw [(wA_ob eS22).2]; rfl) (fun H locs hw => ?_)
      refine lv_aload_n (pc := 53) hx hb dX10_readsLine_53 rfl (lv_at hl 1 rfl) ?_
      refine lv_dup (pc := 54) hx hb dX10_readsLine_54 rfl ?_
      refine x_get (pc := 55) X hw in_X10_readsLine_X10 0 rfl rfl 8 (by decide) (List.mem_of_getElem? (i := 1) rfl) rfl dX10_readsLine_55 ?_
      refine lv_iconst (pc := 58) (v := 1) hx hb dX10_readsLine_58 (by decide) ?_
      refine lv_iadd (pc := 59) hx hb dX10_readsLine_59 ?_
      obtain ⟨S23, eS23, hf⟩ := bn_ob hf
      refine x_put (pc := 60) X hw in_X10_readsLine_X10 tyX10 tyX10_ok nmX10 0 rfl rfl 8 (by decide) (List.mem_of_getElem? (i := 1) rfl) rfl rfl rfl (Nat.le_of_ble_eq_true rfl) dX10_readsLine_60 (ws2 := wX10 cs a q S23) (by rw [eS23]; rfl) (fun H locs hw => ?_)
      refine lv_iconst (pc := 63) (v := 1) hx hb dX10_readsLine_63 (by decide) ?_
      cases hf
      exact hret _ _ 64 _ hw ⟨_, rfl, by decide⟩ dX10_readsLine_64
    · have hf := ipos c21 hf
      refine lv_iconst (pc := 41) (v := 0) hx hb dX10_readsLine_41 (by decide) ?_
      cases hf
      exact hret _ _ 42 _ hw ⟨_, rfl, by decide⟩ dX10_readsLine_42

theorem in_X10_fault_X10 : ∀ w ∈ wsX100, w ∈ wsX10_fault := fun _ h => List.mem_cons_of_mem _ (List.mem_append_right _ h)
abbrev rmX10_fault : Room := { frames := 5, cells := 0, slots := 0, locals := 115 }
def B_X10_fault_31 (S8 : PS) : Option ((PS) ⊕ (Int32 × PS)) :=
  if (S8.1 1) ≤ (S8.1 29) then
    some (.inr ((-1), S8))
  else
  b1 (
    if ((S8.1 30) - (S8.1 29)) = 1 then
      b1 (rdI 200 (S8.2.1 0) (S8.1 29)) fun v12 =>
      if v12 = 59 then
        if 20 ≤ (S8.1 8) then
          some (0 : Int32)
        else
        some (1 : Int32)
      else
      some (0 : Int32)
    else
    some (0 : Int32)) fun v10 =>
  b2 (
    if v10 = 0 then
      some (v10, S8)
    else
    b1 (f_X10_token S8) fun S18 =>
    b2 (f_X10_readsLine S18) fun v19 S20 =>
    some (v19, S20)) fun v15 S16 =>
  if v15 = 0 then
    some (.inr ((S16.1 29), S16))
  else
  some (.inl S16)
def L_X10_fault_31 (n : Nat) (S8 : PS) : Option (Int32 × PS) := loopF (fun x : PS => B_X10_fault_31 x) n S8
def f_X10_fault (S : PS) : Option (Int32 × PS) :=
  bn (sI S 28 0) fun S1 =>
  bn (sI S1 8 0) fun S2 =>
  bn (sI S2 32 1) fun S3 =>
  b1 (f_X10_token S3) fun S4 =>
  b2 (f_X10_readsLine S4) fun v5 S6 =>
  if v5 = 0 then
    some ((S6.1 29), S6)
  else
  L_X10_fault_31 FU S6
set_option maxHeartbeats 4000000 in
set_option maxRecDepth 100000 in
theorem c_X10_fault (l : Launch) (D : va_G) (cs : CS) (a : Nat) (q : Nat → Nat) (S : PS) (r : Int32) (S' : PS) (hf : f_X10_fault S = some (r, S')) : CT l D (TY cs) yX10_fault wsX10_fault rmX10_fault [.ref a] (wX10 cs a q S) (some (.int r)) (wX10 cs a q S') := by
  refine CT.ofW (own := RX10) (cc := cX10_fault) (maxL := 2) (ret := some .int) (by decide) rfl rfl (Nat.le_of_ble_eq_true rfl) ?_
  intro p e s m args below meth c A Q X hret ls hl hw
  obtain ⟨hx, hb, hml, hown, hts, hK, hA, hr, hlk⟩ := id X
  have hl : lv_has ls 2 [(0, .ref a)] := hl
  unfold f_X10_fault at hf
  refine lv_aload_n (pc := 0) hx hb dX10_fault_0 rfl (lv_at hl 0 rfl) ?_
  refine lv_iconst (pc := 1) (v := 0) hx hb dX10_fault_1 (by decide) ?_
  obtain ⟨S1, eS1, hf⟩ := bn_ob hf
  refine x_put (pc := 2) X hw in_X10_fault_X10 tyX10 tyX10_ok nmX10 0 rfl rfl 28 (by decide) (List.mem_of_getElem? (i := 1) rfl) rfl rfl rfl (Nat.le_of_ble_eq_true rfl) dX10_fault_2 (ws2 := wX10 cs a q S1) (by rw [eS1]; rfl) (fun H locs hw => ?_)
  refine lv_aload_n (pc := 5) hx hb dX10_fault_5 rfl (lv_at hl 0 rfl) ?_
  refine lv_iconst (pc := 6) (v := 0) hx hb dX10_fault_6 (by decide) ?_
  obtain ⟨S2, eS2, hf⟩ := bn_ob hf
  refine x_put (pc := 7) X hw in_X10_fault_X10 tyX10 tyX10_ok nmX10 0 rfl rfl 8 (by decide) (List.mem_of_getElem? (i := 2) rfl) rfl rfl rfl (Nat.le_of_ble_eq_true rfl) dX10_fault_7 (ws2 := wX10 cs a q S2) (by rw [eS2]; rfl) (fun H locs hw => ?_)
  refine lv_aload_n (pc := 10) hx hb dX10_fault_10 rfl (lv_at hl 0 rfl) ?_
  refine lv_iconst (pc := 11) (v := 1) hx hb dX10_fault_11 (by decide) ?_
  obtain ⟨S3, eS3, hf⟩ := bn_ob hf
  refine x_put (pc := 12) X hw in_X10_fault_X10 tyX10 tyX10_ok nmX10 0 rfl rfl 32 (by decide) (List.mem_of_getElem? (i := 3) rfl) rfl rfl rfl (Nat.le_of_ble_eq_true rfl) dX10_fault_12 (ws2 := wX10 cs a q S3) (by rw [eS3]; rfl) (fun H locs hw => ?_)
  refine lv_aload_n (pc := 15) hx hb dX10_fault_15 rfl (lv_at hl 0 rfl) ?_
  obtain ⟨S4, hc, hf⟩ := b1_ob hf
  refine x_all (pc := 16) X hw (va_runV (As := []) (rest := []) ⟨hx, hb, hml, hown, hts⟩ (c_X10_token l D cs a q S3 S4 hc _) (cwV 0 hts gX10_fault_X10_token rfl rfl rfl (by decide +kernel) ⟨Nat.le_of_ble_eq_true rfl, Nat.le_of_ble_eq_true rfl⟩) ⟨CP_blind, va_recv hK hw.1 (ci := 10) (q0 := 0) rfl rfl, x_preA X hw [.ref a]⟩ rfl rfl hl.1 rfl (lv_room (Nat.le_of_ble_eq_true rfl)) dX10_fault_16 ⟨Nat.zero_le _, Nat.zero_le _⟩) (fun H locs hw => ?_)
  refine lv_aload_n (pc := 19) hx hb dX10_fault_19 rfl (lv_at hl 0 rfl) ?_
  obtain ⟨v5, S6, hc, hf⟩ := b2_ob hf
  refine x_all (pc := 20) X hw (va_runV (As := []) (rest := []) ⟨hx, hb, hml, hown, hts⟩ (c_X10_readsLine l D cs a q S4 v5 S6 hc _) (cwV 0 hts gX10_fault_X10_readsLine rfl rfl rfl (by decide +kernel) ⟨Nat.le_of_ble_eq_true rfl, Nat.le_of_ble_eq_true rfl⟩) ⟨CP_blind, va_recv hK hw.1 (ci := 10) (q0 := 0) rfl rfl, x_preA X hw [.ref a]⟩ rfl rfl hl.1 rfl (lv_room (Nat.le_of_ble_eq_true rfl)) dX10_fault_20 ⟨Nat.zero_le _, Nat.zero_le _⟩) (fun H locs hw => ?_)
  refine lv_if_ne (pc := 23) (tgt := 31) hx hb dX10_fault_23 (by decide) (fun c7 => ?_) (fun c7 => ?_)
  · have hf := ineg c7 hf
    have L31 : ∀ (n : Nat) (S8 : PS), L_X10_fault_31 n S8 = some (r, S') → ∀ (H : Heap) (locs : List Loc) (ls : Array Slot), WD D A s (wX10 cs a q S8) H locs → lv_has ls 2 [(0, .ref a)] → W p l e rmX10_fault s m args below meth c H locs 0 0 Q (F0 m 31 ls []) := by
      intro n
      induction n with
      | zero => intro S8 hf; exact (loopF_z hf).elim
      | succ n ih =>
        intro S8 hf H locs ls hw hl
        obtain ⟨x, hf, hx0⟩ := loopF_ob hf
        have hf : B_X10_fault_31 S8 = some x := hf
        unfold B_X10_fault_31 at hf
        refine lv_aload_n (pc := 31) hx hb dX10_fault_31 rfl (lv_at hl 0 rfl) ?_
        refine x_get (pc := 32) X hw in_X10_fault_X10 0 rfl rfl 29 (by decide) (List.mem_of_getElem? (i := 4) rfl) rfl dX10_fault_32 ?_
        refine lv_aload_n (pc := 35) hx hb dX10_fault_35 rfl (lv_at hl 0 rfl) ?_
        refine x_get (pc := 36) X hw in_X10_fault_X10 0 rfl rfl 1 (by decide) (List.mem_of_getElem? (i := 5) rfl) rfl dX10_fault_36 ?_
        refine lv_icmp_ge (pc := 39) (tgt := 109) hx hb dX10_fault_39 (by decide) (fun c9 => ?_) (fun c9 => ?_)
        · have hf := ipos c9 hf
          refine lv_iconst (pc := 109) (v := (-1)) hx hb dX10_fault_109 (by decide) ?_
          cases hf
          cases (hx0 : ((-1), S8) = (r, S'))
          exact hret _ _ 110 _ hw ⟨_, rfl, rfl⟩ dX10_fault_110
        · have hf := ineg c9 hf
          refine lv_aload_n (pc := 42) hx hb dX10_fault_42 rfl (lv_at hl 0 rfl) ?_
          refine x_get (pc := 43) X hw in_X10_fault_X10 0 rfl rfl 30 (by decide) (List.mem_of_getElem? (i := 6) rfl) rfl dX10_fault_43 ?_
          refine lv_aload_n (pc := 46) hx hb dX10_fault_46 rfl (lv_at hl 0 rfl) ?_
          refine x_get (pc := 47) X hw in_X10_fault_X10 0 rfl rfl 29 (by decide) (List.mem_of_getElem? (i := 4) rfl) rfl dX10_fault_47 ?_
          refine lv_isub (pc := 50) hx hb dX10_fault_50 ?_
          refine lv_iconst (pc := 51) (v := 1) hx hb dX10_fault_51 (by decide) ?_
          obtain ⟨v10, hj, hf⟩ := b1_ob hf
          have J83_9 : ∀ (H : Heap) (locs : List Loc) (ls : Array Slot), WD D A s (wX10 cs a q S8) H locs → lv_has ls 2 [(0, .ref a)] → W p l e rmX10_fault s m args below meth c H locs 0 0 Q (F0 m 83 ls [.int v10]) := by
            intro H locs ls hw hl
            refine lv_istore_n (lv' := [(1, .int v10), (0, .ref a)]) (pc := 83) hx hb dX10_fault_83 rfl hl (by decide) rfl (fun ls hl => ?_)
            refine lv_iload_n (pc := 84) hx hb dX10_fault_84 rfl (lv_at hl 0 rfl) ?_
            obtain ⟨v15, S16, hj, hf⟩ := b2_ob hf
            have J97_14 : ∀ (H : Heap) (locs : List Loc) (ls : Array Slot), WD D A s (wX10 cs a q S16) H locs → lv_has ls 2 [(0, .ref a), (1, .int v15)] → W p l e rmX10_fault s m args below meth c H locs 0 0 Q (F0 m 97 ls []) := by
              intro H locs ls hw hl
              refine lv_iload_n (pc := 97) hx hb dX10_fault_97 rfl (lv_at hl 1 rfl) ?_
              refine lv_if_ne (pc := 98) (tgt := 106) hx hb dX10_fault_98 (by decide) (fun c21 => ?_) (fun c21 => ?_)
              · have hf := ineg c21 hf
                refine lv_goto (pc := 106) (tgt := 31) hx hb dX10_fault_106 (by decide) ?_
                cases hf
                exact ih S16  hx0 _ _ _ hw (lv_sub hl [0] rfl)
              · have hf := ipos c21 hf
                refine lv_aload_n (pc := 101) hx hb dX10_fault_101 rfl (lv_at hl 0 rfl) ?_
                refine x_get (pc := 102) X hw in_X10_fault_X10 0 rfl rfl 29 (by decide) (List.mem_of_getElem? (i := 4) rfl) rfl dX10_fault_102 ?_
                cases hf
                cases (hx0 : ((S16.1 29), S16) = (r, S'))
                exact hret _ _ 105 _ hw ⟨_, rfl, rfl⟩ dX10_fault_105
            clear hf; have hf := hj; clear hj
            refine lv_if_eq (pc := 85) (tgt := 97) hx hb dX10_fault_85 (by decide) (fun c17 => ?_) (fun c17 => ?_)
            · have hf := ipos c17 hf
              cases hf
              exact J97_14 _ _ _ hw (lv_sub hl [1, 0] rfl)
            · have hf := ineg c17 hf
              refine lv_aload_n (pc := 88) hx hb dX10_fault_88 rfl (lv_at hl 1 rfl) ?_
              obtain ⟨S18, hc, hf⟩ := b1_ob hf
              refine x_all (pc := 89) X hw (va_runV (As := []) (rest := []) ⟨hx, hb, hml, hown, hts⟩ (c_X10_token l D cs a q S8 S18 hc _) (cwV 0 hts gX10_fault_X10_token rfl rfl rfl (by decide +kernel) ⟨Nat.le_of_ble_eq_true rfl, Nat.le_of_ble_eq_true rfl⟩) ⟨CP_blind, va_recv hK hw.1 (ci := 10) (q0 := 0) rfl rfl, x_preA X hw [.ref a]⟩ rfl rfl hl.1 rfl (lv_room (Nat.le_of_ble_eq_true rfl)) dX10_fault_89 ⟨Nat.zero_le _, Nat.zero_le _⟩) (fun H locs hw => ?_)
              refine lv_aload_n (pc := 92) hx hb dX10_fault_92 rfl (lv_at hl 1 rfl) ?_
              obtain ⟨v19, S20, hc, hf⟩ := b2_ob hf
              refine x_all (pc := 93) X hw (va_runV (As := []) (rest := []) ⟨hx, hb, hml, hown, hts⟩ (c_X10_readsLine l D cs a q S18 v19 S20 hc _) (cwV 0 hts gX10_fault_X10_readsLine rfl rfl rfl (by decide +kernel) ⟨Nat.le_of_ble_eq_true rfl, Nat.le_of_ble_eq_true rfl⟩) ⟨CP_blind, va_recv hK hw.1 (ci := 10) (q0 := 0) rfl rfl, x_preA X hw [.ref a]⟩ rfl rfl hl.1 rfl (lv_room (Nat.le_of_ble_eq_true rfl)) dX10_fault_93 ⟨Nat.zero_le _, Nat.zero_le _⟩) (fun H locs hw => ?_)
              refine lv_istore_n (lv' := [(1, .int v19), (0, .ref a)]) (pc := 96) hx hb dX10_fault_96 rfl hl (by decide) rfl (fun ls hl => ?_)
              cases hf
              exact J97_14 _ _ _ hw (lv_sub hl [1, 0] rfl)
          clear hf; have hf := hj; clear hj
          refine lv_icmp_ne (pc := 52) (tgt := 82) hx hb dX10_fault_52 (by decide) (fun c11 => ?_) (fun c11 => ?_)
          · have hf := ineg c11 hf
            refine lv_iconst (pc := 82) (v := 0) hx hb dX10_fault_82 (by decide) ?_
            cases hf
            exact J83_9 _ _ _ hw (lv_sub hl [0] rfl)
          · have hf := ipos c11 hf
            refine lv_aload_n (pc := 55) hx hb dX10_fault_55 rfl (lv_at hl 0 rfl) ?_
            refine x_get (pc := 56) X hw in_X10_fault_X10 0 rfl rfl 0 (by decide) (List.mem_of_getElem? (i := 7) rfl) rfl dX10_fault_56 ?_
            refine lv_aload_n (pc := 59) hx hb dX10_fault_59 rfl (lv_at hl 0 rfl) ?_
            refine x_get (pc := 60) X hw in_X10_fault_X10 0 rfl rfl 29 (by decide) (List.mem_of_getElem? (i := 4) rfl) rfl dX10_fault_60 ?_
            obtain ⟨v12, ev12, hf⟩ := b1_ob hf
            refine x_iald (pc := 63) X hw 1 0 rfl rfl ev12 dX10_fault_63 ?_
            refine lv_bipush (pc := 64) (v := 59) hx hb dX10_fault_64 (by decide) ?_
            refine lv_icmp_ne (pc := 66) (tgt := 82) hx hb dX10_fault_66 (by decide) (fun c13 => ?_) (fun c13 => ?_)
            · have hf := ineg c13 hf
              refine lv_iconst (pc := 82) (v := 0) hx hb dX10_fault_82 (by decide) ?_
              cases hf
              exact J83_9 _ _ _ hw (lv_sub hl [0] rfl)
            · have hf := ipos c13 hf
              refine lv_aload_n (pc := 69) hx hb dX10_fault_69 rfl (lv_at hl 0 rfl) ?_
              refine x_get (pc := 70) X hw in_X10_fault_X10 0 rfl rfl 8 (by decide) (List.mem_of_getElem? (i := 2) rfl) rfl dX10_fault_70 ?_
              refine lv_bipush (pc := 73) (v := 20) hx hb dX10_fault_73 (by decide) ?_
              refine lv_icmp_ge (pc := 75) (tgt := 82) hx hb dX10_fault_75 (by decide) (fun c14 => ?_) (fun c14 => ?_)
              · have hf := ipos c14 hf
                refine lv_iconst (pc := 82) (v := 0) hx hb dX10_fault_82 (by decide) ?_
                cases hf
                exact J83_9 _ _ _ hw (lv_sub hl [0] rfl)
              · have hf := ineg c14 hf
                refine lv_iconst (pc := 78) (v := 1) hx hb dX10_fault_78 (by decide) ?_
                refine lv_goto (pc := 79) (tgt := 83) hx hb dX10_fault_79 (by decide) ?_
                cases hf
                exact J83_9 _ _ _ hw (lv_sub hl [0] rfl)
    exact L31 _ S6 hf _ _ _ hw (lv_sub hl [0] rfl)
  · have hf := ipos c7 hf
    refine lv_aload_n (pc := 26) hx hb dX10_fault_26 rfl (lv_at hl 0 rfl) ?_
    refine x_get (pc := 27) X hw in_X10_fault_X10 0 rfl rfl 29 (by decide) (List.mem_of_getElem? (i := 4) rfl) rfl dX10_fault_27 ?_
    cases hf
    exact hret _ _ 30 _ hw ⟨_, rfl, rfl⟩ dX10_fault_30

theorem in_X10_program_X10 : ∀ w ∈ wsX100, w ∈ wsX10_program := fun _ h => List.mem_cons_of_mem _ (List.mem_append_right _ h)
abbrev rmX10_program : Room := { frames := 6, cells := 0, slots := 0, locals := 136 }
def B_X10_program_34 (v7 : Int32) (S8 : PS) : Option ((Int32 × PS) ⊕ (PS)) :=
  if (S8.1 7) ≤ v7 then
    some (.inr S8)
  else
  b1 (rdI 40 (S8.2.1 2) (20 + v7)) fun v10 =>
  b1 (wA 40 S8 2 v7 v10) fun S11 =>
  b1 (rdI 40 (S11.2.1 3) (20 + v7)) fun v12 =>
  b1 (wA 40 S11 3 v7 v12) fun S13 =>
  b1 (rdI 40 (S13.2.1 4) (20 + v7)) fun v14 =>
  b1 (wA 40 S13 4 v7 v14) fun S15 =>
  b1 (rdI 40 (S15.2.1 5) (20 + v7)) fun v16 =>
  b1 (wA 40 S15 5 v7 v16) fun S17 =>
  b1 (rdI 40 (S17.2.1 6) (20 + v7)) fun v18 =>
  b1 (wA 40 S17 6 v7 v18) fun S19 =>
  b1 (rdI 40 (S19.2.1 2) v7) fun v20 =>
  b1 (
    if v20 = 0 then
      b1 (rdI 40 (S19.2.1 4) v7) fun v23 =>
      b1 (wA 20 S19 9 (S19.1 10) v23) fun S24 =>
      bn (sI S24 10 ((S24.1 10) + 1)) fun S25 =>
      some S25
    else
    some S19) fun S21 =>
  bn (v7 + 1) fun v26 =>
  some (.inl (v26, S21))
def L_X10_program_34 (n : Nat) (v7 : Int32) (S8 : PS) : Option (PS) := loopF (fun x : Int32 × PS => B_X10_program_34 x.1 x.2) n (v7, S8)
def f_X10_program (S : PS) : Option (Int32 × PS) :=
  b2 (f_X10_fault S) fun v1 S2 =>
  if v1 = (-1) then
    bn (sI S2 7 (S2.1 8)) fun S4 =>
    bn (sI S4 11 (S4.1 32)) fun S5 =>
    bn (sI S5 10 0) fun S6 =>
    b1 (L_X10_program_34 FU 0 S6) fun S27 =>
    bn (sI S27 1 0) fun S28 =>
    some ((S28.1 11), S28)
  else
  some ((-4), S2)
set_option maxHeartbeats 4000000 in
set_option maxRecDepth 100000 in
theorem c_X10_program (l : Launch) (D : va_G) (cs : CS) (a : Nat) (q : Nat → Nat) (S : PS) (r : Int32) (S' : PS) (hf : f_X10_program S = some (r, S')) : CT l D (TY cs) yX10_program wsX10_program rmX10_program [.ref a] (wX10 cs a q S) (some (.int r)) (wX10 cs a q S') := by
  refine CT.ofW (own := RX10) (cc := cX10_program) (maxL := 2) (ret := some .int) (by decide) rfl rfl (Nat.le_of_ble_eq_true rfl) ?_
  intro p e s m args below meth c A Q X hret ls hl hw
  obtain ⟨hx, hb, hml, hown, hts, hK, hA, hr, hlk⟩ := id X
  have hl : lv_has ls 2 [(0, .ref a)] := hl
  unfold f_X10_program at hf
  refine lv_aload_n (pc := 0) hx hb dX10_program_0 rfl (lv_at hl 0 rfl) ?_
  obtain ⟨v1, S2, hc, hf⟩ := b2_ob hf
  refine x_all (pc := 1) X hw (va_runV (As := []) (rest := []) ⟨hx, hb, hml, hown, hts⟩ (c_X10_fault l D cs a q S v1 S2 hc _) (cwV 0 hts gX10_program_X10_fault rfl rfl rfl (by decide +kernel) ⟨Nat.le_of_ble_eq_true rfl, Nat.le_of_ble_eq_true rfl⟩) ⟨CP_blind, va_recv hK hw.1 (ci := 10) (q0 := 0) rfl rfl, x_preA X hw [.ref a]⟩ rfl rfl hl.1 rfl (lv_room (Nat.le_of_ble_eq_true rfl)) dX10_program_1 ⟨Nat.zero_le _, Nat.zero_le _⟩) (fun H locs hw => ?_)
  refine lv_iconst (pc := 4) (v := (-1)) hx hb dX10_program_4 (by decide) ?_
  refine lv_icmp_eq (pc := 5) (tgt := 11) hx hb dX10_program_5 (by decide) (fun c3 => ?_) (fun c3 => ?_)
  · have hf := ipos c3 hf
    refine lv_aload_n (pc := 11) hx hb dX10_program_11 rfl (lv_at hl 0 rfl) ?_
    refine lv_aload_n (pc := 12) hx hb dX10_program_12 rfl (lv_at hl 0 rfl) ?_
    refine x_get (pc := 13) X hw in_X10_program_X10 0 rfl rfl 8 (by decide) (List.mem_of_getElem? (i := 1) rfl) rfl dX10_program_13 ?_
    obtain ⟨S4, eS4, hf⟩ := bn_ob hf
    refine x_put (pc := 16) X hw in_X10_program_X10 tyX10 tyX10_ok nmX10 0 rfl rfl 7 (by decide) (List.mem_of_getElem? (i := 2) rfl) rfl rfl rfl (Nat.le_of_ble_eq_true rfl) dX10_program_16 (ws2 := wX10 cs a q S4) (by rw [eS4]; rfl) (fun H locs hw => ?_)
    refine lv_aload_n (pc := 19) hx hb dX10_program_19 rfl (lv_at hl 0 rfl) ?_
    refine lv_aload_n (pc := 20) hx hb dX10_program_20 rfl (lv_at hl 0 rfl) ?_
    refine x_get (pc := 21) X hw in_X10_program_X10 0 rfl rfl 32 (by decide) (List.mem_of_getElem? (i := 3) rfl) rfl dX10_program_21 ?_
    obtain ⟨S5, eS5, hf⟩ := bn_ob hf
    refine x_put (pc := 24) X hw in_X10_program_X10 tyX10 tyX10_ok nmX10 0 rfl rfl 11 (by decide) (List.mem_of_getElem? (i := 4) rfl) rfl rfl rfl (Nat.le_of_ble_eq_true rfl) dX10_program_24 (ws2 := wX10 cs a q S5) (by rw [eS5]; rfl) (fun H locs hw => ?_)
    refine lv_aload_n (pc := 27) hx hb dX10_program_27 rfl (lv_at hl 0 rfl) ?_
    refine lv_iconst (pc := 28) (v := 0) hx hb dX10_program_28 (by decide) ?_
    obtain ⟨S6, eS6, hf⟩ := bn_ob hf
    refine x_put (pc := 29) X hw in_X10_program_X10 tyX10 tyX10_ok nmX10 0 rfl rfl 10 (by decide) (List.mem_of_getElem? (i := 5) rfl) rfl rfl rfl (Nat.le_of_ble_eq_true rfl) dX10_program_29 (ws2 := wX10 cs a q S6) (by rw [eS6]; rfl) (fun H locs hw => ?_)
    refine lv_iconst (pc := 32) (v := 0) hx hb dX10_program_32 (by decide) ?_
    refine lv_istore_n (lv' := [(1, .int 0), (0, .ref a)]) (pc := 33) hx hb dX10_program_33 rfl hl (by decide) rfl (fun ls hl => ?_)
    have L34 : ∀ (n : Nat) (v7 : Int32) (S8 : PS) (rS8 : PS), L_X10_program_34 n v7 S8 = some rS8 → ∀ (H : Heap) (locs : List Loc) (ls : Array Slot), WD D A s (wX10 cs a q S8) H locs → lv_has ls 2 [(0, .ref a), (1, .int v7)] → (∀ (H : Heap) (locs : List Loc) (ls : Array Slot), WD D A s (wX10 cs a q rS8) H locs → lv_has ls 2 [(0, .ref a)] → W p l e rmX10_program s m args below meth c H locs 0 0 Q (F0 m 157 ls [])) → W p l e rmX10_program s m args below meth c H locs 0 0 Q (F0 m 34 ls []) := by
      intro n
      induction n with
      | zero => intro v7 S8 rS8 hf; exact (loopF_z hf).elim
      | succ n ih =>
        intro v7 S8 rS8 hf H locs ls hw hl K
        obtain ⟨x, hf, hx0⟩ := loopF_ob hf
        have hf : B_X10_program_34 v7 S8 = some x := hf
        unfold B_X10_program_34 at hf
        refine lv_iload_n (pc := 34) hx hb dX10_program_34 rfl (lv_at hl 1 rfl) ?_
        refine lv_aload_n (pc := 35) hx hb dX10_program_35 rfl (lv_at hl 0 rfl) ?_
        refine x_get (pc := 36) X hw in_X10_program_X10 0 rfl rfl 7 (by decide) (List.mem_of_getElem? (i := 2) rfl) rfl dX10_program_36 ?_
        refine lv_icmp_ge (pc := 39) (tgt := 157) hx hb dX10_program_39 (by decide) (fun c9 => ?_) (fun c9 => ?_)
        · have hf := ipos c9 hf
          cases hf
          cases (hx0 : S8 = rS8)
          exact K _ _ _ hw (lv_sub hl [0] rfl)
        · have hf := ineg c9 hf
          refine lv_aload_n (pc := 42) hx hb dX10_program_42 rfl (lv_at hl 0 rfl) ?_
          refine x_get (pc := 43) X hw in_X10_program_X10 0 rfl rfl 2 (by decide) (List.mem_of_getElem? (i := 6) rfl) rfl dX10_program_43 ?_
          refine lv_iload_n (pc := 46) hx hb dX10_program_46 rfl (lv_at hl 1 rfl) ?_
          refine lv_aload_n (pc := 47) hx hb dX10_program_47 rfl (lv_at hl 0 rfl) ?_
          refine x_get (pc := 48) X hw in_X10_program_X10 0 rfl rfl 2 (by decide) (List.mem_of_getElem? (i := 6) rfl) rfl dX10_program_48 ?_
          refine lv_bipush (pc := 51) (v := 20) hx hb dX10_program_51 (by decide) ?_
          refine lv_iload_n (pc := 53) hx hb dX10_program_53 rfl (lv_at hl 1 rfl) ?_
          refine lv_iadd (pc := 54) hx hb dX10_program_54 ?_
          obtain ⟨v10, ev10, hf⟩ := b1_ob hf
          refine x_iald (pc := 55) X hw 2 0 rfl rfl ev10 dX10_program_55 ?_
          obtain ⟨S11, eS11, hf⟩ := b1_ob hf
          refine x_iast (pc := 56) X hw 2 0 rfl rfl (wA_ob eS11).1 dX10_program_56 (ws2 := wX10 cs a q S11) (by rw [(wA_ob eS11).2]; rfl) (fun H locs hw => ?_)
          refine lv_aload_n (pc := 57) hx hb dX10_program_57 rfl (lv_at hl 0 rfl) ?_
          refine x_get (pc := 58) X hw in_X10_program_X10 0 rfl rfl 3 (by decide) (List.mem_of_getElem? (i := 7) rfl) rfl dX10_program_58 ?_
          refine lv_iload_n (pc := 61) hx hb dX10_program_61 rfl (lv_at hl 1 rfl) ?_
          refine lv_aload_n (pc := 62) hx hb dX10_program_62 rfl (lv_at hl 0 rfl) ?_
          refine x_get (pc := 63) X hw in_X10_program_X10 0 rfl rfl 3 (by decide) (List.mem_of_getElem? (i := 7) rfl) rfl dX10_program_63 ?_
          refine lv_bipush (pc := 66) (v := 20) hx hb dX10_program_66 (by decide) ?_
          refine lv_iload_n (pc := 68) hx hb dX10_program_68 rfl (lv_at hl 1 rfl) ?_
          refine lv_iadd (pc := 69) hx hb dX10_program_69 ?_
          obtain ⟨v12, ev12, hf⟩ := b1_ob hf
          refine x_iald (pc := 70) X hw 3 0 rfl rfl ev12 dX10_program_70 ?_
          obtain ⟨S13, eS13, hf⟩ := b1_ob hf
          refine x_iast (pc := 71) X hw 3 0 rfl rfl (wA_ob eS13).1 dX10_program_71 (ws2 := wX10 cs a q S13) (by rw [(wA_ob eS13).2]; rfl) (fun H locs hw => ?_)
          refine lv_aload_n (pc := 72) hx hb dX10_program_72 rfl (lv_at hl 0 rfl) ?_
          refine x_get (pc := 73) X hw in_X10_program_X10 0 rfl rfl 4 (by decide) (List.mem_of_getElem? (i := 8) rfl) rfl dX10_program_73 ?_
          refine lv_iload_n (pc := 76) hx hb dX10_program_76 rfl (lv_at hl 1 rfl) ?_
          refine lv_aload_n (pc := 77) hx hb dX10_program_77 rfl (lv_at hl 0 rfl) ?_
          refine x_get (pc := 78) X hw in_X10_program_X10 0 rfl rfl 4 (by decide) (List.mem_of_getElem? (i := 8) rfl) rfl dX10_program_78 ?_
          refine lv_bipush (pc := 81) (v := 20) hx hb dX10_program_81 (by decide) ?_
          refine lv_iload_n (pc := 83) hx hb dX10_program_83 rfl (lv_at hl 1 rfl) ?_
          refine lv_iadd (pc := 84) hx hb dX10_program_84 ?_
          obtain ⟨v14, ev14, hf⟩ := b1_ob hf
          refine x_iald (pc := 85) X hw 4 0 rfl rfl ev14 dX10_program_85 ?_
          obtain ⟨S15, eS15, hf⟩ := b1_ob hf
          refine x_iast (pc := 86) X hw 4 0 rfl rfl (wA_ob eS15).1 dX10_program_86 (ws2 := wX10 cs a q S15) (by rw [(wA_ob eS15).2]; rfl) (fun H locs hw => ?_)
          refine lv_aload_n (pc := 87) hx hb dX10_program_87 rfl (lv_at hl 0 rfl) ?_
          refine x_get (pc := 88) X hw in_X10_program_X10 0 rfl rfl 5 (by decide) (List.mem_of_getElem? (i := 9) rfl) rfl dX10_program_88 ?_
          refine lv_iload_n (pc := 91) hx hb dX10_program_91 rfl (lv_at hl 1 rfl) ?_
          refine lv_aload_n (pc := 92) hx hb dX10_program_92 rfl (lv_at hl 0 rfl) ?_
          refine x_get (pc := 93) X hw in_X10_program_X10 0 rfl rfl 5 (by decide) (List.mem_of_getElem? (i := 9) rfl) rfl dX10_program_93 ?_
          refine lv_bipush (pc := 96) (v := 20) hx hb dX10_program_96 (by decide) ?_
          refine lv_iload_n (pc := 98) hx hb dX10_program_98 rfl (lv_at hl 1 rfl) ?_
          refine lv_iadd (pc := 99) hx hb dX10_program_99 ?_
          obtain ⟨v16, ev16, hf⟩ := b1_ob hf
          refine x_iald (pc := 100) X hw 5 0 rfl rfl ev16 dX10_program_100 ?_
          obtain ⟨S17, eS17, hf⟩ := b1_ob hf
          refine x_iast (pc := 101) X hw 5 0 rfl rfl (wA_ob eS17).1 dX10_program_101 (ws2 := wX10 cs a q S17) (by rw [(wA_ob eS17).2]; rfl) (fun H locs hw => ?_)
          refine lv_aload_n (pc := 102) hx hb dX10_program_102 rfl (lv_at hl 0 rfl) ?_
          refine x_get (pc := 103) X hw in_X10_program_X10 0 rfl rfl 6 (by decide) (List.mem_of_getElem? (i := 10) rfl) rfl dX10_program_103 ?_
          refine lv_iload_n (pc := 106) hx hb dX10_program_106 rfl (lv_at hl 1 rfl) ?_
          refine lv_aload_n (pc := 107) hx hb dX10_program_107 rfl (lv_at hl 0 rfl) ?_
          refine x_get (pc := 108) X hw in_X10_program_X10 0 rfl rfl 6 (by decide) (List.mem_of_getElem? (i := 10) rfl) rfl dX10_program_108 ?_
          refine lv_bipush (pc := 111) (v := 20) hx hb dX10_program_111 (by decide) ?_
          refine lv_iload_n (pc := 113) hx hb dX10_program_113 rfl (lv_at hl 1 rfl) ?_
          refine lv_iadd (pc := 114) hx hb dX10_program_114 ?_
          obtain ⟨v18, ev18, hf⟩ := b1_ob hf
          refine x_iald (pc := 115) X hw 6 0 rfl rfl ev18 dX10_program_115 ?_
          obtain ⟨S19, eS19, hf⟩ := b1_ob hf
          refine x_iast (pc := 116) X hw 6 0 rfl rfl (wA_ob eS19).1 dX10_program_116 (ws2 := wX10 cs a q S19) (by rw [(wA_ob eS19).2]; rfl) (fun H locs hw => ?_)
          refine lv_aload_n (pc := 117) hx hb dX10_program_117 rfl (lv_at hl 0 rfl) ?_
          refine x_get (pc := 118) X hw in_X10_program_X10 0 rfl rfl 2 (by decide) (List.mem_of_getElem? (i := 6) rfl) rfl dX10_program_118 ?_
          refine lv_iload_n (pc := 121) hx hb dX10_program_121 rfl (lv_at hl 1 rfl) ?_
          obtain ⟨v20, ev20, hf⟩ := b1_ob hf
          refine x_iald (pc := 122) X hw 2 0 rfl rfl ev20 dX10_program_122 ?_
          obtain ⟨S21, hj, hf⟩ := b1_ob hf
          have J151_20 : ∀ (H : Heap) (locs : List Loc) (ls : Array Slot), WD D A s (wX10 cs a q S21) H locs → lv_has ls 2 [(0, .ref a), (1, .int v7)] → W p l e rmX10_program s m args below meth c H locs 0 0 Q (F0 m 151 ls []) := by
            intro H locs ls hw hl
            obtain ⟨v26, ev26, hf⟩ := bn_ob hf
            refine lv_iinc (pc := 151) (v := v26) (lv' := [(1, .int v26), (0, .ref a)]) hx hb dX10_program_151 hl (k := 1) rfl (by rw [ev26]; rfl) (by decide) rfl (fun ls hl => ?_)
            refine lv_goto (pc := 154) (tgt := 34) hx hb dX10_program_154 (by decide) ?_
            cases hf
            exact ih v26 S21 rS8 hx0 _ _ _ hw (lv_sub hl [1, 0] rfl) K
          clear hf; have hf := hj; clear hj
          refine lv_if_ne (pc := 123) (tgt := 151) hx hb dX10_program_123 (by decide) (fun c22 => ?_) (fun c22 => ?_)
          · have hf := ineg c22 hf
            cases hf
            exact J151_20 _ _ _ hw (lv_sub hl [0, 1] rfl)
          · have hf := ipos c22 hf
            refine lv_aload_n (pc := 126) hx hb dX10_program_126 rfl (lv_at hl 0 rfl) ?_
            refine x_get (pc := 127) X hw in_X10_program_X10 0 rfl rfl 9 (by decide) (List.mem_of_getElem? (i := 11) rfl) rfl dX10_program_127 ?_
            refine lv_aload_n (pc := 130) hx hb dX10_program_130 rfl (lv_at hl 0 rfl) ?_
            refine x_get (pc := 131) X hw in_X10_program_X10 0 rfl rfl 10 (by decide) (List.mem_of_getElem? (i := 5) rfl) rfl dX10_program_131 ?_
            refine lv_aload_n (pc := 134) hx hb dX10_program_134 rfl (lv_at hl 0 rfl) ?_
            refine x_get (pc := 135) X hw in_X10_program_X10 0 rfl rfl 4 (by decide) (List.mem_of_getElem? (i := 8) rfl) rfl dX10_program_135 ?_
            refine lv_iload_n (pc := 138) hx hb dX10_program_138 rfl (lv_at hl 1 rfl) ?_
            obtain ⟨v23, ev23, hf⟩ := b1_ob hf
            refine x_iald (pc := 139) X hw 4 0 rfl rfl ev23 dX10_program_139 ?_
            obtain ⟨S24, eS24, hf⟩ := b1_ob hf
            refine x_iast (pc := 140) X hw 7 0 rfl rfl (wA_ob eS24).1 dX10_program_140 (ws2 := wX10 cs a q S24) (by rw [(wA_ob eS24).2]; rfl) (fun H locs hw => ?_)
            refine lv_aload_n (pc := 141) hx hb dX10_program_141 rfl (lv_at hl 0 rfl) ?_
            refine lv_dup (pc := 142) hx hb dX10_program_142 rfl ?_
            refine x_get (pc := 143) X hw in_X10_program_X10 0 rfl rfl 10 (by decide) (List.mem_of_getElem? (i := 5) rfl) rfl dX10_program_143 ?_
            refine lv_iconst (pc := 146) (v := 1) hx hb dX10_program_146 (by decide) ?_
            refine lv_iadd (pc := 147) hx hb dX10_program_147 ?_
            obtain ⟨S25, eS25, hf⟩ := bn_ob hf
            refine x_put (pc := 148) X hw in_X10_program_X10 tyX10 tyX10_ok nmX10 0 rfl rfl 10 (by decide) (List.mem_of_getElem? (i := 5) rfl) rfl rfl rfl (Nat.le_of_ble_eq_true rfl) dX10_program_148 (ws2 := wX10 cs a q S25) (by rw [eS25]; rfl) (fun H locs hw => ?_)
            cases hf
            exact J151_20 _ _ _ hw (lv_sub hl [0, 1] rfl)
    obtain ⟨S27, hj, hf⟩ := b1_ob hf
    refine L34 _ 0 S6 S27 hj _ _ _ hw (lv_sub hl [1, 0] rfl) (fun H locs ls hw hl => ?_)
    clear hj L34
    refine lv_aload_n (pc := 157) hx hb dX10_program_157 rfl (lv_at hl 0 rfl) ?_
    refine lv_iconst (pc := 158) (v := 0) hx hb dX10_program_158 (by decide) ?_
    obtain ⟨S28, eS28, hf⟩ := bn_ob hf
    refine x_put (pc := 159) X hw in_X10_program_X10 tyX10 tyX10_ok nmX10 0 rfl rfl 1 (by decide) (List.mem_of_getElem? (i := 12) rfl) rfl rfl rfl (Nat.le_of_ble_eq_true rfl) dX10_program_159 (ws2 := wX10 cs a q S28) (by rw [eS28]; rfl) (fun H locs hw => ?_)
    refine lv_aload_n (pc := 162) hx hb dX10_program_162 rfl (lv_at hl 0 rfl) ?_
    refine x_get (pc := 163) X hw in_X10_program_X10 0 rfl rfl 11 (by decide) (List.mem_of_getElem? (i := 4) rfl) rfl dX10_program_163 ?_
    cases hf
    exact hret _ _ 166 _ hw ⟨_, rfl, rfl⟩ dX10_program_166
  · have hf := ineg c3 hf
    refine lv_bipush (pc := 8) (v := (-4)) hx hb dX10_program_8 (by decide) ?_
    cases hf
    exact hret _ _ 10 _ hw ⟨_, rfl, rfl⟩ dX10_program_10

theorem in_X10_draw_X10 : ∀ w ∈ wsX100, w ∈ wsX10_draw := fun _ h => List.mem_cons_of_mem _ (List.mem_append_right _ h)
abbrev rmX10_draw : Room := { frames := 1, cells := 0, slots := 0, locals := 25 }
def f_X10_draw (S : PS) (p1 : Int32) : Option (Int32) :=
  b1 (f_X10_in (p1.toInt64) 0 (((S.1 10) - 1).toInt64)) fun v1 =>
  b1 (
    if v1 = 0 then
      some ((-2) : Int32)
    else
    b1 (rdI 20 (S.2.1 9) p1) fun v4 =>
    some v4) fun v2 =>
  some v2
set_option maxHeartbeats 4000000 in
set_option maxRecDepth 100000 in
theorem c_X10_draw (l : Launch) (D : va_G) (cs : CS) (a : Nat) (q : Nat → Nat) (S : PS) (p1 : Int32) (r : Int32) (hf : f_X10_draw S p1 = some r) : CT l D (TY cs) yX10_draw wsX10_draw rmX10_draw [.ref a, .int p1] (wX10 cs a q S) (some (.int r)) (wX10 cs a q S) := by
  refine CT.ofW (own := RX10) (cc := cX10_draw) (maxL := 2) (ret := some .int) (by decide) rfl rfl (Nat.le_of_ble_eq_true rfl) ?_
  intro p e s m args below meth c A Q X hret ls hl hw
  obtain ⟨hx, hb, hml, hown, hts, hK, hA, hr, hlk⟩ := id X
  have hl : lv_has ls 2 [(0, .ref a), (1, .int p1)] := hl
  unfold f_X10_draw at hf
  refine lv_iload_n (pc := 0) hx hb dX10_draw_0 rfl (lv_at hl 1 rfl) ?_
  refine lv_i2l (pc := 1) hx hb dX10_draw_1 rfl ?_
  refine lv_lconst (pc := 2) (v := 0) hx hb dX10_draw_2 (by decide) ?_
  refine lv_aload_n (pc := 3) hx hb dX10_draw_3 rfl (lv_at hl 0 rfl) ?_
  refine x_get (pc := 4) X hw in_X10_draw_X10 0 rfl rfl 10 (by decide) (List.mem_of_getElem? (i := 1) rfl) rfl dX10_draw_4 ?_
  refine lv_iconst (pc := 7) (v := 1) hx hb dX10_draw_7 (by decide) ?_
  refine lv_isub (pc := 8) hx hb dX10_draw_8 ?_
  refine lv_i2l (pc := 9) hx hb dX10_draw_9 rfl ?_
  obtain ⟨v1, hc, hf⟩ := b1_ob hf
  refine x_nil (pc := 10) X hw (va_runS (As := [.long (p1.toInt64), .long 0, .long (((S.1 10) - 1).toInt64)]) (rest := []) ⟨hx, hb, hml, hown, hts⟩ (c_X10_in l D cs (p1.toInt64) 0 (((S.1 10) - 1).toInt64) v1 hc _) (va_cwS 3 hts gX10_draw_X10_in rfl rfl rfl (by decide +kernel) ⟨Nat.le_of_ble_eq_true rfl, Nat.le_of_ble_eq_true rfl⟩) ⟨CP_blind, x_preN X [.long (p1.toInt64), .long 0, .long (((S.1 10) - 1).toInt64)]⟩ rfl rfl hl.1 rfl (lv_room (Nat.le_of_ble_eq_true rfl)) dX10_draw_10 ⟨Nat.zero_le _, Nat.zero_le _⟩) (fun H locs hw => ?_)
  obtain ⟨v2, hj, hf⟩ := b1_ob hf
  have J27_1 : ∀ (H : Heap) (locs : List Loc) (ls : Array Slot), WD D A s (wX10 cs a q S) H locs → lv_has ls 2 [] → W p l e rmX10_draw s m args below meth c H locs 0 0 Q (F0 m 27 ls [.int v2]) := by
    intro H locs ls hw hl
    cases hf
    exact hret _ _ 27 _ hw ⟨_, rfl, rfl⟩ dX10_draw_27
  clear hf; have hf := hj; clear hj
  refine lv_if_eq (pc := 13) (tgt := 25) hx hb dX10_draw_13 (by decide) (fun c3 => ?_) (fun c3 => ?_)
  · have hf := ipos c3 hf
    refine lv_bipush (pc := 25) (v := (-2)) hx hb dX10_draw_25 (by decide) ?_
    cases hf
    exact J27_1 _ _ _ hw (lv_sub hl [] rfl)
  · have hf := ineg c3 hf
    refine lv_aload_n (pc := 16) hx hb dX10_draw_16 rfl (lv_at hl 0 rfl) ?_
    refine x_get (pc := 17) X hw in_X10_draw_X10 0 rfl rfl 9 (by decide) (List.mem_of_getElem? (i := 2) rfl) rfl dX10_draw_17 ?_
    refine lv_iload_n (pc := 20) hx hb dX10_draw_20 rfl (lv_at hl 1 rfl) ?_
    obtain ⟨v4, ev4, hf⟩ := b1_ob hf
    refine x_iald (pc := 21) X hw 7 0 rfl rfl ev4 dX10_draw_21 ?_
    refine lv_goto (pc := 22) (tgt := 27) hx hb dX10_draw_22 (by decide) ?_
    cases hf
    exact J27_1 _ _ _ hw (lv_sub hl [] rfl)

theorem in_X10_inputs_X10 : ∀ w ∈ wsX100, w ∈ wsX10_inputs := fun _ h => List.mem_cons_of_mem _ (List.mem_append_right _ h)
abbrev rmX10_inputs : Room := { frames := 1, cells := 0, slots := 0, locals := 25 }
def f_X10_inputs (S : PS) (p1 : Int32) (p2 : Int32) : Option (Int32 × PS) :=
  b1 (f_X10_in (p1.toInt64) 0 (5)) fun v1 =>
  if v1 = 0 then
    some ((-3), S)
  else
  bn (sI S 12 p1) fun S3 =>
  bn (sI S3 13 p2) fun S4 =>
  some (((1 : Int32) <<< (p1 &&& 31)), S4)
set_option maxHeartbeats 4000000 in
set_option maxRecDepth 100000 in
theorem c_X10_inputs (l : Launch) (D : va_G) (cs : CS) (a : Nat) (q : Nat → Nat) (S : PS) (p1 : Int32) (p2 : Int32) (r : Int32) (S' : PS) (hf : f_X10_inputs S p1 p2 = some (r, S')) : CT l D (TY cs) yX10_inputs wsX10_inputs rmX10_inputs [.ref a, .int p1, .int p2] (wX10 cs a q S) (some (.int r)) (wX10 cs a q S') := by
  refine CT.ofW (own := RX10) (cc := cX10_inputs) (maxL := 3) (ret := some .int) (by decide) rfl rfl (Nat.le_of_ble_eq_true rfl) ?_
  intro p e s m args below meth c A Q X hret ls hl hw
  obtain ⟨hx, hb, hml, hown, hts, hK, hA, hr, hlk⟩ := id X
  have hl : lv_has ls 3 [(0, .ref a), (1, .int p1), (2, .int p2)] := hl
  unfold f_X10_inputs at hf
  refine lv_iload_n (pc := 0) hx hb dX10_inputs_0 rfl (lv_at hl 1 rfl) ?_
  refine lv_i2l (pc := 1) hx hb dX10_inputs_1 rfl ?_
  refine lv_lconst (pc := 2) (v := 0) hx hb dX10_inputs_2 (by decide) ?_
  refine lv_ldc2 (pc := 3) (v := (5)) hx hb hown (hts _ (List.mem_of_getElem? (i := 1) rfl)) dX10_inputs_3 ?_
  obtain ⟨v1, hc, hf⟩ := b1_ob hf
  refine x_nil (pc := 6) X hw (va_runS (As := [.long (p1.toInt64), .long 0, .long (5)]) (rest := []) ⟨hx, hb, hml, hown, hts⟩ (c_X10_in l D cs (p1.toInt64) 0 (5) v1 hc _) (va_cwS 3 hts gX10_inputs_X10_in rfl rfl rfl (by decide +kernel) ⟨Nat.le_of_ble_eq_true rfl, Nat.le_of_ble_eq_true rfl⟩) ⟨CP_blind, x_preN X [.long (p1.toInt64), .long 0, .long (5)]⟩ rfl rfl hl.1 rfl (lv_room (Nat.le_of_ble_eq_true rfl)) dX10_inputs_6 ⟨Nat.zero_le _, Nat.zero_le _⟩) (fun H locs hw => ?_)
  refine lv_if_ne (pc := 9) (tgt := 15) hx hb dX10_inputs_9 (by decide) (fun c2 => ?_) (fun c2 => ?_)
  · have hf := ineg c2 hf
    refine lv_aload_n (pc := 15) hx hb dX10_inputs_15 rfl (lv_at hl 0 rfl) ?_
    refine lv_iload_n (pc := 16) hx hb dX10_inputs_16 rfl (lv_at hl 1 rfl) ?_
    obtain ⟨S3, eS3, hf⟩ := bn_ob hf
    refine x_put (pc := 17) X hw in_X10_inputs_X10 tyX10 tyX10_ok nmX10 0 rfl rfl 12 (by decide) (List.mem_of_getElem? (i := 2) rfl) rfl rfl rfl (Nat.le_of_ble_eq_true rfl) dX10_inputs_17 (ws2 := wX10 cs a q S3) (by rw [eS3]; rfl) (fun H locs hw => ?_)
    refine lv_aload_n (pc := 20) hx hb dX10_inputs_20 rfl (lv_at hl 0 rfl) ?_
    refine lv_iload_n (pc := 21) hx hb dX10_inputs_21 rfl (lv_at hl 2 rfl) ?_
    obtain ⟨S4, eS4, hf⟩ := bn_ob hf
    refine x_put (pc := 22) X hw in_X10_inputs_X10 tyX10 tyX10_ok nmX10 0 rfl rfl 13 (by decide) (List.mem_of_getElem? (i := 3) rfl) rfl rfl rfl (Nat.le_of_ble_eq_true rfl) dX10_inputs_22 (ws2 := wX10 cs a q S4) (by rw [eS4]; rfl) (fun H locs hw => ?_)
    refine lv_iconst (pc := 25) (v := 1) hx hb dX10_inputs_25 (by decide) ?_
    refine lv_iload_n (pc := 26) hx hb dX10_inputs_26 rfl (lv_at hl 1 rfl) ?_
    refine lv_ishl (pc := 27) hx hb dX10_inputs_27 ?_
    cases hf
    exact hret _ _ 28 _ hw ⟨_, rfl, rfl⟩ dX10_inputs_28
  · have hf := ipos c2 hf
    refine lv_bipush (pc := 12) (v := (-3)) hx hb dX10_inputs_12 (by decide) ?_
    cases hf
    exact hret _ _ 14 _ hw ⟨_, rfl, rfl⟩ dX10_inputs_14

theorem in_X10_drawn_X10 : ∀ w ∈ wsX100, w ∈ wsX10_drawn := fun _ h => List.mem_cons_of_mem _ (List.mem_append_right _ h)
abbrev rmX10_drawn : Room := { frames := 0, cells := 0, slots := 0, locals := 0 }
def B_X10_drawn_10 (S : PS) (p2 : Int32) (v2 : Int32) (v3 : Int32) : Option ((Int32 × Int32) ⊕ (Int32)) :=
  if v3 ≤ p2 then
    some (.inr v2)
  else
  b1 (rdI 20 (S.2.1 9) v3) fun v5 =>
  b1 (dvI v2 v5) fun v6 =>
  bn (v3 + (-1)) fun v7 =>
  some (.inl (v6, v7))
def L_X10_drawn_10 (S : PS) (p2 : Int32) (n : Nat) (v2 : Int32) (v3 : Int32) : Option (Int32) := loopF (fun x : Int32 × Int32 => B_X10_drawn_10 S p2 x.1 x.2) n (v2, v3)
def f_X10_drawn (S : PS) (p1 : Int32) (p2 : Int32) : Option (Int32) :=
  bn ((S.1 10) - 1) fun v1 =>
  b1 (L_X10_drawn_10 S p2 FU p1 v1) fun v8 =>
  b1 (rdI 20 (S.2.1 9) p2) fun v9 =>
  b1 (rmI v8 v9) fun v10 =>
  some v10
set_option maxHeartbeats 4000000 in
set_option maxRecDepth 100000 in
theorem c_X10_drawn (l : Launch) (D : va_G) (cs : CS) (a : Nat) (q : Nat → Nat) (S : PS) (p1 : Int32) (p2 : Int32) (r : Int32) (hf : f_X10_drawn S p1 p2 = some r) : CT l D (TY cs) yX10_drawn wsX10_drawn rmX10_drawn [.ref a, .int p1, .int p2] (wX10 cs a q S) (some (.int r)) (wX10 cs a q S) := by
  refine CT.ofW (own := RX10) (cc := cX10_drawn) (maxL := 5) (ret := some .int) (by decide) rfl rfl (Nat.le_of_ble_eq_true rfl) ?_
  intro p e s m args below meth c A Q X hret ls hl hw
  obtain ⟨hx, hb, hml, hown, hts, hK, hA, hr, hlk⟩ := id X
  have hl : lv_has ls 5 [(0, .ref a), (1, .int p1), (2, .int p2)] := hl
  unfold f_X10_drawn at hf
  refine lv_iload_n (pc := 0) hx hb dX10_drawn_0 rfl (lv_at hl 1 rfl) ?_
  refine lv_istore_n (lv' := [(3, .int p1), (0, .ref a), (1, .int p1), (2, .int p2)]) (pc := 1) hx hb dX10_drawn_1 rfl hl (by decide) rfl (fun ls hl => ?_)
  refine lv_aload_n (pc := 2) hx hb dX10_drawn_2 rfl (lv_at hl 1 rfl) ?_
  refine x_get (pc := 3) X hw in_X10_drawn_X10 0 rfl rfl 10 (by decide) (List.mem_of_getElem? (i := 1) rfl) rfl dX10_drawn_3 ?_
  refine lv_iconst (pc := 6) (v := 1) hx hb dX10_drawn_6 (by decide) ?_
  refine lv_isub (pc := 7) hx hb dX10_drawn_7 ?_
  obtain ⟨v1, ev1, hf⟩ := bn_ob hf
  refine x_topi ev1 ?_
  refine lv_istore (lv' := [(4, .int v1), (3, .int p1), (0, .ref a), (1, .int p1), (2, .int p2)]) (pc := 8) hx hb dX10_drawn_8 hl (by decide) rfl (fun ls hl => ?_)
  have L10 : ∀ (n : Nat) (v2 : Int32) (v3 : Int32) (rv2 : Int32), L_X10_drawn_10 S p2 n v2 v3 = some rv2 → ∀ (H : Heap) (locs : List Loc) (ls : Array Slot), WD D A s (wX10 cs a q S) H locs → lv_has ls 5 [(0, .ref a), (2, .int p2), (3, .int v2), (4, .int v3)] → (∀ (H : Heap) (locs : List Loc) (ls : Array Slot), WD D A s (wX10 cs a q S) H locs → lv_has ls 5 [(0, .ref a), (2, .int p2), (3, .int rv2)] → W p l e rmX10_drawn s m args below meth c H locs 0 0 Q (F0 m 32 ls [])) → W p l e rmX10_drawn s m args below meth c H locs 0 0 Q (F0 m 10 ls []) := by
    intro n
    induction n with
    | zero => intro v2 v3 rv2 hf; exact (loopF_z hf).elim
    | succ n ih =>
      intro v2 v3 rv2 hf H locs ls hw hl K
      obtain ⟨x, hf, hx0⟩ := loopF_ob hf
      have hf : B_X10_drawn_10 S p2 v2 v3 = some x := hf
      unfold B_X10_drawn_10 at hf
      refine lv_iload (pc := 10) hx hb dX10_drawn_10 (lv_at hl 3 rfl) ?_
      refine lv_iload_n (pc := 12) hx hb dX10_drawn_12 rfl (lv_at hl 1 rfl) ?_
      refine lv_icmp_le (pc := 13) (tgt := 32) hx hb dX10_drawn_13 (by decide) (fun c4 => ?_) (fun c4 => ?_)
      · have hf := ipos c4 hf
        cases hf
        cases (hx0 : v2 = rv2)
        exact K _ _ _ hw (lv_sub hl [0, 1, 2] rfl)
      · have hf := ineg c4 hf
        refine lv_iload_n (pc := 16) hx hb dX10_drawn_16 rfl (lv_at hl 2 rfl) ?_
        refine lv_aload_n (pc := 17) hx hb dX10_drawn_17 rfl (lv_at hl 0 rfl) ?_
        refine x_get (pc := 18) X hw in_X10_drawn_X10 0 rfl rfl 9 (by decide) (List.mem_of_getElem? (i := 2) rfl) rfl dX10_drawn_18 ?_
        refine lv_iload (pc := 21) hx hb dX10_drawn_21 (lv_at hl 3 rfl) ?_
        obtain ⟨v5, ev5, hf⟩ := b1_ob hf
        refine x_iald (pc := 23) X hw 7 0 rfl rfl ev5 dX10_drawn_23 ?_
        obtain ⟨v6, ev6, hf⟩ := b1_ob hf
        refine lv_idiv (pc := 24) hx hb dX10_drawn_24 (dvI_ob ev6).1 ?_
        refine x_topi (dvI_ob ev6).2.symm ?_
        refine lv_istore_n (lv' := [(3, .int v6), (0, .ref a), (2, .int p2), (4, .int v3)]) (pc := 25) hx hb dX10_drawn_25 rfl hl (by decide) rfl (fun ls hl => ?_)
        obtain ⟨v7, ev7, hf⟩ := bn_ob hf
        refine lv_iinc (pc := 26) (v := v7) (lv' := [(4, .int v7), (3, .int v6), (0, .ref a), (2, .int p2)]) hx hb dX10_drawn_26 hl (k := 3) rfl (by rw [ev7]; rfl) (by decide) rfl (fun ls hl => ?_)
        refine lv_goto (pc := 29) (tgt := 10) hx hb dX10_drawn_29 (by decide) ?_
        cases hf
        exact ih v6 v7 rv2 hx0 _ _ _ hw (lv_sub hl [2, 3, 1, 0] rfl) K
  obtain ⟨v8, hj, hf⟩ := b1_ob hf
  refine L10 _ p1 v1 v8 hj _ _ _ hw (lv_sub hl [2, 4, 1, 0] rfl) (fun H locs ls hw hl => ?_)
  clear hj L10
  refine lv_iload_n (pc := 32) hx hb dX10_drawn_32 rfl (lv_at hl 2 rfl) ?_
  refine lv_aload_n (pc := 33) hx hb dX10_drawn_33 rfl (lv_at hl 0 rfl) ?_
  refine x_get (pc := 34) X hw in_X10_drawn_X10 0 rfl rfl 9 (by decide) (List.mem_of_getElem? (i := 2) rfl) rfl dX10_drawn_34 ?_
  refine lv_iload_n (pc := 37) hx hb dX10_drawn_37 rfl (lv_at hl 1 rfl) ?_
  obtain ⟨v9, ev9, hf⟩ := b1_ob hf
  refine x_iald (pc := 38) X hw 7 0 rfl rfl ev9 dX10_drawn_38 ?_
  obtain ⟨v10, ev10, hf⟩ := b1_ob hf
  refine lv_irem (pc := 39) hx hb dX10_drawn_39 (rmI_ob ev10).1 ?_
  refine x_topi (rmI_ob ev10).2.symm ?_
  cases hf
  exact hret _ _ 40 _ hw ⟨_, rfl, rfl⟩ dX10_drawn_40

theorem in_X10_outOf_X10 : ∀ w ∈ wsX100, w ∈ wsX10_outOf := fun _ h => List.mem_cons_of_mem _ (List.mem_append_right _ h)
abbrev rmX10_outOf : Room := { frames := 1, cells := 0, slots := 0, locals := 24 }
def B_X10_outOf_2 (v1 : Int32) (S2 : PS) : Option ((Int32 × PS) ⊕ (PS)) :=
  if 8 ≤ v1 then
    some (.inr S2)
  else
  b1 (wA 8 S2 33 v1 0) fun S4 =>
  bn (v1 + 1) fun v5 =>
  some (.inl (v5, S4))
def L_X10_outOf_2 (n : Nat) (v1 : Int32) (S2 : PS) : Option (PS) := loopF (fun x : Int32 × PS => B_X10_outOf_2 x.1 x.2) n (v1, S2)
def B_X10_outOf_29 (p1 : Int32) (p2 : Int32) (v7 : Int32) (v8 : Int32) (v9 : Int32) (S10 : PS) : Option ((Int32 × Int32 × Int32 × PS) ⊕ (Int32 × PS)) :=
  if (S10.1 7) ≤ v9 then
    some (.inr (v7, S10))
  else
  b1 (rdI 40 (S10.2.1 4) v9) fun v12 =>
  b1 (rdI 40 (S10.2.1 2) v9) fun v13 =>
  b1 (
    if v13 ≤ 2 then
      some (0 : Int32)
    else
    b1 (rdI 40 (S10.2.1 2) v9) fun v16 =>
    if 8 ≤ v16 then
      some (0 : Int32)
    else
    b1 (rdI 8 (S10.2.1 33) v12) fun v18 =>
    some v18) fun v14 =>
  b1 (rdI 40 (S10.2.1 2) v9) fun v19 =>
  b1 (
    if v19 ≤ 2 then
      some (0 : Int32)
    else
    b1 (rdI 40 (S10.2.1 2) v9) fun v22 =>
    if 8 ≤ v22 then
      some (0 : Int32)
    else
    b1 (rdI 40 (S10.2.1 5) v9) fun v24 =>
    b1 (rdI 8 (S10.2.1 33) v24) fun v25 =>
    some v25) fun v20 =>
  b1 (rdI 40 (S10.2.1 3) v9) fun v26 =>
  b1 (rdI 40 (S10.2.1 2) v9) fun v27 =>
  b3 (
    if v27 = 0 then
      b1 (f_X10_drawn S10 p2 v8) fun v32 =>
      b1 (wA 8 S10 33 v26 v32) fun S33 =>
      bn (v8 + 1) fun v34 =>
      some (v7, v34, S33)
    else
    if v27 = 1 then
      b1 (wA 8 S10 33 v26 ((p1 >>> (v12 &&& 31)) &&& 1)) fun S36 =>
      some (v7, v8, S36)
    else
    if v27 = 2 then
      b1 (wA 8 S10 33 v26 v12) fun S38 =>
      some (v7, v8, S38)
    else
    if v27 = 3 then
      b1 (wA 8 S10 33 v26 ((v14 + v20) - (v14 + v20) / 16 * 16)) fun S40 =>
      some (v7, v8, S40)
    else
    if v27 = 4 then
      b1 (wA 8 S10 33 v26 ((v14 * v20) - (v14 * v20) / 16 * 16)) fun S42 =>
      some (v7, v8, S42)
    else
    if v27 = 5 then
      b1 (wA 8 S10 33 v26 (v14 ^^^ v20)) fun S44 =>
      some (v7, v8, S44)
    else
    if v27 = 6 then
      b1 (
        if v20 ≤ v14 then
          some (0 : Int32)
        else
        some (1 : Int32)) fun v46 =>
      b1 (wA 8 S10 33 v26 v46) fun S48 =>
      some (v7, v8, S48)
    else
    if v27 = 7 then
      b1 (
        if v14 = 0 then
          b1 (rdI 40 (S10.2.1 6) v9) fun v52 =>
          b1 (rdI 8 (S10.2.1 33) v52) fun v53 =>
          some v53
        else
        some v20) fun v50 =>
      b1 (wA 8 S10 33 v26 v50) fun S54 =>
      some (v7, v8, S54)
    else
    b1 (rdI 8 (S10.2.1 33) v26) fun v55 =>
    some (v55, v8, S10)) fun v28 v29 S30 =>
  bn (v9 + 1) fun v56 =>
  some (.inl (v28, v29, v56, S30))
def L_X10_outOf_29 (p1 : Int32) (p2 : Int32) (n : Nat) (v7 : Int32) (v8 : Int32) (v9 : Int32) (S10 : PS) : Option (Int32 × PS) := loopF (fun x : Int32 × Int32 × Int32 × PS => B_X10_outOf_29 p1 p2 x.1 x.2.1 x.2.2.1 x.2.2.2) n (v7, v8, v9, S10)
def f_X10_outOf (S : PS) (p1 : Int32) (p2 : Int32) : Option (Int32 × PS) :=
  b1 (L_X10_outOf_2 FU 0 S) fun S6 =>
  b2 (L_X10_outOf_29 p1 p2 FU 0 0 0 S6) fun v57 S58 =>
  some (v57, S58)
set_option maxHeartbeats 4000000 in
set_option maxRecDepth 100000 in
theorem c_X10_outOf (l : Launch) (D : va_G) (cs : CS) (a : Nat) (q : Nat → Nat) (S : PS) (p1 : Int32) (p2 : Int32) (r : Int32) (S' : PS) (hf : f_X10_outOf S p1 p2 = some (r, S')) : CT l D (TY cs) yX10_outOf wsX10_outOf rmX10_outOf [.ref a, .int p1, .int p2] (wX10 cs a q S) (some (.int r)) (wX10 cs a q S') := by
  refine CT.ofW (own := RX10) (cc := cX10_outOf) (maxL := 10) (ret := some .int) (by decide) rfl rfl (Nat.le_of_ble_eq_true rfl) ?_
  intro p e s m args below meth c A Q X hret ls hl hw
  obtain ⟨hx, hb, hml, hown, hts, hK, hA, hr, hlk⟩ := id X
  have hl : lv_has ls 10 [(0, .ref a), (1, .int p1), (2, .int p2)] := hl
  unfold f_X10_outOf at hf
  refine lv_iconst (pc := 0) (v := 0) hx hb dX10_outOf_0 (by decide) ?_
  refine lv_istore_n (lv' := [(3, .int 0), (0, .ref a), (1, .int p1), (2, .int p2)]) (pc := 1) hx hb dX10_outOf_1 rfl hl (by decide) rfl (fun ls hl => ?_)
  have L2 : ∀ (n : Nat) (v1 : Int32) (S2 : PS) (rS2 : PS), L_X10_outOf_2 n v1 S2 = some rS2 → ∀ (H : Heap) (locs : List Loc) (ls : Array Slot), WD D A s (wX10 cs a q S2) H locs → lv_has ls 10 [(0, .ref a), (1, .int p1), (2, .int p2), (3, .int v1)] → (∀ (H : Heap) (locs : List Loc) (ls : Array Slot), WD D A s (wX10 cs a q rS2) H locs → lv_has ls 10 [(0, .ref a), (1, .int p1), (2, .int p2)] → W p l e rmX10_outOf s m args below meth c H locs 0 0 Q (F0 m 21 ls [])) → W p l e rmX10_outOf s m args below meth c H locs 0 0 Q (F0 m 2 ls []) := by
    intro n
    induction n with
    | zero => intro v1 S2 rS2 hf; exact (loopF_z hf).elim
    | succ n ih =>
      intro v1 S2 rS2 hf H locs ls hw hl K
      obtain ⟨x, hf, hx0⟩ := loopF_ob hf
      have hf : B_X10_outOf_2 v1 S2 = some x := hf
      unfold B_X10_outOf_2 at hf
      refine lv_iload_n (pc := 2) hx hb dX10_outOf_2 rfl (lv_at hl 3 rfl) ?_
      refine lv_bipush (pc := 3) (v := 8) hx hb dX10_outOf_3 (by decide) ?_
      refine lv_icmp_ge (pc := 5) (tgt := 21) hx hb dX10_outOf_5 (by decide) (fun c3 => ?_) (fun c3 => ?_)
      · have hf := ipos c3 hf
        cases hf
        cases (hx0 : S2 = rS2)
        exact K _ _ _ hw (lv_sub hl [0, 1, 2] rfl)
      · have hf := ineg c3 hf
        refine lv_aload_n (pc := 8) hx hb dX10_outOf_8 rfl (lv_at hl 0 rfl) ?_
        refine x_get (pc := 9) X hw in_X10_outOf_X10 0 rfl rfl 33 (by decide) (List.mem_of_getElem? (i := 1) rfl) rfl dX10_outOf_9 ?_
        refine lv_iload_n (pc := 12) hx hb dX10_outOf_12 rfl (lv_at hl 3 rfl) ?_
        refine lv_iconst (pc := 13) (v := 0) hx hb dX10_outOf_13 (by decide) ?_
        obtain ⟨S4, eS4, hf⟩ := b1_ob hf
        refine x_iast (pc := 14) X hw 18 0 rfl rfl (wA_ob eS4).1 dX10_outOf_14 (ws2 := wX10 cs a q S4) (by rw [(wA_ob eS4).2]; rfl) (fun H locs hw => ?_)
        obtain ⟨v5, ev5, hf⟩ := bn_ob hf
        refine lv_iinc (pc := 15) (v := v5) (lv' := [(3, .int v5), (0, .ref a), (1, .int p1), (2, .int p2)]) hx hb dX10_outOf_15 hl (k := 3) rfl (by rw [ev5]; rfl) (by decide) rfl (fun ls hl => ?_)
        refine lv_goto (pc := 18) (tgt := 2) hx hb dX10_outOf_18 (by decide) ?_
        cases hf
        exact ih v5 S4 rS2 hx0 _ _ _ hw (lv_sub hl [1, 2, 3, 0] rfl) K
  obtain ⟨S6, hj, hf⟩ := b1_ob hf
  refine L2 _ 0 S S6 hj _ _ _ hw (lv_sub hl [1, 2, 3, 0] rfl) (fun H locs ls hw hl => ?_)
  clear hj L2
  refine lv_iconst (pc := 21) (v := 0) hx hb dX10_outOf_21 (by decide) ?_
  refine lv_istore_n (lv' := [(3, .int 0), (0, .ref a), (1, .int p1), (2, .int p2)]) (pc := 22) hx hb dX10_outOf_22 rfl hl (by decide) rfl (fun ls hl => ?_)
  refine lv_iconst (pc := 23) (v := 0) hx hb dX10_outOf_23 (by decide) ?_
  refine lv_istore (lv' := [(4, .int 0), (3, .int 0), (0, .ref a), (1, .int p1), (2, .int p2)]) (pc := 24) hx hb dX10_outOf_24 hl (by decide) rfl (fun ls hl => ?_)
  refine lv_iconst (pc := 26) (v := 0) hx hb dX10_outOf_26 (by decide) ?_
  refine lv_istore (lv' := [(5, .int 0), (4, .int 0), (3, .int 0), (0, .ref a), (1, .int p1), (2, .int p2)]) (pc := 27) hx hb dX10_outOf_27 hl (by decide) rfl (fun ls hl => ?_)
  have L29 : ∀ (n : Nat) (v7 : Int32) (v8 : Int32) (v9 : Int32) (S10 : PS) (rv7 : Int32) (rS10 : PS), L_X10_outOf_29 p1 p2 n v7 v8 v9 S10 = some (rv7, rS10) → ∀ (H : Heap) (locs : List Loc) (ls : Array Slot), WD D A s (wX10 cs a q S10) H locs → lv_has ls 10 [(0, .ref a), (1, .int p1), (2, .int p2), (3, .int v7), (4, .int v8), (5, .int v9)] → (∀ (H : Heap) (locs : List Loc) (ls : Array Slot), WD D A s (wX10 cs a q rS10) H locs → lv_has ls 10 [(3, .int rv7)] → W p l e rmX10_outOf s m args below meth c H locs 0 0 Q (F0 m 355 ls [])) → W p l e rmX10_outOf s m args below meth c H locs 0 0 Q (F0 m 29 ls []) := by
    intro n
    induction n with
    | zero => intro v7 v8 v9 S10 rv7 rS10 hf; exact (loopF_z hf).elim
    | succ n ih =>
      intro v7 v8 v9 S10 rv7 rS10 hf H locs ls hw hl K
      obtain ⟨x, hf, hx0⟩ := loopF_ob hf
      have hf : B_X10_outOf_29 p1 p2 v7 v8 v9 S10 = some x := hf
      unfold B_X10_outOf_29 at hf
      refine lv_iload (pc := 29) hx hb dX10_outOf_29 (lv_at hl 5 rfl) ?_
      refine lv_aload_n (pc := 31) hx hb dX10_outOf_31 rfl (lv_at hl 0 rfl) ?_
      refine x_get (pc := 32) X hw in_X10_outOf_X10 0 rfl rfl 7 (by decide) (List.mem_of_getElem? (i := 2) rfl) rfl dX10_outOf_32 ?_
      refine lv_icmp_ge (pc := 35) (tgt := 355) hx hb dX10_outOf_35 (by decide) (fun c11 => ?_) (fun c11 => ?_)
      · have hf := ipos c11 hf
        cases hf
        cases (hx0 : (v7, S10) = (rv7, rS10))
        exact K _ _ _ hw (lv_sub hl [3] rfl)
      · have hf := ineg c11 hf
        refine lv_aload_n (pc := 38) hx hb dX10_outOf_38 rfl (lv_at hl 0 rfl) ?_
        refine x_get (pc := 39) X hw in_X10_outOf_X10 0 rfl rfl 4 (by decide) (List.mem_of_getElem? (i := 3) rfl) rfl dX10_outOf_39 ?_
        refine lv_iload (pc := 42) hx hb dX10_outOf_42 (lv_at hl 5 rfl) ?_
        obtain ⟨v12, ev12, hf⟩ := b1_ob hf
        refine x_iald (pc := 44) X hw 4 0 rfl rfl ev12 dX10_outOf_44 ?_
        refine lv_istore (lv' := [(6, .int v12), (0, .ref a), (1, .int p1), (2, .int p2), (3, .int v7), (4, .int v8), (5, .int v9)]) (pc := 45) hx hb dX10_outOf_45 hl (by decide) rfl (fun ls hl => ?_)
        refine lv_aload_n (pc := 47) hx hb dX10_outOf_47 rfl (lv_at hl 1 rfl) ?_
        refine x_get (pc := 48) X hw in_X10_outOf_X10 0 rfl rfl 2 (by decide) (List.mem_of_getElem? (i := 4) rfl) rfl dX10_outOf_48 ?_
        refine lv_iload (pc := 51) hx hb dX10_outOf_51 (lv_at hl 6 rfl) ?_
        obtain ⟨v13, ev13, hf⟩ := b1_ob hf
        refine x_iald (pc := 53) X hw 2 0 rfl rfl ev13 dX10_outOf_53 ?_
        refine lv_iconst (pc := 54) (v := 2) hx hb dX10_outOf_54 (by decide) ?_
        obtain ⟨v14, hj, hf⟩ := b1_ob hf
        have J81_13 : ∀ (H : Heap) (locs : List Loc) (ls : Array Slot), WD D A s (wX10 cs a q S10) H locs → lv_has ls 10 [(0, .ref a), (1, .int p1), (2, .int p2), (3, .int v7), (4, .int v8), (5, .int v9), (6, .int v12)] → W p l e rmX10_outOf s m args below meth c H locs 0 0 Q (F0 m 81 ls [.int v14]) := by
          intro H locs ls hw hl
          refine lv_istore (lv' := [(7, .int v14), (0, .ref a), (1, .int p1), (2, .int p2), (3, .int v7), (4, .int v8), (5, .int v9), (6, .int v12)]) (pc := 81) hx hb dX10_outOf_81 hl (by decide) rfl (fun ls hl => ?_)
          refine lv_aload_n (pc := 83) hx hb dX10_outOf_83 rfl (lv_at hl 1 rfl) ?_
          refine x_get (pc := 84) X hw in_X10_outOf_X10 0 rfl rfl 2 (by decide) (List.mem_of_getElem? (i := 4) rfl) rfl dX10_outOf_84 ?_
          refine lv_iload (pc := 87) hx hb dX10_outOf_87 (lv_at hl 6 rfl) ?_
          obtain ⟨v19, ev19, hf⟩ := b1_ob hf
          refine x_iald (pc := 89) X hw 2 0 rfl rfl ev19 dX10_outOf_89 ?_
          refine lv_iconst (pc := 90) (v := 2) hx hb dX10_outOf_90 (by decide) ?_
          obtain ⟨v20, hj, hf⟩ := b1_ob hf
          have J122_19 : ∀ (H : Heap) (locs : List Loc) (ls : Array Slot), WD D A s (wX10 cs a q S10) H locs → lv_has ls 10 [(0, .ref a), (1, .int p1), (2, .int p2), (3, .int v7), (4, .int v8), (5, .int v9), (6, .int v12), (7, .int v14)] → W p l e rmX10_outOf s m args below meth c H locs 0 0 Q (F0 m 122 ls [.int v20]) := by
            intro H locs ls hw hl
            refine lv_istore (lv' := [(8, .int v20), (0, .ref a), (1, .int p1), (2, .int p2), (3, .int v7), (4, .int v8), (5, .int v9), (6, .int v12), (7, .int v14)]) (pc := 122) hx hb dX10_outOf_122 hl (by decide) rfl (fun ls hl => ?_)
            refine lv_aload_n (pc := 124) hx hb dX10_outOf_124 rfl (lv_at hl 1 rfl) ?_
            refine x_get (pc := 125) X hw in_X10_outOf_X10 0 rfl rfl 3 (by decide) (List.mem_of_getElem? (i := 6) rfl) rfl dX10_outOf_125 ?_
            refine lv_iload (pc := 128) hx hb dX10_outOf_128 (lv_at hl 6 rfl) ?_
            obtain ⟨v26, ev26, hf⟩ := b1_ob hf
            refine x_iald (pc := 130) X hw 3 0 rfl rfl ev26 dX10_outOf_130 ?_
            refine lv_istore (lv' := [(9, .int v26), (8, .int v20), (0, .ref a), (1, .int p1), (2, .int p2), (3, .int v7), (4, .int v8), (5, .int v9), (6, .int v12), (7, .int v14)]) (pc := 131) hx hb dX10_outOf_131 hl (by decide) rfl (fun ls hl => ?_)
            refine lv_aload_n (pc := 133) hx hb dX10_outOf_133 rfl (lv_at hl 2 rfl) ?_
            refine x_get (pc := 134) X hw in_X10_outOf_X10 0 rfl rfl 2 (by decide) (List.mem_of_getElem? (i := 4) rfl) rfl dX10_outOf_134 ?_
            refine lv_iload (pc := 137) hx hb dX10_outOf_137 (lv_at hl 7 rfl) ?_
            obtain ⟨v27, ev27, hf⟩ := b1_ob hf
            refine x_iald (pc := 139) X hw 2 0 rfl rfl ev27 dX10_outOf_139 ?_
            obtain ⟨v28, v29, S30, hj, hf⟩ := b3_ob hf
            have J349_27 : ∀ (H : Heap) (locs : List Loc) (ls : Array Slot), WD D A s (wX10 cs a q S30) H locs → lv_has ls 10 [(0, .ref a), (1, .int p1), (2, .int p2), (3, .int v28), (4, .int v29), (5, .int v9)] → W p l e rmX10_outOf s m args below meth c H locs 0 0 Q (F0 m 349 ls []) := by
              intro H locs ls hw hl
              obtain ⟨v56, ev56, hf⟩ := bn_ob hf
              refine lv_iinc (pc := 349) (v := v56) (lv' := [(5, .int v56), (0, .ref a), (1, .int p1), (2, .int p2), (3, .int v28), (4, .int v29)]) hx hb dX10_outOf_349 hl (k := 5) rfl (by rw [ev56]; rfl) (by decide) rfl (fun ls hl => ?_)
              refine lv_goto (pc := 352) (tgt := 29) hx hb dX10_outOf_352 (by decide) ?_
              cases hf
              exact ih v28 v29 v56 S30 rv7 rS10 hx0 _ _ _ hw (lv_sub hl [1, 2, 3, 4, 5, 0] rfl) K
            clear hf; have hf := hj; clear hj
            by_cases c31 : v27 = 0
            · have hf := ipos c31 hf
              refine lv_tableIn (pc := 140) (tgt := 188) hx hb dX10_outOf_140 (by rw [c31]; decide) (by rw [c31]; decide) (off := 48) (by rw [c31]; decide) (by decide) ?_
              refine lv_aload_n (pc := 188) hx hb dX10_outOf_188 rfl (lv_at hl 2 rfl) ?_
              refine x_get (pc := 189) X hw in_X10_outOf_X10 0 rfl rfl 33 (by decide) (List.mem_of_getElem? (i := 1) rfl) rfl dX10_outOf_189 ?_
              refine lv_iload (pc := 192) hx hb dX10_outOf_192 (lv_at hl 0 rfl) ?_
              refine lv_aload_n (pc := 194) hx hb dX10_outOf_194 rfl (lv_at hl 2 rfl) ?_
              refine lv_iload_n (pc := 195) hx hb dX10_outOf_195 rfl (lv_at hl 4 rfl) ?_
              refine lv_iload (pc := 196) hx hb dX10_outOf_196 (lv_at hl 6 rfl) ?_
              obtain ⟨v32, hc, hf⟩ := b1_ob hf
              refine x_all (pc := 198) X hw (va_runV (As := [.int p2, .int v8]) (rest := [.int v26, .ref (q 33)]) ⟨hx, hb, hml, hown, hts⟩ (c_X10_drawn l D cs a q S10 p2 v8 v32 hc _) (cwV 2 hts gX10_outOf_X10_drawn rfl rfl rfl (by decide +kernel) ⟨Nat.le_of_ble_eq_true rfl, Nat.le_of_ble_eq_true rfl⟩) ⟨CP_blind, va_recv hK hw.1 (ci := 10) (q0 := 0) rfl rfl, x_preA X hw [.ref a, .int p2, .int v8]⟩ rfl rfl hl.1 rfl (lv_room (Nat.le_of_ble_eq_true rfl)) dX10_outOf_198 ⟨Nat.zero_le _, Nat.zero_le _⟩) (fun H locs hw => ?_)
              obtain ⟨S33, eS33, hf⟩ := b1_ob hf
              refine x_iast (pc := 201) X hw 18 0 rfl rfl (wA_ob eS33).1 dX10_outOf_201 (ws2 := wX10 cs a q S33) (by rw [(wA_ob eS33).2]; rfl) (fun H locs hw => ?_)
              obtain ⟨v34, ev34, hf⟩ := bn_ob hf
              refine lv_iinc (pc := 202) (v := v34) (lv' := [(4, .int v34), (9, .int v26), (8, .int v20), (0, .ref a), (1, .int p1), (2, .int p2), (3, .int v7), (5, .int v9), (6, .int v12), (7, .int v14)]) hx hb dX10_outOf_202 hl (k := 6) rfl (by rw [ev34]; rfl) (by decide) rfl (fun ls hl => ?_)
              refine lv_goto (pc := 205) (tgt := 349) hx hb dX10_outOf_205 (by decide) ?_
              cases hf
              exact J349_27 _ _ _ hw (lv_sub hl [3, 4, 5, 6, 0, 7] rfl)
            replace hf := ineg c31 hf
            by_cases c35 : v27 = 1
            · have hf := ipos c35 hf
              refine lv_tableIn (pc := 140) (tgt := 208) hx hb dX10_outOf_140 (by rw [c35]; decide) (by rw [c35]; decide) (off := 68) (by rw [c35]; decide) (by decide) ?_
              refine lv_aload_n (pc := 208) hx hb dX10_outOf_208 rfl (lv_at hl 2 rfl) ?_
              refine x_get (pc := 209) X hw in_X10_outOf_X10 0 rfl rfl 33 (by decide) (List.mem_of_getElem? (i := 1) rfl) rfl dX10_outOf_209 ?_
              refine lv_iload (pc := 212) hx hb dX10_outOf_212 (lv_at hl 0 rfl) ?_
              refine lv_iload_n (pc := 214) hx hb dX10_outOf_214 rfl (lv_at hl 3 rfl) ?_
              refine lv_iload (pc := 215) hx hb dX10_outOf_215 (lv_at hl 8 rfl) ?_
              refine lv_ishr (pc := 217) hx hb dX10_outOf_217 ?_
              refine lv_iconst (pc := 218) (v := 1) hx hb dX10_outOf_218 (by decide) ?_
              refine lv_iand (pc := 219) hx hb dX10_outOf_219 ?_
              obtain ⟨S36, eS36, hf⟩ := b1_ob hf
              refine x_iast (pc := 220) X hw 18 0 rfl rfl (wA_ob eS36).1 dX10_outOf_220 (ws2 := wX10 cs a q S36) (by rw [(wA_ob eS36).2]; rfl) (fun H locs hw => ?_)
              refine lv_goto (pc := 221) (tgt := 349) hx hb dX10_outOf_221 (by decide) ?_
              cases hf
              exact J349_27 _ _ _ hw (lv_sub hl [2, 3, 4, 5, 6, 7] rfl)
            replace hf := ineg c35 hf
            by_cases c37 : v27 = 2
            · have hf := ipos c37 hf
              refine lv_tableIn (pc := 140) (tgt := 224) hx hb dX10_outOf_140 (by rw [c37]; decide) (by rw [c37]; decide) (off := 84) (by rw [c37]; decide) (by decide) ?_
              refine lv_aload_n (pc := 224) hx hb dX10_outOf_224 rfl (lv_at hl 2 rfl) ?_
              refine x_get (pc := 225) X hw in_X10_outOf_X10 0 rfl rfl 33 (by decide) (List.mem_of_getElem? (i := 1) rfl) rfl dX10_outOf_225 ?_
              refine lv_iload (pc := 228) hx hb dX10_outOf_228 (lv_at hl 0 rfl) ?_
              refine lv_iload (pc := 230) hx hb dX10_outOf_230 (lv_at hl 8 rfl) ?_
              obtain ⟨S38, eS38, hf⟩ := b1_ob hf
              refine x_iast (pc := 232) X hw 18 0 rfl rfl (wA_ob eS38).1 dX10_outOf_232 (ws2 := wX10 cs a q S38) (by rw [(wA_ob eS38).2]; rfl) (fun H locs hw => ?_)
              refine lv_goto (pc := 233) (tgt := 349) hx hb dX10_outOf_233 (by decide) ?_
              cases hf
              exact J349_27 _ _ _ hw (lv_sub hl [2, 3, 4, 5, 6, 7] rfl)
            replace hf := ineg c37 hf
            by_cases c39 : v27 = 3
            · have hf := ipos c39 hf
              refine lv_tableIn (pc := 140) (tgt := 236) hx hb dX10_outOf_140 (by rw [c39]; decide) (by rw [c39]; decide) (off := 96) (by rw [c39]; decide) (by decide) ?_
              refine lv_aload_n (pc := 236) hx hb dX10_outOf_236 rfl (lv_at hl 2 rfl) ?_
              refine x_get (pc := 237) X hw in_X10_outOf_X10 0 rfl rfl 33 (by decide) (List.mem_of_getElem? (i := 1) rfl) rfl dX10_outOf_237 ?_
              refine lv_iload (pc := 240) hx hb dX10_outOf_240 (lv_at hl 0 rfl) ?_
              refine lv_iload (pc := 242) hx hb dX10_outOf_242 (lv_at hl 9 rfl) ?_
              refine lv_iload (pc := 244) hx hb dX10_outOf_244 (lv_at hl 1 rfl) ?_
              refine lv_iadd (pc := 246) hx hb dX10_outOf_246 ?_
              refine lv_bipush (pc := 247) (v := 16) hx hb dX10_outOf_247 (by decide) ?_
              refine lv_irem (pc := 249) hx hb dX10_outOf_249 (by decide) ?_
              obtain ⟨S40, eS40, hf⟩ := b1_ob hf
              refine x_iast (pc := 250) X hw 18 0 rfl rfl (wA_ob eS40).1 dX10_outOf_250 (ws2 := wX10 cs a q S40) (by rw [(wA_ob eS40).2]; rfl) (fun H locs hw => ?_)
              refine lv_goto (pc := 251) (tgt := 349) hx hb dX10_outOf_251 (by decide) ?_
              cases hf
              exact J349_27 _ _ _ hw (lv_sub hl [2, 3, 4, 5, 6, 7] rfl)
            replace hf := ineg c39 hf
            by_cases c41 : v27 = 4
            · have hf := ipos c41 hf
              refine lv_tableIn (pc := 140) (tgt := 254) hx hb dX10_outOf_140 (by rw [c41]; decide) (by rw [c41]; decide) (off := 114) (by rw [c41]; decide) (by decide) ?_
              refine lv_aload_n (pc := 254) hx hb dX10_outOf_254 rfl (lv_at hl 2 rfl) ?_
              refine x_get (pc := 255) X hw in_X10_outOf_X10 0 rfl rfl 33 (by decide) (List.mem_of_getElem? (i := 1) rfl) rfl dX10_outOf_255 ?_
              refine lv_iload (pc := 258) hx hb dX10_outOf_258 (lv_at hl 0 rfl) ?_
              refine lv_iload (pc := 260) hx hb dX10_outOf_260 (lv_at hl 9 rfl) ?_
              refine lv_iload (pc := 262) hx hb dX10_outOf_262 (lv_at hl 1 rfl) ?_
              refine lv_imul (pc := 264) hx hb dX10_outOf_264 ?_
              refine lv_bipush (pc := 265) (v := 16) hx hb dX10_outOf_265 (by decide) ?_
              refine lv_irem (pc := 267) hx hb dX10_outOf_267 (by decide) ?_
              obtain ⟨S42, eS42, hf⟩ := b1_ob hf
              refine x_iast (pc := 268) X hw 18 0 rfl rfl (wA_ob eS42).1 dX10_outOf_268 (ws2 := wX10 cs a q S42) (by rw [(wA_ob eS42).2]; rfl) (fun H locs hw => ?_)
              refine lv_goto (pc := 269) (tgt := 349) hx hb dX10_outOf_269 (by decide) ?_
              cases hf
              exact J349_27 _ _ _ hw (lv_sub hl [2, 3, 4, 5, 6, 7] rfl)
            replace hf := ineg c41 hf
            by_cases c43 : v27 = 5
            · have hf := ipos c43 hf
              refine lv_tableIn (pc := 140) (tgt := 272) hx hb dX10_outOf_140 (by rw [c43]; decide) (by rw [c43]; decide) (off := 132) (by rw [c43]; decide) (by decide) ?_
              refine lv_aload_n (pc := 272) hx hb dX10_outOf_272 rfl (lv_at hl 2 rfl) ?_
              refine x_get (pc := 273) X hw in_X10_outOf_X10 0 rfl rfl 33 (by decide) (List.mem_of_getElem? (i := 1) rfl) rfl dX10_outOf_273 ?_
              refine lv_iload (pc := 276) hx hb dX10_outOf_276 (lv_at hl 0 rfl) ?_
              refine lv_iload (pc := 278) hx hb dX10_outOf_278 (lv_at hl 9 rfl) ?_
              refine lv_iload (pc := 280) hx hb dX10_outOf_280 (lv_at hl 1 rfl) ?_
              refine lv_ixor (pc := 282) hx hb dX10_outOf_282 ?_
              obtain ⟨S44, eS44, hf⟩ := b1_ob hf
              refine x_iast (pc := 283) X hw 18 0 rfl rfl (wA_ob eS44).1 dX10_outOf_283 (ws2 := wX10 cs a q S44) (by rw [(wA_ob eS44).2]; rfl) (fun H locs hw => ?_)
              refine lv_goto (pc := 284) (tgt := 349) hx hb dX10_outOf_284 (by decide) ?_
              cases hf
              exact J349_27 _ _ _ hw (lv_sub hl [2, 3, 4, 5, 6, 7] rfl)
            replace hf := ineg c43 hf
            by_cases c45 : v27 = 6
            · have hf := ipos c45 hf
              refine lv_tableIn (pc := 140) (tgt := 287) hx hb dX10_outOf_140 (by rw [c45]; decide) (by rw [c45]; decide) (off := 147) (by rw [c45]; decide) (by decide) ?_
              refine lv_aload_n (pc := 287) hx hb dX10_outOf_287 rfl (lv_at hl 2 rfl) ?_
              refine x_get (pc := 288) X hw in_X10_outOf_X10 0 rfl rfl 33 (by decide) (List.mem_of_getElem? (i := 1) rfl) rfl dX10_outOf_288 ?_
              refine lv_iload (pc := 291) hx hb dX10_outOf_291 (lv_at hl 0 rfl) ?_
              refine lv_iload (pc := 293) hx hb dX10_outOf_293 (lv_at hl 9 rfl) ?_
              refine lv_iload (pc := 295) hx hb dX10_outOf_295 (lv_at hl 1 rfl) ?_
              obtain ⟨v46, hj, hf⟩ := b1_ob hf
              have J305_45 : ∀ (H : Heap) (locs : List Loc) (ls : Array Slot), WD D A s (wX10 cs a q S10) H locs → lv_has ls 10 [(0, .ref a), (1, .int p1), (2, .int p2), (3, .int v7), (4, .int v8), (5, .int v9)] → W p l e rmX10_outOf s m args below meth c H locs 0 0 Q (F0 m 305 ls [.int v46, .int v26, .ref (q 33)]) := by
                intro H locs ls hw hl
                obtain ⟨S48, eS48, hf⟩ := b1_ob hf
                refine x_iast (pc := 305) X hw 18 0 rfl rfl (wA_ob eS48).1 dX10_outOf_305 (ws2 := wX10 cs a q S48) (by rw [(wA_ob eS48).2]; rfl) (fun H locs hw => ?_)
                refine lv_goto (pc := 306) (tgt := 349) hx hb dX10_outOf_306 (by decide) ?_
                cases hf
                exact J349_27 _ _ _ hw (lv_sub hl [0, 1, 2, 3, 4, 5] rfl)
              clear hf; have hf := hj; clear hj
              refine lv_icmp_ge (pc := 297) (tgt := 304) hx hb dX10_outOf_297 (by decide) (fun c47 => ?_) (fun c47 => ?_)
              · have hf := ipos c47 hf
                refine lv_iconst (pc := 304) (v := 0) hx hb dX10_outOf_304 (by decide) ?_
                cases hf
                exact J305_45 _ _ _ hw (lv_sub hl [2, 3, 4, 5, 6, 7] rfl)
              · have hf := ineg c47 hf
                refine lv_iconst (pc := 300) (v := 1) hx hb dX10_outOf_300 (by decide) ?_
                refine lv_goto (pc := 301) (tgt := 305) hx hb dX10_outOf_301 (by decide) ?_
                cases hf
                exact J305_45 _ _ _ hw (lv_sub hl [2, 3, 4, 5, 6, 7] rfl)
            replace hf := ineg c45 hf
            by_cases c49 : v27 = 7
            · have hf := ipos c49 hf
              refine lv_tableIn (pc := 140) (tgt := 309) hx hb dX10_outOf_140 (by rw [c49]; decide) (by rw [c49]; decide) (off := 169) (by rw [c49]; decide) (by decide) ?_
              refine lv_aload_n (pc := 309) hx hb dX10_outOf_309 rfl (lv_at hl 2 rfl) ?_
              refine x_get (pc := 310) X hw in_X10_outOf_X10 0 rfl rfl 33 (by decide) (List.mem_of_getElem? (i := 1) rfl) rfl dX10_outOf_310 ?_
              refine lv_iload (pc := 313) hx hb dX10_outOf_313 (lv_at hl 0 rfl) ?_
              refine lv_iload (pc := 315) hx hb dX10_outOf_315 (lv_at hl 9 rfl) ?_
              obtain ⟨v50, hj, hf⟩ := b1_ob hf
              have J337_49 : ∀ (H : Heap) (locs : List Loc) (ls : Array Slot), WD D A s (wX10 cs a q S10) H locs → lv_has ls 10 [(0, .ref a), (1, .int p1), (2, .int p2), (3, .int v7), (4, .int v8), (5, .int v9)] → W p l e rmX10_outOf s m args below meth c H locs 0 0 Q (F0 m 337 ls [.int v50, .int v26, .ref (q 33)]) := by
                intro H locs ls hw hl
                obtain ⟨S54, eS54, hf⟩ := b1_ob hf
                refine x_iast (pc := 337) X hw 18 0 rfl rfl (wA_ob eS54).1 dX10_outOf_337 (ws2 := wX10 cs a q S54) (by rw [(wA_ob eS54).2]; rfl) (fun H locs hw => ?_)
                refine lv_goto (pc := 338) (tgt := 349) hx hb dX10_outOf_338 (by decide) ?_
                cases hf
                exact J349_27 _ _ _ hw (lv_sub hl [0, 1, 2, 3, 4, 5] rfl)
              clear hf; have hf := hj; clear hj
              refine lv_if_eq (pc := 317) (tgt := 325) hx hb dX10_outOf_317 (by decide) (fun c51 => ?_) (fun c51 => ?_)
              · have hf := ipos c51 hf
                refine lv_aload_n (pc := 325) hx hb dX10_outOf_325 rfl (lv_at hl 2 rfl) ?_
                refine x_get (pc := 326) X hw in_X10_outOf_X10 0 rfl rfl 33 (by decide) (List.mem_of_getElem? (i := 1) rfl) rfl dX10_outOf_326 ?_
                refine lv_aload_n (pc := 329) hx hb dX10_outOf_329 rfl (lv_at hl 2 rfl) ?_
                refine x_get (pc := 330) X hw in_X10_outOf_X10 0 rfl rfl 6 (by decide) (List.mem_of_getElem? (i := 7) rfl) rfl dX10_outOf_330 ?_
                refine lv_iload (pc := 333) hx hb dX10_outOf_333 (lv_at hl 7 rfl) ?_
                obtain ⟨v52, ev52, hf⟩ := b1_ob hf
                refine x_iald (pc := 335) X hw 6 0 rfl rfl ev52 dX10_outOf_335 ?_
                obtain ⟨v53, ev53, hf⟩ := b1_ob hf
                refine x_iald (pc := 336) X hw 18 0 rfl rfl ev53 dX10_outOf_336 ?_
                cases hf
                exact J337_49 _ _ _ hw (lv_sub hl [2, 3, 4, 5, 6, 7] rfl)
              · have hf := ineg c51 hf
                refine lv_iload (pc := 320) hx hb dX10_outOf_320 (lv_at hl 1 rfl) ?_
                refine lv_goto (pc := 322) (tgt := 337) hx hb dX10_outOf_322 (by decide) ?_
                cases hf
                exact J337_49 _ _ _ hw (lv_sub hl [2, 3, 4, 5, 6, 7] rfl)
            replace hf := ineg c49 hf
            refine lv_tableOut (pc := 140) (tgt := 341) hx hb dX10_outOf_140 (by have zc31 := lv_neT (a := 0) c31 (by decide); have zc35 := lv_neT (a := 1) c35 (by decide); have zc37 := lv_neT (a := 2) c37 (by decide); have zc39 := lv_neT (a := 3) c39 (by decide); have zc41 := lv_neT (a := 4) c41 (by decide); have zc43 := lv_neT (a := 5) c43 (by decide); have zc45 := lv_neT (a := 6) c45 (by decide); have zc49 := lv_neT (a := 7) c49 (by decide); omega) (by decide) ?_
            refine lv_aload_n (pc := 341) hx hb dX10_outOf_341 rfl (lv_at hl 2 rfl) ?_
            refine x_get (pc := 342) X hw in_X10_outOf_X10 0 rfl rfl 33 (by decide) (List.mem_of_getElem? (i := 1) rfl) rfl dX10_outOf_342 ?_
            refine lv_iload (pc := 345) hx hb dX10_outOf_345 (lv_at hl 0 rfl) ?_
            obtain ⟨v55, ev55, hf⟩ := b1_ob hf
            refine x_iald (pc := 347) X hw 18 0 rfl rfl ev55 dX10_outOf_347 ?_
            refine lv_istore_n (lv' := [(3, .int v55), (9, .int v26), (8, .int v20), (0, .ref a), (1, .int p1), (2, .int p2), (4, .int v8), (5, .int v9), (6, .int v12), (7, .int v14)]) (pc := 348) hx hb dX10_outOf_348 rfl hl (by decide) rfl (fun ls hl => ?_)
            cases hf
            exact J349_27 _ _ _ hw (lv_sub hl [3, 4, 5, 0, 6, 7] rfl)
          clear hf; have hf := hj; clear hj
          refine lv_icmp_le (pc := 91) (tgt := 121) hx hb dX10_outOf_91 (by decide) (fun c21 => ?_) (fun c21 => ?_)
          · have hf := ipos c21 hf
            refine lv_iconst (pc := 121) (v := 0) hx hb dX10_outOf_121 (by decide) ?_
            cases hf
            exact J122_19 _ _ _ hw (lv_sub hl [1, 2, 3, 4, 5, 6, 7, 0] rfl)
          · have hf := ineg c21 hf
            refine lv_aload_n (pc := 94) hx hb dX10_outOf_94 rfl (lv_at hl 1 rfl) ?_
            refine x_get (pc := 95) X hw in_X10_outOf_X10 0 rfl rfl 2 (by decide) (List.mem_of_getElem? (i := 4) rfl) rfl dX10_outOf_95 ?_
            refine lv_iload (pc := 98) hx hb dX10_outOf_98 (lv_at hl 6 rfl) ?_
            obtain ⟨v22, ev22, hf⟩ := b1_ob hf
            refine x_iald (pc := 100) X hw 2 0 rfl rfl ev22 dX10_outOf_100 ?_
            refine lv_bipush (pc := 101) (v := 8) hx hb dX10_outOf_101 (by decide) ?_
            refine lv_icmp_ge (pc := 103) (tgt := 121) hx hb dX10_outOf_103 (by decide) (fun c23 => ?_) (fun c23 => ?_)
            · have hf := ipos c23 hf
              refine lv_iconst (pc := 121) (v := 0) hx hb dX10_outOf_121 (by decide) ?_
              cases hf
              exact J122_19 _ _ _ hw (lv_sub hl [1, 2, 3, 4, 5, 6, 7, 0] rfl)
            · have hf := ineg c23 hf
              refine lv_aload_n (pc := 106) hx hb dX10_outOf_106 rfl (lv_at hl 1 rfl) ?_
              refine x_get (pc := 107) X hw in_X10_outOf_X10 0 rfl rfl 33 (by decide) (List.mem_of_getElem? (i := 1) rfl) rfl dX10_outOf_107 ?_
              refine lv_aload_n (pc := 110) hx hb dX10_outOf_110 rfl (lv_at hl 1 rfl) ?_
              refine x_get (pc := 111) X hw in_X10_outOf_X10 0 rfl rfl 5 (by decide) (List.mem_of_getElem? (i := 5) rfl) rfl dX10_outOf_111 ?_
              refine lv_iload (pc := 114) hx hb dX10_outOf_114 (lv_at hl 6 rfl) ?_
              obtain ⟨v24, ev24, hf⟩ := b1_ob hf
              refine x_iald (pc := 116) X hw 5 0 rfl rfl ev24 dX10_outOf_116 ?_
              obtain ⟨v25, ev25, hf⟩ := b1_ob hf
              refine x_iald (pc := 117) X hw 18 0 rfl rfl ev25 dX10_outOf_117 ?_
              refine lv_goto (pc := 118) (tgt := 122) hx hb dX10_outOf_118 (by decide) ?_
              cases hf
              exact J122_19 _ _ _ hw (lv_sub hl [1, 2, 3, 4, 5, 6, 7, 0] rfl)
        clear hf; have hf := hj; clear hj
        refine lv_icmp_le (pc := 55) (tgt := 80) hx hb dX10_outOf_55 (by decide) (fun c15 => ?_) (fun c15 => ?_)
        · have hf := ipos c15 hf
          refine lv_iconst (pc := 80) (v := 0) hx hb dX10_outOf_80 (by decide) ?_
          cases hf
          exact J81_13 _ _ _ hw (lv_sub hl [1, 2, 3, 4, 5, 6, 0] rfl)
        · have hf := ineg c15 hf
          refine lv_aload_n (pc := 58) hx hb dX10_outOf_58 rfl (lv_at hl 1 rfl) ?_
          refine x_get (pc := 59) X hw in_X10_outOf_X10 0 rfl rfl 2 (by decide) (List.mem_of_getElem? (i := 4) rfl) rfl dX10_outOf_59 ?_
          refine lv_iload (pc := 62) hx hb dX10_outOf_62 (lv_at hl 6 rfl) ?_
          obtain ⟨v16, ev16, hf⟩ := b1_ob hf
          refine x_iald (pc := 64) X hw 2 0 rfl rfl ev16 dX10_outOf_64 ?_
          refine lv_bipush (pc := 65) (v := 8) hx hb dX10_outOf_65 (by decide) ?_
          refine lv_icmp_ge (pc := 67) (tgt := 80) hx hb dX10_outOf_67 (by decide) (fun c17 => ?_) (fun c17 => ?_)
          · have hf := ipos c17 hf
            refine lv_iconst (pc := 80) (v := 0) hx hb dX10_outOf_80 (by decide) ?_
            cases hf
            exact J81_13 _ _ _ hw (lv_sub hl [1, 2, 3, 4, 5, 6, 0] rfl)
          · have hf := ineg c17 hf
            refine lv_aload_n (pc := 70) hx hb dX10_outOf_70 rfl (lv_at hl 1 rfl) ?_
            refine x_get (pc := 71) X hw in_X10_outOf_X10 0 rfl rfl 33 (by decide) (List.mem_of_getElem? (i := 1) rfl) rfl dX10_outOf_71 ?_
            refine lv_iload (pc := 74) hx hb dX10_outOf_74 (lv_at hl 0 rfl) ?_
            obtain ⟨v18, ev18, hf⟩ := b1_ob hf
            refine x_iald (pc := 76) X hw 18 0 rfl rfl ev18 dX10_outOf_76 ?_
            refine lv_goto (pc := 77) (tgt := 81) hx hb dX10_outOf_77 (by decide) ?_
            cases hf
            exact J81_13 _ _ _ hw (lv_sub hl [1, 2, 3, 4, 5, 6, 0] rfl)
  obtain ⟨v57, S58, hj, hf⟩ := b2_ob hf
  refine L29 _ 0 0 0 S6 v57 S58 hj _ _ _ hw (lv_sub hl [3, 4, 5, 2, 1, 0] rfl) (fun H locs ls hw hl => ?_)
  clear hj L29
  refine lv_iload_n (pc := 355) hx hb dX10_outOf_355 rfl (lv_at hl 0 rfl) ?_
  cases hf
  exact hret _ _ 356 _ hw ⟨_, rfl, rfl⟩ dX10_outOf_356

theorem in_X10_isRight_X10 : ∀ w ∈ wsX100, w ∈ wsX10_isRight := fun _ h => List.mem_cons_of_mem _ (List.mem_append_right _ h)
abbrev rmX10_isRight : Room := { frames := 2, cells := 0, slots := 0, locals := 53 }
def f_X10_isRight (S : PS) (p1 : Int32) (p2 : Int32) : Option (Int32 × PS) :=
  b2 (f_X10_outOf S p1 p2) fun v1 S2 =>
  b1 (
    if v1 = 0 then
      some (0 : Int32)
    else
    some (1 : Int32)) fun v3 =>
  b1 (
    if (((S2.1 13) >>> (p1 &&& 31)) &&& 1) = 1 then
      some (1 : Int32)
    else
    some (0 : Int32)) fun v5 =>
  b1 (
    if v3 = v5 then
      some (1 : Int32)
    else
    some (0 : Int32)) fun v7 =>
  some (v7, S2)
set_option maxHeartbeats 4000000 in
set_option maxRecDepth 100000 in
theorem c_X10_isRight (l : Launch) (D : va_G) (cs : CS) (a : Nat) (q : Nat → Nat) (S : PS) (p1 : Int32) (p2 : Int32) (r : Int32) (S' : PS) (hf : f_X10_isRight S p1 p2 = some (r, S')) : CT l D (TY cs) yX10_isRight wsX10_isRight rmX10_isRight [.ref a, .int p1, .int p2] (wX10 cs a q S) (some (.int r)) (wX10 cs a q S') := by
  refine CT.ofW (own := RX10) (cc := cX10_isRight) (maxL := 3) (ret := some .int) (by decide) rfl rfl (Nat.le_of_ble_eq_true rfl) ?_
  intro p e s m args below meth c A Q X hret ls hl hw
  obtain ⟨hx, hb, hml, hown, hts, hK, hA, hr, hlk⟩ := id X
  have hl : lv_has ls 3 [(0, .ref a), (1, .int p1), (2, .int p2)] := hl
  unfold f_X10_isRight at hf
  refine lv_aload_n (pc := 0) hx hb dX10_isRight_0 rfl (lv_at hl 0 rfl) ?_
  refine lv_iload_n (pc := 1) hx hb dX10_isRight_1 rfl (lv_at hl 1 rfl) ?_
  refine lv_iload_n (pc := 2) hx hb dX10_isRight_2 rfl (lv_at hl 2 rfl) ?_
  obtain ⟨v1, S2, hc, hf⟩ := b2_ob hf
  refine x_all (pc := 3) X hw (va_runV (As := [.int p1, .int p2]) (rest := []) ⟨hx, hb, hml, hown, hts⟩ (c_X10_outOf l D cs a q S p1 p2 v1 S2 hc _) (cwV 2 hts gX10_isRight_X10_outOf rfl rfl rfl (by decide +kernel) ⟨Nat.le_of_ble_eq_true rfl, Nat.le_of_ble_eq_true rfl⟩) ⟨CP_blind, va_recv hK hw.1 (ci := 10) (q0 := 0) rfl rfl, x_preA X hw [.ref a, .int p1, .int p2]⟩ rfl rfl hl.1 rfl (lv_room (Nat.le_of_ble_eq_true rfl)) dX10_isRight_3 ⟨Nat.zero_le _, Nat.zero_le _⟩) (fun H locs hw => ?_)
  obtain ⟨v3, hj, hf⟩ := b1_ob hf
  have J14_2 : ∀ (H : Heap) (locs : List Loc) (ls : Array Slot), WD D A s (wX10 cs a q S2) H locs → lv_has ls 3 [(0, .ref a), (1, .int p1)] → W p l e rmX10_isRight s m args below meth c H locs 0 0 Q (F0 m 14 ls [.int v3]) := by
    intro H locs ls hw hl
    refine lv_aload_n (pc := 14) hx hb dX10_isRight_14 rfl (lv_at hl 0 rfl) ?_
    refine x_get (pc := 15) X hw in_X10_isRight_X10 0 rfl rfl 13 (by decide) (List.mem_of_getElem? (i := 1) rfl) rfl dX10_isRight_15 ?_
    refine lv_iload_n (pc := 18) hx hb dX10_isRight_18 rfl (lv_at hl 1 rfl) ?_
    refine lv_ishr (pc := 19) hx hb dX10_isRight_19 ?_
    refine lv_iconst (pc := 20) (v := 1) hx hb dX10_isRight_20 (by decide) ?_
    refine lv_iand (pc := 21) hx hb dX10_isRight_21 ?_
    refine lv_iconst (pc := 22) (v := 1) hx hb dX10_isRight_22 (by decide) ?_
    obtain ⟨v5, hj, hf⟩ := b1_ob hf
    have J31_4 : ∀ (H : Heap) (locs : List Loc) (ls : Array Slot), WD D A s (wX10 cs a q S2) H locs → lv_has ls 3 [] → W p l e rmX10_isRight s m args below meth c H locs 0 0 Q (F0 m 31 ls [.int v5, .int v3]) := by
      intro H locs ls hw hl
      obtain ⟨v7, hj, hf⟩ := b1_ob hf
      have J39_6 : ∀ (H : Heap) (locs : List Loc) (ls : Array Slot), WD D A s (wX10 cs a q S2) H locs → lv_has ls 3 [] → W p l e rmX10_isRight s m args below meth c H locs 0 0 Q (F0 m 39 ls [.int v7]) := by
        intro H locs ls hw hl
        cases hf
        exact hret _ _ 39 _ hw ⟨_, rfl, rfl⟩ dX10_isRight_39
      clear hf; have hf := hj; clear hj
      refine lv_icmp_ne (pc := 31) (tgt := 38) hx hb dX10_isRight_31 (by decide) (fun c8 => ?_) (fun c8 => ?_)
      · have hf := ineg c8 hf
        refine lv_iconst (pc := 38) (v := 0) hx hb dX10_isRight_38 (by decide) ?_
        cases hf
        exact J39_6 _ _ _ hw (lv_sub hl [] rfl)
      · have hf := ipos c8 hf
        refine lv_iconst (pc := 34) (v := 1) hx hb dX10_isRight_34 (by decide) ?_
        refine lv_goto (pc := 35) (tgt := 39) hx hb dX10_isRight_35 (by decide) ?_
        cases hf
        exact J39_6 _ _ _ hw (lv_sub hl [] rfl)
    clear hf; have hf := hj; clear hj
    refine lv_icmp_ne (pc := 23) (tgt := 30) hx hb dX10_isRight_23 (by decide) (fun c6 => ?_) (fun c6 => ?_)
    · have hf := ineg c6 hf
      refine lv_iconst (pc := 30) (v := 0) hx hb dX10_isRight_30 (by decide) ?_
      cases hf
      exact J31_4 _ _ _ hw (lv_sub hl [] rfl)
    · have hf := ipos c6 hf
      refine lv_iconst (pc := 26) (v := 1) hx hb dX10_isRight_26 (by decide) ?_
      refine lv_goto (pc := 27) (tgt := 31) hx hb dX10_isRight_27 (by decide) ?_
      cases hf
      exact J31_4 _ _ _ hw (lv_sub hl [] rfl)
  clear hf; have hf := hj; clear hj
  refine lv_if_eq (pc := 6) (tgt := 13) hx hb dX10_isRight_6 (by decide) (fun c4 => ?_) (fun c4 => ?_)
  · have hf := ipos c4 hf
    refine lv_iconst (pc := 13) (v := 0) hx hb dX10_isRight_13 (by decide) ?_
    cases hf
    exact J14_2 _ _ _ hw (lv_sub hl [0, 1] rfl)
  · have hf := ineg c4 hf
    refine lv_iconst (pc := 9) (v := 1) hx hb dX10_isRight_9 (by decide) ?_
    refine lv_goto (pc := 10) (tgt := 14) hx hb dX10_isRight_10 (by decide) ?_
    cases hf
    exact J14_2 _ _ _ hw (lv_sub hl [0, 1] rfl)

theorem in_X10_isInput_X10 : ∀ w ∈ wsX100, w ∈ wsX10_isInput := fun _ h => List.mem_cons_of_mem _ (List.mem_append_right _ h)
abbrev rmX10_isInput : Room := { frames := 1, cells := 0, slots := 0, locals := 25 }
def f_X10_isInput (S : PS) (p1 : Int32) : Option (Int32) :=
  b1 (f_X10_in (p1.toInt64) 0 ((((1 : Int32) <<< ((S.1 12) &&& 31)) - 1).toInt64)) fun v1 =>
  b1 (ckB v1) fun v2 =>
  some v2
set_option maxHeartbeats 4000000 in
set_option maxRecDepth 100000 in
theorem c_X10_isInput (l : Launch) (D : va_G) (cs : CS) (a : Nat) (q : Nat → Nat) (S : PS) (p1 : Int32) (r : Int32) (hf : f_X10_isInput S p1 = some r) : CT l D (TY cs) yX10_isInput wsX10_isInput rmX10_isInput [.ref a, .int p1] (wX10 cs a q S) (some (.int r)) (wX10 cs a q S) := by
  refine CT.ofW (own := RX10) (cc := cX10_isInput) (maxL := 2) (ret := some .boolean) (by decide) rfl rfl (Nat.le_of_ble_eq_true rfl) ?_
  intro p e s m args below meth c A Q X hret ls hl hw
  obtain ⟨hx, hb, hml, hown, hts, hK, hA, hr, hlk⟩ := id X
  have hl : lv_has ls 2 [(0, .ref a), (1, .int p1)] := hl
  unfold f_X10_isInput at hf
  refine lv_iload_n (pc := 0) hx hb dX10_isInput_0 rfl (lv_at hl 1 rfl) ?_
  refine lv_i2l (pc := 1) hx hb dX10_isInput_1 rfl ?_
  refine lv_lconst (pc := 2) (v := 0) hx hb dX10_isInput_2 (by decide) ?_
  refine lv_iconst (pc := 3) (v := 1) hx hb dX10_isInput_3 (by decide) ?_
  refine lv_aload_n (pc := 4) hx hb dX10_isInput_4 rfl (lv_at hl 0 rfl) ?_
  refine x_get (pc := 5) X hw in_X10_isInput_X10 0 rfl rfl 12 (by decide) (List.mem_of_getElem? (i := 1) rfl) rfl dX10_isInput_5 ?_
  refine lv_ishl (pc := 8) hx hb dX10_isInput_8 ?_
  refine lv_iconst (pc := 9) (v := 1) hx hb dX10_isInput_9 (by decide) ?_
  refine lv_isub (pc := 10) hx hb dX10_isInput_10 ?_
  refine lv_i2l (pc := 11) hx hb dX10_isInput_11 rfl ?_
  obtain ⟨v1, hc, hf⟩ := b1_ob hf
  refine x_nil (pc := 12) X hw (va_runS (As := [.long (p1.toInt64), .long 0, .long ((((1 : Int32) <<< ((S.1 12) &&& 31)) - 1).toInt64)]) (rest := []) ⟨hx, hb, hml, hown, hts⟩ (c_X10_in l D cs (p1.toInt64) 0 ((((1 : Int32) <<< ((S.1 12) &&& 31)) - 1).toInt64) v1 hc _) (va_cwS 3 hts gX10_isInput_X10_in rfl rfl rfl (by decide +kernel) ⟨Nat.le_of_ble_eq_true rfl, Nat.le_of_ble_eq_true rfl⟩) ⟨CP_blind, x_preN X [.long (p1.toInt64), .long 0, .long ((((1 : Int32) <<< ((S.1 12) &&& 31)) - 1).toInt64)]⟩ rfl rfl hl.1 rfl (lv_room (Nat.le_of_ble_eq_true rfl)) dX10_isInput_12 ⟨Nat.zero_le _, Nat.zero_le _⟩) (fun H locs hw => ?_)
  obtain ⟨v2, ev2, hf⟩ := b1_ob hf
  refine x_topi (ckB_ob ev2).1.symm ?_
  cases hf
  exact hret _ _ 15 _ hw ⟨_, rfl, ckB_nar (ckB_ob ev2).2⟩ dX10_isInput_15

theorem in_X10_isRow_X10 : ∀ w ∈ wsX100, w ∈ wsX10_isRow := fun _ h => List.mem_cons_of_mem _ (List.mem_append_right _ h)
abbrev rmX10_isRow : Room := { frames := 1, cells := 0, slots := 0, locals := 25 }
def f_X10_isRow (S : PS) (p1 : Int32) : Option (Int32) :=
  b1 (f_X10_in (p1.toInt64) 0 (((S.1 11) - 1).toInt64)) fun v1 =>
  b1 (ckB v1) fun v2 =>
  some v2
set_option maxHeartbeats 4000000 in
set_option maxRecDepth 100000 in
theorem c_X10_isRow (l : Launch) (D : va_G) (cs : CS) (a : Nat) (q : Nat → Nat) (S : PS) (p1 : Int32) (r : Int32) (hf : f_X10_isRow S p1 = some r) : CT l D (TY cs) yX10_isRow wsX10_isRow rmX10_isRow [.ref a, .int p1] (wX10 cs a q S) (some (.int r)) (wX10 cs a q S) := by
  refine CT.ofW (own := RX10) (cc := cX10_isRow) (maxL := 2) (ret := some .boolean) (by decide) rfl rfl (Nat.le_of_ble_eq_true rfl) ?_
  intro p e s m args below meth c A Q X hret ls hl hw
  obtain ⟨hx, hb, hml, hown, hts, hK, hA, hr, hlk⟩ := id X
  have hl : lv_has ls 2 [(0, .ref a), (1, .int p1)] := hl
  unfold f_X10_isRow at hf
  refine lv_iload_n (pc := 0) hx hb dX10_isRow_0 rfl (lv_at hl 1 rfl) ?_
  refine lv_i2l (pc := 1) hx hb dX10_isRow_1 rfl ?_
  refine lv_lconst (pc := 2) (v := 0) hx hb dX10_isRow_2 (by decide) ?_
  refine lv_aload_n (pc := 3) hx hb dX10_isRow_3 rfl (lv_at hl 0 rfl) ?_
  refine x_get (pc := 4) X hw in_X10_isRow_X10 0 rfl rfl 11 (by decide) (List.mem_of_getElem? (i := 1) rfl) rfl dX10_isRow_4 ?_
  refine lv_iconst (pc := 7) (v := 1) hx hb dX10_isRow_7 (by decide) ?_
  refine lv_isub (pc := 8) hx hb dX10_isRow_8 ?_
  refine lv_i2l (pc := 9) hx hb dX10_isRow_9 rfl ?_
  obtain ⟨v1, hc, hf⟩ := b1_ob hf
  refine x_nil (pc := 10) X hw (va_runS (As := [.long (p1.toInt64), .long 0, .long (((S.1 11) - 1).toInt64)]) (rest := []) ⟨hx, hb, hml, hown, hts⟩ (c_X10_in l D cs (p1.toInt64) 0 (((S.1 11) - 1).toInt64) v1 hc _) (va_cwS 3 hts gX10_isRow_X10_in rfl rfl rfl (by decide +kernel) ⟨Nat.le_of_ble_eq_true rfl, Nat.le_of_ble_eq_true rfl⟩) ⟨CP_blind, x_preN X [.long (p1.toInt64), .long 0, .long (((S.1 11) - 1).toInt64)]⟩ rfl rfl hl.1 rfl (lv_room (Nat.le_of_ble_eq_true rfl)) dX10_isRow_10 ⟨Nat.zero_le _, Nat.zero_le _⟩) (fun H locs hw => ?_)
  obtain ⟨v2, ev2, hf⟩ := b1_ob hf
  refine x_topi (ckB_ob ev2).1.symm ?_
  cases hf
  exact hret _ _ 13 _ hw ⟨_, rfl, ckB_nar (ckB_ob ev2).2⟩ dX10_isRow_13

theorem in_X10_run_X10 : ∀ w ∈ wsX100, w ∈ wsX10_run := fun _ h => List.mem_cons_of_mem _ (List.mem_append_right _ h)
abbrev rmX10_run : Room := { frames := 2, cells := 0, slots := 0, locals := 53 }
def f_X10_run (S : PS) (p1 : Int32) (p2 : Int32) : Option (Int32 × PS) :=
  b1 (f_X10_isInput S p1) fun v1 =>
  b2 (
    if v1 = 0 then
      some (((-2) : Int32), S)
    else
    b1 (f_X10_isRow S p2) fun v5 =>
    if v5 = 0 then
      some (((-2) : Int32), S)
    else
    b2 (f_X10_outOf S p1 p2) fun v7 S8 =>
    some (v7, S8)) fun v2 S3 =>
  some (v2, S3)
set_option maxHeartbeats 4000000 in
set_option maxRecDepth 100000 in
theorem c_X10_run (l : Launch) (D : va_G) (cs : CS) (a : Nat) (q : Nat → Nat) (S : PS) (p1 : Int32) (p2 : Int32) (r : Int32) (S' : PS) (hf : f_X10_run S p1 p2 = some (r, S')) : CT l D (TY cs) yX10_run wsX10_run rmX10_run [.ref a, .int p1, .int p2] (wX10 cs a q S) (some (.int r)) (wX10 cs a q S') := by
  refine CT.ofW (own := RX10) (cc := cX10_run) (maxL := 3) (ret := some .int) (by decide) rfl rfl (Nat.le_of_ble_eq_true rfl) ?_
  intro p e s m args below meth c A Q X hret ls hl hw
  obtain ⟨hx, hb, hml, hown, hts, hK, hA, hr, hlk⟩ := id X
  have hl : lv_has ls 3 [(0, .ref a), (1, .int p1), (2, .int p2)] := hl
  unfold f_X10_run at hf
  refine lv_aload_n (pc := 0) hx hb dX10_run_0 rfl (lv_at hl 0 rfl) ?_
  refine lv_iload_n (pc := 1) hx hb dX10_run_1 rfl (lv_at hl 1 rfl) ?_
  obtain ⟨v1, hc, hf⟩ := b1_ob hf
  refine x_all (pc := 2) X hw (va_runV (As := [.int p1]) (rest := []) ⟨hx, hb, hml, hown, hts⟩ (c_X10_isInput l D cs a q S p1 v1 hc _) (cwV 1 hts gX10_run_X10_isInput rfl rfl rfl (by decide +kernel) ⟨Nat.le_of_ble_eq_true rfl, Nat.le_of_ble_eq_true rfl⟩) ⟨CP_blind, va_recv hK hw.1 (ci := 10) (q0 := 0) rfl rfl, x_preA X hw [.ref a, .int p1]⟩ rfl rfl hl.1 rfl (lv_room (Nat.le_of_ble_eq_true rfl)) dX10_run_2 ⟨Nat.zero_le _, Nat.zero_le _⟩) (fun H locs hw => ?_)
  obtain ⟨v2, S3, hj, hf⟩ := b2_ob hf
  have J27_1 : ∀ (H : Heap) (locs : List Loc) (ls : Array Slot), WD D A s (wX10 cs a q S3) H locs → lv_has ls 3 [] → W p l e rmX10_run s m args below meth c H locs 0 0 Q (F0 m 27 ls [.int v2]) := by
    intro H locs ls hw hl
    cases hf
    exact hret _ _ 27 _ hw ⟨_, rfl, rfl⟩ dX10_run_27
  clear hf; have hf := hj; clear hj
  refine lv_if_eq (pc := 5) (tgt := 25) hx hb dX10_run_5 (by decide) (fun c4 => ?_) (fun c4 => ?_)
  · have hf := ipos c4 hf
    refine lv_bipush (pc := 25) (v := (-2)) hx hb dX10_run_25 (by decide) ?_
    cases hf
    exact J27_1 _ _ _ hw (lv_sub hl [] rfl)
  · have hf := ineg c4 hf
    refine lv_aload_n (pc := 8) hx hb dX10_run_8 rfl (lv_at hl 0 rfl) ?_
    refine lv_iload_n (pc := 9) hx hb dX10_run_9 rfl (lv_at hl 2 rfl) ?_
    obtain ⟨v5, hc, hf⟩ := b1_ob hf
    refine x_all (pc := 10) X hw (va_runV (As := [.int p2]) (rest := []) ⟨hx, hb, hml, hown, hts⟩ (c_X10_isRow l D cs a q S p2 v5 hc _) (cwV 1 hts gX10_run_X10_isRow rfl rfl rfl (by decide +kernel) ⟨Nat.le_of_ble_eq_true rfl, Nat.le_of_ble_eq_true rfl⟩) ⟨CP_blind, va_recv hK hw.1 (ci := 10) (q0 := 0) rfl rfl, x_preA X hw [.ref a, .int p2]⟩ rfl rfl hl.1 rfl (lv_room (Nat.le_of_ble_eq_true rfl)) dX10_run_10 ⟨Nat.zero_le _, Nat.zero_le _⟩) (fun H locs hw => ?_)
    refine lv_if_eq (pc := 13) (tgt := 25) hx hb dX10_run_13 (by decide) (fun c6 => ?_) (fun c6 => ?_)
    · have hf := ipos c6 hf
      refine lv_bipush (pc := 25) (v := (-2)) hx hb dX10_run_25 (by decide) ?_
      cases hf
      exact J27_1 _ _ _ hw (lv_sub hl [] rfl)
    · have hf := ineg c6 hf
      refine lv_aload_n (pc := 16) hx hb dX10_run_16 rfl (lv_at hl 0 rfl) ?_
      refine lv_iload_n (pc := 17) hx hb dX10_run_17 rfl (lv_at hl 1 rfl) ?_
      refine lv_iload_n (pc := 18) hx hb dX10_run_18 rfl (lv_at hl 2 rfl) ?_
      obtain ⟨v7, S8, hc, hf⟩ := b2_ob hf
      refine x_all (pc := 19) X hw (va_runV (As := [.int p1, .int p2]) (rest := []) ⟨hx, hb, hml, hown, hts⟩ (c_X10_outOf l D cs a q S p1 p2 v7 S8 hc _) (cwV 2 hts gX10_run_X10_outOf rfl rfl rfl (by decide +kernel) ⟨Nat.le_of_ble_eq_true rfl, Nat.le_of_ble_eq_true rfl⟩) ⟨CP_blind, va_recv hK hw.1 (ci := 10) (q0 := 0) rfl rfl, x_preA X hw [.ref a, .int p1, .int p2]⟩ rfl rfl hl.1 rfl (lv_room (Nat.le_of_ble_eq_true rfl)) dX10_run_19 ⟨Nat.zero_le _, Nat.zero_le _⟩) (fun H locs hw => ?_)
      refine lv_goto (pc := 22) (tgt := 27) hx hb dX10_run_22 (by decide) ?_
      cases hf
      exact J27_1 _ _ _ hw (lv_sub hl [] rfl)

theorem in_X10_right_X10 : ∀ w ∈ wsX100, w ∈ wsX10_right := fun _ h => List.mem_cons_of_mem _ (List.mem_append_right _ h)
abbrev rmX10_right : Room := { frames := 3, cells := 0, slots := 0, locals := 75 }
def f_X10_right (S : PS) (p1 : Int32) (p2 : Int32) : Option (Int32 × PS) :=
  b1 (f_X10_isInput S p1) fun v1 =>
  b2 (
    if v1 = 0 then
      some (((-2) : Int32), S)
    else
    b1 (f_X10_isRow S p2) fun v5 =>
    if v5 = 0 then
      some (((-2) : Int32), S)
    else
    b2 (f_X10_isRight S p1 p2) fun v7 S8 =>
    some (v7, S8)) fun v2 S3 =>
  some (v2, S3)
set_option maxHeartbeats 4000000 in
set_option maxRecDepth 100000 in
theorem c_X10_right (l : Launch) (D : va_G) (cs : CS) (a : Nat) (q : Nat → Nat) (S : PS) (p1 : Int32) (p2 : Int32) (r : Int32) (S' : PS) (hf : f_X10_right S p1 p2 = some (r, S')) : CT l D (TY cs) yX10_right wsX10_right rmX10_right [.ref a, .int p1, .int p2] (wX10 cs a q S) (some (.int r)) (wX10 cs a q S') := by
  refine CT.ofW (own := RX10) (cc := cX10_right) (maxL := 3) (ret := some .int) (by decide) rfl rfl (Nat.le_of_ble_eq_true rfl) ?_
  intro p e s m args below meth c A Q X hret ls hl hw
  obtain ⟨hx, hb, hml, hown, hts, hK, hA, hr, hlk⟩ := id X
  have hl : lv_has ls 3 [(0, .ref a), (1, .int p1), (2, .int p2)] := hl
  unfold f_X10_right at hf
  refine lv_aload_n (pc := 0) hx hb dX10_right_0 rfl (lv_at hl 0 rfl) ?_
  refine lv_iload_n (pc := 1) hx hb dX10_right_1 rfl (lv_at hl 1 rfl) ?_
  obtain ⟨v1, hc, hf⟩ := b1_ob hf
  refine x_all (pc := 2) X hw (va_runV (As := [.int p1]) (rest := []) ⟨hx, hb, hml, hown, hts⟩ (c_X10_isInput l D cs a q S p1 v1 hc _) (cwV 1 hts gX10_right_X10_isInput rfl rfl rfl (by decide +kernel) ⟨Nat.le_of_ble_eq_true rfl, Nat.le_of_ble_eq_true rfl⟩) ⟨CP_blind, va_recv hK hw.1 (ci := 10) (q0 := 0) rfl rfl, x_preA X hw [.ref a, .int p1]⟩ rfl rfl hl.1 rfl (lv_room (Nat.le_of_ble_eq_true rfl)) dX10_right_2 ⟨Nat.zero_le _, Nat.zero_le _⟩) (fun H locs hw => ?_)
  obtain ⟨v2, S3, hj, hf⟩ := b2_ob hf
  have J27_1 : ∀ (H : Heap) (locs : List Loc) (ls : Array Slot), WD D A s (wX10 cs a q S3) H locs → lv_has ls 3 [] → W p l e rmX10_right s m args below meth c H locs 0 0 Q (F0 m 27 ls [.int v2]) := by
    intro H locs ls hw hl
    cases hf
    exact hret _ _ 27 _ hw ⟨_, rfl, rfl⟩ dX10_right_27
  clear hf; have hf := hj; clear hj
  refine lv_if_eq (pc := 5) (tgt := 25) hx hb dX10_right_5 (by decide) (fun c4 => ?_) (fun c4 => ?_)
  · have hf := ipos c4 hf
    refine lv_bipush (pc := 25) (v := (-2)) hx hb dX10_right_25 (by decide) ?_
    cases hf
    exact J27_1 _ _ _ hw (lv_sub hl [] rfl)
  · have hf := ineg c4 hf
    refine lv_aload_n (pc := 8) hx hb dX10_right_8 rfl (lv_at hl 0 rfl) ?_
    refine lv_iload_n (pc := 9) hx hb dX10_right_9 rfl (lv_at hl 2 rfl) ?_
    obtain ⟨v5, hc, hf⟩ := b1_ob hf
    refine x_all (pc := 10) X hw (va_runV (As := [.int p2]) (rest := []) ⟨hx, hb, hml, hown, hts⟩ (c_X10_isRow l D cs a q S p2 v5 hc _) (cwV 1 hts gX10_right_X10_isRow rfl rfl rfl (by decide +kernel) ⟨Nat.le_of_ble_eq_true rfl, Nat.le_of_ble_eq_true rfl⟩) ⟨CP_blind, va_recv hK hw.1 (ci := 10) (q0 := 0) rfl rfl, x_preA X hw [.ref a, .int p2]⟩ rfl rfl hl.1 rfl (lv_room (Nat.le_of_ble_eq_true rfl)) dX10_right_10 ⟨Nat.zero_le _, Nat.zero_le _⟩) (fun H locs hw => ?_)
    refine lv_if_eq (pc := 13) (tgt := 25) hx hb dX10_right_13 (by decide) (fun c6 => ?_) (fun c6 => ?_)
    · have hf := ipos c6 hf
      refine lv_bipush (pc := 25) (v := (-2)) hx hb dX10_right_25 (by decide) ?_
      cases hf
      exact J27_1 _ _ _ hw (lv_sub hl [] rfl)
    · have hf := ineg c6 hf
      refine lv_aload_n (pc := 16) hx hb dX10_right_16 rfl (lv_at hl 0 rfl) ?_
      refine lv_iload_n (pc := 17) hx hb dX10_right_17 rfl (lv_at hl 1 rfl) ?_
      refine lv_iload_n (pc := 18) hx hb dX10_right_18 rfl (lv_at hl 2 rfl) ?_
      obtain ⟨v7, S8, hc, hf⟩ := b2_ob hf
      refine x_all (pc := 19) X hw (va_runV (As := [.int p1, .int p2]) (rest := []) ⟨hx, hb, hml, hown, hts⟩ (c_X10_isRight l D cs a q S p1 p2 v7 S8 hc _) (cwV 2 hts gX10_right_X10_isRight rfl rfl rfl (by decide +kernel) ⟨Nat.le_of_ble_eq_true rfl, Nat.le_of_ble_eq_true rfl⟩) ⟨CP_blind, va_recv hK hw.1 (ci := 10) (q0 := 0) rfl rfl, x_preA X hw [.ref a, .int p1, .int p2]⟩ rfl rfl hl.1 rfl (lv_room (Nat.le_of_ble_eq_true rfl)) dX10_right_19 ⟨Nat.zero_le _, Nat.zero_le _⟩) (fun H locs hw => ?_)
      refine lv_goto (pc := 22) (tgt := 27) hx hb dX10_right_22 (by decide) ?_
      cases hf
      exact J27_1 _ _ _ hw (lv_sub hl [] rfl)
