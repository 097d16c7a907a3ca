abbrev rmJ6_bitCount_0f7a4 : Room := { frames := 0, cells := 0, slots := 0, locals := 0 }
def f_J6_bitCount_0f7a4 (p1 : Int32) : Option (Int32) :=
  bn (p1 - (((p1.toUInt32 >>> ((1 : Int32).toUInt32 &&& Int32.toUInt32 31)).toInt32) &&& (1431655765))) fun v1 =>
  bn ((v1 &&& (858993459)) + (((v1.toUInt32 >>> ((2 : Int32).toUInt32 &&& Int32.toUInt32 31)).toInt32) &&& (858993459))) fun v2 =>
  bn ((v2 + ((v2.toUInt32 >>> ((4 : Int32).toUInt32 &&& Int32.toUInt32 31)).toInt32)) &&& (252645135)) fun v3 =>
  bn (v3 + ((v3.toUInt32 >>> ((8 : Int32).toUInt32 &&& Int32.toUInt32 31)).toInt32)) fun v4 =>
  bn (v4 + ((v4.toUInt32 >>> ((16 : Int32).toUInt32 &&& Int32.toUInt32 31)).toInt32)) fun v5 =>
  some (v5 &&& 63)
set_option maxHeartbeats 4000000 in
set_option maxRecDepth 100000 in
theorem c_J6_bitCount_0f7a4 (l : Launch) (D : va_G) (cs : CS) (p1 : Int32) (r : Int32) (hf : f_J6_bitCount_0f7a4 p1 = some r) : CT l D (TY cs) yJ6_bitCount_0f7a4 wsJ6_bitCount_0f7a4 rmJ6_bitCount_0f7a4 [.int p1] ([]) (some (.int r)) ([]) := by
  refine CT.ofW (own := RJ6) (cc := cJ6_bitCount_0f7a4) (maxL := 1) (ret := some .int) (by decide) rfl rfl (Nat.le_of_ble_eq_true rfl) ?_
  intro p e s m args below meth c A Q X hret ls hl hw
  obtain ⟨hx, hb, hml, hown, hts, hK, hA, hr, hlk⟩ := id X
  have hl : lv_has ls 1 [(0, .int p1)] := hl
  unfold f_J6_bitCount_0f7a4 at hf
  refine lv_iload_n (pc := 0) hx hb dJ6_bitCount_0f7a4_0 rfl (lv_at hl 0 rfl) ?_
  refine lv_iload_n (pc := 1) hx hb dJ6_bitCount_0f7a4_1 rfl (lv_at hl 0 rfl) ?_
  refine lv_iconst (pc := 2) (v := 1) hx hb dJ6_bitCount_0f7a4_2 (by decide) ?_
  refine lv_iushr (pc := 3) hx hb dJ6_bitCount_0f7a4_3 rfl ?_
  refine lv_ldcw (pc := 4) (v := (1431655765)) hx hb hown (hts _ (List.mem_of_getElem? (i := 1) rfl)) dJ6_bitCount_0f7a4_4 ?_
  refine lv_iand (pc := 7) hx hb dJ6_bitCount_0f7a4_7 ?_
  refine lv_isub (pc := 8) hx hb dJ6_bitCount_0f7a4_8 ?_
  obtain ⟨v1, ev1, hf⟩ := bn_ob hf
  refine x_topi ev1 ?_
  refine lv_istore_n (lv' := [(0, .int v1)]) (pc := 9) hx hb dJ6_bitCount_0f7a4_9 rfl hl (by decide) rfl (fun ls hl => ?_)
  refine lv_iload_n (pc := 10) hx hb dJ6_bitCount_0f7a4_10 rfl (lv_at hl 0 rfl) ?_
  refine lv_ldcw (pc := 11) (v := (858993459)) hx hb hown (hts _ (List.mem_of_getElem? (i := 2) rfl)) dJ6_bitCount_0f7a4_11 ?_
  refine lv_iand (pc := 14) hx hb dJ6_bitCount_0f7a4_14 ?_
  refine lv_iload_n (pc := 15) hx hb dJ6_bitCount_0f7a4_15 rfl (lv_at hl 0 rfl) ?_
  refine lv_iconst (pc := 16) (v := 2) hx hb dJ6_bitCount_0f7a4_16 (by decide) ?_
  refine lv_iushr (pc := 17) hx hb dJ6_bitCount_0f7a4_17 rfl ?_
  refine lv_ldcw (pc := 18) (v := (858993459)) hx hb hown (hts _ (List.mem_of_getElem? (i := 2) rfl)) dJ6_bitCount_0f7a4_18 ?_
  refine lv_iand (pc := 21) hx hb dJ6_bitCount_0f7a4_21 ?_
  refine lv_iadd (pc := 22) hx hb dJ6_bitCount_0f7a4_22 ?_
  obtain ⟨v2, ev2, hf⟩ := bn_ob hf
  refine x_topi ev2 ?_
  refine lv_istore_n (lv' := [(0, .int v2)]) (pc := 23) hx hb dJ6_bitCount_0f7a4_23 rfl hl (by decide) rfl (fun ls hl => ?_)
  refine lv_iload_n (pc := 24) hx hb dJ6_bitCount_0f7a4_24 rfl (lv_at hl 0 rfl) ?_
  refine lv_iload_n (pc := 25) hx hb dJ6_bitCount_0f7a4_25 rfl (lv_at hl 0 rfl) ?_
  refine lv_iconst (pc := 26) (v := 4) hx hb dJ6_bitCount_0f7a4_26 (by decide) ?_
  refine lv_iushr (pc := 27) hx hb dJ6_bitCount_0f7a4_27 rfl ?_
  refine lv_iadd (pc := 28) hx hb dJ6_bitCount_0f7a4_28 ?_
  refine lv_ldcw (pc := 29) (v := (252645135)) hx hb hown (hts _ (List.mem_of_getElem? (i := 3) rfl)) dJ6_bitCount_0f7a4_29 ?_
  refine lv_iand (pc := 32) hx hb dJ6_bitCount_0f7a4_32 ?_
  obtain ⟨v3, ev3, hf⟩ := bn_ob hf
  refine x_topi ev3 ?_
  refine lv_istore_n (lv' := [(0, .int v3)]) (pc := 33) hx hb dJ6_bitCount_0f7a4_33 rfl hl (by decide) rfl (fun ls hl => ?_)
  refine lv_iload_n (pc := 34) hx hb dJ6_bitCount_0f7a4_34 rfl (lv_at hl 0 rfl) ?_
  refine lv_iload_n (pc := 35) hx hb dJ6_bitCount_0f7a4_35 rfl (lv_at hl 0 rfl) ?_
  refine lv_bipush (pc := 36) (v := 8) hx hb dJ6_bitCount_0f7a4_36 (by decide) ?_
  refine lv_iushr (pc := 38) hx hb dJ6_bitCount_0f7a4_38 rfl ?_
  refine lv_iadd (pc := 39) hx hb dJ6_bitCount_0f7a4_39 ?_
  obtain ⟨v4, ev4, hf⟩ := bn_ob hf
  refine x_topi ev4 ?_
  refine lv_istore_n (lv' := [(0, .int v4)]) (pc := 40) hx hb dJ6_bitCount_0f7a4_40 rfl hl (by decide) rfl (fun ls hl => ?_)
  refine lv_iload_n (pc := 41) hx hb dJ6_bitCount_0f7a4_41 rfl (lv_at hl 0 rfl) ?_
  refine lv_iload_n (pc := 42) hx hb dJ6_bitCount_0f7a4_42 rfl (lv_at hl 0 rfl) ?_
  refine lv_bipush (pc := 43) (v := 16) hx hb dJ6_bitCount_0f7a4_43 (by decide) ?_
  refine lv_iushr (pc := 45) hx hb dJ6_bitCount_0f7a4_45 rfl ?_
  refine lv_iadd (pc := 46) hx hb dJ6_bitCount_0f7a4_46 ?_
  obtain ⟨v5, ev5, hf⟩ := bn_ob hf
  refine x_topi ev5 ?_
  refine lv_istore_n (lv' := [(0, .int v5)]) (pc := 47) hx hb dJ6_bitCount_0f7a4_47 rfl hl (by decide) rfl (fun ls hl => ?_)
  refine lv_iload_n (pc := 48) hx hb dJ6_bitCount_0f7a4_48 rfl (lv_at hl 0 rfl) ?_
  refine lv_bipush (pc := 49) (v := 63) hx hb dJ6_bitCount_0f7a4_49 (by decide) ?_
  refine lv_iand (pc := 51) hx hb dJ6_bitCount_0f7a4_51 ?_
  cases hf
  exact hret _ _ 52 _ hw ⟨_, rfl, rfl⟩ dJ6_bitCount_0f7a4_52

abbrev rmJ7_fill_53178 : Room := { frames := 0, cells := 0, slots := 0, locals := 0 }
def B_J7_fill_53178_5 (n1 : Nat) (p2 : Int32) (v1 : Int32) (v2 : Int32) (g13 : Nat → Int32) : Option ((Int32 × (Nat → Int32)) ⊕ ((Nat → Int32))) :=
  if v1 ≤ v2 then
    some (.inr g13)
  else
  b1 (wrI n1 g13 v2 p2) fun f5 =>
  bn (v2 + 1) fun v6 =>
  some (.inl (v6, f5))
def L_J7_fill_53178_5 (n1 : Nat) (p2 : Int32) (v1 : Int32) (n : Nat) (v2 : Int32) (g13 : Nat → Int32) : Option ((Nat → Int32)) := loopF (fun x : Int32 × (Nat → Int32) => B_J7_fill_53178_5 n1 p2 v1 x.1 x.2) n (v2, g13)
def f_J7_fill_53178 (n1 : Nat) (g1 : Nat → Int32) (p2 : Int32) : Option ((Nat → Int32)) :=
  bn (Int32.ofNat n1) fun v1 =>
  b1 (L_J7_fill_53178_5 n1 p2 v1 FU 0 g1) fun g17 =>
  some g17
set_option maxHeartbeats 4000000 in
set_option maxRecDepth 100000 in
theorem c_J7_fill_53178 (l : Launch) (D : va_G) (cs : CS) (b1 : Nat) (n1 : Nat) (g1 : Nat → Int32) (p2 : Int32) (g1' : Nat → Int32) (hf : f_J7_fill_53178 n1 g1 p2 = some g1') : CT l D (TY cs) yJ7_fill_53178 wsJ7_fill_53178 rmJ7_fill_53178 [.ref b1, .int p2] ([(b1, .inl (cs.1, n1, .inl g1))]) none ([(b1, .inl (cs.1, n1, .inl g1'))]) := by
  refine CT.ofW (own := RJ7) (cc := cJ7_fill_53178) (maxL := 4) (ret := none) (by decide) rfl rfl (Nat.le_of_ble_eq_true rfl) ?_
  intro p e s m args below meth c A Q X hret ls hl hw
  obtain ⟨hx, hb, hml, hown, hts, hK, hA, hr, hlk⟩ := id X
  have hl : lv_has ls 4 [(0, .ref b1), (1, .int p2)] := hl
  unfold f_J7_fill_53178 at hf
  refine lv_iconst (pc := 0) (v := 0) hx hb dJ7_fill_53178_0 (by decide) ?_
  refine lv_istore_n (lv' := [(2, .int 0), (0, .ref b1), (1, .int p2)]) (pc := 1) hx hb dJ7_fill_53178_1 rfl hl (by decide) rfl (fun ls hl => ?_)
  refine lv_aload_n (pc := 2) hx hb dJ7_fill_53178_2 rfl (lv_at hl 1 rfl) ?_
  refine x_alen (pc := 3) X hw 0 0 rfl rfl rfl dJ7_fill_53178_3 ?_
  obtain ⟨v1, ev1, hf⟩ := bn_ob hf
  refine x_topi ev1 ?_
  refine lv_istore_n (lv' := [(3, .int v1), (2, .int 0), (0, .ref b1), (1, .int p2)]) (pc := 4) hx hb dJ7_fill_53178_4 rfl hl (by decide) rfl (fun ls hl => ?_)
  have L5 : ∀ (n : Nat) (v2 : Int32) (g13 : Nat → Int32) (rg13 : Nat → Int32), L_J7_fill_53178_5 n1 p2 v1 n v2 g13 = some rg13 → ∀ (H : Heap) (locs : List Loc) (ls : Array Slot), WD D A s ([(b1, .inl (cs.1, n1, .inl g13))]) H locs → lv_has ls 4 [(0, .ref b1), (1, .int p2), (2, .int v2), (3, .int v1)] → (∀ (H : Heap) (locs : List Loc) (ls : Array Slot), WD D A s ([(b1, .inl (cs.1, n1, .inl rg13))]) H locs → lv_has ls 4 [] → W p l e rmJ7_fill_53178 s m args below meth c H locs 0 0 Q (F0 m 20 ls [])) → W p l e rmJ7_fill_53178 s m args below meth c H locs 0 0 Q (F0 m 5 ls []) := by
    intro n
    induction n with
    | zero => intro v2 g13 rg13 hf; exact (loopF_z hf).elim
    | succ n ih =>
      intro v2 g13 rg13 hf H locs ls hw hl K
      obtain ⟨x, hf, hx0⟩ := loopF_ob hf
      have hf : B_J7_fill_53178_5 n1 p2 v1 v2 g13 = some x := hf
      unfold B_J7_fill_53178_5 at hf
      refine lv_iload_n (pc := 5) hx hb dJ7_fill_53178_5 rfl (lv_at hl 2 rfl) ?_
      refine lv_iload_n (pc := 6) hx hb dJ7_fill_53178_6 rfl (lv_at hl 3 rfl) ?_
      refine lv_icmp_ge (pc := 7) (tgt := 20) hx hb dJ7_fill_53178_7 (by decide) (fun c4 => ?_) (fun c4 => ?_)
      · have hf := ipos c4 hf
        cases hf
        cases (hx0 : g13 = rg13)
        exact K _ _ _ hw (lv_sub hl [] rfl)
      · have hf := ineg c4 hf
        refine lv_aload_n (pc := 10) hx hb dJ7_fill_53178_10 rfl (lv_at hl 0 rfl) ?_
        refine lv_iload_n (pc := 11) hx hb dJ7_fill_53178_11 rfl (lv_at hl 2 rfl) ?_
        refine lv_iload_n (pc := 12) hx hb dJ7_fill_53178_12 rfl (lv_at hl 1 rfl) ?_
        obtain ⟨f5, ef5, hf⟩ := b1_ob hf
        refine x_iast (pc := 13) X hw 0 0 rfl rfl (wrI_ob ef5).1 dJ7_fill_53178_13 (ws2 := [(b1, .inl (cs.1, n1, .inl f5))]) (by rw [← (wrI_ob ef5).2]; rfl) (fun H locs hw => ?_)
        obtain ⟨v6, ev6, hf⟩ := bn_ob hf
        refine lv_iinc (pc := 14) (v := v6) (lv' := [(2, .int v6), (0, .ref b1), (1, .int p2), (3, .int v1)]) hx hb dJ7_fill_53178_14 hl (k := 2) rfl (by rw [ev6]; rfl) (by decide) rfl (fun ls hl => ?_)
        refine lv_goto (pc := 17) (tgt := 5) hx hb dJ7_fill_53178_17 (by decide) ?_
        cases hf
        exact ih v6 f5 rg13 hx0 _ _ _ hw (lv_sub hl [1, 2, 0, 3] rfl) K
  obtain ⟨g17, hj, hf⟩ := b1_ob hf
  refine L5 _ 0 g1 g17 hj _ _ _ hw (lv_sub hl [2, 3, 1, 0] rfl) (fun H locs ls hw hl => ?_)
  clear hj L5
  cases hf
  exact hret _ _ 20 _ hw rfl dJ7_fill_53178_20

abbrev rmJ13_bitCount_95d88 : Room := { frames := 0, cells := 0, slots := 0, locals := 0 }
def f_J13_bitCount_95d88 (p1 : Int64) : Option (Int32) :=
  bn (p1 - (((p1.toUInt64 >>> ((1 : Int32).toInt64.toUInt64 &&& Int64.toUInt64 63)).toInt64) &&& (6148914691236517205))) fun v1 =>
  bn ((v1 &&& (3689348814741910323)) + (((v1.toUInt64 >>> ((2 : Int32).toInt64.toUInt64 &&& Int64.toUInt64 63)).toInt64) &&& (3689348814741910323))) fun v2 =>
  bn ((v2 + ((v2.toUInt64 >>> ((4 : Int32).toInt64.toUInt64 &&& Int64.toUInt64 63)).toInt64)) &&& (1085102592571150095)) fun v3 =>
  bn (v3 + ((v3.toUInt64 >>> ((8 : Int32).toInt64.toUInt64 &&& Int64.toUInt64 63)).toInt64)) fun v4 =>
  bn (v4 + ((v4.toUInt64 >>> ((16 : Int32).toInt64.toUInt64 &&& Int64.toUInt64 63)).toInt64)) fun v5 =>
  bn (v5 + ((v5.toUInt64 >>> ((32 : Int32).toInt64.toUInt64 &&& Int64.toUInt64 63)).toInt64)) fun v6 =>
  some ((v6.toInt32) &&& 127)
set_option maxHeartbeats 4000000 in
set_option maxRecDepth 100000 in
theorem c_J13_bitCount_95d88 (l : Launch) (D : va_G) (cs : CS) (p1 : Int64) (r : Int32) (hf : f_J13_bitCount_95d88 p1 = some r) : CT l D (TY cs) yJ13_bitCount_95d88 wsJ13_bitCount_95d88 rmJ13_bitCount_95d88 [.long p1] ([]) (some (.int r)) ([]) := by
  refine CT.ofW (own := RJ13) (cc := cJ13_bitCount_95d88) (maxL := 2) (ret := some .int) (by decide) rfl rfl (Nat.le_of_ble_eq_true rfl) ?_
  intro p e s m args below meth c A Q X hret ls hl hw
  obtain ⟨hx, hb, hml, hown, hts, hK, hA, hr, hlk⟩ := id X
  have hl : lv_has ls 2 [(0, .long p1)] := hl
  unfold f_J13_bitCount_95d88 at hf
  refine lv_lload_n (pc := 0) hx hb dJ13_bitCount_95d88_0 rfl (lv_at hl 0 rfl) ?_
  refine lv_lload_n (pc := 1) hx hb dJ13_bitCount_95d88_1 rfl (lv_at hl 0 rfl) ?_
  refine lv_iconst (pc := 2) (v := 1) hx hb dJ13_bitCount_95d88_2 (by decide) ?_
  refine lv_lushr (pc := 3) hx hb dJ13_bitCount_95d88_3 rfl ?_
  refine lv_ldc2 (pc := 4) (v := (6148914691236517205)) hx hb hown (hts _ (List.mem_of_getElem? (i := 1) rfl)) dJ13_bitCount_95d88_4 ?_
  refine lv_land (pc := 7) hx hb dJ13_bitCount_95d88_7 ?_
  refine lv_lsub (pc := 8) hx hb dJ13_bitCount_95d88_8 ?_
  obtain ⟨v1, ev1, hf⟩ := bn_ob hf
  refine x_topl ev1 ?_
  refine lv_lstore_n (lv' := [(0, .long v1)]) (pc := 9) hx hb dJ13_bitCount_95d88_9 rfl hl (by decide) rfl (fun ls hl => ?_)
  refine lv_lload_n (pc := 10) hx hb dJ13_bitCount_95d88_10 rfl (lv_at hl 0 rfl) ?_
  refine lv_ldc2 (pc := 11) (v := (3689348814741910323)) hx hb hown (hts _ (List.mem_of_getElem? (i := 2) rfl)) dJ13_bitCount_95d88_11 ?_
  refine lv_land (pc := 14) hx hb dJ13_bitCount_95d88_14 ?_
  refine lv_lload_n (pc := 15) hx hb dJ13_bitCount_95d88_15 rfl (lv_at hl 0 rfl) ?_
  refine lv_iconst (pc := 16) (v := 2) hx hb dJ13_bitCount_95d88_16 (by decide) ?_
  refine lv_lushr (pc := 17) hx hb dJ13_bitCount_95d88_17 rfl ?_
  refine lv_ldc2 (pc := 18) (v := (3689348814741910323)) hx hb hown (hts _ (List.mem_of_getElem? (i := 2) rfl)) dJ13_bitCount_95d88_18 ?_
  refine lv_land (pc := 21) hx hb dJ13_bitCount_95d88_21 ?_
  refine lv_ladd (pc := 22) hx hb dJ13_bitCount_95d88_22 ?_
  obtain ⟨v2, ev2, hf⟩ := bn_ob hf
  refine x_topl ev2 ?_
  refine lv_lstore_n (lv' := [(0, .long v2)]) (pc := 23) hx hb dJ13_bitCount_95d88_23 rfl hl (by decide) rfl (fun ls hl => ?_)
  refine lv_lload_n (pc := 24) hx hb dJ13_bitCount_95d88_24 rfl (lv_at hl 0 rfl) ?_
  refine lv_lload_n (pc := 25) hx hb dJ13_bitCount_95d88_25 rfl (lv_at hl 0 rfl) ?_
  refine lv_iconst (pc := 26) (v := 4) hx hb dJ13_bitCount_95d88_26 (by decide) ?_
  refine lv_lushr (pc := 27) hx hb dJ13_bitCount_95d88_27 rfl ?_
  refine lv_ladd (pc := 28) hx hb dJ13_bitCount_95d88_28 ?_
  refine lv_ldc2 (pc := 29) (v := (1085102592571150095)) hx hb hown (hts _ (List.mem_of_getElem? (i := 3) rfl)) dJ13_bitCount_95d88_29 ?_
  refine lv_land (pc := 32) hx hb dJ13_bitCount_95d88_32 ?_
  obtain ⟨v3, ev3, hf⟩ := bn_ob hf
  refine x_topl ev3 ?_
  refine lv_lstore_n (lv' := [(0, .long v3)]) (pc := 33) hx hb dJ13_bitCount_95d88_33 rfl hl (by decide) rfl (fun ls hl => ?_)
  refine lv_lload_n (pc := 34) hx hb dJ13_bitCount_95d88_34 rfl (lv_at hl 0 rfl) ?_
  refine lv_lload_n (pc := 35) hx hb dJ13_bitCount_95d88_35 rfl (lv_at hl 0 rfl) ?_
  refine lv_bipush (pc := 36) (v := 8) hx hb dJ13_bitCount_95d88_36 (by decide) ?_
  refine lv_lushr (pc := 38) hx hb dJ13_bitCount_95d88_38 rfl ?_
  refine lv_ladd (pc := 39) hx hb dJ13_bitCount_95d88_39 ?_
  obtain ⟨v4, ev4, hf⟩ := bn_ob hf
  refine x_topl ev4 ?_
  refine lv_lstore_n (lv' := [(0, .long v4)]) (pc := 40) hx hb dJ13_bitCount_95d88_40 rfl hl (by decide) rfl (fun ls hl => ?_)
  refine lv_lload_n (pc := 41) hx hb dJ13_bitCount_95d88_41 rfl (lv_at hl 0 rfl) ?_
  refine lv_lload_n (pc := 42) hx hb dJ13_bitCount_95d88_42 rfl (lv_at hl 0 rfl) ?_
  refine lv_bipush (pc := 43) (v := 16) hx hb dJ13_bitCount_95d88_43 (by decide) ?_
  refine lv_lushr (pc := 45) hx hb dJ13_bitCount_95d88_45 rfl ?_
  refine lv_ladd (pc := 46) hx hb dJ13_bitCount_95d88_46 ?_
  obtain ⟨v5, ev5, hf⟩ := bn_ob hf
  refine x_topl ev5 ?_
  refine lv_lstore_n (lv' := [(0, .long v5)]) (pc := 47) hx hb dJ13_bitCount_95d88_47 rfl hl (by decide) rfl (fun ls hl => ?_)
  refine lv_lload_n (pc := 48) hx hb dJ13_bitCount_95d88_48 rfl (lv_at hl 0 rfl) ?_
  refine lv_lload_n (pc := 49) hx hb dJ13_bitCount_95d88_49 rfl (lv_at hl 0 rfl) ?_
  refine lv_bipush (pc := 50) (v := 32) hx hb dJ13_bitCount_95d88_50 (by decide) ?_
  refine lv_lushr (pc := 52) hx hb dJ13_bitCount_95d88_52 rfl ?_
  refine lv_ladd (pc := 53) hx hb dJ13_bitCount_95d88_53 ?_
  obtain ⟨v6, ev6, hf⟩ := bn_ob hf
  refine x_topl ev6 ?_
  refine lv_lstore_n (lv' := [(0, .long v6)]) (pc := 54) hx hb dJ13_bitCount_95d88_54 rfl hl (by decide) rfl (fun ls hl => ?_)
  refine lv_lload_n (pc := 55) hx hb dJ13_bitCount_95d88_55 rfl (lv_at hl 0 rfl) ?_
  refine lv_l2i (pc := 56) hx hb dJ13_bitCount_95d88_56 rfl ?_
  refine lv_bipush (pc := 57) (v := 127) hx hb dJ13_bitCount_95d88_57 (by decide) ?_
  refine lv_iand (pc := 59) hx hb dJ13_bitCount_95d88_59 ?_
  cases hf
  exact hret _ _ 60 _ hw ⟨_, rfl, rfl⟩ dJ13_bitCount_95d88_60

abbrev rmJ7_fill_d0a16 : Room := { frames := 0, cells := 0, slots := 0, locals := 0 }
def B_J7_fill_d0a16_6 (n1 : Nat) (p2 : Int64) (v1 : Int32) (v2 : Int32) (g13 : Nat → Int64) : Option ((Int32 × (Nat → Int64)) ⊕ ((Nat → Int64))) :=
  if v1 ≤ v2 then
    some (.inr g13)
  else
  b1 (wrL n1 g13 v2 p2) fun f5 =>
  bn (v2 + 1) fun v6 =>
  some (.inl (v6, f5))
def L_J7_fill_d0a16_6 (n1 : Nat) (p2 : Int64) (v1 : Int32) (n : Nat) (v2 : Int32) (g13 : Nat → Int64) : Option ((Nat → Int64)) := loopF (fun x : Int32 × (Nat → Int64) => B_J7_fill_d0a16_6 n1 p2 v1 x.1 x.2) n (v2, g13)
def f_J7_fill_d0a16 (n1 : Nat) (g1 : Nat → Int64) (p2 : Int64) : Option ((Nat → Int64)) :=
  bn (Int32.ofNat n1) fun v1 =>
  b1 (L_J7_fill_d0a16_6 n1 p2 v1 FU 0 g1) fun g17 =>
  some g17
set_option maxHeartbeats 4000000 in
set_option maxRecDepth 100000 in
theorem c_J7_fill_d0a16 (l : Launch) (D : va_G) (cs : CS) (b1 : Nat) (n1 : Nat) (g1 : Nat → Int64) (p2 : Int64) (g1' : Nat → Int64) (hf : f_J7_fill_d0a16 n1 g1 p2 = some g1') : CT l D (TY cs) yJ7_fill_d0a16 wsJ7_fill_d0a16 rmJ7_fill_d0a16 [.ref b1, .long p2] ([(b1, .inl (cs.2.1, n1, .inr (.inl g1)))]) none ([(b1, .inl (cs.2.1, n1, .inr (.inl g1')))]) := by
  refine CT.ofW (own := RJ7) (cc := cJ7_fill_d0a16) (maxL := 5) (ret := none) (by decide) rfl rfl (Nat.le_of_ble_eq_true rfl) ?_
  intro p e s m args below meth c A Q X hret ls hl hw
  obtain ⟨hx, hb, hml, hown, hts, hK, hA, hr, hlk⟩ := id X
  have hl : lv_has ls 5 [(0, .ref b1), (1, .long p2)] := hl
  unfold f_J7_fill_d0a16 at hf
  refine lv_iconst (pc := 0) (v := 0) hx hb dJ7_fill_d0a16_0 (by decide) ?_
  refine lv_istore_n (lv' := [(3, .int 0), (0, .ref b1), (1, .long p2)]) (pc := 1) hx hb dJ7_fill_d0a16_1 rfl hl (by decide) rfl (fun ls hl => ?_)
  refine lv_aload_n (pc := 2) hx hb dJ7_fill_d0a16_2 rfl (lv_at hl 1 rfl) ?_
  refine x_alen (pc := 3) X hw 0 1 rfl rfl rfl dJ7_fill_d0a16_3 ?_
  obtain ⟨v1, ev1, hf⟩ := bn_ob hf
  refine x_topi ev1 ?_
  refine lv_istore (lv' := [(4, .int v1), (3, .int 0), (0, .ref b1), (1, .long p2)]) (pc := 4) hx hb dJ7_fill_d0a16_4 hl (by decide) rfl (fun ls hl => ?_)
  have L6 : ∀ (n : Nat) (v2 : Int32) (g13 : Nat → Int64) (rg13 : Nat → Int64), L_J7_fill_d0a16_6 n1 p2 v1 n v2 g13 = some rg13 → ∀ (H : Heap) (locs : List Loc) (ls : Array Slot), WD D A s ([(b1, .inl (cs.2.1, n1, .inr (.inl g13)))]) H locs → lv_has ls 5 [(0, .ref b1), (1, .long p2), (3, .int v2), (4, .int v1)] → (∀ (H : Heap) (locs : List Loc) (ls : Array Slot), WD D A s ([(b1, .inl (cs.2.1, n1, .inr (.inl rg13)))]) H locs → lv_has ls 5 [] → W p l e rmJ7_fill_d0a16 s m args below meth c H locs 0 0 Q (F0 m 22 ls [])) → W p l e rmJ7_fill_d0a16 s m args below meth c H locs 0 0 Q (F0 m 6 ls []) := by
    intro n
    induction n with
    | zero => intro v2 g13 rg13 hf; exact (loopF_z hf).elim
    | succ n ih =>
      intro v2 g13 rg13 hf H locs ls hw hl K
      obtain ⟨x, hf, hx0⟩ := loopF_ob hf
      have hf : B_J7_fill_d0a16_6 n1 p2 v1 v2 g13 = some x := hf
      unfold B_J7_fill_d0a16_6 at hf
      refine lv_iload_n (pc := 6) hx hb dJ7_fill_d0a16_6 rfl (lv_at hl 2 rfl) ?_
      refine lv_iload (pc := 7) hx hb dJ7_fill_d0a16_7 (lv_at hl 3 rfl) ?_
      refine lv_icmp_ge (pc := 9) (tgt := 22) hx hb dJ7_fill_d0a16_9 (by decide) (fun c4 => ?_) (fun c4 => ?_)
      · have hf := ipos c4 hf
        cases hf
        cases (hx0 : g13 = rg13)
        exact K _ _ _ hw (lv_sub hl [] rfl)
      · have hf := ineg c4 hf
        refine lv_aload_n (pc := 12) hx hb dJ7_fill_d0a16_12 rfl (lv_at hl 0 rfl) ?_
        refine lv_iload_n (pc := 13) hx hb dJ7_fill_d0a16_13 rfl (lv_at hl 2 rfl) ?_
        refine lv_lload_n (pc := 14) hx hb dJ7_fill_d0a16_14 rfl (lv_at hl 1 rfl) ?_
        obtain ⟨f5, ef5, hf⟩ := b1_ob hf
        refine x_last (pc := 15) X hw 0 1 rfl rfl (wrL_ob ef5).1 dJ7_fill_d0a16_15 (ws2 := [(b1, .inl (cs.2.1, n1, .inr (.inl f5)))]) (by rw [← (wrL_ob ef5).2]; rfl) (fun H locs hw => ?_)
        obtain ⟨v6, ev6, hf⟩ := bn_ob hf
        refine lv_iinc (pc := 16) (v := v6) (lv' := [(3, .int v6), (0, .ref b1), (1, .long p2), (4, .int v1)]) hx hb dJ7_fill_d0a16_16 hl (k := 2) rfl (by rw [ev6]; rfl) (by decide) rfl (fun ls hl => ?_)
        refine lv_goto (pc := 19) (tgt := 6) hx hb dJ7_fill_d0a16_19 (by decide) ?_
        cases hf
        exact ih v6 f5 rg13 hx0 _ _ _ hw (lv_sub hl [1, 2, 0, 3] rfl) K
  obtain ⟨g17, hj, hf⟩ := b1_ob hf
  refine L6 _ 0 g1 g17 hj _ _ _ hw (lv_sub hl [2, 3, 1, 0] rfl) (fun H locs ls hw hl => ?_)
  clear hj L6
  cases hf
  exact hret _ _ 22 _ hw rfl dJ7_fill_d0a16_22
