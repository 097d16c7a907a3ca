def AllSt (Rel : RelT) : Prop := St_write Rel ∧ St_erase Rel ∧ St_fault Rel ∧ St_program Rel ∧ St_draw Rel ∧ St_inputs Rel ∧ St_run Rel ∧ St_right Rel ∧ St_odds Rel ∧ St_worst Rel ∧ St_mean Rel ∧ St_seen Rel ∧ St_kept Rel ∧ St_good Rel ∧ St_together Rel ∧ St_again Rel ∧ St_cap Rel ∧ St_knots Rel ∧ St_edge Rel ∧ St_cord Rel ∧ St_measure Rel ∧ St_expect Rel ∧ St_byMeans Rel ∧ St_best Rel ∧ St_heap Rel ∧ St_made Rel ∧ St_of Rel ∧ St_even Rel ∧ St_error Rel ∧ St_least Rel ∧ St_walks Rel ∧ St_term Rel ∧ St_value Rel ∧ St_degree Rel ∧ St_same Rel ∧ St_pressed Rel ∧ St_mixed Rel ∧ St_count Rel
theorem in_sc {L i k : Nat} (hL : L ≤ 3072) (h : i + k < L) : vp_in (nI i + nI k) L := by
  rw [nI_add]
  exact nI_in h (by omega)
set_option maxHeartbeats 4000000 in
set_option maxRecDepth 100000 in
theorem law_loop {p : Program} {l : Launch} {e : Env} {s : State} {m : MethodId} {args : Array Value} {below : List Frame} {meth : Method} {c : Code} {D : va_G} {cs : CS} {A : Nat → Prop} {Q : State → Prop} {ad ar : Nat → Nat} {b L : Nat} {xs : Nat → Int32} {a am : Nat} {Rel : RelT} (X : FX D (TY cs) p s m args meth c cL_law 4 wsL_law RL A (some .boolean)) (hE : SE ad ar A s s.heap) (hXs : va_X b L xs s s.heap) (hbl : b < s.heap.size) (hbA : ¬ A b) (hL : L ≤ 3072) (hst : AllSt Rel) (K : ∀ (H : Heap) (locs : List Loc) (ls : Array Slot), LW Rel D A s cs a am H locs → lv_has ls 4 [(0, .ref b), (1, .ref a), (2, .ref am)] → W p l e room_1 s m args below meth c H locs 69 3778 Q (F0 m 1421 ls [])) : ∀ (n i : Nat) (H : Heap) (locs : List Loc) (ls : Array Slot), i ≤ 4000 → L < i + n → LW Rel D A s cs a am H locs → lv_has ls 4 [(0, .ref b), (1, .ref a), (2, .ref am), (3, .int (nI i))] → W p l e room_1 s m args below meth c H locs 69 3778 Q (F0 m 18 ls []) := by
  obtain ⟨hx, hb, hml, hown, hts, hK, hA, hr, hlk⟩ := id X
  obtain ⟨s0, s1, s2, s3, s4, s5, s6, s7, s8, s9, s10, s11, s12, s13, s14, s15, s16, s17, s18, s19, s20, s21, s22, s23, s24, s25, s26, s27, s28, s29, s30, s31, s32, s33, s34, s35, s36, s37⟩ := hst
  intro n
  induction n with
  | zero =>
    intro i H locs ls hi hn hw hl
    refine lv_iload_n (pc := 18) hx hb dL_law_18 rfl (lv_at hl 3 rfl) ?_
    refine lv_aload_n (pc := 19) hx hb dL_law_19 rfl (lv_at hl 0 rfl) ?_
    have hS : va_S A s.heap H locs := by obtain ⟨_, _, _, _, _, _, _, _, _, _, _, _, _, _, _, _, _, _, _, _, _, _, _, _, hw, _⟩ := hw; exact hw.2.2
    refine va_slen (pc := 20) hx hb hXs hbl hbA hS dL_law_20 ?_
    refine lv_bipush (pc := 21) (v := 6) hx hb dL_law_21 (by decide) ?_
    refine lv_isub (pc := 23) hx hb dL_law_23 ?_
    refine lv_icmp_gt (pc := 24) (tgt := 1421) hx hb dL_law_24 (by decide) (fun _ => K _ _ _ hw (lv_sub hl [0, 1, 2] rfl)) (fun c0 => ?_)
    exfalso
    apply c0
    rw [i_lt, nI_toInt (by omega)]
    have := pk_sub_toInt (a := L) (b := 6) (by omega) (by decide)
    change (Int32.ofNat L - 6).toInt = _ at this
    rw [this]
    omega
  | succ n ih =>
    intro i H locs ls hi hn hw hl
    refine lv_iload_n (pc := 18) hx hb dL_law_18 rfl (lv_at hl 3 rfl) ?_
    refine lv_aload_n (pc := 19) hx hb dL_law_19 rfl (lv_at hl 0 rfl) ?_
    have hS : va_S A s.heap H locs := by obtain ⟨_, _, _, _, _, _, _, _, _, _, _, _, _, _, _, _, _, _, _, _, _, _, _, _, hw, _⟩ := hw; exact hw.2.2
    refine va_slen (pc := 20) hx hb hXs hbl hbA hS dL_law_20 ?_
    refine lv_bipush (pc := 21) (v := 6) hx hb dL_law_21 (by decide) ?_
    refine lv_isub (pc := 23) hx hb dL_law_23 ?_
    refine lv_icmp_gt (pc := 24) (tgt := 1421) hx hb dL_law_24 (by decide) (fun _ => K _ _ _ hw (lv_sub hl [0, 1, 2] rfl)) (fun c0 => ?_)
    have hi6 : i + 6 ≤ L := by
      rw [i_lt, nI_toInt (by omega)] at c0
      have := pk_sub_toInt (a := L) (b := 6) (by omega) (by decide)
      change (Int32.ofNat L - 6).toInt = _ at this
      rw [this] at c0
      omega
    refine lv_aload_n (pc := 27) hx hb dL_law_27 rfl (lv_at hl 0 rfl) ?_
    refine lv_iload_n (pc := 28) hx hb dL_law_28 rfl (lv_at hl 3 rfl) ?_
    refine va_sld (pc := 29) hx hb hXs hbl hbA hS (nI_in (show i < L by omega) (by omega)) dL_law_29 ?_
    refine lv_bipush (pc := 30) (v := 63) hx hb dL_law_30 (by decide) ?_
    refine lv_iand (pc := 32) hx hb dL_law_32 ?_
    obtain ⟨v, hv, ev⟩ := pk_andE (xs (nI i).toNatClampNeg) (m := 63) 6 rfl
    rw [ev]
    have h1 : vp_in (nI i + 1) L := in_sc (k := 1) hL (by omega)
    have h2 : vp_in (nI i + 2) L := in_sc (k := 2) hL (by omega)
    have h3 : vp_in (nI i + 3) L := in_sc (k := 3) hL (by omega)
    have h4 : vp_in (nI i + 4) L := in_sc (k := 4) hL (by omega)
    have h5 : vp_in (nI i + 5) L := in_sc (k := 5) hL (by omega)
    have J : ∀ (H : Heap) (locs : List Loc) (ls : Array Slot), LW Rel D A s cs a am H locs → lv_has ls 4 [(0, .ref b), (1, .ref a), (2, .ref am), (3, .int (nI i))] → W p l e room_1 s m args below meth c H locs 69 3778 Q (F0 m 1415 ls []) := by
      intro H locs ls hw hl
      refine lv_iinc (pc := 1415) (v := nI (i + 6)) (lv' := [(3, .int (nI (i + 6))), (0, .ref b), (1, .ref a), (2, .ref am)]) hx hb dL_law_1415 hl (k := 3) rfl (nI_add i 6) (by decide) rfl (fun ls hl => ?_)
      refine lv_goto (pc := 1418) (tgt := 18) hx hb dL_law_1418 (by decide) ?_
      exact ih (i + 6) H locs ls (by omega) (by omega) hw (lv_sub hl [1, 2, 3, 0] rfl)
    by_cases hv2 : v < 38
    · have tI : ∀ (off : Int) (tgt : Nat), (#[167, 230, 243, 256, 269, 292, 325, 358, 391, 424, 447, 470, 503, 526, 549, 572, 605, 638, 661, 704, 727, 760, 813, 836, 859, 882, 905, 928, 951, 984, 1037, 1070, 1133, 1187, 1210, 1243, 1316, 1359] : Array Int)[v]? = some off → ((33 : Nat) : Int) + off = (tgt : Int) → W p l e room_1 s m args below meth c H locs 69 3778 Q (F0 m tgt ls []) → W p l e room_1 s m args below meth c H locs 69 3778 Q (F0 m 33 ls [.int (nI v)]) := fun off tgt ho ht k => lv_tableIn (pc := 33) (off := off) (tgt := tgt) hx hb dL_law_33 (by rw [nI_toInt (by omega)]; omega) (by rw [nI_toInt (by omega)]; omega) (by rw [nI_toInt (by omega)]; simpa using ho) ht k
      rcases Nat.lt_or_ge v 1 with hk | hk
      · obtain rfl : v = 0 := by omega
        exact tI 167 200 rfl (by decide) (lc_write X hE hXs hbl hbA hw hl h1 h2 h3 h4 h5 s0 J)
      rcases Nat.lt_or_ge v 2 with hk | hk
      · obtain rfl : v = 1 := by omega
        exact tI 230 263 rfl (by decide) (lc_erase X hE hXs hbl hbA hw hl h1 h2 h3 h4 h5 s1 J)
      rcases Nat.lt_or_ge v 3 with hk | hk
      · obtain rfl : v = 2 := by omega
        exact tI 243 276 rfl (by decide) (lc_fault X hE hXs hbl hbA hw hl h1 h2 h3 h4 h5 s2 J)
      rcases Nat.lt_or_ge v 4 with hk | hk
      · obtain rfl : v = 3 := by omega
        exact tI 256 289 rfl (by decide) (lc_program X hE hXs hbl hbA hw hl h1 h2 h3 h4 h5 s3 J)
      rcases Nat.lt_or_ge v 5 with hk | hk
      · obtain rfl : v = 4 := by omega
        exact tI 269 302 rfl (by decide) (lc_draw X hE hXs hbl hbA hw hl h1 h2 h3 h4 h5 s4 J)
      rcases Nat.lt_or_ge v 6 with hk | hk
      · obtain rfl : v = 5 := by omega
        exact tI 292 325 rfl (by decide) (lc_inputs X hE hXs hbl hbA hw hl h1 h2 h3 h4 h5 s5 J)
      rcases Nat.lt_or_ge v 7 with hk | hk
      · obtain rfl : v = 6 := by omega
        exact tI 325 358 rfl (by decide) (lc_run X hE hXs hbl hbA hw hl h1 h2 h3 h4 h5 s6 J)
      rcases Nat.lt_or_ge v 8 with hk | hk
      · obtain rfl : v = 7 := by omega
        exact tI 358 391 rfl (by decide) (lc_right X hE hXs hbl hbA hw hl h1 h2 h3 h4 h5 s7 J)
      rcases Nat.lt_or_ge v 9 with hk | hk
      · obtain rfl : v = 8 := by omega
        exact tI 391 424 rfl (by decide) (lc_odds X hE hXs hbl hbA hw hl h1 h2 h3 h4 h5 s8 J)
      rcases Nat.lt_or_ge v 10 with hk | hk
      · obtain rfl : v = 9 := by omega
        exact tI 424 457 rfl (by decide) (lc_worst X hE hXs hbl hbA hw hl h1 h2 h3 h4 h5 s9 J)
      rcases Nat.lt_or_ge v 11 with hk | hk
      · obtain rfl : v = 10 := by omega
        exact tI 447 480 rfl (by decide) (lc_mean X hE hXs hbl hbA hw hl h1 h2 h3 h4 h5 s10 J)
      rcases Nat.lt_or_ge v 12 with hk | hk
      · obtain rfl : v = 11 := by omega
        exact tI 470 503 rfl (by decide) (lc_seen X hE hXs hbl hbA hw hl h1 h2 h3 h4 h5 s11 J)
      rcases Nat.lt_or_ge v 13 with hk | hk
      · obtain rfl : v = 12 := by omega
        exact tI 503 536 rfl (by decide) (lc_kept X hE hXs hbl hbA hw hl h1 h2 h3 h4 h5 s12 J)
      rcases Nat.lt_or_ge v 14 with hk | hk
      · obtain rfl : v = 13 := by omega
        exact tI 526 559 rfl (by decide) (lc_good X hE hXs hbl hbA hw hl h1 h2 h3 h4 h5 s13 J)
      rcases Nat.lt_or_ge v 15 with hk | hk
      · obtain rfl : v = 14 := by omega
        exact tI 549 582 rfl (by decide) (lc_together X hE hXs hbl hbA hw hl h1 h2 h3 h4 h5 s14 J)
      rcases Nat.lt_or_ge v 16 with hk | hk
      · obtain rfl : v = 15 := by omega
        exact tI 572 605 rfl (by decide) (lc_again X hE hXs hbl hbA hw hl h1 h2 h3 h4 h5 s15 J)
      rcases Nat.lt_or_ge v 17 with hk | hk
      · obtain rfl : v = 16 := by omega
        exact tI 605 638 rfl (by decide) (lc_cap X hE hXs hbl hbA hw hl h1 h2 h3 h4 h5 s16 J)
      rcases Nat.lt_or_ge v 18 with hk | hk
      · obtain rfl : v = 17 := by omega
        exact tI 638 671 rfl (by decide) (lc_knots X hE hXs hbl hbA hw hl h1 h2 h3 h4 h5 s17 J)
      rcases Nat.lt_or_ge v 19 with hk | hk
      · obtain rfl : v = 18 := by omega
        exact tI 661 694 rfl (by decide) (lc_edge X hE hXs hbl hbA hw hl h1 h2 h3 h4 h5 s18 J)
      rcases Nat.lt_or_ge v 20 with hk | hk
      · obtain rfl : v = 19 := by omega
        exact tI 704 737 rfl (by decide) (lc_cord X hE hXs hbl hbA hw hl h1 h2 h3 h4 h5 s19 J)
      rcases Nat.lt_or_ge v 21 with hk | hk
      · obtain rfl : v = 20 := by omega
        exact tI 727 760 rfl (by decide) (lc_measure X hE hXs hbl hbA hw hl h1 h2 h3 h4 h5 s20 J)
      rcases Nat.lt_or_ge v 22 with hk | hk
      · obtain rfl : v = 21 := by omega
        exact tI 760 793 rfl (by decide) (lc_expect X hE hXs hbl hbA hw hl h1 h2 h3 h4 h5 s21 J)
      rcases Nat.lt_or_ge v 23 with hk | hk
      · obtain rfl : v = 22 := by omega
        exact tI 813 846 rfl (by decide) (lc_byMeans X hE hXs hbl hbA hw hl h1 h2 h3 h4 h5 s22 J)
      rcases Nat.lt_or_ge v 24 with hk | hk
      · obtain rfl : v = 23 := by omega
        exact tI 836 869 rfl (by decide) (lc_best X hE hXs hbl hbA hw hl h1 h2 h3 h4 h5 s23 J)
      rcases Nat.lt_or_ge v 25 with hk | hk
      · obtain rfl : v = 24 := by omega
        exact tI 859 892 rfl (by decide) (lc_heap X hE hXs hbl hbA hw hl h1 h2 h3 h4 h5 s24 J)
      rcases Nat.lt_or_ge v 26 with hk | hk
      · obtain rfl : v = 25 := by omega
        exact tI 882 915 rfl (by decide) (lc_made X hE hXs hbl hbA hw hl h1 h2 h3 h4 h5 s25 J)
      rcases Nat.lt_or_ge v 27 with hk | hk
      · obtain rfl : v = 26 := by omega
        exact tI 905 938 rfl (by decide) (lc_of X hE hXs hbl hbA hw hl h1 h2 h3 h4 h5 s26 J)
      rcases Nat.lt_or_ge v 28 with hk | hk
      · obtain rfl : v = 27 := by omega
        exact tI 928 961 rfl (by decide) (lc_even X hE hXs hbl hbA hw hl h1 h2 h3 h4 h5 s27 J)
      rcases Nat.lt_or_ge v 29 with hk | hk
      · obtain rfl : v = 28 := by omega
        exact tI 951 984 rfl (by decide) (lc_error X hE hXs hbl hbA hw hl h1 h2 h3 h4 h5 s28 J)
      rcases Nat.lt_or_ge v 30 with hk | hk
      · obtain rfl : v = 29 := by omega
        exact tI 984 1017 rfl (by decide) (lc_least X hE hXs hbl hbA hw hl h1 h2 h3 h4 h5 s29 J)
      rcases Nat.lt_or_ge v 31 with hk | hk
      · obtain rfl : v = 30 := by omega
        exact tI 1037 1070 rfl (by decide) (lc_walks X hE hXs hbl hbA hw hl h1 h2 h3 h4 h5 s30 J)
      rcases Nat.lt_or_ge v 32 with hk | hk
      · obtain rfl : v = 31 := by omega
        exact tI 1070 1103 rfl (by decide) (lc_term X hE hXs hbl hbA hw hl h1 h2 h3 h4 h5 s31 J)
      rcases Nat.lt_or_ge v 33 with hk | hk
      · obtain rfl : v = 32 := by omega
        exact tI 1133 1166 rfl (by decide) (lc_value X hE hXs hbl hbA hw hl h1 h2 h3 h4 h5 s32 J)
      rcases Nat.lt_or_ge v 34 with hk | hk
      · obtain rfl : v = 33 := by omega
        exact tI 1187 1220 rfl (by decide) (lc_degree X hE hXs hbl hbA hw hl h1 h2 h3 h4 h5 s33 J)
      rcases Nat.lt_or_ge v 35 with hk | hk
      · obtain rfl : v = 34 := by omega
        exact tI 1210 1243 rfl (by decide) (lc_same X hE hXs hbl hbA hw hl h1 h2 h3 h4 h5 s34 J)
      rcases Nat.lt_or_ge v 36 with hk | hk
      · obtain rfl : v = 35 := by omega
        exact tI 1243 1276 rfl (by decide) (lc_pressed X hE hXs hbl hbA hw hl h1 h2 h3 h4 h5 s35 J)
      rcases Nat.lt_or_ge v 37 with hk | hk
      · obtain rfl : v = 36 := by omega
        exact tI 1316 1349 rfl (by decide) (lc_mixed X hE hXs hbl hbA hw hl h1 h2 h3 h4 h5 s36 J)
      obtain rfl : v = 37 := by omega
      exact tI 1359 1392 rfl (by decide) (lc_count X hE hXs hbl hbA hw hl h1 h2 h3 h4 h5 s37 J)
    · refine lv_tableOut (pc := 33) (tgt := 1415) hx hb dL_law_33 (Or.inr (by rw [nI_toInt (by omega)]; omega)) (by decide) ?_
      exact J _ _ _ hw hl

