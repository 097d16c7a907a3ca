set_option maxHeartbeats 4000000 in
set_option maxRecDepth 100000 in
theorem lc_heap {p : Program} {l : Launch} {e : Env} {s : State} {m : MethodId} {args : Array Value} {below : List Frame} {meth : Method} {c : Code} {D : va_G} {cs : CS} {A : Nat → Prop} {Q : State → Prop} {ad ar : Nat → Nat} {b L : Nat} {xs : Nat → Int32} {a am : Nat} {Rel : RelT} (X : FX D (TY cs) p s m args meth c cL_law 4 wsL_law RL A (some .boolean)) (hE : SE ad ar A s s.heap) (hXs : va_X b L xs s s.heap) (hbl : b < s.heap.size) (hbA : ¬ A b) {H : Heap} {locs : List Loc} {ls : Array Slot} {i : Int32} (hLW : LW Rel D A s cs a am H locs) (hl : lv_has ls 4 [(0, .ref b), (1, .ref a), (2, .ref am), (3, .int i)]) (h1 : vp_in (i + 1) L) (h2 : vp_in (i + 2) L) (h3 : vp_in (i + 3) L) (h4 : vp_in (i + 4) L) (h5 : vp_in (i + 5) L) (hst : St_heap Rel) (K : ∀ (H : Heap) (locs : List Loc) (ls : Array Slot), LW Rel D A s cs a am H locs → lv_has ls 4 [(0, .ref b), (1, .ref a), (2, .ref am), (3, .int i)] → W p l e room_1 s m args below meth c H locs 69 3778 Q (F0 m 1415 ls [])) : W p l e room_1 s m args below meth c H locs 69 3778 Q (F0 m 892 ls []) := by
  obtain ⟨hx, hb, hml, hown, hts, hK, hA, hr, hlk⟩ := id X
  obtain ⟨q, qT, qP, qS, qDr, qV, qH, qSm, qF1, qF2, qPt, qM, T, R, P, S, Dr, V, Hp, Sm, F1, F2, Pt, M, hw, hrel⟩ := hLW
  obtain ⟨y1, ey1⟩ : ∃ y : Int32, y = xs (i + 1).toNatClampNeg := ⟨_, rfl⟩
  obtain ⟨y2, ey2⟩ : ∃ y : Int32, y = xs (i + 2).toNatClampNeg := ⟨_, rfl⟩
  obtain ⟨y3, ey3⟩ : ∃ y : Int32, y = xs (i + 3).toNatClampNeg := ⟨_, rfl⟩
  obtain ⟨y4, ey4⟩ : ∃ y : Int32, y = xs (i + 4).toNatClampNeg := ⟨_, rfl⟩
  obtain ⟨y5, ey5⟩ : ∃ y : Int32, y = xs (i + 5).toNatClampNeg := ⟨_, rfl⟩
  refine lv_aload_n (pc := 892) hx hb dL_law_892 rfl (lv_at hl 1 rfl) ?_
  refine lv_aload_n (pc := 893) hx hb dL_law_893 rfl (lv_at hl 0 rfl) ?_
  refine lv_iload_n (pc := 894) hx hb dL_law_894 rfl (lv_at hl 3 rfl) ?_
  refine lv_iconst (pc := 895) (v := 1) hx hb dL_law_895 (by decide) ?_
  refine lv_iadd (pc := 896) hx hb dL_law_896 ?_
  refine va_sld (pc := 897) hx hb hXs hbl hbA hw.2.2 h1 dL_law_897 ?_
  refine x_topi ey1 ?_
  obtain ⟨r, Hp', M', hf9, hf10, hrel2⟩ := hst _ _ _ _ _ _ _ _ _ _ _ _ hrel y1
  have hC : (wFull cs a q qT qP qS qDr qV qH qSm qF1 qF2 qPt T R P S Dr V Hp Sm F1 F2 Pt ++ wX10 cs am qM M).Perm ((wX9 cs a q ++ wX8 cs (q 4) qV V ++ wX0 cs (q 5) qH Hp) ++ (wX6 cs (q 0) qT T ++ wX3 cs (q 1) (fun _ => q 0) R ++ wX2 cs (qS 0) qP P ++ wX7 cs (q 2) qS S ++ wX2 cs (q 3) qDr Dr ++ wX4 cs (q 6) qSm Sm ++ wX5 cs (q 7) qF1 F1 ++ wX5 cs (q 8) qF2 F2 ++ wX1 cs (q 9) qPt Pt ++ wX10 cs am qM M)) := pw (bs := [wX9 cs a q, wX6 cs (q 0) qT T, wX3 cs (q 1) (fun _ => q 0) R, wX2 cs (qS 0) qP P, wX7 cs (q 2) qS S, wX2 cs (q 3) qDr Dr, wX8 cs (q 4) qV V, wX0 cs (q 5) qH Hp, wX4 cs (q 6) qSm Sm, wX5 cs (q 7) qF1 F1, wX5 cs (q 8) qF2 F2, wX1 cs (q 9) qPt Pt, wX10 cs am qM M]) [0, 6, 7] [1, 2, 3, 4, 5, 8, 9, 10, 11, 12] (show (_ ++ _ : List Nat).Perm (List.range 13) by decide)
  have hJ : ((wX6 cs (q 0) qT T ++ wX3 cs (q 1) (fun _ => q 0) R ++ wX2 cs (qS 0) qP P ++ wX7 cs (q 2) qS S ++ wX2 cs (q 3) qDr Dr ++ wX4 cs (q 6) qSm Sm ++ wX5 cs (q 7) qF1 F1 ++ wX5 cs (q 8) qF2 F2 ++ wX1 cs (q 9) qPt Pt ++ wX10 cs am qM M) ++ (wX9 cs a q ++ wX8 cs (q 4) qV V ++ wX0 cs (q 5) qH Hp')).Perm (wFull cs a q qT qP qS qDr qV qH qSm qF1 qF2 qPt T R P S Dr V Hp' Sm F1 F2 Pt ++ wX10 cs am qM M) := List.perm_append_comm.trans (pw (bs := [wX9 cs a q, wX6 cs (q 0) qT T, wX3 cs (q 1) (fun _ => q 0) R, wX2 cs (qS 0) qP P, wX7 cs (q 2) qS S, wX2 cs (q 3) qDr Dr, wX8 cs (q 4) qV V, wX0 cs (q 5) qH Hp', wX4 cs (q 6) qSm Sm, wX5 cs (q 7) qF1 F1, wX5 cs (q 8) qF2 F2, wX1 cs (q 9) qPt Pt, wX10 cs am qM M]) [0, 6, 7] [1, 2, 3, 4, 5, 8, 9, 10, 11, 12] (show (_ ++ _ : List Nat).Perm (List.range 13) by decide)).symm
  refine x_cutP (pc := 898) X hw hC hJ (va_runV (As := [.int y1]) (rest := []) ⟨hx, hb, hml, hown, hts⟩ (c_X9_heap l D cs a q qV qH V Hp y1 r Hp' hf9 _) (cwV 1 hts gL_law_X9_heap rfl rfl rfl (by decide +kernel) ⟨Nat.le_of_ble_eq_true rfl, Nat.le_of_ble_eq_true rfl⟩) ⟨CP_blind, va_recv hK (hw.perm hC).1 (ci := 9) (q0 := 0) rfl rfl, x_preP X hw hC [.ref a, .int y1]⟩ rfl rfl hl.1 rfl (lv_room (Nat.le_of_ble_eq_true rfl)) dL_law_898 ⟨Nat.le_of_ble_eq_true rfl, Nat.le_of_ble_eq_true rfl⟩) (fun H locs hw => ?_)
  refine lv_aload_n (pc := 901) hx hb dL_law_901 rfl (lv_at hl 2 rfl) ?_
  refine lv_aload_n (pc := 902) hx hb dL_law_902 rfl (lv_at hl 0 rfl) ?_
  refine lv_iload_n (pc := 903) hx hb dL_law_903 rfl (lv_at hl 3 rfl) ?_
  refine lv_iconst (pc := 904) (v := 1) hx hb dL_law_904 (by decide) ?_
  refine lv_iadd (pc := 905) hx hb dL_law_905 ?_
  refine va_sld (pc := 906) hx hb hXs hbl hbA hw.2.2 h1 dL_law_906 ?_
  refine x_topi ey1 ?_
  have hC : (wFull cs a q qT qP qS qDr qV qH qSm qF1 qF2 qPt T R P S Dr V Hp' Sm F1 F2 Pt ++ wX10 cs am qM M).Perm ((wX10 cs am qM M) ++ (wX9 cs a q ++ wX6 cs (q 0) qT T ++ wX3 cs (q 1) (fun _ => q 0) R ++ wX2 cs (qS 0) qP P ++ wX7 cs (q 2) qS S ++ wX2 cs (q 3) qDr Dr ++ wX8 cs (q 4) qV V ++ wX0 cs (q 5) qH Hp' ++ wX4 cs (q 6) qSm Sm ++ wX5 cs (q 7) qF1 F1 ++ wX5 cs (q 8) qF2 F2 ++ wX1 cs (q 9) qPt Pt)) := pw (bs := [wX9 cs a q, wX6 cs (q 0) qT T, wX3 cs (q 1) (fun _ => q 0) R, wX2 cs (qS 0) qP P, wX7 cs (q 2) qS S, wX2 cs (q 3) qDr Dr, wX8 cs (q 4) qV V, wX0 cs (q 5) qH Hp', wX4 cs (q 6) qSm Sm, wX5 cs (q 7) qF1 F1, wX5 cs (q 8) qF2 F2, wX1 cs (q 9) qPt Pt, wX10 cs am qM M]) [12] [0, 1, 2, 3, 4, 5, 6, 7, 8, 9, 10, 11] (show (_ ++ _ : List Nat).Perm (List.range 13) by decide)
  have hJ : ((wX9 cs a q ++ wX6 cs (q 0) qT T ++ wX3 cs (q 1) (fun _ => q 0) R ++ wX2 cs (qS 0) qP P ++ wX7 cs (q 2) qS S ++ wX2 cs (q 3) qDr Dr ++ wX8 cs (q 4) qV V ++ wX0 cs (q 5) qH Hp' ++ wX4 cs (q 6) qSm Sm ++ wX5 cs (q 7) qF1 F1 ++ wX5 cs (q 8) qF2 F2 ++ wX1 cs (q 9) qPt Pt) ++ (wX10 cs am qM M')).Perm (wFull cs a q qT qP qS qDr qV qH qSm qF1 qF2 qPt T R P S Dr V Hp' Sm F1 F2 Pt ++ wX10 cs am qM M') := List.perm_append_comm.trans (pw (bs := [wX9 cs a q, wX6 cs (q 0) qT T, wX3 cs (q 1) (fun _ => q 0) R, wX2 cs (qS 0) qP P, wX7 cs (q 2) qS S, wX2 cs (q 3) qDr Dr, wX8 cs (q 4) qV V, wX0 cs (q 5) qH Hp', wX4 cs (q 6) qSm Sm, wX5 cs (q 7) qF1 F1, wX5 cs (q 8) qF2 F2, wX1 cs (q 9) qPt Pt, wX10 cs am qM M']) [12] [0, 1, 2, 3, 4, 5, 6, 7, 8, 9, 10, 11] (show (_ ++ _ : List Nat).Perm (List.range 13) by decide)).symm
  refine x_cutP (pc := 907) X hw hC hJ (va_runV (As := [.int y1]) (rest := [.int r]) ⟨hx, hb, hml, hown, hts⟩ (c_X10_heap l D cs am qM M y1 r M' hf10 _) (cwV 1 hts gL_law_X10_heap rfl rfl rfl (by decide +kernel) ⟨Nat.le_of_ble_eq_true rfl, Nat.le_of_ble_eq_true rfl⟩) ⟨CP_blind, va_recv hK (hw.perm hC).1 (ci := 10) (q0 := 0) rfl rfl, x_preP X hw hC [.ref am, .int y1]⟩ rfl rfl hl.1 rfl (lv_room (Nat.le_of_ble_eq_true rfl)) dL_law_907 ⟨Nat.le_of_ble_eq_true rfl, Nat.le_of_ble_eq_true rfl⟩) (fun H locs hw => ?_)
  refine lv_icmp_eq (pc := 910) (tgt := 1415) hx hb dL_law_910 (by decide) (fun _ => ?_) (fun c0 => absurd rfl c0)
  exact K _ _ _ ⟨q, qT, qP, qS, qDr, qV, qH, qSm, qF1, qF2, qPt, qM, T, R, P, S, Dr, V, Hp', Sm, F1, F2, Pt, M', hw, hrel2⟩ hl

set_option maxHeartbeats 4000000 in
set_option maxRecDepth 100000 in
theorem lc_made {p : Program} {l : Launch} {e : Env} {s : State} {m : MethodId} {args : Array Value} {below : List Frame} {meth : Method} {c : Code} {D : va_G} {cs : CS} {A : Nat → Prop} {Q : State → Prop} {ad ar : Nat → Nat} {b L : Nat} {xs : Nat → Int32} {a am : Nat} {Rel : RelT} (X : FX D (TY cs) p s m args meth c cL_law 4 wsL_law RL A (some .boolean)) (hE : SE ad ar A s s.heap) (hXs : va_X b L xs s s.heap) (hbl : b < s.heap.size) (hbA : ¬ A b) {H : Heap} {locs : List Loc} {ls : Array Slot} {i : Int32} (hLW : LW Rel D A s cs a am H locs) (hl : lv_has ls 4 [(0, .ref b), (1, .ref a), (2, .ref am), (3, .int i)]) (h1 : vp_in (i + 1) L) (h2 : vp_in (i + 2) L) (h3 : vp_in (i + 3) L) (h4 : vp_in (i + 4) L) (h5 : vp_in (i + 5) L) (hst : St_made Rel) (K : ∀ (H : Heap) (locs : List Loc) (ls : Array Slot), LW Rel D A s cs a am H locs → lv_has ls 4 [(0, .ref b), (1, .ref a), (2, .ref am), (3, .int i)] → W p l e room_1 s m args below meth c H locs 69 3778 Q (F0 m 1415 ls [])) : W p l e room_1 s m args below meth c H locs 69 3778 Q (F0 m 915 ls []) := by
  obtain ⟨hx, hb, hml, hown, hts, hK, hA, hr, hlk⟩ := id X
  obtain ⟨q, qT, qP, qS, qDr, qV, qH, qSm, qF1, qF2, qPt, qM, T, R, P, S, Dr, V, Hp, Sm, F1, F2, Pt, M, hw, hrel⟩ := hLW
  obtain ⟨y1, ey1⟩ : ∃ y : Int32, y = xs (i + 1).toNatClampNeg := ⟨_, rfl⟩
  obtain ⟨y2, ey2⟩ : ∃ y : Int32, y = xs (i + 2).toNatClampNeg := ⟨_, rfl⟩
  obtain ⟨y3, ey3⟩ : ∃ y : Int32, y = xs (i + 3).toNatClampNeg := ⟨_, rfl⟩
  obtain ⟨y4, ey4⟩ : ∃ y : Int32, y = xs (i + 4).toNatClampNeg := ⟨_, rfl⟩
  obtain ⟨y5, ey5⟩ : ∃ y : Int32, y = xs (i + 5).toNatClampNeg := ⟨_, rfl⟩
  refine lv_aload_n (pc := 915) hx hb dL_law_915 rfl (lv_at hl 1 rfl) ?_
  refine lv_aload_n (pc := 916) hx hb dL_law_916 rfl (lv_at hl 0 rfl) ?_
  refine lv_iload_n (pc := 917) hx hb dL_law_917 rfl (lv_at hl 3 rfl) ?_
  refine lv_iconst (pc := 918) (v := 1) hx hb dL_law_918 (by decide) ?_
  refine lv_iadd (pc := 919) hx hb dL_law_919 ?_
  refine va_sld (pc := 920) hx hb hXs hbl hbA hw.2.2 h1 dL_law_920 ?_
  refine x_topi ey1 ?_
  obtain ⟨r, Hp', M', hf9, hf10, hrel2⟩ := hst _ _ _ _ _ _ _ _ _ _ _ _ hrel y1
  have hC : (wFull cs a q qT qP qS qDr qV qH qSm qF1 qF2 qPt T R P S Dr V Hp Sm F1 F2 Pt ++ wX10 cs am qM M).Perm ((wX9 cs a q ++ wX8 cs (q 4) qV V ++ wX0 cs (q 5) qH Hp) ++ (wX6 cs (q 0) qT T ++ wX3 cs (q 1) (fun _ => q 0) R ++ wX2 cs (qS 0) qP P ++ wX7 cs (q 2) qS S ++ wX2 cs (q 3) qDr Dr ++ wX4 cs (q 6) qSm Sm ++ wX5 cs (q 7) qF1 F1 ++ wX5 cs (q 8) qF2 F2 ++ wX1 cs (q 9) qPt Pt ++ wX10 cs am qM M)) := pw (bs := [wX9 cs a q, wX6 cs (q 0) qT T, wX3 cs (q 1) (fun _ => q 0) R, wX2 cs (qS 0) qP P, wX7 cs (q 2) qS S, wX2 cs (q 3) qDr Dr, wX8 cs (q 4) qV V, wX0 cs (q 5) qH Hp, wX4 cs (q 6) qSm Sm, wX5 cs (q 7) qF1 F1, wX5 cs (q 8) qF2 F2, wX1 cs (q 9) qPt Pt, wX10 cs am qM M]) [0, 6, 7] [1, 2, 3, 4, 5, 8, 9, 10, 11, 12] (show (_ ++ _ : List Nat).Perm (List.range 13) by decide)
  have hJ : ((wX6 cs (q 0) qT T ++ wX3 cs (q 1) (fun _ => q 0) R ++ wX2 cs (qS 0) qP P ++ wX7 cs (q 2) qS S ++ wX2 cs (q 3) qDr Dr ++ wX4 cs (q 6) qSm Sm ++ wX5 cs (q 7) qF1 F1 ++ wX5 cs (q 8) qF2 F2 ++ wX1 cs (q 9) qPt Pt ++ wX10 cs am qM M) ++ (wX9 cs a q ++ wX8 cs (q 4) qV V ++ wX0 cs (q 5) qH Hp')).Perm (wFull cs a q qT qP qS qDr qV qH qSm qF1 qF2 qPt T R P S Dr V Hp' Sm F1 F2 Pt ++ wX10 cs am qM M) := List.perm_append_comm.trans (pw (bs := [wX9 cs a q, wX6 cs (q 0) qT T, wX3 cs (q 1) (fun _ => q 0) R, wX2 cs (qS 0) qP P, wX7 cs (q 2) qS S, wX2 cs (q 3) qDr Dr, wX8 cs (q 4) qV V, wX0 cs (q 5) qH Hp', wX4 cs (q 6) qSm Sm, wX5 cs (q 7) qF1 F1, wX5 cs (q 8) qF2 F2, wX1 cs (q 9) qPt Pt, wX10 cs am qM M]) [0, 6, 7] [1, 2, 3, 4, 5, 8, 9, 10, 11, 12] (show (_ ++ _ : List Nat).Perm (List.range 13) by decide)).symm
  refine x_cutP (pc := 921) X hw hC hJ (va_runV (As := [.int y1]) (rest := []) ⟨hx, hb, hml, hown, hts⟩ (c_X9_made l D cs a q qV qH V Hp y1 r Hp' hf9 _) (cwV 1 hts gL_law_X9_made rfl rfl rfl (by decide +kernel) ⟨Nat.le_of_ble_eq_true rfl, Nat.le_of_ble_eq_true rfl⟩) ⟨CP_blind, va_recv hK (hw.perm hC).1 (ci := 9) (q0 := 0) rfl rfl, x_preP X hw hC [.ref a, .int y1]⟩ rfl rfl hl.1 rfl (lv_room (Nat.le_of_ble_eq_true rfl)) dL_law_921 ⟨Nat.le_of_ble_eq_true rfl, Nat.le_of_ble_eq_true rfl⟩) (fun H locs hw => ?_)
  refine lv_aload_n (pc := 924) hx hb dL_law_924 rfl (lv_at hl 2 rfl) ?_
  refine lv_aload_n (pc := 925) hx hb dL_law_925 rfl (lv_at hl 0 rfl) ?_
  refine lv_iload_n (pc := 926) hx hb dL_law_926 rfl (lv_at hl 3 rfl) ?_
  refine lv_iconst (pc := 927) (v := 1) hx hb dL_law_927 (by decide) ?_
  refine lv_iadd (pc := 928) hx hb dL_law_928 ?_
  refine va_sld (pc := 929) hx hb hXs hbl hbA hw.2.2 h1 dL_law_929 ?_
  refine x_topi ey1 ?_
  have hC : (wFull cs a q qT qP qS qDr qV qH qSm qF1 qF2 qPt T R P S Dr V Hp' Sm F1 F2 Pt ++ wX10 cs am qM M).Perm ((wX10 cs am qM M) ++ (wX9 cs a q ++ wX6 cs (q 0) qT T ++ wX3 cs (q 1) (fun _ => q 0) R ++ wX2 cs (qS 0) qP P ++ wX7 cs (q 2) qS S ++ wX2 cs (q 3) qDr Dr ++ wX8 cs (q 4) qV V ++ wX0 cs (q 5) qH Hp' ++ wX4 cs (q 6) qSm Sm ++ wX5 cs (q 7) qF1 F1 ++ wX5 cs (q 8) qF2 F2 ++ wX1 cs (q 9) qPt Pt)) := pw (bs := [wX9 cs a q, wX6 cs (q 0) qT T, wX3 cs (q 1) (fun _ => q 0) R, wX2 cs (qS 0) qP P, wX7 cs (q 2) qS S, wX2 cs (q 3) qDr Dr, wX8 cs (q 4) qV V, wX0 cs (q 5) qH Hp', wX4 cs (q 6) qSm Sm, wX5 cs (q 7) qF1 F1, wX5 cs (q 8) qF2 F2, wX1 cs (q 9) qPt Pt, wX10 cs am qM M]) [12] [0, 1, 2, 3, 4, 5, 6, 7, 8, 9, 10, 11] (show (_ ++ _ : List Nat).Perm (List.range 13) by decide)
  have hJ : ((wX9 cs a q ++ wX6 cs (q 0) qT T ++ wX3 cs (q 1) (fun _ => q 0) R ++ wX2 cs (qS 0) qP P ++ wX7 cs (q 2) qS S ++ wX2 cs (q 3) qDr Dr ++ wX8 cs (q 4) qV V ++ wX0 cs (q 5) qH Hp' ++ wX4 cs (q 6) qSm Sm ++ wX5 cs (q 7) qF1 F1 ++ wX5 cs (q 8) qF2 F2 ++ wX1 cs (q 9) qPt Pt) ++ (wX10 cs am qM M')).Perm (wFull cs a q qT qP qS qDr qV qH qSm qF1 qF2 qPt T R P S Dr V Hp' Sm F1 F2 Pt ++ wX10 cs am qM M') := List.perm_append_comm.trans (pw (bs := [wX9 cs a q, wX6 cs (q 0) qT T, wX3 cs (q 1) (fun _ => q 0) R, wX2 cs (qS 0) qP P, wX7 cs (q 2) qS S, wX2 cs (q 3) qDr Dr, wX8 cs (q 4) qV V, wX0 cs (q 5) qH Hp', wX4 cs (q 6) qSm Sm, wX5 cs (q 7) qF1 F1, wX5 cs (q 8) qF2 F2, wX1 cs (q 9) qPt Pt, wX10 cs am qM M']) [12] [0, 1, 2, 3, 4, 5, 6, 7, 8, 9, 10, 11] (show (_ ++ _ : List Nat).Perm (List.range 13) by decide)).symm
  refine x_cutP (pc := 930) X hw hC hJ (va_runV (As := [.int y1]) (rest := [.int r]) ⟨hx, hb, hml, hown, hts⟩ (c_X10_made l D cs am qM M y1 r M' hf10 _) (cwV 1 hts gL_law_X10_made rfl rfl rfl (by decide +kernel) ⟨Nat.le_of_ble_eq_true rfl, Nat.le_of_ble_eq_true rfl⟩) ⟨CP_blind, va_recv hK (hw.perm hC).1 (ci := 10) (q0 := 0) rfl rfl, x_preP X hw hC [.ref am, .int y1]⟩ rfl rfl hl.1 rfl (lv_room (Nat.le_of_ble_eq_true rfl)) dL_law_930 ⟨Nat.le_of_ble_eq_true rfl, Nat.le_of_ble_eq_true rfl⟩) (fun H locs hw => ?_)
  refine lv_icmp_eq (pc := 933) (tgt := 1415) hx hb dL_law_933 (by decide) (fun _ => ?_) (fun c0 => absurd rfl c0)
  exact K _ _ _ ⟨q, qT, qP, qS, qDr, qV, qH, qSm, qF1, qF2, qPt, qM, T, R, P, S, Dr, V, Hp', Sm, F1, F2, Pt, M', hw, hrel2⟩ hl

set_option maxHeartbeats 4000000 in
set_option maxRecDepth 100000 in
theorem lc_of {p : Program} {l : Launch} {e : Env} {s : State} {m : MethodId} {args : Array Value} {below : List Frame} {meth : Method} {c : Code} {D : va_G} {cs : CS} {A : Nat → Prop} {Q : State → Prop} {ad ar : Nat → Nat} {b L : Nat} {xs : Nat → Int32} {a am : Nat} {Rel : RelT} (X : FX D (TY cs) p s m args meth c cL_law 4 wsL_law RL A (some .boolean)) (hE : SE ad ar A s s.heap) (hXs : va_X b L xs s s.heap) (hbl : b < s.heap.size) (hbA : ¬ A b) {H : Heap} {locs : List Loc} {ls : Array Slot} {i : Int32} (hLW : LW Rel D A s cs a am H locs) (hl : lv_has ls 4 [(0, .ref b), (1, .ref a), (2, .ref am), (3, .int i)]) (h1 : vp_in (i + 1) L) (h2 : vp_in (i + 2) L) (h3 : vp_in (i + 3) L) (h4 : vp_in (i + 4) L) (h5 : vp_in (i + 5) L) (hst : St_of Rel) (K : ∀ (H : Heap) (locs : List Loc) (ls : Array Slot), LW Rel D A s cs a am H locs → lv_has ls 4 [(0, .ref b), (1, .ref a), (2, .ref am), (3, .int i)] → W p l e room_1 s m args below meth c H locs 69 3778 Q (F0 m 1415 ls [])) : W p l e room_1 s m args below meth c H locs 69 3778 Q (F0 m 938 ls []) := by
  obtain ⟨hx, hb, hml, hown, hts, hK, hA, hr, hlk⟩ := id X
  obtain ⟨q, qT, qP, qS, qDr, qV, qH, qSm, qF1, qF2, qPt, qM, T, R, P, S, Dr, V, Hp, Sm, F1, F2, Pt, M, hw, hrel⟩ := hLW
  obtain ⟨y1, ey1⟩ : ∃ y : Int32, y = xs (i + 1).toNatClampNeg := ⟨_, rfl⟩
  obtain ⟨y2, ey2⟩ : ∃ y : Int32, y = xs (i + 2).toNatClampNeg := ⟨_, rfl⟩
  obtain ⟨y3, ey3⟩ : ∃ y : Int32, y = xs (i + 3).toNatClampNeg := ⟨_, rfl⟩
  obtain ⟨y4, ey4⟩ : ∃ y : Int32, y = xs (i + 4).toNatClampNeg := ⟨_, rfl⟩
  obtain ⟨y5, ey5⟩ : ∃ y : Int32, y = xs (i + 5).toNatClampNeg := ⟨_, rfl⟩
  refine lv_aload_n (pc := 938) hx hb dL_law_938 rfl (lv_at hl 1 rfl) ?_
  refine lv_aload_n (pc := 939) hx hb dL_law_939 rfl (lv_at hl 0 rfl) ?_
  refine lv_iload_n (pc := 940) hx hb dL_law_940 rfl (lv_at hl 3 rfl) ?_
  refine lv_iconst (pc := 941) (v := 1) hx hb dL_law_941 (by decide) ?_
  refine lv_iadd (pc := 942) hx hb dL_law_942 ?_
  refine va_sld (pc := 943) hx hb hXs hbl hbA hw.2.2 h1 dL_law_943 ?_
  refine x_topi ey1 ?_
  obtain ⟨r, hf9, hf10, hrel2⟩ := hst _ _ _ _ _ _ _ _ _ _ _ _ hrel y1
  have hC : (wFull cs a q qT qP qS qDr qV qH qSm qF1 qF2 qPt T R P S Dr V Hp Sm F1 F2 Pt ++ wX10 cs am qM M).Perm ((wX9 cs a q ++ wX8 cs (q 4) qV V ++ wX0 cs (q 5) qH Hp) ++ (wX6 cs (q 0) qT T ++ wX3 cs (q 1) (fun _ => q 0) R ++ wX2 cs (qS 0) qP P ++ wX7 cs (q 2) qS S ++ wX2 cs (q 3) qDr Dr ++ wX4 cs (q 6) qSm Sm ++ wX5 cs (q 7) qF1 F1 ++ wX5 cs (q 8) qF2 F2 ++ wX1 cs (q 9) qPt Pt ++ wX10 cs am qM M)) := pw (bs := [wX9 cs a q, wX6 cs (q 0) qT T, wX3 cs (q 1) (fun _ => q 0) R, wX2 cs (qS 0) qP P, wX7 cs (q 2) qS S, wX2 cs (q 3) qDr Dr, wX8 cs (q 4) qV V, wX0 cs (q 5) qH Hp, wX4 cs (q 6) qSm Sm, wX5 cs (q 7) qF1 F1, wX5 cs (q 8) qF2 F2, wX1 cs (q 9) qPt Pt, wX10 cs am qM M]) [0, 6, 7] [1, 2, 3, 4, 5, 8, 9, 10, 11, 12] (show (_ ++ _ : List Nat).Perm (List.range 13) by decide)
  have hJ : ((wX6 cs (q 0) qT T ++ wX3 cs (q 1) (fun _ => q 0) R ++ wX2 cs (qS 0) qP P ++ wX7 cs (q 2) qS S ++ wX2 cs (q 3) qDr Dr ++ wX4 cs (q 6) qSm Sm ++ wX5 cs (q 7) qF1 F1 ++ wX5 cs (q 8) qF2 F2 ++ wX1 cs (q 9) qPt Pt ++ wX10 cs am qM M) ++ (wX9 cs a q ++ wX8 cs (q 4) qV V ++ wX0 cs (q 5) qH Hp)).Perm (wFull cs a q qT qP qS qDr qV qH qSm qF1 qF2 qPt T R P S Dr V Hp Sm F1 F2 Pt ++ wX10 cs am qM M) := List.perm_append_comm.trans (pw (bs := [wX9 cs a q, wX6 cs (q 0) qT T, wX3 cs (q 1) (fun _ => q 0) R, wX2 cs (qS 0) qP P, wX7 cs (q 2) qS S, wX2 cs (q 3) qDr Dr, wX8 cs (q 4) qV V, wX0 cs (q 5) qH Hp, wX4 cs (q 6) qSm Sm, wX5 cs (q 7) qF1 F1, wX5 cs (q 8) qF2 F2, wX1 cs (q 9) qPt Pt, wX10 cs am qM M]) [0, 6, 7] [1, 2, 3, 4, 5, 8, 9, 10, 11, 12] (show (_ ++ _ : List Nat).Perm (List.range 13) by decide)).symm
  refine x_cutP (pc := 944) X hw hC hJ (va_runV (As := [.int y1]) (rest := []) ⟨hx, hb, hml, hown, hts⟩ (c_X9_of l D cs a q qV qH V Hp y1 r hf9 _) (cwV 1 hts gL_law_X9_of rfl rfl rfl (by decide +kernel) ⟨Nat.le_of_ble_eq_true rfl, Nat.le_of_ble_eq_true rfl⟩) ⟨CP_blind, va_recv hK (hw.perm hC).1 (ci := 9) (q0 := 0) rfl rfl, x_preP X hw hC [.ref a, .int y1]⟩ rfl rfl hl.1 rfl (lv_room (Nat.le_of_ble_eq_true rfl)) dL_law_944 ⟨Nat.le_of_ble_eq_true rfl, Nat.le_of_ble_eq_true rfl⟩) (fun H locs hw => ?_)
  refine lv_aload_n (pc := 947) hx hb dL_law_947 rfl (lv_at hl 2 rfl) ?_
  refine lv_aload_n (pc := 948) hx hb dL_law_948 rfl (lv_at hl 0 rfl) ?_
  refine lv_iload_n (pc := 949) hx hb dL_law_949 rfl (lv_at hl 3 rfl) ?_
  refine lv_iconst (pc := 950) (v := 1) hx hb dL_law_950 (by decide) ?_
  refine lv_iadd (pc := 951) hx hb dL_law_951 ?_
  refine va_sld (pc := 952) hx hb hXs hbl hbA hw.2.2 h1 dL_law_952 ?_
  refine x_topi ey1 ?_
  have hC : (wFull cs a q qT qP qS qDr qV qH qSm qF1 qF2 qPt T R P S Dr V Hp Sm F1 F2 Pt ++ wX10 cs am qM M).Perm ((wX10 cs am qM M) ++ (wX9 cs a q ++ wX6 cs (q 0) qT T ++ wX3 cs (q 1) (fun _ => q 0) R ++ wX2 cs (qS 0) qP P ++ wX7 cs (q 2) qS S ++ wX2 cs (q 3) qDr Dr ++ wX8 cs (q 4) qV V ++ wX0 cs (q 5) qH Hp ++ wX4 cs (q 6) qSm Sm ++ wX5 cs (q 7) qF1 F1 ++ wX5 cs (q 8) qF2 F2 ++ wX1 cs (q 9) qPt Pt)) := pw (bs := [wX9 cs a q, wX6 cs (q 0) qT T, wX3 cs (q 1) (fun _ => q 0) R, wX2 cs (qS 0) qP P, wX7 cs (q 2) qS S, wX2 cs (q 3) qDr Dr, wX8 cs (q 4) qV V, wX0 cs (q 5) qH Hp, wX4 cs (q 6) qSm Sm, wX5 cs (q 7) qF1 F1, wX5 cs (q 8) qF2 F2, wX1 cs (q 9) qPt Pt, wX10 cs am qM M]) [12] [0, 1, 2, 3, 4, 5, 6, 7, 8, 9, 10, 11] (show (_ ++ _ : List Nat).Perm (List.range 13) by decide)
  have hJ : ((wX9 cs a q ++ wX6 cs (q 0) qT T ++ wX3 cs (q 1) (fun _ => q 0) R ++ wX2 cs (qS 0) qP P ++ wX7 cs (q 2) qS S ++ wX2 cs (q 3) qDr Dr ++ wX8 cs (q 4) qV V ++ wX0 cs (q 5) qH Hp ++ wX4 cs (q 6) qSm Sm ++ wX5 cs (q 7) qF1 F1 ++ wX5 cs (q 8) qF2 F2 ++ wX1 cs (q 9) qPt Pt) ++ (wX10 cs am qM M)).Perm (wFull cs a q qT qP qS qDr qV qH qSm qF1 qF2 qPt T R P S Dr V Hp Sm F1 F2 Pt ++ wX10 cs am qM M) := List.perm_append_comm.trans (pw (bs := [wX9 cs a q, wX6 cs (q 0) qT T, wX3 cs (q 1) (fun _ => q 0) R, wX2 cs (qS 0) qP P, wX7 cs (q 2) qS S, wX2 cs (q 3) qDr Dr, wX8 cs (q 4) qV V, wX0 cs (q 5) qH Hp, wX4 cs (q 6) qSm Sm, wX5 cs (q 7) qF1 F1, wX5 cs (q 8) qF2 F2, wX1 cs (q 9) qPt Pt, wX10 cs am qM M]) [12] [0, 1, 2, 3, 4, 5, 6, 7, 8, 9, 10, 11] (show (_ ++ _ : List Nat).Perm (List.range 13) by decide)).symm
  refine x_cutP (pc := 953) X hw hC hJ (va_runV (As := [.int y1]) (rest := [.int r]) ⟨hx, hb, hml, hown, hts⟩ (c_X10_of l D cs am qM M y1 r hf10 _) (cwV 1 hts gL_law_X10_of rfl rfl rfl (by decide +kernel) ⟨Nat.le_of_ble_eq_true rfl, Nat.le_of_ble_eq_true rfl⟩) ⟨CP_blind, va_recv hK (hw.perm hC).1 (ci := 10) (q0 := 0) rfl rfl, x_preP X hw hC [.ref am, .int y1]⟩ rfl rfl hl.1 rfl (lv_room (Nat.le_of_ble_eq_true rfl)) dL_law_953 ⟨Nat.le_of_ble_eq_true rfl, Nat.le_of_ble_eq_true rfl⟩) (fun H locs hw => ?_)
  refine lv_icmp_eq (pc := 956) (tgt := 1415) hx hb dL_law_956 (by decide) (fun _ => ?_) (fun c0 => absurd rfl c0)
  exact K _ _ _ ⟨q, qT, qP, qS, qDr, qV, qH, qSm, qF1, qF2, qPt, qM, T, R, P, S, Dr, V, Hp, Sm, F1, F2, Pt, M, hw, hrel2⟩ hl

set_option maxHeartbeats 4000000 in
set_option maxRecDepth 100000 in
theorem lc_even {p : Program} {l : Launch} {e : Env} {s : State} {m : MethodId} {args : Array Value} {below : List Frame} {meth : Method} {c : Code} {D : va_G} {cs : CS} {A : Nat → Prop} {Q : State → Prop} {ad ar : Nat → Nat} {b L : Nat} {xs : Nat → Int32} {a am : Nat} {Rel : RelT} (X : FX D (TY cs) p s m args meth c cL_law 4 wsL_law RL A (some .boolean)) (hE : SE ad ar A s s.heap) (hXs : va_X b L xs s s.heap) (hbl : b < s.heap.size) (hbA : ¬ A b) {H : Heap} {locs : List Loc} {ls : Array Slot} {i : Int32} (hLW : LW Rel D A s cs a am H locs) (hl : lv_has ls 4 [(0, .ref b), (1, .ref a), (2, .ref am), (3, .int i)]) (h1 : vp_in (i + 1) L) (h2 : vp_in (i + 2) L) (h3 : vp_in (i + 3) L) (h4 : vp_in (i + 4) L) (h5 : vp_in (i + 5) L) (hst : St_even Rel) (K : ∀ (H : Heap) (locs : List Loc) (ls : Array Slot), LW Rel D A s cs a am H locs → lv_has ls 4 [(0, .ref b), (1, .ref a), (2, .ref am), (3, .int i)] → W p l e room_1 s m args below meth c H locs 69 3778 Q (F0 m 1415 ls [])) : W p l e room_1 s m args below meth c H locs 69 3778 Q (F0 m 961 ls []) := by
  obtain ⟨hx, hb, hml, hown, hts, hK, hA, hr, hlk⟩ := id X
  obtain ⟨q, qT, qP, qS, qDr, qV, qH, qSm, qF1, qF2, qPt, qM, T, R, P, S, Dr, V, Hp, Sm, F1, F2, Pt, M, hw, hrel⟩ := hLW
  obtain ⟨y1, ey1⟩ : ∃ y : Int32, y = xs (i + 1).toNatClampNeg := ⟨_, rfl⟩
  obtain ⟨y2, ey2⟩ : ∃ y : Int32, y = xs (i + 2).toNatClampNeg := ⟨_, rfl⟩
  obtain ⟨y3, ey3⟩ : ∃ y : Int32, y = xs (i + 3).toNatClampNeg := ⟨_, rfl⟩
  obtain ⟨y4, ey4⟩ : ∃ y : Int32, y = xs (i + 4).toNatClampNeg := ⟨_, rfl⟩
  obtain ⟨y5, ey5⟩ : ∃ y : Int32, y = xs (i + 5).toNatClampNeg := ⟨_, rfl⟩
  refine lv_aload_n (pc := 961) hx hb dL_law_961 rfl (lv_at hl 1 rfl) ?_
  refine lv_aload_n (pc := 962) hx hb dL_law_962 rfl (lv_at hl 0 rfl) ?_
  refine lv_iload_n (pc := 963) hx hb dL_law_963 rfl (lv_at hl 3 rfl) ?_
  refine lv_iconst (pc := 964) (v := 1) hx hb dL_law_964 (by decide) ?_
  refine lv_iadd (pc := 965) hx hb dL_law_965 ?_
  refine va_sld (pc := 966) hx hb hXs hbl hbA hw.2.2 h1 dL_law_966 ?_
  refine x_topi ey1 ?_
  obtain ⟨r, hf9, hf10, hrel2⟩ := hst _ _ _ _ _ _ _ _ _ _ _ _ hrel y1
  have hC : (wFull cs a q qT qP qS qDr qV qH qSm qF1 qF2 qPt T R P S Dr V Hp Sm F1 F2 Pt ++ wX10 cs am qM M).Perm ((wX9 cs a q ++ wX8 cs (q 4) qV V ++ wX0 cs (q 5) qH Hp) ++ (wX6 cs (q 0) qT T ++ wX3 cs (q 1) (fun _ => q 0) R ++ wX2 cs (qS 0) qP P ++ wX7 cs (q 2) qS S ++ wX2 cs (q 3) qDr Dr ++ wX4 cs (q 6) qSm Sm ++ wX5 cs (q 7) qF1 F1 ++ wX5 cs (q 8) qF2 F2 ++ wX1 cs (q 9) qPt Pt ++ wX10 cs am qM M)) := pw (bs := [wX9 cs a q, wX6 cs (q 0) qT T, wX3 cs (q 1) (fun _ => q 0) R, wX2 cs (qS 0) qP P, wX7 cs (q 2) qS S, wX2 cs (q 3) qDr Dr, wX8 cs (q 4) qV V, wX0 cs (q 5) qH Hp, wX4 cs (q 6) qSm Sm, wX5 cs (q 7) qF1 F1, wX5 cs (q 8) qF2 F2, wX1 cs (q 9) qPt Pt, wX10 cs am qM M]) [0, 6, 7] [1, 2, 3, 4, 5, 8, 9, 10, 11, 12] (show (_ ++ _ : List Nat).Perm (List.range 13) by decide)
  have hJ : ((wX6 cs (q 0) qT T ++ wX3 cs (q 1) (fun _ => q 0) R ++ wX2 cs (qS 0) qP P ++ wX7 cs (q 2) qS S ++ wX2 cs (q 3) qDr Dr ++ wX4 cs (q 6) qSm Sm ++ wX5 cs (q 7) qF1 F1 ++ wX5 cs (q 8) qF2 F2 ++ wX1 cs (q 9) qPt Pt ++ wX10 cs am qM M) ++ (wX9 cs a q ++ wX8 cs (q 4) qV V ++ wX0 cs (q 5) qH Hp)).Perm (wFull cs a q qT qP qS qDr qV qH qSm qF1 qF2 qPt T R P S Dr V Hp Sm F1 F2 Pt ++ wX10 cs am qM M) := List.perm_append_comm.trans (pw (bs := [wX9 cs a q, wX6 cs (q 0) qT T, wX3 cs (q 1) (fun _ => q 0) R, wX2 cs (qS 0) qP P, wX7 cs (q 2) qS S, wX2 cs (q 3) qDr Dr, wX8 cs (q 4) qV V, wX0 cs (q 5) qH Hp, wX4 cs (q 6) qSm Sm, wX5 cs (q 7) qF1 F1, wX5 cs (q 8) qF2 F2, wX1 cs (q 9) qPt Pt, wX10 cs am qM M]) [0, 6, 7] [1, 2, 3, 4, 5, 8, 9, 10, 11, 12] (show (_ ++ _ : List Nat).Perm (List.range 13) by decide)).symm
  refine x_cutP (pc := 967) X hw hC hJ (va_runV (As := [.int y1]) (rest := []) ⟨hx, hb, hml, hown, hts⟩ (c_X9_even l D cs a q qV qH V Hp y1 r hf9 _) (cwV 1 hts gL_law_X9_even rfl rfl rfl (by decide +kernel) ⟨Nat.le_of_ble_eq_true rfl, Nat.le_of_ble_eq_true rfl⟩) ⟨CP_blind, va_recv hK (hw.perm hC).1 (ci := 9) (q0 := 0) rfl rfl, x_preP X hw hC [.ref a, .int y1]⟩ rfl rfl hl.1 rfl (lv_room (Nat.le_of_ble_eq_true rfl)) dL_law_967 ⟨Nat.le_of_ble_eq_true rfl, Nat.le_of_ble_eq_true rfl⟩) (fun H locs hw => ?_)
  refine lv_aload_n (pc := 970) hx hb dL_law_970 rfl (lv_at hl 2 rfl) ?_
  refine lv_aload_n (pc := 971) hx hb dL_law_971 rfl (lv_at hl 0 rfl) ?_
  refine lv_iload_n (pc := 972) hx hb dL_law_972 rfl (lv_at hl 3 rfl) ?_
  refine lv_iconst (pc := 973) (v := 1) hx hb dL_law_973 (by decide) ?_
  refine lv_iadd (pc := 974) hx hb dL_law_974 ?_
  refine va_sld (pc := 975) hx hb hXs hbl hbA hw.2.2 h1 dL_law_975 ?_
  refine x_topi ey1 ?_
  have hC : (wFull cs a q qT qP qS qDr qV qH qSm qF1 qF2 qPt T R P S Dr V Hp Sm F1 F2 Pt ++ wX10 cs am qM M).Perm ((wX10 cs am qM M) ++ (wX9 cs a q ++ wX6 cs (q 0) qT T ++ wX3 cs (q 1) (fun _ => q 0) R ++ wX2 cs (qS 0) qP P ++ wX7 cs (q 2) qS S ++ wX2 cs (q 3) qDr Dr ++ wX8 cs (q 4) qV V ++ wX0 cs (q 5) qH Hp ++ wX4 cs (q 6) qSm Sm ++ wX5 cs (q 7) qF1 F1 ++ wX5 cs (q 8) qF2 F2 ++ wX1 cs (q 9) qPt Pt)) := pw (bs := [wX9 cs a q, wX6 cs (q 0) qT T, wX3 cs (q 1) (fun _ => q 0) R, wX2 cs (qS 0) qP P, wX7 cs (q 2) qS S, wX2 cs (q 3) qDr Dr, wX8 cs (q 4) qV V, wX0 cs (q 5) qH Hp, wX4 cs (q 6) qSm Sm, wX5 cs (q 7) qF1 F1, wX5 cs (q 8) qF2 F2, wX1 cs (q 9) qPt Pt, wX10 cs am qM M]) [12] [0, 1, 2, 3, 4, 5, 6, 7, 8, 9, 10, 11] (show (_ ++ _ : List Nat).Perm (List.range 13) by decide)
  have hJ : ((wX9 cs a q ++ wX6 cs (q 0) qT T ++ wX3 cs (q 1) (fun _ => q 0) R ++ wX2 cs (qS 0) qP P ++ wX7 cs (q 2) qS S ++ wX2 cs (q 3) qDr Dr ++ wX8 cs (q 4) qV V ++ wX0 cs (q 5) qH Hp ++ wX4 cs (q 6) qSm Sm ++ wX5 cs (q 7) qF1 F1 ++ wX5 cs (q 8) qF2 F2 ++ wX1 cs (q 9) qPt Pt) ++ (wX10 cs am qM M)).Perm (wFull cs a q qT qP qS qDr qV qH qSm qF1 qF2 qPt T R P S Dr V Hp Sm F1 F2 Pt ++ wX10 cs am qM M) := List.perm_append_comm.trans (pw (bs := [wX9 cs a q, wX6 cs (q 0) qT T, wX3 cs (q 1) (fun _ => q 0) R, wX2 cs (qS 0) qP P, wX7 cs (q 2) qS S, wX2 cs (q 3) qDr Dr, wX8 cs (q 4) qV V, wX0 cs (q 5) qH Hp, wX4 cs (q 6) qSm Sm, wX5 cs (q 7) qF1 F1, wX5 cs (q 8) qF2 F2, wX1 cs (q 9) qPt Pt, wX10 cs am qM M]) [12] [0, 1, 2, 3, 4, 5, 6, 7, 8, 9, 10, 11] (show (_ ++ _ : List Nat).Perm (List.range 13) by decide)).symm
  refine x_cutP (pc := 976) X hw hC hJ (va_runV (As := [.int y1]) (rest := [.int r]) ⟨hx, hb, hml, hown, hts⟩ (c_X10_even l D cs am qM M y1 r hf10 _) (cwV 1 hts gL_law_X10_even rfl rfl rfl (by decide +kernel) ⟨Nat.le_of_ble_eq_true rfl, Nat.le_of_ble_eq_true rfl⟩) ⟨CP_blind, va_recv hK (hw.perm hC).1 (ci := 10) (q0 := 0) rfl rfl, x_preP X hw hC [.ref am, .int y1]⟩ rfl rfl hl.1 rfl (lv_room (Nat.le_of_ble_eq_true rfl)) dL_law_976 ⟨Nat.le_of_ble_eq_true rfl, Nat.le_of_ble_eq_true rfl⟩) (fun H locs hw => ?_)
  refine lv_icmp_eq (pc := 979) (tgt := 1415) hx hb dL_law_979 (by decide) (fun _ => ?_) (fun c0 => absurd rfl c0)
  exact K _ _ _ ⟨q, qT, qP, qS, qDr, qV, qH, qSm, qF1, qF2, qPt, qM, T, R, P, S, Dr, V, Hp, Sm, F1, F2, Pt, M, hw, hrel2⟩ hl

set_option maxHeartbeats 4000000 in
set_option maxRecDepth 100000 in
theorem lc_error {p : Program} {l : Launch} {e : Env} {s : State} {m : MethodId} {args : Array Value} {below : List Frame} {meth : Method} {c : Code} {D : va_G} {cs : CS} {A : Nat → Prop} {Q : State → Prop} {ad ar : Nat → Nat} {b L : Nat} {xs : Nat → Int32} {a am : Nat} {Rel : RelT} (X : FX D (TY cs) p s m args meth c cL_law 4 wsL_law RL A (some .boolean)) (hE : SE ad ar A s s.heap) (hXs : va_X b L xs s s.heap) (hbl : b < s.heap.size) (hbA : ¬ A b) {H : Heap} {locs : List Loc} {ls : Array Slot} {i : Int32} (hLW : LW Rel D A s cs a am H locs) (hl : lv_has ls 4 [(0, .ref b), (1, .ref a), (2, .ref am), (3, .int i)]) (h1 : vp_in (i + 1) L) (h2 : vp_in (i + 2) L) (h3 : vp_in (i + 3) L) (h4 : vp_in (i + 4) L) (h5 : vp_in (i + 5) L) (hst : St_error Rel) (K : ∀ (H : Heap) (locs : List Loc) (ls : Array Slot), LW Rel D A s cs a am H locs → lv_has ls 4 [(0, .ref b), (1, .ref a), (2, .ref am), (3, .int i)] → W p l e room_1 s m args below meth c H locs 69 3778 Q (F0 m 1415 ls [])) : W p l e room_1 s m args below meth c H locs 69 3778 Q (F0 m 984 ls []) := by
  obtain ⟨hx, hb, hml, hown, hts, hK, hA, hr, hlk⟩ := id X
  obtain ⟨q, qT, qP, qS, qDr, qV, qH, qSm, qF1, qF2, qPt, qM, T, R, P, S, Dr, V, Hp, Sm, F1, F2, Pt, M, hw, hrel⟩ := hLW
  obtain ⟨y1, ey1⟩ : ∃ y : Int32, y = xs (i + 1).toNatClampNeg := ⟨_, rfl⟩
  obtain ⟨y2, ey2⟩ : ∃ y : Int32, y = xs (i + 2).toNatClampNeg := ⟨_, rfl⟩
  obtain ⟨y3, ey3⟩ : ∃ y : Int32, y = xs (i + 3).toNatClampNeg := ⟨_, rfl⟩
  obtain ⟨y4, ey4⟩ : ∃ y : Int32, y = xs (i + 4).toNatClampNeg := ⟨_, rfl⟩
  obtain ⟨y5, ey5⟩ : ∃ y : Int32, y = xs (i + 5).toNatClampNeg := ⟨_, rfl⟩
  refine lv_aload_n (pc := 984) hx hb dL_law_984 rfl (lv_at hl 1 rfl) ?_
  refine lv_aload_n (pc := 985) hx hb dL_law_985 rfl (lv_at hl 0 rfl) ?_
  refine lv_iload_n (pc := 986) hx hb dL_law_986 rfl (lv_at hl 3 rfl) ?_
  refine lv_iconst (pc := 987) (v := 1) hx hb dL_law_987 (by decide) ?_
  refine lv_iadd (pc := 988) hx hb dL_law_988 ?_
  refine va_sld (pc := 989) hx hb hXs hbl hbA hw.2.2 h1 dL_law_989 ?_
  refine x_topi ey1 ?_
  refine lv_aload_n (pc := 990) hx hb dL_law_990 rfl (lv_at hl 0 rfl) ?_
  refine lv_iload_n (pc := 991) hx hb dL_law_991 rfl (lv_at hl 3 rfl) ?_
  refine lv_iconst (pc := 992) (v := 2) hx hb dL_law_992 (by decide) ?_
  refine lv_iadd (pc := 993) hx hb dL_law_993 ?_
  refine va_sld (pc := 994) hx hb hXs hbl hbA hw.2.2 h2 dL_law_994 ?_
  refine x_topi ey2 ?_
  obtain ⟨r, hf9, hf10, hrel2⟩ := hst _ _ _ _ _ _ _ _ _ _ _ _ hrel y1 y2
  have hC : (wFull cs a q qT qP qS qDr qV qH qSm qF1 qF2 qPt T R P S Dr V Hp Sm F1 F2 Pt ++ wX10 cs am qM M).Perm ((wX9 cs a q ++ wX8 cs (q 4) qV V ++ wX0 cs (q 5) qH Hp) ++ (wX6 cs (q 0) qT T ++ wX3 cs (q 1) (fun _ => q 0) R ++ wX2 cs (qS 0) qP P ++ wX7 cs (q 2) qS S ++ wX2 cs (q 3) qDr Dr ++ wX4 cs (q 6) qSm Sm ++ wX5 cs (q 7) qF1 F1 ++ wX5 cs (q 8) qF2 F2 ++ wX1 cs (q 9) qPt Pt ++ wX10 cs am qM M)) := pw (bs := [wX9 cs a q, wX6 cs (q 0) qT T, wX3 cs (q 1) (fun _ => q 0) R, wX2 cs (qS 0) qP P, wX7 cs (q 2) qS S, wX2 cs (q 3) qDr Dr, wX8 cs (q 4) qV V, wX0 cs (q 5) qH Hp, wX4 cs (q 6) qSm Sm, wX5 cs (q 7) qF1 F1, wX5 cs (q 8) qF2 F2, wX1 cs (q 9) qPt Pt, wX10 cs am qM M]) [0, 6, 7] [1, 2, 3, 4, 5, 8, 9, 10, 11, 12] (show (_ ++ _ : List Nat).Perm (List.range 13) by decide)
  have hJ : ((wX6 cs (q 0) qT T ++ wX3 cs (q 1) (fun _ => q 0) R ++ wX2 cs (qS 0) qP P ++ wX7 cs (q 2) qS S ++ wX2 cs (q 3) qDr Dr ++ wX4 cs (q 6) qSm Sm ++ wX5 cs (q 7) qF1 F1 ++ wX5 cs (q 8) qF2 F2 ++ wX1 cs (q 9) qPt Pt ++ wX10 cs am qM M) ++ (wX9 cs a q ++ wX8 cs (q 4) qV V ++ wX0 cs (q 5) qH Hp)).Perm (wFull cs a q qT qP qS qDr qV qH qSm qF1 qF2 qPt T R P S Dr V Hp Sm F1 F2 Pt ++ wX10 cs am qM M) := List.perm_append_comm.trans (pw (bs := [wX9 cs a q, wX6 cs (q 0) qT T, wX3 cs (q 1) (fun _ => q 0) R, wX2 cs (qS 0) qP P, wX7 cs (q 2) qS S, wX2 cs (q 3) qDr Dr, wX8 cs (q 4) qV V, wX0 cs (q 5) qH Hp, wX4 cs (q 6) qSm Sm, wX5 cs (q 7) qF1 F1, wX5 cs (q 8) qF2 F2, wX1 cs (q 9) qPt Pt, wX10 cs am qM M]) [0, 6, 7] [1, 2, 3, 4, 5, 8, 9, 10, 11, 12] (show (_ ++ _ : List Nat).Perm (List.range 13) by decide)).symm
  refine x_cutP (pc := 995) X hw hC hJ (va_runV (As := [.int y1, .int y2]) (rest := []) ⟨hx, hb, hml, hown, hts⟩ (c_X9_error l D cs a q qV qH V Hp y1 y2 r hf9 _) (cwV 2 hts gL_law_X9_error rfl rfl rfl (by decide +kernel) ⟨Nat.le_of_ble_eq_true rfl, Nat.le_of_ble_eq_true rfl⟩) ⟨CP_blind, va_recv hK (hw.perm hC).1 (ci := 9) (q0 := 0) rfl rfl, x_preP X hw hC [.ref a, .int y1, .int y2]⟩ rfl rfl hl.1 rfl (lv_room (Nat.le_of_ble_eq_true rfl)) dL_law_995 ⟨Nat.le_of_ble_eq_true rfl, Nat.le_of_ble_eq_true rfl⟩) (fun H locs hw => ?_)
  refine lv_aload_n (pc := 998) hx hb dL_law_998 rfl (lv_at hl 2 rfl) ?_
  refine lv_aload_n (pc := 999) hx hb dL_law_999 rfl (lv_at hl 0 rfl) ?_
  refine lv_iload_n (pc := 1000) hx hb dL_law_1000 rfl (lv_at hl 3 rfl) ?_
  refine lv_iconst (pc := 1001) (v := 1) hx hb dL_law_1001 (by decide) ?_
  refine lv_iadd (pc := 1002) hx hb dL_law_1002 ?_
  refine va_sld (pc := 1003) hx hb hXs hbl hbA hw.2.2 h1 dL_law_1003 ?_
  refine x_topi ey1 ?_
  refine lv_aload_n (pc := 1004) hx hb dL_law_1004 rfl (lv_at hl 0 rfl) ?_
  refine lv_iload_n (pc := 1005) hx hb dL_law_1005 rfl (lv_at hl 3 rfl) ?_
  refine lv_iconst (pc := 1006) (v := 2) hx hb dL_law_1006 (by decide) ?_
  refine lv_iadd (pc := 1007) hx hb dL_law_1007 ?_
  refine va_sld (pc := 1008) hx hb hXs hbl hbA hw.2.2 h2 dL_law_1008 ?_
  refine x_topi ey2 ?_
  have hC : (wFull cs a q qT qP qS qDr qV qH qSm qF1 qF2 qPt T R P S Dr V Hp Sm F1 F2 Pt ++ wX10 cs am qM M).Perm ((wX10 cs am qM M) ++ (wX9 cs a q ++ wX6 cs (q 0) qT T ++ wX3 cs (q 1) (fun _ => q 0) R ++ wX2 cs (qS 0) qP P ++ wX7 cs (q 2) qS S ++ wX2 cs (q 3) qDr Dr ++ wX8 cs (q 4) qV V ++ wX0 cs (q 5) qH Hp ++ wX4 cs (q 6) qSm Sm ++ wX5 cs (q 7) qF1 F1 ++ wX5 cs (q 8) qF2 F2 ++ wX1 cs (q 9) qPt Pt)) := pw (bs := [wX9 cs a q, wX6 cs (q 0) qT T, wX3 cs (q 1) (fun _ => q 0) R, wX2 cs (qS 0) qP P, wX7 cs (q 2) qS S, wX2 cs (q 3) qDr Dr, wX8 cs (q 4) qV V, wX0 cs (q 5) qH Hp, wX4 cs (q 6) qSm Sm, wX5 cs (q 7) qF1 F1, wX5 cs (q 8) qF2 F2, wX1 cs (q 9) qPt Pt, wX10 cs am qM M]) [12] [0, 1, 2, 3, 4, 5, 6, 7, 8, 9, 10, 11] (show (_ ++ _ : List Nat).Perm (List.range 13) by decide)
  have hJ : ((wX9 cs a q ++ wX6 cs (q 0) qT T ++ wX3 cs (q 1) (fun _ => q 0) R ++ wX2 cs (qS 0) qP P ++ wX7 cs (q 2) qS S ++ wX2 cs (q 3) qDr Dr ++ wX8 cs (q 4) qV V ++ wX0 cs (q 5) qH Hp ++ wX4 cs (q 6) qSm Sm ++ wX5 cs (q 7) qF1 F1 ++ wX5 cs (q 8) qF2 F2 ++ wX1 cs (q 9) qPt Pt) ++ (wX10 cs am qM M)).Perm (wFull cs a q qT qP qS qDr qV qH qSm qF1 qF2 qPt T R P S Dr V Hp Sm F1 F2 Pt ++ wX10 cs am qM M) := List.perm_append_comm.trans (pw (bs := [wX9 cs a q, wX6 cs (q 0) qT T, wX3 cs (q 1) (fun _ => q 0) R, wX2 cs (qS 0) qP P, wX7 cs (q 2) qS S, wX2 cs (q 3) qDr Dr, wX8 cs (q 4) qV V, wX0 cs (q 5) qH Hp, wX4 cs (q 6) qSm Sm, wX5 cs (q 7) qF1 F1, wX5 cs (q 8) qF2 F2, wX1 cs (q 9) qPt Pt, wX10 cs am qM M]) [12] [0, 1, 2, 3, 4, 5, 6, 7, 8, 9, 10, 11] (show (_ ++ _ : List Nat).Perm (List.range 13) by decide)).symm
  refine x_cutP (pc := 1009) X hw hC hJ (va_runV (As := [.int y1, .int y2]) (rest := [.int r]) ⟨hx, hb, hml, hown, hts⟩ (c_X10_error l D cs am qM M y1 y2 r hf10 _) (cwV 2 hts gL_law_X10_error rfl rfl rfl (by decide +kernel) ⟨Nat.le_of_ble_eq_true rfl, Nat.le_of_ble_eq_true rfl⟩) ⟨CP_blind, va_recv hK (hw.perm hC).1 (ci := 10) (q0 := 0) rfl rfl, x_preP X hw hC [.ref am, .int y1, .int y2]⟩ rfl rfl hl.1 rfl (lv_room (Nat.le_of_ble_eq_true rfl)) dL_law_1009 ⟨Nat.le_of_ble_eq_true rfl, Nat.le_of_ble_eq_true rfl⟩) (fun H locs hw => ?_)
  refine lv_icmp_eq (pc := 1012) (tgt := 1415) hx hb dL_law_1012 (by decide) (fun _ => ?_) (fun c0 => absurd rfl c0)
  exact K _ _ _ ⟨q, qT, qP, qS, qDr, qV, qH, qSm, qF1, qF2, qPt, qM, T, R, P, S, Dr, V, Hp, Sm, F1, F2, Pt, M, hw, hrel2⟩ hl

set_option maxHeartbeats 4000000 in
set_option maxRecDepth 100000 in
theorem lc_least {p : Program} {l : Launch} {e : Env} {s : State} {m : MethodId} {args : Array Value} {below : List Frame} {meth : Method} {c : Code} {D : va_G} {cs : CS} {A : Nat → Prop} {Q : State → Prop} {ad ar : Nat → Nat} {b L : Nat} {xs : Nat → Int32} {a am : Nat} {Rel : RelT} (X : FX D (TY cs) p s m args meth c cL_law 4 wsL_law RL A (some .boolean)) (hE : SE ad ar A s s.heap) (hXs : va_X b L xs s s.heap) (hbl : b < s.heap.size) (hbA : ¬ A b) {H : Heap} {locs : List Loc} {ls : Array Slot} {i : Int32} (hLW : LW Rel D A s cs a am H locs) (hl : lv_has ls 4 [(0, .ref b), (1, .ref a), (2, .ref am), (3, .int i)]) (h1 : vp_in (i + 1) L) (h2 : vp_in (i + 2) L) (h3 : vp_in (i + 3) L) (h4 : vp_in (i + 4) L) (h5 : vp_in (i + 5) L) (hst : St_least Rel) (K : ∀ (H : Heap) (locs : List Loc) (ls : Array Slot), LW Rel D A s cs a am H locs → lv_has ls 4 [(0, .ref b), (1, .ref a), (2, .ref am), (3, .int i)] → W p l e room_1 s m args below meth c H locs 69 3778 Q (F0 m 1415 ls [])) : W p l e room_1 s m args below meth c H locs 69 3778 Q (F0 m 1017 ls []) := by
  obtain ⟨hx, hb, hml, hown, hts, hK, hA, hr, hlk⟩ := id X
  obtain ⟨q, qT, qP, qS, qDr, qV, qH, qSm, qF1, qF2, qPt, qM, T, R, P, S, Dr, V, Hp, Sm, F1, F2, Pt, M, hw, hrel⟩ := hLW
  obtain ⟨y1, ey1⟩ : ∃ y : Int32, y = xs (i + 1).toNatClampNeg := ⟨_, rfl⟩
  obtain ⟨y2, ey2⟩ : ∃ y : Int32, y = xs (i + 2).toNatClampNeg := ⟨_, rfl⟩
  obtain ⟨y3, ey3⟩ : ∃ y : Int32, y = xs (i + 3).toNatClampNeg := ⟨_, rfl⟩
  obtain ⟨y4, ey4⟩ : ∃ y : Int32, y = xs (i + 4).toNatClampNeg := ⟨_, rfl⟩
  obtain ⟨y5, ey5⟩ : ∃ y : Int32, y = xs (i + 5).toNatClampNeg := ⟨_, rfl⟩
  refine lv_aload_n (pc := 1017) hx hb dL_law_1017 rfl (lv_at hl 1 rfl) ?_
  refine lv_aload_n (pc := 1018) hx hb dL_law_1018 rfl (lv_at hl 0 rfl) ?_
  refine lv_iload_n (pc := 1019) hx hb dL_law_1019 rfl (lv_at hl 3 rfl) ?_
  refine lv_iconst (pc := 1020) (v := 1) hx hb dL_law_1020 (by decide) ?_
  refine lv_iadd (pc := 1021) hx hb dL_law_1021 ?_
  refine va_sld (pc := 1022) hx hb hXs hbl hbA hw.2.2 h1 dL_law_1022 ?_
  refine x_topi ey1 ?_
  refine lv_aload_n (pc := 1023) hx hb dL_law_1023 rfl (lv_at hl 0 rfl) ?_
  refine lv_iload_n (pc := 1024) hx hb dL_law_1024 rfl (lv_at hl 3 rfl) ?_
  refine lv_iconst (pc := 1025) (v := 2) hx hb dL_law_1025 (by decide) ?_
  refine lv_iadd (pc := 1026) hx hb dL_law_1026 ?_
  refine va_sld (pc := 1027) hx hb hXs hbl hbA hw.2.2 h2 dL_law_1027 ?_
  refine x_topi ey2 ?_
  refine lv_aload_n (pc := 1028) hx hb dL_law_1028 rfl (lv_at hl 0 rfl) ?_
  refine lv_iload_n (pc := 1029) hx hb dL_law_1029 rfl (lv_at hl 3 rfl) ?_
  refine lv_iconst (pc := 1030) (v := 3) hx hb dL_law_1030 (by decide) ?_
  refine lv_iadd (pc := 1031) hx hb dL_law_1031 ?_
  refine va_sld (pc := 1032) hx hb hXs hbl hbA hw.2.2 h3 dL_law_1032 ?_
  refine x_topi ey3 ?_
  refine lv_aload_n (pc := 1033) hx hb dL_law_1033 rfl (lv_at hl 0 rfl) ?_
  refine lv_iload_n (pc := 1034) hx hb dL_law_1034 rfl (lv_at hl 3 rfl) ?_
  refine lv_iconst (pc := 1035) (v := 4) hx hb dL_law_1035 (by decide) ?_
  refine lv_iadd (pc := 1036) hx hb dL_law_1036 ?_
  refine va_sld (pc := 1037) hx hb hXs hbl hbA hw.2.2 h4 dL_law_1037 ?_
  refine x_topi ey4 ?_
  obtain ⟨r, hf9, hf10, hrel2⟩ := hst _ _ _ _ _ _ _ _ _ _ _ _ hrel y1 y2 y3 y4
  have hC : (wFull cs a q qT qP qS qDr qV qH qSm qF1 qF2 qPt T R P S Dr V Hp Sm F1 F2 Pt ++ wX10 cs am qM M).Perm ((wX9 cs a q ++ wX4 cs (q 6) qSm Sm) ++ (wX6 cs (q 0) qT T ++ wX3 cs (q 1) (fun _ => q 0) R ++ wX2 cs (qS 0) qP P ++ wX7 cs (q 2) qS S ++ wX2 cs (q 3) qDr Dr ++ wX8 cs (q 4) qV V ++ wX0 cs (q 5) qH Hp ++ wX5 cs (q 7) qF1 F1 ++ wX5 cs (q 8) qF2 F2 ++ wX1 cs (q 9) qPt Pt ++ wX10 cs am qM M)) := pw (bs := [wX9 cs a q, wX6 cs (q 0) qT T, wX3 cs (q 1) (fun _ => q 0) R, wX2 cs (qS 0) qP P, wX7 cs (q 2) qS S, wX2 cs (q 3) qDr Dr, wX8 cs (q 4) qV V, wX0 cs (q 5) qH Hp, wX4 cs (q 6) qSm Sm, wX5 cs (q 7) qF1 F1, wX5 cs (q 8) qF2 F2, wX1 cs (q 9) qPt Pt, wX10 cs am qM M]) [0, 8] [1, 2, 3, 4, 5, 6, 7, 9, 10, 11, 12] (show (_ ++ _ : List Nat).Perm (List.range 13) by decide)
  have hJ : ((wX6 cs (q 0) qT T ++ wX3 cs (q 1) (fun _ => q 0) R ++ wX2 cs (qS 0) qP P ++ wX7 cs (q 2) qS S ++ wX2 cs (q 3) qDr Dr ++ wX8 cs (q 4) qV V ++ wX0 cs (q 5) qH Hp ++ wX5 cs (q 7) qF1 F1 ++ wX5 cs (q 8) qF2 F2 ++ wX1 cs (q 9) qPt Pt ++ wX10 cs am qM M) ++ (wX9 cs a q ++ wX4 cs (q 6) qSm Sm)).Perm (wFull cs a q qT qP qS qDr qV qH qSm qF1 qF2 qPt T R P S Dr V Hp Sm F1 F2 Pt ++ wX10 cs am qM M) := List.perm_append_comm.trans (pw (bs := [wX9 cs a q, wX6 cs (q 0) qT T, wX3 cs (q 1) (fun _ => q 0) R, wX2 cs (qS 0) qP P, wX7 cs (q 2) qS S, wX2 cs (q 3) qDr Dr, wX8 cs (q 4) qV V, wX0 cs (q 5) qH Hp, wX4 cs (q 6) qSm Sm, wX5 cs (q 7) qF1 F1, wX5 cs (q 8) qF2 F2, wX1 cs (q 9) qPt Pt, wX10 cs am qM M]) [0, 8] [1, 2, 3, 4, 5, 6, 7, 9, 10, 11, 12] (show (_ ++ _ : List Nat).Perm (List.range 13) by decide)).symm
  refine x_cutP (pc := 1038) X hw hC hJ (va_runV (As := [.int y1, .int y2, .int y3, .int y4]) (rest := []) ⟨hx, hb, hml, hown, hts⟩ (c_X9_least l D cs a q qSm Sm y1 y2 y3 y4 r hf9 _) (cwV 4 hts gL_law_X9_least rfl rfl rfl (by decide +kernel) ⟨Nat.le_of_ble_eq_true rfl, Nat.le_of_ble_eq_true rfl⟩) ⟨CP_blind, va_recv hK (hw.perm hC).1 (ci := 9) (q0 := 0) rfl rfl, x_preP X hw hC [.ref a, .int y1, .int y2, .int y3, .int y4]⟩ rfl rfl hl.1 rfl (lv_room (Nat.le_of_ble_eq_true rfl)) dL_law_1038 ⟨Nat.le_of_ble_eq_true rfl, Nat.le_of_ble_eq_true rfl⟩) (fun H locs hw => ?_)
  refine lv_aload_n (pc := 1041) hx hb dL_law_1041 rfl (lv_at hl 2 rfl) ?_
  refine lv_aload_n (pc := 1042) hx hb dL_law_1042 rfl (lv_at hl 0 rfl) ?_
  refine lv_iload_n (pc := 1043) hx hb dL_law_1043 rfl (lv_at hl 3 rfl) ?_
  refine lv_iconst (pc := 1044) (v := 1) hx hb dL_law_1044 (by decide) ?_
  refine lv_iadd (pc := 1045) hx hb dL_law_1045 ?_
  refine va_sld (pc := 1046) hx hb hXs hbl hbA hw.2.2 h1 dL_law_1046 ?_
  refine x_topi ey1 ?_
  refine lv_aload_n (pc := 1047) hx hb dL_law_1047 rfl (lv_at hl 0 rfl) ?_
  refine lv_iload_n (pc := 1048) hx hb dL_law_1048 rfl (lv_at hl 3 rfl) ?_
  refine lv_iconst (pc := 1049) (v := 2) hx hb dL_law_1049 (by decide) ?_
  refine lv_iadd (pc := 1050) hx hb dL_law_1050 ?_
  refine va_sld (pc := 1051) hx hb hXs hbl hbA hw.2.2 h2 dL_law_1051 ?_
  refine x_topi ey2 ?_
  refine lv_aload_n (pc := 1052) hx hb dL_law_1052 rfl (lv_at hl 0 rfl) ?_
  refine lv_iload_n (pc := 1053) hx hb dL_law_1053 rfl (lv_at hl 3 rfl) ?_
  refine lv_iconst (pc := 1054) (v := 3) hx hb dL_law_1054 (by decide) ?_
  refine lv_iadd (pc := 1055) hx hb dL_law_1055 ?_
  refine va_sld (pc := 1056) hx hb hXs hbl hbA hw.2.2 h3 dL_law_1056 ?_
  refine x_topi ey3 ?_
  refine lv_aload_n (pc := 1057) hx hb dL_law_1057 rfl (lv_at hl 0 rfl) ?_
  refine lv_iload_n (pc := 1058) hx hb dL_law_1058 rfl (lv_at hl 3 rfl) ?_
  refine lv_iconst (pc := 1059) (v := 4) hx hb dL_law_1059 (by decide) ?_
  refine lv_iadd (pc := 1060) hx hb dL_law_1060 ?_
  refine va_sld (pc := 1061) hx hb hXs hbl hbA hw.2.2 h4 dL_law_1061 ?_
  refine x_topi ey4 ?_
  have hC : (wFull cs a q qT qP qS qDr qV qH qSm qF1 qF2 qPt T R P S Dr V Hp Sm F1 F2 Pt ++ wX10 cs am qM M).Perm ((wX10 cs am qM M) ++ (wX9 cs a q ++ wX6 cs (q 0) qT T ++ wX3 cs (q 1) (fun _ => q 0) R ++ wX2 cs (qS 0) qP P ++ wX7 cs (q 2) qS S ++ wX2 cs (q 3) qDr Dr ++ wX8 cs (q 4) qV V ++ wX0 cs (q 5) qH Hp ++ wX4 cs (q 6) qSm Sm ++ wX5 cs (q 7) qF1 F1 ++ wX5 cs (q 8) qF2 F2 ++ wX1 cs (q 9) qPt Pt)) := pw (bs := [wX9 cs a q, wX6 cs (q 0) qT T, wX3 cs (q 1) (fun _ => q 0) R, wX2 cs (qS 0) qP P, wX7 cs (q 2) qS S, wX2 cs (q 3) qDr Dr, wX8 cs (q 4) qV V, wX0 cs (q 5) qH Hp, wX4 cs (q 6) qSm Sm, wX5 cs (q 7) qF1 F1, wX5 cs (q 8) qF2 F2, wX1 cs (q 9) qPt Pt, wX10 cs am qM M]) [12] [0, 1, 2, 3, 4, 5, 6, 7, 8, 9, 10, 11] (show (_ ++ _ : List Nat).Perm (List.range 13) by decide)
  have hJ : ((wX9 cs a q ++ wX6 cs (q 0) qT T ++ wX3 cs (q 1) (fun _ => q 0) R ++ wX2 cs (qS 0) qP P ++ wX7 cs (q 2) qS S ++ wX2 cs (q 3) qDr Dr ++ wX8 cs (q 4) qV V ++ wX0 cs (q 5) qH Hp ++ wX4 cs (q 6) qSm Sm ++ wX5 cs (q 7) qF1 F1 ++ wX5 cs (q 8) qF2 F2 ++ wX1 cs (q 9) qPt Pt) ++ (wX10 cs am qM M)).Perm (wFull cs a q qT qP qS qDr qV qH qSm qF1 qF2 qPt T R P S Dr V Hp Sm F1 F2 Pt ++ wX10 cs am qM M) := List.perm_append_comm.trans (pw (bs := [wX9 cs a q, wX6 cs (q 0) qT T, wX3 cs (q 1) (fun _ => q 0) R, wX2 cs (qS 0) qP P, wX7 cs (q 2) qS S, wX2 cs (q 3) qDr Dr, wX8 cs (q 4) qV V, wX0 cs (q 5) qH Hp, wX4 cs (q 6) qSm Sm, wX5 cs (q 7) qF1 F1, wX5 cs (q 8) qF2 F2, wX1 cs (q 9) qPt Pt, wX10 cs am qM M]) [12] [0, 1, 2, 3, 4, 5, 6, 7, 8, 9, 10, 11] (show (_ ++ _ : List Nat).Perm (List.range 13) by decide)).symm
  refine x_cutP (pc := 1062) X hw hC hJ (va_runV (As := [.int y1, .int y2, .int y3, .int y4]) (rest := [.int r]) ⟨hx, hb, hml, hown, hts⟩ (c_X10_least l D cs am qM M y1 y2 y3 y4 r hf10 _) (cwV 4 hts gL_law_X10_least rfl rfl rfl (by decide +kernel) ⟨Nat.le_of_ble_eq_true rfl, Nat.le_of_ble_eq_true rfl⟩) ⟨CP_blind, va_recv hK (hw.perm hC).1 (ci := 10) (q0 := 0) rfl rfl, x_preP X hw hC [.ref am, .int y1, .int y2, .int y3, .int y4]⟩ rfl rfl hl.1 rfl (lv_room (Nat.le_of_ble_eq_true rfl)) dL_law_1062 ⟨Nat.le_of_ble_eq_true rfl, Nat.le_of_ble_eq_true rfl⟩) (fun H locs hw => ?_)
  refine lv_icmp_eq (pc := 1065) (tgt := 1415) hx hb dL_law_1065 (by decide) (fun _ => ?_) (fun c0 => absurd rfl c0)
  exact K _ _ _ ⟨q, qT, qP, qS, qDr, qV, qH, qSm, qF1, qF2, qPt, qM, T, R, P, S, Dr, V, Hp, Sm, F1, F2, Pt, M, hw, hrel2⟩ hl

set_option maxHeartbeats 4000000 in
set_option maxRecDepth 100000 in
theorem lc_walks {p : Program} {l : Launch} {e : Env} {s : State} {m : MethodId} {args : Array Value} {below : List Frame} {meth : Method} {c : Code} {D : va_G} {cs : CS} {A : Nat → Prop} {Q : State → Prop} {ad ar : Nat → Nat} {b L : Nat} {xs : Nat → Int32} {a am : Nat} {Rel : RelT} (X : FX D (TY cs) p s m args meth c cL_law 4 wsL_law RL A (some .boolean)) (hE : SE ad ar A s s.heap) (hXs : va_X b L xs s s.heap) (hbl : b < s.heap.size) (hbA : ¬ A b) {H : Heap} {locs : List Loc} {ls : Array Slot} {i : Int32} (hLW : LW Rel D A s cs a am H locs) (hl : lv_has ls 4 [(0, .ref b), (1, .ref a), (2, .ref am), (3, .int i)]) (h1 : vp_in (i + 1) L) (h2 : vp_in (i + 2) L) (h3 : vp_in (i + 3) L) (h4 : vp_in (i + 4) L) (h5 : vp_in (i + 5) L) (hst : St_walks Rel) (K : ∀ (H : Heap) (locs : List Loc) (ls : Array Slot), LW Rel D A s cs a am H locs → lv_has ls 4 [(0, .ref b), (1, .ref a), (2, .ref am), (3, .int i)] → W p l e room_1 s m args below meth c H locs 69 3778 Q (F0 m 1415 ls [])) : W p l e room_1 s m args below meth c H locs 69 3778 Q (F0 m 1070 ls []) := by
  obtain ⟨hx, hb, hml, hown, hts, hK, hA, hr, hlk⟩ := id X
  obtain ⟨q, qT, qP, qS, qDr, qV, qH, qSm, qF1, qF2, qPt, qM, T, R, P, S, Dr, V, Hp, Sm, F1, F2, Pt, M, hw, hrel⟩ := hLW
  obtain ⟨y1, ey1⟩ : ∃ y : Int32, y = xs (i + 1).toNatClampNeg := ⟨_, rfl⟩
  obtain ⟨y2, ey2⟩ : ∃ y : Int32, y = xs (i + 2).toNatClampNeg := ⟨_, rfl⟩
  obtain ⟨y3, ey3⟩ : ∃ y : Int32, y = xs (i + 3).toNatClampNeg := ⟨_, rfl⟩
  obtain ⟨y4, ey4⟩ : ∃ y : Int32, y = xs (i + 4).toNatClampNeg := ⟨_, rfl⟩
  obtain ⟨y5, ey5⟩ : ∃ y : Int32, y = xs (i + 5).toNatClampNeg := ⟨_, rfl⟩
  refine lv_aload_n (pc := 1070) hx hb dL_law_1070 rfl (lv_at hl 1 rfl) ?_
  refine lv_aload_n (pc := 1071) hx hb dL_law_1071 rfl (lv_at hl 0 rfl) ?_
  refine lv_iload_n (pc := 1072) hx hb dL_law_1072 rfl (lv_at hl 3 rfl) ?_
  refine lv_iconst (pc := 1073) (v := 1) hx hb dL_law_1073 (by decide) ?_
  refine lv_iadd (pc := 1074) hx hb dL_law_1074 ?_
  refine va_sld (pc := 1075) hx hb hXs hbl hbA hw.2.2 h1 dL_law_1075 ?_
  refine x_topi ey1 ?_
  refine lv_aload_n (pc := 1076) hx hb dL_law_1076 rfl (lv_at hl 0 rfl) ?_
  refine lv_iload_n (pc := 1077) hx hb dL_law_1077 rfl (lv_at hl 3 rfl) ?_
  refine lv_iconst (pc := 1078) (v := 2) hx hb dL_law_1078 (by decide) ?_
  refine lv_iadd (pc := 1079) hx hb dL_law_1079 ?_
  refine va_sld (pc := 1080) hx hb hXs hbl hbA hw.2.2 h2 dL_law_1080 ?_
  refine x_topi ey2 ?_
  obtain ⟨r, V', qV', M', hf9, hf10, hrel2⟩ := hst _ _ _ _ _ _ _ _ _ _ _ _ hrel y1 y2 qV
  have hC : (wFull cs a q qT qP qS qDr qV qH qSm qF1 qF2 qPt T R P S Dr V Hp Sm F1 F2 Pt ++ wX10 cs am qM M).Perm ((wX9 cs a q ++ wX8 cs (q 4) qV V) ++ (wX6 cs (q 0) qT T ++ wX3 cs (q 1) (fun _ => q 0) R ++ wX2 cs (qS 0) qP P ++ wX7 cs (q 2) qS S ++ wX2 cs (q 3) qDr Dr ++ wX0 cs (q 5) qH Hp ++ wX4 cs (q 6) qSm Sm ++ wX5 cs (q 7) qF1 F1 ++ wX5 cs (q 8) qF2 F2 ++ wX1 cs (q 9) qPt Pt ++ wX10 cs am qM M)) := pw (bs := [wX9 cs a q, wX6 cs (q 0) qT T, wX3 cs (q 1) (fun _ => q 0) R, wX2 cs (qS 0) qP P, wX7 cs (q 2) qS S, wX2 cs (q 3) qDr Dr, wX8 cs (q 4) qV V, wX0 cs (q 5) qH Hp, wX4 cs (q 6) qSm Sm, wX5 cs (q 7) qF1 F1, wX5 cs (q 8) qF2 F2, wX1 cs (q 9) qPt Pt, wX10 cs am qM M]) [0, 6] [1, 2, 3, 4, 5, 7, 8, 9, 10, 11, 12] (show (_ ++ _ : List Nat).Perm (List.range 13) by decide)
  have hJ : ((wX6 cs (q 0) qT T ++ wX3 cs (q 1) (fun _ => q 0) R ++ wX2 cs (qS 0) qP P ++ wX7 cs (q 2) qS S ++ wX2 cs (q 3) qDr Dr ++ wX0 cs (q 5) qH Hp ++ wX4 cs (q 6) qSm Sm ++ wX5 cs (q 7) qF1 F1 ++ wX5 cs (q 8) qF2 F2 ++ wX1 cs (q 9) qPt Pt ++ wX10 cs am qM M) ++ (wX9 cs a q ++ wX8 cs (q 4) qV' V')).Perm (wFull cs a q qT qP qS qDr qV' qH qSm qF1 qF2 qPt T R P S Dr V' Hp Sm F1 F2 Pt ++ wX10 cs am qM M) := List.perm_append_comm.trans (pw (bs := [wX9 cs a q, wX6 cs (q 0) qT T, wX3 cs (q 1) (fun _ => q 0) R, wX2 cs (qS 0) qP P, wX7 cs (q 2) qS S, wX2 cs (q 3) qDr Dr, wX8 cs (q 4) qV' V', wX0 cs (q 5) qH Hp, wX4 cs (q 6) qSm Sm, wX5 cs (q 7) qF1 F1, wX5 cs (q 8) qF2 F2, wX1 cs (q 9) qPt Pt, wX10 cs am qM M]) [0, 6] [1, 2, 3, 4, 5, 7, 8, 9, 10, 11, 12] (show (_ ++ _ : List Nat).Perm (List.range 13) by decide)).symm
  refine x_cutP (pc := 1081) X hw hC hJ (va_runV (As := [.int y1, .int y2]) (rest := []) ⟨hx, hb, hml, hown, hts⟩ (c_X9_walks l D cs a q V qV y1 y2 r V' qV' hf9 _) (cwV 2 hts gL_law_X9_walks rfl rfl rfl (by decide +kernel) ⟨Nat.le_of_ble_eq_true rfl, Nat.le_of_ble_eq_true rfl⟩) ⟨CP_blind, va_recv hK (hw.perm hC).1 (ci := 9) (q0 := 0) rfl rfl, x_preP X hw hC [.ref a, .int y1, .int y2]⟩ rfl rfl hl.1 rfl (lv_room (Nat.le_of_ble_eq_true rfl)) dL_law_1081 ⟨Nat.le_of_ble_eq_true rfl, Nat.le_of_ble_eq_true rfl⟩) (fun H locs hw => ?_)
  refine lv_aload_n (pc := 1084) hx hb dL_law_1084 rfl (lv_at hl 2 rfl) ?_
  refine lv_aload_n (pc := 1085) hx hb dL_law_1085 rfl (lv_at hl 0 rfl) ?_
  refine lv_iload_n (pc := 1086) hx hb dL_law_1086 rfl (lv_at hl 3 rfl) ?_
  refine lv_iconst (pc := 1087) (v := 1) hx hb dL_law_1087 (by decide) ?_
  refine lv_iadd (pc := 1088) hx hb dL_law_1088 ?_
  refine va_sld (pc := 1089) hx hb hXs hbl hbA hw.2.2 h1 dL_law_1089 ?_
  refine x_topi ey1 ?_
  refine lv_aload_n (pc := 1090) hx hb dL_law_1090 rfl (lv_at hl 0 rfl) ?_
  refine lv_iload_n (pc := 1091) hx hb dL_law_1091 rfl (lv_at hl 3 rfl) ?_
  refine lv_iconst (pc := 1092) (v := 2) hx hb dL_law_1092 (by decide) ?_
  refine lv_iadd (pc := 1093) hx hb dL_law_1093 ?_
  refine va_sld (pc := 1094) hx hb hXs hbl hbA hw.2.2 h2 dL_law_1094 ?_
  refine x_topi ey2 ?_
  have hC : (wFull cs a q qT qP qS qDr qV' qH qSm qF1 qF2 qPt T R P S Dr V' Hp Sm F1 F2 Pt ++ wX10 cs am qM M).Perm ((wX10 cs am qM M) ++ (wX9 cs a q ++ wX6 cs (q 0) qT T ++ wX3 cs (q 1) (fun _ => q 0) R ++ wX2 cs (qS 0) qP P ++ wX7 cs (q 2) qS S ++ wX2 cs (q 3) qDr Dr ++ wX8 cs (q 4) qV' V' ++ wX0 cs (q 5) qH Hp ++ wX4 cs (q 6) qSm Sm ++ wX5 cs (q 7) qF1 F1 ++ wX5 cs (q 8) qF2 F2 ++ wX1 cs (q 9) qPt Pt)) := pw (bs := [wX9 cs a q, wX6 cs (q 0) qT T, wX3 cs (q 1) (fun _ => q 0) R, wX2 cs (qS 0) qP P, wX7 cs (q 2) qS S, wX2 cs (q 3) qDr Dr, wX8 cs (q 4) qV' V', wX0 cs (q 5) qH Hp, wX4 cs (q 6) qSm Sm, wX5 cs (q 7) qF1 F1, wX5 cs (q 8) qF2 F2, wX1 cs (q 9) qPt Pt, wX10 cs am qM M]) [12] [0, 1, 2, 3, 4, 5, 6, 7, 8, 9, 10, 11] (show (_ ++ _ : List Nat).Perm (List.range 13) by decide)
  have hJ : ((wX9 cs a q ++ wX6 cs (q 0) qT T ++ wX3 cs (q 1) (fun _ => q 0) R ++ wX2 cs (qS 0) qP P ++ wX7 cs (q 2) qS S ++ wX2 cs (q 3) qDr Dr ++ wX8 cs (q 4) qV' V' ++ wX0 cs (q 5) qH Hp ++ wX4 cs (q 6) qSm Sm ++ wX5 cs (q 7) qF1 F1 ++ wX5 cs (q 8) qF2 F2 ++ wX1 cs (q 9) qPt Pt) ++ (wX10 cs am qM M')).Perm (wFull cs a q qT qP qS qDr qV' qH qSm qF1 qF2 qPt T R P S Dr V' Hp Sm F1 F2 Pt ++ wX10 cs am qM M') := List.perm_append_comm.trans (pw (bs := [wX9 cs a q, wX6 cs (q 0) qT T, wX3 cs (q 1) (fun _ => q 0) R, wX2 cs (qS 0) qP P, wX7 cs (q 2) qS S, wX2 cs (q 3) qDr Dr, wX8 cs (q 4) qV' V', wX0 cs (q 5) qH Hp, wX4 cs (q 6) qSm Sm, wX5 cs (q 7) qF1 F1, wX5 cs (q 8) qF2 F2, wX1 cs (q 9) qPt Pt, wX10 cs am qM M']) [12] [0, 1, 2, 3, 4, 5, 6, 7, 8, 9, 10, 11] (show (_ ++ _ : List Nat).Perm (List.range 13) by decide)).symm
  refine x_cutP (pc := 1095) X hw hC hJ (va_runV (As := [.int y1, .int y2]) (rest := [.int r]) ⟨hx, hb, hml, hown, hts⟩ (c_X10_walks l D cs am qM M y1 y2 r M' hf10 _) (cwV 2 hts gL_law_X10_walks rfl rfl rfl (by decide +kernel) ⟨Nat.le_of_ble_eq_true rfl, Nat.le_of_ble_eq_true rfl⟩) ⟨CP_blind, va_recv hK (hw.perm hC).1 (ci := 10) (q0 := 0) rfl rfl, x_preP X hw hC [.ref am, .int y1, .int y2]⟩ rfl rfl hl.1 rfl (lv_room (Nat.le_of_ble_eq_true rfl)) dL_law_1095 ⟨Nat.le_of_ble_eq_true rfl, Nat.le_of_ble_eq_true rfl⟩) (fun H locs hw => ?_)
  refine lv_icmp_eq (pc := 1098) (tgt := 1415) hx hb dL_law_1098 (by decide) (fun _ => ?_) (fun c0 => absurd rfl c0)
  exact K _ _ _ ⟨q, qT, qP, qS, qDr, qV', qH, qSm, qF1, qF2, qPt, qM, T, R, P, S, Dr, V', Hp, Sm, F1, F2, Pt, M', hw, hrel2⟩ hl

set_option maxHeartbeats 4000000 in
set_option maxRecDepth 100000 in
theorem lc_term {p : Program} {l : Launch} {e : Env} {s : State} {m : MethodId} {args : Array Value} {below : List Frame} {meth : Method} {c : Code} {D : va_G} {cs : CS} {A : Nat → Prop} {Q : State → Prop} {ad ar : Nat → Nat} {b L : Nat} {xs : Nat → Int32} {a am : Nat} {Rel : RelT} (X : FX D (TY cs) p s m args meth c cL_law 4 wsL_law RL A (some .boolean)) (hE : SE ad ar A s s.heap) (hXs : va_X b L xs s s.heap) (hbl : b < s.heap.size) (hbA : ¬ A b) {H : Heap} {locs : List Loc} {ls : Array Slot} {i : Int32} (hLW : LW Rel D A s cs a am H locs) (hl : lv_has ls 4 [(0, .ref b), (1, .ref a), (2, .ref am), (3, .int i)]) (h1 : vp_in (i + 1) L) (h2 : vp_in (i + 2) L) (h3 : vp_in (i + 3) L) (h4 : vp_in (i + 4) L) (h5 : vp_in (i + 5) L) (hst : St_term Rel) (K : ∀ (H : Heap) (locs : List Loc) (ls : Array Slot), LW Rel D A s cs a am H locs → lv_has ls 4 [(0, .ref b), (1, .ref a), (2, .ref am), (3, .int i)] → W p l e room_1 s m args below meth c H locs 69 3778 Q (F0 m 1415 ls [])) : W p l e room_1 s m args below meth c H locs 69 3778 Q (F0 m 1103 ls []) := by
  obtain ⟨hx, hb, hml, hown, hts, hK, hA, hr, hlk⟩ := id X
  obtain ⟨q, qT, qP, qS, qDr, qV, qH, qSm, qF1, qF2, qPt, qM, T, R, P, S, Dr, V, Hp, Sm, F1, F2, Pt, M, hw, hrel⟩ := hLW
  obtain ⟨y1, ey1⟩ : ∃ y : Int32, y = xs (i + 1).toNatClampNeg := ⟨_, rfl⟩
  obtain ⟨y2, ey2⟩ : ∃ y : Int32, y = xs (i + 2).toNatClampNeg := ⟨_, rfl⟩
  obtain ⟨y3, ey3⟩ : ∃ y : Int32, y = xs (i + 3).toNatClampNeg := ⟨_, rfl⟩
  obtain ⟨y4, ey4⟩ : ∃ y : Int32, y = xs (i + 4).toNatClampNeg := ⟨_, rfl⟩
  obtain ⟨y5, ey5⟩ : ∃ y : Int32, y = xs (i + 5).toNatClampNeg := ⟨_, rfl⟩
  refine lv_aload_n (pc := 1103) hx hb dL_law_1103 rfl (lv_at hl 1 rfl) ?_
  refine lv_aload_n (pc := 1104) hx hb dL_law_1104 rfl (lv_at hl 0 rfl) ?_
  refine lv_iload_n (pc := 1105) hx hb dL_law_1105 rfl (lv_at hl 3 rfl) ?_
  refine lv_iconst (pc := 1106) (v := 1) hx hb dL_law_1106 (by decide) ?_
  refine lv_iadd (pc := 1107) hx hb dL_law_1107 ?_
  refine va_sld (pc := 1108) hx hb hXs hbl hbA hw.2.2 h1 dL_law_1108 ?_
  refine x_topi ey1 ?_
  refine lv_aload_n (pc := 1109) hx hb dL_law_1109 rfl (lv_at hl 0 rfl) ?_
  refine lv_iload_n (pc := 1110) hx hb dL_law_1110 rfl (lv_at hl 3 rfl) ?_
  refine lv_iconst (pc := 1111) (v := 2) hx hb dL_law_1111 (by decide) ?_
  refine lv_iadd (pc := 1112) hx hb dL_law_1112 ?_
  refine va_sld (pc := 1113) hx hb hXs hbl hbA hw.2.2 h2 dL_law_1113 ?_
  refine x_topi ey2 ?_
  refine lv_aload_n (pc := 1114) hx hb dL_law_1114 rfl (lv_at hl 0 rfl) ?_
  refine lv_iload_n (pc := 1115) hx hb dL_law_1115 rfl (lv_at hl 3 rfl) ?_
  refine lv_iconst (pc := 1116) (v := 3) hx hb dL_law_1116 (by decide) ?_
  refine lv_iadd (pc := 1117) hx hb dL_law_1117 ?_
  refine va_sld (pc := 1118) hx hb hXs hbl hbA hw.2.2 h3 dL_law_1118 ?_
  refine x_topi ey3 ?_
  refine lv_aload_n (pc := 1119) hx hb dL_law_1119 rfl (lv_at hl 0 rfl) ?_
  refine lv_iload_n (pc := 1120) hx hb dL_law_1120 rfl (lv_at hl 3 rfl) ?_
  refine lv_iconst (pc := 1121) (v := 4) hx hb dL_law_1121 (by decide) ?_
  refine lv_iadd (pc := 1122) hx hb dL_law_1122 ?_
  refine va_sld (pc := 1123) hx hb hXs hbl hbA hw.2.2 h4 dL_law_1123 ?_
  refine x_topi ey4 ?_
  refine lv_aload_n (pc := 1124) hx hb dL_law_1124 rfl (lv_at hl 0 rfl) ?_
  refine lv_iload_n (pc := 1125) hx hb dL_law_1125 rfl (lv_at hl 3 rfl) ?_
  refine lv_iconst (pc := 1126) (v := 5) hx hb dL_law_1126 (by decide) ?_
  refine lv_iadd (pc := 1127) hx hb dL_law_1127 ?_
  refine va_sld (pc := 1128) hx hb hXs hbl hbA hw.2.2 h5 dL_law_1128 ?_
  refine x_topi ey5 ?_
  obtain ⟨r, F1', F2', M', hf9, hf10, hrel2⟩ := hst _ _ _ _ _ _ _ _ _ _ _ _ hrel y1 y2 y3 y4 y5
  have hC : (wFull cs a q qT qP qS qDr qV qH qSm qF1 qF2 qPt T R P S Dr V Hp Sm F1 F2 Pt ++ wX10 cs am qM M).Perm ((wX9 cs a q ++ wX5 cs (q 7) qF1 F1 ++ wX5 cs (q 8) qF2 F2) ++ (wX6 cs (q 0) qT T ++ wX3 cs (q 1) (fun _ => q 0) R ++ wX2 cs (qS 0) qP P ++ wX7 cs (q 2) qS S ++ wX2 cs (q 3) qDr Dr ++ wX8 cs (q 4) qV V ++ wX0 cs (q 5) qH Hp ++ wX4 cs (q 6) qSm Sm ++ wX1 cs (q 9) qPt Pt ++ wX10 cs am qM M)) := pw (bs := [wX9 cs a q, wX6 cs (q 0) qT T, wX3 cs (q 1) (fun _ => q 0) R, wX2 cs (qS 0) qP P, wX7 cs (q 2) qS S, wX2 cs (q 3) qDr Dr, wX8 cs (q 4) qV V, wX0 cs (q 5) qH Hp, wX4 cs (q 6) qSm Sm, wX5 cs (q 7) qF1 F1, wX5 cs (q 8) qF2 F2, wX1 cs (q 9) qPt Pt, wX10 cs am qM M]) [0, 9, 10] [1, 2, 3, 4, 5, 6, 7, 8, 11, 12] (show (_ ++ _ : List Nat).Perm (List.range 13) by decide)
  have hJ : ((wX6 cs (q 0) qT T ++ wX3 cs (q 1) (fun _ => q 0) R ++ wX2 cs (qS 0) qP P ++ wX7 cs (q 2) qS S ++ wX2 cs (q 3) qDr Dr ++ wX8 cs (q 4) qV V ++ wX0 cs (q 5) qH Hp ++ wX4 cs (q 6) qSm Sm ++ wX1 cs (q 9) qPt Pt ++ wX10 cs am qM M) ++ (wX9 cs a q ++ wX5 cs (q 7) qF1 F1' ++ wX5 cs (q 8) qF2 F2')).Perm (wFull cs a q qT qP qS qDr qV qH qSm qF1 qF2 qPt T R P S Dr V Hp Sm F1' F2' Pt ++ wX10 cs am qM M) := List.perm_append_comm.trans (pw (bs := [wX9 cs a q, wX6 cs (q 0) qT T, wX3 cs (q 1) (fun _ => q 0) R, wX2 cs (qS 0) qP P, wX7 cs (q 2) qS S, wX2 cs (q 3) qDr Dr, wX8 cs (q 4) qV V, wX0 cs (q 5) qH Hp, wX4 cs (q 6) qSm Sm, wX5 cs (q 7) qF1 F1', wX5 cs (q 8) qF2 F2', wX1 cs (q 9) qPt Pt, wX10 cs am qM M]) [0, 9, 10] [1, 2, 3, 4, 5, 6, 7, 8, 11, 12] (show (_ ++ _ : List Nat).Perm (List.range 13) by decide)).symm
  refine x_cutP (pc := 1129) X hw hC hJ (va_runV (As := [.int y1, .int y2, .int y3, .int y4, .int y5]) (rest := []) ⟨hx, hb, hml, hown, hts⟩ (c_X9_term l D cs a q qF1 qF2 F1 F2 y1 y2 y3 y4 y5 r F1' F2' hf9 _) (cwV 5 hts gL_law_X9_term rfl rfl rfl (by decide +kernel) ⟨Nat.le_of_ble_eq_true rfl, Nat.le_of_ble_eq_true rfl⟩) ⟨CP_blind, va_recv hK (hw.perm hC).1 (ci := 9) (q0 := 0) rfl rfl, x_preP X hw hC [.ref a, .int y1, .int y2, .int y3, .int y4, .int y5]⟩ rfl rfl hl.1 rfl (lv_room (Nat.le_of_ble_eq_true rfl)) dL_law_1129 ⟨Nat.le_of_ble_eq_true rfl, Nat.le_of_ble_eq_true rfl⟩) (fun H locs hw => ?_)
  refine lv_aload_n (pc := 1132) hx hb dL_law_1132 rfl (lv_at hl 2 rfl) ?_
  refine lv_aload_n (pc := 1133) hx hb dL_law_1133 rfl (lv_at hl 0 rfl) ?_
  refine lv_iload_n (pc := 1134) hx hb dL_law_1134 rfl (lv_at hl 3 rfl) ?_
  refine lv_iconst (pc := 1135) (v := 1) hx hb dL_law_1135 (by decide) ?_
  refine lv_iadd (pc := 1136) hx hb dL_law_1136 ?_
  refine va_sld (pc := 1137) hx hb hXs hbl hbA hw.2.2 h1 dL_law_1137 ?_
  refine x_topi ey1 ?_
  refine lv_aload_n (pc := 1138) hx hb dL_law_1138 rfl (lv_at hl 0 rfl) ?_
  refine lv_iload_n (pc := 1139) hx hb dL_law_1139 rfl (lv_at hl 3 rfl) ?_
  refine lv_iconst (pc := 1140) (v := 2) hx hb dL_law_1140 (by decide) ?_
  refine lv_iadd (pc := 1141) hx hb dL_law_1141 ?_
  refine va_sld (pc := 1142) hx hb hXs hbl hbA hw.2.2 h2 dL_law_1142 ?_
  refine x_topi ey2 ?_
  refine lv_aload_n (pc := 1143) hx hb dL_law_1143 rfl (lv_at hl 0 rfl) ?_
  refine lv_iload_n (pc := 1144) hx hb dL_law_1144 rfl (lv_at hl 3 rfl) ?_
  refine lv_iconst (pc := 1145) (v := 3) hx hb dL_law_1145 (by decide) ?_
  refine lv_iadd (pc := 1146) hx hb dL_law_1146 ?_
  refine va_sld (pc := 1147) hx hb hXs hbl hbA hw.2.2 h3 dL_law_1147 ?_
  refine x_topi ey3 ?_
  refine lv_aload_n (pc := 1148) hx hb dL_law_1148 rfl (lv_at hl 0 rfl) ?_
  refine lv_iload_n (pc := 1149) hx hb dL_law_1149 rfl (lv_at hl 3 rfl) ?_
  refine lv_iconst (pc := 1150) (v := 4) hx hb dL_law_1150 (by decide) ?_
  refine lv_iadd (pc := 1151) hx hb dL_law_1151 ?_
  refine va_sld (pc := 1152) hx hb hXs hbl hbA hw.2.2 h4 dL_law_1152 ?_
  refine x_topi ey4 ?_
  refine lv_aload_n (pc := 1153) hx hb dL_law_1153 rfl (lv_at hl 0 rfl) ?_
  refine lv_iload_n (pc := 1154) hx hb dL_law_1154 rfl (lv_at hl 3 rfl) ?_
  refine lv_iconst (pc := 1155) (v := 5) hx hb dL_law_1155 (by decide) ?_
  refine lv_iadd (pc := 1156) hx hb dL_law_1156 ?_
  refine va_sld (pc := 1157) hx hb hXs hbl hbA hw.2.2 h5 dL_law_1157 ?_
  refine x_topi ey5 ?_
  have hC : (wFull cs a q qT qP qS qDr qV qH qSm qF1 qF2 qPt T R P S Dr V Hp Sm F1' F2' Pt ++ wX10 cs am qM M).Perm ((wX10 cs am qM M) ++ (wX9 cs a q ++ wX6 cs (q 0) qT T ++ wX3 cs (q 1) (fun _ => q 0) R ++ wX2 cs (qS 0) qP P ++ wX7 cs (q 2) qS S ++ wX2 cs (q 3) qDr Dr ++ wX8 cs (q 4) qV V ++ wX0 cs (q 5) qH Hp ++ wX4 cs (q 6) qSm Sm ++ wX5 cs (q 7) qF1 F1' ++ wX5 cs (q 8) qF2 F2' ++ wX1 cs (q 9) qPt Pt)) := pw (bs := [wX9 cs a q, wX6 cs (q 0) qT T, wX3 cs (q 1) (fun _ => q 0) R, wX2 cs (qS 0) qP P, wX7 cs (q 2) qS S, wX2 cs (q 3) qDr Dr, wX8 cs (q 4) qV V, wX0 cs (q 5) qH Hp, wX4 cs (q 6) qSm Sm, wX5 cs (q 7) qF1 F1', wX5 cs (q 8) qF2 F2', wX1 cs (q 9) qPt Pt, wX10 cs am qM M]) [12] [0, 1, 2, 3, 4, 5, 6, 7, 8, 9, 10, 11] (show (_ ++ _ : List Nat).Perm (List.range 13) by decide)
  have hJ : ((wX9 cs a q ++ wX6 cs (q 0) qT T ++ wX3 cs (q 1) (fun _ => q 0) R ++ wX2 cs (qS 0) qP P ++ wX7 cs (q 2) qS S ++ wX2 cs (q 3) qDr Dr ++ wX8 cs (q 4) qV V ++ wX0 cs (q 5) qH Hp ++ wX4 cs (q 6) qSm Sm ++ wX5 cs (q 7) qF1 F1' ++ wX5 cs (q 8) qF2 F2' ++ wX1 cs (q 9) qPt Pt) ++ (wX10 cs am qM M')).Perm (wFull cs a q qT qP qS qDr qV qH qSm qF1 qF2 qPt T R P S Dr V Hp Sm F1' F2' Pt ++ wX10 cs am qM M') := List.perm_append_comm.trans (pw (bs := [wX9 cs a q, wX6 cs (q 0) qT T, wX3 cs (q 1) (fun _ => q 0) R, wX2 cs (qS 0) qP P, wX7 cs (q 2) qS S, wX2 cs (q 3) qDr Dr, wX8 cs (q 4) qV V, wX0 cs (q 5) qH Hp, wX4 cs (q 6) qSm Sm, wX5 cs (q 7) qF1 F1', wX5 cs (q 8) qF2 F2', wX1 cs (q 9) qPt Pt, wX10 cs am qM M']) [12] [0, 1, 2, 3, 4, 5, 6, 7, 8, 9, 10, 11] (show (_ ++ _ : List Nat).Perm (List.range 13) by decide)).symm
  refine x_cutP (pc := 1158) X hw hC hJ (va_runV (As := [.int y1, .int y2, .int y3, .int y4, .int y5]) (rest := [.int r]) ⟨hx, hb, hml, hown, hts⟩ (c_X10_term l D cs am qM M y1 y2 y3 y4 y5 r M' hf10 _) (cwV 5 hts gL_law_X10_term rfl rfl rfl (by decide +kernel) ⟨Nat.le_of_ble_eq_true rfl, Nat.le_of_ble_eq_true rfl⟩) ⟨CP_blind, va_recv hK (hw.perm hC).1 (ci := 10) (q0 := 0) rfl rfl, x_preP X hw hC [.ref am, .int y1, .int y2, .int y3, .int y4, .int y5]⟩ rfl rfl hl.1 rfl (lv_room (Nat.le_of_ble_eq_true rfl)) dL_law_1158 ⟨Nat.le_of_ble_eq_true rfl, Nat.le_of_ble_eq_true rfl⟩) (fun H locs hw => ?_)
  refine lv_icmp_eq (pc := 1161) (tgt := 1415) hx hb dL_law_1161 (by decide) (fun _ => ?_) (fun c0 => absurd rfl c0)
  exact K _ _ _ ⟨q, qT, qP, qS, qDr, qV, qH, qSm, qF1, qF2, qPt, qM, T, R, P, S, Dr, V, Hp, Sm, F1', F2', Pt, M', hw, hrel2⟩ hl

set_option maxHeartbeats 4000000 in
set_option maxRecDepth 100000 in
theorem lc_value {p : Program} {l : Launch} {e : Env} {s : State} {m : MethodId} {args : Array Value} {below : List Frame} {meth : Method} {c : Code} {D : va_G} {cs : CS} {A : Nat → Prop} {Q : State → Prop} {ad ar : Nat → Nat} {b L : Nat} {xs : Nat → Int32} {a am : Nat} {Rel : RelT} (X : FX D (TY cs) p s m args meth c cL_law 4 wsL_law RL A (some .boolean)) (hE : SE ad ar A s s.heap) (hXs : va_X b L xs s s.heap) (hbl : b < s.heap.size) (hbA : ¬ A b) {H : Heap} {locs : List Loc} {ls : Array Slot} {i : Int32} (hLW : LW Rel D A s cs a am H locs) (hl : lv_has ls 4 [(0, .ref b), (1, .ref a), (2, .ref am), (3, .int i)]) (h1 : vp_in (i + 1) L) (h2 : vp_in (i + 2) L) (h3 : vp_in (i + 3) L) (h4 : vp_in (i + 4) L) (h5 : vp_in (i + 5) L) (hst : St_value Rel) (K : ∀ (H : Heap) (locs : List Loc) (ls : Array Slot), LW Rel D A s cs a am H locs → lv_has ls 4 [(0, .ref b), (1, .ref a), (2, .ref am), (3, .int i)] → W p l e room_1 s m args below meth c H locs 69 3778 Q (F0 m 1415 ls [])) : W p l e room_1 s m args below meth c H locs 69 3778 Q (F0 m 1166 ls []) := by
  obtain ⟨hx, hb, hml, hown, hts, hK, hA, hr, hlk⟩ := id X
  obtain ⟨q, qT, qP, qS, qDr, qV, qH, qSm, qF1, qF2, qPt, qM, T, R, P, S, Dr, V, Hp, Sm, F1, F2, Pt, M, hw, hrel⟩ := hLW
  obtain ⟨y1, ey1⟩ : ∃ y : Int32, y = xs (i + 1).toNatClampNeg := ⟨_, rfl⟩
  obtain ⟨y2, ey2⟩ : ∃ y : Int32, y = xs (i + 2).toNatClampNeg := ⟨_, rfl⟩
  obtain ⟨y3, ey3⟩ : ∃ y : Int32, y = xs (i + 3).toNatClampNeg := ⟨_, rfl⟩
  obtain ⟨y4, ey4⟩ : ∃ y : Int32, y = xs (i + 4).toNatClampNeg := ⟨_, rfl⟩
  obtain ⟨y5, ey5⟩ : ∃ y : Int32, y = xs (i + 5).toNatClampNeg := ⟨_, rfl⟩
  refine lv_aload_n (pc := 1166) hx hb dL_law_1166 rfl (lv_at hl 1 rfl) ?_
  refine lv_aload_n (pc := 1167) hx hb dL_law_1167 rfl (lv_at hl 0 rfl) ?_
  refine lv_iload_n (pc := 1168) hx hb dL_law_1168 rfl (lv_at hl 3 rfl) ?_
  refine lv_iconst (pc := 1169) (v := 1) hx hb dL_law_1169 (by decide) ?_
  refine lv_iadd (pc := 1170) hx hb dL_law_1170 ?_
  refine va_sld (pc := 1171) hx hb hXs hbl hbA hw.2.2 h1 dL_law_1171 ?_
  refine x_topi ey1 ?_
  refine lv_aload_n (pc := 1172) hx hb dL_law_1172 rfl (lv_at hl 0 rfl) ?_
  refine lv_iload_n (pc := 1173) hx hb dL_law_1173 rfl (lv_at hl 3 rfl) ?_
  refine lv_iconst (pc := 1174) (v := 2) hx hb dL_law_1174 (by decide) ?_
  refine lv_iadd (pc := 1175) hx hb dL_law_1175 ?_
  refine va_sld (pc := 1176) hx hb hXs hbl hbA hw.2.2 h2 dL_law_1176 ?_
  refine x_topi ey2 ?_
  refine lv_aload_n (pc := 1177) hx hb dL_law_1177 rfl (lv_at hl 0 rfl) ?_
  refine lv_iload_n (pc := 1178) hx hb dL_law_1178 rfl (lv_at hl 3 rfl) ?_
  refine lv_iconst (pc := 1179) (v := 3) hx hb dL_law_1179 (by decide) ?_
  refine lv_iadd (pc := 1180) hx hb dL_law_1180 ?_
  refine va_sld (pc := 1181) hx hb hXs hbl hbA hw.2.2 h3 dL_law_1181 ?_
  refine x_topi ey3 ?_
  refine lv_aload_n (pc := 1182) hx hb dL_law_1182 rfl (lv_at hl 0 rfl) ?_
  refine lv_iload_n (pc := 1183) hx hb dL_law_1183 rfl (lv_at hl 3 rfl) ?_
  refine lv_iconst (pc := 1184) (v := 4) hx hb dL_law_1184 (by decide) ?_
  refine lv_iadd (pc := 1185) hx hb dL_law_1185 ?_
  refine va_sld (pc := 1186) hx hb hXs hbl hbA hw.2.2 h4 dL_law_1186 ?_
  refine x_topi ey4 ?_
  obtain ⟨r, Pt', hf9, hf10, hrel2⟩ := hst _ _ _ _ _ _ _ _ _ _ _ _ hrel y1 y2 y3 y4
  have hC : (wFull cs a q qT qP qS qDr qV qH qSm qF1 qF2 qPt T R P S Dr V Hp Sm F1 F2 Pt ++ wX10 cs am qM M).Perm ((wX9 cs a q ++ wX5 cs (q 7) qF1 F1 ++ wX5 cs (q 8) qF2 F2 ++ wX1 cs (q 9) qPt Pt) ++ (wX6 cs (q 0) qT T ++ wX3 cs (q 1) (fun _ => q 0) R ++ wX2 cs (qS 0) qP P ++ wX7 cs (q 2) qS S ++ wX2 cs (q 3) qDr Dr ++ wX8 cs (q 4) qV V ++ wX0 cs (q 5) qH Hp ++ wX4 cs (q 6) qSm Sm ++ wX10 cs am qM M)) := pw (bs := [wX9 cs a q, wX6 cs (q 0) qT T, wX3 cs (q 1) (fun _ => q 0) R, wX2 cs (qS 0) qP P, wX7 cs (q 2) qS S, wX2 cs (q 3) qDr Dr, wX8 cs (q 4) qV V, wX0 cs (q 5) qH Hp, wX4 cs (q 6) qSm Sm, wX5 cs (q 7) qF1 F1, wX5 cs (q 8) qF2 F2, wX1 cs (q 9) qPt Pt, wX10 cs am qM M]) [0, 9, 10, 11] [1, 2, 3, 4, 5, 6, 7, 8, 12] (show (_ ++ _ : List Nat).Perm (List.range 13) by decide)
  have hJ : ((wX6 cs (q 0) qT T ++ wX3 cs (q 1) (fun _ => q 0) R ++ wX2 cs (qS 0) qP P ++ wX7 cs (q 2) qS S ++ wX2 cs (q 3) qDr Dr ++ wX8 cs (q 4) qV V ++ wX0 cs (q 5) qH Hp ++ wX4 cs (q 6) qSm Sm ++ wX10 cs am qM M) ++ (wX9 cs a q ++ wX5 cs (q 7) qF1 F1 ++ wX5 cs (q 8) qF2 F2 ++ wX1 cs (q 9) qPt Pt')).Perm (wFull cs a q qT qP qS qDr qV qH qSm qF1 qF2 qPt T R P S Dr V Hp Sm F1 F2 Pt' ++ wX10 cs am qM M) := List.perm_append_comm.trans (pw (bs := [wX9 cs a q, wX6 cs (q 0) qT T, wX3 cs (q 1) (fun _ => q 0) R, wX2 cs (qS 0) qP P, wX7 cs (q 2) qS S, wX2 cs (q 3) qDr Dr, wX8 cs (q 4) qV V, wX0 cs (q 5) qH Hp, wX4 cs (q 6) qSm Sm, wX5 cs (q 7) qF1 F1, wX5 cs (q 8) qF2 F2, wX1 cs (q 9) qPt Pt', wX10 cs am qM M]) [0, 9, 10, 11] [1, 2, 3, 4, 5, 6, 7, 8, 12] (show (_ ++ _ : List Nat).Perm (List.range 13) by decide)).symm
  refine x_cutP (pc := 1187) X hw hC hJ (va_runV (As := [.int y1, .int y2, .int y3, .int y4]) (rest := []) ⟨hx, hb, hml, hown, hts⟩ (c_X9_value l D cs a q qF1 qF2 qPt F1 F2 Pt y1 y2 y3 y4 r Pt' hf9 _) (cwV 4 hts gL_law_X9_value rfl rfl rfl (by decide +kernel) ⟨Nat.le_of_ble_eq_true rfl, Nat.le_of_ble_eq_true rfl⟩) ⟨CP_blind, va_recv hK (hw.perm hC).1 (ci := 9) (q0 := 0) rfl rfl, x_preP X hw hC [.ref a, .int y1, .int y2, .int y3, .int y4]⟩ rfl rfl hl.1 rfl (lv_room (Nat.le_of_ble_eq_true rfl)) dL_law_1187 ⟨Nat.le_of_ble_eq_true rfl, Nat.le_of_ble_eq_true rfl⟩) (fun H locs hw => ?_)
  refine lv_aload_n (pc := 1190) hx hb dL_law_1190 rfl (lv_at hl 2 rfl) ?_
  refine lv_aload_n (pc := 1191) hx hb dL_law_1191 rfl (lv_at hl 0 rfl) ?_
  refine lv_iload_n (pc := 1192) hx hb dL_law_1192 rfl (lv_at hl 3 rfl) ?_
  refine lv_iconst (pc := 1193) (v := 1) hx hb dL_law_1193 (by decide) ?_
  refine lv_iadd (pc := 1194) hx hb dL_law_1194 ?_
  refine va_sld (pc := 1195) hx hb hXs hbl hbA hw.2.2 h1 dL_law_1195 ?_
  refine x_topi ey1 ?_
  refine lv_aload_n (pc := 1196) hx hb dL_law_1196 rfl (lv_at hl 0 rfl) ?_
  refine lv_iload_n (pc := 1197) hx hb dL_law_1197 rfl (lv_at hl 3 rfl) ?_
  refine lv_iconst (pc := 1198) (v := 2) hx hb dL_law_1198 (by decide) ?_
  refine lv_iadd (pc := 1199) hx hb dL_law_1199 ?_
  refine va_sld (pc := 1200) hx hb hXs hbl hbA hw.2.2 h2 dL_law_1200 ?_
  refine x_topi ey2 ?_
  refine lv_aload_n (pc := 1201) hx hb dL_law_1201 rfl (lv_at hl 0 rfl) ?_
  refine lv_iload_n (pc := 1202) hx hb dL_law_1202 rfl (lv_at hl 3 rfl) ?_
  refine lv_iconst (pc := 1203) (v := 3) hx hb dL_law_1203 (by decide) ?_
  refine lv_iadd (pc := 1204) hx hb dL_law_1204 ?_
  refine va_sld (pc := 1205) hx hb hXs hbl hbA hw.2.2 h3 dL_law_1205 ?_
  refine x_topi ey3 ?_
  refine lv_aload_n (pc := 1206) hx hb dL_law_1206 rfl (lv_at hl 0 rfl) ?_
  refine lv_iload_n (pc := 1207) hx hb dL_law_1207 rfl (lv_at hl 3 rfl) ?_
  refine lv_iconst (pc := 1208) (v := 4) hx hb dL_law_1208 (by decide) ?_
  refine lv_iadd (pc := 1209) hx hb dL_law_1209 ?_
  refine va_sld (pc := 1210) hx hb hXs hbl hbA hw.2.2 h4 dL_law_1210 ?_
  refine x_topi ey4 ?_
  have hC : (wFull cs a q qT qP qS qDr qV qH qSm qF1 qF2 qPt T R P S Dr V Hp Sm F1 F2 Pt' ++ wX10 cs am qM M).Perm ((wX10 cs am qM M) ++ (wX9 cs a q ++ wX6 cs (q 0) qT T ++ wX3 cs (q 1) (fun _ => q 0) R ++ wX2 cs (qS 0) qP P ++ wX7 cs (q 2) qS S ++ wX2 cs (q 3) qDr Dr ++ wX8 cs (q 4) qV V ++ wX0 cs (q 5) qH Hp ++ wX4 cs (q 6) qSm Sm ++ wX5 cs (q 7) qF1 F1 ++ wX5 cs (q 8) qF2 F2 ++ wX1 cs (q 9) qPt Pt')) := pw (bs := [wX9 cs a q, wX6 cs (q 0) qT T, wX3 cs (q 1) (fun _ => q 0) R, wX2 cs (qS 0) qP P, wX7 cs (q 2) qS S, wX2 cs (q 3) qDr Dr, wX8 cs (q 4) qV V, wX0 cs (q 5) qH Hp, wX4 cs (q 6) qSm Sm, wX5 cs (q 7) qF1 F1, wX5 cs (q 8) qF2 F2, wX1 cs (q 9) qPt Pt', wX10 cs am qM M]) [12] [0, 1, 2, 3, 4, 5, 6, 7, 8, 9, 10, 11] (show (_ ++ _ : List Nat).Perm (List.range 13) by decide)
  have hJ : ((wX9 cs a q ++ wX6 cs (q 0) qT T ++ wX3 cs (q 1) (fun _ => q 0) R ++ wX2 cs (qS 0) qP P ++ wX7 cs (q 2) qS S ++ wX2 cs (q 3) qDr Dr ++ wX8 cs (q 4) qV V ++ wX0 cs (q 5) qH Hp ++ wX4 cs (q 6) qSm Sm ++ wX5 cs (q 7) qF1 F1 ++ wX5 cs (q 8) qF2 F2 ++ wX1 cs (q 9) qPt Pt') ++ (wX10 cs am qM M)).Perm (wFull cs a q qT qP qS qDr qV qH qSm qF1 qF2 qPt T R P S Dr V Hp Sm F1 F2 Pt' ++ wX10 cs am qM M) := List.perm_append_comm.trans (pw (bs := [wX9 cs a q, wX6 cs (q 0) qT T, wX3 cs (q 1) (fun _ => q 0) R, wX2 cs (qS 0) qP P, wX7 cs (q 2) qS S, wX2 cs (q 3) qDr Dr, wX8 cs (q 4) qV V, wX0 cs (q 5) qH Hp, wX4 cs (q 6) qSm Sm, wX5 cs (q 7) qF1 F1, wX5 cs (q 8) qF2 F2, wX1 cs (q 9) qPt Pt', wX10 cs am qM M]) [12] [0, 1, 2, 3, 4, 5, 6, 7, 8, 9, 10, 11] (show (_ ++ _ : List Nat).Perm (List.range 13) by decide)).symm
  refine x_cutP (pc := 1211) X hw hC hJ (va_runV (As := [.int y1, .int y2, .int y3, .int y4]) (rest := [.long r]) ⟨hx, hb, hml, hown, hts⟩ (c_X10_value l D cs am qM M y1 y2 y3 y4 r hf10 _) (cwV 4 hts gL_law_X10_value rfl rfl rfl (by decide +kernel) ⟨Nat.le_of_ble_eq_true rfl, Nat.le_of_ble_eq_true rfl⟩) ⟨CP_blind, va_recv hK (hw.perm hC).1 (ci := 10) (q0 := 0) rfl rfl, x_preP X hw hC [.ref am, .int y1, .int y2, .int y3, .int y4]⟩ rfl rfl hl.1 rfl (lv_room (Nat.le_of_ble_eq_true rfl)) dL_law_1211 ⟨Nat.le_of_ble_eq_true rfl, Nat.le_of_ble_eq_true rfl⟩) (fun H locs hw => ?_)
  refine W.lcmp (pc := 1214) hx hb dL_law_1214 ?_
  refine lv_if_eq (pc := 1215) (tgt := 1415) hx hb dL_law_1215 (by decide) (fun _ => ?_) (fun c0 => absurd (by simp [lg_cmp]) c0)
  exact K _ _ _ ⟨q, qT, qP, qS, qDr, qV, qH, qSm, qF1, qF2, qPt, qM, T, R, P, S, Dr, V, Hp, Sm, F1, F2, Pt', M, hw, hrel2⟩ hl

set_option maxHeartbeats 4000000 in
set_option maxRecDepth 100000 in
theorem lc_degree {p : Program} {l : Launch} {e : Env} {s : State} {m : MethodId} {args : Array Value} {below : List Frame} {meth : Method} {c : Code} {D : va_G} {cs : CS} {A : Nat → Prop} {Q : State → Prop} {ad ar : Nat → Nat} {b L : Nat} {xs : Nat → Int32} {a am : Nat} {Rel : RelT} (X : FX D (TY cs) p s m args meth c cL_law 4 wsL_law RL A (some .boolean)) (hE : SE ad ar A s s.heap) (hXs : va_X b L xs s s.heap) (hbl : b < s.heap.size) (hbA : ¬ A b) {H : Heap} {locs : List Loc} {ls : Array Slot} {i : Int32} (hLW : LW Rel D A s cs a am H locs) (hl : lv_has ls 4 [(0, .ref b), (1, .ref a), (2, .ref am), (3, .int i)]) (h1 : vp_in (i + 1) L) (h2 : vp_in (i + 2) L) (h3 : vp_in (i + 3) L) (h4 : vp_in (i + 4) L) (h5 : vp_in (i + 5) L) (hst : St_degree Rel) (K : ∀ (H : Heap) (locs : List Loc) (ls : Array Slot), LW Rel D A s cs a am H locs → lv_has ls 4 [(0, .ref b), (1, .ref a), (2, .ref am), (3, .int i)] → W p l e room_1 s m args below meth c H locs 69 3778 Q (F0 m 1415 ls [])) : W p l e room_1 s m args below meth c H locs 69 3778 Q (F0 m 1220 ls []) := by
  obtain ⟨hx, hb, hml, hown, hts, hK, hA, hr, hlk⟩ := id X
  obtain ⟨q, qT, qP, qS, qDr, qV, qH, qSm, qF1, qF2, qPt, qM, T, R, P, S, Dr, V, Hp, Sm, F1, F2, Pt, M, hw, hrel⟩ := hLW
  obtain ⟨y1, ey1⟩ : ∃ y : Int32, y = xs (i + 1).toNatClampNeg := ⟨_, rfl⟩
  obtain ⟨y2, ey2⟩ : ∃ y : Int32, y = xs (i + 2).toNatClampNeg := ⟨_, rfl⟩
  obtain ⟨y3, ey3⟩ : ∃ y : Int32, y = xs (i + 3).toNatClampNeg := ⟨_, rfl⟩
  obtain ⟨y4, ey4⟩ : ∃ y : Int32, y = xs (i + 4).toNatClampNeg := ⟨_, rfl⟩
  obtain ⟨y5, ey5⟩ : ∃ y : Int32, y = xs (i + 5).toNatClampNeg := ⟨_, rfl⟩
  refine lv_aload_n (pc := 1220) hx hb dL_law_1220 rfl (lv_at hl 1 rfl) ?_
  refine lv_aload_n (pc := 1221) hx hb dL_law_1221 rfl (lv_at hl 0 rfl) ?_
  refine lv_iload_n (pc := 1222) hx hb dL_law_1222 rfl (lv_at hl 3 rfl) ?_
  refine lv_iconst (pc := 1223) (v := 1) hx hb dL_law_1223 (by decide) ?_
  refine lv_iadd (pc := 1224) hx hb dL_law_1224 ?_
  refine va_sld (pc := 1225) hx hb hXs hbl hbA hw.2.2 h1 dL_law_1225 ?_
  refine x_topi ey1 ?_
  obtain ⟨r, hf9, hf10, hrel2⟩ := hst _ _ _ _ _ _ _ _ _ _ _ _ hrel y1
  have hC : (wFull cs a q qT qP qS qDr qV qH qSm qF1 qF2 qPt T R P S Dr V Hp Sm F1 F2 Pt ++ wX10 cs am qM M).Perm ((wX9 cs a q ++ wX5 cs (q 7) qF1 F1 ++ wX5 cs (q 8) qF2 F2) ++ (wX6 cs (q 0) qT T ++ wX3 cs (q 1) (fun _ => q 0) R ++ wX2 cs (qS 0) qP P ++ wX7 cs (q 2) qS S ++ wX2 cs (q 3) qDr Dr ++ wX8 cs (q 4) qV V ++ wX0 cs (q 5) qH Hp ++ wX4 cs (q 6) qSm Sm ++ wX1 cs (q 9) qPt Pt ++ wX10 cs am qM M)) := pw (bs := [wX9 cs a q, wX6 cs (q 0) qT T, wX3 cs (q 1) (fun _ => q 0) R, wX2 cs (qS 0) qP P, wX7 cs (q 2) qS S, wX2 cs (q 3) qDr Dr, wX8 cs (q 4) qV V, wX0 cs (q 5) qH Hp, wX4 cs (q 6) qSm Sm, wX5 cs (q 7) qF1 F1, wX5 cs (q 8) qF2 F2, wX1 cs (q 9) qPt Pt, wX10 cs am qM M]) [0, 9, 10] [1, 2, 3, 4, 5, 6, 7, 8, 11, 12] (show (_ ++ _ : List Nat).Perm (List.range 13) by decide)
  have hJ : ((wX6 cs (q 0) qT T ++ wX3 cs (q 1) (fun _ => q 0) R ++ wX2 cs (qS 0) qP P ++ wX7 cs (q 2) qS S ++ wX2 cs (q 3) qDr Dr ++ wX8 cs (q 4) qV V ++ wX0 cs (q 5) qH Hp ++ wX4 cs (q 6) qSm Sm ++ wX1 cs (q 9) qPt Pt ++ wX10 cs am qM M) ++ (wX9 cs a q ++ wX5 cs (q 7) qF1 F1 ++ wX5 cs (q 8) qF2 F2)).Perm (wFull cs a q qT qP qS qDr qV qH qSm qF1 qF2 qPt T R P S Dr V Hp Sm F1 F2 Pt ++ wX10 cs am qM M) := List.perm_append_comm.trans (pw (bs := [wX9 cs a q, wX6 cs (q 0) qT T, wX3 cs (q 1) (fun _ => q 0) R, wX2 cs (qS 0) qP P, wX7 cs (q 2) qS S, wX2 cs (q 3) qDr Dr, wX8 cs (q 4) qV V, wX0 cs (q 5) qH Hp, wX4 cs (q 6) qSm Sm, wX5 cs (q 7) qF1 F1, wX5 cs (q 8) qF2 F2, wX1 cs (q 9) qPt Pt, wX10 cs am qM M]) [0, 9, 10] [1, 2, 3, 4, 5, 6, 7, 8, 11, 12] (show (_ ++ _ : List Nat).Perm (List.range 13) by decide)).symm
  refine x_cutP (pc := 1226) X hw hC hJ (va_runV (As := [.int y1]) (rest := []) ⟨hx, hb, hml, hown, hts⟩ (c_X9_degree l D cs a q qF1 qF2 F1 F2 y1 r hf9 _) (cwV 1 hts gL_law_X9_degree rfl rfl rfl (by decide +kernel) ⟨Nat.le_of_ble_eq_true rfl, Nat.le_of_ble_eq_true rfl⟩) ⟨CP_blind, va_recv hK (hw.perm hC).1 (ci := 9) (q0 := 0) rfl rfl, x_preP X hw hC [.ref a, .int y1]⟩ rfl rfl hl.1 rfl (lv_room (Nat.le_of_ble_eq_true rfl)) dL_law_1226 ⟨Nat.le_of_ble_eq_true rfl, Nat.le_of_ble_eq_true rfl⟩) (fun H locs hw => ?_)
  refine lv_aload_n (pc := 1229) hx hb dL_law_1229 rfl (lv_at hl 2 rfl) ?_
  refine lv_aload_n (pc := 1230) hx hb dL_law_1230 rfl (lv_at hl 0 rfl) ?_
  refine lv_iload_n (pc := 1231) hx hb dL_law_1231 rfl (lv_at hl 3 rfl) ?_
  refine lv_iconst (pc := 1232) (v := 1) hx hb dL_law_1232 (by decide) ?_
  refine lv_iadd (pc := 1233) hx hb dL_law_1233 ?_
  refine va_sld (pc := 1234) hx hb hXs hbl hbA hw.2.2 h1 dL_law_1234 ?_
  refine x_topi ey1 ?_
  have hC : (wFull cs a q qT qP qS qDr qV qH qSm qF1 qF2 qPt T R P S Dr V Hp Sm F1 F2 Pt ++ wX10 cs am qM M).Perm ((wX10 cs am qM M) ++ (wX9 cs a q ++ wX6 cs (q 0) qT T ++ wX3 cs (q 1) (fun _ => q 0) R ++ wX2 cs (qS 0) qP P ++ wX7 cs (q 2) qS S ++ wX2 cs (q 3) qDr Dr ++ wX8 cs (q 4) qV V ++ wX0 cs (q 5) qH Hp ++ wX4 cs (q 6) qSm Sm ++ wX5 cs (q 7) qF1 F1 ++ wX5 cs (q 8) qF2 F2 ++ wX1 cs (q 9) qPt Pt)) := pw (bs := [wX9 cs a q, wX6 cs (q 0) qT T, wX3 cs (q 1) (fun _ => q 0) R, wX2 cs (qS 0) qP P, wX7 cs (q 2) qS S, wX2 cs (q 3) qDr Dr, wX8 cs (q 4) qV V, wX0 cs (q 5) qH Hp, wX4 cs (q 6) qSm Sm, wX5 cs (q 7) qF1 F1, wX5 cs (q 8) qF2 F2, wX1 cs (q 9) qPt Pt, wX10 cs am qM M]) [12] [0, 1, 2, 3, 4, 5, 6, 7, 8, 9, 10, 11] (show (_ ++ _ : List Nat).Perm (List.range 13) by decide)
  have hJ : ((wX9 cs a q ++ wX6 cs (q 0) qT T ++ wX3 cs (q 1) (fun _ => q 0) R ++ wX2 cs (qS 0) qP P ++ wX7 cs (q 2) qS S ++ wX2 cs (q 3) qDr Dr ++ wX8 cs (q 4) qV V ++ wX0 cs (q 5) qH Hp ++ wX4 cs (q 6) qSm Sm ++ wX5 cs (q 7) qF1 F1 ++ wX5 cs (q 8) qF2 F2 ++ wX1 cs (q 9) qPt Pt) ++ (wX10 cs am qM M)).Perm (wFull cs a q qT qP qS qDr qV qH qSm qF1 qF2 qPt T R P S Dr V Hp Sm F1 F2 Pt ++ wX10 cs am qM M) := List.perm_append_comm.trans (pw (bs := [wX9 cs a q, wX6 cs (q 0) qT T, wX3 cs (q 1) (fun _ => q 0) R, wX2 cs (qS 0) qP P, wX7 cs (q 2) qS S, wX2 cs (q 3) qDr Dr, wX8 cs (q 4) qV V, wX0 cs (q 5) qH Hp, wX4 cs (q 6) qSm Sm, wX5 cs (q 7) qF1 F1, wX5 cs (q 8) qF2 F2, wX1 cs (q 9) qPt Pt, wX10 cs am qM M]) [12] [0, 1, 2, 3, 4, 5, 6, 7, 8, 9, 10, 11] (show (_ ++ _ : List Nat).Perm (List.range 13) by decide)).symm
  refine x_cutP (pc := 1235) X hw hC hJ (va_runV (As := [.int y1]) (rest := [.int r]) ⟨hx, hb, hml, hown, hts⟩ (c_X10_degree l D cs am qM M y1 r hf10 _) (cwV 1 hts gL_law_X10_degree rfl rfl rfl (by decide +kernel) ⟨Nat.le_of_ble_eq_true rfl, Nat.le_of_ble_eq_true rfl⟩) ⟨CP_blind, va_recv hK (hw.perm hC).1 (ci := 10) (q0 := 0) rfl rfl, x_preP X hw hC [.ref am, .int y1]⟩ rfl rfl hl.1 rfl (lv_room (Nat.le_of_ble_eq_true rfl)) dL_law_1235 ⟨Nat.le_of_ble_eq_true rfl, Nat.le_of_ble_eq_true rfl⟩) (fun H locs hw => ?_)
  refine lv_icmp_eq (pc := 1238) (tgt := 1415) hx hb dL_law_1238 (by decide) (fun _ => ?_) (fun c0 => absurd rfl c0)
  exact K _ _ _ ⟨q, qT, qP, qS, qDr, qV, qH, qSm, qF1, qF2, qPt, qM, T, R, P, S, Dr, V, Hp, Sm, F1, F2, Pt, M, hw, hrel2⟩ hl

set_option maxHeartbeats 4000000 in
set_option maxRecDepth 100000 in
theorem lc_same {p : Program} {l : Launch} {e : Env} {s : State} {m : MethodId} {args : Array Value} {below : List Frame} {meth : Method} {c : Code} {D : va_G} {cs : CS} {A : Nat → Prop} {Q : State → Prop} {ad ar : Nat → Nat} {b L : Nat} {xs : Nat → Int32} {a am : Nat} {Rel : RelT} (X : FX D (TY cs) p s m args meth c cL_law 4 wsL_law RL A (some .boolean)) (hE : SE ad ar A s s.heap) (hXs : va_X b L xs s s.heap) (hbl : b < s.heap.size) (hbA : ¬ A b) {H : Heap} {locs : List Loc} {ls : Array Slot} {i : Int32} (hLW : LW Rel D A s cs a am H locs) (hl : lv_has ls 4 [(0, .ref b), (1, .ref a), (2, .ref am), (3, .int i)]) (h1 : vp_in (i + 1) L) (h2 : vp_in (i + 2) L) (h3 : vp_in (i + 3) L) (h4 : vp_in (i + 4) L) (h5 : vp_in (i + 5) L) (hst : St_same Rel) (K : ∀ (H : Heap) (locs : List Loc) (ls : Array Slot), LW Rel D A s cs a am H locs → lv_has ls 4 [(0, .ref b), (1, .ref a), (2, .ref am), (3, .int i)] → W p l e room_1 s m args below meth c H locs 69 3778 Q (F0 m 1415 ls [])) : W p l e room_1 s m args below meth c H locs 69 3778 Q (F0 m 1243 ls []) := by
  obtain ⟨hx, hb, hml, hown, hts, hK, hA, hr, hlk⟩ := id X
  obtain ⟨q, qT, qP, qS, qDr, qV, qH, qSm, qF1, qF2, qPt, qM, T, R, P, S, Dr, V, Hp, Sm, F1, F2, Pt, M, hw, hrel⟩ := hLW
  obtain ⟨y1, ey1⟩ : ∃ y : Int32, y = xs (i + 1).toNatClampNeg := ⟨_, rfl⟩
  obtain ⟨y2, ey2⟩ : ∃ y : Int32, y = xs (i + 2).toNatClampNeg := ⟨_, rfl⟩
  obtain ⟨y3, ey3⟩ : ∃ y : Int32, y = xs (i + 3).toNatClampNeg := ⟨_, rfl⟩
  obtain ⟨y4, ey4⟩ : ∃ y : Int32, y = xs (i + 4).toNatClampNeg := ⟨_, rfl⟩
  obtain ⟨y5, ey5⟩ : ∃ y : Int32, y = xs (i + 5).toNatClampNeg := ⟨_, rfl⟩
  refine lv_aload_n (pc := 1243) hx hb dL_law_1243 rfl (lv_at hl 1 rfl) ?_
  refine lv_aload_n (pc := 1244) hx hb dL_law_1244 rfl (lv_at hl 0 rfl) ?_
  refine lv_iload_n (pc := 1245) hx hb dL_law_1245 rfl (lv_at hl 3 rfl) ?_
  refine lv_iconst (pc := 1246) (v := 1) hx hb dL_law_1246 (by decide) ?_
  refine lv_iadd (pc := 1247) hx hb dL_law_1247 ?_
  refine va_sld (pc := 1248) hx hb hXs hbl hbA hw.2.2 h1 dL_law_1248 ?_
  refine x_topi ey1 ?_
  refine lv_aload_n (pc := 1249) hx hb dL_law_1249 rfl (lv_at hl 0 rfl) ?_
  refine lv_iload_n (pc := 1250) hx hb dL_law_1250 rfl (lv_at hl 3 rfl) ?_
  refine lv_iconst (pc := 1251) (v := 2) hx hb dL_law_1251 (by decide) ?_
  refine lv_iadd (pc := 1252) hx hb dL_law_1252 ?_
  refine va_sld (pc := 1253) hx hb hXs hbl hbA hw.2.2 h2 dL_law_1253 ?_
  refine x_topi ey2 ?_
  obtain ⟨r, Pt', hf9, hf10, hrel2⟩ := hst _ _ _ _ _ _ _ _ _ _ _ _ hrel y1 y2
  have hC : (wFull cs a q qT qP qS qDr qV qH qSm qF1 qF2 qPt T R P S Dr V Hp Sm F1 F2 Pt ++ wX10 cs am qM M).Perm ((wX9 cs a q ++ wX5 cs (q 7) qF1 F1 ++ wX5 cs (q 8) qF2 F2 ++ wX1 cs (q 9) qPt Pt) ++ (wX6 cs (q 0) qT T ++ wX3 cs (q 1) (fun _ => q 0) R ++ wX2 cs (qS 0) qP P ++ wX7 cs (q 2) qS S ++ wX2 cs (q 3) qDr Dr ++ wX8 cs (q 4) qV V ++ wX0 cs (q 5) qH Hp ++ wX4 cs (q 6) qSm Sm ++ wX10 cs am qM M)) := pw (bs := [wX9 cs a q, wX6 cs (q 0) qT T, wX3 cs (q 1) (fun _ => q 0) R, wX2 cs (qS 0) qP P, wX7 cs (q 2) qS S, wX2 cs (q 3) qDr Dr, wX8 cs (q 4) qV V, wX0 cs (q 5) qH Hp, wX4 cs (q 6) qSm Sm, wX5 cs (q 7) qF1 F1, wX5 cs (q 8) qF2 F2, wX1 cs (q 9) qPt Pt, wX10 cs am qM M]) [0, 9, 10, 11] [1, 2, 3, 4, 5, 6, 7, 8, 12] (show (_ ++ _ : List Nat).Perm (List.range 13) by decide)
  have hJ : ((wX6 cs (q 0) qT T ++ wX3 cs (q 1) (fun _ => q 0) R ++ wX2 cs (qS 0) qP P ++ wX7 cs (q 2) qS S ++ wX2 cs (q 3) qDr Dr ++ wX8 cs (q 4) qV V ++ wX0 cs (q 5) qH Hp ++ wX4 cs (q 6) qSm Sm ++ wX10 cs am qM M) ++ (wX9 cs a q ++ wX5 cs (q 7) qF1 F1 ++ wX5 cs (q 8) qF2 F2 ++ wX1 cs (q 9) qPt Pt')).Perm (wFull cs a q qT qP qS qDr qV qH qSm qF1 qF2 qPt T R P S Dr V Hp Sm F1 F2 Pt' ++ wX10 cs am qM M) := List.perm_append_comm.trans (pw (bs := [wX9 cs a q, wX6 cs (q 0) qT T, wX3 cs (q 1) (fun _ => q 0) R, wX2 cs (qS 0) qP P, wX7 cs (q 2) qS S, wX2 cs (q 3) qDr Dr, wX8 cs (q 4) qV V, wX0 cs (q 5) qH Hp, wX4 cs (q 6) qSm Sm, wX5 cs (q 7) qF1 F1, wX5 cs (q 8) qF2 F2, wX1 cs (q 9) qPt Pt', wX10 cs am qM M]) [0, 9, 10, 11] [1, 2, 3, 4, 5, 6, 7, 8, 12] (show (_ ++ _ : List Nat).Perm (List.range 13) by decide)).symm
  refine x_cutP (pc := 1254) X hw hC hJ (va_runV (As := [.int y1, .int y2]) (rest := []) ⟨hx, hb, hml, hown, hts⟩ (c_X9_same l D cs a q qF1 qF2 qPt F1 F2 Pt y1 y2 r Pt' hf9 _) (cwV 2 hts gL_law_X9_same rfl rfl rfl (by decide +kernel) ⟨Nat.le_of_ble_eq_true rfl, Nat.le_of_ble_eq_true rfl⟩) ⟨CP_blind, va_recv hK (hw.perm hC).1 (ci := 9) (q0 := 0) rfl rfl, x_preP X hw hC [.ref a, .int y1, .int y2]⟩ rfl rfl hl.1 rfl (lv_room (Nat.le_of_ble_eq_true rfl)) dL_law_1254 ⟨Nat.le_of_ble_eq_true rfl, Nat.le_of_ble_eq_true rfl⟩) (fun H locs hw => ?_)
  refine lv_aload_n (pc := 1257) hx hb dL_law_1257 rfl (lv_at hl 2 rfl) ?_
  refine lv_aload_n (pc := 1258) hx hb dL_law_1258 rfl (lv_at hl 0 rfl) ?_
  refine lv_iload_n (pc := 1259) hx hb dL_law_1259 rfl (lv_at hl 3 rfl) ?_
  refine lv_iconst (pc := 1260) (v := 1) hx hb dL_law_1260 (by decide) ?_
  refine lv_iadd (pc := 1261) hx hb dL_law_1261 ?_
  refine va_sld (pc := 1262) hx hb hXs hbl hbA hw.2.2 h1 dL_law_1262 ?_
  refine x_topi ey1 ?_
  refine lv_aload_n (pc := 1263) hx hb dL_law_1263 rfl (lv_at hl 0 rfl) ?_
  refine lv_iload_n (pc := 1264) hx hb dL_law_1264 rfl (lv_at hl 3 rfl) ?_
  refine lv_iconst (pc := 1265) (v := 2) hx hb dL_law_1265 (by decide) ?_
  refine lv_iadd (pc := 1266) hx hb dL_law_1266 ?_
  refine va_sld (pc := 1267) hx hb hXs hbl hbA hw.2.2 h2 dL_law_1267 ?_
  refine x_topi ey2 ?_
  have hC : (wFull cs a q qT qP qS qDr qV qH qSm qF1 qF2 qPt T R P S Dr V Hp Sm F1 F2 Pt' ++ wX10 cs am qM M).Perm ((wX10 cs am qM M) ++ (wX9 cs a q ++ wX6 cs (q 0) qT T ++ wX3 cs (q 1) (fun _ => q 0) R ++ wX2 cs (qS 0) qP P ++ wX7 cs (q 2) qS S ++ wX2 cs (q 3) qDr Dr ++ wX8 cs (q 4) qV V ++ wX0 cs (q 5) qH Hp ++ wX4 cs (q 6) qSm Sm ++ wX5 cs (q 7) qF1 F1 ++ wX5 cs (q 8) qF2 F2 ++ wX1 cs (q 9) qPt Pt')) := pw (bs := [wX9 cs a q, wX6 cs (q 0) qT T, wX3 cs (q 1) (fun _ => q 0) R, wX2 cs (qS 0) qP P, wX7 cs (q 2) qS S, wX2 cs (q 3) qDr Dr, wX8 cs (q 4) qV V, wX0 cs (q 5) qH Hp, wX4 cs (q 6) qSm Sm, wX5 cs (q 7) qF1 F1, wX5 cs (q 8) qF2 F2, wX1 cs (q 9) qPt Pt', wX10 cs am qM M]) [12] [0, 1, 2, 3, 4, 5, 6, 7, 8, 9, 10, 11] (show (_ ++ _ : List Nat).Perm (List.range 13) by decide)
  have hJ : ((wX9 cs a q ++ wX6 cs (q 0) qT T ++ wX3 cs (q 1) (fun _ => q 0) R ++ wX2 cs (qS 0) qP P ++ wX7 cs (q 2) qS S ++ wX2 cs (q 3) qDr Dr ++ wX8 cs (q 4) qV V ++ wX0 cs (q 5) qH Hp ++ wX4 cs (q 6) qSm Sm ++ wX5 cs (q 7) qF1 F1 ++ wX5 cs (q 8) qF2 F2 ++ wX1 cs (q 9) qPt Pt') ++ (wX10 cs am qM M)).Perm (wFull cs a q qT qP qS qDr qV qH qSm qF1 qF2 qPt T R P S Dr V Hp Sm F1 F2 Pt' ++ wX10 cs am qM M) := List.perm_append_comm.trans (pw (bs := [wX9 cs a q, wX6 cs (q 0) qT T, wX3 cs (q 1) (fun _ => q 0) R, wX2 cs (qS 0) qP P, wX7 cs (q 2) qS S, wX2 cs (q 3) qDr Dr, wX8 cs (q 4) qV V, wX0 cs (q 5) qH Hp, wX4 cs (q 6) qSm Sm, wX5 cs (q 7) qF1 F1, wX5 cs (q 8) qF2 F2, wX1 cs (q 9) qPt Pt', wX10 cs am qM M]) [12] [0, 1, 2, 3, 4, 5, 6, 7, 8, 9, 10, 11] (show (_ ++ _ : List Nat).Perm (List.range 13) by decide)).symm
  refine x_cutP (pc := 1268) X hw hC hJ (va_runV (As := [.int y1, .int y2]) (rest := [.int r]) ⟨hx, hb, hml, hown, hts⟩ (c_X10_same l D cs am qM M y1 y2 r hf10 _) (cwV 2 hts gL_law_X10_same rfl rfl rfl (by decide +kernel) ⟨Nat.le_of_ble_eq_true rfl, Nat.le_of_ble_eq_true rfl⟩) ⟨CP_blind, va_recv hK (hw.perm hC).1 (ci := 10) (q0 := 0) rfl rfl, x_preP X hw hC [.ref am, .int y1, .int y2]⟩ rfl rfl hl.1 rfl (lv_room (Nat.le_of_ble_eq_true rfl)) dL_law_1268 ⟨Nat.le_of_ble_eq_true rfl, Nat.le_of_ble_eq_true rfl⟩) (fun H locs hw => ?_)
  refine lv_icmp_eq (pc := 1271) (tgt := 1415) hx hb dL_law_1271 (by decide) (fun _ => ?_) (fun c0 => absurd rfl c0)
  exact K _ _ _ ⟨q, qT, qP, qS, qDr, qV, qH, qSm, qF1, qF2, qPt, qM, T, R, P, S, Dr, V, Hp, Sm, F1, F2, Pt', M, hw, hrel2⟩ hl

set_option maxHeartbeats 4000000 in
set_option maxRecDepth 100000 in
theorem lc_pressed {p : Program} {l : Launch} {e : Env} {s : State} {m : MethodId} {args : Array Value} {below : List Frame} {meth : Method} {c : Code} {D : va_G} {cs : CS} {A : Nat → Prop} {Q : State → Prop} {ad ar : Nat → Nat} {b L : Nat} {xs : Nat → Int32} {a am : Nat} {Rel : RelT} (X : FX D (TY cs) p s m args meth c cL_law 4 wsL_law RL A (some .boolean)) (hE : SE ad ar A s s.heap) (hXs : va_X b L xs s s.heap) (hbl : b < s.heap.size) (hbA : ¬ A b) {H : Heap} {locs : List Loc} {ls : Array Slot} {i : Int32} (hLW : LW Rel D A s cs a am H locs) (hl : lv_has ls 4 [(0, .ref b), (1, .ref a), (2, .ref am), (3, .int i)]) (h1 : vp_in (i + 1) L) (h2 : vp_in (i + 2) L) (h3 : vp_in (i + 3) L) (h4 : vp_in (i + 4) L) (h5 : vp_in (i + 5) L) (hst : St_pressed Rel) (K : ∀ (H : Heap) (locs : List Loc) (ls : Array Slot), LW Rel D A s cs a am H locs → lv_has ls 4 [(0, .ref b), (1, .ref a), (2, .ref am), (3, .int i)] → W p l e room_1 s m args below meth c H locs 69 3778 Q (F0 m 1415 ls [])) : W p l e room_1 s m args below meth c H locs 69 3778 Q (F0 m 1276 ls []) := by
  obtain ⟨hx, hb, hml, hown, hts, hK, hA, hr, hlk⟩ := id X
  obtain ⟨q, qT, qP, qS, qDr, qV, qH, qSm, qF1, qF2, qPt, qM, T, R, P, S, Dr, V, Hp, Sm, F1, F2, Pt, M, hw, hrel⟩ := hLW
  obtain ⟨y1, ey1⟩ : ∃ y : Int32, y = xs (i + 1).toNatClampNeg := ⟨_, rfl⟩
  obtain ⟨y2, ey2⟩ : ∃ y : Int32, y = xs (i + 2).toNatClampNeg := ⟨_, rfl⟩
  obtain ⟨y3, ey3⟩ : ∃ y : Int32, y = xs (i + 3).toNatClampNeg := ⟨_, rfl⟩
  obtain ⟨y4, ey4⟩ : ∃ y : Int32, y = xs (i + 4).toNatClampNeg := ⟨_, rfl⟩
  obtain ⟨y5, ey5⟩ : ∃ y : Int32, y = xs (i + 5).toNatClampNeg := ⟨_, rfl⟩
  refine lv_aload_n (pc := 1276) hx hb dL_law_1276 rfl (lv_at hl 1 rfl) ?_
  refine lv_aload_n (pc := 1277) hx hb dL_law_1277 rfl (lv_at hl 0 rfl) ?_
  refine lv_iload_n (pc := 1278) hx hb dL_law_1278 rfl (lv_at hl 3 rfl) ?_
  refine lv_iconst (pc := 1279) (v := 1) hx hb dL_law_1279 (by decide) ?_
  refine lv_iadd (pc := 1280) hx hb dL_law_1280 ?_
  refine va_sld (pc := 1281) hx hb hXs hbl hbA hw.2.2 h1 dL_law_1281 ?_
  refine x_topi ey1 ?_
  refine lv_i2l (pc := 1282) hx hb dL_law_1282 rfl ?_
  refine lv_bipush (pc := 1283) (v := 32) hx hb dL_law_1283 (by decide) ?_
  refine lv_lshl (pc := 1285) hx hb dL_law_1285 rfl ?_
  refine lv_aload_n (pc := 1286) hx hb dL_law_1286 rfl (lv_at hl 0 rfl) ?_
  refine lv_iload_n (pc := 1287) hx hb dL_law_1287 rfl (lv_at hl 3 rfl) ?_
  refine lv_iconst (pc := 1288) (v := 2) hx hb dL_law_1288 (by decide) ?_
  refine lv_iadd (pc := 1289) hx hb dL_law_1289 ?_
  refine va_sld (pc := 1290) hx hb hXs hbl hbA hw.2.2 h2 dL_law_1290 ?_
  refine x_topi ey2 ?_
  refine lv_i2l (pc := 1291) hx hb dL_law_1291 rfl ?_
  refine lv_ldc2 (pc := 1292) (v := (4294967295)) hx hb hown (hts _ (List.mem_of_getElem? (i := 6) rfl)) dL_law_1292 ?_
  refine lv_land (pc := 1295) hx hb dL_law_1295 ?_
  refine lv_lor (pc := 1296) hx hb dL_law_1296 ?_
  refine lv_aload_n (pc := 1297) hx hb dL_law_1297 rfl (lv_at hl 0 rfl) ?_
  refine lv_iload_n (pc := 1298) hx hb dL_law_1298 rfl (lv_at hl 3 rfl) ?_
  refine lv_iconst (pc := 1299) (v := 3) hx hb dL_law_1299 (by decide) ?_
  refine lv_iadd (pc := 1300) hx hb dL_law_1300 ?_
  refine va_sld (pc := 1301) hx hb hXs hbl hbA hw.2.2 h3 dL_law_1301 ?_
  refine x_topi ey3 ?_
  refine lv_aload_n (pc := 1302) hx hb dL_law_1302 rfl (lv_at hl 0 rfl) ?_
  refine lv_iload_n (pc := 1303) hx hb dL_law_1303 rfl (lv_at hl 3 rfl) ?_
  refine lv_iconst (pc := 1304) (v := 4) hx hb dL_law_1304 (by decide) ?_
  refine lv_iadd (pc := 1305) hx hb dL_law_1305 ?_
  refine va_sld (pc := 1306) hx hb hXs hbl hbA hw.2.2 h4 dL_law_1306 ?_
  refine x_topi ey4 ?_
  obtain ⟨r, hf9, hf10, hrel2⟩ := hst _ _ _ _ _ _ _ _ _ _ _ _ hrel (((y1.toInt64) <<< ((32 : Int32).toInt64 &&& 63)) ||| ((y2.toInt64) &&& (4294967295))) y3 y4
  have hC : (wFull cs a q qT qP qS qDr qV qH qSm qF1 qF2 qPt T R P S Dr V Hp Sm F1 F2 Pt ++ wX10 cs am qM M).Perm ((wX9 cs a q) ++ (wX6 cs (q 0) qT T ++ wX3 cs (q 1) (fun _ => q 0) R ++ wX2 cs (qS 0) qP P ++ wX7 cs (q 2) qS S ++ wX2 cs (q 3) qDr Dr ++ wX8 cs (q 4) qV V ++ wX0 cs (q 5) qH Hp ++ wX4 cs (q 6) qSm Sm ++ wX5 cs (q 7) qF1 F1 ++ wX5 cs (q 8) qF2 F2 ++ wX1 cs (q 9) qPt Pt ++ wX10 cs am qM M)) := pw (bs := [wX9 cs a q, wX6 cs (q 0) qT T, wX3 cs (q 1) (fun _ => q 0) R, wX2 cs (qS 0) qP P, wX7 cs (q 2) qS S, wX2 cs (q 3) qDr Dr, wX8 cs (q 4) qV V, wX0 cs (q 5) qH Hp, wX4 cs (q 6) qSm Sm, wX5 cs (q 7) qF1 F1, wX5 cs (q 8) qF2 F2, wX1 cs (q 9) qPt Pt, wX10 cs am qM M]) [0] [1, 2, 3, 4, 5, 6, 7, 8, 9, 10, 11, 12] (show (_ ++ _ : List Nat).Perm (List.range 13) by decide)
  have hJ : ((wX6 cs (q 0) qT T ++ wX3 cs (q 1) (fun _ => q 0) R ++ wX2 cs (qS 0) qP P ++ wX7 cs (q 2) qS S ++ wX2 cs (q 3) qDr Dr ++ wX8 cs (q 4) qV V ++ wX0 cs (q 5) qH Hp ++ wX4 cs (q 6) qSm Sm ++ wX5 cs (q 7) qF1 F1 ++ wX5 cs (q 8) qF2 F2 ++ wX1 cs (q 9) qPt Pt ++ wX10 cs am qM M) ++ (wX9 cs a q)).Perm (wFull cs a q qT qP qS qDr qV qH qSm qF1 qF2 qPt T R P S Dr V Hp Sm F1 F2 Pt ++ wX10 cs am qM M) := List.perm_append_comm.trans (pw (bs := [wX9 cs a q, wX6 cs (q 0) qT T, wX3 cs (q 1) (fun _ => q 0) R, wX2 cs (qS 0) qP P, wX7 cs (q 2) qS S, wX2 cs (q 3) qDr Dr, wX8 cs (q 4) qV V, wX0 cs (q 5) qH Hp, wX4 cs (q 6) qSm Sm, wX5 cs (q 7) qF1 F1, wX5 cs (q 8) qF2 F2, wX1 cs (q 9) qPt Pt, wX10 cs am qM M]) [0] [1, 2, 3, 4, 5, 6, 7, 8, 9, 10, 11, 12] (show (_ ++ _ : List Nat).Perm (List.range 13) by decide)).symm
  refine x_cutP (pc := 1307) X hw hC hJ (va_runV (As := [.long (((y1.toInt64) <<< ((32 : Int32).toInt64 &&& 63)) ||| ((y2.toInt64) &&& (4294967295))), .int y3, .int y4]) (rest := []) ⟨hx, hb, hml, hown, hts⟩ (c_X9_pressed l D cs a q (((y1.toInt64) <<< ((32 : Int32).toInt64 &&& 63)) ||| ((y2.toInt64) &&& (4294967295))) y3 y4 r hf9 _) (cwV 3 hts gL_law_X9_pressed rfl rfl rfl (by decide +kernel) ⟨Nat.le_of_ble_eq_true rfl, Nat.le_of_ble_eq_true rfl⟩) ⟨CP_blind, va_recv hK (hw.perm hC).1 (ci := 9) (q0 := 0) rfl rfl, x_preP X hw hC [.ref a, .long (((y1.toInt64) <<< ((32 : Int32).toInt64 &&& 63)) ||| ((y2.toInt64) &&& (4294967295))), .int y3, .int y4]⟩ rfl rfl hl.1 rfl (lv_room (Nat.le_of_ble_eq_true rfl)) dL_law_1307 ⟨Nat.le_of_ble_eq_true rfl, Nat.le_of_ble_eq_true rfl⟩) (fun H locs hw => ?_)
  refine lv_aload_n (pc := 1310) hx hb dL_law_1310 rfl (lv_at hl 2 rfl) ?_
  refine lv_aload_n (pc := 1311) hx hb dL_law_1311 rfl (lv_at hl 0 rfl) ?_
  refine lv_iload_n (pc := 1312) hx hb dL_law_1312 rfl (lv_at hl 3 rfl) ?_
  refine lv_iconst (pc := 1313) (v := 1) hx hb dL_law_1313 (by decide) ?_
  refine lv_iadd (pc := 1314) hx hb dL_law_1314 ?_
  refine va_sld (pc := 1315) hx hb hXs hbl hbA hw.2.2 h1 dL_law_1315 ?_
  refine x_topi ey1 ?_
  refine lv_i2l (pc := 1316) hx hb dL_law_1316 rfl ?_
  refine lv_bipush (pc := 1317) (v := 32) hx hb dL_law_1317 (by decide) ?_
  refine lv_lshl (pc := 1319) hx hb dL_law_1319 rfl ?_
  refine lv_aload_n (pc := 1320) hx hb dL_law_1320 rfl (lv_at hl 0 rfl) ?_
  refine lv_iload_n (pc := 1321) hx hb dL_law_1321 rfl (lv_at hl 3 rfl) ?_
  refine lv_iconst (pc := 1322) (v := 2) hx hb dL_law_1322 (by decide) ?_
  refine lv_iadd (pc := 1323) hx hb dL_law_1323 ?_
  refine va_sld (pc := 1324) hx hb hXs hbl hbA hw.2.2 h2 dL_law_1324 ?_
  refine x_topi ey2 ?_
  refine lv_i2l (pc := 1325) hx hb dL_law_1325 rfl ?_
  refine lv_ldc2 (pc := 1326) (v := (4294967295)) hx hb hown (hts _ (List.mem_of_getElem? (i := 6) rfl)) dL_law_1326 ?_
  refine lv_land (pc := 1329) hx hb dL_law_1329 ?_
  refine lv_lor (pc := 1330) hx hb dL_law_1330 ?_
  refine lv_aload_n (pc := 1331) hx hb dL_law_1331 rfl (lv_at hl 0 rfl) ?_
  refine lv_iload_n (pc := 1332) hx hb dL_law_1332 rfl (lv_at hl 3 rfl) ?_
  refine lv_iconst (pc := 1333) (v := 3) hx hb dL_law_1333 (by decide) ?_
  refine lv_iadd (pc := 1334) hx hb dL_law_1334 ?_
  refine va_sld (pc := 1335) hx hb hXs hbl hbA hw.2.2 h3 dL_law_1335 ?_
  refine x_topi ey3 ?_
  refine lv_aload_n (pc := 1336) hx hb dL_law_1336 rfl (lv_at hl 0 rfl) ?_
  refine lv_iload_n (pc := 1337) hx hb dL_law_1337 rfl (lv_at hl 3 rfl) ?_
  refine lv_iconst (pc := 1338) (v := 4) hx hb dL_law_1338 (by decide) ?_
  refine lv_iadd (pc := 1339) hx hb dL_law_1339 ?_
  refine va_sld (pc := 1340) hx hb hXs hbl hbA hw.2.2 h4 dL_law_1340 ?_
  refine x_topi ey4 ?_
  have hC : (wFull cs a q qT qP qS qDr qV qH qSm qF1 qF2 qPt T R P S Dr V Hp Sm F1 F2 Pt ++ wX10 cs am qM M).Perm ((wX10 cs am qM M) ++ (wX9 cs a q ++ wX6 cs (q 0) qT T ++ wX3 cs (q 1) (fun _ => q 0) R ++ wX2 cs (qS 0) qP P ++ wX7 cs (q 2) qS S ++ wX2 cs (q 3) qDr Dr ++ wX8 cs (q 4) qV V ++ wX0 cs (q 5) qH Hp ++ wX4 cs (q 6) qSm Sm ++ wX5 cs (q 7) qF1 F1 ++ wX5 cs (q 8) qF2 F2 ++ wX1 cs (q 9) qPt Pt)) := pw (bs := [wX9 cs a q, wX6 cs (q 0) qT T, wX3 cs (q 1) (fun _ => q 0) R, wX2 cs (qS 0) qP P, wX7 cs (q 2) qS S, wX2 cs (q 3) qDr Dr, wX8 cs (q 4) qV V, wX0 cs (q 5) qH Hp, wX4 cs (q 6) qSm Sm, wX5 cs (q 7) qF1 F1, wX5 cs (q 8) qF2 F2, wX1 cs (q 9) qPt Pt, wX10 cs am qM M]) [12] [0, 1, 2, 3, 4, 5, 6, 7, 8, 9, 10, 11] (show (_ ++ _ : List Nat).Perm (List.range 13) by decide)
  have hJ : ((wX9 cs a q ++ wX6 cs (q 0) qT T ++ wX3 cs (q 1) (fun _ => q 0) R ++ wX2 cs (qS 0) qP P ++ wX7 cs (q 2) qS S ++ wX2 cs (q 3) qDr Dr ++ wX8 cs (q 4) qV V ++ wX0 cs (q 5) qH Hp ++ wX4 cs (q 6) qSm Sm ++ wX5 cs (q 7) qF1 F1 ++ wX5 cs (q 8) qF2 F2 ++ wX1 cs (q 9) qPt Pt) ++ (wX10 cs am qM M)).Perm (wFull cs a q qT qP qS qDr qV qH qSm qF1 qF2 qPt T R P S Dr V Hp Sm F1 F2 Pt ++ wX10 cs am qM M) := List.perm_append_comm.trans (pw (bs := [wX9 cs a q, wX6 cs (q 0) qT T, wX3 cs (q 1) (fun _ => q 0) R, wX2 cs (qS 0) qP P, wX7 cs (q 2) qS S, wX2 cs (q 3) qDr Dr, wX8 cs (q 4) qV V, wX0 cs (q 5) qH Hp, wX4 cs (q 6) qSm Sm, wX5 cs (q 7) qF1 F1, wX5 cs (q 8) qF2 F2, wX1 cs (q 9) qPt Pt, wX10 cs am qM M]) [12] [0, 1, 2, 3, 4, 5, 6, 7, 8, 9, 10, 11] (show (_ ++ _ : List Nat).Perm (List.range 13) by decide)).symm
  refine x_cutP (pc := 1341) X hw hC hJ (va_runV (As := [.long (((y1.toInt64) <<< ((32 : Int32).toInt64 &&& 63)) ||| ((y2.toInt64) &&& (4294967295))), .int y3, .int y4]) (rest := [.int r]) ⟨hx, hb, hml, hown, hts⟩ (c_X10_pressed l D cs am qM M (((y1.toInt64) <<< ((32 : Int32).toInt64 &&& 63)) ||| ((y2.toInt64) &&& (4294967295))) y3 y4 r hf10 _) (cwV 3 hts gL_law_X10_pressed rfl rfl rfl (by decide +kernel) ⟨Nat.le_of_ble_eq_true rfl, Nat.le_of_ble_eq_true rfl⟩) ⟨CP_blind, va_recv hK (hw.perm hC).1 (ci := 10) (q0 := 0) rfl rfl, x_preP X hw hC [.ref am, .long (((y1.toInt64) <<< ((32 : Int32).toInt64 &&& 63)) ||| ((y2.toInt64) &&& (4294967295))), .int y3, .int y4]⟩ rfl rfl hl.1 rfl (lv_room (Nat.le_of_ble_eq_true rfl)) dL_law_1341 ⟨Nat.le_of_ble_eq_true rfl, Nat.le_of_ble_eq_true rfl⟩) (fun H locs hw => ?_)
  refine lv_icmp_eq (pc := 1344) (tgt := 1415) hx hb dL_law_1344 (by decide) (fun _ => ?_) (fun c0 => absurd rfl c0)
  exact K _ _ _ ⟨q, qT, qP, qS, qDr, qV, qH, qSm, qF1, qF2, qPt, qM, T, R, P, S, Dr, V, Hp, Sm, F1, F2, Pt, M, hw, hrel2⟩ hl

set_option maxHeartbeats 4000000 in
set_option maxRecDepth 100000 in
theorem lc_mixed {p : Program} {l : Launch} {e : Env} {s : State} {m : MethodId} {args : Array Value} {below : List Frame} {meth : Method} {c : Code} {D : va_G} {cs : CS} {A : Nat → Prop} {Q : State → Prop} {ad ar : Nat → Nat} {b L : Nat} {xs : Nat → Int32} {a am : Nat} {Rel : RelT} (X : FX D (TY cs) p s m args meth c cL_law 4 wsL_law RL A (some .boolean)) (hE : SE ad ar A s s.heap) (hXs : va_X b L xs s s.heap) (hbl : b < s.heap.size) (hbA : ¬ A b) {H : Heap} {locs : List Loc} {ls : Array Slot} {i : Int32} (hLW : LW Rel D A s cs a am H locs) (hl : lv_has ls 4 [(0, .ref b), (1, .ref a), (2, .ref am), (3, .int i)]) (h1 : vp_in (i + 1) L) (h2 : vp_in (i + 2) L) (h3 : vp_in (i + 3) L) (h4 : vp_in (i + 4) L) (h5 : vp_in (i + 5) L) (hst : St_mixed Rel) (K : ∀ (H : Heap) (locs : List Loc) (ls : Array Slot), LW Rel D A s cs a am H locs → lv_has ls 4 [(0, .ref b), (1, .ref a), (2, .ref am), (3, .int i)] → W p l e room_1 s m args below meth c H locs 69 3778 Q (F0 m 1415 ls [])) : W p l e room_1 s m args below meth c H locs 69 3778 Q (F0 m 1349 ls []) := by
  obtain ⟨hx, hb, hml, hown, hts, hK, hA, hr, hlk⟩ := id X
  obtain ⟨q, qT, qP, qS, qDr, qV, qH, qSm, qF1, qF2, qPt, qM, T, R, P, S, Dr, V, Hp, Sm, F1, F2, Pt, M, hw, hrel⟩ := hLW
  obtain ⟨y1, ey1⟩ : ∃ y : Int32, y = xs (i + 1).toNatClampNeg := ⟨_, rfl⟩
  obtain ⟨y2, ey2⟩ : ∃ y : Int32, y = xs (i + 2).toNatClampNeg := ⟨_, rfl⟩
  obtain ⟨y3, ey3⟩ : ∃ y : Int32, y = xs (i + 3).toNatClampNeg := ⟨_, rfl⟩
  obtain ⟨y4, ey4⟩ : ∃ y : Int32, y = xs (i + 4).toNatClampNeg := ⟨_, rfl⟩
  obtain ⟨y5, ey5⟩ : ∃ y : Int32, y = xs (i + 5).toNatClampNeg := ⟨_, rfl⟩
  refine lv_aload_n (pc := 1349) hx hb dL_law_1349 rfl (lv_at hl 1 rfl) ?_
  refine lv_aload_n (pc := 1350) hx hb dL_law_1350 rfl (lv_at hl 0 rfl) ?_
  refine lv_iload_n (pc := 1351) hx hb dL_law_1351 rfl (lv_at hl 3 rfl) ?_
  refine lv_iconst (pc := 1352) (v := 1) hx hb dL_law_1352 (by decide) ?_
  refine lv_iadd (pc := 1353) hx hb dL_law_1353 ?_
  refine va_sld (pc := 1354) hx hb hXs hbl hbA hw.2.2 h1 dL_law_1354 ?_
  refine x_topi ey1 ?_
  refine lv_aload_n (pc := 1355) hx hb dL_law_1355 rfl (lv_at hl 0 rfl) ?_
  refine lv_iload_n (pc := 1356) hx hb dL_law_1356 rfl (lv_at hl 3 rfl) ?_
  refine lv_iconst (pc := 1357) (v := 2) hx hb dL_law_1357 (by decide) ?_
  refine lv_iadd (pc := 1358) hx hb dL_law_1358 ?_
  refine va_sld (pc := 1359) hx hb hXs hbl hbA hw.2.2 h2 dL_law_1359 ?_
  refine x_topi ey2 ?_
  refine lv_aload_n (pc := 1360) hx hb dL_law_1360 rfl (lv_at hl 0 rfl) ?_
  refine lv_iload_n (pc := 1361) hx hb dL_law_1361 rfl (lv_at hl 3 rfl) ?_
  refine lv_iconst (pc := 1362) (v := 3) hx hb dL_law_1362 (by decide) ?_
  refine lv_iadd (pc := 1363) hx hb dL_law_1363 ?_
  refine va_sld (pc := 1364) hx hb hXs hbl hbA hw.2.2 h3 dL_law_1364 ?_
  refine x_topi ey3 ?_
  obtain ⟨r, hf9, hf10, hrel2⟩ := hst _ _ _ _ _ _ _ _ _ _ _ _ hrel y1 y2 y3
  have hC : (wFull cs a q qT qP qS qDr qV qH qSm qF1 qF2 qPt T R P S Dr V Hp Sm F1 F2 Pt ++ wX10 cs am qM M).Perm ((wX9 cs a q ++ wX4 cs (q 6) qSm Sm) ++ (wX6 cs (q 0) qT T ++ wX3 cs (q 1) (fun _ => q 0) R ++ wX2 cs (qS 0) qP P ++ wX7 cs (q 2) qS S ++ wX2 cs (q 3) qDr Dr ++ wX8 cs (q 4) qV V ++ wX0 cs (q 5) qH Hp ++ wX5 cs (q 7) qF1 F1 ++ wX5 cs (q 8) qF2 F2 ++ wX1 cs (q 9) qPt Pt ++ wX10 cs am qM M)) := pw (bs := [wX9 cs a q, wX6 cs (q 0) qT T, wX3 cs (q 1) (fun _ => q 0) R, wX2 cs (qS 0) qP P, wX7 cs (q 2) qS S, wX2 cs (q 3) qDr Dr, wX8 cs (q 4) qV V, wX0 cs (q 5) qH Hp, wX4 cs (q 6) qSm Sm, wX5 cs (q 7) qF1 F1, wX5 cs (q 8) qF2 F2, wX1 cs (q 9) qPt Pt, wX10 cs am qM M]) [0, 8] [1, 2, 3, 4, 5, 6, 7, 9, 10, 11, 12] (show (_ ++ _ : List Nat).Perm (List.range 13) by decide)
  have hJ : ((wX6 cs (q 0) qT T ++ wX3 cs (q 1) (fun _ => q 0) R ++ wX2 cs (qS 0) qP P ++ wX7 cs (q 2) qS S ++ wX2 cs (q 3) qDr Dr ++ wX8 cs (q 4) qV V ++ wX0 cs (q 5) qH Hp ++ wX5 cs (q 7) qF1 F1 ++ wX5 cs (q 8) qF2 F2 ++ wX1 cs (q 9) qPt Pt ++ wX10 cs am qM M) ++ (wX9 cs a q ++ wX4 cs (q 6) qSm Sm)).Perm (wFull cs a q qT qP qS qDr qV qH qSm qF1 qF2 qPt T R P S Dr V Hp Sm F1 F2 Pt ++ wX10 cs am qM M) := List.perm_append_comm.trans (pw (bs := [wX9 cs a q, wX6 cs (q 0) qT T, wX3 cs (q 1) (fun _ => q 0) R, wX2 cs (qS 0) qP P, wX7 cs (q 2) qS S, wX2 cs (q 3) qDr Dr, wX8 cs (q 4) qV V, wX0 cs (q 5) qH Hp, wX4 cs (q 6) qSm Sm, wX5 cs (q 7) qF1 F1, wX5 cs (q 8) qF2 F2, wX1 cs (q 9) qPt Pt, wX10 cs am qM M]) [0, 8] [1, 2, 3, 4, 5, 6, 7, 9, 10, 11, 12] (show (_ ++ _ : List Nat).Perm (List.range 13) by decide)).symm
  refine x_cutP (pc := 1365) X hw hC hJ (va_runV (As := [.int y1, .int y2, .int y3]) (rest := []) ⟨hx, hb, hml, hown, hts⟩ (c_X9_mixed l D cs a q qSm Sm y1 y2 y3 r hf9 _) (cwV 3 hts gL_law_X9_mixed rfl rfl rfl (by decide +kernel) ⟨Nat.le_of_ble_eq_true rfl, Nat.le_of_ble_eq_true rfl⟩) ⟨CP_blind, va_recv hK (hw.perm hC).1 (ci := 9) (q0 := 0) rfl rfl, x_preP X hw hC [.ref a, .int y1, .int y2, .int y3]⟩ rfl rfl hl.1 rfl (lv_room (Nat.le_of_ble_eq_true rfl)) dL_law_1365 ⟨Nat.le_of_ble_eq_true rfl, Nat.le_of_ble_eq_true rfl⟩) (fun H locs hw => ?_)
  refine lv_aload_n (pc := 1368) hx hb dL_law_1368 rfl (lv_at hl 2 rfl) ?_
  refine lv_aload_n (pc := 1369) hx hb dL_law_1369 rfl (lv_at hl 0 rfl) ?_
  refine lv_iload_n (pc := 1370) hx hb dL_law_1370 rfl (lv_at hl 3 rfl) ?_
  refine lv_iconst (pc := 1371) (v := 1) hx hb dL_law_1371 (by decide) ?_
  refine lv_iadd (pc := 1372) hx hb dL_law_1372 ?_
  refine va_sld (pc := 1373) hx hb hXs hbl hbA hw.2.2 h1 dL_law_1373 ?_
  refine x_topi ey1 ?_
  refine lv_aload_n (pc := 1374) hx hb dL_law_1374 rfl (lv_at hl 0 rfl) ?_
  refine lv_iload_n (pc := 1375) hx hb dL_law_1375 rfl (lv_at hl 3 rfl) ?_
  refine lv_iconst (pc := 1376) (v := 2) hx hb dL_law_1376 (by decide) ?_
  refine lv_iadd (pc := 1377) hx hb dL_law_1377 ?_
  refine va_sld (pc := 1378) hx hb hXs hbl hbA hw.2.2 h2 dL_law_1378 ?_
  refine x_topi ey2 ?_
  refine lv_aload_n (pc := 1379) hx hb dL_law_1379 rfl (lv_at hl 0 rfl) ?_
  refine lv_iload_n (pc := 1380) hx hb dL_law_1380 rfl (lv_at hl 3 rfl) ?_
  refine lv_iconst (pc := 1381) (v := 3) hx hb dL_law_1381 (by decide) ?_
  refine lv_iadd (pc := 1382) hx hb dL_law_1382 ?_
  refine va_sld (pc := 1383) hx hb hXs hbl hbA hw.2.2 h3 dL_law_1383 ?_
  refine x_topi ey3 ?_
  have hC : (wFull cs a q qT qP qS qDr qV qH qSm qF1 qF2 qPt T R P S Dr V Hp Sm F1 F2 Pt ++ wX10 cs am qM M).Perm ((wX10 cs am qM M) ++ (wX9 cs a q ++ wX6 cs (q 0) qT T ++ wX3 cs (q 1) (fun _ => q 0) R ++ wX2 cs (qS 0) qP P ++ wX7 cs (q 2) qS S ++ wX2 cs (q 3) qDr Dr ++ wX8 cs (q 4) qV V ++ wX0 cs (q 5) qH Hp ++ wX4 cs (q 6) qSm Sm ++ wX5 cs (q 7) qF1 F1 ++ wX5 cs (q 8) qF2 F2 ++ wX1 cs (q 9) qPt Pt)) := pw (bs := [wX9 cs a q, wX6 cs (q 0) qT T, wX3 cs (q 1) (fun _ => q 0) R, wX2 cs (qS 0) qP P, wX7 cs (q 2) qS S, wX2 cs (q 3) qDr Dr, wX8 cs (q 4) qV V, wX0 cs (q 5) qH Hp, wX4 cs (q 6) qSm Sm, wX5 cs (q 7) qF1 F1, wX5 cs (q 8) qF2 F2, wX1 cs (q 9) qPt Pt, wX10 cs am qM M]) [12] [0, 1, 2, 3, 4, 5, 6, 7, 8, 9, 10, 11] (show (_ ++ _ : List Nat).Perm (List.range 13) by decide)
  have hJ : ((wX9 cs a q ++ wX6 cs (q 0) qT T ++ wX3 cs (q 1) (fun _ => q 0) R ++ wX2 cs (qS 0) qP P ++ wX7 cs (q 2) qS S ++ wX2 cs (q 3) qDr Dr ++ wX8 cs (q 4) qV V ++ wX0 cs (q 5) qH Hp ++ wX4 cs (q 6) qSm Sm ++ wX5 cs (q 7) qF1 F1 ++ wX5 cs (q 8) qF2 F2 ++ wX1 cs (q 9) qPt Pt) ++ (wX10 cs am qM M)).Perm (wFull cs a q qT qP qS qDr qV qH qSm qF1 qF2 qPt T R P S Dr V Hp Sm F1 F2 Pt ++ wX10 cs am qM M) := List.perm_append_comm.trans (pw (bs := [wX9 cs a q, wX6 cs (q 0) qT T, wX3 cs (q 1) (fun _ => q 0) R, wX2 cs (qS 0) qP P, wX7 cs (q 2) qS S, wX2 cs (q 3) qDr Dr, wX8 cs (q 4) qV V, wX0 cs (q 5) qH Hp, wX4 cs (q 6) qSm Sm, wX5 cs (q 7) qF1 F1, wX5 cs (q 8) qF2 F2, wX1 cs (q 9) qPt Pt, wX10 cs am qM M]) [12] [0, 1, 2, 3, 4, 5, 6, 7, 8, 9, 10, 11] (show (_ ++ _ : List Nat).Perm (List.range 13) by decide)).symm
  refine x_cutP (pc := 1384) X hw hC hJ (va_runV (As := [.int y1, .int y2, .int y3]) (rest := [.int r]) ⟨hx, hb, hml, hown, hts⟩ (c_X10_mixed l D cs am qM M y1 y2 y3 r hf10 _) (cwV 3 hts gL_law_X10_mixed rfl rfl rfl (by decide +kernel) ⟨Nat.le_of_ble_eq_true rfl, Nat.le_of_ble_eq_true rfl⟩) ⟨CP_blind, va_recv hK (hw.perm hC).1 (ci := 10) (q0 := 0) rfl rfl, x_preP X hw hC [.ref am, .int y1, .int y2, .int y3]⟩ rfl rfl hl.1 rfl (lv_room (Nat.le_of_ble_eq_true rfl)) dL_law_1384 ⟨Nat.le_of_ble_eq_true rfl, Nat.le_of_ble_eq_true rfl⟩) (fun H locs hw => ?_)
  refine lv_icmp_eq (pc := 1387) (tgt := 1415) hx hb dL_law_1387 (by decide) (fun _ => ?_) (fun c0 => absurd rfl c0)
  exact K _ _ _ ⟨q, qT, qP, qS, qDr, qV, qH, qSm, qF1, qF2, qPt, qM, T, R, P, S, Dr, V, Hp, Sm, F1, F2, Pt, M, hw, hrel2⟩ hl

set_option maxHeartbeats 4000000 in
set_option maxRecDepth 100000 in
theorem lc_count {p : Program} {l : Launch} {e : Env} {s : State} {m : MethodId} {args : Array Value} {below : List Frame} {meth : Method} {c : Code} {D : va_G} {cs : CS} {A : Nat → Prop} {Q : State → Prop} {ad ar : Nat → Nat} {b L : Nat} {xs : Nat → Int32} {a am : Nat} {Rel : RelT} (X : FX D (TY cs) p s m args meth c cL_law 4 wsL_law RL A (some .boolean)) (hE : SE ad ar A s s.heap) (hXs : va_X b L xs s s.heap) (hbl : b < s.heap.size) (hbA : ¬ A b) {H : Heap} {locs : List Loc} {ls : Array Slot} {i : Int32} (hLW : LW Rel D A s cs a am H locs) (hl : lv_has ls 4 [(0, .ref b), (1, .ref a), (2, .ref am), (3, .int i)]) (h1 : vp_in (i + 1) L) (h2 : vp_in (i + 2) L) (h3 : vp_in (i + 3) L) (h4 : vp_in (i + 4) L) (h5 : vp_in (i + 5) L) (hst : St_count Rel) (K : ∀ (H : Heap) (locs : List Loc) (ls : Array Slot), LW Rel D A s cs a am H locs → lv_has ls 4 [(0, .ref b), (1, .ref a), (2, .ref am), (3, .int i)] → W p l e room_1 s m args below meth c H locs 69 3778 Q (F0 m 1415 ls [])) : W p l e room_1 s m args below meth c H locs 69 3778 Q (F0 m 1392 ls []) := by
  obtain ⟨hx, hb, hml, hown, hts, hK, hA, hr, hlk⟩ := id X
  obtain ⟨q, qT, qP, qS, qDr, qV, qH, qSm, qF1, qF2, qPt, qM, T, R, P, S, Dr, V, Hp, Sm, F1, F2, Pt, M, hw, hrel⟩ := hLW
  obtain ⟨y1, ey1⟩ : ∃ y : Int32, y = xs (i + 1).toNatClampNeg := ⟨_, rfl⟩
  obtain ⟨y2, ey2⟩ : ∃ y : Int32, y = xs (i + 2).toNatClampNeg := ⟨_, rfl⟩
  obtain ⟨y3, ey3⟩ : ∃ y : Int32, y = xs (i + 3).toNatClampNeg := ⟨_, rfl⟩
  obtain ⟨y4, ey4⟩ : ∃ y : Int32, y = xs (i + 4).toNatClampNeg := ⟨_, rfl⟩
  obtain ⟨y5, ey5⟩ : ∃ y : Int32, y = xs (i + 5).toNatClampNeg := ⟨_, rfl⟩
  refine lv_aload_n (pc := 1392) hx hb dL_law_1392 rfl (lv_at hl 1 rfl) ?_
  refine lv_aload_n (pc := 1393) hx hb dL_law_1393 rfl (lv_at hl 0 rfl) ?_
  refine lv_iload_n (pc := 1394) hx hb dL_law_1394 rfl (lv_at hl 3 rfl) ?_
  refine lv_iconst (pc := 1395) (v := 1) hx hb dL_law_1395 (by decide) ?_
  refine lv_iadd (pc := 1396) hx hb dL_law_1396 ?_
  refine va_sld (pc := 1397) hx hb hXs hbl hbA hw.2.2 h1 dL_law_1397 ?_
  refine x_topi ey1 ?_
  obtain ⟨r, hf9, hf10, hrel2⟩ := hst _ _ _ _ _ _ _ _ _ _ _ _ hrel y1
  have hC : (wFull cs a q qT qP qS qDr qV qH qSm qF1 qF2 qPt T R P S Dr V Hp Sm F1 F2 Pt ++ wX10 cs am qM M).Perm ((wX9 cs a q ++ wX6 cs (q 0) qT T ++ wX7 cs (q 2) qS S ++ wX2 cs (qS 0) qP P ++ wX8 cs (q 4) qV V ++ wX0 cs (q 5) qH Hp) ++ (wX3 cs (q 1) (fun _ => q 0) R ++ wX2 cs (q 3) qDr Dr ++ wX4 cs (q 6) qSm Sm ++ wX5 cs (q 7) qF1 F1 ++ wX5 cs (q 8) qF2 F2 ++ wX1 cs (q 9) qPt Pt ++ wX10 cs am qM M)) := pw (bs := [wX9 cs a q, wX6 cs (q 0) qT T, wX3 cs (q 1) (fun _ => q 0) R, wX2 cs (qS 0) qP P, wX7 cs (q 2) qS S, wX2 cs (q 3) qDr Dr, wX8 cs (q 4) qV V, wX0 cs (q 5) qH Hp, wX4 cs (q 6) qSm Sm, wX5 cs (q 7) qF1 F1, wX5 cs (q 8) qF2 F2, wX1 cs (q 9) qPt Pt, wX10 cs am qM M]) [0, 1, 4, 3, 6, 7] [2, 5, 8, 9, 10, 11, 12] (show (_ ++ _ : List Nat).Perm (List.range 13) by decide)
  have hJ : ((wX3 cs (q 1) (fun _ => q 0) R ++ wX2 cs (q 3) qDr Dr ++ wX4 cs (q 6) qSm Sm ++ wX5 cs (q 7) qF1 F1 ++ wX5 cs (q 8) qF2 F2 ++ wX1 cs (q 9) qPt Pt ++ wX10 cs am qM M) ++ (wX9 cs a q ++ wX6 cs (q 0) qT T ++ wX7 cs (q 2) qS S ++ wX2 cs (qS 0) qP P ++ wX8 cs (q 4) qV V ++ wX0 cs (q 5) qH Hp)).Perm (wFull cs a q qT qP qS qDr qV qH qSm qF1 qF2 qPt T R P S Dr V Hp Sm F1 F2 Pt ++ wX10 cs am qM M) := List.perm_append_comm.trans (pw (bs := [wX9 cs a q, wX6 cs (q 0) qT T, wX3 cs (q 1) (fun _ => q 0) R, wX2 cs (qS 0) qP P, wX7 cs (q 2) qS S, wX2 cs (q 3) qDr Dr, wX8 cs (q 4) qV V, wX0 cs (q 5) qH Hp, wX4 cs (q 6) qSm Sm, wX5 cs (q 7) qF1 F1, wX5 cs (q 8) qF2 F2, wX1 cs (q 9) qPt Pt, wX10 cs am qM M]) [0, 1, 4, 3, 6, 7] [2, 5, 8, 9, 10, 11, 12] (show (_ ++ _ : List Nat).Perm (List.range 13) by decide)).symm
  refine x_cutP (pc := 1398) X hw hC hJ (va_runV (As := [.int y1]) (rest := []) ⟨hx, hb, hml, hown, hts⟩ (c_X9_count l D cs a q qT qS qP qV qH T S P V Hp y1 r hf9 _) (cwV 1 hts gL_law_X9_count rfl rfl rfl (by decide +kernel) ⟨Nat.le_of_ble_eq_true rfl, Nat.le_of_ble_eq_true rfl⟩) ⟨CP_blind, va_recv hK (hw.perm hC).1 (ci := 9) (q0 := 0) rfl rfl, x_preP X hw hC [.ref a, .int y1]⟩ rfl rfl hl.1 rfl (lv_room (Nat.le_of_ble_eq_true rfl)) dL_law_1398 ⟨Nat.le_of_ble_eq_true rfl, Nat.le_of_ble_eq_true rfl⟩) (fun H locs hw => ?_)
  refine lv_aload_n (pc := 1401) hx hb dL_law_1401 rfl (lv_at hl 2 rfl) ?_
  refine lv_aload_n (pc := 1402) hx hb dL_law_1402 rfl (lv_at hl 0 rfl) ?_
  refine lv_iload_n (pc := 1403) hx hb dL_law_1403 rfl (lv_at hl 3 rfl) ?_
  refine lv_iconst (pc := 1404) (v := 1) hx hb dL_law_1404 (by decide) ?_
  refine lv_iadd (pc := 1405) hx hb dL_law_1405 ?_
  refine va_sld (pc := 1406) hx hb hXs hbl hbA hw.2.2 h1 dL_law_1406 ?_
  refine x_topi ey1 ?_
  have hC : (wFull cs a q qT qP qS qDr qV qH qSm qF1 qF2 qPt T R P S Dr V Hp Sm F1 F2 Pt ++ wX10 cs am qM M).Perm ((wX10 cs am qM M) ++ (wX9 cs a q ++ wX6 cs (q 0) qT T ++ wX3 cs (q 1) (fun _ => q 0) R ++ wX2 cs (qS 0) qP P ++ wX7 cs (q 2) qS S ++ wX2 cs (q 3) qDr Dr ++ wX8 cs (q 4) qV V ++ wX0 cs (q 5) qH Hp ++ wX4 cs (q 6) qSm Sm ++ wX5 cs (q 7) qF1 F1 ++ wX5 cs (q 8) qF2 F2 ++ wX1 cs (q 9) qPt Pt)) := pw (bs := [wX9 cs a q, wX6 cs (q 0) qT T, wX3 cs (q 1) (fun _ => q 0) R, wX2 cs (qS 0) qP P, wX7 cs (q 2) qS S, wX2 cs (q 3) qDr Dr, wX8 cs (q 4) qV V, wX0 cs (q 5) qH Hp, wX4 cs (q 6) qSm Sm, wX5 cs (q 7) qF1 F1, wX5 cs (q 8) qF2 F2, wX1 cs (q 9) qPt Pt, wX10 cs am qM M]) [12] [0, 1, 2, 3, 4, 5, 6, 7, 8, 9, 10, 11] (show (_ ++ _ : List Nat).Perm (List.range 13) by decide)
  have hJ : ((wX9 cs a q ++ wX6 cs (q 0) qT T ++ wX3 cs (q 1) (fun _ => q 0) R ++ wX2 cs (qS 0) qP P ++ wX7 cs (q 2) qS S ++ wX2 cs (q 3) qDr Dr ++ wX8 cs (q 4) qV V ++ wX0 cs (q 5) qH Hp ++ wX4 cs (q 6) qSm Sm ++ wX5 cs (q 7) qF1 F1 ++ wX5 cs (q 8) qF2 F2 ++ wX1 cs (q 9) qPt Pt) ++ (wX10 cs am qM M)).Perm (wFull cs a q qT qP qS qDr qV qH qSm qF1 qF2 qPt T R P S Dr V Hp Sm F1 F2 Pt ++ wX10 cs am qM M) := List.perm_append_comm.trans (pw (bs := [wX9 cs a q, wX6 cs (q 0) qT T, wX3 cs (q 1) (fun _ => q 0) R, wX2 cs (qS 0) qP P, wX7 cs (q 2) qS S, wX2 cs (q 3) qDr Dr, wX8 cs (q 4) qV V, wX0 cs (q 5) qH Hp, wX4 cs (q 6) qSm Sm, wX5 cs (q 7) qF1 F1, wX5 cs (q 8) qF2 F2, wX1 cs (q 9) qPt Pt, wX10 cs am qM M]) [12] [0, 1, 2, 3, 4, 5, 6, 7, 8, 9, 10, 11] (show (_ ++ _ : List Nat).Perm (List.range 13) by decide)).symm
  refine x_cutP (pc := 1407) X hw hC hJ (va_runV (As := [.int y1]) (rest := [.int r]) ⟨hx, hb, hml, hown, hts⟩ (c_X10_count l D cs am qM M y1 r hf10 _) (cwV 1 hts gL_law_X10_count rfl rfl rfl (by decide +kernel) ⟨Nat.le_of_ble_eq_true rfl, Nat.le_of_ble_eq_true rfl⟩) ⟨CP_blind, va_recv hK (hw.perm hC).1 (ci := 10) (q0 := 0) rfl rfl, x_preP X hw hC [.ref am, .int y1]⟩ rfl rfl hl.1 rfl (lv_room (Nat.le_of_ble_eq_true rfl)) dL_law_1407 ⟨Nat.le_of_ble_eq_true rfl, Nat.le_of_ble_eq_true rfl⟩) (fun H locs hw => ?_)
  refine lv_icmp_eq (pc := 1410) (tgt := 1415) hx hb dL_law_1410 (by decide) (fun _ => ?_) (fun c0 => absurd rfl c0)
  exact K _ _ _ ⟨q, qT, qP, qS, qDr, qV, qH, qSm, qF1, qF2, qPt, qM, T, R, P, S, Dr, V, Hp, Sm, F1, F2, Pt, M, hw, hrel2⟩ hl
