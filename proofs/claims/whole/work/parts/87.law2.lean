set_option maxHeartbeats 4000000 in
set_option maxRecDepth 100000 in
theorem lc_mean {p : Program} {l : Launch} {e : Env} {s : State} {m : MethodId} {args : Array Value} {below : List Frame} {meth : Method} {c : Code} {D : va_G} {cs : CS} {A : Nat → Prop} {Q : State → Prop} {ad ar : Nat → Nat} {b L : Nat} {xs : Nat → Int32} {a am : Nat} {Rel : RelT} (X : FX D (TY cs) p s m args meth c cL_law 4 wsL_law RL A (some .boolean)) (hE : SE ad ar A s s.heap) (hXs : va_X b L xs s s.heap) (hbl : b < s.heap.size) (hbA : ¬ A b) {H : Heap} {locs : List Loc} {ls : Array Slot} {i : Int32} (hLW : LW Rel D A s cs a am H locs) (hl : lv_has ls 4 [(0, .ref b), (1, .ref a), (2, .ref am), (3, .int i)]) (h1 : vp_in (i + 1) L) (h2 : vp_in (i + 2) L) (h3 : vp_in (i + 3) L) (h4 : vp_in (i + 4) L) (h5 : vp_in (i + 5) L) (hst : St_mean Rel) (K : ∀ (H : Heap) (locs : List Loc) (ls : Array Slot), LW Rel D A s cs a am H locs → lv_has ls 4 [(0, .ref b), (1, .ref a), (2, .ref am), (3, .int i)] → W p l e room_1 s m args below meth c H locs 69 3778 Q (F0 m 1415 ls [])) : W p l e room_1 s m args below meth c H locs 69 3778 Q (F0 m 480 ls []) := by
  obtain ⟨hx, hb, hml, hown, hts, hK, hA, hr, hlk⟩ := id X
  obtain ⟨q, qT, qP, qS, qDr, qV, qH, qSm, qF1, qF2, qPt, qM, T, R, P, S, Dr, V, Hp, Sm, F1, F2, Pt, M, hw, hrel⟩ := hLW
  obtain ⟨y1, ey1⟩ : ∃ y : Int32, y = xs (i + 1).toNatClampNeg := ⟨_, rfl⟩
  obtain ⟨y2, ey2⟩ : ∃ y : Int32, y = xs (i + 2).toNatClampNeg := ⟨_, rfl⟩
  obtain ⟨y3, ey3⟩ : ∃ y : Int32, y = xs (i + 3).toNatClampNeg := ⟨_, rfl⟩
  obtain ⟨y4, ey4⟩ : ∃ y : Int32, y = xs (i + 4).toNatClampNeg := ⟨_, rfl⟩
  obtain ⟨y5, ey5⟩ : ∃ y : Int32, y = xs (i + 5).toNatClampNeg := ⟨_, rfl⟩
  refine lv_aload_n (pc := 480) hx hb dL_law_480 rfl (lv_at hl 1 rfl) ?_
  refine lv_aload_n (pc := 481) hx hb dL_law_481 rfl (lv_at hl 0 rfl) ?_
  refine lv_iload_n (pc := 482) hx hb dL_law_482 rfl (lv_at hl 3 rfl) ?_
  refine lv_iconst (pc := 483) (v := 1) hx hb dL_law_483 (by decide) ?_
  refine lv_iadd (pc := 484) hx hb dL_law_484 ?_
  refine va_sld (pc := 485) hx hb hXs hbl hbA hw.2.2 h1 dL_law_485 ?_
  refine x_topi ey1 ?_
  obtain ⟨r, S', P', M', hf9, hf10, hrel2⟩ := hst _ _ _ _ _ _ _ _ _ _ _ _ hrel y1
  have hC : (wFull cs a q qT qP qS qDr qV qH qSm qF1 qF2 qPt T R P S Dr V Hp Sm F1 F2 Pt ++ wX10 cs am qM M).Perm ((wX9 cs a q ++ wX7 cs (q 2) qS S ++ wX2 cs (qS 0) qP P) ++ (wX6 cs (q 0) qT T ++ wX3 cs (q 1) (fun _ => q 0) R ++ wX2 cs (q 3) qDr Dr ++ wX8 cs (q 4) qV V ++ wX0 cs (q 5) qH Hp ++ wX4 cs (q 6) qSm Sm ++ wX5 cs (q 7) qF1 F1 ++ wX5 cs (q 8) qF2 F2 ++ wX1 cs (q 9) qPt Pt ++ wX10 cs am qM M)) := pw (bs := [wX9 cs a q, wX6 cs (q 0) qT T, wX3 cs (q 1) (fun _ => q 0) R, wX2 cs (qS 0) qP P, wX7 cs (q 2) qS S, wX2 cs (q 3) qDr Dr, wX8 cs (q 4) qV V, wX0 cs (q 5) qH Hp, wX4 cs (q 6) qSm Sm, wX5 cs (q 7) qF1 F1, wX5 cs (q 8) qF2 F2, wX1 cs (q 9) qPt Pt, wX10 cs am qM M]) [0, 4, 3] [1, 2, 5, 6, 7, 8, 9, 10, 11, 12] (show (_ ++ _ : List Nat).Perm (List.range 13) by decide)
  have hJ : ((wX6 cs (q 0) qT T ++ wX3 cs (q 1) (fun _ => q 0) R ++ wX2 cs (q 3) qDr Dr ++ wX8 cs (q 4) qV V ++ wX0 cs (q 5) qH Hp ++ wX4 cs (q 6) qSm Sm ++ wX5 cs (q 7) qF1 F1 ++ wX5 cs (q 8) qF2 F2 ++ wX1 cs (q 9) qPt Pt ++ wX10 cs am qM M) ++ (wX9 cs a q ++ wX7 cs (q 2) qS S' ++ wX2 cs (qS 0) qP P')).Perm (wFull cs a q qT qP qS qDr qV qH qSm qF1 qF2 qPt T R P' S' Dr V Hp Sm F1 F2 Pt ++ wX10 cs am qM M) := List.perm_append_comm.trans (pw (bs := [wX9 cs a q, wX6 cs (q 0) qT T, wX3 cs (q 1) (fun _ => q 0) R, wX2 cs (qS 0) qP P', wX7 cs (q 2) qS S', wX2 cs (q 3) qDr Dr, wX8 cs (q 4) qV V, wX0 cs (q 5) qH Hp, wX4 cs (q 6) qSm Sm, wX5 cs (q 7) qF1 F1, wX5 cs (q 8) qF2 F2, wX1 cs (q 9) qPt Pt, wX10 cs am qM M]) [0, 4, 3] [1, 2, 5, 6, 7, 8, 9, 10, 11, 12] (show (_ ++ _ : List Nat).Perm (List.range 13) by decide)).symm
  refine x_cutP (pc := 486) X hw hC hJ (va_runV (As := [.int y1]) (rest := []) ⟨hx, hb, hml, hown, hts⟩ (c_X9_mean l D cs a q qS qP S P y1 r S' P' hf9 _) (cwV 1 hts gL_law_X9_mean rfl rfl rfl (by decide +kernel) ⟨Nat.le_of_ble_eq_true rfl, Nat.le_of_ble_eq_true rfl⟩) ⟨CP_blind, va_recv hK (hw.perm hC).1 (ci := 9) (q0 := 0) rfl rfl, x_preP X hw hC [.ref a, .int y1]⟩ rfl rfl hl.1 rfl (lv_room (Nat.le_of_ble_eq_true rfl)) dL_law_486 ⟨Nat.le_of_ble_eq_true rfl, Nat.le_of_ble_eq_true rfl⟩) (fun H locs hw => ?_)
  refine lv_aload_n (pc := 489) hx hb dL_law_489 rfl (lv_at hl 2 rfl) ?_
  refine lv_aload_n (pc := 490) hx hb dL_law_490 rfl (lv_at hl 0 rfl) ?_
  refine lv_iload_n (pc := 491) hx hb dL_law_491 rfl (lv_at hl 3 rfl) ?_
  refine lv_iconst (pc := 492) (v := 1) hx hb dL_law_492 (by decide) ?_
  refine lv_iadd (pc := 493) hx hb dL_law_493 ?_
  refine va_sld (pc := 494) hx hb hXs hbl hbA hw.2.2 h1 dL_law_494 ?_
  refine x_topi ey1 ?_
  have hC : (wFull cs a q qT qP qS qDr qV qH qSm qF1 qF2 qPt T R P' S' Dr V Hp Sm F1 F2 Pt ++ wX10 cs am qM M).Perm ((wX10 cs am qM M) ++ (wX9 cs a q ++ wX6 cs (q 0) qT T ++ wX3 cs (q 1) (fun _ => q 0) R ++ wX2 cs (qS 0) qP P' ++ wX7 cs (q 2) qS S' ++ wX2 cs (q 3) qDr Dr ++ wX8 cs (q 4) qV V ++ wX0 cs (q 5) qH Hp ++ wX4 cs (q 6) qSm Sm ++ wX5 cs (q 7) qF1 F1 ++ wX5 cs (q 8) qF2 F2 ++ wX1 cs (q 9) qPt Pt)) := pw (bs := [wX9 cs a q, wX6 cs (q 0) qT T, wX3 cs (q 1) (fun _ => q 0) R, wX2 cs (qS 0) qP P', wX7 cs (q 2) qS S', wX2 cs (q 3) qDr Dr, wX8 cs (q 4) qV V, wX0 cs (q 5) qH Hp, wX4 cs (q 6) qSm Sm, wX5 cs (q 7) qF1 F1, wX5 cs (q 8) qF2 F2, wX1 cs (q 9) qPt Pt, wX10 cs am qM M]) [12] [0, 1, 2, 3, 4, 5, 6, 7, 8, 9, 10, 11] (show (_ ++ _ : List Nat).Perm (List.range 13) by decide)
  have hJ : ((wX9 cs a q ++ wX6 cs (q 0) qT T ++ wX3 cs (q 1) (fun _ => q 0) R ++ wX2 cs (qS 0) qP P' ++ wX7 cs (q 2) qS S' ++ wX2 cs (q 3) qDr Dr ++ wX8 cs (q 4) qV V ++ wX0 cs (q 5) qH Hp ++ wX4 cs (q 6) qSm Sm ++ wX5 cs (q 7) qF1 F1 ++ wX5 cs (q 8) qF2 F2 ++ wX1 cs (q 9) qPt Pt) ++ (wX10 cs am qM M')).Perm (wFull cs a q qT qP qS qDr qV qH qSm qF1 qF2 qPt T R P' S' Dr V Hp Sm F1 F2 Pt ++ wX10 cs am qM M') := List.perm_append_comm.trans (pw (bs := [wX9 cs a q, wX6 cs (q 0) qT T, wX3 cs (q 1) (fun _ => q 0) R, wX2 cs (qS 0) qP P', wX7 cs (q 2) qS S', wX2 cs (q 3) qDr Dr, wX8 cs (q 4) qV V, wX0 cs (q 5) qH Hp, wX4 cs (q 6) qSm Sm, wX5 cs (q 7) qF1 F1, wX5 cs (q 8) qF2 F2, wX1 cs (q 9) qPt Pt, wX10 cs am qM M']) [12] [0, 1, 2, 3, 4, 5, 6, 7, 8, 9, 10, 11] (show (_ ++ _ : List Nat).Perm (List.range 13) by decide)).symm
  refine x_cutP (pc := 495) X hw hC hJ (va_runV (As := [.int y1]) (rest := [.int r]) ⟨hx, hb, hml, hown, hts⟩ (c_X10_mean l D cs am qM M y1 r M' hf10 _) (cwV 1 hts gL_law_X10_mean rfl rfl rfl (by decide +kernel) ⟨Nat.le_of_ble_eq_true rfl, Nat.le_of_ble_eq_true rfl⟩) ⟨CP_blind, va_recv hK (hw.perm hC).1 (ci := 10) (q0 := 0) rfl rfl, x_preP X hw hC [.ref am, .int y1]⟩ rfl rfl hl.1 rfl (lv_room (Nat.le_of_ble_eq_true rfl)) dL_law_495 ⟨Nat.le_of_ble_eq_true rfl, Nat.le_of_ble_eq_true rfl⟩) (fun H locs hw => ?_)
  refine lv_icmp_eq (pc := 498) (tgt := 1415) hx hb dL_law_498 (by decide) (fun _ => ?_) (fun c0 => absurd rfl c0)
  exact K _ _ _ ⟨q, qT, qP, qS, qDr, qV, qH, qSm, qF1, qF2, qPt, qM, T, R, P', S', Dr, V, Hp, Sm, F1, F2, Pt, M', hw, hrel2⟩ hl

set_option maxHeartbeats 4000000 in
set_option maxRecDepth 100000 in
theorem lc_seen {p : Program} {l : Launch} {e : Env} {s : State} {m : MethodId} {args : Array Value} {below : List Frame} {meth : Method} {c : Code} {D : va_G} {cs : CS} {A : Nat → Prop} {Q : State → Prop} {ad ar : Nat → Nat} {b L : Nat} {xs : Nat → Int32} {a am : Nat} {Rel : RelT} (X : FX D (TY cs) p s m args meth c cL_law 4 wsL_law RL A (some .boolean)) (hE : SE ad ar A s s.heap) (hXs : va_X b L xs s s.heap) (hbl : b < s.heap.size) (hbA : ¬ A b) {H : Heap} {locs : List Loc} {ls : Array Slot} {i : Int32} (hLW : LW Rel D A s cs a am H locs) (hl : lv_has ls 4 [(0, .ref b), (1, .ref a), (2, .ref am), (3, .int i)]) (h1 : vp_in (i + 1) L) (h2 : vp_in (i + 2) L) (h3 : vp_in (i + 3) L) (h4 : vp_in (i + 4) L) (h5 : vp_in (i + 5) L) (hst : St_seen Rel) (K : ∀ (H : Heap) (locs : List Loc) (ls : Array Slot), LW Rel D A s cs a am H locs → lv_has ls 4 [(0, .ref b), (1, .ref a), (2, .ref am), (3, .int i)] → W p l e room_1 s m args below meth c H locs 69 3778 Q (F0 m 1415 ls [])) : W p l e room_1 s m args below meth c H locs 69 3778 Q (F0 m 503 ls []) := by
  obtain ⟨hx, hb, hml, hown, hts, hK, hA, hr, hlk⟩ := id X
  obtain ⟨q, qT, qP, qS, qDr, qV, qH, qSm, qF1, qF2, qPt, qM, T, R, P, S, Dr, V, Hp, Sm, F1, F2, Pt, M, hw, hrel⟩ := hLW
  obtain ⟨y1, ey1⟩ : ∃ y : Int32, y = xs (i + 1).toNatClampNeg := ⟨_, rfl⟩
  obtain ⟨y2, ey2⟩ : ∃ y : Int32, y = xs (i + 2).toNatClampNeg := ⟨_, rfl⟩
  obtain ⟨y3, ey3⟩ : ∃ y : Int32, y = xs (i + 3).toNatClampNeg := ⟨_, rfl⟩
  obtain ⟨y4, ey4⟩ : ∃ y : Int32, y = xs (i + 4).toNatClampNeg := ⟨_, rfl⟩
  obtain ⟨y5, ey5⟩ : ∃ y : Int32, y = xs (i + 5).toNatClampNeg := ⟨_, rfl⟩
  refine lv_aload_n (pc := 503) hx hb dL_law_503 rfl (lv_at hl 1 rfl) ?_
  refine lv_aload_n (pc := 504) hx hb dL_law_504 rfl (lv_at hl 0 rfl) ?_
  refine lv_iload_n (pc := 505) hx hb dL_law_505 rfl (lv_at hl 3 rfl) ?_
  refine lv_iconst (pc := 506) (v := 1) hx hb dL_law_506 (by decide) ?_
  refine lv_iadd (pc := 507) hx hb dL_law_507 ?_
  refine va_sld (pc := 508) hx hb hXs hbl hbA hw.2.2 h1 dL_law_508 ?_
  refine x_topi ey1 ?_
  refine lv_aload_n (pc := 509) hx hb dL_law_509 rfl (lv_at hl 0 rfl) ?_
  refine lv_iload_n (pc := 510) hx hb dL_law_510 rfl (lv_at hl 3 rfl) ?_
  refine lv_iconst (pc := 511) (v := 2) hx hb dL_law_511 (by decide) ?_
  refine lv_iadd (pc := 512) hx hb dL_law_512 ?_
  refine va_sld (pc := 513) hx hb hXs hbl hbA hw.2.2 h2 dL_law_513 ?_
  refine x_topi ey2 ?_
  obtain ⟨r, S', P', M', hf9, hf10, hrel2⟩ := hst _ _ _ _ _ _ _ _ _ _ _ _ hrel y1 y2
  have hC : (wFull cs a q qT qP qS qDr qV qH qSm qF1 qF2 qPt T R P S Dr V Hp Sm F1 F2 Pt ++ wX10 cs am qM M).Perm ((wX9 cs a q ++ wX7 cs (q 2) qS S ++ wX2 cs (qS 0) qP P) ++ (wX6 cs (q 0) qT T ++ wX3 cs (q 1) (fun _ => q 0) R ++ wX2 cs (q 3) qDr Dr ++ wX8 cs (q 4) qV V ++ wX0 cs (q 5) qH Hp ++ wX4 cs (q 6) qSm Sm ++ wX5 cs (q 7) qF1 F1 ++ wX5 cs (q 8) qF2 F2 ++ wX1 cs (q 9) qPt Pt ++ wX10 cs am qM M)) := pw (bs := [wX9 cs a q, wX6 cs (q 0) qT T, wX3 cs (q 1) (fun _ => q 0) R, wX2 cs (qS 0) qP P, wX7 cs (q 2) qS S, wX2 cs (q 3) qDr Dr, wX8 cs (q 4) qV V, wX0 cs (q 5) qH Hp, wX4 cs (q 6) qSm Sm, wX5 cs (q 7) qF1 F1, wX5 cs (q 8) qF2 F2, wX1 cs (q 9) qPt Pt, wX10 cs am qM M]) [0, 4, 3] [1, 2, 5, 6, 7, 8, 9, 10, 11, 12] (show (_ ++ _ : List Nat).Perm (List.range 13) by decide)
  have hJ : ((wX6 cs (q 0) qT T ++ wX3 cs (q 1) (fun _ => q 0) R ++ wX2 cs (q 3) qDr Dr ++ wX8 cs (q 4) qV V ++ wX0 cs (q 5) qH Hp ++ wX4 cs (q 6) qSm Sm ++ wX5 cs (q 7) qF1 F1 ++ wX5 cs (q 8) qF2 F2 ++ wX1 cs (q 9) qPt Pt ++ wX10 cs am qM M) ++ (wX9 cs a q ++ wX7 cs (q 2) qS S' ++ wX2 cs (qS 0) qP P')).Perm (wFull cs a q qT qP qS qDr qV qH qSm qF1 qF2 qPt T R P' S' Dr V Hp Sm F1 F2 Pt ++ wX10 cs am qM M) := List.perm_append_comm.trans (pw (bs := [wX9 cs a q, wX6 cs (q 0) qT T, wX3 cs (q 1) (fun _ => q 0) R, wX2 cs (qS 0) qP P', wX7 cs (q 2) qS S', wX2 cs (q 3) qDr Dr, wX8 cs (q 4) qV V, wX0 cs (q 5) qH Hp, wX4 cs (q 6) qSm Sm, wX5 cs (q 7) qF1 F1, wX5 cs (q 8) qF2 F2, wX1 cs (q 9) qPt Pt, wX10 cs am qM M]) [0, 4, 3] [1, 2, 5, 6, 7, 8, 9, 10, 11, 12] (show (_ ++ _ : List Nat).Perm (List.range 13) by decide)).symm
  refine x_cutP (pc := 514) X hw hC hJ (va_runV (As := [.int y1, .int y2]) (rest := []) ⟨hx, hb, hml, hown, hts⟩ (c_X9_seen l D cs a q qS qP S P y1 y2 r S' P' hf9 _) (cwV 2 hts gL_law_X9_seen rfl rfl rfl (by decide +kernel) ⟨Nat.le_of_ble_eq_true rfl, Nat.le_of_ble_eq_true rfl⟩) ⟨CP_blind, va_recv hK (hw.perm hC).1 (ci := 9) (q0 := 0) rfl rfl, x_preP X hw hC [.ref a, .int y1, .int y2]⟩ rfl rfl hl.1 rfl (lv_room (Nat.le_of_ble_eq_true rfl)) dL_law_514 ⟨Nat.le_of_ble_eq_true rfl, Nat.le_of_ble_eq_true rfl⟩) (fun H locs hw => ?_)
  refine lv_aload_n (pc := 517) hx hb dL_law_517 rfl (lv_at hl 2 rfl) ?_
  refine lv_aload_n (pc := 518) hx hb dL_law_518 rfl (lv_at hl 0 rfl) ?_
  refine lv_iload_n (pc := 519) hx hb dL_law_519 rfl (lv_at hl 3 rfl) ?_
  refine lv_iconst (pc := 520) (v := 1) hx hb dL_law_520 (by decide) ?_
  refine lv_iadd (pc := 521) hx hb dL_law_521 ?_
  refine va_sld (pc := 522) hx hb hXs hbl hbA hw.2.2 h1 dL_law_522 ?_
  refine x_topi ey1 ?_
  refine lv_aload_n (pc := 523) hx hb dL_law_523 rfl (lv_at hl 0 rfl) ?_
  refine lv_iload_n (pc := 524) hx hb dL_law_524 rfl (lv_at hl 3 rfl) ?_
  refine lv_iconst (pc := 525) (v := 2) hx hb dL_law_525 (by decide) ?_
  refine lv_iadd (pc := 526) hx hb dL_law_526 ?_
  refine va_sld (pc := 527) hx hb hXs hbl hbA hw.2.2 h2 dL_law_527 ?_
  refine x_topi ey2 ?_
  have hC : (wFull cs a q qT qP qS qDr qV qH qSm qF1 qF2 qPt T R P' S' Dr V Hp Sm F1 F2 Pt ++ wX10 cs am qM M).Perm ((wX10 cs am qM M) ++ (wX9 cs a q ++ wX6 cs (q 0) qT T ++ wX3 cs (q 1) (fun _ => q 0) R ++ wX2 cs (qS 0) qP P' ++ wX7 cs (q 2) qS S' ++ wX2 cs (q 3) qDr Dr ++ wX8 cs (q 4) qV V ++ wX0 cs (q 5) qH Hp ++ wX4 cs (q 6) qSm Sm ++ wX5 cs (q 7) qF1 F1 ++ wX5 cs (q 8) qF2 F2 ++ wX1 cs (q 9) qPt Pt)) := pw (bs := [wX9 cs a q, wX6 cs (q 0) qT T, wX3 cs (q 1) (fun _ => q 0) R, wX2 cs (qS 0) qP P', wX7 cs (q 2) qS S', wX2 cs (q 3) qDr Dr, wX8 cs (q 4) qV V, wX0 cs (q 5) qH Hp, wX4 cs (q 6) qSm Sm, wX5 cs (q 7) qF1 F1, wX5 cs (q 8) qF2 F2, wX1 cs (q 9) qPt Pt, wX10 cs am qM M]) [12] [0, 1, 2, 3, 4, 5, 6, 7, 8, 9, 10, 11] (show (_ ++ _ : List Nat).Perm (List.range 13) by decide)
  have hJ : ((wX9 cs a q ++ wX6 cs (q 0) qT T ++ wX3 cs (q 1) (fun _ => q 0) R ++ wX2 cs (qS 0) qP P' ++ wX7 cs (q 2) qS S' ++ wX2 cs (q 3) qDr Dr ++ wX8 cs (q 4) qV V ++ wX0 cs (q 5) qH Hp ++ wX4 cs (q 6) qSm Sm ++ wX5 cs (q 7) qF1 F1 ++ wX5 cs (q 8) qF2 F2 ++ wX1 cs (q 9) qPt Pt) ++ (wX10 cs am qM M')).Perm (wFull cs a q qT qP qS qDr qV qH qSm qF1 qF2 qPt T R P' S' Dr V Hp Sm F1 F2 Pt ++ wX10 cs am qM M') := List.perm_append_comm.trans (pw (bs := [wX9 cs a q, wX6 cs (q 0) qT T, wX3 cs (q 1) (fun _ => q 0) R, wX2 cs (qS 0) qP P', wX7 cs (q 2) qS S', wX2 cs (q 3) qDr Dr, wX8 cs (q 4) qV V, wX0 cs (q 5) qH Hp, wX4 cs (q 6) qSm Sm, wX5 cs (q 7) qF1 F1, wX5 cs (q 8) qF2 F2, wX1 cs (q 9) qPt Pt, wX10 cs am qM M']) [12] [0, 1, 2, 3, 4, 5, 6, 7, 8, 9, 10, 11] (show (_ ++ _ : List Nat).Perm (List.range 13) by decide)).symm
  refine x_cutP (pc := 528) X hw hC hJ (va_runV (As := [.int y1, .int y2]) (rest := [.int r]) ⟨hx, hb, hml, hown, hts⟩ (c_X10_seen l D cs am qM M y1 y2 r M' hf10 _) (cwV 2 hts gL_law_X10_seen rfl rfl rfl (by decide +kernel) ⟨Nat.le_of_ble_eq_true rfl, Nat.le_of_ble_eq_true rfl⟩) ⟨CP_blind, va_recv hK (hw.perm hC).1 (ci := 10) (q0 := 0) rfl rfl, x_preP X hw hC [.ref am, .int y1, .int y2]⟩ rfl rfl hl.1 rfl (lv_room (Nat.le_of_ble_eq_true rfl)) dL_law_528 ⟨Nat.le_of_ble_eq_true rfl, Nat.le_of_ble_eq_true rfl⟩) (fun H locs hw => ?_)
  refine lv_icmp_eq (pc := 531) (tgt := 1415) hx hb dL_law_531 (by decide) (fun _ => ?_) (fun c0 => absurd rfl c0)
  exact K _ _ _ ⟨q, qT, qP, qS, qDr, qV, qH, qSm, qF1, qF2, qPt, qM, T, R, P', S', Dr, V, Hp, Sm, F1, F2, Pt, M', hw, hrel2⟩ hl

set_option maxHeartbeats 4000000 in
set_option maxRecDepth 100000 in
theorem lc_kept {p : Program} {l : Launch} {e : Env} {s : State} {m : MethodId} {args : Array Value} {below : List Frame} {meth : Method} {c : Code} {D : va_G} {cs : CS} {A : Nat → Prop} {Q : State → Prop} {ad ar : Nat → Nat} {b L : Nat} {xs : Nat → Int32} {a am : Nat} {Rel : RelT} (X : FX D (TY cs) p s m args meth c cL_law 4 wsL_law RL A (some .boolean)) (hE : SE ad ar A s s.heap) (hXs : va_X b L xs s s.heap) (hbl : b < s.heap.size) (hbA : ¬ A b) {H : Heap} {locs : List Loc} {ls : Array Slot} {i : Int32} (hLW : LW Rel D A s cs a am H locs) (hl : lv_has ls 4 [(0, .ref b), (1, .ref a), (2, .ref am), (3, .int i)]) (h1 : vp_in (i + 1) L) (h2 : vp_in (i + 2) L) (h3 : vp_in (i + 3) L) (h4 : vp_in (i + 4) L) (h5 : vp_in (i + 5) L) (hst : St_kept Rel) (K : ∀ (H : Heap) (locs : List Loc) (ls : Array Slot), LW Rel D A s cs a am H locs → lv_has ls 4 [(0, .ref b), (1, .ref a), (2, .ref am), (3, .int i)] → W p l e room_1 s m args below meth c H locs 69 3778 Q (F0 m 1415 ls [])) : W p l e room_1 s m args below meth c H locs 69 3778 Q (F0 m 536 ls []) := by
  obtain ⟨hx, hb, hml, hown, hts, hK, hA, hr, hlk⟩ := id X
  obtain ⟨q, qT, qP, qS, qDr, qV, qH, qSm, qF1, qF2, qPt, qM, T, R, P, S, Dr, V, Hp, Sm, F1, F2, Pt, M, hw, hrel⟩ := hLW
  obtain ⟨y1, ey1⟩ : ∃ y : Int32, y = xs (i + 1).toNatClampNeg := ⟨_, rfl⟩
  obtain ⟨y2, ey2⟩ : ∃ y : Int32, y = xs (i + 2).toNatClampNeg := ⟨_, rfl⟩
  obtain ⟨y3, ey3⟩ : ∃ y : Int32, y = xs (i + 3).toNatClampNeg := ⟨_, rfl⟩
  obtain ⟨y4, ey4⟩ : ∃ y : Int32, y = xs (i + 4).toNatClampNeg := ⟨_, rfl⟩
  obtain ⟨y5, ey5⟩ : ∃ y : Int32, y = xs (i + 5).toNatClampNeg := ⟨_, rfl⟩
  refine lv_aload_n (pc := 536) hx hb dL_law_536 rfl (lv_at hl 1 rfl) ?_
  refine lv_aload_n (pc := 537) hx hb dL_law_537 rfl (lv_at hl 0 rfl) ?_
  refine lv_iload_n (pc := 538) hx hb dL_law_538 rfl (lv_at hl 3 rfl) ?_
  refine lv_iconst (pc := 539) (v := 1) hx hb dL_law_539 (by decide) ?_
  refine lv_iadd (pc := 540) hx hb dL_law_540 ?_
  refine va_sld (pc := 541) hx hb hXs hbl hbA hw.2.2 h1 dL_law_541 ?_
  refine x_topi ey1 ?_
  obtain ⟨r, S', P', M', hf9, hf10, hrel2⟩ := hst _ _ _ _ _ _ _ _ _ _ _ _ hrel y1
  have hC : (wFull cs a q qT qP qS qDr qV qH qSm qF1 qF2 qPt T R P S Dr V Hp Sm F1 F2 Pt ++ wX10 cs am qM M).Perm ((wX9 cs a q ++ wX7 cs (q 2) qS S ++ wX2 cs (qS 0) qP P) ++ (wX6 cs (q 0) qT T ++ wX3 cs (q 1) (fun _ => q 0) R ++ wX2 cs (q 3) qDr Dr ++ wX8 cs (q 4) qV V ++ wX0 cs (q 5) qH Hp ++ wX4 cs (q 6) qSm Sm ++ wX5 cs (q 7) qF1 F1 ++ wX5 cs (q 8) qF2 F2 ++ wX1 cs (q 9) qPt Pt ++ wX10 cs am qM M)) := pw (bs := [wX9 cs a q, wX6 cs (q 0) qT T, wX3 cs (q 1) (fun _ => q 0) R, wX2 cs (qS 0) qP P, wX7 cs (q 2) qS S, wX2 cs (q 3) qDr Dr, wX8 cs (q 4) qV V, wX0 cs (q 5) qH Hp, wX4 cs (q 6) qSm Sm, wX5 cs (q 7) qF1 F1, wX5 cs (q 8) qF2 F2, wX1 cs (q 9) qPt Pt, wX10 cs am qM M]) [0, 4, 3] [1, 2, 5, 6, 7, 8, 9, 10, 11, 12] (show (_ ++ _ : List Nat).Perm (List.range 13) by decide)
  have hJ : ((wX6 cs (q 0) qT T ++ wX3 cs (q 1) (fun _ => q 0) R ++ wX2 cs (q 3) qDr Dr ++ wX8 cs (q 4) qV V ++ wX0 cs (q 5) qH Hp ++ wX4 cs (q 6) qSm Sm ++ wX5 cs (q 7) qF1 F1 ++ wX5 cs (q 8) qF2 F2 ++ wX1 cs (q 9) qPt Pt ++ wX10 cs am qM M) ++ (wX9 cs a q ++ wX7 cs (q 2) qS S' ++ wX2 cs (qS 0) qP P')).Perm (wFull cs a q qT qP qS qDr qV qH qSm qF1 qF2 qPt T R P' S' Dr V Hp Sm F1 F2 Pt ++ wX10 cs am qM M) := List.perm_append_comm.trans (pw (bs := [wX9 cs a q, wX6 cs (q 0) qT T, wX3 cs (q 1) (fun _ => q 0) R, wX2 cs (qS 0) qP P', wX7 cs (q 2) qS S', wX2 cs (q 3) qDr Dr, wX8 cs (q 4) qV V, wX0 cs (q 5) qH Hp, wX4 cs (q 6) qSm Sm, wX5 cs (q 7) qF1 F1, wX5 cs (q 8) qF2 F2, wX1 cs (q 9) qPt Pt, wX10 cs am qM M]) [0, 4, 3] [1, 2, 5, 6, 7, 8, 9, 10, 11, 12] (show (_ ++ _ : List Nat).Perm (List.range 13) by decide)).symm
  refine x_cutP (pc := 542) X hw hC hJ (va_runV (As := [.int y1]) (rest := []) ⟨hx, hb, hml, hown, hts⟩ (c_X9_kept l D cs a q qS qP S P y1 r S' P' hf9 _) (cwV 1 hts gL_law_X9_kept rfl rfl rfl (by decide +kernel) ⟨Nat.le_of_ble_eq_true rfl, Nat.le_of_ble_eq_true rfl⟩) ⟨CP_blind, va_recv hK (hw.perm hC).1 (ci := 9) (q0 := 0) rfl rfl, x_preP X hw hC [.ref a, .int y1]⟩ rfl rfl hl.1 rfl (lv_room (Nat.le_of_ble_eq_true rfl)) dL_law_542 ⟨Nat.le_of_ble_eq_true rfl, Nat.le_of_ble_eq_true rfl⟩) (fun H locs hw => ?_)
  refine lv_aload_n (pc := 545) hx hb dL_law_545 rfl (lv_at hl 2 rfl) ?_
  refine lv_aload_n (pc := 546) hx hb dL_law_546 rfl (lv_at hl 0 rfl) ?_
  refine lv_iload_n (pc := 547) hx hb dL_law_547 rfl (lv_at hl 3 rfl) ?_
  refine lv_iconst (pc := 548) (v := 1) hx hb dL_law_548 (by decide) ?_
  refine lv_iadd (pc := 549) hx hb dL_law_549 ?_
  refine va_sld (pc := 550) hx hb hXs hbl hbA hw.2.2 h1 dL_law_550 ?_
  refine x_topi ey1 ?_
  have hC : (wFull cs a q qT qP qS qDr qV qH qSm qF1 qF2 qPt T R P' S' Dr V Hp Sm F1 F2 Pt ++ wX10 cs am qM M).Perm ((wX10 cs am qM M) ++ (wX9 cs a q ++ wX6 cs (q 0) qT T ++ wX3 cs (q 1) (fun _ => q 0) R ++ wX2 cs (qS 0) qP P' ++ wX7 cs (q 2) qS S' ++ wX2 cs (q 3) qDr Dr ++ wX8 cs (q 4) qV V ++ wX0 cs (q 5) qH Hp ++ wX4 cs (q 6) qSm Sm ++ wX5 cs (q 7) qF1 F1 ++ wX5 cs (q 8) qF2 F2 ++ wX1 cs (q 9) qPt Pt)) := pw (bs := [wX9 cs a q, wX6 cs (q 0) qT T, wX3 cs (q 1) (fun _ => q 0) R, wX2 cs (qS 0) qP P', wX7 cs (q 2) qS S', wX2 cs (q 3) qDr Dr, wX8 cs (q 4) qV V, wX0 cs (q 5) qH Hp, wX4 cs (q 6) qSm Sm, wX5 cs (q 7) qF1 F1, wX5 cs (q 8) qF2 F2, wX1 cs (q 9) qPt Pt, wX10 cs am qM M]) [12] [0, 1, 2, 3, 4, 5, 6, 7, 8, 9, 10, 11] (show (_ ++ _ : List Nat).Perm (List.range 13) by decide)
  have hJ : ((wX9 cs a q ++ wX6 cs (q 0) qT T ++ wX3 cs (q 1) (fun _ => q 0) R ++ wX2 cs (qS 0) qP P' ++ wX7 cs (q 2) qS S' ++ wX2 cs (q 3) qDr Dr ++ wX8 cs (q 4) qV V ++ wX0 cs (q 5) qH Hp ++ wX4 cs (q 6) qSm Sm ++ wX5 cs (q 7) qF1 F1 ++ wX5 cs (q 8) qF2 F2 ++ wX1 cs (q 9) qPt Pt) ++ (wX10 cs am qM M')).Perm (wFull cs a q qT qP qS qDr qV qH qSm qF1 qF2 qPt T R P' S' Dr V Hp Sm F1 F2 Pt ++ wX10 cs am qM M') := List.perm_append_comm.trans (pw (bs := [wX9 cs a q, wX6 cs (q 0) qT T, wX3 cs (q 1) (fun _ => q 0) R, wX2 cs (qS 0) qP P', wX7 cs (q 2) qS S', wX2 cs (q 3) qDr Dr, wX8 cs (q 4) qV V, wX0 cs (q 5) qH Hp, wX4 cs (q 6) qSm Sm, wX5 cs (q 7) qF1 F1, wX5 cs (q 8) qF2 F2, wX1 cs (q 9) qPt Pt, wX10 cs am qM M']) [12] [0, 1, 2, 3, 4, 5, 6, 7, 8, 9, 10, 11] (show (_ ++ _ : List Nat).Perm (List.range 13) by decide)).symm
  refine x_cutP (pc := 551) X hw hC hJ (va_runV (As := [.int y1]) (rest := [.int r]) ⟨hx, hb, hml, hown, hts⟩ (c_X10_kept l D cs am qM M y1 r M' hf10 _) (cwV 1 hts gL_law_X10_kept rfl rfl rfl (by decide +kernel) ⟨Nat.le_of_ble_eq_true rfl, Nat.le_of_ble_eq_true rfl⟩) ⟨CP_blind, va_recv hK (hw.perm hC).1 (ci := 10) (q0 := 0) rfl rfl, x_preP X hw hC [.ref am, .int y1]⟩ rfl rfl hl.1 rfl (lv_room (Nat.le_of_ble_eq_true rfl)) dL_law_551 ⟨Nat.le_of_ble_eq_true rfl, Nat.le_of_ble_eq_true rfl⟩) (fun H locs hw => ?_)
  refine lv_icmp_eq (pc := 554) (tgt := 1415) hx hb dL_law_554 (by decide) (fun _ => ?_) (fun c0 => absurd rfl c0)
  exact K _ _ _ ⟨q, qT, qP, qS, qDr, qV, qH, qSm, qF1, qF2, qPt, qM, T, R, P', S', Dr, V, Hp, Sm, F1, F2, Pt, M', hw, hrel2⟩ hl

set_option maxHeartbeats 4000000 in
set_option maxRecDepth 100000 in
theorem lc_good {p : Program} {l : Launch} {e : Env} {s : State} {m : MethodId} {args : Array Value} {below : List Frame} {meth : Method} {c : Code} {D : va_G} {cs : CS} {A : Nat → Prop} {Q : State → Prop} {ad ar : Nat → Nat} {b L : Nat} {xs : Nat → Int32} {a am : Nat} {Rel : RelT} (X : FX D (TY cs) p s m args meth c cL_law 4 wsL_law RL A (some .boolean)) (hE : SE ad ar A s s.heap) (hXs : va_X b L xs s s.heap) (hbl : b < s.heap.size) (hbA : ¬ A b) {H : Heap} {locs : List Loc} {ls : Array Slot} {i : Int32} (hLW : LW Rel D A s cs a am H locs) (hl : lv_has ls 4 [(0, .ref b), (1, .ref a), (2, .ref am), (3, .int i)]) (h1 : vp_in (i + 1) L) (h2 : vp_in (i + 2) L) (h3 : vp_in (i + 3) L) (h4 : vp_in (i + 4) L) (h5 : vp_in (i + 5) L) (hst : St_good Rel) (K : ∀ (H : Heap) (locs : List Loc) (ls : Array Slot), LW Rel D A s cs a am H locs → lv_has ls 4 [(0, .ref b), (1, .ref a), (2, .ref am), (3, .int i)] → W p l e room_1 s m args below meth c H locs 69 3778 Q (F0 m 1415 ls [])) : W p l e room_1 s m args below meth c H locs 69 3778 Q (F0 m 559 ls []) := by
  obtain ⟨hx, hb, hml, hown, hts, hK, hA, hr, hlk⟩ := id X
  obtain ⟨q, qT, qP, qS, qDr, qV, qH, qSm, qF1, qF2, qPt, qM, T, R, P, S, Dr, V, Hp, Sm, F1, F2, Pt, M, hw, hrel⟩ := hLW
  obtain ⟨y1, ey1⟩ : ∃ y : Int32, y = xs (i + 1).toNatClampNeg := ⟨_, rfl⟩
  obtain ⟨y2, ey2⟩ : ∃ y : Int32, y = xs (i + 2).toNatClampNeg := ⟨_, rfl⟩
  obtain ⟨y3, ey3⟩ : ∃ y : Int32, y = xs (i + 3).toNatClampNeg := ⟨_, rfl⟩
  obtain ⟨y4, ey4⟩ : ∃ y : Int32, y = xs (i + 4).toNatClampNeg := ⟨_, rfl⟩
  obtain ⟨y5, ey5⟩ : ∃ y : Int32, y = xs (i + 5).toNatClampNeg := ⟨_, rfl⟩
  refine lv_aload_n (pc := 559) hx hb dL_law_559 rfl (lv_at hl 1 rfl) ?_
  refine lv_aload_n (pc := 560) hx hb dL_law_560 rfl (lv_at hl 0 rfl) ?_
  refine lv_iload_n (pc := 561) hx hb dL_law_561 rfl (lv_at hl 3 rfl) ?_
  refine lv_iconst (pc := 562) (v := 1) hx hb dL_law_562 (by decide) ?_
  refine lv_iadd (pc := 563) hx hb dL_law_563 ?_
  refine va_sld (pc := 564) hx hb hXs hbl hbA hw.2.2 h1 dL_law_564 ?_
  refine x_topi ey1 ?_
  obtain ⟨r, S', P', M', hf9, hf10, hrel2⟩ := hst _ _ _ _ _ _ _ _ _ _ _ _ hrel y1
  have hC : (wFull cs a q qT qP qS qDr qV qH qSm qF1 qF2 qPt T R P S Dr V Hp Sm F1 F2 Pt ++ wX10 cs am qM M).Perm ((wX9 cs a q ++ wX7 cs (q 2) qS S ++ wX2 cs (qS 0) qP P) ++ (wX6 cs (q 0) qT T ++ wX3 cs (q 1) (fun _ => q 0) R ++ wX2 cs (q 3) qDr Dr ++ wX8 cs (q 4) qV V ++ wX0 cs (q 5) qH Hp ++ wX4 cs (q 6) qSm Sm ++ wX5 cs (q 7) qF1 F1 ++ wX5 cs (q 8) qF2 F2 ++ wX1 cs (q 9) qPt Pt ++ wX10 cs am qM M)) := pw (bs := [wX9 cs a q, wX6 cs (q 0) qT T, wX3 cs (q 1) (fun _ => q 0) R, wX2 cs (qS 0) qP P, wX7 cs (q 2) qS S, wX2 cs (q 3) qDr Dr, wX8 cs (q 4) qV V, wX0 cs (q 5) qH Hp, wX4 cs (q 6) qSm Sm, wX5 cs (q 7) qF1 F1, wX5 cs (q 8) qF2 F2, wX1 cs (q 9) qPt Pt, wX10 cs am qM M]) [0, 4, 3] [1, 2, 5, 6, 7, 8, 9, 10, 11, 12] (show (_ ++ _ : List Nat).Perm (List.range 13) by decide)
  have hJ : ((wX6 cs (q 0) qT T ++ wX3 cs (q 1) (fun _ => q 0) R ++ wX2 cs (q 3) qDr Dr ++ wX8 cs (q 4) qV V ++ wX0 cs (q 5) qH Hp ++ wX4 cs (q 6) qSm Sm ++ wX5 cs (q 7) qF1 F1 ++ wX5 cs (q 8) qF2 F2 ++ wX1 cs (q 9) qPt Pt ++ wX10 cs am qM M) ++ (wX9 cs a q ++ wX7 cs (q 2) qS S' ++ wX2 cs (qS 0) qP P')).Perm (wFull cs a q qT qP qS qDr qV qH qSm qF1 qF2 qPt T R P' S' Dr V Hp Sm F1 F2 Pt ++ wX10 cs am qM M) := List.perm_append_comm.trans (pw (bs := [wX9 cs a q, wX6 cs (q 0) qT T, wX3 cs (q 1) (fun _ => q 0) R, wX2 cs (qS 0) qP P', wX7 cs (q 2) qS S', wX2 cs (q 3) qDr Dr, wX8 cs (q 4) qV V, wX0 cs (q 5) qH Hp, wX4 cs (q 6) qSm Sm, wX5 cs (q 7) qF1 F1, wX5 cs (q 8) qF2 F2, wX1 cs (q 9) qPt Pt, wX10 cs am qM M]) [0, 4, 3] [1, 2, 5, 6, 7, 8, 9, 10, 11, 12] (show (_ ++ _ : List Nat).Perm (List.range 13) by decide)).symm
  refine x_cutP (pc := 565) X hw hC hJ (va_runV (As := [.int y1]) (rest := []) ⟨hx, hb, hml, hown, hts⟩ (c_X9_good l D cs a q qS qP S P y1 r S' P' hf9 _) (cwV 1 hts gL_law_X9_good rfl rfl rfl (by decide +kernel) ⟨Nat.le_of_ble_eq_true rfl, Nat.le_of_ble_eq_true rfl⟩) ⟨CP_blind, va_recv hK (hw.perm hC).1 (ci := 9) (q0 := 0) rfl rfl, x_preP X hw hC [.ref a, .int y1]⟩ rfl rfl hl.1 rfl (lv_room (Nat.le_of_ble_eq_true rfl)) dL_law_565 ⟨Nat.le_of_ble_eq_true rfl, Nat.le_of_ble_eq_true rfl⟩) (fun H locs hw => ?_)
  refine lv_aload_n (pc := 568) hx hb dL_law_568 rfl (lv_at hl 2 rfl) ?_
  refine lv_aload_n (pc := 569) hx hb dL_law_569 rfl (lv_at hl 0 rfl) ?_
  refine lv_iload_n (pc := 570) hx hb dL_law_570 rfl (lv_at hl 3 rfl) ?_
  refine lv_iconst (pc := 571) (v := 1) hx hb dL_law_571 (by decide) ?_
  refine lv_iadd (pc := 572) hx hb dL_law_572 ?_
  refine va_sld (pc := 573) hx hb hXs hbl hbA hw.2.2 h1 dL_law_573 ?_
  refine x_topi ey1 ?_
  have hC : (wFull cs a q qT qP qS qDr qV qH qSm qF1 qF2 qPt T R P' S' Dr V Hp Sm F1 F2 Pt ++ wX10 cs am qM M).Perm ((wX10 cs am qM M) ++ (wX9 cs a q ++ wX6 cs (q 0) qT T ++ wX3 cs (q 1) (fun _ => q 0) R ++ wX2 cs (qS 0) qP P' ++ wX7 cs (q 2) qS S' ++ wX2 cs (q 3) qDr Dr ++ wX8 cs (q 4) qV V ++ wX0 cs (q 5) qH Hp ++ wX4 cs (q 6) qSm Sm ++ wX5 cs (q 7) qF1 F1 ++ wX5 cs (q 8) qF2 F2 ++ wX1 cs (q 9) qPt Pt)) := pw (bs := [wX9 cs a q, wX6 cs (q 0) qT T, wX3 cs (q 1) (fun _ => q 0) R, wX2 cs (qS 0) qP P', wX7 cs (q 2) qS S', wX2 cs (q 3) qDr Dr, wX8 cs (q 4) qV V, wX0 cs (q 5) qH Hp, wX4 cs (q 6) qSm Sm, wX5 cs (q 7) qF1 F1, wX5 cs (q 8) qF2 F2, wX1 cs (q 9) qPt Pt, wX10 cs am qM M]) [12] [0, 1, 2, 3, 4, 5, 6, 7, 8, 9, 10, 11] (show (_ ++ _ : List Nat).Perm (List.range 13) by decide)
  have hJ : ((wX9 cs a q ++ wX6 cs (q 0) qT T ++ wX3 cs (q 1) (fun _ => q 0) R ++ wX2 cs (qS 0) qP P' ++ wX7 cs (q 2) qS S' ++ wX2 cs (q 3) qDr Dr ++ wX8 cs (q 4) qV V ++ wX0 cs (q 5) qH Hp ++ wX4 cs (q 6) qSm Sm ++ wX5 cs (q 7) qF1 F1 ++ wX5 cs (q 8) qF2 F2 ++ wX1 cs (q 9) qPt Pt) ++ (wX10 cs am qM M')).Perm (wFull cs a q qT qP qS qDr qV qH qSm qF1 qF2 qPt T R P' S' Dr V Hp Sm F1 F2 Pt ++ wX10 cs am qM M') := List.perm_append_comm.trans (pw (bs := [wX9 cs a q, wX6 cs (q 0) qT T, wX3 cs (q 1) (fun _ => q 0) R, wX2 cs (qS 0) qP P', wX7 cs (q 2) qS S', wX2 cs (q 3) qDr Dr, wX8 cs (q 4) qV V, wX0 cs (q 5) qH Hp, wX4 cs (q 6) qSm Sm, wX5 cs (q 7) qF1 F1, wX5 cs (q 8) qF2 F2, wX1 cs (q 9) qPt Pt, wX10 cs am qM M']) [12] [0, 1, 2, 3, 4, 5, 6, 7, 8, 9, 10, 11] (show (_ ++ _ : List Nat).Perm (List.range 13) by decide)).symm
  refine x_cutP (pc := 574) X hw hC hJ (va_runV (As := [.int y1]) (rest := [.int r]) ⟨hx, hb, hml, hown, hts⟩ (c_X10_good l D cs am qM M y1 r M' hf10 _) (cwV 1 hts gL_law_X10_good rfl rfl rfl (by decide +kernel) ⟨Nat.le_of_ble_eq_true rfl, Nat.le_of_ble_eq_true rfl⟩) ⟨CP_blind, va_recv hK (hw.perm hC).1 (ci := 10) (q0 := 0) rfl rfl, x_preP X hw hC [.ref am, .int y1]⟩ rfl rfl hl.1 rfl (lv_room (Nat.le_of_ble_eq_true rfl)) dL_law_574 ⟨Nat.le_of_ble_eq_true rfl, Nat.le_of_ble_eq_true rfl⟩) (fun H locs hw => ?_)
  refine lv_icmp_eq (pc := 577) (tgt := 1415) hx hb dL_law_577 (by decide) (fun _ => ?_) (fun c0 => absurd rfl c0)
  exact K _ _ _ ⟨q, qT, qP, qS, qDr, qV, qH, qSm, qF1, qF2, qPt, qM, T, R, P', S', Dr, V, Hp, Sm, F1, F2, Pt, M', hw, hrel2⟩ hl

set_option maxHeartbeats 4000000 in
set_option maxRecDepth 100000 in
theorem lc_together {p : Program} {l : Launch} {e : Env} {s : State} {m : MethodId} {args : Array Value} {below : List Frame} {meth : Method} {c : Code} {D : va_G} {cs : CS} {A : Nat → Prop} {Q : State → Prop} {ad ar : Nat → Nat} {b L : Nat} {xs : Nat → Int32} {a am : Nat} {Rel : RelT} (X : FX D (TY cs) p s m args meth c cL_law 4 wsL_law RL A (some .boolean)) (hE : SE ad ar A s s.heap) (hXs : va_X b L xs s s.heap) (hbl : b < s.heap.size) (hbA : ¬ A b) {H : Heap} {locs : List Loc} {ls : Array Slot} {i : Int32} (hLW : LW Rel D A s cs a am H locs) (hl : lv_has ls 4 [(0, .ref b), (1, .ref a), (2, .ref am), (3, .int i)]) (h1 : vp_in (i + 1) L) (h2 : vp_in (i + 2) L) (h3 : vp_in (i + 3) L) (h4 : vp_in (i + 4) L) (h5 : vp_in (i + 5) L) (hst : St_together Rel) (K : ∀ (H : Heap) (locs : List Loc) (ls : Array Slot), LW Rel D A s cs a am H locs → lv_has ls 4 [(0, .ref b), (1, .ref a), (2, .ref am), (3, .int i)] → W p l e room_1 s m args below meth c H locs 69 3778 Q (F0 m 1415 ls [])) : W p l e room_1 s m args below meth c H locs 69 3778 Q (F0 m 582 ls []) := by
  obtain ⟨hx, hb, hml, hown, hts, hK, hA, hr, hlk⟩ := id X
  obtain ⟨q, qT, qP, qS, qDr, qV, qH, qSm, qF1, qF2, qPt, qM, T, R, P, S, Dr, V, Hp, Sm, F1, F2, Pt, M, hw, hrel⟩ := hLW
  obtain ⟨y1, ey1⟩ : ∃ y : Int32, y = xs (i + 1).toNatClampNeg := ⟨_, rfl⟩
  obtain ⟨y2, ey2⟩ : ∃ y : Int32, y = xs (i + 2).toNatClampNeg := ⟨_, rfl⟩
  obtain ⟨y3, ey3⟩ : ∃ y : Int32, y = xs (i + 3).toNatClampNeg := ⟨_, rfl⟩
  obtain ⟨y4, ey4⟩ : ∃ y : Int32, y = xs (i + 4).toNatClampNeg := ⟨_, rfl⟩
  obtain ⟨y5, ey5⟩ : ∃ y : Int32, y = xs (i + 5).toNatClampNeg := ⟨_, rfl⟩
  refine lv_aload_n (pc := 582) hx hb dL_law_582 rfl (lv_at hl 1 rfl) ?_
  refine lv_aload_n (pc := 583) hx hb dL_law_583 rfl (lv_at hl 0 rfl) ?_
  refine lv_iload_n (pc := 584) hx hb dL_law_584 rfl (lv_at hl 3 rfl) ?_
  refine lv_iconst (pc := 585) (v := 1) hx hb dL_law_585 (by decide) ?_
  refine lv_iadd (pc := 586) hx hb dL_law_586 ?_
  refine va_sld (pc := 587) hx hb hXs hbl hbA hw.2.2 h1 dL_law_587 ?_
  refine x_topi ey1 ?_
  obtain ⟨r, S', P', M', hf9, hf10, hrel2⟩ := hst _ _ _ _ _ _ _ _ _ _ _ _ hrel y1
  have hC : (wFull cs a q qT qP qS qDr qV qH qSm qF1 qF2 qPt T R P S Dr V Hp Sm F1 F2 Pt ++ wX10 cs am qM M).Perm ((wX9 cs a q ++ wX7 cs (q 2) qS S ++ wX2 cs (qS 0) qP P) ++ (wX6 cs (q 0) qT T ++ wX3 cs (q 1) (fun _ => q 0) R ++ wX2 cs (q 3) qDr Dr ++ wX8 cs (q 4) qV V ++ wX0 cs (q 5) qH Hp ++ wX4 cs (q 6) qSm Sm ++ wX5 cs (q 7) qF1 F1 ++ wX5 cs (q 8) qF2 F2 ++ wX1 cs (q 9) qPt Pt ++ wX10 cs am qM M)) := pw (bs := [wX9 cs a q, wX6 cs (q 0) qT T, wX3 cs (q 1) (fun _ => q 0) R, wX2 cs (qS 0) qP P, wX7 cs (q 2) qS S, wX2 cs (q 3) qDr Dr, wX8 cs (q 4) qV V, wX0 cs (q 5) qH Hp, wX4 cs (q 6) qSm Sm, wX5 cs (q 7) qF1 F1, wX5 cs (q 8) qF2 F2, wX1 cs (q 9) qPt Pt, wX10 cs am qM M]) [0, 4, 3] [1, 2, 5, 6, 7, 8, 9, 10, 11, 12] (show (_ ++ _ : List Nat).Perm (List.range 13) by decide)
  have hJ : ((wX6 cs (q 0) qT T ++ wX3 cs (q 1) (fun _ => q 0) R ++ wX2 cs (q 3) qDr Dr ++ wX8 cs (q 4) qV V ++ wX0 cs (q 5) qH Hp ++ wX4 cs (q 6) qSm Sm ++ wX5 cs (q 7) qF1 F1 ++ wX5 cs (q 8) qF2 F2 ++ wX1 cs (q 9) qPt Pt ++ wX10 cs am qM M) ++ (wX9 cs a q ++ wX7 cs (q 2) qS S' ++ wX2 cs (qS 0) qP P')).Perm (wFull cs a q qT qP qS qDr qV qH qSm qF1 qF2 qPt T R P' S' Dr V Hp Sm F1 F2 Pt ++ wX10 cs am qM M) := List.perm_append_comm.trans (pw (bs := [wX9 cs a q, wX6 cs (q 0) qT T, wX3 cs (q 1) (fun _ => q 0) R, wX2 cs (qS 0) qP P', wX7 cs (q 2) qS S', wX2 cs (q 3) qDr Dr, wX8 cs (q 4) qV V, wX0 cs (q 5) qH Hp, wX4 cs (q 6) qSm Sm, wX5 cs (q 7) qF1 F1, wX5 cs (q 8) qF2 F2, wX1 cs (q 9) qPt Pt, wX10 cs am qM M]) [0, 4, 3] [1, 2, 5, 6, 7, 8, 9, 10, 11, 12] (show (_ ++ _ : List Nat).Perm (List.range 13) by decide)).symm
  refine x_cutP (pc := 588) X hw hC hJ (va_runV (As := [.int y1]) (rest := []) ⟨hx, hb, hml, hown, hts⟩ (c_X9_together l D cs a q qS qP S P y1 r S' P' hf9 _) (cwV 1 hts gL_law_X9_together rfl rfl rfl (by decide +kernel) ⟨Nat.le_of_ble_eq_true rfl, Nat.le_of_ble_eq_true rfl⟩) ⟨CP_blind, va_recv hK (hw.perm hC).1 (ci := 9) (q0 := 0) rfl rfl, x_preP X hw hC [.ref a, .int y1]⟩ rfl rfl hl.1 rfl (lv_room (Nat.le_of_ble_eq_true rfl)) dL_law_588 ⟨Nat.le_of_ble_eq_true rfl, Nat.le_of_ble_eq_true rfl⟩) (fun H locs hw => ?_)
  refine lv_aload_n (pc := 591) hx hb dL_law_591 rfl (lv_at hl 2 rfl) ?_
  refine lv_aload_n (pc := 592) hx hb dL_law_592 rfl (lv_at hl 0 rfl) ?_
  refine lv_iload_n (pc := 593) hx hb dL_law_593 rfl (lv_at hl 3 rfl) ?_
  refine lv_iconst (pc := 594) (v := 1) hx hb dL_law_594 (by decide) ?_
  refine lv_iadd (pc := 595) hx hb dL_law_595 ?_
  refine va_sld (pc := 596) hx hb hXs hbl hbA hw.2.2 h1 dL_law_596 ?_
  refine x_topi ey1 ?_
  have hC : (wFull cs a q qT qP qS qDr qV qH qSm qF1 qF2 qPt T R P' S' Dr V Hp Sm F1 F2 Pt ++ wX10 cs am qM M).Perm ((wX10 cs am qM M) ++ (wX9 cs a q ++ wX6 cs (q 0) qT T ++ wX3 cs (q 1) (fun _ => q 0) R ++ wX2 cs (qS 0) qP P' ++ wX7 cs (q 2) qS S' ++ wX2 cs (q 3) qDr Dr ++ wX8 cs (q 4) qV V ++ wX0 cs (q 5) qH Hp ++ wX4 cs (q 6) qSm Sm ++ wX5 cs (q 7) qF1 F1 ++ wX5 cs (q 8) qF2 F2 ++ wX1 cs (q 9) qPt Pt)) := pw (bs := [wX9 cs a q, wX6 cs (q 0) qT T, wX3 cs (q 1) (fun _ => q 0) R, wX2 cs (qS 0) qP P', wX7 cs (q 2) qS S', wX2 cs (q 3) qDr Dr, wX8 cs (q 4) qV V, wX0 cs (q 5) qH Hp, wX4 cs (q 6) qSm Sm, wX5 cs (q 7) qF1 F1, wX5 cs (q 8) qF2 F2, wX1 cs (q 9) qPt Pt, wX10 cs am qM M]) [12] [0, 1, 2, 3, 4, 5, 6, 7, 8, 9, 10, 11] (show (_ ++ _ : List Nat).Perm (List.range 13) by decide)
  have hJ : ((wX9 cs a q ++ wX6 cs (q 0) qT T ++ wX3 cs (q 1) (fun _ => q 0) R ++ wX2 cs (qS 0) qP P' ++ wX7 cs (q 2) qS S' ++ wX2 cs (q 3) qDr Dr ++ wX8 cs (q 4) qV V ++ wX0 cs (q 5) qH Hp ++ wX4 cs (q 6) qSm Sm ++ wX5 cs (q 7) qF1 F1 ++ wX5 cs (q 8) qF2 F2 ++ wX1 cs (q 9) qPt Pt) ++ (wX10 cs am qM M')).Perm (wFull cs a q qT qP qS qDr qV qH qSm qF1 qF2 qPt T R P' S' Dr V Hp Sm F1 F2 Pt ++ wX10 cs am qM M') := List.perm_append_comm.trans (pw (bs := [wX9 cs a q, wX6 cs (q 0) qT T, wX3 cs (q 1) (fun _ => q 0) R, wX2 cs (qS 0) qP P', wX7 cs (q 2) qS S', wX2 cs (q 3) qDr Dr, wX8 cs (q 4) qV V, wX0 cs (q 5) qH Hp, wX4 cs (q 6) qSm Sm, wX5 cs (q 7) qF1 F1, wX5 cs (q 8) qF2 F2, wX1 cs (q 9) qPt Pt, wX10 cs am qM M']) [12] [0, 1, 2, 3, 4, 5, 6, 7, 8, 9, 10, 11] (show (_ ++ _ : List Nat).Perm (List.range 13) by decide)).symm
  refine x_cutP (pc := 597) X hw hC hJ (va_runV (As := [.int y1]) (rest := [.int r]) ⟨hx, hb, hml, hown, hts⟩ (c_X10_together l D cs am qM M y1 r M' hf10 _) (cwV 1 hts gL_law_X10_together rfl rfl rfl (by decide +kernel) ⟨Nat.le_of_ble_eq_true rfl, Nat.le_of_ble_eq_true rfl⟩) ⟨CP_blind, va_recv hK (hw.perm hC).1 (ci := 10) (q0 := 0) rfl rfl, x_preP X hw hC [.ref am, .int y1]⟩ rfl rfl hl.1 rfl (lv_room (Nat.le_of_ble_eq_true rfl)) dL_law_597 ⟨Nat.le_of_ble_eq_true rfl, Nat.le_of_ble_eq_true rfl⟩) (fun H locs hw => ?_)
  refine lv_icmp_eq (pc := 600) (tgt := 1415) hx hb dL_law_600 (by decide) (fun _ => ?_) (fun c0 => absurd rfl c0)
  exact K _ _ _ ⟨q, qT, qP, qS, qDr, qV, qH, qSm, qF1, qF2, qPt, qM, T, R, P', S', Dr, V, Hp, Sm, F1, F2, Pt, M', hw, hrel2⟩ hl

set_option maxHeartbeats 4000000 in
set_option maxRecDepth 100000 in
theorem lc_again {p : Program} {l : Launch} {e : Env} {s : State} {m : MethodId} {args : Array Value} {below : List Frame} {meth : Method} {c : Code} {D : va_G} {cs : CS} {A : Nat → Prop} {Q : State → Prop} {ad ar : Nat → Nat} {b L : Nat} {xs : Nat → Int32} {a am : Nat} {Rel : RelT} (X : FX D (TY cs) p s m args meth c cL_law 4 wsL_law RL A (some .boolean)) (hE : SE ad ar A s s.heap) (hXs : va_X b L xs s s.heap) (hbl : b < s.heap.size) (hbA : ¬ A b) {H : Heap} {locs : List Loc} {ls : Array Slot} {i : Int32} (hLW : LW Rel D A s cs a am H locs) (hl : lv_has ls 4 [(0, .ref b), (1, .ref a), (2, .ref am), (3, .int i)]) (h1 : vp_in (i + 1) L) (h2 : vp_in (i + 2) L) (h3 : vp_in (i + 3) L) (h4 : vp_in (i + 4) L) (h5 : vp_in (i + 5) L) (hst : St_again Rel) (K : ∀ (H : Heap) (locs : List Loc) (ls : Array Slot), LW Rel D A s cs a am H locs → lv_has ls 4 [(0, .ref b), (1, .ref a), (2, .ref am), (3, .int i)] → W p l e room_1 s m args below meth c H locs 69 3778 Q (F0 m 1415 ls [])) : W p l e room_1 s m args below meth c H locs 69 3778 Q (F0 m 605 ls []) := by
  obtain ⟨hx, hb, hml, hown, hts, hK, hA, hr, hlk⟩ := id X
  obtain ⟨q, qT, qP, qS, qDr, qV, qH, qSm, qF1, qF2, qPt, qM, T, R, P, S, Dr, V, Hp, Sm, F1, F2, Pt, M, hw, hrel⟩ := hLW
  obtain ⟨y1, ey1⟩ : ∃ y : Int32, y = xs (i + 1).toNatClampNeg := ⟨_, rfl⟩
  obtain ⟨y2, ey2⟩ : ∃ y : Int32, y = xs (i + 2).toNatClampNeg := ⟨_, rfl⟩
  obtain ⟨y3, ey3⟩ : ∃ y : Int32, y = xs (i + 3).toNatClampNeg := ⟨_, rfl⟩
  obtain ⟨y4, ey4⟩ : ∃ y : Int32, y = xs (i + 4).toNatClampNeg := ⟨_, rfl⟩
  obtain ⟨y5, ey5⟩ : ∃ y : Int32, y = xs (i + 5).toNatClampNeg := ⟨_, rfl⟩
  refine lv_aload_n (pc := 605) hx hb dL_law_605 rfl (lv_at hl 1 rfl) ?_
  refine lv_aload_n (pc := 606) hx hb dL_law_606 rfl (lv_at hl 0 rfl) ?_
  refine lv_iload_n (pc := 607) hx hb dL_law_607 rfl (lv_at hl 3 rfl) ?_
  refine lv_iconst (pc := 608) (v := 1) hx hb dL_law_608 (by decide) ?_
  refine lv_iadd (pc := 609) hx hb dL_law_609 ?_
  refine va_sld (pc := 610) hx hb hXs hbl hbA hw.2.2 h1 dL_law_610 ?_
  refine x_topi ey1 ?_
  refine lv_aload_n (pc := 611) hx hb dL_law_611 rfl (lv_at hl 0 rfl) ?_
  refine lv_iload_n (pc := 612) hx hb dL_law_612 rfl (lv_at hl 3 rfl) ?_
  refine lv_iconst (pc := 613) (v := 2) hx hb dL_law_613 (by decide) ?_
  refine lv_iadd (pc := 614) hx hb dL_law_614 ?_
  refine va_sld (pc := 615) hx hb hXs hbl hbA hw.2.2 h2 dL_law_615 ?_
  refine x_topi ey2 ?_
  obtain ⟨r, S', P', M', hf9, hf10, hrel2⟩ := hst _ _ _ _ _ _ _ _ _ _ _ _ hrel y1 y2
  have hC : (wFull cs a q qT qP qS qDr qV qH qSm qF1 qF2 qPt T R P S Dr V Hp Sm F1 F2 Pt ++ wX10 cs am qM M).Perm ((wX9 cs a q ++ wX7 cs (q 2) qS S ++ wX2 cs (qS 0) qP P) ++ (wX6 cs (q 0) qT T ++ wX3 cs (q 1) (fun _ => q 0) R ++ wX2 cs (q 3) qDr Dr ++ wX8 cs (q 4) qV V ++ wX0 cs (q 5) qH Hp ++ wX4 cs (q 6) qSm Sm ++ wX5 cs (q 7) qF1 F1 ++ wX5 cs (q 8) qF2 F2 ++ wX1 cs (q 9) qPt Pt ++ wX10 cs am qM M)) := pw (bs := [wX9 cs a q, wX6 cs (q 0) qT T, wX3 cs (q 1) (fun _ => q 0) R, wX2 cs (qS 0) qP P, wX7 cs (q 2) qS S, wX2 cs (q 3) qDr Dr, wX8 cs (q 4) qV V, wX0 cs (q 5) qH Hp, wX4 cs (q 6) qSm Sm, wX5 cs (q 7) qF1 F1, wX5 cs (q 8) qF2 F2, wX1 cs (q 9) qPt Pt, wX10 cs am qM M]) [0, 4, 3] [1, 2, 5, 6, 7, 8, 9, 10, 11, 12] (show (_ ++ _ : List Nat).Perm (List.range 13) by decide)
  have hJ : ((wX6 cs (q 0) qT T ++ wX3 cs (q 1) (fun _ => q 0) R ++ wX2 cs (q 3) qDr Dr ++ wX8 cs (q 4) qV V ++ wX0 cs (q 5) qH Hp ++ wX4 cs (q 6) qSm Sm ++ wX5 cs (q 7) qF1 F1 ++ wX5 cs (q 8) qF2 F2 ++ wX1 cs (q 9) qPt Pt ++ wX10 cs am qM M) ++ (wX9 cs a q ++ wX7 cs (q 2) qS S' ++ wX2 cs (qS 0) qP P')).Perm (wFull cs a q qT qP qS qDr qV qH qSm qF1 qF2 qPt T R P' S' Dr V Hp Sm F1 F2 Pt ++ wX10 cs am qM M) := List.perm_append_comm.trans (pw (bs := [wX9 cs a q, wX6 cs (q 0) qT T, wX3 cs (q 1) (fun _ => q 0) R, wX2 cs (qS 0) qP P', wX7 cs (q 2) qS S', wX2 cs (q 3) qDr Dr, wX8 cs (q 4) qV V, wX0 cs (q 5) qH Hp, wX4 cs (q 6) qSm Sm, wX5 cs (q 7) qF1 F1, wX5 cs (q 8) qF2 F2, wX1 cs (q 9) qPt Pt, wX10 cs am qM M]) [0, 4, 3] [1, 2, 5, 6, 7, 8, 9, 10, 11, 12] (show (_ ++ _ : List Nat).Perm (List.range 13) by decide)).symm
  refine x_cutP (pc := 616) X hw hC hJ (va_runV (As := [.int y1, .int y2]) (rest := []) ⟨hx, hb, hml, hown, hts⟩ (c_X9_again l D cs a q qS qP S P y1 y2 r S' P' hf9 _) (cwV 2 hts gL_law_X9_again rfl rfl rfl (by decide +kernel) ⟨Nat.le_of_ble_eq_true rfl, Nat.le_of_ble_eq_true rfl⟩) ⟨CP_blind, va_recv hK (hw.perm hC).1 (ci := 9) (q0 := 0) rfl rfl, x_preP X hw hC [.ref a, .int y1, .int y2]⟩ rfl rfl hl.1 rfl (lv_room (Nat.le_of_ble_eq_true rfl)) dL_law_616 ⟨Nat.le_of_ble_eq_true rfl, Nat.le_of_ble_eq_true rfl⟩) (fun H locs hw => ?_)
  refine lv_aload_n (pc := 619) hx hb dL_law_619 rfl (lv_at hl 2 rfl) ?_
  refine lv_aload_n (pc := 620) hx hb dL_law_620 rfl (lv_at hl 0 rfl) ?_
  refine lv_iload_n (pc := 621) hx hb dL_law_621 rfl (lv_at hl 3 rfl) ?_
  refine lv_iconst (pc := 622) (v := 1) hx hb dL_law_622 (by decide) ?_
  refine lv_iadd (pc := 623) hx hb dL_law_623 ?_
  refine va_sld (pc := 624) hx hb hXs hbl hbA hw.2.2 h1 dL_law_624 ?_
  refine x_topi ey1 ?_
  refine lv_aload_n (pc := 625) hx hb dL_law_625 rfl (lv_at hl 0 rfl) ?_
  refine lv_iload_n (pc := 626) hx hb dL_law_626 rfl (lv_at hl 3 rfl) ?_
  refine lv_iconst (pc := 627) (v := 2) hx hb dL_law_627 (by decide) ?_
  refine lv_iadd (pc := 628) hx hb dL_law_628 ?_
  refine va_sld (pc := 629) hx hb hXs hbl hbA hw.2.2 h2 dL_law_629 ?_
  refine x_topi ey2 ?_
  have hC : (wFull cs a q qT qP qS qDr qV qH qSm qF1 qF2 qPt T R P' S' Dr V Hp Sm F1 F2 Pt ++ wX10 cs am qM M).Perm ((wX10 cs am qM M) ++ (wX9 cs a q ++ wX6 cs (q 0) qT T ++ wX3 cs (q 1) (fun _ => q 0) R ++ wX2 cs (qS 0) qP P' ++ wX7 cs (q 2) qS S' ++ wX2 cs (q 3) qDr Dr ++ wX8 cs (q 4) qV V ++ wX0 cs (q 5) qH Hp ++ wX4 cs (q 6) qSm Sm ++ wX5 cs (q 7) qF1 F1 ++ wX5 cs (q 8) qF2 F2 ++ wX1 cs (q 9) qPt Pt)) := pw (bs := [wX9 cs a q, wX6 cs (q 0) qT T, wX3 cs (q 1) (fun _ => q 0) R, wX2 cs (qS 0) qP P', wX7 cs (q 2) qS S', wX2 cs (q 3) qDr Dr, wX8 cs (q 4) qV V, wX0 cs (q 5) qH Hp, wX4 cs (q 6) qSm Sm, wX5 cs (q 7) qF1 F1, wX5 cs (q 8) qF2 F2, wX1 cs (q 9) qPt Pt, wX10 cs am qM M]) [12] [0, 1, 2, 3, 4, 5, 6, 7, 8, 9, 10, 11] (show (_ ++ _ : List Nat).Perm (List.range 13) by decide)
  have hJ : ((wX9 cs a q ++ wX6 cs (q 0) qT T ++ wX3 cs (q 1) (fun _ => q 0) R ++ wX2 cs (qS 0) qP P' ++ wX7 cs (q 2) qS S' ++ wX2 cs (q 3) qDr Dr ++ wX8 cs (q 4) qV V ++ wX0 cs (q 5) qH Hp ++ wX4 cs (q 6) qSm Sm ++ wX5 cs (q 7) qF1 F1 ++ wX5 cs (q 8) qF2 F2 ++ wX1 cs (q 9) qPt Pt) ++ (wX10 cs am qM M')).Perm (wFull cs a q qT qP qS qDr qV qH qSm qF1 qF2 qPt T R P' S' Dr V Hp Sm F1 F2 Pt ++ wX10 cs am qM M') := List.perm_append_comm.trans (pw (bs := [wX9 cs a q, wX6 cs (q 0) qT T, wX3 cs (q 1) (fun _ => q 0) R, wX2 cs (qS 0) qP P', wX7 cs (q 2) qS S', wX2 cs (q 3) qDr Dr, wX8 cs (q 4) qV V, wX0 cs (q 5) qH Hp, wX4 cs (q 6) qSm Sm, wX5 cs (q 7) qF1 F1, wX5 cs (q 8) qF2 F2, wX1 cs (q 9) qPt Pt, wX10 cs am qM M']) [12] [0, 1, 2, 3, 4, 5, 6, 7, 8, 9, 10, 11] (show (_ ++ _ : List Nat).Perm (List.range 13) by decide)).symm
  refine x_cutP (pc := 630) X hw hC hJ (va_runV (As := [.int y1, .int y2]) (rest := [.int r]) ⟨hx, hb, hml, hown, hts⟩ (c_X10_again l D cs am qM M y1 y2 r M' hf10 _) (cwV 2 hts gL_law_X10_again rfl rfl rfl (by decide +kernel) ⟨Nat.le_of_ble_eq_true rfl, Nat.le_of_ble_eq_true rfl⟩) ⟨CP_blind, va_recv hK (hw.perm hC).1 (ci := 10) (q0 := 0) rfl rfl, x_preP X hw hC [.ref am, .int y1, .int y2]⟩ rfl rfl hl.1 rfl (lv_room (Nat.le_of_ble_eq_true rfl)) dL_law_630 ⟨Nat.le_of_ble_eq_true rfl, Nat.le_of_ble_eq_true rfl⟩) (fun H locs hw => ?_)
  refine lv_icmp_eq (pc := 633) (tgt := 1415) hx hb dL_law_633 (by decide) (fun _ => ?_) (fun c0 => absurd rfl c0)
  exact K _ _ _ ⟨q, qT, qP, qS, qDr, qV, qH, qSm, qF1, qF2, qPt, qM, T, R, P', S', Dr, V, Hp, Sm, F1, F2, Pt, M', hw, hrel2⟩ hl

set_option maxHeartbeats 4000000 in
set_option maxRecDepth 100000 in
theorem lc_cap {p : Program} {l : Launch} {e : Env} {s : State} {m : MethodId} {args : Array Value} {below : List Frame} {meth : Method} {c : Code} {D : va_G} {cs : CS} {A : Nat → Prop} {Q : State → Prop} {ad ar : Nat → Nat} {b L : Nat} {xs : Nat → Int32} {a am : Nat} {Rel : RelT} (X : FX D (TY cs) p s m args meth c cL_law 4 wsL_law RL A (some .boolean)) (hE : SE ad ar A s s.heap) (hXs : va_X b L xs s s.heap) (hbl : b < s.heap.size) (hbA : ¬ A b) {H : Heap} {locs : List Loc} {ls : Array Slot} {i : Int32} (hLW : LW Rel D A s cs a am H locs) (hl : lv_has ls 4 [(0, .ref b), (1, .ref a), (2, .ref am), (3, .int i)]) (h1 : vp_in (i + 1) L) (h2 : vp_in (i + 2) L) (h3 : vp_in (i + 3) L) (h4 : vp_in (i + 4) L) (h5 : vp_in (i + 5) L) (hst : St_cap Rel) (K : ∀ (H : Heap) (locs : List Loc) (ls : Array Slot), LW Rel D A s cs a am H locs → lv_has ls 4 [(0, .ref b), (1, .ref a), (2, .ref am), (3, .int i)] → W p l e room_1 s m args below meth c H locs 69 3778 Q (F0 m 1415 ls [])) : W p l e room_1 s m args below meth c H locs 69 3778 Q (F0 m 638 ls []) := by
  obtain ⟨hx, hb, hml, hown, hts, hK, hA, hr, hlk⟩ := id X
  obtain ⟨q, qT, qP, qS, qDr, qV, qH, qSm, qF1, qF2, qPt, qM, T, R, P, S, Dr, V, Hp, Sm, F1, F2, Pt, M, hw, hrel⟩ := hLW
  obtain ⟨y1, ey1⟩ : ∃ y : Int32, y = xs (i + 1).toNatClampNeg := ⟨_, rfl⟩
  obtain ⟨y2, ey2⟩ : ∃ y : Int32, y = xs (i + 2).toNatClampNeg := ⟨_, rfl⟩
  obtain ⟨y3, ey3⟩ : ∃ y : Int32, y = xs (i + 3).toNatClampNeg := ⟨_, rfl⟩
  obtain ⟨y4, ey4⟩ : ∃ y : Int32, y = xs (i + 4).toNatClampNeg := ⟨_, rfl⟩
  obtain ⟨y5, ey5⟩ : ∃ y : Int32, y = xs (i + 5).toNatClampNeg := ⟨_, rfl⟩
  refine lv_aload_n (pc := 638) hx hb dL_law_638 rfl (lv_at hl 1 rfl) ?_
  refine lv_aload_n (pc := 639) hx hb dL_law_639 rfl (lv_at hl 0 rfl) ?_
  refine lv_iload_n (pc := 640) hx hb dL_law_640 rfl (lv_at hl 3 rfl) ?_
  refine lv_iconst (pc := 641) (v := 1) hx hb dL_law_641 (by decide) ?_
  refine lv_iadd (pc := 642) hx hb dL_law_642 ?_
  refine va_sld (pc := 643) hx hb hXs hbl hbA hw.2.2 h1 dL_law_643 ?_
  refine x_topi ey1 ?_
  refine lv_aload_n (pc := 644) hx hb dL_law_644 rfl (lv_at hl 0 rfl) ?_
  refine lv_iload_n (pc := 645) hx hb dL_law_645 rfl (lv_at hl 3 rfl) ?_
  refine lv_iconst (pc := 646) (v := 2) hx hb dL_law_646 (by decide) ?_
  refine lv_iadd (pc := 647) hx hb dL_law_647 ?_
  refine va_sld (pc := 648) hx hb hXs hbl hbA hw.2.2 h2 dL_law_648 ?_
  refine x_topi ey2 ?_
  obtain ⟨r, S', P', M', hf9, hf10, hrel2⟩ := hst _ _ _ _ _ _ _ _ _ _ _ _ hrel y1 y2
  have hC : (wFull cs a q qT qP qS qDr qV qH qSm qF1 qF2 qPt T R P S Dr V Hp Sm F1 F2 Pt ++ wX10 cs am qM M).Perm ((wX9 cs a q ++ wX7 cs (q 2) qS S ++ wX2 cs (qS 0) qP P) ++ (wX6 cs (q 0) qT T ++ wX3 cs (q 1) (fun _ => q 0) R ++ wX2 cs (q 3) qDr Dr ++ wX8 cs (q 4) qV V ++ wX0 cs (q 5) qH Hp ++ wX4 cs (q 6) qSm Sm ++ wX5 cs (q 7) qF1 F1 ++ wX5 cs (q 8) qF2 F2 ++ wX1 cs (q 9) qPt Pt ++ wX10 cs am qM M)) := pw (bs := [wX9 cs a q, wX6 cs (q 0) qT T, wX3 cs (q 1) (fun _ => q 0) R, wX2 cs (qS 0) qP P, wX7 cs (q 2) qS S, wX2 cs (q 3) qDr Dr, wX8 cs (q 4) qV V, wX0 cs (q 5) qH Hp, wX4 cs (q 6) qSm Sm, wX5 cs (q 7) qF1 F1, wX5 cs (q 8) qF2 F2, wX1 cs (q 9) qPt Pt, wX10 cs am qM M]) [0, 4, 3] [1, 2, 5, 6, 7, 8, 9, 10, 11, 12] (show (_ ++ _ : List Nat).Perm (List.range 13) by decide)
  have hJ : ((wX6 cs (q 0) qT T ++ wX3 cs (q 1) (fun _ => q 0) R ++ wX2 cs (q 3) qDr Dr ++ wX8 cs (q 4) qV V ++ wX0 cs (q 5) qH Hp ++ wX4 cs (q 6) qSm Sm ++ wX5 cs (q 7) qF1 F1 ++ wX5 cs (q 8) qF2 F2 ++ wX1 cs (q 9) qPt Pt ++ wX10 cs am qM M) ++ (wX9 cs a q ++ wX7 cs (q 2) qS S' ++ wX2 cs (qS 0) qP P')).Perm (wFull cs a q qT qP qS qDr qV qH qSm qF1 qF2 qPt T R P' S' Dr V Hp Sm F1 F2 Pt ++ wX10 cs am qM M) := List.perm_append_comm.trans (pw (bs := [wX9 cs a q, wX6 cs (q 0) qT T, wX3 cs (q 1) (fun _ => q 0) R, wX2 cs (qS 0) qP P', wX7 cs (q 2) qS S', wX2 cs (q 3) qDr Dr, wX8 cs (q 4) qV V, wX0 cs (q 5) qH Hp, wX4 cs (q 6) qSm Sm, wX5 cs (q 7) qF1 F1, wX5 cs (q 8) qF2 F2, wX1 cs (q 9) qPt Pt, wX10 cs am qM M]) [0, 4, 3] [1, 2, 5, 6, 7, 8, 9, 10, 11, 12] (show (_ ++ _ : List Nat).Perm (List.range 13) by decide)).symm
  refine x_cutP (pc := 649) X hw hC hJ (va_runV (As := [.int y1, .int y2]) (rest := []) ⟨hx, hb, hml, hown, hts⟩ (c_X9_cap l D cs a q qS qP S P y1 y2 r S' P' hf9 _) (cwV 2 hts gL_law_X9_cap rfl rfl rfl (by decide +kernel) ⟨Nat.le_of_ble_eq_true rfl, Nat.le_of_ble_eq_true rfl⟩) ⟨CP_blind, va_recv hK (hw.perm hC).1 (ci := 9) (q0 := 0) rfl rfl, x_preP X hw hC [.ref a, .int y1, .int y2]⟩ rfl rfl hl.1 rfl (lv_room (Nat.le_of_ble_eq_true rfl)) dL_law_649 ⟨Nat.le_of_ble_eq_true rfl, Nat.le_of_ble_eq_true rfl⟩) (fun H locs hw => ?_)
  refine lv_aload_n (pc := 652) hx hb dL_law_652 rfl (lv_at hl 2 rfl) ?_
  refine lv_aload_n (pc := 653) hx hb dL_law_653 rfl (lv_at hl 0 rfl) ?_
  refine lv_iload_n (pc := 654) hx hb dL_law_654 rfl (lv_at hl 3 rfl) ?_
  refine lv_iconst (pc := 655) (v := 1) hx hb dL_law_655 (by decide) ?_
  refine lv_iadd (pc := 656) hx hb dL_law_656 ?_
  refine va_sld (pc := 657) hx hb hXs hbl hbA hw.2.2 h1 dL_law_657 ?_
  refine x_topi ey1 ?_
  refine lv_aload_n (pc := 658) hx hb dL_law_658 rfl (lv_at hl 0 rfl) ?_
  refine lv_iload_n (pc := 659) hx hb dL_law_659 rfl (lv_at hl 3 rfl) ?_
  refine lv_iconst (pc := 660) (v := 2) hx hb dL_law_660 (by decide) ?_
  refine lv_iadd (pc := 661) hx hb dL_law_661 ?_
  refine va_sld (pc := 662) hx hb hXs hbl hbA hw.2.2 h2 dL_law_662 ?_
  refine x_topi ey2 ?_
  have hC : (wFull cs a q qT qP qS qDr qV qH qSm qF1 qF2 qPt T R P' S' Dr V Hp Sm F1 F2 Pt ++ wX10 cs am qM M).Perm ((wX10 cs am qM M) ++ (wX9 cs a q ++ wX6 cs (q 0) qT T ++ wX3 cs (q 1) (fun _ => q 0) R ++ wX2 cs (qS 0) qP P' ++ wX7 cs (q 2) qS S' ++ wX2 cs (q 3) qDr Dr ++ wX8 cs (q 4) qV V ++ wX0 cs (q 5) qH Hp ++ wX4 cs (q 6) qSm Sm ++ wX5 cs (q 7) qF1 F1 ++ wX5 cs (q 8) qF2 F2 ++ wX1 cs (q 9) qPt Pt)) := pw (bs := [wX9 cs a q, wX6 cs (q 0) qT T, wX3 cs (q 1) (fun _ => q 0) R, wX2 cs (qS 0) qP P', wX7 cs (q 2) qS S', wX2 cs (q 3) qDr Dr, wX8 cs (q 4) qV V, wX0 cs (q 5) qH Hp, wX4 cs (q 6) qSm Sm, wX5 cs (q 7) qF1 F1, wX5 cs (q 8) qF2 F2, wX1 cs (q 9) qPt Pt, wX10 cs am qM M]) [12] [0, 1, 2, 3, 4, 5, 6, 7, 8, 9, 10, 11] (show (_ ++ _ : List Nat).Perm (List.range 13) by decide)
  have hJ : ((wX9 cs a q ++ wX6 cs (q 0) qT T ++ wX3 cs (q 1) (fun _ => q 0) R ++ wX2 cs (qS 0) qP P' ++ wX7 cs (q 2) qS S' ++ wX2 cs (q 3) qDr Dr ++ wX8 cs (q 4) qV V ++ wX0 cs (q 5) qH Hp ++ wX4 cs (q 6) qSm Sm ++ wX5 cs (q 7) qF1 F1 ++ wX5 cs (q 8) qF2 F2 ++ wX1 cs (q 9) qPt Pt) ++ (wX10 cs am qM M')).Perm (wFull cs a q qT qP qS qDr qV qH qSm qF1 qF2 qPt T R P' S' Dr V Hp Sm F1 F2 Pt ++ wX10 cs am qM M') := List.perm_append_comm.trans (pw (bs := [wX9 cs a q, wX6 cs (q 0) qT T, wX3 cs (q 1) (fun _ => q 0) R, wX2 cs (qS 0) qP P', wX7 cs (q 2) qS S', wX2 cs (q 3) qDr Dr, wX8 cs (q 4) qV V, wX0 cs (q 5) qH Hp, wX4 cs (q 6) qSm Sm, wX5 cs (q 7) qF1 F1, wX5 cs (q 8) qF2 F2, wX1 cs (q 9) qPt Pt, wX10 cs am qM M']) [12] [0, 1, 2, 3, 4, 5, 6, 7, 8, 9, 10, 11] (show (_ ++ _ : List Nat).Perm (List.range 13) by decide)).symm
  refine x_cutP (pc := 663) X hw hC hJ (va_runV (As := [.int y1, .int y2]) (rest := [.int r]) ⟨hx, hb, hml, hown, hts⟩ (c_X10_cap l D cs am qM M y1 y2 r M' hf10 _) (cwV 2 hts gL_law_X10_cap rfl rfl rfl (by decide +kernel) ⟨Nat.le_of_ble_eq_true rfl, Nat.le_of_ble_eq_true rfl⟩) ⟨CP_blind, va_recv hK (hw.perm hC).1 (ci := 10) (q0 := 0) rfl rfl, x_preP X hw hC [.ref am, .int y1, .int y2]⟩ rfl rfl hl.1 rfl (lv_room (Nat.le_of_ble_eq_true rfl)) dL_law_663 ⟨Nat.le_of_ble_eq_true rfl, Nat.le_of_ble_eq_true rfl⟩) (fun H locs hw => ?_)
  refine lv_icmp_eq (pc := 666) (tgt := 1415) hx hb dL_law_666 (by decide) (fun _ => ?_) (fun c0 => absurd rfl c0)
  exact K _ _ _ ⟨q, qT, qP, qS, qDr, qV, qH, qSm, qF1, qF2, qPt, qM, T, R, P', S', Dr, V, Hp, Sm, F1, F2, Pt, M', hw, hrel2⟩ hl

set_option maxHeartbeats 4000000 in
set_option maxRecDepth 100000 in
theorem lc_knots {p : Program} {l : Launch} {e : Env} {s : State} {m : MethodId} {args : Array Value} {below : List Frame} {meth : Method} {c : Code} {D : va_G} {cs : CS} {A : Nat → Prop} {Q : State → Prop} {ad ar : Nat → Nat} {b L : Nat} {xs : Nat → Int32} {a am : Nat} {Rel : RelT} (X : FX D (TY cs) p s m args meth c cL_law 4 wsL_law RL A (some .boolean)) (hE : SE ad ar A s s.heap) (hXs : va_X b L xs s s.heap) (hbl : b < s.heap.size) (hbA : ¬ A b) {H : Heap} {locs : List Loc} {ls : Array Slot} {i : Int32} (hLW : LW Rel D A s cs a am H locs) (hl : lv_has ls 4 [(0, .ref b), (1, .ref a), (2, .ref am), (3, .int i)]) (h1 : vp_in (i + 1) L) (h2 : vp_in (i + 2) L) (h3 : vp_in (i + 3) L) (h4 : vp_in (i + 4) L) (h5 : vp_in (i + 5) L) (hst : St_knots Rel) (K : ∀ (H : Heap) (locs : List Loc) (ls : Array Slot), LW Rel D A s cs a am H locs → lv_has ls 4 [(0, .ref b), (1, .ref a), (2, .ref am), (3, .int i)] → W p l e room_1 s m args below meth c H locs 69 3778 Q (F0 m 1415 ls [])) : W p l e room_1 s m args below meth c H locs 69 3778 Q (F0 m 671 ls []) := by
  obtain ⟨hx, hb, hml, hown, hts, hK, hA, hr, hlk⟩ := id X
  obtain ⟨q, qT, qP, qS, qDr, qV, qH, qSm, qF1, qF2, qPt, qM, T, R, P, S, Dr, V, Hp, Sm, F1, F2, Pt, M, hw, hrel⟩ := hLW
  obtain ⟨y1, ey1⟩ : ∃ y : Int32, y = xs (i + 1).toNatClampNeg := ⟨_, rfl⟩
  obtain ⟨y2, ey2⟩ : ∃ y : Int32, y = xs (i + 2).toNatClampNeg := ⟨_, rfl⟩
  obtain ⟨y3, ey3⟩ : ∃ y : Int32, y = xs (i + 3).toNatClampNeg := ⟨_, rfl⟩
  obtain ⟨y4, ey4⟩ : ∃ y : Int32, y = xs (i + 4).toNatClampNeg := ⟨_, rfl⟩
  obtain ⟨y5, ey5⟩ : ∃ y : Int32, y = xs (i + 5).toNatClampNeg := ⟨_, rfl⟩
  refine lv_aload_n (pc := 671) hx hb dL_law_671 rfl (lv_at hl 1 rfl) ?_
  refine lv_aload_n (pc := 672) hx hb dL_law_672 rfl (lv_at hl 0 rfl) ?_
  refine lv_iload_n (pc := 673) hx hb dL_law_673 rfl (lv_at hl 3 rfl) ?_
  refine lv_iconst (pc := 674) (v := 1) hx hb dL_law_674 (by decide) ?_
  refine lv_iadd (pc := 675) hx hb dL_law_675 ?_
  refine va_sld (pc := 676) hx hb hXs hbl hbA hw.2.2 h1 dL_law_676 ?_
  refine x_topi ey1 ?_
  obtain ⟨r, V', Hp', M', hf9, hf10, hrel2⟩ := hst _ _ _ _ _ _ _ _ _ _ _ _ hrel y1
  have hC : (wFull cs a q qT qP qS qDr qV qH qSm qF1 qF2 qPt T R P S Dr V Hp Sm F1 F2 Pt ++ wX10 cs am qM M).Perm ((wX9 cs a q ++ wX8 cs (q 4) qV V ++ wX0 cs (q 5) qH Hp) ++ (wX6 cs (q 0) qT T ++ wX3 cs (q 1) (fun _ => q 0) R ++ wX2 cs (qS 0) qP P ++ wX7 cs (q 2) qS S ++ wX2 cs (q 3) qDr Dr ++ wX4 cs (q 6) qSm Sm ++ wX5 cs (q 7) qF1 F1 ++ wX5 cs (q 8) qF2 F2 ++ wX1 cs (q 9) qPt Pt ++ wX10 cs am qM M)) := pw (bs := [wX9 cs a q, wX6 cs (q 0) qT T, wX3 cs (q 1) (fun _ => q 0) R, wX2 cs (qS 0) qP P, wX7 cs (q 2) qS S, wX2 cs (q 3) qDr Dr, wX8 cs (q 4) qV V, wX0 cs (q 5) qH Hp, wX4 cs (q 6) qSm Sm, wX5 cs (q 7) qF1 F1, wX5 cs (q 8) qF2 F2, wX1 cs (q 9) qPt Pt, wX10 cs am qM M]) [0, 6, 7] [1, 2, 3, 4, 5, 8, 9, 10, 11, 12] (show (_ ++ _ : List Nat).Perm (List.range 13) by decide)
  have hJ : ((wX6 cs (q 0) qT T ++ wX3 cs (q 1) (fun _ => q 0) R ++ wX2 cs (qS 0) qP P ++ wX7 cs (q 2) qS S ++ wX2 cs (q 3) qDr Dr ++ wX4 cs (q 6) qSm Sm ++ wX5 cs (q 7) qF1 F1 ++ wX5 cs (q 8) qF2 F2 ++ wX1 cs (q 9) qPt Pt ++ wX10 cs am qM M) ++ (wX9 cs a q ++ wX8 cs (q 4) qV V' ++ wX0 cs (q 5) qH Hp')).Perm (wFull cs a q qT qP qS qDr qV qH qSm qF1 qF2 qPt T R P S Dr V' Hp' Sm F1 F2 Pt ++ wX10 cs am qM M) := List.perm_append_comm.trans (pw (bs := [wX9 cs a q, wX6 cs (q 0) qT T, wX3 cs (q 1) (fun _ => q 0) R, wX2 cs (qS 0) qP P, wX7 cs (q 2) qS S, wX2 cs (q 3) qDr Dr, wX8 cs (q 4) qV V', wX0 cs (q 5) qH Hp', wX4 cs (q 6) qSm Sm, wX5 cs (q 7) qF1 F1, wX5 cs (q 8) qF2 F2, wX1 cs (q 9) qPt Pt, wX10 cs am qM M]) [0, 6, 7] [1, 2, 3, 4, 5, 8, 9, 10, 11, 12] (show (_ ++ _ : List Nat).Perm (List.range 13) by decide)).symm
  refine x_cutP (pc := 677) X hw hC hJ (va_runV (As := [.int y1]) (rest := []) ⟨hx, hb, hml, hown, hts⟩ (c_X9_knots l D cs a q qV qH V Hp y1 r V' Hp' hf9 _) (cwV 1 hts gL_law_X9_knots rfl rfl rfl (by decide +kernel) ⟨Nat.le_of_ble_eq_true rfl, Nat.le_of_ble_eq_true rfl⟩) ⟨CP_blind, va_recv hK (hw.perm hC).1 (ci := 9) (q0 := 0) rfl rfl, x_preP X hw hC [.ref a, .int y1]⟩ rfl rfl hl.1 rfl (lv_room (Nat.le_of_ble_eq_true rfl)) dL_law_677 ⟨Nat.le_of_ble_eq_true rfl, Nat.le_of_ble_eq_true rfl⟩) (fun H locs hw => ?_)
  refine lv_aload_n (pc := 680) hx hb dL_law_680 rfl (lv_at hl 2 rfl) ?_
  refine lv_aload_n (pc := 681) hx hb dL_law_681 rfl (lv_at hl 0 rfl) ?_
  refine lv_iload_n (pc := 682) hx hb dL_law_682 rfl (lv_at hl 3 rfl) ?_
  refine lv_iconst (pc := 683) (v := 1) hx hb dL_law_683 (by decide) ?_
  refine lv_iadd (pc := 684) hx hb dL_law_684 ?_
  refine va_sld (pc := 685) hx hb hXs hbl hbA hw.2.2 h1 dL_law_685 ?_
  refine x_topi ey1 ?_
  have hC : (wFull cs a q qT qP qS qDr qV qH qSm qF1 qF2 qPt T R P S Dr V' Hp' Sm F1 F2 Pt ++ wX10 cs am qM M).Perm ((wX10 cs am qM M) ++ (wX9 cs a q ++ wX6 cs (q 0) qT T ++ wX3 cs (q 1) (fun _ => q 0) R ++ wX2 cs (qS 0) qP P ++ wX7 cs (q 2) qS S ++ wX2 cs (q 3) qDr Dr ++ wX8 cs (q 4) qV V' ++ wX0 cs (q 5) qH Hp' ++ wX4 cs (q 6) qSm Sm ++ wX5 cs (q 7) qF1 F1 ++ wX5 cs (q 8) qF2 F2 ++ wX1 cs (q 9) qPt Pt)) := pw (bs := [wX9 cs a q, wX6 cs (q 0) qT T, wX3 cs (q 1) (fun _ => q 0) R, wX2 cs (qS 0) qP P, wX7 cs (q 2) qS S, wX2 cs (q 3) qDr Dr, wX8 cs (q 4) qV V', wX0 cs (q 5) qH Hp', wX4 cs (q 6) qSm Sm, wX5 cs (q 7) qF1 F1, wX5 cs (q 8) qF2 F2, wX1 cs (q 9) qPt Pt, wX10 cs am qM M]) [12] [0, 1, 2, 3, 4, 5, 6, 7, 8, 9, 10, 11] (show (_ ++ _ : List Nat).Perm (List.range 13) by decide)
  have hJ : ((wX9 cs a q ++ wX6 cs (q 0) qT T ++ wX3 cs (q 1) (fun _ => q 0) R ++ wX2 cs (qS 0) qP P ++ wX7 cs (q 2) qS S ++ wX2 cs (q 3) qDr Dr ++ wX8 cs (q 4) qV V' ++ wX0 cs (q 5) qH Hp' ++ wX4 cs (q 6) qSm Sm ++ wX5 cs (q 7) qF1 F1 ++ wX5 cs (q 8) qF2 F2 ++ wX1 cs (q 9) qPt Pt) ++ (wX10 cs am qM M')).Perm (wFull cs a q qT qP qS qDr qV qH qSm qF1 qF2 qPt T R P S Dr V' Hp' Sm F1 F2 Pt ++ wX10 cs am qM M') := List.perm_append_comm.trans (pw (bs := [wX9 cs a q, wX6 cs (q 0) qT T, wX3 cs (q 1) (fun _ => q 0) R, wX2 cs (qS 0) qP P, wX7 cs (q 2) qS S, wX2 cs (q 3) qDr Dr, wX8 cs (q 4) qV V', wX0 cs (q 5) qH Hp', wX4 cs (q 6) qSm Sm, wX5 cs (q 7) qF1 F1, wX5 cs (q 8) qF2 F2, wX1 cs (q 9) qPt Pt, wX10 cs am qM M']) [12] [0, 1, 2, 3, 4, 5, 6, 7, 8, 9, 10, 11] (show (_ ++ _ : List Nat).Perm (List.range 13) by decide)).symm
  refine x_cutP (pc := 686) X hw hC hJ (va_runV (As := [.int y1]) (rest := [.int r]) ⟨hx, hb, hml, hown, hts⟩ (c_X10_knots l D cs am qM M y1 r M' hf10 _) (cwV 1 hts gL_law_X10_knots rfl rfl rfl (by decide +kernel) ⟨Nat.le_of_ble_eq_true rfl, Nat.le_of_ble_eq_true rfl⟩) ⟨CP_blind, va_recv hK (hw.perm hC).1 (ci := 10) (q0 := 0) rfl rfl, x_preP X hw hC [.ref am, .int y1]⟩ rfl rfl hl.1 rfl (lv_room (Nat.le_of_ble_eq_true rfl)) dL_law_686 ⟨Nat.le_of_ble_eq_true rfl, Nat.le_of_ble_eq_true rfl⟩) (fun H locs hw => ?_)
  refine lv_icmp_eq (pc := 689) (tgt := 1415) hx hb dL_law_689 (by decide) (fun _ => ?_) (fun c0 => absurd rfl c0)
  exact K _ _ _ ⟨q, qT, qP, qS, qDr, qV, qH, qSm, qF1, qF2, qPt, qM, T, R, P, S, Dr, V', Hp', Sm, F1, F2, Pt, M', hw, hrel2⟩ hl

set_option maxHeartbeats 4000000 in
set_option maxRecDepth 100000 in
theorem lc_edge {p : Program} {l : Launch} {e : Env} {s : State} {m : MethodId} {args : Array Value} {below : List Frame} {meth : Method} {c : Code} {D : va_G} {cs : CS} {A : Nat → Prop} {Q : State → Prop} {ad ar : Nat → Nat} {b L : Nat} {xs : Nat → Int32} {a am : Nat} {Rel : RelT} (X : FX D (TY cs) p s m args meth c cL_law 4 wsL_law RL A (some .boolean)) (hE : SE ad ar A s s.heap) (hXs : va_X b L xs s s.heap) (hbl : b < s.heap.size) (hbA : ¬ A b) {H : Heap} {locs : List Loc} {ls : Array Slot} {i : Int32} (hLW : LW Rel D A s cs a am H locs) (hl : lv_has ls 4 [(0, .ref b), (1, .ref a), (2, .ref am), (3, .int i)]) (h1 : vp_in (i + 1) L) (h2 : vp_in (i + 2) L) (h3 : vp_in (i + 3) L) (h4 : vp_in (i + 4) L) (h5 : vp_in (i + 5) L) (hst : St_edge Rel) (K : ∀ (H : Heap) (locs : List Loc) (ls : Array Slot), LW Rel D A s cs a am H locs → lv_has ls 4 [(0, .ref b), (1, .ref a), (2, .ref am), (3, .int i)] → W p l e room_1 s m args below meth c H locs 69 3778 Q (F0 m 1415 ls [])) : W p l e room_1 s m args below meth c H locs 69 3778 Q (F0 m 694 ls []) := by
  obtain ⟨hx, hb, hml, hown, hts, hK, hA, hr, hlk⟩ := id X
  obtain ⟨q, qT, qP, qS, qDr, qV, qH, qSm, qF1, qF2, qPt, qM, T, R, P, S, Dr, V, Hp, Sm, F1, F2, Pt, M, hw, hrel⟩ := hLW
  obtain ⟨y1, ey1⟩ : ∃ y : Int32, y = xs (i + 1).toNatClampNeg := ⟨_, rfl⟩
  obtain ⟨y2, ey2⟩ : ∃ y : Int32, y = xs (i + 2).toNatClampNeg := ⟨_, rfl⟩
  obtain ⟨y3, ey3⟩ : ∃ y : Int32, y = xs (i + 3).toNatClampNeg := ⟨_, rfl⟩
  obtain ⟨y4, ey4⟩ : ∃ y : Int32, y = xs (i + 4).toNatClampNeg := ⟨_, rfl⟩
  obtain ⟨y5, ey5⟩ : ∃ y : Int32, y = xs (i + 5).toNatClampNeg := ⟨_, rfl⟩
  refine lv_aload_n (pc := 694) hx hb dL_law_694 rfl (lv_at hl 1 rfl) ?_
  refine lv_aload_n (pc := 695) hx hb dL_law_695 rfl (lv_at hl 0 rfl) ?_
  refine lv_iload_n (pc := 696) hx hb dL_law_696 rfl (lv_at hl 3 rfl) ?_
  refine lv_iconst (pc := 697) (v := 1) hx hb dL_law_697 (by decide) ?_
  refine lv_iadd (pc := 698) hx hb dL_law_698 ?_
  refine va_sld (pc := 699) hx hb hXs hbl hbA hw.2.2 h1 dL_law_699 ?_
  refine x_topi ey1 ?_
  refine lv_aload_n (pc := 700) hx hb dL_law_700 rfl (lv_at hl 0 rfl) ?_
  refine lv_iload_n (pc := 701) hx hb dL_law_701 rfl (lv_at hl 3 rfl) ?_
  refine lv_iconst (pc := 702) (v := 2) hx hb dL_law_702 (by decide) ?_
  refine lv_iadd (pc := 703) hx hb dL_law_703 ?_
  refine va_sld (pc := 704) hx hb hXs hbl hbA hw.2.2 h2 dL_law_704 ?_
  refine x_topi ey2 ?_
  refine lv_aload_n (pc := 705) hx hb dL_law_705 rfl (lv_at hl 0 rfl) ?_
  refine lv_iload_n (pc := 706) hx hb dL_law_706 rfl (lv_at hl 3 rfl) ?_
  refine lv_iconst (pc := 707) (v := 3) hx hb dL_law_707 (by decide) ?_
  refine lv_iadd (pc := 708) hx hb dL_law_708 ?_
  refine va_sld (pc := 709) hx hb hXs hbl hbA hw.2.2 h3 dL_law_709 ?_
  refine x_topi ey3 ?_
  obtain ⟨r, V', M', hf9, hf10, hrel2⟩ := hst _ _ _ _ _ _ _ _ _ _ _ _ hrel y1 y2 y3
  have hC : (wFull cs a q qT qP qS qDr qV qH qSm qF1 qF2 qPt T R P S Dr V Hp Sm F1 F2 Pt ++ wX10 cs am qM M).Perm ((wX9 cs a q ++ wX8 cs (q 4) qV V) ++ (wX6 cs (q 0) qT T ++ wX3 cs (q 1) (fun _ => q 0) R ++ wX2 cs (qS 0) qP P ++ wX7 cs (q 2) qS S ++ wX2 cs (q 3) qDr Dr ++ wX0 cs (q 5) qH Hp ++ wX4 cs (q 6) qSm Sm ++ wX5 cs (q 7) qF1 F1 ++ wX5 cs (q 8) qF2 F2 ++ wX1 cs (q 9) qPt Pt ++ wX10 cs am qM M)) := pw (bs := [wX9 cs a q, wX6 cs (q 0) qT T, wX3 cs (q 1) (fun _ => q 0) R, wX2 cs (qS 0) qP P, wX7 cs (q 2) qS S, wX2 cs (q 3) qDr Dr, wX8 cs (q 4) qV V, wX0 cs (q 5) qH Hp, wX4 cs (q 6) qSm Sm, wX5 cs (q 7) qF1 F1, wX5 cs (q 8) qF2 F2, wX1 cs (q 9) qPt Pt, wX10 cs am qM M]) [0, 6] [1, 2, 3, 4, 5, 7, 8, 9, 10, 11, 12] (show (_ ++ _ : List Nat).Perm (List.range 13) by decide)
  have hJ : ((wX6 cs (q 0) qT T ++ wX3 cs (q 1) (fun _ => q 0) R ++ wX2 cs (qS 0) qP P ++ wX7 cs (q 2) qS S ++ wX2 cs (q 3) qDr Dr ++ wX0 cs (q 5) qH Hp ++ wX4 cs (q 6) qSm Sm ++ wX5 cs (q 7) qF1 F1 ++ wX5 cs (q 8) qF2 F2 ++ wX1 cs (q 9) qPt Pt ++ wX10 cs am qM M) ++ (wX9 cs a q ++ wX8 cs (q 4) qV V')).Perm (wFull cs a q qT qP qS qDr qV qH qSm qF1 qF2 qPt T R P S Dr V' Hp Sm F1 F2 Pt ++ wX10 cs am qM M) := List.perm_append_comm.trans (pw (bs := [wX9 cs a q, wX6 cs (q 0) qT T, wX3 cs (q 1) (fun _ => q 0) R, wX2 cs (qS 0) qP P, wX7 cs (q 2) qS S, wX2 cs (q 3) qDr Dr, wX8 cs (q 4) qV V', wX0 cs (q 5) qH Hp, wX4 cs (q 6) qSm Sm, wX5 cs (q 7) qF1 F1, wX5 cs (q 8) qF2 F2, wX1 cs (q 9) qPt Pt, wX10 cs am qM M]) [0, 6] [1, 2, 3, 4, 5, 7, 8, 9, 10, 11, 12] (show (_ ++ _ : List Nat).Perm (List.range 13) by decide)).symm
  refine x_cutP (pc := 710) X hw hC hJ (va_runV (As := [.int y1, .int y2, .int y3]) (rest := []) ⟨hx, hb, hml, hown, hts⟩ (c_X9_edge l D cs a q qV V y1 y2 y3 r V' hf9 _) (cwV 3 hts gL_law_X9_edge rfl rfl rfl (by decide +kernel) ⟨Nat.le_of_ble_eq_true rfl, Nat.le_of_ble_eq_true rfl⟩) ⟨CP_blind, va_recv hK (hw.perm hC).1 (ci := 9) (q0 := 0) rfl rfl, x_preP X hw hC [.ref a, .int y1, .int y2, .int y3]⟩ rfl rfl hl.1 rfl (lv_room (Nat.le_of_ble_eq_true rfl)) dL_law_710 ⟨Nat.le_of_ble_eq_true rfl, Nat.le_of_ble_eq_true rfl⟩) (fun H locs hw => ?_)
  refine lv_aload_n (pc := 713) hx hb dL_law_713 rfl (lv_at hl 2 rfl) ?_
  refine lv_aload_n (pc := 714) hx hb dL_law_714 rfl (lv_at hl 0 rfl) ?_
  refine lv_iload_n (pc := 715) hx hb dL_law_715 rfl (lv_at hl 3 rfl) ?_
  refine lv_iconst (pc := 716) (v := 1) hx hb dL_law_716 (by decide) ?_
  refine lv_iadd (pc := 717) hx hb dL_law_717 ?_
  refine va_sld (pc := 718) hx hb hXs hbl hbA hw.2.2 h1 dL_law_718 ?_
  refine x_topi ey1 ?_
  refine lv_aload_n (pc := 719) hx hb dL_law_719 rfl (lv_at hl 0 rfl) ?_
  refine lv_iload_n (pc := 720) hx hb dL_law_720 rfl (lv_at hl 3 rfl) ?_
  refine lv_iconst (pc := 721) (v := 2) hx hb dL_law_721 (by decide) ?_
  refine lv_iadd (pc := 722) hx hb dL_law_722 ?_
  refine va_sld (pc := 723) hx hb hXs hbl hbA hw.2.2 h2 dL_law_723 ?_
  refine x_topi ey2 ?_
  refine lv_aload_n (pc := 724) hx hb dL_law_724 rfl (lv_at hl 0 rfl) ?_
  refine lv_iload_n (pc := 725) hx hb dL_law_725 rfl (lv_at hl 3 rfl) ?_
  refine lv_iconst (pc := 726) (v := 3) hx hb dL_law_726 (by decide) ?_
  refine lv_iadd (pc := 727) hx hb dL_law_727 ?_
  refine va_sld (pc := 728) hx hb hXs hbl hbA hw.2.2 h3 dL_law_728 ?_
  refine x_topi ey3 ?_
  have hC : (wFull cs a q qT qP qS qDr qV qH qSm qF1 qF2 qPt T R P S Dr V' Hp Sm F1 F2 Pt ++ wX10 cs am qM M).Perm ((wX10 cs am qM M) ++ (wX9 cs a q ++ wX6 cs (q 0) qT T ++ wX3 cs (q 1) (fun _ => q 0) R ++ wX2 cs (qS 0) qP P ++ wX7 cs (q 2) qS S ++ wX2 cs (q 3) qDr Dr ++ wX8 cs (q 4) qV V' ++ wX0 cs (q 5) qH Hp ++ wX4 cs (q 6) qSm Sm ++ wX5 cs (q 7) qF1 F1 ++ wX5 cs (q 8) qF2 F2 ++ wX1 cs (q 9) qPt Pt)) := pw (bs := [wX9 cs a q, wX6 cs (q 0) qT T, wX3 cs (q 1) (fun _ => q 0) R, wX2 cs (qS 0) qP P, wX7 cs (q 2) qS S, wX2 cs (q 3) qDr Dr, wX8 cs (q 4) qV V', wX0 cs (q 5) qH Hp, wX4 cs (q 6) qSm Sm, wX5 cs (q 7) qF1 F1, wX5 cs (q 8) qF2 F2, wX1 cs (q 9) qPt Pt, wX10 cs am qM M]) [12] [0, 1, 2, 3, 4, 5, 6, 7, 8, 9, 10, 11] (show (_ ++ _ : List Nat).Perm (List.range 13) by decide)
  have hJ : ((wX9 cs a q ++ wX6 cs (q 0) qT T ++ wX3 cs (q 1) (fun _ => q 0) R ++ wX2 cs (qS 0) qP P ++ wX7 cs (q 2) qS S ++ wX2 cs (q 3) qDr Dr ++ wX8 cs (q 4) qV V' ++ wX0 cs (q 5) qH Hp ++ wX4 cs (q 6) qSm Sm ++ wX5 cs (q 7) qF1 F1 ++ wX5 cs (q 8) qF2 F2 ++ wX1 cs (q 9) qPt Pt) ++ (wX10 cs am qM M')).Perm (wFull cs a q qT qP qS qDr qV qH qSm qF1 qF2 qPt T R P S Dr V' Hp Sm F1 F2 Pt ++ wX10 cs am qM M') := List.perm_append_comm.trans (pw (bs := [wX9 cs a q, wX6 cs (q 0) qT T, wX3 cs (q 1) (fun _ => q 0) R, wX2 cs (qS 0) qP P, wX7 cs (q 2) qS S, wX2 cs (q 3) qDr Dr, wX8 cs (q 4) qV V', wX0 cs (q 5) qH Hp, wX4 cs (q 6) qSm Sm, wX5 cs (q 7) qF1 F1, wX5 cs (q 8) qF2 F2, wX1 cs (q 9) qPt Pt, wX10 cs am qM M']) [12] [0, 1, 2, 3, 4, 5, 6, 7, 8, 9, 10, 11] (show (_ ++ _ : List Nat).Perm (List.range 13) by decide)).symm
  refine x_cutP (pc := 729) X hw hC hJ (va_runV (As := [.int y1, .int y2, .int y3]) (rest := [.int r]) ⟨hx, hb, hml, hown, hts⟩ (c_X10_edge l D cs am qM M y1 y2 y3 r M' hf10 _) (cwV 3 hts gL_law_X10_edge rfl rfl rfl (by decide +kernel) ⟨Nat.le_of_ble_eq_true rfl, Nat.le_of_ble_eq_true rfl⟩) ⟨CP_blind, va_recv hK (hw.perm hC).1 (ci := 10) (q0 := 0) rfl rfl, x_preP X hw hC [.ref am, .int y1, .int y2, .int y3]⟩ rfl rfl hl.1 rfl (lv_room (Nat.le_of_ble_eq_true rfl)) dL_law_729 ⟨Nat.le_of_ble_eq_true rfl, Nat.le_of_ble_eq_true rfl⟩) (fun H locs hw => ?_)
  refine lv_icmp_eq (pc := 732) (tgt := 1415) hx hb dL_law_732 (by decide) (fun _ => ?_) (fun c0 => absurd rfl c0)
  exact K _ _ _ ⟨q, qT, qP, qS, qDr, qV, qH, qSm, qF1, qF2, qPt, qM, T, R, P, S, Dr, V', Hp, Sm, F1, F2, Pt, M', hw, hrel2⟩ hl

set_option maxHeartbeats 4000000 in
set_option maxRecDepth 100000 in
theorem lc_cord {p : Program} {l : Launch} {e : Env} {s : State} {m : MethodId} {args : Array Value} {below : List Frame} {meth : Method} {c : Code} {D : va_G} {cs : CS} {A : Nat → Prop} {Q : State → Prop} {ad ar : Nat → Nat} {b L : Nat} {xs : Nat → Int32} {a am : Nat} {Rel : RelT} (X : FX D (TY cs) p s m args meth c cL_law 4 wsL_law RL A (some .boolean)) (hE : SE ad ar A s s.heap) (hXs : va_X b L xs s s.heap) (hbl : b < s.heap.size) (hbA : ¬ A b) {H : Heap} {locs : List Loc} {ls : Array Slot} {i : Int32} (hLW : LW Rel D A s cs a am H locs) (hl : lv_has ls 4 [(0, .ref b), (1, .ref a), (2, .ref am), (3, .int i)]) (h1 : vp_in (i + 1) L) (h2 : vp_in (i + 2) L) (h3 : vp_in (i + 3) L) (h4 : vp_in (i + 4) L) (h5 : vp_in (i + 5) L) (hst : St_cord Rel) (K : ∀ (H : Heap) (locs : List Loc) (ls : Array Slot), LW Rel D A s cs a am H locs → lv_has ls 4 [(0, .ref b), (1, .ref a), (2, .ref am), (3, .int i)] → W p l e room_1 s m args below meth c H locs 69 3778 Q (F0 m 1415 ls [])) : W p l e room_1 s m args below meth c H locs 69 3778 Q (F0 m 737 ls []) := by
  obtain ⟨hx, hb, hml, hown, hts, hK, hA, hr, hlk⟩ := id X
  obtain ⟨q, qT, qP, qS, qDr, qV, qH, qSm, qF1, qF2, qPt, qM, T, R, P, S, Dr, V, Hp, Sm, F1, F2, Pt, M, hw, hrel⟩ := hLW
  obtain ⟨y1, ey1⟩ : ∃ y : Int32, y = xs (i + 1).toNatClampNeg := ⟨_, rfl⟩
  obtain ⟨y2, ey2⟩ : ∃ y : Int32, y = xs (i + 2).toNatClampNeg := ⟨_, rfl⟩
  obtain ⟨y3, ey3⟩ : ∃ y : Int32, y = xs (i + 3).toNatClampNeg := ⟨_, rfl⟩
  obtain ⟨y4, ey4⟩ : ∃ y : Int32, y = xs (i + 4).toNatClampNeg := ⟨_, rfl⟩
  obtain ⟨y5, ey5⟩ : ∃ y : Int32, y = xs (i + 5).toNatClampNeg := ⟨_, rfl⟩
  refine lv_aload_n (pc := 737) hx hb dL_law_737 rfl (lv_at hl 1 rfl) ?_
  refine lv_aload_n (pc := 738) hx hb dL_law_738 rfl (lv_at hl 0 rfl) ?_
  refine lv_iload_n (pc := 739) hx hb dL_law_739 rfl (lv_at hl 3 rfl) ?_
  refine lv_iconst (pc := 740) (v := 1) hx hb dL_law_740 (by decide) ?_
  refine lv_iadd (pc := 741) hx hb dL_law_741 ?_
  refine va_sld (pc := 742) hx hb hXs hbl hbA hw.2.2 h1 dL_law_742 ?_
  refine x_topi ey1 ?_
  obtain ⟨r, V', M', hf9, hf10, hrel2⟩ := hst _ _ _ _ _ _ _ _ _ _ _ _ hrel y1
  have hC : (wFull cs a q qT qP qS qDr qV qH qSm qF1 qF2 qPt T R P S Dr V Hp Sm F1 F2 Pt ++ wX10 cs am qM M).Perm ((wX9 cs a q ++ wX8 cs (q 4) qV V) ++ (wX6 cs (q 0) qT T ++ wX3 cs (q 1) (fun _ => q 0) R ++ wX2 cs (qS 0) qP P ++ wX7 cs (q 2) qS S ++ wX2 cs (q 3) qDr Dr ++ wX0 cs (q 5) qH Hp ++ wX4 cs (q 6) qSm Sm ++ wX5 cs (q 7) qF1 F1 ++ wX5 cs (q 8) qF2 F2 ++ wX1 cs (q 9) qPt Pt ++ wX10 cs am qM M)) := pw (bs := [wX9 cs a q, wX6 cs (q 0) qT T, wX3 cs (q 1) (fun _ => q 0) R, wX2 cs (qS 0) qP P, wX7 cs (q 2) qS S, wX2 cs (q 3) qDr Dr, wX8 cs (q 4) qV V, wX0 cs (q 5) qH Hp, wX4 cs (q 6) qSm Sm, wX5 cs (q 7) qF1 F1, wX5 cs (q 8) qF2 F2, wX1 cs (q 9) qPt Pt, wX10 cs am qM M]) [0, 6] [1, 2, 3, 4, 5, 7, 8, 9, 10, 11, 12] (show (_ ++ _ : List Nat).Perm (List.range 13) by decide)
  have hJ : ((wX6 cs (q 0) qT T ++ wX3 cs (q 1) (fun _ => q 0) R ++ wX2 cs (qS 0) qP P ++ wX7 cs (q 2) qS S ++ wX2 cs (q 3) qDr Dr ++ wX0 cs (q 5) qH Hp ++ wX4 cs (q 6) qSm Sm ++ wX5 cs (q 7) qF1 F1 ++ wX5 cs (q 8) qF2 F2 ++ wX1 cs (q 9) qPt Pt ++ wX10 cs am qM M) ++ (wX9 cs a q ++ wX8 cs (q 4) qV V')).Perm (wFull cs a q qT qP qS qDr qV qH qSm qF1 qF2 qPt T R P S Dr V' Hp Sm F1 F2 Pt ++ wX10 cs am qM M) := List.perm_append_comm.trans (pw (bs := [wX9 cs a q, wX6 cs (q 0) qT T, wX3 cs (q 1) (fun _ => q 0) R, wX2 cs (qS 0) qP P, wX7 cs (q 2) qS S, wX2 cs (q 3) qDr Dr, wX8 cs (q 4) qV V', wX0 cs (q 5) qH Hp, wX4 cs (q 6) qSm Sm, wX5 cs (q 7) qF1 F1, wX5 cs (q 8) qF2 F2, wX1 cs (q 9) qPt Pt, wX10 cs am qM M]) [0, 6] [1, 2, 3, 4, 5, 7, 8, 9, 10, 11, 12] (show (_ ++ _ : List Nat).Perm (List.range 13) by decide)).symm
  refine x_cutP (pc := 743) X hw hC hJ (va_runV (As := [.int y1]) (rest := []) ⟨hx, hb, hml, hown, hts⟩ (c_X9_cord l D cs a q qV V y1 r V' hf9 _) (cwV 1 hts gL_law_X9_cord rfl rfl rfl (by decide +kernel) ⟨Nat.le_of_ble_eq_true rfl, Nat.le_of_ble_eq_true rfl⟩) ⟨CP_blind, va_recv hK (hw.perm hC).1 (ci := 9) (q0 := 0) rfl rfl, x_preP X hw hC [.ref a, .int y1]⟩ rfl rfl hl.1 rfl (lv_room (Nat.le_of_ble_eq_true rfl)) dL_law_743 ⟨Nat.le_of_ble_eq_true rfl, Nat.le_of_ble_eq_true rfl⟩) (fun H locs hw => ?_)
  refine lv_aload_n (pc := 746) hx hb dL_law_746 rfl (lv_at hl 2 rfl) ?_
  refine lv_aload_n (pc := 747) hx hb dL_law_747 rfl (lv_at hl 0 rfl) ?_
  refine lv_iload_n (pc := 748) hx hb dL_law_748 rfl (lv_at hl 3 rfl) ?_
  refine lv_iconst (pc := 749) (v := 1) hx hb dL_law_749 (by decide) ?_
  refine lv_iadd (pc := 750) hx hb dL_law_750 ?_
  refine va_sld (pc := 751) hx hb hXs hbl hbA hw.2.2 h1 dL_law_751 ?_
  refine x_topi ey1 ?_
  have hC : (wFull cs a q qT qP qS qDr qV qH qSm qF1 qF2 qPt T R P S Dr V' Hp Sm F1 F2 Pt ++ wX10 cs am qM M).Perm ((wX10 cs am qM M) ++ (wX9 cs a q ++ wX6 cs (q 0) qT T ++ wX3 cs (q 1) (fun _ => q 0) R ++ wX2 cs (qS 0) qP P ++ wX7 cs (q 2) qS S ++ wX2 cs (q 3) qDr Dr ++ wX8 cs (q 4) qV V' ++ wX0 cs (q 5) qH Hp ++ wX4 cs (q 6) qSm Sm ++ wX5 cs (q 7) qF1 F1 ++ wX5 cs (q 8) qF2 F2 ++ wX1 cs (q 9) qPt Pt)) := pw (bs := [wX9 cs a q, wX6 cs (q 0) qT T, wX3 cs (q 1) (fun _ => q 0) R, wX2 cs (qS 0) qP P, wX7 cs (q 2) qS S, wX2 cs (q 3) qDr Dr, wX8 cs (q 4) qV V', wX0 cs (q 5) qH Hp, wX4 cs (q 6) qSm Sm, wX5 cs (q 7) qF1 F1, wX5 cs (q 8) qF2 F2, wX1 cs (q 9) qPt Pt, wX10 cs am qM M]) [12] [0, 1, 2, 3, 4, 5, 6, 7, 8, 9, 10, 11] (show (_ ++ _ : List Nat).Perm (List.range 13) by decide)
  have hJ : ((wX9 cs a q ++ wX6 cs (q 0) qT T ++ wX3 cs (q 1) (fun _ => q 0) R ++ wX2 cs (qS 0) qP P ++ wX7 cs (q 2) qS S ++ wX2 cs (q 3) qDr Dr ++ wX8 cs (q 4) qV V' ++ wX0 cs (q 5) qH Hp ++ wX4 cs (q 6) qSm Sm ++ wX5 cs (q 7) qF1 F1 ++ wX5 cs (q 8) qF2 F2 ++ wX1 cs (q 9) qPt Pt) ++ (wX10 cs am qM M')).Perm (wFull cs a q qT qP qS qDr qV qH qSm qF1 qF2 qPt T R P S Dr V' Hp Sm F1 F2 Pt ++ wX10 cs am qM M') := List.perm_append_comm.trans (pw (bs := [wX9 cs a q, wX6 cs (q 0) qT T, wX3 cs (q 1) (fun _ => q 0) R, wX2 cs (qS 0) qP P, wX7 cs (q 2) qS S, wX2 cs (q 3) qDr Dr, wX8 cs (q 4) qV V', wX0 cs (q 5) qH Hp, wX4 cs (q 6) qSm Sm, wX5 cs (q 7) qF1 F1, wX5 cs (q 8) qF2 F2, wX1 cs (q 9) qPt Pt, wX10 cs am qM M']) [12] [0, 1, 2, 3, 4, 5, 6, 7, 8, 9, 10, 11] (show (_ ++ _ : List Nat).Perm (List.range 13) by decide)).symm
  refine x_cutP (pc := 752) X hw hC hJ (va_runV (As := [.int y1]) (rest := [.int r]) ⟨hx, hb, hml, hown, hts⟩ (c_X10_cord l D cs am qM M y1 r M' hf10 _) (cwV 1 hts gL_law_X10_cord rfl rfl rfl (by decide +kernel) ⟨Nat.le_of_ble_eq_true rfl, Nat.le_of_ble_eq_true rfl⟩) ⟨CP_blind, va_recv hK (hw.perm hC).1 (ci := 10) (q0 := 0) rfl rfl, x_preP X hw hC [.ref am, .int y1]⟩ rfl rfl hl.1 rfl (lv_room (Nat.le_of_ble_eq_true rfl)) dL_law_752 ⟨Nat.le_of_ble_eq_true rfl, Nat.le_of_ble_eq_true rfl⟩) (fun H locs hw => ?_)
  refine lv_icmp_eq (pc := 755) (tgt := 1415) hx hb dL_law_755 (by decide) (fun _ => ?_) (fun c0 => absurd rfl c0)
  exact K _ _ _ ⟨q, qT, qP, qS, qDr, qV, qH, qSm, qF1, qF2, qPt, qM, T, R, P, S, Dr, V', Hp, Sm, F1, F2, Pt, M', hw, hrel2⟩ hl

set_option maxHeartbeats 4000000 in
set_option maxRecDepth 100000 in
theorem lc_measure {p : Program} {l : Launch} {e : Env} {s : State} {m : MethodId} {args : Array Value} {below : List Frame} {meth : Method} {c : Code} {D : va_G} {cs : CS} {A : Nat → Prop} {Q : State → Prop} {ad ar : Nat → Nat} {b L : Nat} {xs : Nat → Int32} {a am : Nat} {Rel : RelT} (X : FX D (TY cs) p s m args meth c cL_law 4 wsL_law RL A (some .boolean)) (hE : SE ad ar A s s.heap) (hXs : va_X b L xs s s.heap) (hbl : b < s.heap.size) (hbA : ¬ A b) {H : Heap} {locs : List Loc} {ls : Array Slot} {i : Int32} (hLW : LW Rel D A s cs a am H locs) (hl : lv_has ls 4 [(0, .ref b), (1, .ref a), (2, .ref am), (3, .int i)]) (h1 : vp_in (i + 1) L) (h2 : vp_in (i + 2) L) (h3 : vp_in (i + 3) L) (h4 : vp_in (i + 4) L) (h5 : vp_in (i + 5) L) (hst : St_measure Rel) (K : ∀ (H : Heap) (locs : List Loc) (ls : Array Slot), LW Rel D A s cs a am H locs → lv_has ls 4 [(0, .ref b), (1, .ref a), (2, .ref am), (3, .int i)] → W p l e room_1 s m args below meth c H locs 69 3778 Q (F0 m 1415 ls [])) : W p l e room_1 s m args below meth c H locs 69 3778 Q (F0 m 760 ls []) := by
  obtain ⟨hx, hb, hml, hown, hts, hK, hA, hr, hlk⟩ := id X
  obtain ⟨q, qT, qP, qS, qDr, qV, qH, qSm, qF1, qF2, qPt, qM, T, R, P, S, Dr, V, Hp, Sm, F1, F2, Pt, M, hw, hrel⟩ := hLW
  obtain ⟨y1, ey1⟩ : ∃ y : Int32, y = xs (i + 1).toNatClampNeg := ⟨_, rfl⟩
  obtain ⟨y2, ey2⟩ : ∃ y : Int32, y = xs (i + 2).toNatClampNeg := ⟨_, rfl⟩
  obtain ⟨y3, ey3⟩ : ∃ y : Int32, y = xs (i + 3).toNatClampNeg := ⟨_, rfl⟩
  obtain ⟨y4, ey4⟩ : ∃ y : Int32, y = xs (i + 4).toNatClampNeg := ⟨_, rfl⟩
  obtain ⟨y5, ey5⟩ : ∃ y : Int32, y = xs (i + 5).toNatClampNeg := ⟨_, rfl⟩
  refine lv_aload_n (pc := 760) hx hb dL_law_760 rfl (lv_at hl 1 rfl) ?_
  refine lv_aload_n (pc := 761) hx hb dL_law_761 rfl (lv_at hl 0 rfl) ?_
  refine lv_iload_n (pc := 762) hx hb dL_law_762 rfl (lv_at hl 3 rfl) ?_
  refine lv_iconst (pc := 763) (v := 1) hx hb dL_law_763 (by decide) ?_
  refine lv_iadd (pc := 764) hx hb dL_law_764 ?_
  refine va_sld (pc := 765) hx hb hXs hbl hbA hw.2.2 h1 dL_law_765 ?_
  refine x_topi ey1 ?_
  refine lv_aload_n (pc := 766) hx hb dL_law_766 rfl (lv_at hl 0 rfl) ?_
  refine lv_iload_n (pc := 767) hx hb dL_law_767 rfl (lv_at hl 3 rfl) ?_
  refine lv_iconst (pc := 768) (v := 2) hx hb dL_law_768 (by decide) ?_
  refine lv_iadd (pc := 769) hx hb dL_law_769 ?_
  refine va_sld (pc := 770) hx hb hXs hbl hbA hw.2.2 h2 dL_law_770 ?_
  refine x_topi ey2 ?_
  obtain ⟨r, hf9, hf10, hrel2⟩ := hst _ _ _ _ _ _ _ _ _ _ _ _ hrel y1 y2
  have hC : (wFull cs a q qT qP qS qDr qV qH qSm qF1 qF2 qPt T R P S Dr V Hp Sm F1 F2 Pt ++ wX10 cs am qM M).Perm ((wX9 cs a q ++ wX8 cs (q 4) qV V) ++ (wX6 cs (q 0) qT T ++ wX3 cs (q 1) (fun _ => q 0) R ++ wX2 cs (qS 0) qP P ++ wX7 cs (q 2) qS S ++ wX2 cs (q 3) qDr Dr ++ wX0 cs (q 5) qH Hp ++ wX4 cs (q 6) qSm Sm ++ wX5 cs (q 7) qF1 F1 ++ wX5 cs (q 8) qF2 F2 ++ wX1 cs (q 9) qPt Pt ++ wX10 cs am qM M)) := pw (bs := [wX9 cs a q, wX6 cs (q 0) qT T, wX3 cs (q 1) (fun _ => q 0) R, wX2 cs (qS 0) qP P, wX7 cs (q 2) qS S, wX2 cs (q 3) qDr Dr, wX8 cs (q 4) qV V, wX0 cs (q 5) qH Hp, wX4 cs (q 6) qSm Sm, wX5 cs (q 7) qF1 F1, wX5 cs (q 8) qF2 F2, wX1 cs (q 9) qPt Pt, wX10 cs am qM M]) [0, 6] [1, 2, 3, 4, 5, 7, 8, 9, 10, 11, 12] (show (_ ++ _ : List Nat).Perm (List.range 13) by decide)
  have hJ : ((wX6 cs (q 0) qT T ++ wX3 cs (q 1) (fun _ => q 0) R ++ wX2 cs (qS 0) qP P ++ wX7 cs (q 2) qS S ++ wX2 cs (q 3) qDr Dr ++ wX0 cs (q 5) qH Hp ++ wX4 cs (q 6) qSm Sm ++ wX5 cs (q 7) qF1 F1 ++ wX5 cs (q 8) qF2 F2 ++ wX1 cs (q 9) qPt Pt ++ wX10 cs am qM M) ++ (wX9 cs a q ++ wX8 cs (q 4) qV V)).Perm (wFull cs a q qT qP qS qDr qV qH qSm qF1 qF2 qPt T R P S Dr V Hp Sm F1 F2 Pt ++ wX10 cs am qM M) := List.perm_append_comm.trans (pw (bs := [wX9 cs a q, wX6 cs (q 0) qT T, wX3 cs (q 1) (fun _ => q 0) R, wX2 cs (qS 0) qP P, wX7 cs (q 2) qS S, wX2 cs (q 3) qDr Dr, wX8 cs (q 4) qV V, wX0 cs (q 5) qH Hp, wX4 cs (q 6) qSm Sm, wX5 cs (q 7) qF1 F1, wX5 cs (q 8) qF2 F2, wX1 cs (q 9) qPt Pt, wX10 cs am qM M]) [0, 6] [1, 2, 3, 4, 5, 7, 8, 9, 10, 11, 12] (show (_ ++ _ : List Nat).Perm (List.range 13) by decide)).symm
  refine x_cutP (pc := 771) X hw hC hJ (va_runV (As := [.int y1, .int y2]) (rest := []) ⟨hx, hb, hml, hown, hts⟩ (c_X9_measure l D cs a q qV V y1 y2 r hf9 _) (cwV 2 hts gL_law_X9_measure rfl rfl rfl (by decide +kernel) ⟨Nat.le_of_ble_eq_true rfl, Nat.le_of_ble_eq_true rfl⟩) ⟨CP_blind, va_recv hK (hw.perm hC).1 (ci := 9) (q0 := 0) rfl rfl, x_preP X hw hC [.ref a, .int y1, .int y2]⟩ rfl rfl hl.1 rfl (lv_room (Nat.le_of_ble_eq_true rfl)) dL_law_771 ⟨Nat.le_of_ble_eq_true rfl, Nat.le_of_ble_eq_true rfl⟩) (fun H locs hw => ?_)
  refine lv_aload_n (pc := 774) hx hb dL_law_774 rfl (lv_at hl 2 rfl) ?_
  refine lv_aload_n (pc := 775) hx hb dL_law_775 rfl (lv_at hl 0 rfl) ?_
  refine lv_iload_n (pc := 776) hx hb dL_law_776 rfl (lv_at hl 3 rfl) ?_
  refine lv_iconst (pc := 777) (v := 1) hx hb dL_law_777 (by decide) ?_
  refine lv_iadd (pc := 778) hx hb dL_law_778 ?_
  refine va_sld (pc := 779) hx hb hXs hbl hbA hw.2.2 h1 dL_law_779 ?_
  refine x_topi ey1 ?_
  refine lv_aload_n (pc := 780) hx hb dL_law_780 rfl (lv_at hl 0 rfl) ?_
  refine lv_iload_n (pc := 781) hx hb dL_law_781 rfl (lv_at hl 3 rfl) ?_
  refine lv_iconst (pc := 782) (v := 2) hx hb dL_law_782 (by decide) ?_
  refine lv_iadd (pc := 783) hx hb dL_law_783 ?_
  refine va_sld (pc := 784) hx hb hXs hbl hbA hw.2.2 h2 dL_law_784 ?_
  refine x_topi ey2 ?_
  have hC : (wFull cs a q qT qP qS qDr qV qH qSm qF1 qF2 qPt T R P S Dr V Hp Sm F1 F2 Pt ++ wX10 cs am qM M).Perm ((wX10 cs am qM M) ++ (wX9 cs a q ++ wX6 cs (q 0) qT T ++ wX3 cs (q 1) (fun _ => q 0) R ++ wX2 cs (qS 0) qP P ++ wX7 cs (q 2) qS S ++ wX2 cs (q 3) qDr Dr ++ wX8 cs (q 4) qV V ++ wX0 cs (q 5) qH Hp ++ wX4 cs (q 6) qSm Sm ++ wX5 cs (q 7) qF1 F1 ++ wX5 cs (q 8) qF2 F2 ++ wX1 cs (q 9) qPt Pt)) := pw (bs := [wX9 cs a q, wX6 cs (q 0) qT T, wX3 cs (q 1) (fun _ => q 0) R, wX2 cs (qS 0) qP P, wX7 cs (q 2) qS S, wX2 cs (q 3) qDr Dr, wX8 cs (q 4) qV V, wX0 cs (q 5) qH Hp, wX4 cs (q 6) qSm Sm, wX5 cs (q 7) qF1 F1, wX5 cs (q 8) qF2 F2, wX1 cs (q 9) qPt Pt, wX10 cs am qM M]) [12] [0, 1, 2, 3, 4, 5, 6, 7, 8, 9, 10, 11] (show (_ ++ _ : List Nat).Perm (List.range 13) by decide)
  have hJ : ((wX9 cs a q ++ wX6 cs (q 0) qT T ++ wX3 cs (q 1) (fun _ => q 0) R ++ wX2 cs (qS 0) qP P ++ wX7 cs (q 2) qS S ++ wX2 cs (q 3) qDr Dr ++ wX8 cs (q 4) qV V ++ wX0 cs (q 5) qH Hp ++ wX4 cs (q 6) qSm Sm ++ wX5 cs (q 7) qF1 F1 ++ wX5 cs (q 8) qF2 F2 ++ wX1 cs (q 9) qPt Pt) ++ (wX10 cs am qM M)).Perm (wFull cs a q qT qP qS qDr qV qH qSm qF1 qF2 qPt T R P S Dr V Hp Sm F1 F2 Pt ++ wX10 cs am qM M) := List.perm_append_comm.trans (pw (bs := [wX9 cs a q, wX6 cs (q 0) qT T, wX3 cs (q 1) (fun _ => q 0) R, wX2 cs (qS 0) qP P, wX7 cs (q 2) qS S, wX2 cs (q 3) qDr Dr, wX8 cs (q 4) qV V, wX0 cs (q 5) qH Hp, wX4 cs (q 6) qSm Sm, wX5 cs (q 7) qF1 F1, wX5 cs (q 8) qF2 F2, wX1 cs (q 9) qPt Pt, wX10 cs am qM M]) [12] [0, 1, 2, 3, 4, 5, 6, 7, 8, 9, 10, 11] (show (_ ++ _ : List Nat).Perm (List.range 13) by decide)).symm
  refine x_cutP (pc := 785) X hw hC hJ (va_runV (As := [.int y1, .int y2]) (rest := [.int r]) ⟨hx, hb, hml, hown, hts⟩ (c_X10_measure l D cs am qM M y1 y2 r hf10 _) (cwV 2 hts gL_law_X10_measure rfl rfl rfl (by decide +kernel) ⟨Nat.le_of_ble_eq_true rfl, Nat.le_of_ble_eq_true rfl⟩) ⟨CP_blind, va_recv hK (hw.perm hC).1 (ci := 10) (q0 := 0) rfl rfl, x_preP X hw hC [.ref am, .int y1, .int y2]⟩ rfl rfl hl.1 rfl (lv_room (Nat.le_of_ble_eq_true rfl)) dL_law_785 ⟨Nat.le_of_ble_eq_true rfl, Nat.le_of_ble_eq_true rfl⟩) (fun H locs hw => ?_)
  refine lv_icmp_eq (pc := 788) (tgt := 1415) hx hb dL_law_788 (by decide) (fun _ => ?_) (fun c0 => absurd rfl c0)
  exact K _ _ _ ⟨q, qT, qP, qS, qDr, qV, qH, qSm, qF1, qF2, qPt, qM, T, R, P, S, Dr, V, Hp, Sm, F1, F2, Pt, M, hw, hrel2⟩ hl

set_option maxHeartbeats 4000000 in
set_option maxRecDepth 100000 in
theorem lc_expect {p : Program} {l : Launch} {e : Env} {s : State} {m : MethodId} {args : Array Value} {below : List Frame} {meth : Method} {c : Code} {D : va_G} {cs : CS} {A : Nat → Prop} {Q : State → Prop} {ad ar : Nat → Nat} {b L : Nat} {xs : Nat → Int32} {a am : Nat} {Rel : RelT} (X : FX D (TY cs) p s m args meth c cL_law 4 wsL_law RL A (some .boolean)) (hE : SE ad ar A s s.heap) (hXs : va_X b L xs s s.heap) (hbl : b < s.heap.size) (hbA : ¬ A b) {H : Heap} {locs : List Loc} {ls : Array Slot} {i : Int32} (hLW : LW Rel D A s cs a am H locs) (hl : lv_has ls 4 [(0, .ref b), (1, .ref a), (2, .ref am), (3, .int i)]) (h1 : vp_in (i + 1) L) (h2 : vp_in (i + 2) L) (h3 : vp_in (i + 3) L) (h4 : vp_in (i + 4) L) (h5 : vp_in (i + 5) L) (hst : St_expect Rel) (K : ∀ (H : Heap) (locs : List Loc) (ls : Array Slot), LW Rel D A s cs a am H locs → lv_has ls 4 [(0, .ref b), (1, .ref a), (2, .ref am), (3, .int i)] → W p l e room_1 s m args below meth c H locs 69 3778 Q (F0 m 1415 ls [])) : W p l e room_1 s m args below meth c H locs 69 3778 Q (F0 m 793 ls []) := by
  obtain ⟨hx, hb, hml, hown, hts, hK, hA, hr, hlk⟩ := id X
  obtain ⟨q, qT, qP, qS, qDr, qV, qH, qSm, qF1, qF2, qPt, qM, T, R, P, S, Dr, V, Hp, Sm, F1, F2, Pt, M, hw, hrel⟩ := hLW
  obtain ⟨y1, ey1⟩ : ∃ y : Int32, y = xs (i + 1).toNatClampNeg := ⟨_, rfl⟩
  obtain ⟨y2, ey2⟩ : ∃ y : Int32, y = xs (i + 2).toNatClampNeg := ⟨_, rfl⟩
  obtain ⟨y3, ey3⟩ : ∃ y : Int32, y = xs (i + 3).toNatClampNeg := ⟨_, rfl⟩
  obtain ⟨y4, ey4⟩ : ∃ y : Int32, y = xs (i + 4).toNatClampNeg := ⟨_, rfl⟩
  obtain ⟨y5, ey5⟩ : ∃ y : Int32, y = xs (i + 5).toNatClampNeg := ⟨_, rfl⟩
  refine lv_aload_n (pc := 793) hx hb dL_law_793 rfl (lv_at hl 1 rfl) ?_
  refine lv_aload_n (pc := 794) hx hb dL_law_794 rfl (lv_at hl 0 rfl) ?_
  refine lv_iload_n (pc := 795) hx hb dL_law_795 rfl (lv_at hl 3 rfl) ?_
  refine lv_iconst (pc := 796) (v := 1) hx hb dL_law_796 (by decide) ?_
  refine lv_iadd (pc := 797) hx hb dL_law_797 ?_
  refine va_sld (pc := 798) hx hb hXs hbl hbA hw.2.2 h1 dL_law_798 ?_
  refine x_topi ey1 ?_
  refine lv_aload_n (pc := 799) hx hb dL_law_799 rfl (lv_at hl 0 rfl) ?_
  refine lv_iload_n (pc := 800) hx hb dL_law_800 rfl (lv_at hl 3 rfl) ?_
  refine lv_iconst (pc := 801) (v := 2) hx hb dL_law_801 (by decide) ?_
  refine lv_iadd (pc := 802) hx hb dL_law_802 ?_
  refine va_sld (pc := 803) hx hb hXs hbl hbA hw.2.2 h2 dL_law_803 ?_
  refine x_topi ey2 ?_
  refine lv_aload_n (pc := 804) hx hb dL_law_804 rfl (lv_at hl 0 rfl) ?_
  refine lv_iload_n (pc := 805) hx hb dL_law_805 rfl (lv_at hl 3 rfl) ?_
  refine lv_iconst (pc := 806) (v := 3) hx hb dL_law_806 (by decide) ?_
  refine lv_iadd (pc := 807) hx hb dL_law_807 ?_
  refine va_sld (pc := 808) hx hb hXs hbl hbA hw.2.2 h3 dL_law_808 ?_
  refine x_topi ey3 ?_
  refine lv_aload_n (pc := 809) hx hb dL_law_809 rfl (lv_at hl 0 rfl) ?_
  refine lv_iload_n (pc := 810) hx hb dL_law_810 rfl (lv_at hl 3 rfl) ?_
  refine lv_iconst (pc := 811) (v := 4) hx hb dL_law_811 (by decide) ?_
  refine lv_iadd (pc := 812) hx hb dL_law_812 ?_
  refine va_sld (pc := 813) hx hb hXs hbl hbA hw.2.2 h4 dL_law_813 ?_
  refine x_topi ey4 ?_
  obtain ⟨r, hf9, hf10, hrel2⟩ := hst _ _ _ _ _ _ _ _ _ _ _ _ hrel y1 y2 y3 y4
  have hC : (wFull cs a q qT qP qS qDr qV qH qSm qF1 qF2 qPt T R P S Dr V Hp Sm F1 F2 Pt ++ wX10 cs am qM M).Perm ((wX9 cs a q ++ wX8 cs (q 4) qV V) ++ (wX6 cs (q 0) qT T ++ wX3 cs (q 1) (fun _ => q 0) R ++ wX2 cs (qS 0) qP P ++ wX7 cs (q 2) qS S ++ wX2 cs (q 3) qDr Dr ++ wX0 cs (q 5) qH Hp ++ wX4 cs (q 6) qSm Sm ++ wX5 cs (q 7) qF1 F1 ++ wX5 cs (q 8) qF2 F2 ++ wX1 cs (q 9) qPt Pt ++ wX10 cs am qM M)) := pw (bs := [wX9 cs a q, wX6 cs (q 0) qT T, wX3 cs (q 1) (fun _ => q 0) R, wX2 cs (qS 0) qP P, wX7 cs (q 2) qS S, wX2 cs (q 3) qDr Dr, wX8 cs (q 4) qV V, wX0 cs (q 5) qH Hp, wX4 cs (q 6) qSm Sm, wX5 cs (q 7) qF1 F1, wX5 cs (q 8) qF2 F2, wX1 cs (q 9) qPt Pt, wX10 cs am qM M]) [0, 6] [1, 2, 3, 4, 5, 7, 8, 9, 10, 11, 12] (show (_ ++ _ : List Nat).Perm (List.range 13) by decide)
  have hJ : ((wX6 cs (q 0) qT T ++ wX3 cs (q 1) (fun _ => q 0) R ++ wX2 cs (qS 0) qP P ++ wX7 cs (q 2) qS S ++ wX2 cs (q 3) qDr Dr ++ wX0 cs (q 5) qH Hp ++ wX4 cs (q 6) qSm Sm ++ wX5 cs (q 7) qF1 F1 ++ wX5 cs (q 8) qF2 F2 ++ wX1 cs (q 9) qPt Pt ++ wX10 cs am qM M) ++ (wX9 cs a q ++ wX8 cs (q 4) qV V)).Perm (wFull cs a q qT qP qS qDr qV qH qSm qF1 qF2 qPt T R P S Dr V Hp Sm F1 F2 Pt ++ wX10 cs am qM M) := List.perm_append_comm.trans (pw (bs := [wX9 cs a q, wX6 cs (q 0) qT T, wX3 cs (q 1) (fun _ => q 0) R, wX2 cs (qS 0) qP P, wX7 cs (q 2) qS S, wX2 cs (q 3) qDr Dr, wX8 cs (q 4) qV V, wX0 cs (q 5) qH Hp, wX4 cs (q 6) qSm Sm, wX5 cs (q 7) qF1 F1, wX5 cs (q 8) qF2 F2, wX1 cs (q 9) qPt Pt, wX10 cs am qM M]) [0, 6] [1, 2, 3, 4, 5, 7, 8, 9, 10, 11, 12] (show (_ ++ _ : List Nat).Perm (List.range 13) by decide)).symm
  refine x_cutP (pc := 814) X hw hC hJ (va_runV (As := [.int y1, .int y2, .int y3, .int y4]) (rest := []) ⟨hx, hb, hml, hown, hts⟩ (c_X9_expect l D cs a q qV V y1 y2 y3 y4 r hf9 _) (cwV 4 hts gL_law_X9_expect rfl rfl rfl (by decide +kernel) ⟨Nat.le_of_ble_eq_true rfl, Nat.le_of_ble_eq_true rfl⟩) ⟨CP_blind, va_recv hK (hw.perm hC).1 (ci := 9) (q0 := 0) rfl rfl, x_preP X hw hC [.ref a, .int y1, .int y2, .int y3, .int y4]⟩ rfl rfl hl.1 rfl (lv_room (Nat.le_of_ble_eq_true rfl)) dL_law_814 ⟨Nat.le_of_ble_eq_true rfl, Nat.le_of_ble_eq_true rfl⟩) (fun H locs hw => ?_)
  refine lv_aload_n (pc := 817) hx hb dL_law_817 rfl (lv_at hl 2 rfl) ?_
  refine lv_aload_n (pc := 818) hx hb dL_law_818 rfl (lv_at hl 0 rfl) ?_
  refine lv_iload_n (pc := 819) hx hb dL_law_819 rfl (lv_at hl 3 rfl) ?_
  refine lv_iconst (pc := 820) (v := 1) hx hb dL_law_820 (by decide) ?_
  refine lv_iadd (pc := 821) hx hb dL_law_821 ?_
  refine va_sld (pc := 822) hx hb hXs hbl hbA hw.2.2 h1 dL_law_822 ?_
  refine x_topi ey1 ?_
  refine lv_aload_n (pc := 823) hx hb dL_law_823 rfl (lv_at hl 0 rfl) ?_
  refine lv_iload_n (pc := 824) hx hb dL_law_824 rfl (lv_at hl 3 rfl) ?_
  refine lv_iconst (pc := 825) (v := 2) hx hb dL_law_825 (by decide) ?_
  refine lv_iadd (pc := 826) hx hb dL_law_826 ?_
  refine va_sld (pc := 827) hx hb hXs hbl hbA hw.2.2 h2 dL_law_827 ?_
  refine x_topi ey2 ?_
  refine lv_aload_n (pc := 828) hx hb dL_law_828 rfl (lv_at hl 0 rfl) ?_
  refine lv_iload_n (pc := 829) hx hb dL_law_829 rfl (lv_at hl 3 rfl) ?_
  refine lv_iconst (pc := 830) (v := 3) hx hb dL_law_830 (by decide) ?_
  refine lv_iadd (pc := 831) hx hb dL_law_831 ?_
  refine va_sld (pc := 832) hx hb hXs hbl hbA hw.2.2 h3 dL_law_832 ?_
  refine x_topi ey3 ?_
  refine lv_aload_n (pc := 833) hx hb dL_law_833 rfl (lv_at hl 0 rfl) ?_
  refine lv_iload_n (pc := 834) hx hb dL_law_834 rfl (lv_at hl 3 rfl) ?_
  refine lv_iconst (pc := 835) (v := 4) hx hb dL_law_835 (by decide) ?_
  refine lv_iadd (pc := 836) hx hb dL_law_836 ?_
  refine va_sld (pc := 837) hx hb hXs hbl hbA hw.2.2 h4 dL_law_837 ?_
  refine x_topi ey4 ?_
  have hC : (wFull cs a q qT qP qS qDr qV qH qSm qF1 qF2 qPt T R P S Dr V Hp Sm F1 F2 Pt ++ wX10 cs am qM M).Perm ((wX10 cs am qM M) ++ (wX9 cs a q ++ wX6 cs (q 0) qT T ++ wX3 cs (q 1) (fun _ => q 0) R ++ wX2 cs (qS 0) qP P ++ wX7 cs (q 2) qS S ++ wX2 cs (q 3) qDr Dr ++ wX8 cs (q 4) qV V ++ wX0 cs (q 5) qH Hp ++ wX4 cs (q 6) qSm Sm ++ wX5 cs (q 7) qF1 F1 ++ wX5 cs (q 8) qF2 F2 ++ wX1 cs (q 9) qPt Pt)) := pw (bs := [wX9 cs a q, wX6 cs (q 0) qT T, wX3 cs (q 1) (fun _ => q 0) R, wX2 cs (qS 0) qP P, wX7 cs (q 2) qS S, wX2 cs (q 3) qDr Dr, wX8 cs (q 4) qV V, wX0 cs (q 5) qH Hp, wX4 cs (q 6) qSm Sm, wX5 cs (q 7) qF1 F1, wX5 cs (q 8) qF2 F2, wX1 cs (q 9) qPt Pt, wX10 cs am qM M]) [12] [0, 1, 2, 3, 4, 5, 6, 7, 8, 9, 10, 11] (show (_ ++ _ : List Nat).Perm (List.range 13) by decide)
  have hJ : ((wX9 cs a q ++ wX6 cs (q 0) qT T ++ wX3 cs (q 1) (fun _ => q 0) R ++ wX2 cs (qS 0) qP P ++ wX7 cs (q 2) qS S ++ wX2 cs (q 3) qDr Dr ++ wX8 cs (q 4) qV V ++ wX0 cs (q 5) qH Hp ++ wX4 cs (q 6) qSm Sm ++ wX5 cs (q 7) qF1 F1 ++ wX5 cs (q 8) qF2 F2 ++ wX1 cs (q 9) qPt Pt) ++ (wX10 cs am qM M)).Perm (wFull cs a q qT qP qS qDr qV qH qSm qF1 qF2 qPt T R P S Dr V Hp Sm F1 F2 Pt ++ wX10 cs am qM M) := List.perm_append_comm.trans (pw (bs := [wX9 cs a q, wX6 cs (q 0) qT T, wX3 cs (q 1) (fun _ => q 0) R, wX2 cs (qS 0) qP P, wX7 cs (q 2) qS S, wX2 cs (q 3) qDr Dr, wX8 cs (q 4) qV V, wX0 cs (q 5) qH Hp, wX4 cs (q 6) qSm Sm, wX5 cs (q 7) qF1 F1, wX5 cs (q 8) qF2 F2, wX1 cs (q 9) qPt Pt, wX10 cs am qM M]) [12] [0, 1, 2, 3, 4, 5, 6, 7, 8, 9, 10, 11] (show (_ ++ _ : List Nat).Perm (List.range 13) by decide)).symm
  refine x_cutP (pc := 838) X hw hC hJ (va_runV (As := [.int y1, .int y2, .int y3, .int y4]) (rest := [.int r]) ⟨hx, hb, hml, hown, hts⟩ (c_X10_expect l D cs am qM M y1 y2 y3 y4 r hf10 _) (cwV 4 hts gL_law_X10_expect rfl rfl rfl (by decide +kernel) ⟨Nat.le_of_ble_eq_true rfl, Nat.le_of_ble_eq_true rfl⟩) ⟨CP_blind, va_recv hK (hw.perm hC).1 (ci := 10) (q0 := 0) rfl rfl, x_preP X hw hC [.ref am, .int y1, .int y2, .int y3, .int y4]⟩ rfl rfl hl.1 rfl (lv_room (Nat.le_of_ble_eq_true rfl)) dL_law_838 ⟨Nat.le_of_ble_eq_true rfl, Nat.le_of_ble_eq_true rfl⟩) (fun H locs hw => ?_)
  refine lv_icmp_eq (pc := 841) (tgt := 1415) hx hb dL_law_841 (by decide) (fun _ => ?_) (fun c0 => absurd rfl c0)
  exact K _ _ _ ⟨q, qT, qP, qS, qDr, qV, qH, qSm, qF1, qF2, qPt, qM, T, R, P, S, Dr, V, Hp, Sm, F1, F2, Pt, M, hw, hrel2⟩ hl

set_option maxHeartbeats 4000000 in
set_option maxRecDepth 100000 in
theorem lc_byMeans {p : Program} {l : Launch} {e : Env} {s : State} {m : MethodId} {args : Array Value} {below : List Frame} {meth : Method} {c : Code} {D : va_G} {cs : CS} {A : Nat → Prop} {Q : State → Prop} {ad ar : Nat → Nat} {b L : Nat} {xs : Nat → Int32} {a am : Nat} {Rel : RelT} (X : FX D (TY cs) p s m args meth c cL_law 4 wsL_law RL A (some .boolean)) (hE : SE ad ar A s s.heap) (hXs : va_X b L xs s s.heap) (hbl : b < s.heap.size) (hbA : ¬ A b) {H : Heap} {locs : List Loc} {ls : Array Slot} {i : Int32} (hLW : LW Rel D A s cs a am H locs) (hl : lv_has ls 4 [(0, .ref b), (1, .ref a), (2, .ref am), (3, .int i)]) (h1 : vp_in (i + 1) L) (h2 : vp_in (i + 2) L) (h3 : vp_in (i + 3) L) (h4 : vp_in (i + 4) L) (h5 : vp_in (i + 5) L) (hst : St_byMeans Rel) (K : ∀ (H : Heap) (locs : List Loc) (ls : Array Slot), LW Rel D A s cs a am H locs → lv_has ls 4 [(0, .ref b), (1, .ref a), (2, .ref am), (3, .int i)] → W p l e room_1 s m args below meth c H locs 69 3778 Q (F0 m 1415 ls [])) : W p l e room_1 s m args below meth c H locs 69 3778 Q (F0 m 846 ls []) := by
  obtain ⟨hx, hb, hml, hown, hts, hK, hA, hr, hlk⟩ := id X
  obtain ⟨q, qT, qP, qS, qDr, qV, qH, qSm, qF1, qF2, qPt, qM, T, R, P, S, Dr, V, Hp, Sm, F1, F2, Pt, M, hw, hrel⟩ := hLW
  obtain ⟨y1, ey1⟩ : ∃ y : Int32, y = xs (i + 1).toNatClampNeg := ⟨_, rfl⟩
  obtain ⟨y2, ey2⟩ : ∃ y : Int32, y = xs (i + 2).toNatClampNeg := ⟨_, rfl⟩
  obtain ⟨y3, ey3⟩ : ∃ y : Int32, y = xs (i + 3).toNatClampNeg := ⟨_, rfl⟩
  obtain ⟨y4, ey4⟩ : ∃ y : Int32, y = xs (i + 4).toNatClampNeg := ⟨_, rfl⟩
  obtain ⟨y5, ey5⟩ : ∃ y : Int32, y = xs (i + 5).toNatClampNeg := ⟨_, rfl⟩
  refine lv_aload_n (pc := 846) hx hb dL_law_846 rfl (lv_at hl 1 rfl) ?_
  refine lv_aload_n (pc := 847) hx hb dL_law_847 rfl (lv_at hl 0 rfl) ?_
  refine lv_iload_n (pc := 848) hx hb dL_law_848 rfl (lv_at hl 3 rfl) ?_
  refine lv_iconst (pc := 849) (v := 1) hx hb dL_law_849 (by decide) ?_
  refine lv_iadd (pc := 850) hx hb dL_law_850 ?_
  refine va_sld (pc := 851) hx hb hXs hbl hbA hw.2.2 h1 dL_law_851 ?_
  refine x_topi ey1 ?_
  obtain ⟨r, hf9, hf10, hrel2⟩ := hst _ _ _ _ _ _ _ _ _ _ _ _ hrel y1
  have hC : (wFull cs a q qT qP qS qDr qV qH qSm qF1 qF2 qPt T R P S Dr V Hp Sm F1 F2 Pt ++ wX10 cs am qM M).Perm ((wX9 cs a q ++ wX8 cs (q 4) qV V) ++ (wX6 cs (q 0) qT T ++ wX3 cs (q 1) (fun _ => q 0) R ++ wX2 cs (qS 0) qP P ++ wX7 cs (q 2) qS S ++ wX2 cs (q 3) qDr Dr ++ wX0 cs (q 5) qH Hp ++ wX4 cs (q 6) qSm Sm ++ wX5 cs (q 7) qF1 F1 ++ wX5 cs (q 8) qF2 F2 ++ wX1 cs (q 9) qPt Pt ++ wX10 cs am qM M)) := pw (bs := [wX9 cs a q, wX6 cs (q 0) qT T, wX3 cs (q 1) (fun _ => q 0) R, wX2 cs (qS 0) qP P, wX7 cs (q 2) qS S, wX2 cs (q 3) qDr Dr, wX8 cs (q 4) qV V, wX0 cs (q 5) qH Hp, wX4 cs (q 6) qSm Sm, wX5 cs (q 7) qF1 F1, wX5 cs (q 8) qF2 F2, wX1 cs (q 9) qPt Pt, wX10 cs am qM M]) [0, 6] [1, 2, 3, 4, 5, 7, 8, 9, 10, 11, 12] (show (_ ++ _ : List Nat).Perm (List.range 13) by decide)
  have hJ : ((wX6 cs (q 0) qT T ++ wX3 cs (q 1) (fun _ => q 0) R ++ wX2 cs (qS 0) qP P ++ wX7 cs (q 2) qS S ++ wX2 cs (q 3) qDr Dr ++ wX0 cs (q 5) qH Hp ++ wX4 cs (q 6) qSm Sm ++ wX5 cs (q 7) qF1 F1 ++ wX5 cs (q 8) qF2 F2 ++ wX1 cs (q 9) qPt Pt ++ wX10 cs am qM M) ++ (wX9 cs a q ++ wX8 cs (q 4) qV V)).Perm (wFull cs a q qT qP qS qDr qV qH qSm qF1 qF2 qPt T R P S Dr V Hp Sm F1 F2 Pt ++ wX10 cs am qM M) := List.perm_append_comm.trans (pw (bs := [wX9 cs a q, wX6 cs (q 0) qT T, wX3 cs (q 1) (fun _ => q 0) R, wX2 cs (qS 0) qP P, wX7 cs (q 2) qS S, wX2 cs (q 3) qDr Dr, wX8 cs (q 4) qV V, wX0 cs (q 5) qH Hp, wX4 cs (q 6) qSm Sm, wX5 cs (q 7) qF1 F1, wX5 cs (q 8) qF2 F2, wX1 cs (q 9) qPt Pt, wX10 cs am qM M]) [0, 6] [1, 2, 3, 4, 5, 7, 8, 9, 10, 11, 12] (show (_ ++ _ : List Nat).Perm (List.range 13) by decide)).symm
  refine x_cutP (pc := 852) X hw hC hJ (va_runV (As := [.int y1]) (rest := []) ⟨hx, hb, hml, hown, hts⟩ (c_X9_byMeans l D cs a q qV V y1 r hf9 _) (cwV 1 hts gL_law_X9_byMeans rfl rfl rfl (by decide +kernel) ⟨Nat.le_of_ble_eq_true rfl, Nat.le_of_ble_eq_true rfl⟩) ⟨CP_blind, va_recv hK (hw.perm hC).1 (ci := 9) (q0 := 0) rfl rfl, x_preP X hw hC [.ref a, .int y1]⟩ rfl rfl hl.1 rfl (lv_room (Nat.le_of_ble_eq_true rfl)) dL_law_852 ⟨Nat.le_of_ble_eq_true rfl, Nat.le_of_ble_eq_true rfl⟩) (fun H locs hw => ?_)
  refine lv_aload_n (pc := 855) hx hb dL_law_855 rfl (lv_at hl 2 rfl) ?_
  refine lv_aload_n (pc := 856) hx hb dL_law_856 rfl (lv_at hl 0 rfl) ?_
  refine lv_iload_n (pc := 857) hx hb dL_law_857 rfl (lv_at hl 3 rfl) ?_
  refine lv_iconst (pc := 858) (v := 1) hx hb dL_law_858 (by decide) ?_
  refine lv_iadd (pc := 859) hx hb dL_law_859 ?_
  refine va_sld (pc := 860) hx hb hXs hbl hbA hw.2.2 h1 dL_law_860 ?_
  refine x_topi ey1 ?_
  have hC : (wFull cs a q qT qP qS qDr qV qH qSm qF1 qF2 qPt T R P S Dr V Hp Sm F1 F2 Pt ++ wX10 cs am qM M).Perm ((wX10 cs am qM M) ++ (wX9 cs a q ++ wX6 cs (q 0) qT T ++ wX3 cs (q 1) (fun _ => q 0) R ++ wX2 cs (qS 0) qP P ++ wX7 cs (q 2) qS S ++ wX2 cs (q 3) qDr Dr ++ wX8 cs (q 4) qV V ++ wX0 cs (q 5) qH Hp ++ wX4 cs (q 6) qSm Sm ++ wX5 cs (q 7) qF1 F1 ++ wX5 cs (q 8) qF2 F2 ++ wX1 cs (q 9) qPt Pt)) := pw (bs := [wX9 cs a q, wX6 cs (q 0) qT T, wX3 cs (q 1) (fun _ => q 0) R, wX2 cs (qS 0) qP P, wX7 cs (q 2) qS S, wX2 cs (q 3) qDr Dr, wX8 cs (q 4) qV V, wX0 cs (q 5) qH Hp, wX4 cs (q 6) qSm Sm, wX5 cs (q 7) qF1 F1, wX5 cs (q 8) qF2 F2, wX1 cs (q 9) qPt Pt, wX10 cs am qM M]) [12] [0, 1, 2, 3, 4, 5, 6, 7, 8, 9, 10, 11] (show (_ ++ _ : List Nat).Perm (List.range 13) by decide)
  have hJ : ((wX9 cs a q ++ wX6 cs (q 0) qT T ++ wX3 cs (q 1) (fun _ => q 0) R ++ wX2 cs (qS 0) qP P ++ wX7 cs (q 2) qS S ++ wX2 cs (q 3) qDr Dr ++ wX8 cs (q 4) qV V ++ wX0 cs (q 5) qH Hp ++ wX4 cs (q 6) qSm Sm ++ wX5 cs (q 7) qF1 F1 ++ wX5 cs (q 8) qF2 F2 ++ wX1 cs (q 9) qPt Pt) ++ (wX10 cs am qM M)).Perm (wFull cs a q qT qP qS qDr qV qH qSm qF1 qF2 qPt T R P S Dr V Hp Sm F1 F2 Pt ++ wX10 cs am qM M) := List.perm_append_comm.trans (pw (bs := [wX9 cs a q, wX6 cs (q 0) qT T, wX3 cs (q 1) (fun _ => q 0) R, wX2 cs (qS 0) qP P, wX7 cs (q 2) qS S, wX2 cs (q 3) qDr Dr, wX8 cs (q 4) qV V, wX0 cs (q 5) qH Hp, wX4 cs (q 6) qSm Sm, wX5 cs (q 7) qF1 F1, wX5 cs (q 8) qF2 F2, wX1 cs (q 9) qPt Pt, wX10 cs am qM M]) [12] [0, 1, 2, 3, 4, 5, 6, 7, 8, 9, 10, 11] (show (_ ++ _ : List Nat).Perm (List.range 13) by decide)).symm
  refine x_cutP (pc := 861) X hw hC hJ (va_runV (As := [.int y1]) (rest := [.int r]) ⟨hx, hb, hml, hown, hts⟩ (c_X10_byMeans l D cs am qM M y1 r hf10 _) (cwV 1 hts gL_law_X10_byMeans rfl rfl rfl (by decide +kernel) ⟨Nat.le_of_ble_eq_true rfl, Nat.le_of_ble_eq_true rfl⟩) ⟨CP_blind, va_recv hK (hw.perm hC).1 (ci := 10) (q0 := 0) rfl rfl, x_preP X hw hC [.ref am, .int y1]⟩ rfl rfl hl.1 rfl (lv_room (Nat.le_of_ble_eq_true rfl)) dL_law_861 ⟨Nat.le_of_ble_eq_true rfl, Nat.le_of_ble_eq_true rfl⟩) (fun H locs hw => ?_)
  refine lv_icmp_eq (pc := 864) (tgt := 1415) hx hb dL_law_864 (by decide) (fun _ => ?_) (fun c0 => absurd rfl c0)
  exact K _ _ _ ⟨q, qT, qP, qS, qDr, qV, qH, qSm, qF1, qF2, qPt, qM, T, R, P, S, Dr, V, Hp, Sm, F1, F2, Pt, M, hw, hrel2⟩ hl

set_option maxHeartbeats 4000000 in
set_option maxRecDepth 100000 in
theorem lc_best {p : Program} {l : Launch} {e : Env} {s : State} {m : MethodId} {args : Array Value} {below : List Frame} {meth : Method} {c : Code} {D : va_G} {cs : CS} {A : Nat → Prop} {Q : State → Prop} {ad ar : Nat → Nat} {b L : Nat} {xs : Nat → Int32} {a am : Nat} {Rel : RelT} (X : FX D (TY cs) p s m args meth c cL_law 4 wsL_law RL A (some .boolean)) (hE : SE ad ar A s s.heap) (hXs : va_X b L xs s s.heap) (hbl : b < s.heap.size) (hbA : ¬ A b) {H : Heap} {locs : List Loc} {ls : Array Slot} {i : Int32} (hLW : LW Rel D A s cs a am H locs) (hl : lv_has ls 4 [(0, .ref b), (1, .ref a), (2, .ref am), (3, .int i)]) (h1 : vp_in (i + 1) L) (h2 : vp_in (i + 2) L) (h3 : vp_in (i + 3) L) (h4 : vp_in (i + 4) L) (h5 : vp_in (i + 5) L) (hst : St_best Rel) (K : ∀ (H : Heap) (locs : List Loc) (ls : Array Slot), LW Rel D A s cs a am H locs → lv_has ls 4 [(0, .ref b), (1, .ref a), (2, .ref am), (3, .int i)] → W p l e room_1 s m args below meth c H locs 69 3778 Q (F0 m 1415 ls [])) : W p l e room_1 s m args below meth c H locs 69 3778 Q (F0 m 869 ls []) := by
  obtain ⟨hx, hb, hml, hown, hts, hK, hA, hr, hlk⟩ := id X
  obtain ⟨q, qT, qP, qS, qDr, qV, qH, qSm, qF1, qF2, qPt, qM, T, R, P, S, Dr, V, Hp, Sm, F1, F2, Pt, M, hw, hrel⟩ := hLW
  obtain ⟨y1, ey1⟩ : ∃ y : Int32, y = xs (i + 1).toNatClampNeg := ⟨_, rfl⟩
  obtain ⟨y2, ey2⟩ : ∃ y : Int32, y = xs (i + 2).toNatClampNeg := ⟨_, rfl⟩
  obtain ⟨y3, ey3⟩ : ∃ y : Int32, y = xs (i + 3).toNatClampNeg := ⟨_, rfl⟩
  obtain ⟨y4, ey4⟩ : ∃ y : Int32, y = xs (i + 4).toNatClampNeg := ⟨_, rfl⟩
  obtain ⟨y5, ey5⟩ : ∃ y : Int32, y = xs (i + 5).toNatClampNeg := ⟨_, rfl⟩
  refine lv_aload_n (pc := 869) hx hb dL_law_869 rfl (lv_at hl 1 rfl) ?_
  refine lv_aload_n (pc := 870) hx hb dL_law_870 rfl (lv_at hl 0 rfl) ?_
  refine lv_iload_n (pc := 871) hx hb dL_law_871 rfl (lv_at hl 3 rfl) ?_
  refine lv_iconst (pc := 872) (v := 1) hx hb dL_law_872 (by decide) ?_
  refine lv_iadd (pc := 873) hx hb dL_law_873 ?_
  refine va_sld (pc := 874) hx hb hXs hbl hbA hw.2.2 h1 dL_law_874 ?_
  refine x_topi ey1 ?_
  obtain ⟨r, hf9, hf10, hrel2⟩ := hst _ _ _ _ _ _ _ _ _ _ _ _ hrel y1
  have hC : (wFull cs a q qT qP qS qDr qV qH qSm qF1 qF2 qPt T R P S Dr V Hp Sm F1 F2 Pt ++ wX10 cs am qM M).Perm ((wX9 cs a q ++ wX8 cs (q 4) qV V) ++ (wX6 cs (q 0) qT T ++ wX3 cs (q 1) (fun _ => q 0) R ++ wX2 cs (qS 0) qP P ++ wX7 cs (q 2) qS S ++ wX2 cs (q 3) qDr Dr ++ wX0 cs (q 5) qH Hp ++ wX4 cs (q 6) qSm Sm ++ wX5 cs (q 7) qF1 F1 ++ wX5 cs (q 8) qF2 F2 ++ wX1 cs (q 9) qPt Pt ++ wX10 cs am qM M)) := pw (bs := [wX9 cs a q, wX6 cs (q 0) qT T, wX3 cs (q 1) (fun _ => q 0) R, wX2 cs (qS 0) qP P, wX7 cs (q 2) qS S, wX2 cs (q 3) qDr Dr, wX8 cs (q 4) qV V, wX0 cs (q 5) qH Hp, wX4 cs (q 6) qSm Sm, wX5 cs (q 7) qF1 F1, wX5 cs (q 8) qF2 F2, wX1 cs (q 9) qPt Pt, wX10 cs am qM M]) [0, 6] [1, 2, 3, 4, 5, 7, 8, 9, 10, 11, 12] (show (_ ++ _ : List Nat).Perm (List.range 13) by decide)
  have hJ : ((wX6 cs (q 0) qT T ++ wX3 cs (q 1) (fun _ => q 0) R ++ wX2 cs (qS 0) qP P ++ wX7 cs (q 2) qS S ++ wX2 cs (q 3) qDr Dr ++ wX0 cs (q 5) qH Hp ++ wX4 cs (q 6) qSm Sm ++ wX5 cs (q 7) qF1 F1 ++ wX5 cs (q 8) qF2 F2 ++ wX1 cs (q 9) qPt Pt ++ wX10 cs am qM M) ++ (wX9 cs a q ++ wX8 cs (q 4) qV V)).Perm (wFull cs a q qT qP qS qDr qV qH qSm qF1 qF2 qPt T R P S Dr V Hp Sm F1 F2 Pt ++ wX10 cs am qM M) := List.perm_append_comm.trans (pw (bs := [wX9 cs a q, wX6 cs (q 0) qT T, wX3 cs (q 1) (fun _ => q 0) R, wX2 cs (qS 0) qP P, wX7 cs (q 2) qS S, wX2 cs (q 3) qDr Dr, wX8 cs (q 4) qV V, wX0 cs (q 5) qH Hp, wX4 cs (q 6) qSm Sm, wX5 cs (q 7) qF1 F1, wX5 cs (q 8) qF2 F2, wX1 cs (q 9) qPt Pt, wX10 cs am qM M]) [0, 6] [1, 2, 3, 4, 5, 7, 8, 9, 10, 11, 12] (show (_ ++ _ : List Nat).Perm (List.range 13) by decide)).symm
  refine x_cutP (pc := 875) X hw hC hJ (va_runV (As := [.int y1]) (rest := []) ⟨hx, hb, hml, hown, hts⟩ (c_X9_best l D cs a q qV V y1 r hf9 _) (cwV 1 hts gL_law_X9_best rfl rfl rfl (by decide +kernel) ⟨Nat.le_of_ble_eq_true rfl, Nat.le_of_ble_eq_true rfl⟩) ⟨CP_blind, va_recv hK (hw.perm hC).1 (ci := 9) (q0 := 0) rfl rfl, x_preP X hw hC [.ref a, .int y1]⟩ rfl rfl hl.1 rfl (lv_room (Nat.le_of_ble_eq_true rfl)) dL_law_875 ⟨Nat.le_of_ble_eq_true rfl, Nat.le_of_ble_eq_true rfl⟩) (fun H locs hw => ?_)
  refine lv_aload_n (pc := 878) hx hb dL_law_878 rfl (lv_at hl 2 rfl) ?_
  refine lv_aload_n (pc := 879) hx hb dL_law_879 rfl (lv_at hl 0 rfl) ?_
  refine lv_iload_n (pc := 880) hx hb dL_law_880 rfl (lv_at hl 3 rfl) ?_
  refine lv_iconst (pc := 881) (v := 1) hx hb dL_law_881 (by decide) ?_
  refine lv_iadd (pc := 882) hx hb dL_law_882 ?_
  refine va_sld (pc := 883) hx hb hXs hbl hbA hw.2.2 h1 dL_law_883 ?_
  refine x_topi ey1 ?_
  have hC : (wFull cs a q qT qP qS qDr qV qH qSm qF1 qF2 qPt T R P S Dr V Hp Sm F1 F2 Pt ++ wX10 cs am qM M).Perm ((wX10 cs am qM M) ++ (wX9 cs a q ++ wX6 cs (q 0) qT T ++ wX3 cs (q 1) (fun _ => q 0) R ++ wX2 cs (qS 0) qP P ++ wX7 cs (q 2) qS S ++ wX2 cs (q 3) qDr Dr ++ wX8 cs (q 4) qV V ++ wX0 cs (q 5) qH Hp ++ wX4 cs (q 6) qSm Sm ++ wX5 cs (q 7) qF1 F1 ++ wX5 cs (q 8) qF2 F2 ++ wX1 cs (q 9) qPt Pt)) := pw (bs := [wX9 cs a q, wX6 cs (q 0) qT T, wX3 cs (q 1) (fun _ => q 0) R, wX2 cs (qS 0) qP P, wX7 cs (q 2) qS S, wX2 cs (q 3) qDr Dr, wX8 cs (q 4) qV V, wX0 cs (q 5) qH Hp, wX4 cs (q 6) qSm Sm, wX5 cs (q 7) qF1 F1, wX5 cs (q 8) qF2 F2, wX1 cs (q 9) qPt Pt, wX10 cs am qM M]) [12] [0, 1, 2, 3, 4, 5, 6, 7, 8, 9, 10, 11] (show (_ ++ _ : List Nat).Perm (List.range 13) by decide)
  have hJ : ((wX9 cs a q ++ wX6 cs (q 0) qT T ++ wX3 cs (q 1) (fun _ => q 0) R ++ wX2 cs (qS 0) qP P ++ wX7 cs (q 2) qS S ++ wX2 cs (q 3) qDr Dr ++ wX8 cs (q 4) qV V ++ wX0 cs (q 5) qH Hp ++ wX4 cs (q 6) qSm Sm ++ wX5 cs (q 7) qF1 F1 ++ wX5 cs (q 8) qF2 F2 ++ wX1 cs (q 9) qPt Pt) ++ (wX10 cs am qM M)).Perm (wFull cs a q qT qP qS qDr qV qH qSm qF1 qF2 qPt T R P S Dr V Hp Sm F1 F2 Pt ++ wX10 cs am qM M) := List.perm_append_comm.trans (pw (bs := [wX9 cs a q, wX6 cs (q 0) qT T, wX3 cs (q 1) (fun _ => q 0) R, wX2 cs (qS 0) qP P, wX7 cs (q 2) qS S, wX2 cs (q 3) qDr Dr, wX8 cs (q 4) qV V, wX0 cs (q 5) qH Hp, wX4 cs (q 6) qSm Sm, wX5 cs (q 7) qF1 F1, wX5 cs (q 8) qF2 F2, wX1 cs (q 9) qPt Pt, wX10 cs am qM M]) [12] [0, 1, 2, 3, 4, 5, 6, 7, 8, 9, 10, 11] (show (_ ++ _ : List Nat).Perm (List.range 13) by decide)).symm
  refine x_cutP (pc := 884) X hw hC hJ (va_runV (As := [.int y1]) (rest := [.int r]) ⟨hx, hb, hml, hown, hts⟩ (c_X10_best l D cs am qM M y1 r hf10 _) (cwV 1 hts gL_law_X10_best rfl rfl rfl (by decide +kernel) ⟨Nat.le_of_ble_eq_true rfl, Nat.le_of_ble_eq_true rfl⟩) ⟨CP_blind, va_recv hK (hw.perm hC).1 (ci := 10) (q0 := 0) rfl rfl, x_preP X hw hC [.ref am, .int y1]⟩ rfl rfl hl.1 rfl (lv_room (Nat.le_of_ble_eq_true rfl)) dL_law_884 ⟨Nat.le_of_ble_eq_true rfl, Nat.le_of_ble_eq_true rfl⟩) (fun H locs hw => ?_)
  refine lv_icmp_eq (pc := 887) (tgt := 1415) hx hb dL_law_887 (by decide) (fun _ => ?_) (fun c0 => absurd rfl c0)
  exact K _ _ _ ⟨q, qT, qP, qS, qDr, qV, qH, qSm, qF1, qF2, qPt, qM, T, R, P, S, Dr, V, Hp, Sm, F1, F2, Pt, M, hw, hrel2⟩ hl
