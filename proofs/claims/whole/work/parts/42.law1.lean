abbrev RelT : Type := PS → PS → PS → PS → PS → PS → PS → PS → PS → PS → PS → PS → Prop
def St_write (Rel : RelT) : Prop := ∀ T R P S Dr V Hp Sm F1 F2 Pt M : PS, Rel T R P S Dr V Hp Sm F1 F2 Pt M → ∀ (p1 : Int64) (p2 : Int32), ∃ (r : Int32) (T' : PS) (M' : PS), f_X9_write T p1 p2 = some (r, T') ∧ f_X10_write M p1 p2 = some (r, M') ∧ Rel T' R P S Dr V Hp Sm F1 F2 Pt M'
def St_erase (Rel : RelT) : Prop := ∀ T R P S Dr V Hp Sm F1 F2 Pt M : PS, Rel T R P S Dr V Hp Sm F1 F2 Pt M → ∃ (r : Int32) (T' : PS) (M' : PS), f_X9_erase T = some (r, T') ∧ f_X10_erase M = some (r, M') ∧ Rel T' R P S Dr V Hp Sm F1 F2 Pt M'
def St_fault (Rel : RelT) : Prop := ∀ T R P S Dr V Hp Sm F1 F2 Pt M : PS, Rel T R P S Dr V Hp Sm F1 F2 Pt M → ∃ (r : Int32) (R' : PS) (Dr' : PS) (M' : PS), f_X9_fault R T Dr = some (r, R', Dr') ∧ f_X10_fault M = some (r, M') ∧ Rel T R' P S Dr' V Hp Sm F1 F2 Pt M'
def St_draw (Rel : RelT) : Prop := ∀ T R P S Dr V Hp Sm F1 F2 Pt M : PS, Rel T R P S Dr V Hp Sm F1 F2 Pt M → ∀ (p1 : Int32), ∃ (r : Int32), f_X9_draw S P p1 = some r ∧ f_X10_draw M p1 = some r ∧ Rel T R P S Dr V Hp Sm F1 F2 Pt M
def St_inputs (Rel : RelT) : Prop := ∀ T R P S Dr V Hp Sm F1 F2 Pt M : PS, Rel T R P S Dr V Hp Sm F1 F2 Pt M → ∀ (p1 : Int32) (p2 : Int32), ∃ (r : Int32) (S' : PS) (M' : PS), f_X9_inputs S p1 p2 = some (r, S') ∧ f_X10_inputs M p1 p2 = some (r, M') ∧ Rel T R P S' Dr V Hp Sm F1 F2 Pt M'
def St_run (Rel : RelT) : Prop := ∀ T R P S Dr V Hp Sm F1 F2 Pt M : PS, Rel T R P S Dr V Hp Sm F1 F2 Pt M → ∀ (p1 : Int32) (p2 : Int32), ∃ (r : Int32) (P' : PS) (M' : PS), f_X9_run S P p1 p2 = some (r, P') ∧ f_X10_run M p1 p2 = some (r, M') ∧ Rel T R P' S Dr V Hp Sm F1 F2 Pt M'
def St_right (Rel : RelT) : Prop := ∀ T R P S Dr V Hp Sm F1 F2 Pt M : PS, Rel T R P S Dr V Hp Sm F1 F2 Pt M → ∀ (p1 : Int32) (p2 : Int32), ∃ (r : Int32) (P' : PS) (M' : PS), f_X9_right S P p1 p2 = some (r, P') ∧ f_X10_right M p1 p2 = some (r, M') ∧ Rel T R P' S Dr V Hp Sm F1 F2 Pt M'
def St_odds (Rel : RelT) : Prop := ∀ T R P S Dr V Hp Sm F1 F2 Pt M : PS, Rel T R P S Dr V Hp Sm F1 F2 Pt M → ∀ (p1 : Int32) (p2 : Int32), ∃ (r : Int32) (S' : PS) (P' : PS) (M' : PS), f_X9_odds S P p1 p2 = some (r, S', P') ∧ f_X10_odds M p1 p2 = some (r, M') ∧ Rel T R P' S' Dr V Hp Sm F1 F2 Pt M'
def St_worst (Rel : RelT) : Prop := ∀ T R P S Dr V Hp Sm F1 F2 Pt M : PS, Rel T R P S Dr V Hp Sm F1 F2 Pt M → ∀ (p1 : Int32), ∃ (r : Int32) (S' : PS) (P' : PS) (M' : PS), f_X9_worst S P p1 = some (r, S', P') ∧ f_X10_worst M p1 = some (r, M') ∧ Rel T R P' S' Dr V Hp Sm F1 F2 Pt M'
def St_mean (Rel : RelT) : Prop := ∀ T R P S Dr V Hp Sm F1 F2 Pt M : PS, Rel T R P S Dr V Hp Sm F1 F2 Pt M → ∀ (p1 : Int32), ∃ (r : Int32) (S' : PS) (P' : PS) (M' : PS), f_X9_mean S P p1 = some (r, S', P') ∧ f_X10_mean M p1 = some (r, M') ∧ Rel T R P' S' Dr V Hp Sm F1 F2 Pt M'
def St_seen (Rel : RelT) : Prop := ∀ T R P S Dr V Hp Sm F1 F2 Pt M : PS, Rel T R P S Dr V Hp Sm F1 F2 Pt M → ∀ (p1 : Int32) (p2 : Int32), ∃ (r : Int32) (S' : PS) (P' : PS) (M' : PS), f_X9_seen S P p1 p2 = some (r, S', P') ∧ f_X10_seen M p1 p2 = some (r, M') ∧ Rel T R P' S' Dr V Hp Sm F1 F2 Pt M'
def St_kept (Rel : RelT) : Prop := ∀ T R P S Dr V Hp Sm F1 F2 Pt M : PS, Rel T R P S Dr V Hp Sm F1 F2 Pt M → ∀ (p1 : Int32), ∃ (r : Int32) (S' : PS) (P' : PS) (M' : PS), f_X9_kept S P p1 = some (r, S', P') ∧ f_X10_kept M p1 = some (r, M') ∧ Rel T R P' S' Dr V Hp Sm F1 F2 Pt M'
def St_good (Rel : RelT) : Prop := ∀ T R P S Dr V Hp Sm F1 F2 Pt M : PS, Rel T R P S Dr V Hp Sm F1 F2 Pt M → ∀ (p1 : Int32), ∃ (r : Int32) (S' : PS) (P' : PS) (M' : PS), f_X9_good S P p1 = some (r, S', P') ∧ f_X10_good M p1 = some (r, M') ∧ Rel T R P' S' Dr V Hp Sm F1 F2 Pt M'
def St_together (Rel : RelT) : Prop := ∀ T R P S Dr V Hp Sm F1 F2 Pt M : PS, Rel T R P S Dr V Hp Sm F1 F2 Pt M → ∀ (p1 : Int32), ∃ (r : Int32) (S' : PS) (P' : PS) (M' : PS), f_X9_together S P p1 = some (r, S', P') ∧ f_X10_together M p1 = some (r, M') ∧ Rel T R P' S' Dr V Hp Sm F1 F2 Pt M'
def St_again (Rel : RelT) : Prop := ∀ T R P S Dr V Hp Sm F1 F2 Pt M : PS, Rel T R P S Dr V Hp Sm F1 F2 Pt M → ∀ (p1 : Int32) (p2 : Int32), ∃ (r : Int32) (S' : PS) (P' : PS) (M' : PS), f_X9_again S P p1 p2 = some (r, S', P') ∧ f_X10_again M p1 p2 = some (r, M') ∧ Rel T R P' S' Dr V Hp Sm F1 F2 Pt M'
def St_cap (Rel : RelT) : Prop := ∀ T R P S Dr V Hp Sm F1 F2 Pt M : PS, Rel T R P S Dr V Hp Sm F1 F2 Pt M → ∀ (p1 : Int32) (p2 : Int32), ∃ (r : Int32) (S' : PS) (P' : PS) (M' : PS), f_X9_cap S P p1 p2 = some (r, S', P') ∧ f_X10_cap M p1 p2 = some (r, M') ∧ Rel T R P' S' Dr V Hp Sm F1 F2 Pt M'
def St_knots (Rel : RelT) : Prop := ∀ T R P S Dr V Hp Sm F1 F2 Pt M : PS, Rel T R P S Dr V Hp Sm F1 F2 Pt M → ∀ (p1 : Int32), ∃ (r : Int32) (V' : PS) (Hp' : PS) (M' : PS), f_X9_knots V Hp p1 = some (r, V', Hp') ∧ f_X10_knots M p1 = some (r, M') ∧ Rel T R P S Dr V' Hp' Sm F1 F2 Pt M'
def St_edge (Rel : RelT) : Prop := ∀ T R P S Dr V Hp Sm F1 F2 Pt M : PS, Rel T R P S Dr V Hp Sm F1 F2 Pt M → ∀ (p1 : Int32) (p2 : Int32) (p3 : Int32), ∃ (r : Int32) (V' : PS) (M' : PS), f_X9_edge V p1 p2 p3 = some (r, V') ∧ f_X10_edge M p1 p2 p3 = some (r, M') ∧ Rel T R P S Dr V' Hp Sm F1 F2 Pt M'
def St_cord (Rel : RelT) : Prop := ∀ T R P S Dr V Hp Sm F1 F2 Pt M : PS, Rel T R P S Dr V Hp Sm F1 F2 Pt M → ∀ (p1 : Int32), ∃ (r : Int32) (V' : PS) (M' : PS), f_X9_cord V p1 = some (r, V') ∧ f_X10_cord M p1 = some (r, M') ∧ Rel T R P S Dr V' Hp Sm F1 F2 Pt M'
def St_measure (Rel : RelT) : Prop := ∀ T R P S Dr V Hp Sm F1 F2 Pt M : PS, Rel T R P S Dr V Hp Sm F1 F2 Pt M → ∀ (p1 : Int32) (p2 : Int32), ∃ (r : Int32), f_X9_measure V p1 p2 = some r ∧ f_X10_measure M p1 p2 = some r ∧ Rel T R P S Dr V Hp Sm F1 F2 Pt M
def St_expect (Rel : RelT) : Prop := ∀ T R P S Dr V Hp Sm F1 F2 Pt M : PS, Rel T R P S Dr V Hp Sm F1 F2 Pt M → ∀ (p1 : Int32) (p2 : Int32) (p3 : Int32) (p4 : Int32), ∃ (r : Int32), f_X9_expect V p1 p2 p3 p4 = some r ∧ f_X10_expect M p1 p2 p3 p4 = some r ∧ Rel T R P S Dr V Hp Sm F1 F2 Pt M
def St_byMeans (Rel : RelT) : Prop := ∀ T R P S Dr V Hp Sm F1 F2 Pt M : PS, Rel T R P S Dr V Hp Sm F1 F2 Pt M → ∀ (p1 : Int32), ∃ (r : Int32), f_X9_byMeans V p1 = some r ∧ f_X10_byMeans M p1 = some r ∧ Rel T R P S Dr V Hp Sm F1 F2 Pt M
def St_best (Rel : RelT) : Prop := ∀ T R P S Dr V Hp Sm F1 F2 Pt M : PS, Rel T R P S Dr V Hp Sm F1 F2 Pt M → ∀ (p1 : Int32), ∃ (r : Int32), f_X9_best V p1 = some r ∧ f_X10_best M p1 = some r ∧ Rel T R P S Dr V Hp Sm F1 F2 Pt M
def St_heap (Rel : RelT) : Prop := ∀ T R P S Dr V Hp Sm F1 F2 Pt M : PS, Rel T R P S Dr V Hp Sm F1 F2 Pt M → ∀ (p1 : Int32), ∃ (r : Int32) (Hp' : PS) (M' : PS), f_X9_heap V Hp p1 = some (r, Hp') ∧ f_X10_heap M p1 = some (r, M') ∧ Rel T R P S Dr V Hp' Sm F1 F2 Pt M'
def St_made (Rel : RelT) : Prop := ∀ T R P S Dr V Hp Sm F1 F2 Pt M : PS, Rel T R P S Dr V Hp Sm F1 F2 Pt M → ∀ (p1 : Int32), ∃ (r : Int32) (Hp' : PS) (M' : PS), f_X9_made V Hp p1 = some (r, Hp') ∧ f_X10_made M p1 = some (r, M') ∧ Rel T R P S Dr V Hp' Sm F1 F2 Pt M'
def St_of (Rel : RelT) : Prop := ∀ T R P S Dr V Hp Sm F1 F2 Pt M : PS, Rel T R P S Dr V Hp Sm F1 F2 Pt M → ∀ (p1 : Int32), ∃ (r : Int32), f_X9_of V Hp p1 = some r ∧ f_X10_of M p1 = some r ∧ Rel T R P S Dr V Hp Sm F1 F2 Pt M
def St_even (Rel : RelT) : Prop := ∀ T R P S Dr V Hp Sm F1 F2 Pt M : PS, Rel T R P S Dr V Hp Sm F1 F2 Pt M → ∀ (p1 : Int32), ∃ (r : Int32), f_X9_even V Hp p1 = some r ∧ f_X10_even M p1 = some r ∧ Rel T R P S Dr V Hp Sm F1 F2 Pt M
def St_error (Rel : RelT) : Prop := ∀ T R P S Dr V Hp Sm F1 F2 Pt M : PS, Rel T R P S Dr V Hp Sm F1 F2 Pt M → ∀ (p1 : Int32) (p2 : Int32), ∃ (r : Int32), f_X9_error V Hp p1 p2 = some r ∧ f_X10_error M p1 p2 = some r ∧ Rel T R P S Dr V Hp Sm F1 F2 Pt M
def St_least (Rel : RelT) : Prop := ∀ T R P S Dr V Hp Sm F1 F2 Pt M : PS, Rel T R P S Dr V Hp Sm F1 F2 Pt M → ∀ (p1 : Int32) (p2 : Int32) (p3 : Int32) (p4 : Int32), ∃ (r : Int32), f_X9_least Sm p1 p2 p3 p4 = some r ∧ f_X10_least M p1 p2 p3 p4 = some r ∧ Rel T R P S Dr V Hp Sm F1 F2 Pt M
def St_walks (Rel : RelT) : Prop := ∀ T R P S Dr V Hp Sm F1 F2 Pt M : PS, Rel T R P S Dr V Hp Sm F1 F2 Pt M → ∀ (p1 : Int32) (p2 : Int32) (qV : Nat → Nat), ∃ (r : Int32) (V' : PS) (qV' : Nat → Nat) (M' : PS), f_X9_walks V qV p1 p2 = some (r, V', qV') ∧ f_X10_walks M p1 p2 = some (r, M') ∧ Rel T R P S Dr V' Hp Sm F1 F2 Pt M'
def St_term (Rel : RelT) : Prop := ∀ T R P S Dr V Hp Sm F1 F2 Pt M : PS, Rel T R P S Dr V Hp Sm F1 F2 Pt M → ∀ (p1 : Int32) (p2 : Int32) (p3 : Int32) (p4 : Int32) (p5 : Int32), ∃ (r : Int32) (F1' : PS) (F2' : PS) (M' : PS), f_X9_term F1 F2 p1 p2 p3 p4 p5 = some (r, F1', F2') ∧ f_X10_term M p1 p2 p3 p4 p5 = some (r, M') ∧ Rel T R P S Dr V Hp Sm F1' F2' Pt M'
def St_value (Rel : RelT) : Prop := ∀ T R P S Dr V Hp Sm F1 F2 Pt M : PS, Rel T R P S Dr V Hp Sm F1 F2 Pt M → ∀ (p1 : Int32) (p2 : Int32) (p3 : Int32) (p4 : Int32), ∃ (r : Int64) (Pt' : PS), f_X9_value F1 F2 Pt p1 p2 p3 p4 = some (r, Pt') ∧ f_X10_value M p1 p2 p3 p4 = some r ∧ Rel T R P S Dr V Hp Sm F1 F2 Pt' M
def St_degree (Rel : RelT) : Prop := ∀ T R P S Dr V Hp Sm F1 F2 Pt M : PS, Rel T R P S Dr V Hp Sm F1 F2 Pt M → ∀ (p1 : Int32), ∃ (r : Int32), f_X9_degree F1 F2 p1 = some r ∧ f_X10_degree M p1 = some r ∧ Rel T R P S Dr V Hp Sm F1 F2 Pt M
def St_same (Rel : RelT) : Prop := ∀ T R P S Dr V Hp Sm F1 F2 Pt M : PS, Rel T R P S Dr V Hp Sm F1 F2 Pt M → ∀ (p1 : Int32) (p2 : Int32), ∃ (r : Int32) (Pt' : PS), f_X9_same F1 F2 Pt p1 p2 = some (r, Pt') ∧ f_X10_same M p1 p2 = some r ∧ Rel T R P S Dr V Hp Sm F1 F2 Pt' M
def St_pressed (Rel : RelT) : Prop := ∀ T R P S Dr V Hp Sm F1 F2 Pt M : PS, Rel T R P S Dr V Hp Sm F1 F2 Pt M → ∀ (p1 : Int64) (p2 : Int32) (p3 : Int32), ∃ (r : Int32), f_X9_pressed p1 p2 p3 = some r ∧ f_X10_pressed M p1 p2 p3 = some r ∧ Rel T R P S Dr V Hp Sm F1 F2 Pt M
def St_mixed (Rel : RelT) : Prop := ∀ T R P S Dr V Hp Sm F1 F2 Pt M : PS, Rel T R P S Dr V Hp Sm F1 F2 Pt M → ∀ (p1 : Int32) (p2 : Int32) (p3 : Int32), ∃ (r : Int32), f_X9_mixed Sm p1 p2 p3 = some r ∧ f_X10_mixed M p1 p2 p3 = some r ∧ Rel T R P S Dr V Hp Sm F1 F2 Pt M
def St_count (Rel : RelT) : Prop := ∀ T R P S Dr V Hp Sm F1 F2 Pt M : PS, Rel T R P S Dr V Hp Sm F1 F2 Pt M → ∀ (p1 : Int32), ∃ (r : Int32), f_X9_count T S P V Hp p1 = some r ∧ f_X10_count M p1 = some r ∧ Rel T R P S Dr V Hp Sm F1 F2 Pt M
def St_program (Rel : RelT) : Prop := ∀ T R P S Dr V Hp Sm F1 F2 Pt M : PS, Rel T R P S Dr V Hp Sm F1 F2 Pt M → ∃ (v : Int32) (R' Dr' : PS), f_X3_readInto R T Dr = some (v, R', Dr') ∧ ((v = -1 ∧ ∃ M' : PS, f_X10_program M = some (Dr'.1 5, M') ∧ Rel (sI T 1 0) R' Dr' (sI S 3 1) P V Hp Sm F1 F2 Pt M') ∨ (¬ v = -1 ∧ ∃ M' : PS, f_X10_program M = some (-4, M') ∧ Rel T R' P S Dr' V Hp Sm F1 F2 Pt M'))
def LW (Rel : RelT) (D : va_G) (A : Nat → Prop) (s : State) (cs : CS) (a am : Nat) (H : Heap) (locs : List Loc) : Prop := ∃ (q qT qP qS qDr qV qH qSm qF1 qF2 qPt qM : Nat → Nat) (T R P S Dr V Hp Sm F1 F2 Pt M : PS), WD D A s (wFull cs a q qT qP qS qDr qV qH qSm qF1 qF2 qPt T R P S Dr V Hp Sm F1 F2 Pt ++ wX10 cs am qM M) H locs ∧ Rel T R P S Dr V Hp Sm F1 F2 Pt M

set_option maxHeartbeats 4000000 in
set_option maxRecDepth 100000 in
theorem lc_write {p : Program} {l : Launch} {e : Env} {s : State} {m : MethodId} {args : Array Value} {below : List Frame} {meth : Method} {c : Code} {D : va_G} {cs : CS} {A : Nat → Prop} {Q : State → Prop} {ad ar : Nat → Nat} {b L : Nat} {xs : Nat → Int32} {a am : Nat} {Rel : RelT} (X : FX D (TY cs) p s m args meth c cL_law 4 wsL_law RL A (some .boolean)) (hE : SE ad ar A s s.heap) (hXs : va_X b L xs s s.heap) (hbl : b < s.heap.size) (hbA : ¬ A b) {H : Heap} {locs : List Loc} {ls : Array Slot} {i : Int32} (hLW : LW Rel D A s cs a am H locs) (hl : lv_has ls 4 [(0, .ref b), (1, .ref a), (2, .ref am), (3, .int i)]) (h1 : vp_in (i + 1) L) (h2 : vp_in (i + 2) L) (h3 : vp_in (i + 3) L) (h4 : vp_in (i + 4) L) (h5 : vp_in (i + 5) L) (hst : St_write Rel) (K : ∀ (H : Heap) (locs : List Loc) (ls : Array Slot), LW Rel D A s cs a am H locs → lv_has ls 4 [(0, .ref b), (1, .ref a), (2, .ref am), (3, .int i)] → W p l e room_1 s m args below meth c H locs 69 3778 Q (F0 m 1415 ls [])) : W p l e room_1 s m args below meth c H locs 69 3778 Q (F0 m 200 ls []) := by
  obtain ⟨hx, hb, hml, hown, hts, hK, hA, hr, hlk⟩ := id X
  obtain ⟨q, qT, qP, qS, qDr, qV, qH, qSm, qF1, qF2, qPt, qM, T, R, P, S, Dr, V, Hp, Sm, F1, F2, Pt, M, hw, hrel⟩ := hLW
  obtain ⟨y1, ey1⟩ : ∃ y : Int32, y = xs (i + 1).toNatClampNeg := ⟨_, rfl⟩
  obtain ⟨y2, ey2⟩ : ∃ y : Int32, y = xs (i + 2).toNatClampNeg := ⟨_, rfl⟩
  obtain ⟨y3, ey3⟩ : ∃ y : Int32, y = xs (i + 3).toNatClampNeg := ⟨_, rfl⟩
  obtain ⟨y4, ey4⟩ : ∃ y : Int32, y = xs (i + 4).toNatClampNeg := ⟨_, rfl⟩
  obtain ⟨y5, ey5⟩ : ∃ y : Int32, y = xs (i + 5).toNatClampNeg := ⟨_, rfl⟩
  refine lv_aload_n (pc := 200) hx hb dL_law_200 rfl (lv_at hl 1 rfl) ?_
  refine lv_aload_n (pc := 201) hx hb dL_law_201 rfl (lv_at hl 0 rfl) ?_
  refine lv_iload_n (pc := 202) hx hb dL_law_202 rfl (lv_at hl 3 rfl) ?_
  refine lv_iconst (pc := 203) (v := 1) hx hb dL_law_203 (by decide) ?_
  refine lv_iadd (pc := 204) hx hb dL_law_204 ?_
  refine va_sld (pc := 205) hx hb hXs hbl hbA hw.2.2 h1 dL_law_205 ?_
  refine x_topi ey1 ?_
  refine lv_i2l (pc := 206) hx hb dL_law_206 rfl ?_
  refine lv_bipush (pc := 207) (v := 32) hx hb dL_law_207 (by decide) ?_
  refine lv_lshl (pc := 209) hx hb dL_law_209 rfl ?_
  refine lv_aload_n (pc := 210) hx hb dL_law_210 rfl (lv_at hl 0 rfl) ?_
  refine lv_iload_n (pc := 211) hx hb dL_law_211 rfl (lv_at hl 3 rfl) ?_
  refine lv_iconst (pc := 212) (v := 2) hx hb dL_law_212 (by decide) ?_
  refine lv_iadd (pc := 213) hx hb dL_law_213 ?_
  refine va_sld (pc := 214) hx hb hXs hbl hbA hw.2.2 h2 dL_law_214 ?_
  refine x_topi ey2 ?_
  refine lv_i2l (pc := 215) hx hb dL_law_215 rfl ?_
  refine lv_ldc2 (pc := 216) (v := (4294967295)) hx hb hown (hts _ (List.mem_of_getElem? (i := 6) rfl)) dL_law_216 ?_
  refine lv_land (pc := 219) hx hb dL_law_219 ?_
  refine lv_lor (pc := 220) hx hb dL_law_220 ?_
  refine lv_aload_n (pc := 221) hx hb dL_law_221 rfl (lv_at hl 0 rfl) ?_
  refine lv_iload_n (pc := 222) hx hb dL_law_222 rfl (lv_at hl 3 rfl) ?_
  refine lv_iconst (pc := 223) (v := 3) hx hb dL_law_223 (by decide) ?_
  refine lv_iadd (pc := 224) hx hb dL_law_224 ?_
  refine va_sld (pc := 225) hx hb hXs hbl hbA hw.2.2 h3 dL_law_225 ?_
  refine x_topi ey3 ?_
  obtain ⟨r, T', M', hf9, hf10, hrel2⟩ := hst _ _ _ _ _ _ _ _ _ _ _ _ hrel (((y1.toInt64) <<< ((32 : Int32).toInt64 &&& 63)) ||| ((y2.toInt64) &&& (4294967295))) y3
  refine x_cut (pc := 226) (wr := ([3, 4, 5, 6, 7, 8, 9, 10, 11, 12, 13, 14, 15, 16, 17, 18, 19, 20, 21, 22, 23, 24, 25, 26, 27, 28, 29, 30, 31, 32, 33, 34, 35, 36, 37, 38, 39, 40, 41, 42, 43, 44, 45, 46, 47, 48, 49, 50, 51, 52, 53, 54, 55, 56, 57, 58, 59, 60, 61, 62, 63, 64, 65, 66, 67, 68].filterMap (fun i => (wFull cs a q qT qP qS qDr qV qH qSm qF1 qF2 qPt T R P S Dr V Hp Sm F1 F2 Pt ++ wX10 cs am qM M)[i]?))) (ws2 := wFull cs a q qT qP qS qDr qV qH qSm qF1 qF2 qPt T' R P S Dr V Hp Sm F1 F2 Pt ++ wX10 cs am qM M) X hw [0, 1, 2] [3, 4, 5, 6, 7, 8, 9, 10, 11, 12, 13, 14, 15, 16, 17, 18, 19, 20, 21, 22, 23, 24, 25, 26, 27, 28, 29, 30, 31, 32, 33, 34, 35, 36, 37, 38, 39, 40, 41, 42, 43, 44, 45, 46, 47, 48, 49, 50, 51, 52, 53, 54, 55, 56, 57, 58, 59, 60, 61, 62, 63, 64, 65, 66, 67, 68] [66, 67, 68, 0, 1, 2, 3, 4, 5, 6, 7, 8, 9, 10, 11, 12, 13, 14, 15, 16, 17, 18, 19, 20, 21, 22, 23, 24, 25, 26, 27, 28, 29, 30, 31, 32, 33, 34, 35, 36, 37, 38, 39, 40, 41, 42, 43, 44, 45, 46, 47, 48, 49, 50, 51, 52, 53, 54, 55, 56, 57, 58, 59, 60, 61, 62, 63, 64, 65] rfl rfl (by decide) (by decide) rfl (by decide) (va_runV (As := [.long (((y1.toInt64) <<< ((32 : Int32).toInt64 &&& 63)) ||| ((y2.toInt64) &&& (4294967295))), .int y3]) (rest := []) ⟨hx, hb, hml, hown, hts⟩ (c_X9_write l D cs a q qT T (((y1.toInt64) <<< ((32 : Int32).toInt64 &&& 63)) ||| ((y2.toInt64) &&& (4294967295))) y3 r T' hf9 _) (cwV 2 hts gL_law_X9_write rfl rfl rfl (by decide +kernel) ⟨Nat.le_of_ble_eq_true rfl, Nat.le_of_ble_eq_true rfl⟩) ⟨CP_blind, va_recv hK hw.1 (ci := 9) (q0 := 0) rfl rfl, x_preC X hw [0, 1, 2] rfl (by decide) [.ref a, .long (((y1.toInt64) <<< ((32 : Int32).toInt64 &&& 63)) ||| ((y2.toInt64) &&& (4294967295))), .int y3]⟩ rfl rfl hl.1 rfl (lv_room (Nat.le_of_ble_eq_true rfl)) dL_law_226 ⟨Nat.le_of_ble_eq_true rfl, Nat.le_of_ble_eq_true rfl⟩) (fun H locs hw => ?_)
  refine lv_aload_n (pc := 229) hx hb dL_law_229 rfl (lv_at hl 2 rfl) ?_
  refine lv_aload_n (pc := 230) hx hb dL_law_230 rfl (lv_at hl 0 rfl) ?_
  refine lv_iload_n (pc := 231) hx hb dL_law_231 rfl (lv_at hl 3 rfl) ?_
  refine lv_iconst (pc := 232) (v := 1) hx hb dL_law_232 (by decide) ?_
  refine lv_iadd (pc := 233) hx hb dL_law_233 ?_
  refine va_sld (pc := 234) hx hb hXs hbl hbA hw.2.2 h1 dL_law_234 ?_
  refine x_topi ey1 ?_
  refine lv_i2l (pc := 235) hx hb dL_law_235 rfl ?_
  refine lv_bipush (pc := 236) (v := 32) hx hb dL_law_236 (by decide) ?_
  refine lv_lshl (pc := 238) hx hb dL_law_238 rfl ?_
  refine lv_aload_n (pc := 239) hx hb dL_law_239 rfl (lv_at hl 0 rfl) ?_
  refine lv_iload_n (pc := 240) hx hb dL_law_240 rfl (lv_at hl 3 rfl) ?_
  refine lv_iconst (pc := 241) (v := 2) hx hb dL_law_241 (by decide) ?_
  refine lv_iadd (pc := 242) hx hb dL_law_242 ?_
  refine va_sld (pc := 243) hx hb hXs hbl hbA hw.2.2 h2 dL_law_243 ?_
  refine x_topi ey2 ?_
  refine lv_i2l (pc := 244) hx hb dL_law_244 rfl ?_
  refine lv_ldc2 (pc := 245) (v := (4294967295)) hx hb hown (hts _ (List.mem_of_getElem? (i := 6) rfl)) dL_law_245 ?_
  refine lv_land (pc := 248) hx hb dL_law_248 ?_
  refine lv_lor (pc := 249) hx hb dL_law_249 ?_
  refine lv_aload_n (pc := 250) hx hb dL_law_250 rfl (lv_at hl 0 rfl) ?_
  refine lv_iload_n (pc := 251) hx hb dL_law_251 rfl (lv_at hl 3 rfl) ?_
  refine lv_iconst (pc := 252) (v := 3) hx hb dL_law_252 (by decide) ?_
  refine lv_iadd (pc := 253) hx hb dL_law_253 ?_
  refine va_sld (pc := 254) hx hb hXs hbl hbA hw.2.2 h3 dL_law_254 ?_
  refine x_topi ey3 ?_
  refine x_cut (pc := 255) (wr := wFull cs a q qT qP qS qDr qV qH qSm qF1 qF2 qPt T' R P S Dr V Hp Sm F1 F2 Pt) (ws2 := wFull cs a q qT qP qS qDr qV qH qSm qF1 qF2 qPt T' R P S Dr V Hp Sm F1 F2 Pt ++ wX10 cs am qM M') X hw [45, 46, 47, 48, 49, 50, 51, 52, 53, 54, 55, 56, 57, 58, 59, 60, 61, 62, 63, 64, 65, 66, 67, 68] [0, 1, 2, 3, 4, 5, 6, 7, 8, 9, 10, 11, 12, 13, 14, 15, 16, 17, 18, 19, 20, 21, 22, 23, 24, 25, 26, 27, 28, 29, 30, 31, 32, 33, 34, 35, 36, 37, 38, 39, 40, 41, 42, 43, 44] [0, 1, 2, 3, 4, 5, 6, 7, 8, 9, 10, 11, 12, 13, 14, 15, 16, 17, 18, 19, 20, 21, 22, 23, 24, 25, 26, 27, 28, 29, 30, 31, 32, 33, 34, 35, 36, 37, 38, 39, 40, 41, 42, 43, 44, 45, 46, 47, 48, 49, 50, 51, 52, 53, 54, 55, 56, 57, 58, 59, 60, 61, 62, 63, 64, 65, 66, 67, 68] rfl rfl (by decide) (by decide) rfl (by decide) (va_runV (As := [.long (((y1.toInt64) <<< ((32 : Int32).toInt64 &&& 63)) ||| ((y2.toInt64) &&& (4294967295))), .int y3]) (rest := [.int r]) ⟨hx, hb, hml, hown, hts⟩ (c_X10_write l D cs am qM M (((y1.toInt64) <<< ((32 : Int32).toInt64 &&& 63)) ||| ((y2.toInt64) &&& (4294967295))) y3 r M' hf10 _) (cwV 2 hts gL_law_X10_write rfl rfl rfl (by decide +kernel) ⟨Nat.le_of_ble_eq_true rfl, Nat.le_of_ble_eq_true rfl⟩) ⟨CP_blind, va_recv hK hw.1 (ci := 10) (q0 := 45) rfl rfl, x_preC X hw [45, 46, 47, 48, 49, 50, 51, 52, 53, 54, 55, 56, 57, 58, 59, 60, 61, 62, 63, 64, 65, 66, 67, 68] rfl (by decide) [.ref am, .long (((y1.toInt64) <<< ((32 : Int32).toInt64 &&& 63)) ||| ((y2.toInt64) &&& (4294967295))), .int y3]⟩ rfl rfl hl.1 rfl (lv_room (Nat.le_of_ble_eq_true rfl)) dL_law_255 ⟨Nat.le_of_ble_eq_true rfl, Nat.le_of_ble_eq_true rfl⟩) (fun H locs hw => ?_)
  refine lv_icmp_eq (pc := 258) (tgt := 1415) hx hb dL_law_258 (by decide) (fun _ => ?_) (fun c0 => absurd rfl c0)
  exact K _ _ _ ⟨q, qT, qP, qS, qDr, qV, qH, qSm, qF1, qF2, qPt, qM, T', R, P, S, Dr, V, Hp, Sm, F1, F2, Pt, M', hw, hrel2⟩ hl

set_option maxHeartbeats 4000000 in
set_option maxRecDepth 100000 in
theorem lc_erase {p : Program} {l : Launch} {e : Env} {s : State} {m : MethodId} {args : Array Value} {below : List Frame} {meth : Method} {c : Code} {D : va_G} {cs : CS} {A : Nat → Prop} {Q : State → Prop} {ad ar : Nat → Nat} {b L : Nat} {xs : Nat → Int32} {a am : Nat} {Rel : RelT} (X : FX D (TY cs) p s m args meth c cL_law 4 wsL_law RL A (some .boolean)) (hE : SE ad ar A s s.heap) (hXs : va_X b L xs s s.heap) (hbl : b < s.heap.size) (hbA : ¬ A b) {H : Heap} {locs : List Loc} {ls : Array Slot} {i : Int32} (hLW : LW Rel D A s cs a am H locs) (hl : lv_has ls 4 [(0, .ref b), (1, .ref a), (2, .ref am), (3, .int i)]) (h1 : vp_in (i + 1) L) (h2 : vp_in (i + 2) L) (h3 : vp_in (i + 3) L) (h4 : vp_in (i + 4) L) (h5 : vp_in (i + 5) L) (hst : St_erase Rel) (K : ∀ (H : Heap) (locs : List Loc) (ls : Array Slot), LW Rel D A s cs a am H locs → lv_has ls 4 [(0, .ref b), (1, .ref a), (2, .ref am), (3, .int i)] → W p l e room_1 s m args below meth c H locs 69 3778 Q (F0 m 1415 ls [])) : W p l e room_1 s m args below meth c H locs 69 3778 Q (F0 m 263 ls []) := by
  obtain ⟨hx, hb, hml, hown, hts, hK, hA, hr, hlk⟩ := id X
  obtain ⟨q, qT, qP, qS, qDr, qV, qH, qSm, qF1, qF2, qPt, qM, T, R, P, S, Dr, V, Hp, Sm, F1, F2, Pt, M, hw, hrel⟩ := hLW
  obtain ⟨y1, ey1⟩ : ∃ y : Int32, y = xs (i + 1).toNatClampNeg := ⟨_, rfl⟩
  obtain ⟨y2, ey2⟩ : ∃ y : Int32, y = xs (i + 2).toNatClampNeg := ⟨_, rfl⟩
  obtain ⟨y3, ey3⟩ : ∃ y : Int32, y = xs (i + 3).toNatClampNeg := ⟨_, rfl⟩
  obtain ⟨y4, ey4⟩ : ∃ y : Int32, y = xs (i + 4).toNatClampNeg := ⟨_, rfl⟩
  obtain ⟨y5, ey5⟩ : ∃ y : Int32, y = xs (i + 5).toNatClampNeg := ⟨_, rfl⟩
  refine lv_aload_n (pc := 263) hx hb dL_law_263 rfl (lv_at hl 1 rfl) ?_
  obtain ⟨r, T', M', hf9, hf10, hrel2⟩ := hst _ _ _ _ _ _ _ _ _ _ _ _ hrel
  refine x_cut (pc := 264) (wr := ([3, 4, 5, 6, 7, 8, 9, 10, 11, 12, 13, 14, 15, 16, 17, 18, 19, 20, 21, 22, 23, 24, 25, 26, 27, 28, 29, 30, 31, 32, 33, 34, 35, 36, 37, 38, 39, 40, 41, 42, 43, 44, 45, 46, 47, 48, 49, 50, 51, 52, 53, 54, 55, 56, 57, 58, 59, 60, 61, 62, 63, 64, 65, 66, 67, 68].filterMap (fun i => (wFull cs a q qT qP qS qDr qV qH qSm qF1 qF2 qPt T R P S Dr V Hp Sm F1 F2 Pt ++ wX10 cs am qM M)[i]?))) (ws2 := wFull cs a q qT qP qS qDr qV qH qSm qF1 qF2 qPt T' R P S Dr V Hp Sm F1 F2 Pt ++ wX10 cs am qM M) X hw [0, 1, 2] [3, 4, 5, 6, 7, 8, 9, 10, 11, 12, 13, 14, 15, 16, 17, 18, 19, 20, 21, 22, 23, 24, 25, 26, 27, 28, 29, 30, 31, 32, 33, 34, 35, 36, 37, 38, 39, 40, 41, 42, 43, 44, 45, 46, 47, 48, 49, 50, 51, 52, 53, 54, 55, 56, 57, 58, 59, 60, 61, 62, 63, 64, 65, 66, 67, 68] [66, 67, 68, 0, 1, 2, 3, 4, 5, 6, 7, 8, 9, 10, 11, 12, 13, 14, 15, 16, 17, 18, 19, 20, 21, 22, 23, 24, 25, 26, 27, 28, 29, 30, 31, 32, 33, 34, 35, 36, 37, 38, 39, 40, 41, 42, 43, 44, 45, 46, 47, 48, 49, 50, 51, 52, 53, 54, 55, 56, 57, 58, 59, 60, 61, 62, 63, 64, 65] rfl rfl (by decide) (by decide) rfl (by decide) (va_runV (As := []) (rest := []) ⟨hx, hb, hml, hown, hts⟩ (c_X9_erase l D cs a q qT T r T' hf9 _) (cwV 0 hts gL_law_X9_erase rfl rfl rfl (by decide +kernel) ⟨Nat.le_of_ble_eq_true rfl, Nat.le_of_ble_eq_true rfl⟩) ⟨CP_blind, va_recv hK hw.1 (ci := 9) (q0 := 0) rfl rfl, x_preC X hw [0, 1, 2] rfl (by decide) [.ref a]⟩ rfl rfl hl.1 rfl (lv_room (Nat.le_of_ble_eq_true rfl)) dL_law_264 ⟨Nat.le_of_ble_eq_true rfl, Nat.le_of_ble_eq_true rfl⟩) (fun H locs hw => ?_)
  refine lv_aload_n (pc := 267) hx hb dL_law_267 rfl (lv_at hl 2 rfl) ?_
  refine x_cut (pc := 268) (wr := wFull cs a q qT qP qS qDr qV qH qSm qF1 qF2 qPt T' R P S Dr V Hp Sm F1 F2 Pt) (ws2 := wFull cs a q qT qP qS qDr qV qH qSm qF1 qF2 qPt T' R P S Dr V Hp Sm F1 F2 Pt ++ wX10 cs am qM M') X hw [45, 46, 47, 48, 49, 50, 51, 52, 53, 54, 55, 56, 57, 58, 59, 60, 61, 62, 63, 64, 65, 66, 67, 68] [0, 1, 2, 3, 4, 5, 6, 7, 8, 9, 10, 11, 12, 13, 14, 15, 16, 17, 18, 19, 20, 21, 22, 23, 24, 25, 26, 27, 28, 29, 30, 31, 32, 33, 34, 35, 36, 37, 38, 39, 40, 41, 42, 43, 44] [0, 1, 2, 3, 4, 5, 6, 7, 8, 9, 10, 11, 12, 13, 14, 15, 16, 17, 18, 19, 20, 21, 22, 23, 24, 25, 26, 27, 28, 29, 30, 31, 32, 33, 34, 35, 36, 37, 38, 39, 40, 41, 42, 43, 44, 45, 46, 47, 48, 49, 50, 51, 52, 53, 54, 55, 56, 57, 58, 59, 60, 61, 62, 63, 64, 65, 66, 67, 68] rfl rfl (by decide) (by decide) rfl (by decide) (va_runV (As := []) (rest := [.int r]) ⟨hx, hb, hml, hown, hts⟩ (c_X10_erase l D cs am qM M r M' hf10 _) (cwV 0 hts gL_law_X10_erase rfl rfl rfl (by decide +kernel) ⟨Nat.le_of_ble_eq_true rfl, Nat.le_of_ble_eq_true rfl⟩) ⟨CP_blind, va_recv hK hw.1 (ci := 10) (q0 := 45) rfl rfl, x_preC X hw [45, 46, 47, 48, 49, 50, 51, 52, 53, 54, 55, 56, 57, 58, 59, 60, 61, 62, 63, 64, 65, 66, 67, 68] rfl (by decide) [.ref am]⟩ rfl rfl hl.1 rfl (lv_room (Nat.le_of_ble_eq_true rfl)) dL_law_268 ⟨Nat.le_of_ble_eq_true rfl, Nat.le_of_ble_eq_true rfl⟩) (fun H locs hw => ?_)
  refine lv_icmp_eq (pc := 271) (tgt := 1415) hx hb dL_law_271 (by decide) (fun _ => ?_) (fun c0 => absurd rfl c0)
  exact K _ _ _ ⟨q, qT, qP, qS, qDr, qV, qH, qSm, qF1, qF2, qPt, qM, T', R, P, S, Dr, V, Hp, Sm, F1, F2, Pt, M', hw, hrel2⟩ hl

set_option maxHeartbeats 4000000 in
set_option maxRecDepth 100000 in
theorem lc_fault {p : Program} {l : Launch} {e : Env} {s : State} {m : MethodId} {args : Array Value} {below : List Frame} {meth : Method} {c : Code} {D : va_G} {cs : CS} {A : Nat → Prop} {Q : State → Prop} {ad ar : Nat → Nat} {b L : Nat} {xs : Nat → Int32} {a am : Nat} {Rel : RelT} (X : FX D (TY cs) p s m args meth c cL_law 4 wsL_law RL A (some .boolean)) (hE : SE ad ar A s s.heap) (hXs : va_X b L xs s s.heap) (hbl : b < s.heap.size) (hbA : ¬ A b) {H : Heap} {locs : List Loc} {ls : Array Slot} {i : Int32} (hLW : LW Rel D A s cs a am H locs) (hl : lv_has ls 4 [(0, .ref b), (1, .ref a), (2, .ref am), (3, .int i)]) (h1 : vp_in (i + 1) L) (h2 : vp_in (i + 2) L) (h3 : vp_in (i + 3) L) (h4 : vp_in (i + 4) L) (h5 : vp_in (i + 5) L) (hst : St_fault Rel) (K : ∀ (H : Heap) (locs : List Loc) (ls : Array Slot), LW Rel D A s cs a am H locs → lv_has ls 4 [(0, .ref b), (1, .ref a), (2, .ref am), (3, .int i)] → W p l e room_1 s m args below meth c H locs 69 3778 Q (F0 m 1415 ls [])) : W p l e room_1 s m args below meth c H locs 69 3778 Q (F0 m 276 ls []) := by
  obtain ⟨hx, hb, hml, hown, hts, hK, hA, hr, hlk⟩ := id X
  obtain ⟨q, qT, qP, qS, qDr, qV, qH, qSm, qF1, qF2, qPt, qM, T, R, P, S, Dr, V, Hp, Sm, F1, F2, Pt, M, hw, hrel⟩ := hLW
  obtain ⟨y1, ey1⟩ : ∃ y : Int32, y = xs (i + 1).toNatClampNeg := ⟨_, rfl⟩
  obtain ⟨y2, ey2⟩ : ∃ y : Int32, y = xs (i + 2).toNatClampNeg := ⟨_, rfl⟩
  obtain ⟨y3, ey3⟩ : ∃ y : Int32, y = xs (i + 3).toNatClampNeg := ⟨_, rfl⟩
  obtain ⟨y4, ey4⟩ : ∃ y : Int32, y = xs (i + 4).toNatClampNeg := ⟨_, rfl⟩
  obtain ⟨y5, ey5⟩ : ∃ y : Int32, y = xs (i + 5).toNatClampNeg := ⟨_, rfl⟩
  refine lv_aload_n (pc := 276) hx hb dL_law_276 rfl (lv_at hl 1 rfl) ?_
  obtain ⟨r, R', Dr', M', hf9, hf10, hrel2⟩ := hst _ _ _ _ _ _ _ _ _ _ _ _ hrel
  refine x_cut (pc := 277) (wr := ([4, 5, 6, 7, 8, 9, 10, 11, 12, 13, 14, 15, 16, 25, 26, 27, 28, 29, 30, 31, 32, 33, 34, 35, 36, 37, 38, 39, 40, 41, 42, 43, 44, 45, 46, 47, 48, 49, 50, 51, 52, 53, 54, 55, 56, 57, 58, 59, 60, 61, 62, 63, 64, 65, 66, 67, 68].filterMap (fun i => (wFull cs a q qT qP qS qDr qV qH qSm qF1 qF2 qPt T R P S Dr V Hp Sm F1 F2 Pt ++ wX10 cs am qM M)[i]?))) (ws2 := wFull cs a q qT qP qS qDr qV qH qSm qF1 qF2 qPt T R' P S Dr' V Hp Sm F1 F2 Pt ++ wX10 cs am qM M) X hw [0, 3, 1, 2, 17, 18, 19, 20, 21, 22, 23, 24] [4, 5, 6, 7, 8, 9, 10, 11, 12, 13, 14, 15, 16, 25, 26, 27, 28, 29, 30, 31, 32, 33, 34, 35, 36, 37, 38, 39, 40, 41, 42, 43, 44, 45, 46, 47, 48, 49, 50, 51, 52, 53, 54, 55, 56, 57, 58, 59, 60, 61, 62, 63, 64, 65, 66, 67, 68] [57, 59, 60, 58, 0, 1, 2, 3, 4, 5, 6, 7, 8, 9, 10, 11, 12, 61, 62, 63, 64, 65, 66, 67, 68, 13, 14, 15, 16, 17, 18, 19, 20, 21, 22, 23, 24, 25, 26, 27, 28, 29, 30, 31, 32, 33, 34, 35, 36, 37, 38, 39, 40, 41, 42, 43, 44, 45, 46, 47, 48, 49, 50, 51, 52, 53, 54, 55, 56] rfl rfl (by decide) (by decide) rfl (by decide) (va_runV (As := []) (rest := []) ⟨hx, hb, hml, hown, hts⟩ (c_X9_fault l D cs ad ar a q qT qDr R T Dr r R' Dr' hf9 _) (cwV 0 hts gL_law_X9_fault rfl rfl rfl (by decide +kernel) ⟨Nat.le_of_ble_eq_true rfl, Nat.le_of_ble_eq_true rfl⟩) ⟨CPE_blind, va_recv hK hw.1 (ci := 9) (q0 := 0) rfl rfl, x_preCE X hE hw [0, 3, 1, 2, 17, 18, 19, 20, 21, 22, 23, 24] rfl (by decide) [.ref a]⟩ rfl rfl hl.1 rfl (lv_room (Nat.le_of_ble_eq_true rfl)) dL_law_277 ⟨Nat.le_of_ble_eq_true rfl, Nat.le_of_ble_eq_true rfl⟩) (fun H locs hw => ?_)
  refine lv_aload_n (pc := 280) hx hb dL_law_280 rfl (lv_at hl 2 rfl) ?_
  refine x_cut (pc := 281) (wr := wFull cs a q qT qP qS qDr qV qH qSm qF1 qF2 qPt T R' P S Dr' V Hp Sm F1 F2 Pt) (ws2 := wFull cs a q qT qP qS qDr qV qH qSm qF1 qF2 qPt T R' P S Dr' V Hp Sm F1 F2 Pt ++ wX10 cs am qM M') X hw [45, 46, 47, 48, 49, 50, 51, 52, 53, 54, 55, 56, 57, 58, 59, 60, 61, 62, 63, 64, 65, 66, 67, 68] [0, 1, 2, 3, 4, 5, 6, 7, 8, 9, 10, 11, 12, 13, 14, 15, 16, 17, 18, 19, 20, 21, 22, 23, 24, 25, 26, 27, 28, 29, 30, 31, 32, 33, 34, 35, 36, 37, 38, 39, 40, 41, 42, 43, 44] [0, 1, 2, 3, 4, 5, 6, 7, 8, 9, 10, 11, 12, 13, 14, 15, 16, 17, 18, 19, 20, 21, 22, 23, 24, 25, 26, 27, 28, 29, 30, 31, 32, 33, 34, 35, 36, 37, 38, 39, 40, 41, 42, 43, 44, 45, 46, 47, 48, 49, 50, 51, 52, 53, 54, 55, 56, 57, 58, 59, 60, 61, 62, 63, 64, 65, 66, 67, 68] rfl rfl (by decide) (by decide) rfl (by decide) (va_runV (As := []) (rest := [.int r]) ⟨hx, hb, hml, hown, hts⟩ (c_X10_fault l D cs am qM M r M' hf10 _) (cwV 0 hts gL_law_X10_fault rfl rfl rfl (by decide +kernel) ⟨Nat.le_of_ble_eq_true rfl, Nat.le_of_ble_eq_true rfl⟩) ⟨CP_blind, va_recv hK hw.1 (ci := 10) (q0 := 45) rfl rfl, x_preC X hw [45, 46, 47, 48, 49, 50, 51, 52, 53, 54, 55, 56, 57, 58, 59, 60, 61, 62, 63, 64, 65, 66, 67, 68] rfl (by decide) [.ref am]⟩ rfl rfl hl.1 rfl (lv_room (Nat.le_of_ble_eq_true rfl)) dL_law_281 ⟨Nat.le_of_ble_eq_true rfl, Nat.le_of_ble_eq_true rfl⟩) (fun H locs hw => ?_)
  refine lv_icmp_eq (pc := 284) (tgt := 1415) hx hb dL_law_284 (by decide) (fun _ => ?_) (fun c0 => absurd rfl c0)
  exact K _ _ _ ⟨q, qT, qP, qS, qDr, qV, qH, qSm, qF1, qF2, qPt, qM, T, R', P, S, Dr', V, Hp, Sm, F1, F2, Pt, M', hw, hrel2⟩ hl

set_option maxHeartbeats 4000000 in
set_option maxRecDepth 100000 in
theorem lc_program {p : Program} {l : Launch} {e : Env} {s : State} {m : MethodId} {args : Array Value} {below : List Frame} {meth : Method} {c : Code} {D : va_G} {cs : CS} {A : Nat → Prop} {Q : State → Prop} {ad ar : Nat → Nat} {b L : Nat} {xs : Nat → Int32} {a am : Nat} {Rel : RelT} (X : FX D (TY cs) p s m args meth c cL_law 4 wsL_law RL A (some .boolean)) (hE : SE ad ar A s s.heap) (hXs : va_X b L xs s s.heap) (hbl : b < s.heap.size) (hbA : ¬ A b) {H : Heap} {locs : List Loc} {ls : Array Slot} {i : Int32} (hLW : LW Rel D A s cs a am H locs) (hl : lv_has ls 4 [(0, .ref b), (1, .ref a), (2, .ref am), (3, .int i)]) (h1 : vp_in (i + 1) L) (h2 : vp_in (i + 2) L) (h3 : vp_in (i + 3) L) (h4 : vp_in (i + 4) L) (h5 : vp_in (i + 5) L) (hst : St_program Rel) (K : ∀ (H : Heap) (locs : List Loc) (ls : Array Slot), LW Rel D A s cs a am H locs → lv_has ls 4 [(0, .ref b), (1, .ref a), (2, .ref am), (3, .int i)] → W p l e room_1 s m args below meth c H locs 69 3778 Q (F0 m 1415 ls [])) : W p l e room_1 s m args below meth c H locs 69 3778 Q (F0 m 289 ls []) := by
  obtain ⟨hx, hb, hml, hown, hts, hK, hA, hr, hlk⟩ := id X
  obtain ⟨q, qT, qP, qS, qDr, qV, qH, qSm, qF1, qF2, qPt, qM, T, R, P, S, Dr, V, Hp, Sm, F1, F2, Pt, M, hw, hrel⟩ := hLW
  obtain ⟨y1, ey1⟩ : ∃ y : Int32, y = xs (i + 1).toNatClampNeg := ⟨_, rfl⟩
  obtain ⟨y2, ey2⟩ : ∃ y : Int32, y = xs (i + 2).toNatClampNeg := ⟨_, rfl⟩
  obtain ⟨y3, ey3⟩ : ∃ y : Int32, y = xs (i + 3).toNatClampNeg := ⟨_, rfl⟩
  obtain ⟨y4, ey4⟩ : ∃ y : Int32, y = xs (i + 4).toNatClampNeg := ⟨_, rfl⟩
  obtain ⟨y5, ey5⟩ : ∃ y : Int32, y = xs (i + 5).toNatClampNeg := ⟨_, rfl⟩
  refine lv_aload_n (pc := 289) hx hb dL_law_289 rfl (lv_at hl 1 rfl) ?_
  obtain ⟨v, R', Dr', hc, hst2⟩ := hst _ _ _ _ _ _ _ _ _ _ _ _ hrel
  rcases hst2 with ⟨hv, M', hf10, hrel2⟩ | ⟨hv, M', hf10, hrel2⟩
  · refine x_cut (pc := 290) (wr := ([4, 5, 6, 7, 8, 9, 10, 11, 25, 26, 27, 28, 29, 30, 31, 32, 33, 34, 35, 36, 37, 38, 39, 40, 41, 42, 43, 44, 45, 46, 47, 48, 49, 50, 51, 52, 53, 54, 55, 56, 57, 58, 59, 60, 61, 62, 63, 64, 65, 66, 67, 68].filterMap (fun i => (wFull cs a q qT qP qS qDr qV qH qSm qF1 qF2 qPt T R P S Dr V Hp Sm F1 F2 Pt ++ wX10 cs am qM M)[i]?))) (ws2 := wFull cs a (va_up q 3 (qS 0)) qT qDr (va_up qS 0 (q 3)) qP qV qH qSm qF1 qF2 qPt (sI T 1 0) R' Dr' (sI S 3 1) P V Hp Sm F1 F2 Pt ++ wX10 cs am qM M) X hw [0, 3, 1, 2, 12, 13, 14, 15, 16, 17, 18, 19, 20, 21, 22, 23, 24] [4, 5, 6, 7, 8, 9, 10, 11, 25, 26, 27, 28, 29, 30, 31, 32, 33, 34, 35, 36, 37, 38, 39, 40, 41, 42, 43, 44, 45, 46, 47, 48, 49, 50, 51, 52, 53, 54, 55, 56, 57, 58, 59, 60, 61, 62, 63, 64, 65, 66, 67, 68] [52, 54, 55, 53, 61, 62, 63, 64, 65, 66, 67, 68, 56, 57, 58, 59, 60, 0, 1, 2, 3, 4, 5, 6, 7, 8, 9, 10, 11, 12, 13, 14, 15, 16, 17, 18, 19, 20, 21, 22, 23, 24, 25, 26, 27, 28, 29, 30, 31, 32, 33, 34, 35, 36, 37, 38, 39, 40, 41, 42, 43, 44, 45, 46, 47, 48, 49, 50, 51] rfl rfl (by decide) (by decide) rfl (by decide) (va_runV (As := []) (rest := []) ⟨hx, hb, hml, hown, hts⟩ (c_X9_program_ok l D cs ad ar a q qT qS qDr R T S Dr v R' Dr' hc hv _) (cwV 0 hts gL_law_X9_program rfl rfl rfl (by decide +kernel) ⟨Nat.le_of_ble_eq_true rfl, Nat.le_of_ble_eq_true rfl⟩) ⟨CPE_blind, va_recv hK hw.1 (ci := 9) (q0 := 0) rfl rfl, x_preCE X hE hw [0, 3, 1, 2, 12, 13, 14, 15, 16, 17, 18, 19, 20, 21, 22, 23, 24] rfl (by decide) [.ref a]⟩ rfl rfl hl.1 rfl (lv_room (Nat.le_of_ble_eq_true rfl)) dL_law_290 ⟨Nat.le_of_ble_eq_true rfl, Nat.le_of_ble_eq_true rfl⟩) (fun H locs hw => ?_)
    refine lv_aload_n (pc := 293) hx hb dL_law_293 rfl (lv_at hl 2 rfl) ?_
    refine x_cut (pc := 294) (wr := wFull cs a (va_up q 3 (qS 0)) qT qDr (va_up qS 0 (q 3)) qP qV qH qSm qF1 qF2 qPt (sI T 1 0) R' Dr' (sI S 3 1) P V Hp Sm F1 F2 Pt) (ws2 := wFull cs a (va_up q 3 (qS 0)) qT qDr (va_up qS 0 (q 3)) qP qV qH qSm qF1 qF2 qPt (sI T 1 0) R' Dr' (sI S 3 1) P V Hp Sm F1 F2 Pt ++ wX10 cs am qM M') X hw [45, 46, 47, 48, 49, 50, 51, 52, 53, 54, 55, 56, 57, 58, 59, 60, 61, 62, 63, 64, 65, 66, 67, 68] [0, 1, 2, 3, 4, 5, 6, 7, 8, 9, 10, 11, 12, 13, 14, 15, 16, 17, 18, 19, 20, 21, 22, 23, 24, 25, 26, 27, 28, 29, 30, 31, 32, 33, 34, 35, 36, 37, 38, 39, 40, 41, 42, 43, 44] [0, 1, 2, 3, 4, 5, 6, 7, 8, 9, 10, 11, 12, 13, 14, 15, 16, 17, 18, 19, 20, 21, 22, 23, 24, 25, 26, 27, 28, 29, 30, 31, 32, 33, 34, 35, 36, 37, 38, 39, 40, 41, 42, 43, 44, 45, 46, 47, 48, 49, 50, 51, 52, 53, 54, 55, 56, 57, 58, 59, 60, 61, 62, 63, 64, 65, 66, 67, 68] rfl rfl (by decide) (by decide) rfl (by decide) (va_runV (As := []) (rest := [.int (Dr'.1 5)]) ⟨hx, hb, hml, hown, hts⟩ (c_X10_program l D cs am qM M (Dr'.1 5) M' hf10 _) (cwV 0 hts gL_law_X10_program rfl rfl rfl (by decide +kernel) ⟨Nat.le_of_ble_eq_true rfl, Nat.le_of_ble_eq_true rfl⟩) ⟨CP_blind, va_recv hK hw.1 (ci := 10) (q0 := 45) rfl rfl, x_preC X hw [45, 46, 47, 48, 49, 50, 51, 52, 53, 54, 55, 56, 57, 58, 59, 60, 61, 62, 63, 64, 65, 66, 67, 68] rfl (by decide) [.ref am]⟩ rfl rfl hl.1 rfl (lv_room (Nat.le_of_ble_eq_true rfl)) dL_law_294 ⟨Nat.le_of_ble_eq_true rfl, Nat.le_of_ble_eq_true rfl⟩) (fun H locs hw => ?_)
    refine lv_icmp_eq (pc := 297) (tgt := 1415) hx hb dL_law_297 (by decide) (fun _ => ?_) (fun c0 => absurd rfl c0)
    exact K _ _ _ ⟨(va_up q 3 (qS 0)), qT, qDr, (va_up qS 0 (q 3)), qP, qV, qH, qSm, qF1, qF2, qPt, qM, (sI T 1 0), R', Dr', (sI S 3 1), P, V, Hp, Sm, F1, F2, Pt, M', hw, hrel2⟩ hl
  · refine x_cut (pc := 290) (wr := ([4, 5, 6, 7, 8, 9, 10, 11, 25, 26, 27, 28, 29, 30, 31, 32, 33, 34, 35, 36, 37, 38, 39, 40, 41, 42, 43, 44, 45, 46, 47, 48, 49, 50, 51, 52, 53, 54, 55, 56, 57, 58, 59, 60, 61, 62, 63, 64, 65, 66, 67, 68].filterMap (fun i => (wFull cs a q qT qP qS qDr qV qH qSm qF1 qF2 qPt T R P S Dr V Hp Sm F1 F2 Pt ++ wX10 cs am qM M)[i]?))) (ws2 := wFull cs a q qT qP qS qDr qV qH qSm qF1 qF2 qPt T R' P S Dr' V Hp Sm F1 F2 Pt ++ wX10 cs am qM M) X hw [0, 3, 1, 2, 12, 13, 14, 15, 16, 17, 18, 19, 20, 21, 22, 23, 24] [4, 5, 6, 7, 8, 9, 10, 11, 25, 26, 27, 28, 29, 30, 31, 32, 33, 34, 35, 36, 37, 38, 39, 40, 41, 42, 43, 44, 45, 46, 47, 48, 49, 50, 51, 52, 53, 54, 55, 56, 57, 58, 59, 60, 61, 62, 63, 64, 65, 66, 67, 68] [52, 54, 55, 53, 0, 1, 2, 3, 4, 5, 6, 7, 56, 57, 58, 59, 60, 61, 62, 63, 64, 65, 66, 67, 68, 8, 9, 10, 11, 12, 13, 14, 15, 16, 17, 18, 19, 20, 21, 22, 23, 24, 25, 26, 27, 28, 29, 30, 31, 32, 33, 34, 35, 36, 37, 38, 39, 40, 41, 42, 43, 44, 45, 46, 47, 48, 49, 50, 51] rfl rfl (by decide) (by decide) rfl (by decide) (va_runV (As := []) (rest := []) ⟨hx, hb, hml, hown, hts⟩ (c_X9_program_no l D cs ad ar a q qT qS qDr R T S Dr v R' Dr' hc hv _) (cwV 0 hts gL_law_X9_program rfl rfl rfl (by decide +kernel) ⟨Nat.le_of_ble_eq_true rfl, Nat.le_of_ble_eq_true rfl⟩) ⟨CPE_blind, va_recv hK hw.1 (ci := 9) (q0 := 0) rfl rfl, x_preCE X hE hw [0, 3, 1, 2, 12, 13, 14, 15, 16, 17, 18, 19, 20, 21, 22, 23, 24] rfl (by decide) [.ref a]⟩ rfl rfl hl.1 rfl (lv_room (Nat.le_of_ble_eq_true rfl)) dL_law_290 ⟨Nat.le_of_ble_eq_true rfl, Nat.le_of_ble_eq_true rfl⟩) (fun H locs hw => ?_)
    refine lv_aload_n (pc := 293) hx hb dL_law_293 rfl (lv_at hl 2 rfl) ?_
    refine x_cut (pc := 294) (wr := wFull cs a q qT qP qS qDr qV qH qSm qF1 qF2 qPt T R' P S Dr' V Hp Sm F1 F2 Pt) (ws2 := wFull cs a q qT qP qS qDr qV qH qSm qF1 qF2 qPt T R' P S Dr' V Hp Sm F1 F2 Pt ++ wX10 cs am qM M') X hw [45, 46, 47, 48, 49, 50, 51, 52, 53, 54, 55, 56, 57, 58, 59, 60, 61, 62, 63, 64, 65, 66, 67, 68] [0, 1, 2, 3, 4, 5, 6, 7, 8, 9, 10, 11, 12, 13, 14, 15, 16, 17, 18, 19, 20, 21, 22, 23, 24, 25, 26, 27, 28, 29, 30, 31, 32, 33, 34, 35, 36, 37, 38, 39, 40, 41, 42, 43, 44] [0, 1, 2, 3, 4, 5, 6, 7, 8, 9, 10, 11, 12, 13, 14, 15, 16, 17, 18, 19, 20, 21, 22, 23, 24, 25, 26, 27, 28, 29, 30, 31, 32, 33, 34, 35, 36, 37, 38, 39, 40, 41, 42, 43, 44, 45, 46, 47, 48, 49, 50, 51, 52, 53, 54, 55, 56, 57, 58, 59, 60, 61, 62, 63, 64, 65, 66, 67, 68] rfl rfl (by decide) (by decide) rfl (by decide) (va_runV (As := []) (rest := [.int (-4)]) ⟨hx, hb, hml, hown, hts⟩ (c_X10_program l D cs am qM M (-4) M' hf10 _) (cwV 0 hts gL_law_X10_program rfl rfl rfl (by decide +kernel) ⟨Nat.le_of_ble_eq_true rfl, Nat.le_of_ble_eq_true rfl⟩) ⟨CP_blind, va_recv hK hw.1 (ci := 10) (q0 := 45) rfl rfl, x_preC X hw [45, 46, 47, 48, 49, 50, 51, 52, 53, 54, 55, 56, 57, 58, 59, 60, 61, 62, 63, 64, 65, 66, 67, 68] rfl (by decide) [.ref am]⟩ rfl rfl hl.1 rfl (lv_room (Nat.le_of_ble_eq_true rfl)) dL_law_294 ⟨Nat.le_of_ble_eq_true rfl, Nat.le_of_ble_eq_true rfl⟩) (fun H locs hw => ?_)
    refine lv_icmp_eq (pc := 297) (tgt := 1415) hx hb dL_law_297 (by decide) (fun _ => ?_) (fun c0 => absurd rfl c0)
    exact K _ _ _ ⟨q, qT, qP, qS, qDr, qV, qH, qSm, qF1, qF2, qPt, qM, T, R', P, S, Dr', V, Hp, Sm, F1, F2, Pt, M', hw, hrel2⟩ hl

set_option maxHeartbeats 4000000 in
set_option maxRecDepth 100000 in
theorem lc_draw {p : Program} {l : Launch} {e : Env} {s : State} {m : MethodId} {args : Array Value} {below : List Frame} {meth : Method} {c : Code} {D : va_G} {cs : CS} {A : Nat → Prop} {Q : State → Prop} {ad ar : Nat → Nat} {b L : Nat} {xs : Nat → Int32} {a am : Nat} {Rel : RelT} (X : FX D (TY cs) p s m args meth c cL_law 4 wsL_law RL A (some .boolean)) (hE : SE ad ar A s s.heap) (hXs : va_X b L xs s s.heap) (hbl : b < s.heap.size) (hbA : ¬ A b) {H : Heap} {locs : List Loc} {ls : Array Slot} {i : Int32} (hLW : LW Rel D A s cs a am H locs) (hl : lv_has ls 4 [(0, .ref b), (1, .ref a), (2, .ref am), (3, .int i)]) (h1 : vp_in (i + 1) L) (h2 : vp_in (i + 2) L) (h3 : vp_in (i + 3) L) (h4 : vp_in (i + 4) L) (h5 : vp_in (i + 5) L) (hst : St_draw Rel) (K : ∀ (H : Heap) (locs : List Loc) (ls : Array Slot), LW Rel D A s cs a am H locs → lv_has ls 4 [(0, .ref b), (1, .ref a), (2, .ref am), (3, .int i)] → W p l e room_1 s m args below meth c H locs 69 3778 Q (F0 m 1415 ls [])) : W p l e room_1 s m args below meth c H locs 69 3778 Q (F0 m 302 ls []) := by
  obtain ⟨hx, hb, hml, hown, hts, hK, hA, hr, hlk⟩ := id X
  obtain ⟨q, qT, qP, qS, qDr, qV, qH, qSm, qF1, qF2, qPt, qM, T, R, P, S, Dr, V, Hp, Sm, F1, F2, Pt, M, hw, hrel⟩ := hLW
  obtain ⟨y1, ey1⟩ : ∃ y : Int32, y = xs (i + 1).toNatClampNeg := ⟨_, rfl⟩
  obtain ⟨y2, ey2⟩ : ∃ y : Int32, y = xs (i + 2).toNatClampNeg := ⟨_, rfl⟩
  obtain ⟨y3, ey3⟩ : ∃ y : Int32, y = xs (i + 3).toNatClampNeg := ⟨_, rfl⟩
  obtain ⟨y4, ey4⟩ : ∃ y : Int32, y = xs (i + 4).toNatClampNeg := ⟨_, rfl⟩
  obtain ⟨y5, ey5⟩ : ∃ y : Int32, y = xs (i + 5).toNatClampNeg := ⟨_, rfl⟩
  refine lv_aload_n (pc := 302) hx hb dL_law_302 rfl (lv_at hl 1 rfl) ?_
  refine lv_aload_n (pc := 303) hx hb dL_law_303 rfl (lv_at hl 0 rfl) ?_
  refine lv_iload_n (pc := 304) hx hb dL_law_304 rfl (lv_at hl 3 rfl) ?_
  refine lv_iconst (pc := 305) (v := 1) hx hb dL_law_305 (by decide) ?_
  refine lv_iadd (pc := 306) hx hb dL_law_306 ?_
  refine va_sld (pc := 307) hx hb hXs hbl hbA hw.2.2 h1 dL_law_307 ?_
  refine x_topi ey1 ?_
  obtain ⟨r, hf9, hf10, hrel2⟩ := hst _ _ _ _ _ _ _ _ _ _ _ _ hrel y1
  refine x_cut (pc := 308) (wr := ([1, 2, 3, 17, 18, 19, 20, 21, 22, 23, 24, 25, 26, 27, 28, 29, 30, 31, 32, 33, 34, 35, 36, 37, 38, 39, 40, 41, 42, 43, 44, 45, 46, 47, 48, 49, 50, 51, 52, 53, 54, 55, 56, 57, 58, 59, 60, 61, 62, 63, 64, 65, 66, 67, 68].filterMap (fun i => (wFull cs a q qT qP qS qDr qV qH qSm qF1 qF2 qPt T R P S Dr V Hp Sm F1 F2 Pt ++ wX10 cs am qM M)[i]?))) (ws2 := wFull cs a q qT qP qS qDr qV qH qSm qF1 qF2 qPt T R P S Dr V Hp Sm F1 F2 Pt ++ wX10 cs am qM M) X hw [0, 12, 13, 14, 15, 16, 4, 5, 6, 7, 8, 9, 10, 11] [1, 2, 3, 17, 18, 19, 20, 21, 22, 23, 24, 25, 26, 27, 28, 29, 30, 31, 32, 33, 34, 35, 36, 37, 38, 39, 40, 41, 42, 43, 44, 45, 46, 47, 48, 49, 50, 51, 52, 53, 54, 55, 56, 57, 58, 59, 60, 61, 62, 63, 64, 65, 66, 67, 68] [55, 0, 1, 2, 61, 62, 63, 64, 65, 66, 67, 68, 56, 57, 58, 59, 60, 3, 4, 5, 6, 7, 8, 9, 10, 11, 12, 13, 14, 15, 16, 17, 18, 19, 20, 21, 22, 23, 24, 25, 26, 27, 28, 29, 30, 31, 32, 33, 34, 35, 36, 37, 38, 39, 40, 41, 42, 43, 44, 45, 46, 47, 48, 49, 50, 51, 52, 53, 54] rfl rfl (by decide) (by decide) rfl (by decide) (va_runV (As := [.int y1]) (rest := []) ⟨hx, hb, hml, hown, hts⟩ (c_X9_draw l D cs a q qS qP S P y1 r hf9 _) (cwV 1 hts gL_law_X9_draw rfl rfl rfl (by decide +kernel) ⟨Nat.le_of_ble_eq_true rfl, Nat.le_of_ble_eq_true rfl⟩) ⟨CP_blind, va_recv hK hw.1 (ci := 9) (q0 := 0) rfl rfl, x_preC X hw [0, 12, 13, 14, 15, 16, 4, 5, 6, 7, 8, 9, 10, 11] rfl (by decide) [.ref a, .int y1]⟩ rfl rfl hl.1 rfl (lv_room (Nat.le_of_ble_eq_true rfl)) dL_law_308 ⟨Nat.le_of_ble_eq_true rfl, Nat.le_of_ble_eq_true rfl⟩) (fun H locs hw => ?_)
  refine lv_aload_n (pc := 311) hx hb dL_law_311 rfl (lv_at hl 2 rfl) ?_
  refine lv_aload_n (pc := 312) hx hb dL_law_312 rfl (lv_at hl 0 rfl) ?_
  refine lv_iload_n (pc := 313) hx hb dL_law_313 rfl (lv_at hl 3 rfl) ?_
  refine lv_iconst (pc := 314) (v := 1) hx hb dL_law_314 (by decide) ?_
  refine lv_iadd (pc := 315) hx hb dL_law_315 ?_
  refine va_sld (pc := 316) hx hb hXs hbl hbA hw.2.2 h1 dL_law_316 ?_
  refine x_topi ey1 ?_
  refine x_cut (pc := 317) (wr := wFull cs a q qT qP qS qDr qV qH qSm qF1 qF2 qPt T R P S Dr V Hp Sm F1 F2 Pt) (ws2 := wFull cs a q qT qP qS qDr qV qH qSm qF1 qF2 qPt T R P S Dr V Hp Sm F1 F2 Pt ++ wX10 cs am qM M) X hw [45, 46, 47, 48, 49, 50, 51, 52, 53, 54, 55, 56, 57, 58, 59, 60, 61, 62, 63, 64, 65, 66, 67, 68] [0, 1, 2, 3, 4, 5, 6, 7, 8, 9, 10, 11, 12, 13, 14, 15, 16, 17, 18, 19, 20, 21, 22, 23, 24, 25, 26, 27, 28, 29, 30, 31, 32, 33, 34, 35, 36, 37, 38, 39, 40, 41, 42, 43, 44] [0, 1, 2, 3, 4, 5, 6, 7, 8, 9, 10, 11, 12, 13, 14, 15, 16, 17, 18, 19, 20, 21, 22, 23, 24, 25, 26, 27, 28, 29, 30, 31, 32, 33, 34, 35, 36, 37, 38, 39, 40, 41, 42, 43, 44, 45, 46, 47, 48, 49, 50, 51, 52, 53, 54, 55, 56, 57, 58, 59, 60, 61, 62, 63, 64, 65, 66, 67, 68] rfl rfl (by decide) (by decide) rfl (by decide) (va_runV (As := [.int y1]) (rest := [.int r]) ⟨hx, hb, hml, hown, hts⟩ (c_X10_draw l D cs am qM M y1 r hf10 _) (cwV 1 hts gL_law_X10_draw rfl rfl rfl (by decide +kernel) ⟨Nat.le_of_ble_eq_true rfl, Nat.le_of_ble_eq_true rfl⟩) ⟨CP_blind, va_recv hK hw.1 (ci := 10) (q0 := 45) rfl rfl, x_preC X hw [45, 46, 47, 48, 49, 50, 51, 52, 53, 54, 55, 56, 57, 58, 59, 60, 61, 62, 63, 64, 65, 66, 67, 68] rfl (by decide) [.ref am, .int y1]⟩ rfl rfl hl.1 rfl (lv_room (Nat.le_of_ble_eq_true rfl)) dL_law_317 ⟨Nat.le_of_ble_eq_true rfl, Nat.le_of_ble_eq_true rfl⟩) (fun H locs hw => ?_)
  refine lv_icmp_eq (pc := 320) (tgt := 1415) hx hb dL_law_320 (by decide) (fun _ => ?_) (fun c0 => absurd rfl c0)
  exact K _ _ _ ⟨q, qT, qP, qS, qDr, qV, qH, qSm, qF1, qF2, qPt, qM, T, R, P, S, Dr, V, Hp, Sm, F1, F2, Pt, M, hw, hrel2⟩ hl

set_option maxHeartbeats 4000000 in
set_option maxRecDepth 100000 in
theorem lc_inputs {p : Program} {l : Launch} {e : Env} {s : State} {m : MethodId} {args : Array Value} {below : List Frame} {meth : Method} {c : Code} {D : va_G} {cs : CS} {A : Nat → Prop} {Q : State → Prop} {ad ar : Nat → Nat} {b L : Nat} {xs : Nat → Int32} {a am : Nat} {Rel : RelT} (X : FX D (TY cs) p s m args meth c cL_law 4 wsL_law RL A (some .boolean)) (hE : SE ad ar A s s.heap) (hXs : va_X b L xs s s.heap) (hbl : b < s.heap.size) (hbA : ¬ A b) {H : Heap} {locs : List Loc} {ls : Array Slot} {i : Int32} (hLW : LW Rel D A s cs a am H locs) (hl : lv_has ls 4 [(0, .ref b), (1, .ref a), (2, .ref am), (3, .int i)]) (h1 : vp_in (i + 1) L) (h2 : vp_in (i + 2) L) (h3 : vp_in (i + 3) L) (h4 : vp_in (i + 4) L) (h5 : vp_in (i + 5) L) (hst : St_inputs Rel) (K : ∀ (H : Heap) (locs : List Loc) (ls : Array Slot), LW Rel D A s cs a am H locs → lv_has ls 4 [(0, .ref b), (1, .ref a), (2, .ref am), (3, .int i)] → W p l e room_1 s m args below meth c H locs 69 3778 Q (F0 m 1415 ls [])) : W p l e room_1 s m args below meth c H locs 69 3778 Q (F0 m 325 ls []) := by
  obtain ⟨hx, hb, hml, hown, hts, hK, hA, hr, hlk⟩ := id X
  obtain ⟨q, qT, qP, qS, qDr, qV, qH, qSm, qF1, qF2, qPt, qM, T, R, P, S, Dr, V, Hp, Sm, F1, F2, Pt, M, hw, hrel⟩ := hLW
  obtain ⟨y1, ey1⟩ : ∃ y : Int32, y = xs (i + 1).toNatClampNeg := ⟨_, rfl⟩
  obtain ⟨y2, ey2⟩ : ∃ y : Int32, y = xs (i + 2).toNatClampNeg := ⟨_, rfl⟩
  obtain ⟨y3, ey3⟩ : ∃ y : Int32, y = xs (i + 3).toNatClampNeg := ⟨_, rfl⟩
  obtain ⟨y4, ey4⟩ : ∃ y : Int32, y = xs (i + 4).toNatClampNeg := ⟨_, rfl⟩
  obtain ⟨y5, ey5⟩ : ∃ y : Int32, y = xs (i + 5).toNatClampNeg := ⟨_, rfl⟩
  refine lv_aload_n (pc := 325) hx hb dL_law_325 rfl (lv_at hl 1 rfl) ?_
  refine lv_aload_n (pc := 326) hx hb dL_law_326 rfl (lv_at hl 0 rfl) ?_
  refine lv_iload_n (pc := 327) hx hb dL_law_327 rfl (lv_at hl 3 rfl) ?_
  refine lv_iconst (pc := 328) (v := 1) hx hb dL_law_328 (by decide) ?_
  refine lv_iadd (pc := 329) hx hb dL_law_329 ?_
  refine va_sld (pc := 330) hx hb hXs hbl hbA hw.2.2 h1 dL_law_330 ?_
  refine x_topi ey1 ?_
  refine lv_aload_n (pc := 331) hx hb dL_law_331 rfl (lv_at hl 0 rfl) ?_
  refine lv_iload_n (pc := 332) hx hb dL_law_332 rfl (lv_at hl 3 rfl) ?_
  refine lv_iconst (pc := 333) (v := 2) hx hb dL_law_333 (by decide) ?_
  refine lv_iadd (pc := 334) hx hb dL_law_334 ?_
  refine va_sld (pc := 335) hx hb hXs hbl hbA hw.2.2 h2 dL_law_335 ?_
  refine x_topi ey2 ?_
  obtain ⟨r, S', M', hf9, hf10, hrel2⟩ := hst _ _ _ _ _ _ _ _ _ _ _ _ hrel y1 y2
  refine x_cut (pc := 336) (wr := ([1, 2, 3, 4, 5, 6, 7, 8, 9, 10, 11, 17, 18, 19, 20, 21, 22, 23, 24, 25, 26, 27, 28, 29, 30, 31, 32, 33, 34, 35, 36, 37, 38, 39, 40, 41, 42, 43, 44, 45, 46, 47, 48, 49, 50, 51, 52, 53, 54, 55, 56, 57, 58, 59, 60, 61, 62, 63, 64, 65, 66, 67, 68].filterMap (fun i => (wFull cs a q qT qP qS qDr qV qH qSm qF1 qF2 qPt T R P S Dr V Hp Sm F1 F2 Pt ++ wX10 cs am qM M)[i]?))) (ws2 := wFull cs a q qT qP qS qDr qV qH qSm qF1 qF2 qPt T R P S' Dr V Hp Sm F1 F2 Pt ++ wX10 cs am qM M) X hw [0, 12, 13, 14, 15, 16] [1, 2, 3, 4, 5, 6, 7, 8, 9, 10, 11, 17, 18, 19, 20, 21, 22, 23, 24, 25, 26, 27, 28, 29, 30, 31, 32, 33, 34, 35, 36, 37, 38, 39, 40, 41, 42, 43, 44, 45, 46, 47, 48, 49, 50, 51, 52, 53, 54, 55, 56, 57, 58, 59, 60, 61, 62, 63, 64, 65, 66, 67, 68] [63, 0, 1, 2, 3, 4, 5, 6, 7, 8, 9, 10, 64, 65, 66, 67, 68, 11, 12, 13, 14, 15, 16, 17, 18, 19, 20, 21, 22, 23, 24, 25, 26, 27, 28, 29, 30, 31, 32, 33, 34, 35, 36, 37, 38, 39, 40, 41, 42, 43, 44, 45, 46, 47, 48, 49, 50, 51, 52, 53, 54, 55, 56, 57, 58, 59, 60, 61, 62] rfl rfl (by decide) (by decide) rfl (by decide) (va_runV (As := [.int y1, .int y2]) (rest := []) ⟨hx, hb, hml, hown, hts⟩ (c_X9_inputs l D cs a q qS S y1 y2 r S' hf9 _) (cwV 2 hts gL_law_X9_inputs rfl rfl rfl (by decide +kernel) ⟨Nat.le_of_ble_eq_true rfl, Nat.le_of_ble_eq_true rfl⟩) ⟨CP_blind, va_recv hK hw.1 (ci := 9) (q0 := 0) rfl rfl, x_preC X hw [0, 12, 13, 14, 15, 16] rfl (by decide) [.ref a, .int y1, .int y2]⟩ rfl rfl hl.1 rfl (lv_room (Nat.le_of_ble_eq_true rfl)) dL_law_336 ⟨Nat.le_of_ble_eq_true rfl, Nat.le_of_ble_eq_true rfl⟩) (fun H locs hw => ?_)
  refine lv_aload_n (pc := 339) hx hb dL_law_339 rfl (lv_at hl 2 rfl) ?_
  refine lv_aload_n (pc := 340) hx hb dL_law_340 rfl (lv_at hl 0 rfl) ?_
  refine lv_iload_n (pc := 341) hx hb dL_law_341 rfl (lv_at hl 3 rfl) ?_
  refine lv_iconst (pc := 342) (v := 1) hx hb dL_law_342 (by decide) ?_
  refine lv_iadd (pc := 343) hx hb dL_law_343 ?_
  refine va_sld (pc := 344) hx hb hXs hbl hbA hw.2.2 h1 dL_law_344 ?_
  refine x_topi ey1 ?_
  refine lv_aload_n (pc := 345) hx hb dL_law_345 rfl (lv_at hl 0 rfl) ?_
  refine lv_iload_n (pc := 346) hx hb dL_law_346 rfl (lv_at hl 3 rfl) ?_
  refine lv_iconst (pc := 347) (v := 2) hx hb dL_law_347 (by decide) ?_
  refine lv_iadd (pc := 348) hx hb dL_law_348 ?_
  refine va_sld (pc := 349) hx hb hXs hbl hbA hw.2.2 h2 dL_law_349 ?_
  refine x_topi ey2 ?_
  refine x_cut (pc := 350) (wr := wFull cs a q qT qP qS qDr qV qH qSm qF1 qF2 qPt T R P S' Dr V Hp Sm F1 F2 Pt) (ws2 := wFull cs a q qT qP qS qDr qV qH qSm qF1 qF2 qPt T R P S' Dr V Hp Sm F1 F2 Pt ++ wX10 cs am qM M') X hw [45, 46, 47, 48, 49, 50, 51, 52, 53, 54, 55, 56, 57, 58, 59, 60, 61, 62, 63, 64, 65, 66, 67, 68] [0, 1, 2, 3, 4, 5, 6, 7, 8, 9, 10, 11, 12, 13, 14, 15, 16, 17, 18, 19, 20, 21, 22, 23, 24, 25, 26, 27, 28, 29, 30, 31, 32, 33, 34, 35, 36, 37, 38, 39, 40, 41, 42, 43, 44] [0, 1, 2, 3, 4, 5, 6, 7, 8, 9, 10, 11, 12, 13, 14, 15, 16, 17, 18, 19, 20, 21, 22, 23, 24, 25, 26, 27, 28, 29, 30, 31, 32, 33, 34, 35, 36, 37, 38, 39, 40, 41, 42, 43, 44, 45, 46, 47, 48, 49, 50, 51, 52, 53, 54, 55, 56, 57, 58, 59, 60, 61, 62, 63, 64, 65, 66, 67, 68] rfl rfl (by decide) (by decide) rfl (by decide) (va_runV (As := [.int y1, .int y2]) (rest := [.int r]) ⟨hx, hb, hml, hown, hts⟩ (c_X10_inputs l D cs am qM M y1 y2 r M' hf10 _) (cwV 2 hts gL_law_X10_inputs rfl rfl rfl (by decide +kernel) ⟨Nat.le_of_ble_eq_true rfl, Nat.le_of_ble_eq_true rfl⟩) ⟨CP_blind, va_recv hK hw.1 (ci := 10) (q0 := 45) rfl rfl, x_preC X hw [45, 46, 47, 48, 49, 50, 51, 52, 53, 54, 55, 56, 57, 58, 59, 60, 61, 62, 63, 64, 65, 66, 67, 68] rfl (by decide) [.ref am, .int y1, .int y2]⟩ rfl rfl hl.1 rfl (lv_room (Nat.le_of_ble_eq_true rfl)) dL_law_350 ⟨Nat.le_of_ble_eq_true rfl, Nat.le_of_ble_eq_true rfl⟩) (fun H locs hw => ?_)
  refine lv_icmp_eq (pc := 353) (tgt := 1415) hx hb dL_law_353 (by decide) (fun _ => ?_) (fun c0 => absurd rfl c0)
  exact K _ _ _ ⟨q, qT, qP, qS, qDr, qV, qH, qSm, qF1, qF2, qPt, qM, T, R, P, S', Dr, V, Hp, Sm, F1, F2, Pt, M', hw, hrel2⟩ hl

set_option maxHeartbeats 4000000 in
set_option maxRecDepth 100000 in
theorem lc_run {p : Program} {l : Launch} {e : Env} {s : State} {m : MethodId} {args : Array Value} {below : List Frame} {meth : Method} {c : Code} {D : va_G} {cs : CS} {A : Nat → Prop} {Q : State → Prop} {ad ar : Nat → Nat} {b L : Nat} {xs : Nat → Int32} {a am : Nat} {Rel : RelT} (X : FX D (TY cs) p s m args meth c cL_law 4 wsL_law RL A (some .boolean)) (hE : SE ad ar A s s.heap) (hXs : va_X b L xs s s.heap) (hbl : b < s.heap.size) (hbA : ¬ A b) {H : Heap} {locs : List Loc} {ls : Array Slot} {i : Int32} (hLW : LW Rel D A s cs a am H locs) (hl : lv_has ls 4 [(0, .ref b), (1, .ref a), (2, .ref am), (3, .int i)]) (h1 : vp_in (i + 1) L) (h2 : vp_in (i + 2) L) (h3 : vp_in (i + 3) L) (h4 : vp_in (i + 4) L) (h5 : vp_in (i + 5) L) (hst : St_run Rel) (K : ∀ (H : Heap) (locs : List Loc) (ls : Array Slot), LW Rel D A s cs a am H locs → lv_has ls 4 [(0, .ref b), (1, .ref a), (2, .ref am), (3, .int i)] → W p l e room_1 s m args below meth c H locs 69 3778 Q (F0 m 1415 ls [])) : W p l e room_1 s m args below meth c H locs 69 3778 Q (F0 m 358 ls []) := by
  obtain ⟨hx, hb, hml, hown, hts, hK, hA, hr, hlk⟩ := id X
  obtain ⟨q, qT, qP, qS, qDr, qV, qH, qSm, qF1, qF2, qPt, qM, T, R, P, S, Dr, V, Hp, Sm, F1, F2, Pt, M, hw, hrel⟩ := hLW
  obtain ⟨y1, ey1⟩ : ∃ y : Int32, y = xs (i + 1).toNatClampNeg := ⟨_, rfl⟩
  obtain ⟨y2, ey2⟩ : ∃ y : Int32, y = xs (i + 2).toNatClampNeg := ⟨_, rfl⟩
  obtain ⟨y3, ey3⟩ : ∃ y : Int32, y = xs (i + 3).toNatClampNeg := ⟨_, rfl⟩
  obtain ⟨y4, ey4⟩ : ∃ y : Int32, y = xs (i + 4).toNatClampNeg := ⟨_, rfl⟩
  obtain ⟨y5, ey5⟩ : ∃ y : Int32, y = xs (i + 5).toNatClampNeg := ⟨_, rfl⟩
  refine lv_aload_n (pc := 358) hx hb dL_law_358 rfl (lv_at hl 1 rfl) ?_
  refine lv_aload_n (pc := 359) hx hb dL_law_359 rfl (lv_at hl 0 rfl) ?_
  refine lv_iload_n (pc := 360) hx hb dL_law_360 rfl (lv_at hl 3 rfl) ?_
  refine lv_iconst (pc := 361) (v := 1) hx hb dL_law_361 (by decide) ?_
  refine lv_iadd (pc := 362) hx hb dL_law_362 ?_
  refine va_sld (pc := 363) hx hb hXs hbl hbA hw.2.2 h1 dL_law_363 ?_
  refine x_topi ey1 ?_
  refine lv_aload_n (pc := 364) hx hb dL_law_364 rfl (lv_at hl 0 rfl) ?_
  refine lv_iload_n (pc := 365) hx hb dL_law_365 rfl (lv_at hl 3 rfl) ?_
  refine lv_iconst (pc := 366) (v := 2) hx hb dL_law_366 (by decide) ?_
  refine lv_iadd (pc := 367) hx hb dL_law_367 ?_
  refine va_sld (pc := 368) hx hb hXs hbl hbA hw.2.2 h2 dL_law_368 ?_
  refine x_topi ey2 ?_
  obtain ⟨r, P', M', hf9, hf10, hrel2⟩ := hst _ _ _ _ _ _ _ _ _ _ _ _ hrel y1 y2
  refine x_cut (pc := 369) (wr := ([1, 2, 3, 17, 18, 19, 20, 21, 22, 23, 24, 25, 26, 27, 28, 29, 30, 31, 32, 33, 34, 35, 36, 37, 38, 39, 40, 41, 42, 43, 44, 45, 46, 47, 48, 49, 50, 51, 52, 53, 54, 55, 56, 57, 58, 59, 60, 61, 62, 63, 64, 65, 66, 67, 68].filterMap (fun i => (wFull cs a q qT qP qS qDr qV qH qSm qF1 qF2 qPt T R P S Dr V Hp Sm F1 F2 Pt ++ wX10 cs am qM M)[i]?))) (ws2 := wFull cs a q qT qP qS qDr qV qH qSm qF1 qF2 qPt T R P' S Dr V Hp Sm F1 F2 Pt ++ wX10 cs am qM M) X hw [0, 12, 13, 14, 15, 16, 4, 5, 6, 7, 8, 9, 10, 11] [1, 2, 3, 17, 18, 19, 20, 21, 22, 23, 24, 25, 26, 27, 28, 29, 30, 31, 32, 33, 34, 35, 36, 37, 38, 39, 40, 41, 42, 43, 44, 45, 46, 47, 48, 49, 50, 51, 52, 53, 54, 55, 56, 57, 58, 59, 60, 61, 62, 63, 64, 65, 66, 67, 68] [55, 0, 1, 2, 61, 62, 63, 64, 65, 66, 67, 68, 56, 57, 58, 59, 60, 3, 4, 5, 6, 7, 8, 9, 10, 11, 12, 13, 14, 15, 16, 17, 18, 19, 20, 21, 22, 23, 24, 25, 26, 27, 28, 29, 30, 31, 32, 33, 34, 35, 36, 37, 38, 39, 40, 41, 42, 43, 44, 45, 46, 47, 48, 49, 50, 51, 52, 53, 54] rfl rfl (by decide) (by decide) rfl (by decide) (va_runV (As := [.int y1, .int y2]) (rest := []) ⟨hx, hb, hml, hown, hts⟩ (c_X9_run l D cs a q qS qP S P y1 y2 r P' hf9 _) (cwV 2 hts gL_law_X9_run rfl rfl rfl (by decide +kernel) ⟨Nat.le_of_ble_eq_true rfl, Nat.le_of_ble_eq_true rfl⟩) ⟨CP_blind, va_recv hK hw.1 (ci := 9) (q0 := 0) rfl rfl, x_preC X hw [0, 12, 13, 14, 15, 16, 4, 5, 6, 7, 8, 9, 10, 11] rfl (by decide) [.ref a, .int y1, .int y2]⟩ rfl rfl hl.1 rfl (lv_room (Nat.le_of_ble_eq_true rfl)) dL_law_369 ⟨Nat.le_of_ble_eq_true rfl, Nat.le_of_ble_eq_true rfl⟩) (fun H locs hw => ?_)
  refine lv_aload_n (pc := 372) hx hb dL_law_372 rfl (lv_at hl 2 rfl) ?_
  refine lv_aload_n (pc := 373) hx hb dL_law_373 rfl (lv_at hl 0 rfl) ?_
  refine lv_iload_n (pc := 374) hx hb dL_law_374 rfl (lv_at hl 3 rfl) ?_
  refine lv_iconst (pc := 375) (v := 1) hx hb dL_law_375 (by decide) ?_
  refine lv_iadd (pc := 376) hx hb dL_law_376 ?_
  refine va_sld (pc := 377) hx hb hXs hbl hbA hw.2.2 h1 dL_law_377 ?_
  refine x_topi ey1 ?_
  refine lv_aload_n (pc := 378) hx hb dL_law_378 rfl (lv_at hl 0 rfl) ?_
  refine lv_iload_n (pc := 379) hx hb dL_law_379 rfl (lv_at hl 3 rfl) ?_
  refine lv_iconst (pc := 380) (v := 2) hx hb dL_law_380 (by decide) ?_
  refine lv_iadd (pc := 381) hx hb dL_law_381 ?_
  refine va_sld (pc := 382) hx hb hXs hbl hbA hw.2.2 h2 dL_law_382 ?_
  refine x_topi ey2 ?_
  refine x_cut (pc := 383) (wr := wFull cs a q qT qP qS qDr qV qH qSm qF1 qF2 qPt T R P' S Dr V Hp Sm F1 F2 Pt) (ws2 := wFull cs a q qT qP qS qDr qV qH qSm qF1 qF2 qPt T R P' S Dr V Hp Sm F1 F2 Pt ++ wX10 cs am qM M') X hw [45, 46, 47, 48, 49, 50, 51, 52, 53, 54, 55, 56, 57, 58, 59, 60, 61, 62, 63, 64, 65, 66, 67, 68] [0, 1, 2, 3, 4, 5, 6, 7, 8, 9, 10, 11, 12, 13, 14, 15, 16, 17, 18, 19, 20, 21, 22, 23, 24, 25, 26, 27, 28, 29, 30, 31, 32, 33, 34, 35, 36, 37, 38, 39, 40, 41, 42, 43, 44] [0, 1, 2, 3, 4, 5, 6, 7, 8, 9, 10, 11, 12, 13, 14, 15, 16, 17, 18, 19, 20, 21, 22, 23, 24, 25, 26, 27, 28, 29, 30, 31, 32, 33, 34, 35, 36, 37, 38, 39, 40, 41, 42, 43, 44, 45, 46, 47, 48, 49, 50, 51, 52, 53, 54, 55, 56, 57, 58, 59, 60, 61, 62, 63, 64, 65, 66, 67, 68] rfl rfl (by decide) (by decide) rfl (by decide) (va_runV (As := [.int y1, .int y2]) (rest := [.int r]) ⟨hx, hb, hml, hown, hts⟩ (c_X10_run l D cs am qM M y1 y2 r M' hf10 _) (cwV 2 hts gL_law_X10_run rfl rfl rfl (by decide +kernel) ⟨Nat.le_of_ble_eq_true rfl, Nat.le_of_ble_eq_true rfl⟩) ⟨CP_blind, va_recv hK hw.1 (ci := 10) (q0 := 45) rfl rfl, x_preC X hw [45, 46, 47, 48, 49, 50, 51, 52, 53, 54, 55, 56, 57, 58, 59, 60, 61, 62, 63, 64, 65, 66, 67, 68] rfl (by decide) [.ref am, .int y1, .int y2]⟩ rfl rfl hl.1 rfl (lv_room (Nat.le_of_ble_eq_true rfl)) dL_law_383 ⟨Nat.le_of_ble_eq_true rfl, Nat.le_of_ble_eq_true rfl⟩) (fun H locs hw => ?_)
  refine lv_icmp_eq (pc := 386) (tgt := 1415) hx hb dL_law_386 (by decide) (fun _ => ?_) (fun c0 => absurd rfl c0)
  exact K _ _ _ ⟨q, qT, qP, qS, qDr, qV, qH, qSm, qF1, qF2, qPt, qM, T, R, P', S, Dr, V, Hp, Sm, F1, F2, Pt, M', hw, hrel2⟩ hl

set_option maxHeartbeats 4000000 in
set_option maxRecDepth 100000 in
theorem lc_right {p : Program} {l : Launch} {e : Env} {s : State} {m : MethodId} {args : Array Value} {below : List Frame} {meth : Method} {c : Code} {D : va_G} {cs : CS} {A : Nat → Prop} {Q : State → Prop} {ad ar : Nat → Nat} {b L : Nat} {xs : Nat → Int32} {a am : Nat} {Rel : RelT} (X : FX D (TY cs) p s m args meth c cL_law 4 wsL_law RL A (some .boolean)) (hE : SE ad ar A s s.heap) (hXs : va_X b L xs s s.heap) (hbl : b < s.heap.size) (hbA : ¬ A b) {H : Heap} {locs : List Loc} {ls : Array Slot} {i : Int32} (hLW : LW Rel D A s cs a am H locs) (hl : lv_has ls 4 [(0, .ref b), (1, .ref a), (2, .ref am), (3, .int i)]) (h1 : vp_in (i + 1) L) (h2 : vp_in (i + 2) L) (h3 : vp_in (i + 3) L) (h4 : vp_in (i + 4) L) (h5 : vp_in (i + 5) L) (hst : St_right Rel) (K : ∀ (H : Heap) (locs : List Loc) (ls : Array Slot), LW Rel D A s cs a am H locs → lv_has ls 4 [(0, .ref b), (1, .ref a), (2, .ref am), (3, .int i)] → W p l e room_1 s m args below meth c H locs 69 3778 Q (F0 m 1415 ls [])) : W p l e room_1 s m args below meth c H locs 69 3778 Q (F0 m 391 ls []) := by
  obtain ⟨hx, hb, hml, hown, hts, hK, hA, hr, hlk⟩ := id X
  obtain ⟨q, qT, qP, qS, qDr, qV, qH, qSm, qF1, qF2, qPt, qM, T, R, P, S, Dr, V, Hp, Sm, F1, F2, Pt, M, hw, hrel⟩ := hLW
  obtain ⟨y1, ey1⟩ : ∃ y : Int32, y = xs (i + 1).toNatClampNeg := ⟨_, rfl⟩
  obtain ⟨y2, ey2⟩ : ∃ y : Int32, y = xs (i + 2).toNatClampNeg := ⟨_, rfl⟩
  obtain ⟨y3, ey3⟩ : ∃ y : Int32, y = xs (i + 3).toNatClampNeg := ⟨_, rfl⟩
  obtain ⟨y4, ey4⟩ : ∃ y : Int32, y = xs (i + 4).toNatClampNeg := ⟨_, rfl⟩
  obtain ⟨y5, ey5⟩ : ∃ y : Int32, y = xs (i + 5).toNatClampNeg := ⟨_, rfl⟩
  refine lv_aload_n (pc := 391) hx hb dL_law_391 rfl (lv_at hl 1 rfl) ?_
  refine lv_aload_n (pc := 392) hx hb dL_law_392 rfl (lv_at hl 0 rfl) ?_
  refine lv_iload_n (pc := 393) hx hb dL_law_393 rfl (lv_at hl 3 rfl) ?_
  refine lv_iconst (pc := 394) (v := 1) hx hb dL_law_394 (by decide) ?_
  refine lv_iadd (pc := 395) hx hb dL_law_395 ?_
  refine va_sld (pc := 396) hx hb hXs hbl hbA hw.2.2 h1 dL_law_396 ?_
  refine x_topi ey1 ?_
  refine lv_aload_n (pc := 397) hx hb dL_law_397 rfl (lv_at hl 0 rfl) ?_
  refine lv_iload_n (pc := 398) hx hb dL_law_398 rfl (lv_at hl 3 rfl) ?_
  refine lv_iconst (pc := 399) (v := 2) hx hb dL_law_399 (by decide) ?_
  refine lv_iadd (pc := 400) hx hb dL_law_400 ?_
  refine va_sld (pc := 401) hx hb hXs hbl hbA hw.2.2 h2 dL_law_401 ?_
  refine x_topi ey2 ?_
  obtain ⟨r, P', M', hf9, hf10, hrel2⟩ := hst _ _ _ _ _ _ _ _ _ _ _ _ hrel y1 y2
  refine x_cut (pc := 402) (wr := ([1, 2, 3, 17, 18, 19, 20, 21, 22, 23, 24, 25, 26, 27, 28, 29, 30, 31, 32, 33, 34, 35, 36, 37, 38, 39, 40, 41, 42, 43, 44, 45, 46, 47, 48, 49, 50, 51, 52, 53, 54, 55, 56, 57, 58, 59, 60, 61, 62, 63, 64, 65, 66, 67, 68].filterMap (fun i => (wFull cs a q qT qP qS qDr qV qH qSm qF1 qF2 qPt T R P S Dr V Hp Sm F1 F2 Pt ++ wX10 cs am qM M)[i]?))) (ws2 := wFull cs a q qT qP qS qDr qV qH qSm qF1 qF2 qPt T R P' S Dr V Hp Sm F1 F2 Pt ++ wX10 cs am qM M) X hw [0, 12, 13, 14, 15, 16, 4, 5, 6, 7, 8, 9, 10, 11] [1, 2, 3, 17, 18, 19, 20, 21, 22, 23, 24, 25, 26, 27, 28, 29, 30, 31, 32, 33, 34, 35, 36, 37, 38, 39, 40, 41, 42, 43, 44, 45, 46, 47, 48, 49, 50, 51, 52, 53, 54, 55, 56, 57, 58, 59, 60, 61, 62, 63, 64, 65, 66, 67, 68] [55, 0, 1, 2, 61, 62, 63, 64, 65, 66, 67, 68, 56, 57, 58, 59, 60, 3, 4, 5, 6, 7, 8, 9, 10, 11, 12, 13, 14, 15, 16, 17, 18, 19, 20, 21, 22, 23, 24, 25, 26, 27, 28, 29, 30, 31, 32, 33, 34, 35, 36, 37, 38, 39, 40, 41, 42, 43, 44, 45, 46, 47, 48, 49, 50, 51, 52, 53, 54] rfl rfl (by decide) (by decide) rfl (by decide) (va_runV (As := [.int y1, .int y2]) (rest := []) ⟨hx, hb, hml, hown, hts⟩ (c_X9_right l D cs a q qS qP S P y1 y2 r P' hf9 _) (cwV 2 hts gL_law_X9_right rfl rfl rfl (by decide +kernel) ⟨Nat.le_of_ble_eq_true rfl, Nat.le_of_ble_eq_true rfl⟩) ⟨CP_blind, va_recv hK hw.1 (ci := 9) (q0 := 0) rfl rfl, x_preC X hw [0, 12, 13, 14, 15, 16, 4, 5, 6, 7, 8, 9, 10, 11] rfl (by decide) [.ref a, .int y1, .int y2]⟩ rfl rfl hl.1 rfl (lv_room (Nat.le_of_ble_eq_true rfl)) dL_law_402 ⟨Nat.le_of_ble_eq_true rfl, Nat.le_of_ble_eq_true rfl⟩) (fun H locs hw => ?_)
  refine lv_aload_n (pc := 405) hx hb dL_law_405 rfl (lv_at hl 2 rfl) ?_
  refine lv_aload_n (pc := 406) hx hb dL_law_406 rfl (lv_at hl 0 rfl) ?_
  refine lv_iload_n (pc := 407) hx hb dL_law_407 rfl (lv_at hl 3 rfl) ?_
  refine lv_iconst (pc := 408) (v := 1) hx hb dL_law_408 (by decide) ?_
  refine lv_iadd (pc := 409) hx hb dL_law_409 ?_
  refine va_sld (pc := 410) hx hb hXs hbl hbA hw.2.2 h1 dL_law_410 ?_
  refine x_topi ey1 ?_
  refine lv_aload_n (pc := 411) hx hb dL_law_411 rfl (lv_at hl 0 rfl) ?_
  refine lv_iload_n (pc := 412) hx hb dL_law_412 rfl (lv_at hl 3 rfl) ?_
  refine lv_iconst (pc := 413) (v := 2) hx hb dL_law_413 (by decide) ?_
  refine lv_iadd (pc := 414) hx hb dL_law_414 ?_
  refine va_sld (pc := 415) hx hb hXs hbl hbA hw.2.2 h2 dL_law_415 ?_
  refine x_topi ey2 ?_
  refine x_cut (pc := 416) (wr := wFull cs a q qT qP qS qDr qV qH qSm qF1 qF2 qPt T R P' S Dr V Hp Sm F1 F2 Pt) (ws2 := wFull cs a q qT qP qS qDr qV qH qSm qF1 qF2 qPt T R P' S Dr V Hp Sm F1 F2 Pt ++ wX10 cs am qM M') X hw [45, 46, 47, 48, 49, 50, 51, 52, 53, 54, 55, 56, 57, 58, 59, 60, 61, 62, 63, 64, 65, 66, 67, 68] [0, 1, 2, 3, 4, 5, 6, 7, 8, 9, 10, 11, 12, 13, 14, 15, 16, 17, 18, 19, 20, 21, 22, 23, 24, 25, 26, 27, 28, 29, 30, 31, 32, 33, 34, 35, 36, 37, 38, 39, 40, 41, 42, 43, 44] [0, 1, 2, 3, 4, 5, 6, 7, 8, 9, 10, 11, 12, 13, 14, 15, 16, 17, 18, 19, 20, 21, 22, 23, 24, 25, 26, 27, 28, 29, 30, 31, 32, 33, 34, 35, 36, 37, 38, 39, 40, 41, 42, 43, 44, 45, 46, 47, 48, 49, 50, 51, 52, 53, 54, 55, 56, 57, 58, 59, 60, 61, 62, 63, 64, 65, 66, 67, 68] rfl rfl (by decide) (by decide) rfl (by decide) (va_runV (As := [.int y1, .int y2]) (rest := [.int r]) ⟨hx, hb, hml, hown, hts⟩ (c_X10_right l D cs am qM M y1 y2 r M' hf10 _) (cwV 2 hts gL_law_X10_right rfl rfl rfl (by decide +kernel) ⟨Nat.le_of_ble_eq_true rfl, Nat.le_of_ble_eq_true rfl⟩) ⟨CP_blind, va_recv hK hw.1 (ci := 10) (q0 := 45) rfl rfl, x_preC X hw [45, 46, 47, 48, 49, 50, 51, 52, 53, 54, 55, 56, 57, 58, 59, 60, 61, 62, 63, 64, 65, 66, 67, 68] rfl (by decide) [.ref am, .int y1, .int y2]⟩ rfl rfl hl.1 rfl (lv_room (Nat.le_of_ble_eq_true rfl)) dL_law_416 ⟨Nat.le_of_ble_eq_true rfl, Nat.le_of_ble_eq_true rfl⟩) (fun H locs hw => ?_)
  refine lv_icmp_eq (pc := 419) (tgt := 1415) hx hb dL_law_419 (by decide) (fun _ => ?_) (fun c0 => absurd rfl c0)
  exact K _ _ _ ⟨q, qT, qP, qS, qDr, qV, qH, qSm, qF1, qF2, qPt, qM, T, R, P', S, Dr, V, Hp, Sm, F1, F2, Pt, M', hw, hrel2⟩ hl

set_option maxHeartbeats 4000000 in
set_option maxRecDepth 100000 in
theorem lc_odds {p : Program} {l : Launch} {e : Env} {s : State} {m : MethodId} {args : Array Value} {below : List Frame} {meth : Method} {c : Code} {D : va_G} {cs : CS} {A : Nat → Prop} {Q : State → Prop} {ad ar : Nat → Nat} {b L : Nat} {xs : Nat → Int32} {a am : Nat} {Rel : RelT} (X : FX D (TY cs) p s m args meth c cL_law 4 wsL_law RL A (some .boolean)) (hE : SE ad ar A s s.heap) (hXs : va_X b L xs s s.heap) (hbl : b < s.heap.size) (hbA : ¬ A b) {H : Heap} {locs : List Loc} {ls : Array Slot} {i : Int32} (hLW : LW Rel D A s cs a am H locs) (hl : lv_has ls 4 [(0, .ref b), (1, .ref a), (2, .ref am), (3, .int i)]) (h1 : vp_in (i + 1) L) (h2 : vp_in (i + 2) L) (h3 : vp_in (i + 3) L) (h4 : vp_in (i + 4) L) (h5 : vp_in (i + 5) L) (hst : St_odds Rel) (K : ∀ (H : Heap) (locs : List Loc) (ls : Array Slot), LW Rel D A s cs a am H locs → lv_has ls 4 [(0, .ref b), (1, .ref a), (2, .ref am), (3, .int i)] → W p l e room_1 s m args below meth c H locs 69 3778 Q (F0 m 1415 ls [])) : W p l e room_1 s m args below meth c H locs 69 3778 Q (F0 m 424 ls []) := by
  obtain ⟨hx, hb, hml, hown, hts, hK, hA, hr, hlk⟩ := id X
  obtain ⟨q, qT, qP, qS, qDr, qV, qH, qSm, qF1, qF2, qPt, qM, T, R, P, S, Dr, V, Hp, Sm, F1, F2, Pt, M, hw, hrel⟩ := hLW
  obtain ⟨y1, ey1⟩ : ∃ y : Int32, y = xs (i + 1).toNatClampNeg := ⟨_, rfl⟩
  obtain ⟨y2, ey2⟩ : ∃ y : Int32, y = xs (i + 2).toNatClampNeg := ⟨_, rfl⟩
  obtain ⟨y3, ey3⟩ : ∃ y : Int32, y = xs (i + 3).toNatClampNeg := ⟨_, rfl⟩
  obtain ⟨y4, ey4⟩ : ∃ y : Int32, y = xs (i + 4).toNatClampNeg := ⟨_, rfl⟩
  obtain ⟨y5, ey5⟩ : ∃ y : Int32, y = xs (i + 5).toNatClampNeg := ⟨_, rfl⟩
  refine lv_aload_n (pc := 424) hx hb dL_law_424 rfl (lv_at hl 1 rfl) ?_
  refine lv_aload_n (pc := 425) hx hb dL_law_425 rfl (lv_at hl 0 rfl) ?_
  refine lv_iload_n (pc := 426) hx hb dL_law_426 rfl (lv_at hl 3 rfl) ?_
  refine lv_iconst (pc := 427) (v := 1) hx hb dL_law_427 (by decide) ?_
  refine lv_iadd (pc := 428) hx hb dL_law_428 ?_
  refine va_sld (pc := 429) hx hb hXs hbl hbA hw.2.2 h1 dL_law_429 ?_
  refine x_topi ey1 ?_
  refine lv_aload_n (pc := 430) hx hb dL_law_430 rfl (lv_at hl 0 rfl) ?_
  refine lv_iload_n (pc := 431) hx hb dL_law_431 rfl (lv_at hl 3 rfl) ?_
  refine lv_iconst (pc := 432) (v := 2) hx hb dL_law_432 (by decide) ?_
  refine lv_iadd (pc := 433) hx hb dL_law_433 ?_
  refine va_sld (pc := 434) hx hb hXs hbl hbA hw.2.2 h2 dL_law_434 ?_
  refine x_topi ey2 ?_
  obtain ⟨r, S', P', M', hf9, hf10, hrel2⟩ := hst _ _ _ _ _ _ _ _ _ _ _ _ hrel y1 y2
  refine x_cut (pc := 435) (wr := ([1, 2, 3, 17, 18, 19, 20, 21, 22, 23, 24, 25, 26, 27, 28, 29, 30, 31, 32, 33, 34, 35, 36, 37, 38, 39, 40, 41, 42, 43, 44, 45, 46, 47, 48, 49, 50, 51, 52, 53, 54, 55, 56, 57, 58, 59, 60, 61, 62, 63, 64, 65, 66, 67, 68].filterMap (fun i => (wFull cs a q qT qP qS qDr qV qH qSm qF1 qF2 qPt T R P S Dr V Hp Sm F1 F2 Pt ++ wX10 cs am qM M)[i]?))) (ws2 := wFull cs a q qT qP qS qDr qV qH qSm qF1 qF2 qPt T R P' S' Dr V Hp Sm F1 F2 Pt ++ wX10 cs am qM M) X hw [0, 12, 13, 14, 15, 16, 4, 5, 6, 7, 8, 9, 10, 11] [1, 2, 3, 17, 18, 19, 20, 21, 22, 23, 24, 25, 26, 27, 28, 29, 30, 31, 32, 33, 34, 35, 36, 37, 38, 39, 40, 41, 42, 43, 44, 45, 46, 47, 48, 49, 50, 51, 52, 53, 54, 55, 56, 57, 58, 59, 60, 61, 62, 63, 64, 65, 66, 67, 68] [55, 0, 1, 2, 61, 62, 63, 64, 65, 66, 67, 68, 56, 57, 58, 59, 60, 3, 4, 5, 6, 7, 8, 9, 10, 11, 12, 13, 14, 15, 16, 17, 18, 19, 20, 21, 22, 23, 24, 25, 26, 27, 28, 29, 30, 31, 32, 33, 34, 35, 36, 37, 38, 39, 40, 41, 42, 43, 44, 45, 46, 47, 48, 49, 50, 51, 52, 53, 54] rfl rfl (by decide) (by decide) rfl (by decide) (va_runV (As := [.int y1, .int y2]) (rest := []) ⟨hx, hb, hml, hown, hts⟩ (c_X9_odds l D cs a q qS qP S P y1 y2 r S' P' hf9 _) (cwV 2 hts gL_law_X9_odds rfl rfl rfl (by decide +kernel) ⟨Nat.le_of_ble_eq_true rfl, Nat.le_of_ble_eq_true rfl⟩) ⟨CP_blind, va_recv hK hw.1 (ci := 9) (q0 := 0) rfl rfl, x_preC X hw [0, 12, 13, 14, 15, 16, 4, 5, 6, 7, 8, 9, 10, 11] rfl (by decide) [.ref a, .int y1, .int y2]⟩ rfl rfl hl.1 rfl (lv_room (Nat.le_of_ble_eq_true rfl)) dL_law_435 ⟨Nat.le_of_ble_eq_true rfl, Nat.le_of_ble_eq_true rfl⟩) (fun H locs hw => ?_)
  refine lv_aload_n (pc := 438) hx hb dL_law_438 rfl (lv_at hl 2 rfl) ?_
  refine lv_aload_n (pc := 439) hx hb dL_law_439 rfl (lv_at hl 0 rfl) ?_
  refine lv_iload_n (pc := 440) hx hb dL_law_440 rfl (lv_at hl 3 rfl) ?_
  refine lv_iconst (pc := 441) (v := 1) hx hb dL_law_441 (by decide) ?_
  refine lv_iadd (pc := 442) hx hb dL_law_442 ?_
  refine va_sld (pc := 443) hx hb hXs hbl hbA hw.2.2 h1 dL_law_443 ?_
  refine x_topi ey1 ?_
  refine lv_aload_n (pc := 444) hx hb dL_law_444 rfl (lv_at hl 0 rfl) ?_
  refine lv_iload_n (pc := 445) hx hb dL_law_445 rfl (lv_at hl 3 rfl) ?_
  refine lv_iconst (pc := 446) (v := 2) hx hb dL_law_446 (by decide) ?_
  refine lv_iadd (pc := 447) hx hb dL_law_447 ?_
  refine va_sld (pc := 448) hx hb hXs hbl hbA hw.2.2 h2 dL_law_448 ?_
  refine x_topi ey2 ?_
  refine x_cut (pc := 449) (wr := wFull cs a q qT qP qS qDr qV qH qSm qF1 qF2 qPt T R P' S' Dr V Hp Sm F1 F2 Pt) (ws2 := wFull cs a q qT qP qS qDr qV qH qSm qF1 qF2 qPt T R P' S' Dr V Hp Sm F1 F2 Pt ++ wX10 cs am qM M') X hw [45, 46, 47, 48, 49, 50, 51, 52, 53, 54, 55, 56, 57, 58, 59, 60, 61, 62, 63, 64, 65, 66, 67, 68] [0, 1, 2, 3, 4, 5, 6, 7, 8, 9, 10, 11, 12, 13, 14, 15, 16, 17, 18, 19, 20, 21, 22, 23, 24, 25, 26, 27, 28, 29, 30, 31, 32, 33, 34, 35, 36, 37, 38, 39, 40, 41, 42, 43, 44] [0, 1, 2, 3, 4, 5, 6, 7, 8, 9, 10, 11, 12, 13, 14, 15, 16, 17, 18, 19, 20, 21, 22, 23, 24, 25, 26, 27, 28, 29, 30, 31, 32, 33, 34, 35, 36, 37, 38, 39, 40, 41, 42, 43, 44, 45, 46, 47, 48, 49, 50, 51, 52, 53, 54, 55, 56, 57, 58, 59, 60, 61, 62, 63, 64, 65, 66, 67, 68] rfl rfl (by decide) (by decide) rfl (by decide) (va_runV (As := [.int y1, .int y2]) (rest := [.int r]) ⟨hx, hb, hml, hown, hts⟩ (c_X10_odds l D cs am qM M y1 y2 r M' hf10 _) (cwV 2 hts gL_law_X10_odds rfl rfl rfl (by decide +kernel) ⟨Nat.le_of_ble_eq_true rfl, Nat.le_of_ble_eq_true rfl⟩) ⟨CP_blind, va_recv hK hw.1 (ci := 10) (q0 := 45) rfl rfl, x_preC X hw [45, 46, 47, 48, 49, 50, 51, 52, 53, 54, 55, 56, 57, 58, 59, 60, 61, 62, 63, 64, 65, 66, 67, 68] rfl (by decide) [.ref am, .int y1, .int y2]⟩ rfl rfl hl.1 rfl (lv_room (Nat.le_of_ble_eq_true rfl)) dL_law_449 ⟨Nat.le_of_ble_eq_true rfl, Nat.le_of_ble_eq_true rfl⟩) (fun H locs hw => ?_)
  refine lv_icmp_eq (pc := 452) (tgt := 1415) hx hb dL_law_452 (by decide) (fun _ => ?_) (fun c0 => absurd rfl c0)
  exact K _ _ _ ⟨q, qT, qP, qS, qDr, qV, qH, qSm, qF1, qF2, qPt, qM, T, R, P', S', Dr, V, Hp, Sm, F1, F2, Pt, M', hw, hrel2⟩ hl

set_option maxHeartbeats 4000000 in
set_option maxRecDepth 100000 in
theorem lc_worst {p : Program} {l : Launch} {e : Env} {s : State} {m : MethodId} {args : Array Value} {below : List Frame} {meth : Method} {c : Code} {D : va_G} {cs : CS} {A : Nat → Prop} {Q : State → Prop} {ad ar : Nat → Nat} {b L : Nat} {xs : Nat → Int32} {a am : Nat} {Rel : RelT} (X : FX D (TY cs) p s m args meth c cL_law 4 wsL_law RL A (some .boolean)) (hE : SE ad ar A s s.heap) (hXs : va_X b L xs s s.heap) (hbl : b < s.heap.size) (hbA : ¬ A b) {H : Heap} {locs : List Loc} {ls : Array Slot} {i : Int32} (hLW : LW Rel D A s cs a am H locs) (hl : lv_has ls 4 [(0, .ref b), (1, .ref a), (2, .ref am), (3, .int i)]) (h1 : vp_in (i + 1) L) (h2 : vp_in (i + 2) L) (h3 : vp_in (i + 3) L) (h4 : vp_in (i + 4) L) (h5 : vp_in (i + 5) L) (hst : St_worst Rel) (K : ∀ (H : Heap) (locs : List Loc) (ls : Array Slot), LW Rel D A s cs a am H locs → lv_has ls 4 [(0, .ref b), (1, .ref a), (2, .ref am), (3, .int i)] → W p l e room_1 s m args below meth c H locs 69 3778 Q (F0 m 1415 ls [])) : W p l e room_1 s m args below meth c H locs 69 3778 Q (F0 m 457 ls []) := by
  obtain ⟨hx, hb, hml, hown, hts, hK, hA, hr, hlk⟩ := id X
  obtain ⟨q, qT, qP, qS, qDr, qV, qH, qSm, qF1, qF2, qPt, qM, T, R, P, S, Dr, V, Hp, Sm, F1, F2, Pt, M, hw, hrel⟩ := hLW
  obtain ⟨y1, ey1⟩ : ∃ y : Int32, y = xs (i + 1).toNatClampNeg := ⟨_, rfl⟩
  obtain ⟨y2, ey2⟩ : ∃ y : Int32, y = xs (i + 2).toNatClampNeg := ⟨_, rfl⟩
  obtain ⟨y3, ey3⟩ : ∃ y : Int32, y = xs (i + 3).toNatClampNeg := ⟨_, rfl⟩
  obtain ⟨y4, ey4⟩ : ∃ y : Int32, y = xs (i + 4).toNatClampNeg := ⟨_, rfl⟩
  obtain ⟨y5, ey5⟩ : ∃ y : Int32, y = xs (i + 5).toNatClampNeg := ⟨_, rfl⟩
  refine lv_aload_n (pc := 457) hx hb dL_law_457 rfl (lv_at hl 1 rfl) ?_
  refine lv_aload_n (pc := 458) hx hb dL_law_458 rfl (lv_at hl 0 rfl) ?_
  refine lv_iload_n (pc := 459) hx hb dL_law_459 rfl (lv_at hl 3 rfl) ?_
  refine lv_iconst (pc := 460) (v := 1) hx hb dL_law_460 (by decide) ?_
  refine lv_iadd (pc := 461) hx hb dL_law_461 ?_
  refine va_sld (pc := 462) hx hb hXs hbl hbA hw.2.2 h1 dL_law_462 ?_
  refine x_topi ey1 ?_
  obtain ⟨r, S', P', M', hf9, hf10, hrel2⟩ := hst _ _ _ _ _ _ _ _ _ _ _ _ hrel y1
  refine x_cut (pc := 463) (wr := ([1, 2, 3, 17, 18, 19, 20, 21, 22, 23, 24, 25, 26, 27, 28, 29, 30, 31, 32, 33, 34, 35, 36, 37, 38, 39, 40, 41, 42, 43, 44, 45, 46, 47, 48, 49, 50, 51, 52, 53, 54, 55, 56, 57, 58, 59, 60, 61, 62, 63, 64, 65, 66, 67, 68].filterMap (fun i => (wFull cs a q qT qP qS qDr qV qH qSm qF1 qF2 qPt T R P S Dr V Hp Sm F1 F2 Pt ++ wX10 cs am qM M)[i]?))) (ws2 := wFull cs a q qT qP qS qDr qV qH qSm qF1 qF2 qPt T R P' S' Dr V Hp Sm F1 F2 Pt ++ wX10 cs am qM M) X hw [0, 12, 13, 14, 15, 16, 4, 5, 6, 7, 8, 9, 10, 11] [1, 2, 3, 17, 18, 19, 20, 21, 22, 23, 24, 25, 26, 27, 28, 29, 30, 31, 32, 33, 34, 35, 36, 37, 38, 39, 40, 41, 42, 43, 44, 45, 46, 47, 48, 49, 50, 51, 52, 53, 54, 55, 56, 57, 58, 59, 60, 61, 62, 63, 64, 65, 66, 67, 68] [55, 0, 1, 2, 61, 62, 63, 64, 65, 66, 67, 68, 56, 57, 58, 59, 60, 3, 4, 5, 6, 7, 8, 9, 10, 11, 12, 13, 14, 15, 16, 17, 18, 19, 20, 21, 22, 23, 24, 25, 26, 27, 28, 29, 30, 31, 32, 33, 34, 35, 36, 37, 38, 39, 40, 41, 42, 43, 44, 45, 46, 47, 48, 49, 50, 51, 52, 53, 54] rfl rfl (by decide) (by decide) rfl (by decide) (va_runV (As := [.int y1]) (rest := []) ⟨hx, hb, hml, hown, hts⟩ (c_X9_worst l D cs a q qS qP S P y1 r S' P' hf9 _) (cwV 1 hts gL_law_X9_worst rfl rfl rfl (by decide +kernel) ⟨Nat.le_of_ble_eq_true rfl, Nat.le_of_ble_eq_true rfl⟩) ⟨CP_blind, va_recv hK hw.1 (ci := 9) (q0 := 0) rfl rfl, x_preC X hw [0, 12, 13, 14, 15, 16, 4, 5, 6, 7, 8, 9, 10, 11] rfl (by decide) [.ref a, .int y1]⟩ rfl rfl hl.1 rfl (lv_room (Nat.le_of_ble_eq_true rfl)) dL_law_463 ⟨Nat.le_of_ble_eq_true rfl, Nat.le_of_ble_eq_true rfl⟩) (fun H locs hw => ?_)
  refine lv_aload_n (pc := 466) hx hb dL_law_466 rfl (lv_at hl 2 rfl) ?_
  refine lv_aload_n (pc := 467) hx hb dL_law_467 rfl (lv_at hl 0 rfl) ?_
  refine lv_iload_n (pc := 468) hx hb dL_law_468 rfl (lv_at hl 3 rfl) ?_
  refine lv_iconst (pc := 469) (v := 1) hx hb dL_law_469 (by decide) ?_
  refine lv_iadd (pc := 470) hx hb dL_law_470 ?_
  refine va_sld (pc := 471) hx hb hXs hbl hbA hw.2.2 h1 dL_law_471 ?_
  refine x_topi ey1 ?_
  refine x_cut (pc := 472) (wr := wFull cs a q qT qP qS qDr qV qH qSm qF1 qF2 qPt T R P' S' Dr V Hp Sm F1 F2 Pt) (ws2 := wFull cs a q qT qP qS qDr qV qH qSm qF1 qF2 qPt T R P' S' Dr V Hp Sm F1 F2 Pt ++ wX10 cs am qM M') X hw [45, 46, 47, 48, 49, 50, 51, 52, 53, 54, 55, 56, 57, 58, 59, 60, 61, 62, 63, 64, 65, 66, 67, 68] [0, 1, 2, 3, 4, 5, 6, 7, 8, 9, 10, 11, 12, 13, 14, 15, 16, 17, 18, 19, 20, 21, 22, 23, 24, 25, 26, 27, 28, 29, 30, 31, 32, 33, 34, 35, 36, 37, 38, 39, 40, 41, 42, 43, 44] [0, 1, 2, 3, 4, 5, 6, 7, 8, 9, 10, 11, 12, 13, 14, 15, 16, 17, 18, 19, 20, 21, 22, 23, 24, 25, 26, 27, 28, 29, 30, 31, 32, 33, 34, 35, 36, 37, 38, 39, 40, 41, 42, 43, 44, 45, 46, 47, 48, 49, 50, 51, 52, 53, 54, 55, 56, 57, 58, 59, 60, 61, 62, 63, 64, 65, 66, 67, 68] rfl rfl (by decide) (by decide) rfl (by decide) (va_runV (As := [.int y1]) (rest := [.int r]) ⟨hx, hb, hml, hown, hts⟩ (c_X10_worst l D cs am qM M y1 r M' hf10 _) (cwV 1 hts gL_law_X10_worst rfl rfl rfl (by decide +kernel) ⟨Nat.le_of_ble_eq_true rfl, Nat.le_of_ble_eq_true rfl⟩) ⟨CP_blind, va_recv hK hw.1 (ci := 10) (q0 := 45) rfl rfl, x_preC X hw [45, 46, 47, 48, 49, 50, 51, 52, 53, 54, 55, 56, 57, 58, 59, 60, 61, 62, 63, 64, 65, 66, 67, 68] rfl (by decide) [.ref am, .int y1]⟩ rfl rfl hl.1 rfl (lv_room (Nat.le_of_ble_eq_true rfl)) dL_law_472 ⟨Nat.le_of_ble_eq_true rfl, Nat.le_of_ble_eq_true rfl⟩) (fun H locs hw => ?_)
  refine lv_icmp_eq (pc := 475) (tgt := 1415) hx hb dL_law_475 (by decide) (fun _ => ?_) (fun c0 => absurd rfl c0)
  exact K _ _ _ ⟨q, qT, qP, qS, qDr, qV, qH, qSm, qF1, qF2, qPt, qM, T, R, P', S', Dr, V, Hp, Sm, F1, F2, Pt, M', hw, hrel2⟩ hl
