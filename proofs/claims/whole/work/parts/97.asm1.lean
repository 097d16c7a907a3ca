set_option linter.unusedSectionVars false
/-! the relation of the two states; the equalities that stand -/
def RPok (RP : PS → PS → PS → Prop) : Prop := ∀ P S M M', RP P S M → (∀ k, k = 7 ∨ k = 10 ∨ k = 11 ∨ k = 12 ∨ k = 13 → M'.1 k = M.1 k) → (∀ k, k = 2 ∨ k = 3 ∨ k = 4 ∨ k = 5 ∨ k = 6 ∨ k = 9 → M'.2.1 k = M.2.1 k) → RP P S M'
def RelW (RP : PS → PS → PS → Prop) : RelT := fun T _ P S _ V Hp Sm F1 F2 _ M => RText T M ∧ RP P S M ∧ RWeb V Hp M ∧ RSm Sm ∧ RSum 0 F1 M ∧ RSum 1 F2 M
theorem RPok.fr {RP : PS → PS → PS → Prop} (h : RPok RP) {P S M M' : PS} {is as ls : List Nat} (hp : RP P S M) (g : SX is as ls M M') (h1 : 7 ∉ is ∧ 10 ∉ is ∧ 11 ∉ is ∧ 12 ∉ is ∧ 13 ∉ is) (h2 : 2 ∉ as ∧ 3 ∉ as ∧ 4 ∉ as ∧ 5 ∉ as ∧ 6 ∉ as ∧ 9 ∉ as) : RP P S M' := by
  obtain ⟨a1, a2, a3, a4, a5⟩ := h1
  obtain ⟨b1, b2, b3, b4, b5, b6⟩ := h2
  refine h P S M M' hp (fun k hk => g.1 k ?_) (fun k hk => g.2.1 k ?_)
  · rcases hk with rfl | rfl | rfl | rfl | rfl <;> assumption
  · rcases hk with rfl | rfl | rfl | rfl | rfl | rfl <;> assumption
theorem RSum.sx {j : Nat} {F M M' : PS} {is as ls : List Nat} (h : RSum j F M) (g : SX is as ls M M') (h2 : 23 ∉ as ∧ 24 ∉ as ∧ 25 ∉ as ∧ 26 ∉ as ∧ 27 ∉ as) : RSum j F M' := by
  obtain ⟨b1, b2, b3, b4, b5⟩ := h2
  refine h.fr (fun k hk => g.2.1 k ?_)
  rcases hk with rfl | rfl | rfl | rfl | rfl <;> assumption
theorem st_write {RP : PS → PS → PS → Prop} (hRP : RPok RP) : St_write (RelW RP) := by
  intro T R P S Dr V Hp Sm F1 F2 Pt M hR p1 p2
  obtain ⟨hT, hP, hV, hS, h1, h2⟩ := hR
  obtain ⟨r, T', M', a, b, c, d⟩ := g_write hT p1 p2
  exact ⟨r, T', M', a, b, c, hRP.fr hP d (by decide) (by decide), hV.fr d (by decide) (by decide), hS, h1.sx d (by decide), h2.sx d (by decide)⟩
theorem st_erase {RP : PS → PS → PS → Prop} (hRP : RPok RP) : St_erase (RelW RP) := by
  intro T R P S Dr V Hp Sm F1 F2 Pt M hR
  obtain ⟨hT, hP, hV, hS, h1, h2⟩ := hR
  obtain ⟨r, T', M', a, b, c, d⟩ := g_erase hT
  exact ⟨r, T', M', a, b, c, hRP.fr hP d (by decide) (by decide), hV.fr d (by decide) (by decide), hS, h1.sx d (by decide), h2.sx d (by decide)⟩
theorem st_knots {RP : PS → PS → PS → Prop} (hRP : RPok RP) : St_knots (RelW RP) := by
  intro T R P S Dr V Hp Sm F1 F2 Pt M hR p1
  obtain ⟨hT, hP, hV, hS, h1, h2⟩ := hR
  obtain ⟨r, V', Hp', M', a, b, c, d⟩ := g_knots hV p1
  exact ⟨r, V', Hp', M', a, b, hT.fr d (by decide) (by decide), hRP.fr hP d (by decide) (by decide), c, hS, h1.sx d (by decide), h2.sx d (by decide)⟩
theorem st_edge {RP : PS → PS → PS → Prop} (hRP : RPok RP) : St_edge (RelW RP) := by
  intro T R P S Dr V Hp Sm F1 F2 Pt M hR p1 p2 p3
  obtain ⟨hT, hP, hV, hS, h1, h2⟩ := hR
  obtain ⟨r, V', M', a, b, c, d⟩ := g_edge hV p1 p2 p3
  exact ⟨r, V', M', a, b, hT.fr d (by decide) (by decide), hRP.fr hP d (by decide) (by decide), c, hS, h1.sx d (by decide), h2.sx d (by decide)⟩
theorem st_cord {RP : PS → PS → PS → Prop} (hRP : RPok RP) : St_cord (RelW RP) := by
  intro T R P S Dr V Hp Sm F1 F2 Pt M hR p1
  obtain ⟨hT, hP, hV, hS, h1, h2⟩ := hR
  obtain ⟨r, V', M', a, b, c, d⟩ := g_cord hV p1
  exact ⟨r, V', M', a, b, hT.fr d (by decide) (by decide), hRP.fr hP d (by decide) (by decide), c, hS, h1.sx d (by decide), h2.sx d (by decide)⟩
theorem st_heap {RP : PS → PS → PS → Prop} (hRP : RPok RP) : St_heap (RelW RP) := by
  intro T R P S Dr V Hp Sm F1 F2 Pt M hR p1
  obtain ⟨hT, hP, hV, hS, h1, h2⟩ := hR
  obtain ⟨r, Hp', M', a, b, c, d⟩ := g_heap hV p1
  exact ⟨r, Hp', M', a, b, hT.fr d (by decide) (by decide), hRP.fr hP d (by decide) (by decide), c, hS, h1.sx d (by decide), h2.sx d (by decide)⟩
theorem st_made {RP : PS → PS → PS → Prop} (hRP : RPok RP) : St_made (RelW RP) := by
  intro T R P S Dr V Hp Sm F1 F2 Pt M hR p1
  obtain ⟨hT, hP, hV, hS, h1, h2⟩ := hR
  obtain ⟨r, Hp', M', a, b, c, d⟩ := g_made hV p1
  exact ⟨r, Hp', M', a, b, hT.fr d (by decide) (by decide), hRP.fr hP d (by decide) (by decide), c, hS, h1.sx d (by decide), h2.sx d (by decide)⟩
theorem st_walks {RP : PS → PS → PS → Prop} (hRP : RPok RP) : St_walks (RelW RP) := by
  intro T R P S Dr V Hp Sm F1 F2 Pt M hR p1 p2 qV
  obtain ⟨hT, hP, hV, hS, h1, h2⟩ := hR
  obtain ⟨r, V', qV', M', a, b, c, d⟩ := g_walks hV p1 p2 qV
  exact ⟨r, V', qV', M', a, b, hT.fr d (by decide) (by decide), hRP.fr hP d (by decide) (by decide), c, hS, h1.sx d (by decide), h2.sx d (by decide)⟩
theorem st_measure {RP : PS → PS → PS → Prop} (hRP : RPok RP) : St_measure (RelW RP) := by
  intro T R P S Dr V Hp Sm F1 F2 Pt M hR p1 p2
  obtain ⟨hT, hP, hV, hS, h1, h2⟩ := hR
  obtain ⟨r, a, b⟩ := g_measure hV p1 p2
  exact ⟨r, a, b, hT, hP, hV, hS, h1, h2⟩
theorem st_expect {RP : PS → PS → PS → Prop} (hRP : RPok RP) : St_expect (RelW RP) := by
  intro T R P S Dr V Hp Sm F1 F2 Pt M hR p1 p2 p3 p4
  obtain ⟨hT, hP, hV, hS, h1, h2⟩ := hR
  obtain ⟨r, a, b⟩ := g_expect hV p1 p2 p3 p4
  exact ⟨r, a, b, hT, hP, hV, hS, h1, h2⟩
theorem st_byMeans {RP : PS → PS → PS → Prop} (hRP : RPok RP) : St_byMeans (RelW RP) := by
  intro T R P S Dr V Hp Sm F1 F2 Pt M hR p1
  obtain ⟨hT, hP, hV, hS, h1, h2⟩ := hR
  obtain ⟨r, a, b⟩ := g_byMeans hV p1
  exact ⟨r, a, b, hT, hP, hV, hS, h1, h2⟩
theorem st_best {RP : PS → PS → PS → Prop} (hRP : RPok RP) : St_best (RelW RP) := by
  intro T R P S Dr V Hp Sm F1 F2 Pt M hR p1
  obtain ⟨hT, hP, hV, hS, h1, h2⟩ := hR
  obtain ⟨r, a, b⟩ := g_best hV p1
  exact ⟨r, a, b, hT, hP, hV, hS, h1, h2⟩
theorem st_of {RP : PS → PS → PS → Prop} (hRP : RPok RP) : St_of (RelW RP) := by
  intro T R P S Dr V Hp Sm F1 F2 Pt M hR p1
  obtain ⟨hT, hP, hV, hS, h1, h2⟩ := hR
  obtain ⟨r, a, b⟩ := g_of hV p1
  exact ⟨r, a, b, hT, hP, hV, hS, h1, h2⟩
theorem st_even {RP : PS → PS → PS → Prop} (hRP : RPok RP) : St_even (RelW RP) := by
  intro T R P S Dr V Hp Sm F1 F2 Pt M hR p1
  obtain ⟨hT, hP, hV, hS, h1, h2⟩ := hR
  obtain ⟨r, a, b⟩ := g_even hV p1
  exact ⟨r, a, b, hT, hP, hV, hS, h1, h2⟩
theorem st_error {RP : PS → PS → PS → Prop} (hRP : RPok RP) : St_error (RelW RP) := by
  intro T R P S Dr V Hp Sm F1 F2 Pt M hR p1 p2
  obtain ⟨hT, hP, hV, hS, h1, h2⟩ := hR
  obtain ⟨r, a, b⟩ := g_error hV p1 p2
  exact ⟨r, a, b, hT, hP, hV, hS, h1, h2⟩
theorem st_term {RP : PS → PS → PS → Prop} (hRP : RPok RP) : St_term (RelW RP) := by
  intro T R P S Dr V Hp Sm F1 F2 Pt M hR p1 p2 p3 p4 p5
  obtain ⟨hT, hP, hV, hS, h1, h2⟩ := hR
  obtain ⟨r, F1', F2', M', a, b, c, c2, d⟩ := g_term h1 h2 p1 p2 p3 p4 p5
  exact ⟨r, F1', F2', M', a, b, hT.fr d (by decide) (by decide), hRP.fr hP d (by decide) (by decide), hV.fr d (by decide) (by decide), hS, c, c2⟩
theorem st_value {RP : PS → PS → PS → Prop} (hRP : RPok RP) : St_value (RelW RP) := by
  intro T R P S Dr V Hp Sm F1 F2 Pt M hR p1 p2 p3 p4
  obtain ⟨hT, hP, hV, hS, h1, h2⟩ := hR
  obtain ⟨r, Pt', a, b⟩ := g_value Pt h1 h2 p1 p2 p3 p4
  exact ⟨r, Pt', a, b, hT, hP, hV, hS, h1, h2⟩
theorem st_degree {RP : PS → PS → PS → Prop} (hRP : RPok RP) : St_degree (RelW RP) := by
  intro T R P S Dr V Hp Sm F1 F2 Pt M hR p1
  obtain ⟨hT, hP, hV, hS, h1, h2⟩ := hR
  obtain ⟨r, a, b⟩ := g_degree h1 h2 p1
  exact ⟨r, a, b, hT, hP, hV, hS, h1, h2⟩
theorem st_same {RP : PS → PS → PS → Prop} (hRP : RPok RP) : St_same (RelW RP) := by
  intro T R P S Dr V Hp Sm F1 F2 Pt M hR p1 p2
  obtain ⟨hT, hP, hV, hS, h1, h2⟩ := hR
  obtain ⟨r, Pt', a, b⟩ := g_same Pt h1 h2 p1 p2
  exact ⟨r, Pt', a, b, hT, hP, hV, hS, h1, h2⟩
theorem st_pressed {RP : PS → PS → PS → Prop} (hRP : RPok RP) : St_pressed (RelW RP) := by
  intro T R P S Dr V Hp Sm F1 F2 Pt M hR p1 p2 p3
  obtain ⟨hT, hP, hV, hS, h1, h2⟩ := hR
  obtain ⟨r, a, b⟩ := g_pressed M p1 p2 p3
  exact ⟨r, a, b, hT, hP, hV, hS, h1, h2⟩
theorem st_mixed {RP : PS → PS → PS → Prop} (hRP : RPok RP) : St_mixed (RelW RP) := by
  intro T R P S Dr V Hp Sm F1 F2 Pt M hR p1 p2 p3
  obtain ⟨hT, hP, hV, hS, h1, h2⟩ := hR
  obtain ⟨r, a, b⟩ := g_mixed M hS p1 p2 p3
  exact ⟨r, a, b, hT, hP, hV, hS, h1, h2⟩
theorem hRP : RPok RP := RP_ok
theorem st_draw : St_draw (RelW RP) := by
  intro T R P S Dr V Hp Sm F1 F2 Pt M hR p1
  obtain ⟨hT, hP, hV, hS, h1, h2⟩ := hR
  obtain ⟨r, a, b⟩ := g_draw hP p1
  exact ⟨r, a, b, hT, hP, hV, hS, h1, h2⟩
theorem st_inputs : St_inputs (RelW RP) := by
  intro T R P S Dr V Hp Sm F1 F2 Pt M hR p1 p2
  obtain ⟨hT, hP, hV, hS, h1, h2⟩ := hR
  obtain ⟨r, S', M', a, b, c, d⟩ := g_inputs hP p1 p2
  exact ⟨r, S', M', a, b, hT.fr d (by decide) (by decide), c, hV.fr d (by decide) (by decide), hS, h1.sx d (by decide), h2.sx d (by decide)⟩
theorem st_run : St_run (RelW RP) := by
  intro T R P S Dr V Hp Sm F1 F2 Pt M hR p1 p2
  obtain ⟨hT, hP, hV, hS, h1, h2⟩ := hR
  obtain ⟨r, P', M', a, b, c, d⟩ := g_run hP p1 p2
  exact ⟨r, P', M', a, b, hT.fr d (by decide) (by decide), c, hV.fr d (by decide) (by decide), hS, h1.sx d (by decide), h2.sx d (by decide)⟩
theorem st_right : St_right (RelW RP) := by
  intro T R P S Dr V Hp Sm F1 F2 Pt M hR p1 p2
  obtain ⟨hT, hP, hV, hS, h1, h2⟩ := hR
  obtain ⟨r, P', M', a, b, c, d⟩ := g_right hP p1 p2
  exact ⟨r, P', M', a, b, hT.fr d (by decide) (by decide), c, hV.fr d (by decide) (by decide), hS, h1.sx d (by decide), h2.sx d (by decide)⟩
theorem st_count : St_count (RelW RP) := by
  intro T R P S Dr V Hp Sm F1 F2 Pt M hR p1
  obtain ⟨hT, hP, hV, hS, h1, h2⟩ := hR
  obtain ⟨r, a, b⟩ := g_count hT hP hV p1
  exact ⟨r, a, b, hT, hP, hV, hS, h1, h2⟩
