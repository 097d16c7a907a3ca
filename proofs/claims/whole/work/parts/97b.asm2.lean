set_option linter.unusedSectionVars false
/-! the other equalities -/
theorem st_odds : St_odds (RelW RP) := by
  intro T R P S Dr V Hp Sm F1 F2 Pt M hR p1 p2
  obtain ⟨hT, hP, hV, hS, h1, h2⟩ := hR
  obtain ⟨r, S', P', M', a, b, c, d⟩ := g_odds hP p1 p2
  exact ⟨r, S', P', M', a, b, hT.fr d (by decide) (by decide), c, hV.fr d (by decide) (by decide), hS, h1.sx d (by decide), h2.sx d (by decide)⟩
theorem st_worst : St_worst (RelW RP) := by
  intro T R P S Dr V Hp Sm F1 F2 Pt M hR p1
  obtain ⟨hT, hP, hV, hS, h1, h2⟩ := hR
  obtain ⟨r, S', P', M', a, b, c, d⟩ := g_worst hP p1
  exact ⟨r, S', P', M', a, b, hT.fr d (by decide) (by decide), c, hV.fr d (by decide) (by decide), hS, h1.sx d (by decide), h2.sx d (by decide)⟩
theorem st_mean : St_mean (RelW RP) := by
  intro T R P S Dr V Hp Sm F1 F2 Pt M hR p1
  obtain ⟨hT, hP, hV, hS, h1, h2⟩ := hR
  obtain ⟨r, S', P', M', a, b, c, d⟩ := g_mean hP p1
  exact ⟨r, S', P', M', a, b, hT.fr d (by decide) (by decide), c, hV.fr d (by decide) (by decide), hS, h1.sx d (by decide), h2.sx d (by decide)⟩
theorem st_seen : St_seen (RelW RP) := by
  intro T R P S Dr V Hp Sm F1 F2 Pt M hR p1 p2
  obtain ⟨hT, hP, hV, hS, h1, h2⟩ := hR
  obtain ⟨r, S', P', M', a, b, c, d⟩ := g_seen hP p1 p2
  exact ⟨r, S', P', M', a, b, hT.fr d (by decide) (by decide), c, hV.fr d (by decide) (by decide), hS, h1.sx d (by decide), h2.sx d (by decide)⟩
theorem st_kept : St_kept (RelW RP) := by
  intro T R P S Dr V Hp Sm F1 F2 Pt M hR p1
  obtain ⟨hT, hP, hV, hS, h1, h2⟩ := hR
  obtain ⟨r, S', P', M', a, b, c, d⟩ := g_kept hP p1
  exact ⟨r, S', P', M', a, b, hT.fr d (by decide) (by decide), c, hV.fr d (by decide) (by decide), hS, h1.sx d (by decide), h2.sx d (by decide)⟩
theorem st_good : St_good (RelW RP) := by
  intro T R P S Dr V Hp Sm F1 F2 Pt M hR p1
  obtain ⟨hT, hP, hV, hS, h1, h2⟩ := hR
  obtain ⟨r, S', P', M', a, b, c, d⟩ := g_good hP p1
  exact ⟨r, S', P', M', a, b, hT.fr d (by decide) (by decide), c, hV.fr d (by decide) (by decide), hS, h1.sx d (by decide), h2.sx d (by decide)⟩
theorem st_together : St_together (RelW RP) := by
  intro T R P S Dr V Hp Sm F1 F2 Pt M hR p1
  obtain ⟨hT, hP, hV, hS, h1, h2⟩ := hR
  obtain ⟨r, S', P', M', a, b, c, d⟩ := g_together hP p1
  exact ⟨r, S', P', M', a, b, hT.fr d (by decide) (by decide), c, hV.fr d (by decide) (by decide), hS, h1.sx d (by decide), h2.sx d (by decide)⟩
theorem st_again : St_again (RelW RP) := by
  intro T R P S Dr V Hp Sm F1 F2 Pt M hR p1 p2
  obtain ⟨hT, hP, hV, hS, h1, h2⟩ := hR
  obtain ⟨r, S', P', M', a, b, c, d⟩ := g_again hP p1 p2
  exact ⟨r, S', P', M', a, b, hT.fr d (by decide) (by decide), c, hV.fr d (by decide) (by decide), hS, h1.sx d (by decide), h2.sx d (by decide)⟩
theorem st_cap : St_cap (RelW RP) := by
  intro T R P S Dr V Hp Sm F1 F2 Pt M hR p1 p2
  obtain ⟨hT, hP, hV, hS, h1, h2⟩ := hR
  obtain ⟨r, S', P', M', a, b, c, d⟩ := g_cap hP p1 p2
  exact ⟨r, S', P', M', a, b, hT.fr d (by decide) (by decide), c, hV.fr d (by decide) (by decide), hS, h1.sx d (by decide), h2.sx d (by decide)⟩
theorem st_least : St_least (RelW RP) := by
  intro T R P S Dr V Hp Sm F1 F2 Pt M hR p1 p2 p3 p4
  obtain ⟨hT, hP, hV, hS, h1, h2⟩ := hR
  obtain ⟨r, a, b⟩ := g_least M hS p1 p2 p3 p4
  exact ⟨r, a, b, hT, hP, hV, hS, h1, h2⟩
theorem st_fault : St_fault (RelW RP) := by
  intro T R P S Dr V Hp Sm F1 F2 Pt M hR
  obtain ⟨hT, hP, hV, hS, h1, h2⟩ := hR
  obtain ⟨r, R', Dr', M', a, b, c, d, e⟩ := g_fault hT hP R Dr
  exact ⟨r, R', Dr', M', a, b, c, d, hV.fr e (by decide) (by decide), hS, h1.sx e (by decide), h2.sx e (by decide)⟩
theorem st_program : St_program (RelW RP) := by
  intro T R P S Dr V Hp Sm F1 F2 Pt M hR
  obtain ⟨hT, hP, hV, hS, h1, h2⟩ := hR
  obtain ⟨v, R', Dr', a, b⟩ := g_program hT hP R Dr
  refine ⟨v, R', Dr', a, ?_⟩
  rcases b with ⟨b, M', c, d, e, f⟩ | ⟨b, M', c, d, e, f⟩
  · exact Or.inl ⟨b, M', c, d, e, hV.fr f (by decide) (by decide), hS, h1.sx f (by decide), h2.sx f (by decide)⟩
  · exact Or.inr ⟨b, M', c, d, e, hV.fr f (by decide) (by decide), hS, h1.sx f (by decide), h2.sx f (by decide)⟩
theorem all_st : AllSt (RelW RP) := ⟨st_write hRP, st_erase hRP, st_fault, st_program, st_draw, st_inputs, st_run, st_right, st_odds, st_worst, st_mean, st_seen, st_kept, st_good, st_together, st_again, st_cap, st_knots hRP, st_edge hRP, st_cord hRP, st_measure hRP, st_expect hRP, st_byMeans hRP, st_best hRP, st_heap hRP, st_made hRP, st_of hRP, st_even hRP, st_error hRP, st_least, st_walks hRP, st_term hRP, st_value hRP, st_degree hRP, st_same hRP, st_pressed hRP, st_mixed hRP, st_count⟩
