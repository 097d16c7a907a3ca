/-! which verb stands here, both sides -/
section NUM2
variable {T M R : PS} {n : Nat} {tx : Nat → Nat}
theorem verb3 (hT : TX T n tx) {b : Nat} (k : TK n tx R M b) : ∃ v, f_X3_verbHere R T = some v ∧ ((v = -1 ∧ ∀ w, w < 9 → ¬ MW n tx b w) ∨ ∃ w, w < 9 ∧ MW n tx b w ∧ v = nI w) := by
  obtain ⟨f0, x0, y0, z0⟩ := word3 hT k (w := 0) (by decide)
  obtain ⟨f1, x1, y1, z1⟩ := word3 hT k (w := 1) (by decide)
  obtain ⟨f2, x2, y2, z2⟩ := word3 hT k (w := 2) (by decide)
  obtain ⟨f3, x3, y3, z3⟩ := word3 hT k (w := 3) (by decide)
  obtain ⟨f4, x4, y4, z4⟩ := word3 hT k (w := 4) (by decide)
  obtain ⟨f5, x5, y5, z5⟩ := word3 hT k (w := 5) (by decide)
  obtain ⟨f6, x6, y6, z6⟩ := word3 hT k (w := 6) (by decide)
  obtain ⟨f7, x7, y7, z7⟩ := word3 hT k (w := 7) (by decide)
  obtain ⟨f8, x8, y8, z8⟩ := word3 hT k (w := 8) (by decide)
  unfold f_X3_verbHere
  rw [x0, b1_some]
  by_cases c0 : MW n tx b 0
  · rw [z0.mpr c0, if_neg one_ne0]
    exact ⟨_, rfl, Or.inr ⟨0, by decide, c0, rfl⟩⟩
  rw [fl0 y0 z0 c0, if_pos rfl]
  rw [x1, b1_some]
  by_cases c1 : MW n tx b 1
  · rw [z1.mpr c1, if_neg one_ne0]
    exact ⟨_, rfl, Or.inr ⟨1, by decide, c1, rfl⟩⟩
  rw [fl0 y1 z1 c1, if_pos rfl]
  rw [x2, b1_some]
  by_cases c2 : MW n tx b 2
  · rw [z2.mpr c2, if_neg one_ne0]
    exact ⟨_, rfl, Or.inr ⟨2, by decide, c2, rfl⟩⟩
  rw [fl0 y2 z2 c2, if_pos rfl]
  rw [x3, b1_some]
  by_cases c3 : MW n tx b 3
  · rw [z3.mpr c3, if_neg one_ne0]
    exact ⟨_, rfl, Or.inr ⟨3, by decide, c3, rfl⟩⟩
  rw [fl0 y3 z3 c3, if_pos rfl]
  rw [x4, b1_some]
  by_cases c4 : MW n tx b 4
  · rw [z4.mpr c4, if_neg one_ne0]
    exact ⟨_, rfl, Or.inr ⟨4, by decide, c4, rfl⟩⟩
  rw [fl0 y4 z4 c4, if_pos rfl]
  rw [x5, b1_some]
  by_cases c5 : MW n tx b 5
  · rw [z5.mpr c5, if_neg one_ne0]
    exact ⟨_, rfl, Or.inr ⟨5, by decide, c5, rfl⟩⟩
  rw [fl0 y5 z5 c5, if_pos rfl]
  rw [x6, b1_some]
  by_cases c6 : MW n tx b 6
  · rw [z6.mpr c6, if_neg one_ne0]
    exact ⟨_, rfl, Or.inr ⟨6, by decide, c6, rfl⟩⟩
  rw [fl0 y6 z6 c6, if_pos rfl]
  rw [x7, b1_some]
  by_cases c7 : MW n tx b 7
  · rw [z7.mpr c7, if_neg one_ne0]
    exact ⟨_, rfl, Or.inr ⟨7, by decide, c7, rfl⟩⟩
  rw [fl0 y7 z7 c7, if_pos rfl]
  rw [x8, b1_some]
  by_cases c8 : MW n tx b 8
  · rw [z8.mpr c8, if_neg one_ne0]
    exact ⟨_, rfl, Or.inr ⟨8, by decide, c8, rfl⟩⟩
  rw [fl0 y8 z8 c8, if_pos rfl]
  refine ⟨-1, rfl, Or.inl ⟨rfl, fun w hw => ?_⟩⟩
  rcases (show w = 0 ∨ w = 1 ∨ w = 2 ∨ w = 3 ∨ w = 4 ∨ w = 5 ∨ w = 6 ∨ w = 7 ∨ w = 8 by omega) with rfl | rfl | rfl | rfl | rfl | rfl | rfl | rfl | rfl <;> assumption
theorem verb10 (hM : TX M n tx) {b : Nat} (hb : b ≤ n) (t7 : M.1 29 = nI b) (t8 : M.1 30 = nI (enN n tx b)) : ∃ v, f_X10_wordNow M = some v ∧ ((v = -1 ∧ ∀ w, w < 8 → ¬ MW n tx b w) ∨ ∃ w, w < 8 ∧ MW n tx b w ∧ v = nI w) := by
  obtain ⟨f0, x0, y0, z0⟩ := word10 hM hb t7 t8 (w := 0) (by decide)
  obtain ⟨f1, x1, y1, z1⟩ := word10 hM hb t7 t8 (w := 1) (by decide)
  obtain ⟨f2, x2, y2, z2⟩ := word10 hM hb t7 t8 (w := 2) (by decide)
  obtain ⟨f3, x3, y3, z3⟩ := word10 hM hb t7 t8 (w := 3) (by decide)
  obtain ⟨f4, x4, y4, z4⟩ := word10 hM hb t7 t8 (w := 4) (by decide)
  obtain ⟨f5, x5, y5, z5⟩ := word10 hM hb t7 t8 (w := 5) (by decide)
  obtain ⟨f6, x6, y6, z6⟩ := word10 hM hb t7 t8 (w := 6) (by decide)
  obtain ⟨f7, x7, y7, z7⟩ := word10 hM hb t7 t8 (w := 7) (by decide)
  unfold f_X10_wordNow
  rw [show f_X10_isWord M (755268) 4 = some f0 from x0, b1_some]
  by_cases c0 : MW n tx b 0
  · rw [z0.mpr c0, if_neg one_ne0]
    exact ⟨_, rfl, Or.inr ⟨0, by decide, c0, rfl⟩⟩
  rw [fl0 y0 z0 c0, if_pos rfl]
  rw [show f_X10_isWord M (457) 2 = some f1 from x1, b1_some]
  by_cases c1 : MW n tx b 1
  · rw [z1.mpr c1, if_neg one_ne0]
    exact ⟨_, rfl, Or.inr ⟨1, by decide, c1, rfl⟩⟩
  rw [fl0 y1 z1 c1, if_pos rfl]
  rw [show f_X10_isWord M (617) 2 = some f2 from x2, b1_some]
  by_cases c2 : MW n tx b 2
  · rw [z2.mpr c2, if_neg one_ne0]
    exact ⟨_, rfl, Or.inr ⟨2, by decide, c2, rfl⟩⟩
  rw [fl0 y2 z2 c2, if_pos rfl]
  rw [show f_X10_isWord M (4225) 3 = some f3 from x3, b1_some]
  by_cases c3 : MW n tx b 3
  · rw [z3.mpr c3, if_neg one_ne0]
    exact ⟨_, rfl, Or.inr ⟨3, by decide, c3, rfl⟩⟩
  rw [fl0 y3 z3 c3, if_pos rfl]
  rw [show f_X10_isWord M (12973) 3 = some f4 from x4, b1_some]
  by_cases c4 : MW n tx b 4
  · rw [z4.mpr c4, if_neg one_ne0]
    exact ⟨_, rfl, Or.inr ⟨4, by decide, c4, rfl⟩⟩
  rw [fl0 y4 z4 c4, if_pos rfl]
  rw [show f_X10_isWord M (18936) 3 = some f5 from x5, b1_some]
  by_cases c5 : MW n tx b 5
  · rw [z5.mpr c5, if_neg one_ne0]
    exact ⟨_, rfl, Or.inr ⟨5, by decide, c5, rfl⟩⟩
  rw [fl0 y5 z5 c5, if_pos rfl]
  rw [show f_X10_isWord M (642220) 4 = some f6 from x6, b1_some]
  by_cases c6 : MW n tx b 6
  · rw [z6.mpr c6, if_neg one_ne0]
    exact ⟨_, rfl, Or.inr ⟨6, by decide, c6, rfl⟩⟩
  rw [fl0 y6 z6 c6, if_pos rfl]
  rw [show f_X10_isWord M (363824) 4 = some f7 from x7, b1_some]
  by_cases c7 : MW n tx b 7
  · rw [z7.mpr c7, if_neg one_ne0]
    exact ⟨_, rfl, Or.inr ⟨7, by decide, c7, rfl⟩⟩
  rw [fl0 y7 z7 c7, if_pos rfl]
  refine ⟨-1, rfl, Or.inl ⟨rfl, fun w hw => ?_⟩⟩
  rcases (show w = 0 ∨ w = 1 ∨ w = 2 ∨ w = 3 ∨ w = 4 ∨ w = 5 ∨ w = 6 ∨ w = 7 by omega) with rfl | rfl | rfl | rfl | rfl | rfl | rfl | rfl <;> assumption
end NUM2
