/-! count; the fresh states -/
theorem g_count {T P S V Hp M : PS} (hT : RText T M) (hP : RP P S M) (hV : RWeb V Hp M) (p1 : Int32) : ∃ r : Int32, f_X9_count T S P V Hp p1 = some r ∧ f_X10_count M p1 = some r := by
  obtain ⟨t, t1, t2, t3, t4⟩ := hT
  obtain ⟨nl, nd, rw, wd, kd, ce, aa, ab, ac, dn, dz, ⟨a1, a2, a3, a4, a5, a6, a7, a8, a9, a10, aD, aK, aN, aS⟩, b, c, d, e, f, g⟩ := hP
  obtain ⟨n, e', c', h, ea, eb, ew, ce', hr, hW⟩ := hV
  obtain ⟨w1, w2, w3, w4, w5, w6, w7, w8, w9, w10, w11, w12, w13, wE, wC, wH⟩ := id hW
  unfold f_X9_count f_X10_count f_X7_inputCount
  rw [t2, t3, a5, a6, a7, a8, a9, a10, c, d, w8, w9, w10, w11, w12, w13]
  simp only [b1_some]
  by_cases g0 : p1 = 0
  · rw [if_pos g0]; exact ⟨_, rfl, rfl⟩
  rw [if_neg g0]
  by_cases g1 : p1 = 1
  · rw [if_pos g1]; exact ⟨_, rfl, rfl⟩
  rw [if_neg g1]
  by_cases g2 : p1 = 2
  · rw [if_pos g2]; exact ⟨_, rfl, rfl⟩
  rw [if_neg g2]
  by_cases g3 : p1 = 3
  · rw [if_pos g3]; exact ⟨_, rfl, rfl⟩
  rw [if_neg g3]
  by_cases g4 : p1 = 4
  · rw [if_pos g4]; exact ⟨_, rfl, rfl⟩
  rw [if_neg g4]
  by_cases g5 : p1 = 5
  · rw [if_pos g5]; exact ⟨_, rfl, rfl⟩
  rw [if_neg g5]
  by_cases g6 : p1 = 6
  · rw [if_pos g6]; exact ⟨_, rfl, rfl⟩
  rw [if_neg g6]
  by_cases g7 : p1 = 7
  · rw [if_pos g7]; exact ⟨_, rfl, rfl⟩
  rw [if_neg g7]
  exact ⟨_, rfl, rfl⟩
theorem sm_fresh : ∃ S4, f_X4_init Z0 = some S4 ∧ RSm S4 := by
  have h : ∀ a, a < 16 → ((f_X4_init Z0).getD Z0).2.1 0 a = nI (omN a) := by decide +kernel
  have h2 : (f_X4_init Z0).isSome = true := by decide +kernel
  obtain ⟨S4, e⟩ := Option.isSome_iff_exists.mp h2
  refine ⟨S4, e, fun a ha => ?_⟩
  have := h a ha
  rw [e] at this
  exact this
