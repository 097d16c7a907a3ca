/-! worlds up to order -/
theorem nd_of : ∀ {l : List Nat}, l.Nodup → va_nd l = true := by
  intro l
  induction l with
  | nil => intro _; rfl
  | cons a l ih =>
    intro h
    rw [List.nodup_cons] at h
    rw [va_nd]
    simp only [ih h.2, Bool.and_true]
    simpa using h.1
theorem gD {l : List Nat} {i : Nat} (h : i < l.length) : l.getD i 0 = l[i] := by simp [List.getD, h]
theorem perm_ix {α : Type} {l1 l2 : List α} (h : l1.Perm l2) : ∃ is : List Nat, is.Nodup ∧ is.map (fun i => l1[i]?) = l2.map some := by
  induction h with
  | nil => exact ⟨[], List.nodup_nil, rfl⟩
  | cons x _ ih =>
    obtain ⟨is, a, b⟩ := ih
    refine ⟨0 :: is.map (· + 1), ?_, ?_⟩
    · rw [List.nodup_cons]
      refine ⟨?_, ?_⟩
      · intro h
        rw [List.mem_map] at h
        obtain ⟨y, -, hy⟩ := h
        omega
      · unfold List.Nodup
        rw [List.pairwise_map]
        exact a.imp (fun {u v} h k => h (by omega))
    · simp only [List.map_cons, List.map_map, ← b]
      rfl
  | swap x y l =>
    refine ⟨1 :: 0 :: (List.range l.length).map (· + 2), ?_, ?_⟩
    · simp only [List.nodup_cons, List.mem_cons, List.mem_map, List.mem_range]
      refine ⟨?_, ?_, ?_⟩
      · rintro (h | ⟨u, -, h⟩) <;> omega
      · rintro ⟨u, -, h⟩; omega
      · unfold List.Nodup
        rw [List.pairwise_map]
        exact List.nodup_range.imp (fun {u v} h k => h (by omega))
    · simp only [List.map_cons, List.map_map]
      congr 2
      apply List.ext_getElem?
      intro i
      simp only [List.getElem?_map]
      by_cases hi : i < l.length
      · rw [List.getElem?_range hi]
        simp [hi]
      · rw [List.getElem?_eq_none (by simpa using hi), List.getElem?_eq_none (by simpa using hi)]
        rfl
  | @trans l1 l2 l3 _ _ ih1 ih2 =>
    obtain ⟨i1, a1, b1'⟩ := ih1
    obtain ⟨i2, a2, b2'⟩ := ih2
    have len1 : i1.length = l2.length := by simpa using congrArg List.length b1'
    have in2 : ∀ i ∈ i2, i < i1.length := by
      intro i hi
      have : (l2[i]?) ∈ l3.map some := by rw [← b2']; exact List.mem_map.mpr ⟨i, hi, rfl⟩
      rw [List.mem_map] at this
      obtain ⟨y, -, hy⟩ := this
      have := (List.getElem?_eq_some_iff.mp hy.symm).1
      omega
    refine ⟨i2.map (fun i => i1.getD i 0), ?_, ?_⟩
    · unfold List.Nodup
      rw [List.pairwise_map]
      refine List.Pairwise.imp_of_mem ?_ a2
      intro u v hu hv h k
      apply h
      have hu2 := in2 u hu
      have hv2 := in2 v hv
      rw [gD hu2, gD hv2] at k
      exact (List.getElem_inj a1).mp k
    · rw [List.map_map, ← b2']
      refine List.map_congr_left (fun i hi => ?_)
      have h2 := in2 i hi
      show l1[i1.getD i 0]? = l2[i]?
      rw [gD h2]
      have := congrArg (fun l => l[i]?) b1'
      simp only [List.getElem?_map, List.getElem?_eq_getElem h2, List.getElem?_eq_getElem (show i < l2.length by omega), Option.map_some] at this
      rw [Option.some_inj.mp this, List.getElem?_eq_getElem (show i < l2.length by omega)]
theorem perm_cut {α : Type} {ws w0 wr : List α} (h : ws.Perm (w0 ++ wr)) : ∃ isC isR : List Nat, isC.map (fun i => ws[i]?) = w0.map some ∧ isR.map (fun i => ws[i]?) = wr.map some ∧ va_nd isC = true ∧ va_nd isR = true ∧ ∀ i ∈ isR, i ∉ isC := by
  obtain ⟨is, a, b⟩ := perm_ix h
  rw [List.map_append, List.map_eq_append_iff] at b
  obtain ⟨l1, l2, rfl, e1, e2⟩ := b
  rw [List.nodup_append] at a
  obtain ⟨n1, n2, n3⟩ := a
  exact ⟨l1, l2, e1, e2, nd_of n1, nd_of n2, fun i h1 h2 => n3 i h2 i h1 rfl⟩
theorem WD.perm {D : va_G} {A : Nat → Prop} {s : State} {ws ws2 : va_W} {H : Heap} {locs : List Loc} (hw : WD D A s ws H locs) (h : ws.Perm ws2) : WD D A s ws2 H locs := by
  obtain ⟨is, a, b⟩ := perm_ix h
  exact ⟨hw.1.sub is (fm_of b), hw.2.1.sub is (nd_of a) b, hw.2.2⟩
section XP
variable {p : Program} {l : Launch} {e : Env} {R : Room} {s : State} {m : MethodId} {args : Array Value} {below : List Frame} {meth : Method} {c : Code} {H : Heap} {locs : List Loc} {cells slots : Nat} {Q : State → Prop} {pc : Nat} {ls : Array Slot} {rest : List Value} {D : va_G} {tys : List (ClassId × FieldType)} {A : Nat → Prop} {ws : va_W} {cc : ByteArray} {nL : Nat} {Ts : List Cond} {own : String} {rt : Option FieldType}
/-- behind a call that gets some of our cells: by order alone -/
theorem x_cutP {st0 : List Value} {w0 w1 wr ws2 : va_W} {r : Option Value} {a : Array Value} (X : FX D tys p s m args meth c cc nL Ts own A rt) (hw : WD D A s ws H locs) (hC : ws.Perm (w0 ++ wr)) (h2 : (wr ++ w1).Perm ws2)
    (hr : va_Run p l e R s m args below meth c H locs cells slots 0 0 (F0 m pc ls st0) rest (CQ D tys w0 H.size r w1 a) (va_A w0 H.size))
    (kk : ∀ (H1 : Heap) (locs1 : List Loc), WD D A s ws2 H1 locs1 → W p l e R s m args below meth c H1 locs1 cells slots Q (F0 m (pc + 3) ls (r.toList ++ rest))) : W p l e R s m args below meth c H locs cells slots Q (F0 m pc ls st0) := by
  obtain ⟨isC, isR, e1, e2, e3, e4, e5⟩ := perm_cut hC
  obtain ⟨is2, n2, f2⟩ := perm_ix h2
  exact x_cut X hw isC isR is2 e1 e2 e4 e5 f2 (nd_of n2) hr kk
theorem x_preP {w0 wr : va_W} (X : FX D tys p s m args meth c cc nL Ts own A rt) (hw : WD D A s ws H locs) (hC : ws.Perm (w0 ++ wr)) (av : List Value) : ∀ U : State, U.heap = H → s.WarmedH U.vm → CP D tys av w0 H.size av.toArray U := by
  obtain ⟨isC, isR, e1, e2, e3, e4, e5⟩ := perm_cut hC
  exact x_preC X hw isC e1 e3 av
theorem x_prePE {ad ar : Nat → Nat} {w0 wr : va_W} (X : FX D tys p s m args meth c cc nL Ts own A rt) (hE : SE ad ar A s s.heap) (hw : WD D A s ws H locs) (hC : ws.Perm (w0 ++ wr)) (av : List Value) : ∀ U : State, U.heap = H → s.WarmedH U.vm → CPE D tys ad ar av w0 H.size av.toArray U := by
  obtain ⟨isC, isR, e1, e2, e3, e4, e5⟩ := perm_cut hC
  exact x_preCE X hE hw isC e1 e3 av
end XP
def lapp : List va_W → va_W
  | [] => []
  | x :: xs => xs.foldl (· ++ ·) x
theorem foldl_app (xs : List va_W) : ∀ x : va_W, xs.foldl (· ++ ·) x = x ++ xs.flatten := by
  induction xs with
  | nil => intro x; simp
  | cons y ys ih => intro x; rw [List.foldl_cons, ih, List.flatten_cons, List.append_assoc]
theorem lapp_flat : ∀ l : List va_W, lapp l = l.flatten
  | [] => rfl
  | x :: xs => foldl_app xs x
theorem range_getD (bs : List va_W) : (List.range bs.length).map (fun k => bs.getD k []) = bs := by
  apply List.ext_getElem?
  intro i
  rw [List.getElem?_map]
  by_cases h : i < bs.length
  · rw [List.getElem?_range h, List.getElem?_eq_getElem h]
    simp [List.getD, h]
  · rw [List.getElem?_eq_none (by simpa using h), List.getElem?_eq_none (by simpa using h)]
    rfl
/-- some blocks in front -/
theorem pw {bs : List va_W} (C R : List Nat) (h : (C ++ R).Perm (List.range bs.length)) : (lapp bs).Perm (lapp (C.map (fun k => bs.getD k [])) ++ lapp (R.map (fun k => bs.getD k []))) := by
  rw [lapp_flat, lapp_flat, lapp_flat, ← List.flatten_append, ← List.map_append]
  have := (h.map (fun k => bs.getD k [])).symm
  rw [range_getD] at this
  exact this.flatten
