/-! the start: classes, arrays, strings -/
def tmS (i : Nat) : Term := Term.string RX3 (sIx i)
def FLc : List Cond := flatC (Jvm.Cond.and given_1 narrow_1)
theorem fl_1 : ∀ i, i < 9 → Cond.exactly (tmS i) "java/lang/String" ∈ FLc := by decide +kernel
theorem fl_2 : ∀ i, i < 9 → Cond.eq (.field (tmS i) "java/lang/String" "coder" "B") (.int 0) ∈ FLc := by decide +kernel
theorem fl_3 : ∀ i, i < 9 → Cond.arrayOf (.field (tmS i) "java/lang/String" "value" "[B") .byte ∈ FLc := by decide +kernel
theorem fl_4 : ∀ i, i < 9 → Cond.eq (.length (.field (tmS i) "java/lang/String" "value" "[B")) (.int (Int32.ofNat (sLen.getD i 0))) ∈ FLc := by decide +kernel
theorem fl_5 : ∀ i, i < 9 → ∀ j, j < sLen.getD i 0 → Cond.eq (.elem (.field (tmS i) "java/lang/String" "value" "[B") (.int (Int32.ofNat j))) (.int ((sByt.getD i []).getD j 0)) ∈ FLc := by decide +kernel
theorem fl_6 : ∀ i, i < 9 → ∀ j, j < 9 → i < j → Cond.not (Cond.eq (tmS i) (tmS j)) ∈ FLc := by decide +kernel
theorem fl_7 : Cond.isRef (.static "jdk/internal/util/Preconditions" "SIOOBE_FORMATTER" "Ljava/util/function/BiFunction;") ∈ FLc := by decide +kernel
theorem fl_8 : Cond.eq (.static "java/lang/String" "COMPACT_STRINGS" "Z") (.int 1) ∈ FLc := by decide +kernel
theorem tb_1 : ∀ i, i < 9 → Cond.stringRef RX3 (sIx i) (sTx i) ∈ lw_tbl := by decide +kernel
theorem tb_2 : Cond.laysStatic "jdk/internal/util/Preconditions" "SIOOBE_FORMATTER" "Ljava/util/function/BiFunction;" ∈ lw_tbl := by decide +kernel
theorem tb_3 : Cond.initialized "jdk/internal/util/Preconditions" ∈ lw_tbl := by decide +kernel
theorem tb_4 : Cond.laysStatic "java/lang/String" "COMPACT_STRINGS" "Z" ∈ lw_tbl := by decide +kernel
theorem tb_5 : Cond.initialized "java/lang/String" ∈ lw_tbl := by decide +kernel
theorem sl_1 : ∀ i, i < 9 → sLen.getD i 0 < 2 ^ 31 := by decide
theorem se_start {s : State} {args : Array Value} (hts : ∀ w ∈ lw_tbl, w.before args s = true) (hgv : (Jvm.Cond.and given_1 narrow_1).before args s = true) : ∃ ad ar : Nat → Nat, SE ad ar (fun q : Nat => s.heap.size ≤ q) s s.heap := by
  have hs : ∀ c ∈ FLc, c.before args s = true := flat_of_before _ hgv
  have hA : ∀ a : Nat, a < s.heap.size → ¬ (fun q : Nat => s.heap.size ≤ q) a := fun a h => Nat.not_le.mpr h
  obtain ⟨ad, ar, h1, h2⟩ := vk_Sof (args := args) (s := s) (N := 9) (tm := tmS) (len := sLen) (byt := sByt) (A := fun q : Nat => s.heap.size ≤ q) sl_1 (fun i hi => hs _ (fl_1 i hi)) (fun i hi => hs _ (fl_2 i hi)) (fun i hi => hs _ (fl_3 i hi)) (fun i hi => hs _ (fl_4 i hi)) (fun i hi j hj => hs _ (fl_5 i hi j hj)) (fun i j hi hj hne => by
    rcases Nat.lt_or_ge i j with h | h
    · exact Or.inl (hs _ (fl_6 i hi j hj h))
    · exact Or.inr (hs _ (fl_6 j hj i hi (by omega)))) hA
  refine ⟨ad, ar, h1, ?_, ?_, fun i hi => vk_R.of (hts _ (tb_1 i hi)) (h2 i hi)⟩
  · exact va_Zof (hts _ tb_4) (hts _ tb_5) (Cond.eq_int (hs _ fl_8) rfl) hA
  · exact va_Zqof (hts _ tb_2) (hts _ tb_3) (hs _ fl_7) hA
theorem arr_known {args : Array Value} {s : State} {ty : FieldType} (h : (Cond.arrayClass ty).before args s = true) : ∃ cA : ClassId, ArrOfT s cA ty ∧ s.vm.findClass ("[" ++ ty.toString) = some cA := by
  obtain ⟨cA, kA, comp, h1, h2, h3⟩ := Cond.arrayClass_spec h
  exact ⟨cA, fun n z => ⟨fun k h => (by cases h), kA, h2, comp, h3⟩, h1⟩
theorem x_cutNP {p : Program} {l : Launch} {e : Env} {R : Room} {s : State} {m : MethodId} {args : Array Value} {below : List Frame} {meth : Method} {c : Code} {H : Heap} {locs : List Loc} {cells slots : Nat} {Q : State → Prop} {pc : Nat} {ls : Array Slot} {rest : List Value} {D : va_G} {tys : List (ClassId × FieldType)} {A : Nat → Prop} {ws : va_W} {cc : ByteArray} {nL : Nat} {Ts : List Cond} {own : String} {rt : Option FieldType} {st0 : List Value} {w0 wr : va_W} {Wp : va_W → Prop} {mc ms : Nat} {a : Array Value} (X : FX D tys p s m args meth c cc nL Ts own A rt) (hw : WD D A s ws H locs) (hC : ws.Perm (w0 ++ wr))
    (hr : va_Run p l e R s m args below meth c H locs cells slots mc ms (F0 m pc ls st0) rest (CNQ D tys w0 H.size Wp a) (va_A w0 H.size)) (k2 n2 : Nat) (hk2 : cells + mc ≤ k2) (hn2 : slots + ms ≤ n2)
    (kk : ∀ (w1 : va_W) (H1 : Heap) (locs1 : List Loc), Wp w1 → WD D A s (wr ++ w1) H1 locs1 → W p l e R s m args below meth c H1 locs1 k2 n2 Q (F0 m (pc + 3) ls rest)) : W p l e R s m args below meth c H locs cells slots Q (F0 m pc ls st0) := by
  obtain ⟨isC, isR, e1, e2, e3, e4, e5⟩ := perm_cut hC
  exact x_cutN X hw isC isR e1 e2 e4 e5 hr k2 n2 hk2 hn2 kk

theorem known_all {s : State} {args : Array Value} (hts : ∀ w ∈ lw_tbl, w.before args s = true) : ∃ (D : va_G) (cs : CS), va_K D vwCl (TY cs) s := by
  obtain ⟨c0, i0, k0⟩ := u_known (C := RX0) (T := TX0) (N := 2) (n := 2) hts inX0 (hts _ (wsL_law_in _ (List.mem_of_getElem? (i := 34) rfl)))
  obtain ⟨c1, i1, k1⟩ := u_known (C := RX1) (T := TX1) (N := 6) (n := 6) hts inX1 (hts _ (wsL_law_in _ (List.mem_of_getElem? (i := 47) rfl)))
  obtain ⟨c2, i2, k2⟩ := u_known (C := RX2) (T := TX2) (N := 11) (n := 11) hts inX2 (hts _ (wsL_law_in _ (List.mem_of_getElem? (i := 25) rfl)))
  obtain ⟨c3, i3, k3⟩ := u_known (C := RX3) (T := TX3) (N := 4) (n := 4) hts inX3 (hts _ (wsL_law_in _ (List.mem_of_getElem? (i := 18) rfl)))
  obtain ⟨c4, i4, k4⟩ := u_known (C := RX4) (T := TX4) (N := 1) (n := 1) hts inX4 (hts _ (wsL_law_in _ (List.mem_of_getElem? (i := 38) rfl)))
  obtain ⟨c5, i5, k5⟩ := u_known (C := RX5) (T := TX5) (N := 2) (n := 2) hts inX5 (hts _ (wsL_law_in _ (List.mem_of_getElem? (i := 42) rfl)))
  obtain ⟨c6, i6, k6⟩ := u_known (C := RX6) (T := TX6) (N := 2) (n := 2) hts inX6 (hts _ (wsL_law_in _ (List.mem_of_getElem? (i := 14) rfl)))
  obtain ⟨c7, i7, k7⟩ := u_known (C := RX7) (T := TX7) (N := 8) (n := 8) hts inX7 (hts _ (wsL_law_in _ (List.mem_of_getElem? (i := 22) rfl)))
  obtain ⟨c8, i8, k8⟩ := u_known (C := RX8) (T := TX8) (N := 9) (n := 9) hts inX8 (hts _ (wsL_law_in _ (List.mem_of_getElem? (i := 30) rfl)))
  obtain ⟨c9, i9, k9⟩ := u_known (C := RX9) (T := TX9) (N := 10) (n := 10) hts inX9 (hts _ (wsL_law_in _ (List.mem_of_getElem? (i := 1) rfl)))
  obtain ⟨c10, i10, k10⟩ := u_known (C := RX10) (T := TX10) (N := 39) (n := 39) hts inX10 (hts _ (wsL_law_in _ (List.mem_of_getElem? (i := 4) rfl)))
  obtain ⟨a1, ha1, ga1⟩ := arr_known (hts _ (wsL_law_in _ (List.mem_of_getElem? (i := 54) rfl)))
  obtain ⟨a2, ha2, ga2⟩ := arr_known (hts _ (wsL_law_in _ (List.mem_of_getElem? (i := 75) rfl)))
  obtain ⟨a3, ha3, ga3⟩ := arr_known (hts _ (wsL_law_in _ (List.mem_of_getElem? (i := 165) rfl)))
  refine ⟨(fun k => [c0, c1, c2, c3, c4, c5, c6, c7, c8, c9, c10].getD k c0, fun k => [i0, i1, i2, i3, i4, i5, i6, i7, i8, i9, i10].getD k i0), (a1, a2, a3), ?_, ?_⟩
  · intro k q hq
    match k, hq with
    | 0, hq => cases hq; exact k0
    | 1, hq => cases hq; exact k1
    | 2, hq => cases hq; exact k2
    | 3, hq => cases hq; exact k3
    | 4, hq => cases hq; exact k4
    | 5, hq => cases hq; exact k5
    | 6, hq => cases hq; exact k6
    | 7, hq => cases hq; exact k7
    | 8, hq => cases hq; exact k8
    | 9, hq => cases hq; exact k9
    | 10, hq => cases hq; exact k10
    | k + 11, hq => simp [vwCl] at hq
  · intro k q hq
    match k, hq with
    | 0, hq => cases hq; exact ⟨ha1, ga1⟩
    | 1, hq => cases hq; exact ⟨ha2, ga2⟩
    | 2, hq => cases hq; exact ⟨ha3, ga3⟩
    | k + 3, hq => simp [TY] at hq
