/-! constructors: contracts that make cells -/
def CNQ (D : va_G) (tys : List (ClassId × FieldType)) (w0 : va_W) (sz : Nat) (Wp : va_W → Prop) : Array Value → State → Outcome → State → Prop := fun _ st oc t => oc = .returned none ∧ (∃ w1, Wp w1 ∧ va_P D vwCl w1 t.heap ∧ va_K D vwCl tys t ∧ va_D (va_A w0 sz) w1) ∧ va_F (va_A w0 sz) st t
def CTN (l : Launch) (D : va_G) (tys : List (ClassId × FieldType)) (y : MethodName) (wsy : List Cond) (rm : Room) (av : List Value) (w0 : va_W) (Wp : va_W → Prop) (mc ms : Nat) : Prop := ∀ sz, Met l y wsy rm (CP D tys av w0 sz) (CNQ D tys w0 sz Wp) mc ms (va_A w0 sz)
theorem CTN.ofW {l : Launch} {D : va_G} {tys : List (ClassId × FieldType)} {y : MethodName} {wsy ws' : List Cond} {rm : Room} {av : List Value} {w0 : va_W} {Wp : va_W → Prop} {mc ms : Nat} {cc : ByteArray} {maxL : Nat} {own : String} (hy : plainName y.cls = true) (hw : wsy = Cond.code y cc maxL none :: ws') (hown : y.cls = own) (hnm : y.name = "<init>") (hlen : (lg_sl av).length ≤ maxL)
    (body : ∀ (p : Program) (e : Env) (s : State) (m : MethodId) (args : Array Value) (below : List Frame) (meth : Method) (c : Code) (A : Nat → Prop) (Q : State → Prop), FX D tys p s m args meth c cc maxL wsy own A none → meth.name = "<init>" → (∀ (H : Heap) (locs : List Loc) (pc : Nat) (ls : Array Slot) (w1 : va_W), Wp w1 → WD D A s w1 H locs → decode cc pc = .ok (.return_, 1) → W p l e rm s m args below meth c H locs mc ms Q (F0 m pc ls [])) → ∀ ls : Array Slot, lv_has ls maxL (lv_args 0 av) → WD D A s w0 s.heap [] → W p l e rm s m args below meth c s.heap [] 0 0 Q (F0 m 0 ls [])) : CTN l D tys y wsy rm av w0 Wp mc ms := by
  intro sz
  refine Met.ofW (cc := cc) (maxL := maxL) (ret := none) hy hw ?_
  intro p e s m args below meth c s₁ B hml hv
  obtain ⟨rfl, hsz, hP, hK, hD0⟩ := hv
  have hlk := B.notSynchronized
  subst hsz
  subst hown
  have hD := hD0.self (sz := s.heap.size)
  rw [lg_entry_eq]
  refine body p e s m av.toArray below meth c (va_A w0 s.heap.size) _ ⟨B.exec, B.bytes, hml, findClass_of_methodNamed B.named, atoms_spec (ws := wsy) B.pre, hK, fun q h => Or.inr h, B.returns, hlk⟩ ((name_of_methodNamed B.named B.method).1.trans hnm) ?_ _ (lv_entry av hlen) ⟨hP, hD, va_S.rf⟩
  intro H locs pc ls w1 hwp hw1 hdg
  exact W.vret B.exec B.bytes B.returns (fun t ht hW => ⟨rfl, ⟨w1, hwp, by rw [ht]; exact hw1.1, va_K.moved hW.alike hK, hw1.2.1⟩, hw1.2.2.F ht⟩) hw1.2.2.2.2 hdg
section XN
variable {p : Program} {l : Launch} {e : Env} {R : Room} {s : State} {m : MethodId} {args : Array Value} {below : List Frame} {meth : Method} {c : Code} {H : Heap} {locs : List Loc} {cells slots : Nat} {Q : State → Prop} {D : va_G} {tys : List (ClassId × FieldType)} {A : Nat → Prop} {ws : va_W} {cc : ByteArray} {nL : Nat} {Ts : List Cond} {own : String} {rt : Option FieldType} {pc : Nat} {ls : Array Slot} {rest : List Value}
def isPrim (ty : FieldType) : Prop := ty = .int ∨ ty = .long ∨ ty = .boolean
theorem prim_RA {U : State} {cA cB : ClassId} {ty : FieldType} (hp : isPrim ty) (h1 : va_RA U cA ty) (h2 : va_RA U cB ty) : cA = cB := by
  rcases hp with rfl | rfl | rfl <;> exact Option.some.inj (h1.symm.trans h2)
theorem x_newa (X : FX D tys p s m args meth c cc nL Ts own A rt) (hw : WD D A s ws H locs) {atype : ArrayType} {ty : FieldType} (hty : newarray.typeOf atype = ty) (hp : isPrim ty) (harr : Cond.arrayClass ty ∈ Ts) (t0 : Nat) {cA : ClassId} (ht : tys[t0]? = some (cA, ty)) {n : Int32} {N' : Nat} {a0 : vp_A} (ha : ∀ cA : ClassId, vp_cell cA a0 = arrV cA N' (fun _ => defaultValue ty)) (hn : ¬ n < 0) (hN : n.toNatClampNeg = N') (hbytes : N' * componentBytes ty ≤ 536870912) (hcells : cells + 1 ≤ R.cells) (hslots : slots + N' ≤ R.slots) (hdg : decode cc pc = .ok (.newarray atype, 2)) (k2 n2 : Nat) (hk2 : cells + 1 ≤ k2) (hn2 : slots + N' ≤ n2)
    (kk : ∀ (q : Nat) (H1 : Heap), WD D A s (ws ++ [(q, .inl (cA, a0))]) H1 locs → W p l e R s m args below meth c H1 locs k2 n2 Q (F0 m (pc + 2) ls (.ref q :: rest))) : W p l e R s m args below meth c H locs cells slots Q (F0 m pc ls (.int n :: rest)) := by
  refine va_newa X.1 X.2.1 (by rw [hty]; exact X.2.2.2.2.1 _ harr) hty X.2.2.2.2.2.1 hw.1 hw.2.1 hw.2.2 X.2.2.2.2.2.2.1 ha hn hN hbytes hcells hslots hdg (fun q cB H1 hK hP hD hS => ?_)
  have h1 := (X.2.2.2.2.2.1.2 t0 _ ht).2
  have h2 := (hK.2 tys.length (cB, ty) (by simp)).2
  have h3 : cA = cB := prim_RA hp h1 h2
  subst h3
  exact W.widen hk2 hn2 (kk q H1 ⟨hP, hD, hS⟩)
theorem x_new (X : FX D tys p s m args meth c cc nL Ts own A rt) (hw : WD D A s ws H locs) {C : String} {T : u_T} {N ci index : Nat} (hin : ∀ w ∈ u_ws C T N, w ∈ Ts) (ty : Nat → FieldType) (hty : ∀ k, k < N → parseFieldDescriptor (T k).2.2.1 = some (ty k)) (hcl : Cond.classLink own index C ∈ Ts) (hinst : Cond.instantiable C N ∈ Ts) (hini : Cond.initialized C ∈ Ts) (hc : vwCl[ci]? = some (C, T, N)) {fs : List Value} (hfs : ∀ j, j < N → defaultValue (ty j) = vp_V fs j) (hcells : cells + 1 ≤ R.cells) (hslots : slots + N ≤ R.slots) (hdg : decode cc pc = .ok (.new index, 3)) (k2 n2 : Nat) (hk2 : cells + 1 ≤ k2) (hn2 : slots + N ≤ n2)
    (kk : ∀ (q : Nat) (H1 : Heap), WD D A s (ws ++ [(q, .inr (ci, fs))]) H1 locs → W p l e R s m args below meth c H1 locs k2 n2 Q (F0 m (pc + 3) ls (.ref q :: rest))) : W p l e R s m args below meth c H locs cells slots Q (F0 m pc ls rest) :=
  va_new X.1 X.2.1 X.2.2.2.2.1 hin ty hty X.2.2.2.1 (X.2.2.2.2.1 _ hcl) (X.2.2.2.2.1 _ hinst) (X.2.2.2.2.1 _ hini) X.2.2.2.2.2.1 hw.1 hw.2.1 hw.2.2 X.2.2.2.2.2.2.1 hc hfs hcells hslots hdg (fun q H1 hP hD hS => W.widen hk2 hn2 (kk q H1 ⟨hP, hD, hS⟩))
theorem x_objinit (X : FX D tys p s m args meth c cc nL Ts own A rt) {idx : Nat} (hlink : Cond.methodLink own idx Lib.objectInit ∈ Ts) (hinst : Cond.instanceMethod Lib.objectInit ∈ Ts) (hcode : Cond.code Lib.objectInit ⟨#[0xb1]⟩ 1 none ∈ Ts) {a : Nat} (hsz : ls.size = nL) (hd : decode cc pc = .ok (.invokespecial idx, 3)) (hfr : 1 ≤ R.frames) (hlo : (rest.map fun v => v.category).sum + 12 ≤ R.locals)
    (kk : W p l e R s m args below meth c H locs cells slots Q (F0 m (pc + 3) ls rest)) : W p l e R s m args below meth c H locs cells slots Q (F0 m pc ls (.ref a :: rest)) :=
  W.objInit X.1 X.2.1 X.2.2.2.1 (X.2.2.2.2.1 _ hlink) (X.2.2.2.2.1 _ hinst) (X.2.2.2.2.1 _ hcode) rfl (hsz.trans X.2.2.1.symm) rfl hd hfr (by
    have h0 : (F0 m pc ls (.ref a :: rest)).monitorRoom = 0 := by rfl
    rw [h0]; omega) kk
/-- behind a constructor's call -/
theorem x_cutN {st0 : List Value} {w0 wr : va_W} {Wp : va_W → Prop} {mc ms : Nat} {a : Array Value} (X : FX D tys p s m args meth c cc nL Ts own A rt) (hw : WD D A s ws H locs) (isC isR : List Nat) (hC : isC.map (fun i => ws[i]?) = w0.map some) (hR : isR.map (fun i => ws[i]?) = wr.map some) (hnR : va_nd isR = true) (hdis : ∀ i ∈ isR, i ∉ isC)
    (hr : va_Run p l e R s m args below meth c H locs cells slots mc ms (F0 m pc ls st0) rest (CNQ D tys w0 H.size Wp a) (va_A w0 H.size)) (k2 n2 : Nat) (hk2 : cells + mc ≤ k2) (hn2 : slots + ms ≤ n2)
    (kk : ∀ (w1 : va_W) (H1 : Heap) (locs1 : List Loc), Wp w1 → WD D A s (wr ++ w1) H1 locs1 → W p l e R s m args below meth c H1 locs1 k2 n2 Q (F0 m (pc + 3) ls rest)) : W p l e R s m args below meth c H locs cells slots Q (F0 m pc ls st0) := by
  intro T hT Y
  obtain ⟨v, st₀, t, T', L, h0, Y', hL, e1, e2, ⟨hv, ⟨w1, hwp, hP1, hK1, hD1⟩, hz, hk⟩, st⟩ := hr T hT Y
  cases hv
  rw [h0] at hz hk
  have hF : ∀ q, va_A w0 H.size q → A q := va_free hw.2.1 hw.2.2 X.2.2.2.2.2.2.1 isC hC
  obtain ⟨hP2, hD2⟩ := va_join (wr := wr) (w1 := w1) hw.1 hw.2.1 isC isR hC hR hnR hdis hk hF hP1 hD1
  obtain ⟨t2, a1, b1⟩ := W.widen (k := k2) (n := n2) hk2 hn2 (kk w1 T'.heap (locs ++ L) hwp ⟨by rw [e1]; exact hP2, hD2, Nat.le_trans hw.2.2.1 (by rw [e1]; exact hz), fun q h1 h2 => by rw [e1, hk q (Nat.lt_of_lt_of_le h1 hw.2.2.1) (fun z => h2 (hF q z))]; exact hw.2.2.2.1 q h1 h2, fun q hq => by
      rcases List.mem_append.mp hq with h | h
      · exact hw.2.2.2.2 q h
      · exact hF _ (hL q h)⟩) T' rfl Y'
  exact ⟨t2, st t2 a1, b1⟩
end XN
def Z0 : PS := (fun _ => 0, fun _ _ => 0, fun _ _ => 0)

theorem in_X0_init_X0 : ∀ w ∈ wsX00, w ∈ wsX0_init := fun _ h => List.mem_cons_of_mem _ (List.mem_append_right _ h)
abbrev rmX0_init : Room := { frames := 1, cells := 1, slots := 32, locals := 12 }
def zX0 : PS := Z0
set_option maxHeartbeats 4000000 in
set_option maxRecDepth 100000 in
theorem c_X0_init (l : Launch) (D : va_G) (cs : CS) (a : Nat) : CTN l D (TY cs) yX0_init wsX0_init rmX0_init [.ref a] [(a, .inr (0, [.null, .int 0]))] (fun w => ∃ q : Nat → Nat, w = wX0 cs a q zX0) 1 32 := by
  refine CTN.ofW (own := RX0) (cc := cX0_init) (maxL := 1) (by decide) rfl rfl rfl (Nat.le_of_ble_eq_true rfl) ?_
  intro p e s m args below meth c A Q X hin hret ls hl hw
  obtain ⟨hx, hb, hml, hown, hts, hK, hA, hr, hlk⟩ := id X
  have hl : lv_has ls 1 [(0, .ref a)] := hl
  refine lv_aload_n (pc := 0) hx hb dX0_init_0 rfl (lv_at hl 0 rfl) ?_
  refine x_objinit (pc := 1) X (List.mem_of_getElem? (i := 1) rfl) (List.mem_of_getElem? (i := 2) rfl) (List.mem_of_getElem? (i := 3) rfl) hl.1 dX0_init_1 (Nat.le_of_ble_eq_true rfl) (Nat.le_of_ble_eq_true rfl) ?_
  refine lv_aload_n (pc := 4) hx hb dX0_init_4 rfl (lv_at hl 0 rfl) ?_
  refine lv_bipush (pc := 5) (v := 32) hx hb dX0_init_5 (by decide) ?_
  refine x_newa (pc := 7) X hw rfl (Or.inl rfl) (List.mem_of_getElem? (i := 4) rfl) 0 rfl (a0 := (32, .inl (fun _ => 0))) (fun _ => rfl) (by decide) (by decide) (by decide) (Nat.le_of_ble_eq_true rfl) (Nat.le_of_ble_eq_true rfl) dX0_init_7 1 32 (Nat.le_of_ble_eq_true rfl) (Nat.le_of_ble_eq_true rfl) (fun x7 H hw => ?_)
  refine x_putF (pc := 9) X hw in_X0_init_X0 tyX0 tyX0_ok nmX0 0 rfl rfl 0 (by decide) (List.mem_of_getElem? (i := 5) rfl) rfl hin rfl rfl rfl (Nat.le_of_ble_eq_true rfl) dX0_init_9 (ws2 := [(a, .inr (0, [.ref x7, .int 0])), (x7, .inl (cs.1, 32, .inl (fun _ => 0)))]) rfl (fun H locs hw => ?_)
  refine lv_aload_n (pc := 12) hx hb dX0_init_12 rfl (lv_at hl 0 rfl) ?_
  refine lv_iconst (pc := 13) (v := 0) hx hb dX0_init_13 (by decide) ?_
  refine x_put (pc := 14) X hw in_X0_init_X0 tyX0 tyX0_ok nmX0 0 rfl rfl 1 (by decide) (List.mem_of_getElem? (i := 6) rfl) rfl rfl rfl (Nat.le_of_ble_eq_true rfl) dX0_init_14 (ws2 := [(a, .inr (0, [.ref x7, .int 0])), (x7, .inl (cs.1, 32, .inl (fun _ => 0)))]) rfl (fun H locs hw => ?_)
  exact hret _ _ 17 _ (wX0 cs a (fun k => ([x7, 0] : List Nat).getD k 0) zX0) ⟨_, rfl⟩ hw dX0_init_17

theorem in_X1_init_X1 : ∀ w ∈ wsX10, w ∈ wsX1_init := fun _ h => List.mem_cons_of_mem _ (List.mem_append_right _ h)
abbrev rmX1_init : Room := { frames := 1, cells := 4, slots := 85, locals := 12 }
def zX1 : PS := sI Z0 5 (-1)
set_option maxHeartbeats 4000000 in
set_option maxRecDepth 100000 in
theorem c_X1_init (l : Launch) (D : va_G) (cs : CS) (a : Nat) : CTN l D (TY cs) yX1_init wsX1_init rmX1_init [.ref a] [(a, .inr (1, [.null, .null, .null, .null, .int 0, .int 0]))] (fun w => ∃ q : Nat → Nat, w = wX1 cs a q zX1) 4 85 := by
  refine CTN.ofW (own := RX1) (cc := cX1_init) (maxL := 1) (by decide) rfl rfl rfl (Nat.le_of_ble_eq_true rfl) ?_
  intro p e s m args below meth c A Q X hin hret ls hl hw
  obtain ⟨hx, hb, hml, hown, hts, hK, hA, hr, hlk⟩ := id X
  have hl : lv_has ls 1 [(0, .ref a)] := hl
  refine lv_aload_n (pc := 0) hx hb dX1_init_0 rfl (lv_at hl 0 rfl) ?_
  refine x_objinit (pc := 1) X (List.mem_of_getElem? (i := 1) rfl) (List.mem_of_getElem? (i := 2) rfl) (List.mem_of_getElem? (i := 3) rfl) hl.1 dX1_init_1 (Nat.le_of_ble_eq_true rfl) (Nat.le_of_ble_eq_true rfl) ?_
  refine lv_aload_n (pc := 4) hx hb dX1_init_4 rfl (lv_at hl 0 rfl) ?_
  refine lv_bipush (pc := 5) (v := 64) hx hb dX1_init_5 (by decide) ?_
  refine x_newa (pc := 7) X hw rfl (Or.inr (Or.inl rfl)) (List.mem_of_getElem? (i := 4) rfl) 1 rfl (a0 := (64, .inr (.inl (fun _ => 0)))) (fun _ => rfl) (by decide) (by decide) (by decide) (Nat.le_of_ble_eq_true rfl) (Nat.le_of_ble_eq_true rfl) dX1_init_7 1 64 (Nat.le_of_ble_eq_true rfl) (Nat.le_of_ble_eq_true rfl) (fun x7 H hw => ?_)
  refine x_putF (pc := 9) X hw in_X1_init_X1 tyX1 tyX1_ok nmX1 0 rfl rfl 0 (by decide) (List.mem_of_getElem? (i := 5) rfl) rfl hin rfl rfl rfl (Nat.le_of_ble_eq_true rfl) dX1_init_9 (ws2 := [(a, .inr (1, [.ref x7, .null, .null, .null, .int 0, .int 0])), (x7, .inl (cs.2.1, 64, .inr (.inl (fun _ => 0))))]) rfl (fun H locs hw => ?_)
  refine lv_aload_n (pc := 12) hx hb dX1_init_12 rfl (lv_at hl 0 rfl) ?_
  refine lv_bipush (pc := 13) (v := 16) hx hb dX1_init_13 (by decide) ?_
  refine x_newa (pc := 15) X hw rfl (Or.inr (Or.inl rfl)) (List.mem_of_getElem? (i := 4) rfl) 1 rfl (a0 := (16, .inr (.inl (fun _ => 0)))) (fun _ => rfl) (by decide) (by decide) (by decide) (Nat.le_of_ble_eq_true rfl) (Nat.le_of_ble_eq_true rfl) dX1_init_15 2 80 (Nat.le_of_ble_eq_true rfl) (Nat.le_of_ble_eq_true rfl) (fun x15 H hw => ?_)
  refine x_putF (pc := 17) X hw in_X1_init_X1 tyX1 tyX1_ok nmX1 0 rfl rfl 1 (by decide) (List.mem_of_getElem? (i := 6) rfl) rfl hin rfl rfl rfl (Nat.le_of_ble_eq_true rfl) dX1_init_17 (ws2 := [(a, .inr (1, [.ref x7, .ref x15, .null, .null, .int 0, .int 0])), (x7, .inl (cs.2.1, 64, .inr (.inl (fun _ => 0)))), (x15, .inl (cs.2.1, 16, .inr (.inl (fun _ => 0))))]) rfl (fun H locs hw => ?_)
  refine lv_aload_n (pc := 20) hx hb dX1_init_20 rfl (lv_at hl 0 rfl) ?_
  refine lv_iconst (pc := 21) (v := 4) hx hb dX1_init_21 (by decide) ?_
  refine x_newa (pc := 22) X hw rfl (Or.inr (Or.inl rfl)) (List.mem_of_getElem? (i := 4) rfl) 1 rfl (a0 := (4, .inr (.inl (fun _ => 0)))) (fun _ => rfl) (by decide) (by decide) (by decide) (Nat.le_of_ble_eq_true rfl) (Nat.le_of_ble_eq_true rfl) dX1_init_22 3 84 (Nat.le_of_ble_eq_true rfl) (Nat.le_of_ble_eq_true rfl) (fun x22 H hw => ?_)
  refine x_putF (pc := 24) X hw in_X1_init_X1 tyX1 tyX1_ok nmX1 0 rfl rfl 2 (by decide) (List.mem_of_getElem? (i := 7) rfl) rfl hin rfl rfl rfl (Nat.le_of_ble_eq_true rfl) dX1_init_24 (ws2 := [(a, .inr (1, [.ref x7, .ref x15, .ref x22, .null, .int 0, .int 0])), (x7, .inl (cs.2.1, 64, .inr (.inl (fun _ => 0)))), (x15, .inl (cs.2.1, 16, .inr (.inl (fun _ => 0)))), (x22, .inl (cs.2.1, 4, .inr (.inl (fun _ => 0))))]) rfl (fun H locs hw => ?_)
  refine lv_aload_n (pc := 27) hx hb dX1_init_27 rfl (lv_at hl 0 rfl) ?_
  refine lv_iconst (pc := 28) (v := 1) hx hb dX1_init_28 (by decide) ?_
  refine x_newa (pc := 29) X hw rfl (Or.inr (Or.inl rfl)) (List.mem_of_getElem? (i := 4) rfl) 1 rfl (a0 := (1, .inr (.inl (fun _ => 0)))) (fun _ => rfl) (by decide) (by decide) (by decide) (Nat.le_of_ble_eq_true rfl) (Nat.le_of_ble_eq_true rfl) dX1_init_29 4 85 (Nat.le_of_ble_eq_true rfl) (Nat.le_of_ble_eq_true rfl) (fun x29 H hw => ?_)
  refine x_putF (pc := 31) X hw in_X1_init_X1 tyX1 tyX1_ok nmX1 0 rfl rfl 3 (by decide) (List.mem_of_getElem? (i := 8) rfl) rfl hin rfl rfl rfl (Nat.le_of_ble_eq_true rfl) dX1_init_31 (ws2 := [(a, .inr (1, [.ref x7, .ref x15, .ref x22, .ref x29, .int 0, .int 0])), (x7, .inl (cs.2.1, 64, .inr (.inl (fun _ => 0)))), (x15, .inl (cs.2.1, 16, .inr (.inl (fun _ => 0)))), (x22, .inl (cs.2.1, 4, .inr (.inl (fun _ => 0)))), (x29, .inl (cs.2.1, 1, .inr (.inl (fun _ => 0))))]) rfl (fun H locs hw => ?_)
  refine lv_aload_n (pc := 34) hx hb dX1_init_34 rfl (lv_at hl 0 rfl) ?_
  refine lv_iconst (pc := 35) (v := 0) hx hb dX1_init_35 (by decide) ?_
  refine x_put (pc := 36) X hw in_X1_init_X1 tyX1 tyX1_ok nmX1 0 rfl rfl 4 (by decide) (List.mem_of_getElem? (i := 9) rfl) rfl rfl rfl (Nat.le_of_ble_eq_true rfl) dX1_init_36 (ws2 := [(a, .inr (1, [.ref x7, .ref x15, .ref x22, .ref x29, .int 0, .int 0])), (x7, .inl (cs.2.1, 64, .inr (.inl (fun _ => 0)))), (x15, .inl (cs.2.1, 16, .inr (.inl (fun _ => 0)))), (x22, .inl (cs.2.1, 4, .inr (.inl (fun _ => 0)))), (x29, .inl (cs.2.1, 1, .inr (.inl (fun _ => 0))))]) rfl (fun H locs hw => ?_)
  refine lv_aload_n (pc := 39) hx hb dX1_init_39 rfl (lv_at hl 0 rfl) ?_
  refine lv_iconst (pc := 40) (v := (-1)) hx hb dX1_init_40 (by decide) ?_
  refine x_put (pc := 41) X hw in_X1_init_X1 tyX1 tyX1_ok nmX1 0 rfl rfl 5 (by decide) (List.mem_of_getElem? (i := 10) rfl) rfl rfl rfl (Nat.le_of_ble_eq_true rfl) dX1_init_41 (ws2 := [(a, .inr (1, [.ref x7, .ref x15, .ref x22, .ref x29, .int 0, .int (-1)])), (x7, .inl (cs.2.1, 64, .inr (.inl (fun _ => 0)))), (x15, .inl (cs.2.1, 16, .inr (.inl (fun _ => 0)))), (x22, .inl (cs.2.1, 4, .inr (.inl (fun _ => 0)))), (x29, .inl (cs.2.1, 1, .inr (.inl (fun _ => 0))))]) rfl (fun H locs hw => ?_)
  exact hret _ _ 44 _ (wX1 cs a (fun k => ([x7, x15, x22, x29, 0, 0] : List Nat).getD k 0) zX1) ⟨_, rfl⟩ hw dX1_init_44

theorem in_X2_init_X2 : ∀ w ∈ wsX20, w ∈ wsX2_init := fun _ h => List.mem_cons_of_mem _ (List.mem_append_right _ h)
abbrev rmX2_init : Room := { frames := 1, cells := 7, slots := 152, locals := 12 }
def zX2 : PS := sI Z0 5 1
set_option maxHeartbeats 4000000 in
set_option maxRecDepth 100000 in
theorem c_X2_init (l : Launch) (D : va_G) (cs : CS) (a : Nat) : CTN l D (TY cs) yX2_init wsX2_init rmX2_init [.ref a] [(a, .inr (2, [.int 0, .null, .null, .null, .int 0, .int 0, .null, .null, .null, .null, .int 0]))] (fun w => ∃ q : Nat → Nat, w = wX2 cs a q zX2) 7 152 := by
  refine CTN.ofW (own := RX2) (cc := cX2_init) (maxL := 1) (by decide) rfl rfl rfl (Nat.le_of_ble_eq_true rfl) ?_
  intro p e s m args below meth c A Q X hin hret ls hl hw
  obtain ⟨hx, hb, hml, hown, hts, hK, hA, hr, hlk⟩ := id X
  have hl : lv_has ls 1 [(0, .ref a)] := hl
  refine lv_aload_n (pc := 0) hx hb dX2_init_0 rfl (lv_at hl 0 rfl) ?_
  refine x_objinit (pc := 1) X (List.mem_of_getElem? (i := 1) rfl) (List.mem_of_getElem? (i := 2) rfl) (List.mem_of_getElem? (i := 3) rfl) hl.1 dX2_init_1 (Nat.le_of_ble_eq_true rfl) (Nat.le_of_ble_eq_true rfl) ?_
  refine lv_aload_n (pc := 4) hx hb dX2_init_4 rfl (lv_at hl 0 rfl) ?_
  refine lv_bipush (pc := 5) (v := 20) hx hb dX2_init_5 (by decide) ?_
  refine x_newa (pc := 7) X hw rfl (Or.inl rfl) (List.mem_of_getElem? (i := 4) rfl) 0 rfl (a0 := (20, .inl (fun _ => 0))) (fun _ => rfl) (by decide) (by decide) (by decide) (Nat.le_of_ble_eq_true rfl) (Nat.le_of_ble_eq_true rfl) dX2_init_7 1 20 (Nat.le_of_ble_eq_true rfl) (Nat.le_of_ble_eq_true rfl) (fun x7 H hw => ?_)
  refine x_putF (pc := 9) X hw in_X2_init_X2 tyX2 tyX2_ok nmX2 0 rfl rfl 1 (by decide) (List.mem_of_getElem? (i := 5) rfl) rfl hin rfl rfl rfl (Nat.le_of_ble_eq_true rfl) dX2_init_9 (ws2 := [(a, .inr (2, [.int 0, .ref x7, .null, .null, .int 0, .int 0, .null, .null, .null, .null, .int 0])), (x7, .inl (cs.1, 20, .inl (fun _ => 0)))]) rfl (fun H locs hw => ?_)
  refine lv_aload_n (pc := 12) hx hb dX2_init_12 rfl (lv_at hl 0 rfl) ?_
  refine lv_bipush (pc := 13) (v := 20) hx hb dX2_init_13 (by decide) ?_
  refine x_newa (pc := 15) X hw rfl (Or.inl rfl) (List.mem_of_getElem? (i := 4) rfl) 0 rfl (a0 := (20, .inl (fun _ => 0))) (fun _ => rfl) (by decide) (by decide) (by decide) (Nat.le_of_ble_eq_true rfl) (Nat.le_of_ble_eq_true rfl) dX2_init_15 2 40 (Nat.le_of_ble_eq_true rfl) (Nat.le_of_ble_eq_true rfl) (fun x15 H hw => ?_)
  refine x_putF (pc := 17) X hw in_X2_init_X2 tyX2 tyX2_ok nmX2 0 rfl rfl 2 (by decide) (List.mem_of_getElem? (i := 6) rfl) rfl hin rfl rfl rfl (Nat.le_of_ble_eq_true rfl) dX2_init_17 (ws2 := [(a, .inr (2, [.int 0, .ref x7, .ref x15, .null, .int 0, .int 0, .null, .null, .null, .null, .int 0])), (x7, .inl (cs.1, 20, .inl (fun _ => 0))), (x15, .inl (cs.1, 20, .inl (fun _ => 0)))]) rfl (fun H locs hw => ?_)
  refine lv_aload_n (pc := 20) hx hb dX2_init_20 rfl (lv_at hl 0 rfl) ?_
  refine lv_bipush (pc := 21) (v := 60) hx hb dX2_init_21 (by decide) ?_
  refine x_newa (pc := 23) X hw rfl (Or.inl rfl) (List.mem_of_getElem? (i := 4) rfl) 0 rfl (a0 := (60, .inl (fun _ => 0))) (fun _ => rfl) (by decide) (by decide) (by decide) (Nat.le_of_ble_eq_true rfl) (Nat.le_of_ble_eq_true rfl) dX2_init_23 3 100 (Nat.le_of_ble_eq_true rfl) (Nat.le_of_ble_eq_true rfl) (fun x23 H hw => ?_)
  refine x_putF (pc := 25) X hw in_X2_init_X2 tyX2 tyX2_ok nmX2 0 rfl rfl 3 (by decide) (List.mem_of_getElem? (i := 7) rfl) rfl hin rfl rfl rfl (Nat.le_of_ble_eq_true rfl) dX2_init_25 (ws2 := [(a, .inr (2, [.int 0, .ref x7, .ref x15, .ref x23, .int 0, .int 0, .null, .null, .null, .null, .int 0])), (x7, .inl (cs.1, 20, .inl (fun _ => 0))), (x15, .inl (cs.1, 20, .inl (fun _ => 0))), (x23, .inl (cs.1, 60, .inl (fun _ => 0)))]) rfl (fun H locs hw => ?_)
  refine lv_aload_n (pc := 28) hx hb dX2_init_28 rfl (lv_at hl 0 rfl) ?_
  refine lv_bipush (pc := 29) (v := 6) hx hb dX2_init_29 (by decide) ?_
  refine x_newa (pc := 31) X hw rfl (Or.inl rfl) (List.mem_of_getElem? (i := 4) rfl) 0 rfl (a0 := (6, .inl (fun _ => 0))) (fun _ => rfl) (by decide) (by decide) (by decide) (Nat.le_of_ble_eq_true rfl) (Nat.le_of_ble_eq_true rfl) dX2_init_31 4 106 (Nat.le_of_ble_eq_true rfl) (Nat.le_of_ble_eq_true rfl) (fun x31 H hw => ?_)
  refine x_putF (pc := 33) X hw in_X2_init_X2 tyX2 tyX2_ok nmX2 0 rfl rfl 6 (by decide) (List.mem_of_getElem? (i := 8) rfl) rfl hin rfl rfl rfl (Nat.le_of_ble_eq_true rfl) dX2_init_33 (ws2 := [(a, .inr (2, [.int 0, .ref x7, .ref x15, .ref x23, .int 0, .int 0, .ref x31, .null, .null, .null, .int 0])), (x7, .inl (cs.1, 20, .inl (fun _ => 0))), (x15, .inl (cs.1, 20, .inl (fun _ => 0))), (x23, .inl (cs.1, 60, .inl (fun _ => 0))), (x31, .inl (cs.1, 6, .inl (fun _ => 0)))]) rfl (fun H locs hw => ?_)
  refine lv_aload_n (pc := 36) hx hb dX2_init_36 rfl (lv_at hl 0 rfl) ?_
  refine lv_bipush (pc := 37) (v := 6) hx hb dX2_init_37 (by decide) ?_
  refine x_newa (pc := 39) X hw rfl (Or.inl rfl) (List.mem_of_getElem? (i := 4) rfl) 0 rfl (a0 := (6, .inl (fun _ => 0))) (fun _ => rfl) (by decide) (by decide) (by decide) (Nat.le_of_ble_eq_true rfl) (Nat.le_of_ble_eq_true rfl) dX2_init_39 5 112 (Nat.le_of_ble_eq_true rfl) (Nat.le_of_ble_eq_true rfl) (fun x39 H hw => ?_)
  refine x_putF (pc := 41) X hw in_X2_init_X2 tyX2 tyX2_ok nmX2 0 rfl rfl 7 (by decide) (List.mem_of_getElem? (i := 9) rfl) rfl hin rfl rfl rfl (Nat.le_of_ble_eq_true rfl) dX2_init_41 (ws2 := [(a, .inr (2, [.int 0, .ref x7, .ref x15, .ref x23, .int 0, .int 0, .ref x31, .ref x39, .null, .null, .int 0])), (x7, .inl (cs.1, 20, .inl (fun _ => 0))), (x15, .inl (cs.1, 20, .inl (fun _ => 0))), (x23, .inl (cs.1, 60, .inl (fun _ => 0))), (x31, .inl (cs.1, 6, .inl (fun _ => 0))), (x39, .inl (cs.1, 6, .inl (fun _ => 0)))]) rfl (fun H locs hw => ?_)
  refine lv_aload_n (pc := 44) hx hb dX2_init_44 rfl (lv_at hl 0 rfl) ?_
  refine lv_bipush (pc := 45) (v := 8) hx hb dX2_init_45 (by decide) ?_
  refine x_newa (pc := 47) X hw rfl (Or.inl rfl) (List.mem_of_getElem? (i := 4) rfl) 0 rfl (a0 := (8, .inl (fun _ => 0))) (fun _ => rfl) (by decide) (by decide) (by decide) (Nat.le_of_ble_eq_true rfl) (Nat.le_of_ble_eq_true rfl) dX2_init_47 6 120 (Nat.le_of_ble_eq_true rfl) (Nat.le_of_ble_eq_true rfl) (fun x47 H hw => ?_)
  refine x_putF (pc := 49) X hw in_X2_init_X2 tyX2 tyX2_ok nmX2 0 rfl rfl 8 (by decide) (List.mem_of_getElem? (i := 10) rfl) rfl hin rfl rfl rfl (Nat.le_of_ble_eq_true rfl) dX2_init_49 (ws2 := [(a, .inr (2, [.int 0, .ref x7, .ref x15, .ref x23, .int 0, .int 0, .ref x31, .ref x39, .ref x47, .null, .int 0])), (x7, .inl (cs.1, 20, .inl (fun _ => 0))), (x15, .inl (cs.1, 20, .inl (fun _ => 0))), (x23, .inl (cs.1, 60, .inl (fun _ => 0))), (x31, .inl (cs.1, 6, .inl (fun _ => 0))), (x39, .inl (cs.1, 6, .inl (fun _ => 0))), (x47, .inl (cs.1, 8, .inl (fun _ => 0)))]) rfl (fun H locs hw => ?_)
  refine lv_aload_n (pc := 52) hx hb dX2_init_52 rfl (lv_at hl 0 rfl) ?_
  refine lv_bipush (pc := 53) (v := 32) hx hb dX2_init_53 (by decide) ?_
  refine x_newa (pc := 55) X hw rfl (Or.inr (Or.inl rfl)) (List.mem_of_getElem? (i := 11) rfl) 1 rfl (a0 := (32, .inr (.inl (fun _ => 0)))) (fun _ => rfl) (by decide) (by decide) (by decide) (Nat.le_of_ble_eq_true rfl) (Nat.le_of_ble_eq_true rfl) dX2_init_55 7 152 (Nat.le_of_ble_eq_true rfl) (Nat.le_of_ble_eq_true rfl) (fun x55 H hw => ?_)
  refine x_putF (pc := 57) X hw in_X2_init_X2 tyX2 tyX2_ok nmX2 0 rfl rfl 9 (by decide) (List.mem_of_getElem? (i := 12) rfl) rfl hin rfl rfl rfl (Nat.le_of_ble_eq_true rfl) dX2_init_57 (ws2 := [(a, .inr (2, [.int 0, .ref x7, .ref x15, .ref x23, .int 0, .int 0, .ref x31, .ref x39, .ref x47, .ref x55, .int 0])), (x7, .inl (cs.1, 20, .inl (fun _ => 0))), (x15, .inl (cs.1, 20, .inl (fun _ => 0))), (x23, .inl (cs.1, 60, .inl (fun _ => 0))), (x31, .inl (cs.1, 6, .inl (fun _ => 0))), (x39, .inl (cs.1, 6, .inl (fun _ => 0))), (x47, .inl (cs.1, 8, .inl (fun _ => 0))), (x55, .inl (cs.2.1, 32, .inr (.inl (fun _ => 0))))]) rfl (fun H locs hw => ?_)
  refine lv_aload_n (pc := 60) hx hb dX2_init_60 rfl (lv_at hl 0 rfl) ?_
  refine lv_iconst (pc := 61) (v := 0) hx hb dX2_init_61 (by decide) ?_
  refine x_put (pc := 62) X hw in_X2_init_X2 tyX2 tyX2_ok nmX2 0 rfl rfl 0 (by decide) (List.mem_of_getElem? (i := 13) rfl) rfl rfl rfl (Nat.le_of_ble_eq_true rfl) dX2_init_62 (ws2 := [(a, .inr (2, [.int 0, .ref x7, .ref x15, .ref x23, .int 0, .int 0, .ref x31, .ref x39, .ref x47, .ref x55, .int 0])), (x7, .inl (cs.1, 20, .inl (fun _ => 0))), (x15, .inl (cs.1, 20, .inl (fun _ => 0))), (x23, .inl (cs.1, 60, .inl (fun _ => 0))), (x31, .inl (cs.1, 6, .inl (fun _ => 0))), (x39, .inl (cs.1, 6, .inl (fun _ => 0))), (x47, .inl (cs.1, 8, .inl (fun _ => 0))), (x55, .inl (cs.2.1, 32, .inr (.inl (fun _ => 0))))]) rfl (fun H locs hw => ?_)
  refine lv_aload_n (pc := 65) hx hb dX2_init_65 rfl (lv_at hl 0 rfl) ?_
  refine lv_iconst (pc := 66) (v := 0) hx hb dX2_init_66 (by decide) ?_
  refine x_put (pc := 67) X hw in_X2_init_X2 tyX2 tyX2_ok nmX2 0 rfl rfl 4 (by decide) (List.mem_of_getElem? (i := 14) rfl) rfl rfl rfl (Nat.le_of_ble_eq_true rfl) dX2_init_67 (ws2 := [(a, .inr (2, [.int 0, .ref x7, .ref x15, .ref x23, .int 0, .int 0, .ref x31, .ref x39, .ref x47, .ref x55, .int 0])), (x7, .inl (cs.1, 20, .inl (fun _ => 0))), (x15, .inl (cs.1, 20, .inl (fun _ => 0))), (x23, .inl (cs.1, 60, .inl (fun _ => 0))), (x31, .inl (cs.1, 6, .inl (fun _ => 0))), (x39, .inl (cs.1, 6, .inl (fun _ => 0))), (x47, .inl (cs.1, 8, .inl (fun _ => 0))), (x55, .inl (cs.2.1, 32, .inr (.inl (fun _ => 0))))]) rfl (fun H locs hw => ?_)
  refine lv_aload_n (pc := 70) hx hb dX2_init_70 rfl (lv_at hl 0 rfl) ?_
  refine lv_iconst (pc := 71) (v := 1) hx hb dX2_init_71 (by decide) ?_
  refine x_put (pc := 72) X hw in_X2_init_X2 tyX2 tyX2_ok nmX2 0 rfl rfl 5 (by decide) (List.mem_of_getElem? (i := 15) rfl) rfl rfl rfl (Nat.le_of_ble_eq_true rfl) dX2_init_72 (ws2 := [(a, .inr (2, [.int 0, .ref x7, .ref x15, .ref x23, .int 0, .int 1, .ref x31, .ref x39, .ref x47, .ref x55, .int 0])), (x7, .inl (cs.1, 20, .inl (fun _ => 0))), (x15, .inl (cs.1, 20, .inl (fun _ => 0))), (x23, .inl (cs.1, 60, .inl (fun _ => 0))), (x31, .inl (cs.1, 6, .inl (fun _ => 0))), (x39, .inl (cs.1, 6, .inl (fun _ => 0))), (x47, .inl (cs.1, 8, .inl (fun _ => 0))), (x55, .inl (cs.2.1, 32, .inr (.inl (fun _ => 0))))]) rfl (fun H locs hw => ?_)
  refine lv_aload_n (pc := 75) hx hb dX2_init_75 rfl (lv_at hl 0 rfl) ?_
  refine lv_iconst (pc := 76) (v := 0) hx hb dX2_init_76 (by decide) ?_
  refine x_put (pc := 77) X hw in_X2_init_X2 tyX2 tyX2_ok nmX2 0 rfl rfl 10 (by decide) (List.mem_of_getElem? (i := 16) rfl) rfl rfl rfl (Nat.le_of_ble_eq_true rfl) dX2_init_77 (ws2 := [(a, .inr (2, [.int 0, .ref x7, .ref x15, .ref x23, .int 0, .int 1, .ref x31, .ref x39, .ref x47, .ref x55, .int 0])), (x7, .inl (cs.1, 20, .inl (fun _ => 0))), (x15, .inl (cs.1, 20, .inl (fun _ => 0))), (x23, .inl (cs.1, 60, .inl (fun _ => 0))), (x31, .inl (cs.1, 6, .inl (fun _ => 0))), (x39, .inl (cs.1, 6, .inl (fun _ => 0))), (x47, .inl (cs.1, 8, .inl (fun _ => 0))), (x55, .inl (cs.2.1, 32, .inr (.inl (fun _ => 0))))]) rfl (fun H locs hw => ?_)
  exact hret _ _ 80 _ (wX2 cs a (fun k => ([0, x7, x15, x23, 0, 0, x31, x39, x47, x55, 0] : List Nat).getD k 0) zX2) ⟨_, rfl⟩ hw dX2_init_80

theorem in_X3_init_X3 : ∀ w ∈ wsX30, w ∈ wsX3_init := fun _ h => List.mem_cons_of_mem _ (List.mem_append_right _ h)
abbrev rmX3_init : Room := { frames := 1, cells := 0, slots := 0, locals := 12 }
def zX3 : PS := Z0
set_option maxHeartbeats 4000000 in
set_option maxRecDepth 100000 in
theorem c_X3_init (l : Launch) (D : va_G) (cs : CS) (a : Nat) (b1 : Nat) : CTN l D (TY cs) yX3_init wsX3_init rmX3_init [.ref a, .ref b1] [(a, .inr (3, [.null, .int 0, .int 0, .int 0]))] (fun w => w = wX3 cs a (fun _ => b1) zX3) 0 0 := by
  refine CTN.ofW (own := RX3) (cc := cX3_init) (maxL := 2) (by decide) rfl rfl rfl (Nat.le_of_ble_eq_true rfl) ?_
  intro p e s m args below meth c A Q X hin hret ls hl hw
  obtain ⟨hx, hb, hml, hown, hts, hK, hA, hr, hlk⟩ := id X
  have hl : lv_has ls 2 [(0, .ref a), (1, .ref b1)] := hl
  refine lv_aload_n (pc := 0) hx hb dX3_init_0 rfl (lv_at hl 0 rfl) ?_
  refine x_objinit (pc := 1) X (List.mem_of_getElem? (i := 1) rfl) (List.mem_of_getElem? (i := 2) rfl) (List.mem_of_getElem? (i := 3) rfl) hl.1 dX3_init_1 (Nat.le_of_ble_eq_true rfl) (Nat.le_of_ble_eq_true rfl) ?_
  refine lv_aload_n (pc := 4) hx hb dX3_init_4 rfl (lv_at hl 0 rfl) ?_
  refine lv_aload_n (pc := 5) hx hb dX3_init_5 rfl (lv_at hl 1 rfl) ?_
  refine x_putF (pc := 6) X hw in_X3_init_X3 tyX3 tyX3_ok nmX3 0 rfl rfl 0 (by decide) (List.mem_of_getElem? (i := 4) rfl) rfl hin rfl rfl rfl (Nat.le_of_ble_eq_true rfl) dX3_init_6 (ws2 := [(a, .inr (3, [.ref b1, .int 0, .int 0, .int 0]))]) rfl (fun H locs hw => ?_)
  refine lv_aload_n (pc := 9) hx hb dX3_init_9 rfl (lv_at hl 0 rfl) ?_
  refine lv_iconst (pc := 10) (v := 0) hx hb dX3_init_10 (by decide) ?_
  refine x_put (pc := 11) X hw in_X3_init_X3 tyX3 tyX3_ok nmX3 0 rfl rfl 1 (by decide) (List.mem_of_getElem? (i := 5) rfl) rfl rfl rfl (Nat.le_of_ble_eq_true rfl) dX3_init_11 (ws2 := [(a, .inr (3, [.ref b1, .int 0, .int 0, .int 0]))]) rfl (fun H locs hw => ?_)
  refine lv_aload_n (pc := 14) hx hb dX3_init_14 rfl (lv_at hl 0 rfl) ?_
  refine lv_iconst (pc := 15) (v := 0) hx hb dX3_init_15 (by decide) ?_
  refine x_put (pc := 16) X hw in_X3_init_X3 tyX3 tyX3_ok nmX3 0 rfl rfl 2 (by decide) (List.mem_of_getElem? (i := 6) rfl) rfl rfl rfl (Nat.le_of_ble_eq_true rfl) dX3_init_16 (ws2 := [(a, .inr (3, [.ref b1, .int 0, .int 0, .int 0]))]) rfl (fun H locs hw => ?_)
  refine lv_aload_n (pc := 19) hx hb dX3_init_19 rfl (lv_at hl 0 rfl) ?_
  refine lv_iconst (pc := 20) (v := 0) hx hb dX3_init_20 (by decide) ?_
  refine x_put (pc := 21) X hw in_X3_init_X3 tyX3 tyX3_ok nmX3 0 rfl rfl 3 (by decide) (List.mem_of_getElem? (i := 7) rfl) rfl rfl rfl (Nat.le_of_ble_eq_true rfl) dX3_init_21 (ws2 := [(a, .inr (3, [.ref b1, .int 0, .int 0, .int 0]))]) rfl (fun H locs hw => ?_)
  exact hret _ _ 24 _ _ rfl hw dX3_init_24

theorem in_X4_init_X4 : ∀ w ∈ wsX40, w ∈ wsX4_init := fun _ h => List.mem_cons_of_mem _ (List.mem_append_right _ h)
abbrev rmX4_init : Room := { frames := 1, cells := 1, slots := 16, locals := 20 }
def zX4 : PS := Z0
def B_X4_init_22 (v1 : Int32) (v4 : Int32) (S5 : PS) : Option ((Int32 × PS) ⊕ (PS)) :=
  if 16 ≤ v4 then
    some (.inr S5)
  else
  b1 (rdI 16 (S5.2.1 0) v1) fun v7 =>
  b1 (f_J6_bitCount_0f7a4 (v1 &&& v4)) fun v8 =>
  b1 (wA 16 S5 0 v1 (v7 ||| ((v8 &&& 1) <<< (v4 &&& 31)))) fun S9 =>
  bn (v4 + 1) fun v10 =>
  some (.inl (v10, S9))
def L_X4_init_22 (v1 : Int32) (n : Nat) (v4 : Int32) (S5 : PS) : Option (PS) := loopF (fun x : Int32 × PS => B_X4_init_22 v1 x.1 x.2) n (v4, S5)
def B_X4_init_14 (v1 : Int32) (S2 : PS) : Option ((Int32 × PS) ⊕ (PS)) :=
  if 16 ≤ v1 then
    some (.inr S2)
  else
  b1 (L_X4_init_22 v1 FU 0 S2) fun S11 =>
  bn (v1 + 1) fun v12 =>
  some (.inl (v12, S11))
def L_X4_init_14 (n : Nat) (v1 : Int32) (S2 : PS) : Option (PS) := loopF (fun x : Int32 × PS => B_X4_init_14 x.1 x.2) n (v1, S2)
def f_X4_init (S : PS) : Option PS :=
  b1 (L_X4_init_14 FU 0 S) fun S13 =>
  some S13
set_option maxHeartbeats 4000000 in
set_option maxRecDepth 100000 in
theorem c_X4_init (l : Launch) (D : va_G) (cs : CS) (a : Nat)  (S' : PS) (hf : f_X4_init Z0 = some S') : CTN l D (TY cs) yX4_init wsX4_init rmX4_init [.ref a] [(a, .inr (4, [.null]))] (fun w => ∃ q : Nat → Nat, w = wX4 cs a q S') 1 16 := by
  refine CTN.ofW (own := RX4) (cc := cX4_init) (maxL := 3) (by decide) rfl rfl rfl (Nat.le_of_ble_eq_true rfl) ?_
  intro p e s m args below meth c A Q X hin hret ls hl hw
  obtain ⟨hx, hb, hml, hown, hts, hK, hA, hr, hlk⟩ := id X
  have hl : lv_has ls 3 [(0, .ref a)] := hl
  refine lv_aload_n (pc := 0) hx hb dX4_init_0 rfl (lv_at hl 0 rfl) ?_
  refine x_objinit (pc := 1) X (List.mem_of_getElem? (i := 1) rfl) (List.mem_of_getElem? (i := 2) rfl) (List.mem_of_getElem? (i := 3) rfl) hl.1 dX4_init_1 (Nat.le_of_ble_eq_true rfl) (Nat.le_of_ble_eq_true rfl) ?_
  refine lv_aload_n (pc := 4) hx hb dX4_init_4 rfl (lv_at hl 0 rfl) ?_
  refine lv_bipush (pc := 5) (v := 16) hx hb dX4_init_5 (by decide) ?_
  refine x_newa (pc := 7) X hw rfl (Or.inl rfl) (List.mem_of_getElem? (i := 4) rfl) 0 rfl (a0 := (16, .inl (fun _ => 0))) (fun _ => rfl) (by decide) (by decide) (by decide) (Nat.le_of_ble_eq_true rfl) (Nat.le_of_ble_eq_true rfl) dX4_init_7 1 16 (Nat.le_of_ble_eq_true rfl) (Nat.le_of_ble_eq_true rfl) (fun x7 H hw => ?_)
  refine x_putF (pc := 9) X hw in_X4_init_X4 tyX4 tyX4_ok nmX4 0 rfl rfl 0 (by decide) (List.mem_of_getElem? (i := 5) rfl) rfl hin rfl rfl rfl (Nat.le_of_ble_eq_true rfl) dX4_init_9 (ws2 := [(a, .inr (4, [.ref x7])), (x7, .inl (cs.1, 16, .inl (fun _ => 0)))]) rfl (fun H locs hw => ?_)
  obtain ⟨q, hq⟩ : ∃ q : Nat → Nat, q = (fun k => ([x7] : List Nat).getD k 0) := ⟨_, rfl⟩
  obtain ⟨S, hS0⟩ : ∃ S : PS, S = Z0 := ⟨_, rfl⟩
  have hw : WD D A s (wX4 cs a q S) H locs := by rw [hq, hS0]; exact hw
  rw [← hS0] at hf
  clear hq hS0
  unfold f_X4_init at hf
  refine lv_iconst (pc := 12) (v := 0) hx hb dX4_init_12 (by decide) ?_
  refine lv_istore_n (lv' := [(1, .int 0), (0, .ref a)]) (pc := 13) hx hb dX4_init_13 rfl hl (by decide) rfl (fun ls hl => ?_)
  have L14 : ∀ (n : Nat) (v1 : Int32) (S2 : PS) (rS2 : PS), L_X4_init_14 n v1 S2 = some rS2 → ∀ (H : Heap) (locs : List Loc) (ls : Array Slot), WD D A s (wX4 cs a q S2) H locs → lv_has ls 3 [(0, .ref a), (1, .int v1)] → (∀ (H : Heap) (locs : List Loc) (ls : Array Slot), WD D A s (wX4 cs a q rS2) H locs → lv_has ls 3 [] → W p l e rmX4_init s m args below meth c H locs 1 16 Q (F0 m 59 ls [])) → W p l e rmX4_init s m args below meth c H locs 1 16 Q (F0 m 14 ls []) := by
    intro n
    induction n with
    | zero => intro v1 S2 rS2 hf; exact (loopF_z hf).elim
    | succ n ih =>
      intro v1 S2 rS2 hf H locs ls hw hl K
      obtain ⟨x, hf, hx0⟩ := loopF_ob hf
      have hf : B_X4_init_14 v1 S2 = some x := hf
      unfold B_X4_init_14 at hf
      refine lv_iload_n (pc := 14) hx hb dX4_init_14 rfl (lv_at hl 1 rfl) ?_
      refine lv_bipush (pc := 15) (v := 16) hx hb dX4_init_15 (by decide) ?_
      refine lv_icmp_ge (pc := 17) (tgt := 59) hx hb dX4_init_17 (by decide) (fun c3 => ?_) (fun c3 => ?_)
      · have hf := ipos c3 hf
        cases hf
        cases (hx0 : S2 = rS2)
        exact K _ _ _ hw (lv_sub hl [] rfl)
      · have hf := ineg c3 hf
        refine lv_iconst (pc := 20) (v := 0) hx hb dX4_init_20 (by decide) ?_
        refine lv_istore_n (lv' := [(2, .int 0), (0, .ref a), (1, .int v1)]) (pc := 21) hx hb dX4_init_21 rfl hl (by decide) rfl (fun ls hl => ?_)
        have L22 : ∀ (n : Nat) (v4 : Int32) (S5 : PS) (rS5 : PS), L_X4_init_22 v1 n v4 S5 = some rS5 → ∀ (H : Heap) (locs : List Loc) (ls : Array Slot), WD D A s (wX4 cs a q S5) H locs → lv_has ls 3 [(0, .ref a), (1, .int v1), (2, .int v4)] → (∀ (H : Heap) (locs : List Loc) (ls : Array Slot), WD D A s (wX4 cs a q rS5) H locs → lv_has ls 3 [(0, .ref a), (1, .int v1)] → W p l e rmX4_init s m args below meth c H locs 1 16 Q (F0 m 53 ls [])) → W p l e rmX4_init s m args below meth c H locs 1 16 Q (F0 m 22 ls []) := by
          intro n
          induction n with
          | zero => intro v4 S5 rS5 hf; exact (loopF_z hf).elim
          | succ n ih =>
            intro v4 S5 rS5 hf H locs ls hw hl K
            obtain ⟨x, hf, hx0⟩ := loopF_ob hf
            have hf : B_X4_init_22 v1 v4 S5 = some x := hf
            unfold B_X4_init_22 at hf
            refine lv_iload_n (pc := 22) hx hb dX4_init_22 rfl (lv_at hl 2 rfl) ?_
            refine lv_bipush (pc := 23) (v := 16) hx hb dX4_init_23 (by decide) ?_
            refine lv_icmp_ge (pc := 25) (tgt := 53) hx hb dX4_init_25 (by decide) (fun c6 => ?_) (fun c6 => ?_)
            · have hf := ipos c6 hf
              cases hf
              cases (hx0 : S5 = rS5)
              exact K _ _ _ hw (lv_sub hl [0, 1] rfl)
            · have hf := ineg c6 hf
              refine lv_aload_n (pc := 28) hx hb dX4_init_28 rfl (lv_at hl 0 rfl) ?_
              refine x_get (pc := 29) X hw in_X4_init_X4 0 rfl rfl 0 (by decide) (List.mem_of_getElem? (i := 5) rfl) rfl dX4_init_29 ?_
              refine lv_iload_n (pc := 32) hx hb dX4_init_32 rfl (lv_at hl 1 rfl) ?_
              refine lv_dup2_11 (pc := 33) hx hb dX4_init_33 rfl rfl ?_
              obtain ⟨v7, ev7, hf⟩ := b1_ob hf
              refine x_iald (pc := 34) X hw 1 0 rfl rfl ev7 dX4_init_34 ?_
              refine lv_iload_n (pc := 35) hx hb dX4_init_35 rfl (lv_at hl 1 rfl) ?_
              refine lv_iload_n (pc := 36) hx hb dX4_init_36 rfl (lv_at hl 2 rfl) ?_
              refine lv_iand (pc := 37) hx hb dX4_init_37 ?_
              obtain ⟨v8, hc, hf⟩ := b1_ob hf
              refine x_nil (pc := 38) X hw (va_runS (As := [.int (v1 &&& v4)]) (rest := [.int v7, .int v1, .ref (q 0)]) ⟨hx, hb, hml, hown, hts⟩ (c_J6_bitCount_0f7a4 l D cs (v1 &&& v4) v8 hc _) (va_cwS 1 hts gX4_init_J6_bitCount_0f7a4 rfl rfl rfl (by decide +kernel) ⟨Nat.le_of_ble_eq_true rfl, Nat.le_of_ble_eq_true rfl⟩) ⟨CP_blind, x_preN X [.int (v1 &&& v4)]⟩ rfl rfl hl.1 rfl (lv_room (Nat.le_of_ble_eq_true rfl)) dX4_init_38 ⟨Nat.le_of_ble_eq_true rfl, Nat.le_of_ble_eq_true rfl⟩) (fun H locs hw => ?_)
              refine lv_iconst (pc := 41) (v := 1) hx hb dX4_init_41 (by decide) ?_
              refine lv_iand (pc := 42) hx hb dX4_init_42 ?_
              refine lv_iload_n (pc := 43) hx hb dX4_init_43 rfl (lv_at hl 2 rfl) ?_
              refine lv_ishl (pc := 44) hx hb dX4_init_44 ?_
              refine lv_ior (pc := 45) hx hb dX4_init_45 ?_
              obtain ⟨S9, eS9, hf⟩ := b1_ob hf
              refine x_iast (pc := 46) X hw 1 0 rfl rfl (wA_ob eS9).1 dX4_init_46 (ws2 := wX4 cs a q S9) (by rw [(wA_ob eS9).2]; rfl) (fun H locs hw => ?_)
              obtain ⟨v10, ev10, hf⟩ := bn_ob hf
              refine lv_iinc (pc := 47) (v := v10) (lv' := [(2, .int v10), (0, .ref a), (1, .int v1)]) hx hb dX4_init_47 hl (k := 2) rfl (by rw [ev10]; rfl) (by decide) rfl (fun ls hl => ?_)
              refine lv_goto (pc := 50) (tgt := 22) hx hb dX4_init_50 (by decide) ?_
              cases hf
              exact ih v10 S9 rS5 hx0 _ _ _ hw (lv_sub hl [1, 2, 0] rfl) K
        obtain ⟨S11, hj, hf⟩ := b1_ob hf
        refine L22 _ 0 S2 S11 hj _ _ _ hw (lv_sub hl [1, 2, 0] rfl) (fun H locs ls hw hl => ?_)
        clear hj L22
        obtain ⟨v12, ev12, hf⟩ := bn_ob hf
        refine lv_iinc (pc := 53) (v := v12) (lv' := [(1, .int v12), (0, .ref a)]) hx hb dX4_init_53 hl (k := 1) rfl (by rw [ev12]; rfl) (by decide) rfl (fun ls hl => ?_)
        refine lv_goto (pc := 56) (tgt := 14) hx hb dX4_init_56 (by decide) ?_
        cases hf
        exact ih v12 S11 rS2 hx0 _ _ _ hw (lv_sub hl [1, 0] rfl) K
  obtain ⟨S13, hj, hf⟩ := b1_ob hf
  refine L14 _ 0 S S13 hj _ _ _ hw (lv_sub hl [1, 0] rfl) (fun H locs ls hw hl => ?_)
  clear hj L14
  cases hf
  exact hret _ _ 59 _ _ ⟨_, rfl⟩ hw dX4_init_59

theorem in_X5_init_X5 : ∀ w ∈ wsX50, w ∈ wsX5_init := fun _ h => List.mem_cons_of_mem _ (List.mem_append_right _ h)
abbrev rmX5_init : Room := { frames := 1, cells := 1, slots := 64, locals := 12 }
def zX5 : PS := Z0
set_option maxHeartbeats 4000000 in
set_option maxRecDepth 100000 in
theorem c_X5_init (l : Launch) (D : va_G) (cs : CS) (a : Nat) : CTN l D (TY cs) yX5_init wsX5_init rmX5_init [.ref a] [(a, .inr (5, [.null, .int 0]))] (fun w => ∃ q : Nat → Nat, w = wX5 cs a q zX5) 1 64 := by
  refine CTN.ofW (own := RX5) (cc := cX5_init) (maxL := 1) (by decide) rfl rfl rfl (Nat.le_of_ble_eq_true rfl) ?_
  intro p e s m args below meth c A Q X hin hret ls hl hw
  obtain ⟨hx, hb, hml, hown, hts, hK, hA, hr, hlk⟩ := id X
  have hl : lv_has ls 1 [(0, .ref a)] := hl
  refine lv_aload_n (pc := 0) hx hb dX5_init_0 rfl (lv_at hl 0 rfl) ?_
  refine x_objinit (pc := 1) X (List.mem_of_getElem? (i := 1) rfl) (List.mem_of_getElem? (i := 2) rfl) (List.mem_of_getElem? (i := 3) rfl) hl.1 dX5_init_1 (Nat.le_of_ble_eq_true rfl) (Nat.le_of_ble_eq_true rfl) ?_
  refine lv_aload_n (pc := 4) hx hb dX5_init_4 rfl (lv_at hl 0 rfl) ?_
  refine lv_bipush (pc := 5) (v := 64) hx hb dX5_init_5 (by decide) ?_
  refine x_newa (pc := 7) X hw rfl (Or.inr (Or.inl rfl)) (List.mem_of_getElem? (i := 4) rfl) 1 rfl (a0 := (64, .inr (.inl (fun _ => 0)))) (fun _ => rfl) (by decide) (by decide) (by decide) (Nat.le_of_ble_eq_true rfl) (Nat.le_of_ble_eq_true rfl) dX5_init_7 1 64 (Nat.le_of_ble_eq_true rfl) (Nat.le_of_ble_eq_true rfl) (fun x7 H hw => ?_)
  refine x_putF (pc := 9) X hw in_X5_init_X5 tyX5 tyX5_ok nmX5 0 rfl rfl 0 (by decide) (List.mem_of_getElem? (i := 5) rfl) rfl hin rfl rfl rfl (Nat.le_of_ble_eq_true rfl) dX5_init_9 (ws2 := [(a, .inr (5, [.ref x7, .int 0])), (x7, .inl (cs.2.1, 64, .inr (.inl (fun _ => 0))))]) rfl (fun H locs hw => ?_)
  refine lv_aload_n (pc := 12) hx hb dX5_init_12 rfl (lv_at hl 0 rfl) ?_
  refine lv_iconst (pc := 13) (v := 0) hx hb dX5_init_13 (by decide) ?_
  refine x_put (pc := 14) X hw in_X5_init_X5 tyX5 tyX5_ok nmX5 0 rfl rfl 1 (by decide) (List.mem_of_getElem? (i := 6) rfl) rfl rfl rfl (Nat.le_of_ble_eq_true rfl) dX5_init_14 (ws2 := [(a, .inr (5, [.ref x7, .int 0])), (x7, .inl (cs.2.1, 64, .inr (.inl (fun _ => 0))))]) rfl (fun H locs hw => ?_)
  exact hret _ _ 17 _ (wX5 cs a (fun k => ([x7, 0] : List Nat).getD k 0) zX5) ⟨_, rfl⟩ hw dX5_init_17

theorem in_X6_init_X6 : ∀ w ∈ wsX60, w ∈ wsX6_init := fun _ h => List.mem_cons_of_mem _ (List.mem_append_right _ h)
abbrev rmX6_init : Room := { frames := 1, cells := 1, slots := 200, locals := 12 }
def zX6 : PS := Z0
set_option maxHeartbeats 4000000 in
set_option maxRecDepth 100000 in
theorem c_X6_init (l : Launch) (D : va_G) (cs : CS) (a : Nat) : CTN l D (TY cs) yX6_init wsX6_init rmX6_init [.ref a] [(a, .inr (6, [.null, .int 0]))] (fun w => ∃ q : Nat → Nat, w = wX6 cs a q zX6) 1 200 := by
  refine CTN.ofW (own := RX6) (cc := cX6_init) (maxL := 1) (by decide) rfl rfl rfl (Nat.le_of_ble_eq_true rfl) ?_
  intro p e s m args below meth c A Q X hin hret ls hl hw
  obtain ⟨hx, hb, hml, hown, hts, hK, hA, hr, hlk⟩ := id X
  have hl : lv_has ls 1 [(0, .ref a)] := hl
  refine lv_aload_n (pc := 0) hx hb dX6_init_0 rfl (lv_at hl 0 rfl) ?_
  refine x_objinit (pc := 1) X (List.mem_of_getElem? (i := 1) rfl) (List.mem_of_getElem? (i := 2) rfl) (List.mem_of_getElem? (i := 3) rfl) hl.1 dX6_init_1 (Nat.le_of_ble_eq_true rfl) (Nat.le_of_ble_eq_true rfl) ?_
  refine lv_aload_n (pc := 4) hx hb dX6_init_4 rfl (lv_at hl 0 rfl) ?_
  refine lv_sipush (pc := 5) (v := 200) hx hb dX6_init_5 (by decide) ?_
  refine x_newa (pc := 8) X hw rfl (Or.inl rfl) (List.mem_of_getElem? (i := 4) rfl) 0 rfl (a0 := (200, .inl (fun _ => 0))) (fun _ => rfl) (by decide) (by decide) (by decide) (Nat.le_of_ble_eq_true rfl) (Nat.le_of_ble_eq_true rfl) dX6_init_8 1 200 (Nat.le_of_ble_eq_true rfl) (Nat.le_of_ble_eq_true rfl) (fun x8 H hw => ?_)
  refine x_putF (pc := 10) X hw in_X6_init_X6 tyX6 tyX6_ok nmX6 0 rfl rfl 0 (by decide) (List.mem_of_getElem? (i := 5) rfl) rfl hin rfl rfl rfl (Nat.le_of_ble_eq_true rfl) dX6_init_10 (ws2 := [(a, .inr (6, [.ref x8, .int 0])), (x8, .inl (cs.1, 200, .inl (fun _ => 0)))]) rfl (fun H locs hw => ?_)
  refine lv_aload_n (pc := 13) hx hb dX6_init_13 rfl (lv_at hl 0 rfl) ?_
  refine lv_iconst (pc := 14) (v := 0) hx hb dX6_init_14 (by decide) ?_
  refine x_put (pc := 15) X hw in_X6_init_X6 tyX6 tyX6_ok nmX6 0 rfl rfl 1 (by decide) (List.mem_of_getElem? (i := 6) rfl) rfl rfl rfl (Nat.le_of_ble_eq_true rfl) dX6_init_15 (ws2 := [(a, .inr (6, [.ref x8, .int 0])), (x8, .inl (cs.1, 200, .inl (fun _ => 0)))]) rfl (fun H locs hw => ?_)
  exact hret _ _ 18 _ (wX6 cs a (fun k => ([x8, 0] : List Nat).getD k 0) zX6) ⟨_, rfl⟩ hw dX6_init_18

theorem in_X7_init_X7 : ∀ w ∈ wsX70, w ∈ wsX7_init := fun _ h => List.mem_cons_of_mem _ (List.mem_append_right _ h)
abbrev rmX7_init : Room := { frames := 1, cells := 4, slots := 136, locals := 12 }
def zX7 : PS := sI Z0 3 1
set_option maxHeartbeats 4000000 in
set_option maxRecDepth 100000 in
theorem c_X7_init (l : Launch) (D : va_G) (cs : CS) (a : Nat) (b1 : Nat) : CTN l D (TY cs) yX7_init wsX7_init rmX7_init [.ref a, .ref b1] [(a, .inr (7, [.null, .int 0, .int 0, .int 0, .null, .null, .null, .null]))] (fun w => ∃ q : Nat → Nat, w = wX7 cs a (va_up q 0 b1) zX7) 4 136 := by
  refine CTN.ofW (own := RX7) (cc := cX7_init) (maxL := 2) (by decide) rfl rfl rfl (Nat.le_of_ble_eq_true rfl) ?_
  intro p e s m args below meth c A Q X hin hret ls hl hw
  obtain ⟨hx, hb, hml, hown, hts, hK, hA, hr, hlk⟩ := id X
  have hl : lv_has ls 2 [(0, .ref a), (1, .ref b1)] := hl
  refine lv_aload_n (pc := 0) hx hb dX7_init_0 rfl (lv_at hl 0 rfl) ?_
  refine x_objinit (pc := 1) X (List.mem_of_getElem? (i := 1) rfl) (List.mem_of_getElem? (i := 2) rfl) (List.mem_of_getElem? (i := 3) rfl) hl.1 dX7_init_1 (Nat.le_of_ble_eq_true rfl) (Nat.le_of_ble_eq_true rfl) ?_
  refine lv_aload_n (pc := 4) hx hb dX7_init_4 rfl (lv_at hl 0 rfl) ?_
  refine lv_aload_n (pc := 5) hx hb dX7_init_5 rfl (lv_at hl 1 rfl) ?_
  refine x_put (pc := 6) X hw in_X7_init_X7 tyX7 tyX7_ok nmX7 0 rfl rfl 0 (by decide) (List.mem_of_getElem? (i := 4) rfl) rfl rfl rfl (Nat.le_of_ble_eq_true rfl) dX7_init_6 (ws2 := [(a, .inr (7, [.ref b1, .int 0, .int 0, .int 0, .null, .null, .null, .null]))]) rfl (fun H locs hw => ?_)
  refine lv_aload_n (pc := 9) hx hb dX7_init_9 rfl (lv_at hl 0 rfl) ?_
  refine lv_bipush (pc := 10) (v := 32) hx hb dX7_init_10 (by decide) ?_
  refine x_newa (pc := 12) X hw rfl (Or.inr (Or.inl rfl)) (List.mem_of_getElem? (i := 5) rfl) 1 rfl (a0 := (32, .inr (.inl (fun _ => 0)))) (fun _ => rfl) (by decide) (by decide) (by decide) (Nat.le_of_ble_eq_true rfl) (Nat.le_of_ble_eq_true rfl) dX7_init_12 1 32 (Nat.le_of_ble_eq_true rfl) (Nat.le_of_ble_eq_true rfl) (fun x12 H hw => ?_)
  refine x_putF (pc := 14) X hw in_X7_init_X7 tyX7 tyX7_ok nmX7 0 rfl rfl 4 (by decide) (List.mem_of_getElem? (i := 6) rfl) rfl hin rfl rfl rfl (Nat.le_of_ble_eq_true rfl) dX7_init_14 (ws2 := [(a, .inr (7, [.ref b1, .int 0, .int 0, .int 0, .ref x12, .null, .null, .null])), (x12, .inl (cs.2.1, 32, .inr (.inl (fun _ => 0))))]) rfl (fun H locs hw => ?_)
  refine lv_aload_n (pc := 17) hx hb dX7_init_17 rfl (lv_at hl 0 rfl) ?_
  refine lv_bipush (pc := 18) (v := 64) hx hb dX7_init_18 (by decide) ?_
  refine x_newa (pc := 20) X hw rfl (Or.inl rfl) (List.mem_of_getElem? (i := 7) rfl) 0 rfl (a0 := (64, .inl (fun _ => 0))) (fun _ => rfl) (by decide) (by decide) (by decide) (Nat.le_of_ble_eq_true rfl) (Nat.le_of_ble_eq_true rfl) dX7_init_20 2 96 (Nat.le_of_ble_eq_true rfl) (Nat.le_of_ble_eq_true rfl) (fun x20 H hw => ?_)
  refine x_putF (pc := 22) X hw in_X7_init_X7 tyX7 tyX7_ok nmX7 0 rfl rfl 5 (by decide) (List.mem_of_getElem? (i := 8) rfl) rfl hin rfl rfl rfl (Nat.le_of_ble_eq_true rfl) dX7_init_22 (ws2 := [(a, .inr (7, [.ref b1, .int 0, .int 0, .int 0, .ref x12, .ref x20, .null, .null])), (x12, .inl (cs.2.1, 32, .inr (.inl (fun _ => 0)))), (x20, .inl (cs.1, 64, .inl (fun _ => 0)))]) rfl (fun H locs hw => ?_)
  refine lv_aload_n (pc := 25) hx hb dX7_init_25 rfl (lv_at hl 0 rfl) ?_
  refine lv_bipush (pc := 26) (v := 32) hx hb dX7_init_26 (by decide) ?_
  refine x_newa (pc := 28) X hw rfl (Or.inl rfl) (List.mem_of_getElem? (i := 7) rfl) 0 rfl (a0 := (32, .inl (fun _ => 0))) (fun _ => rfl) (by decide) (by decide) (by decide) (Nat.le_of_ble_eq_true rfl) (Nat.le_of_ble_eq_true rfl) dX7_init_28 3 128 (Nat.le_of_ble_eq_true rfl) (Nat.le_of_ble_eq_true rfl) (fun x28 H hw => ?_)
  refine x_putF (pc := 30) X hw in_X7_init_X7 tyX7 tyX7_ok nmX7 0 rfl rfl 6 (by decide) (List.mem_of_getElem? (i := 9) rfl) rfl hin rfl rfl rfl (Nat.le_of_ble_eq_true rfl) dX7_init_30 (ws2 := [(a, .inr (7, [.ref b1, .int 0, .int 0, .int 0, .ref x12, .ref x20, .ref x28, .null])), (x12, .inl (cs.2.1, 32, .inr (.inl (fun _ => 0)))), (x20, .inl (cs.1, 64, .inl (fun _ => 0))), (x28, .inl (cs.1, 32, .inl (fun _ => 0)))]) rfl (fun H locs hw => ?_)
  refine lv_aload_n (pc := 33) hx hb dX7_init_33 rfl (lv_at hl 0 rfl) ?_
  refine lv_bipush (pc := 34) (v := 8) hx hb dX7_init_34 (by decide) ?_
  refine x_newa (pc := 36) X hw rfl (Or.inr (Or.inl rfl)) (List.mem_of_getElem? (i := 5) rfl) 1 rfl (a0 := (8, .inr (.inl (fun _ => 0)))) (fun _ => rfl) (by decide) (by decide) (by decide) (Nat.le_of_ble_eq_true rfl) (Nat.le_of_ble_eq_true rfl) dX7_init_36 4 136 (Nat.le_of_ble_eq_true rfl) (Nat.le_of_ble_eq_true rfl) (fun x36 H hw => ?_)
  refine x_putF (pc := 38) X hw in_X7_init_X7 tyX7 tyX7_ok nmX7 0 rfl rfl 7 (by decide) (List.mem_of_getElem? (i := 10) rfl) rfl hin rfl rfl rfl (Nat.le_of_ble_eq_true rfl) dX7_init_38 (ws2 := [(a, .inr (7, [.ref b1, .int 0, .int 0, .int 0, .ref x12, .ref x20, .ref x28, .ref x36])), (x12, .inl (cs.2.1, 32, .inr (.inl (fun _ => 0)))), (x20, .inl (cs.1, 64, .inl (fun _ => 0))), (x28, .inl (cs.1, 32, .inl (fun _ => 0))), (x36, .inl (cs.2.1, 8, .inr (.inl (fun _ => 0))))]) rfl (fun H locs hw => ?_)
  refine lv_aload_n (pc := 41) hx hb dX7_init_41 rfl (lv_at hl 0 rfl) ?_
  refine lv_iconst (pc := 42) (v := 0) hx hb dX7_init_42 (by decide) ?_
  refine x_put (pc := 43) X hw in_X7_init_X7 tyX7 tyX7_ok nmX7 0 rfl rfl 1 (by decide) (List.mem_of_getElem? (i := 11) rfl) rfl rfl rfl (Nat.le_of_ble_eq_true rfl) dX7_init_43 (ws2 := [(a, .inr (7, [.ref b1, .int 0, .int 0, .int 0, .ref x12, .ref x20, .ref x28, .ref x36])), (x12, .inl (cs.2.1, 32, .inr (.inl (fun _ => 0)))), (x20, .inl (cs.1, 64, .inl (fun _ => 0))), (x28, .inl (cs.1, 32, .inl (fun _ => 0))), (x36, .inl (cs.2.1, 8, .inr (.inl (fun _ => 0))))]) rfl (fun H locs hw => ?_)
  refine lv_aload_n (pc := 46) hx hb dX7_init_46 rfl (lv_at hl 0 rfl) ?_
  refine lv_iconst (pc := 47) (v := 0) hx hb dX7_init_47 (by decide) ?_
  refine x_put (pc := 48) X hw in_X7_init_X7 tyX7 tyX7_ok nmX7 0 rfl rfl 2 (by decide) (List.mem_of_getElem? (i := 12) rfl) rfl rfl rfl (Nat.le_of_ble_eq_true rfl) dX7_init_48 (ws2 := [(a, .inr (7, [.ref b1, .int 0, .int 0, .int 0, .ref x12, .ref x20, .ref x28, .ref x36])), (x12, .inl (cs.2.1, 32, .inr (.inl (fun _ => 0)))), (x20, .inl (cs.1, 64, .inl (fun _ => 0))), (x28, .inl (cs.1, 32, .inl (fun _ => 0))), (x36, .inl (cs.2.1, 8, .inr (.inl (fun _ => 0))))]) rfl (fun H locs hw => ?_)
  refine lv_aload_n (pc := 51) hx hb dX7_init_51 rfl (lv_at hl 0 rfl) ?_
  refine lv_iconst (pc := 52) (v := 1) hx hb dX7_init_52 (by decide) ?_
  refine x_put (pc := 53) X hw in_X7_init_X7 tyX7 tyX7_ok nmX7 0 rfl rfl 3 (by decide) (List.mem_of_getElem? (i := 13) rfl) rfl (by decide) (by decide) (Nat.le_of_ble_eq_true rfl) dX7_init_53 (ws2 := [(a, .inr (7, [.ref b1, .int 0, .int 0, .int 1, .ref x12, .ref x20, .ref x28, .ref x36])), (x12, .inl (cs.2.1, 32, .inr (.inl (fun _ => 0)))), (x20, .inl (cs.1, 64, .inl (fun _ => 0))), (x28, .inl (cs.1, 32, .inl (fun _ => 0))), (x36, .inl (cs.2.1, 8, .inr (.inl (fun _ => 0))))]) rfl (fun H locs hw => ?_)
  exact hret _ _ 56 _ (wX7 cs a (va_up (fun k => ([b1, 0, 0, 0, x12, x20, x28, x36] : List Nat).getD k 0) 0 b1) zX7) ⟨_, rfl⟩ hw dX7_init_56

theorem in_X8_init_X8 : ∀ w ∈ wsX80, w ∈ wsX8_init := fun _ h => List.mem_cons_of_mem _ (List.mem_append_right _ h)
abbrev rmX8_init : Room := { frames := 1, cells := 6, slots := 74, locals := 12 }
def zX8 : PS := sI Z0 0 4
set_option maxHeartbeats 4000000 in
set_option maxRecDepth 100000 in
theorem c_X8_init (l : Launch) (D : va_G) (cs : CS) (a : Nat) : CTN l D (TY cs) yX8_init wsX8_init rmX8_init [.ref a] [(a, .inr (8, [.int 0, .int 0, .int 0, .null, .null, .null, .null, .null, .null]))] (fun w => ∃ q : Nat → Nat, w = wX8 cs a q zX8) 6 74 := by
  refine CTN.ofW (own := RX8) (cc := cX8_init) (maxL := 1) (by decide) rfl rfl rfl (Nat.le_of_ble_eq_true rfl) ?_
  intro p e s m args below meth c A Q X hin hret ls hl hw
  obtain ⟨hx, hb, hml, hown, hts, hK, hA, hr, hlk⟩ := id X
  have hl : lv_has ls 1 [(0, .ref a)] := hl
  refine lv_aload_n (pc := 0) hx hb dX8_init_0 rfl (lv_at hl 0 rfl) ?_
  refine x_objinit (pc := 1) X (List.mem_of_getElem? (i := 1) rfl) (List.mem_of_getElem? (i := 2) rfl) (List.mem_of_getElem? (i := 3) rfl) hl.1 dX8_init_1 (Nat.le_of_ble_eq_true rfl) (Nat.le_of_ble_eq_true rfl) ?_
  refine lv_aload_n (pc := 4) hx hb dX8_init_4 rfl (lv_at hl 0 rfl) ?_
  refine lv_bipush (pc := 5) (v := 16) hx hb dX8_init_5 (by decide) ?_
  refine x_newa (pc := 7) X hw rfl (Or.inl rfl) (List.mem_of_getElem? (i := 4) rfl) 0 rfl (a0 := (16, .inl (fun _ => 0))) (fun _ => rfl) (by decide) (by decide) (by decide) (Nat.le_of_ble_eq_true rfl) (Nat.le_of_ble_eq_true rfl) dX8_init_7 1 16 (Nat.le_of_ble_eq_true rfl) (Nat.le_of_ble_eq_true rfl) (fun x7 H hw => ?_)
  refine x_putF (pc := 9) X hw in_X8_init_X8 tyX8 tyX8_ok nmX8 0 rfl rfl 3 (by decide) (List.mem_of_getElem? (i := 5) rfl) rfl hin rfl rfl rfl (Nat.le_of_ble_eq_true rfl) dX8_init_9 (ws2 := [(a, .inr (8, [.int 0, .int 0, .int 0, .ref x7, .null, .null, .null, .null, .null])), (x7, .inl (cs.1, 16, .inl (fun _ => 0)))]) rfl (fun H locs hw => ?_)
  refine lv_aload_n (pc := 12) hx hb dX8_init_12 rfl (lv_at hl 0 rfl) ?_
  refine lv_bipush (pc := 13) (v := 16) hx hb dX8_init_13 (by decide) ?_
  refine x_newa (pc := 15) X hw rfl (Or.inl rfl) (List.mem_of_getElem? (i := 4) rfl) 0 rfl (a0 := (16, .inl (fun _ => 0))) (fun _ => rfl) (by decide) (by decide) (by decide) (Nat.le_of_ble_eq_true rfl) (Nat.le_of_ble_eq_true rfl) dX8_init_15 2 32 (Nat.le_of_ble_eq_true rfl) (Nat.le_of_ble_eq_true rfl) (fun x15 H hw => ?_)
  refine x_putF (pc := 17) X hw in_X8_init_X8 tyX8 tyX8_ok nmX8 0 rfl rfl 4 (by decide) (List.mem_of_getElem? (i := 6) rfl) rfl hin rfl rfl rfl (Nat.le_of_ble_eq_true rfl) dX8_init_17 (ws2 := [(a, .inr (8, [.int 0, .int 0, .int 0, .ref x7, .ref x15, .null, .null, .null, .null])), (x7, .inl (cs.1, 16, .inl (fun _ => 0))), (x15, .inl (cs.1, 16, .inl (fun _ => 0)))]) rfl (fun H locs hw => ?_)
  refine lv_aload_n (pc := 20) hx hb dX8_init_20 rfl (lv_at hl 0 rfl) ?_
  refine lv_bipush (pc := 21) (v := 16) hx hb dX8_init_21 (by decide) ?_
  refine x_newa (pc := 23) X hw rfl (Or.inl rfl) (List.mem_of_getElem? (i := 4) rfl) 0 rfl (a0 := (16, .inl (fun _ => 0))) (fun _ => rfl) (by decide) (by decide) (by decide) (Nat.le_of_ble_eq_true rfl) (Nat.le_of_ble_eq_true rfl) dX8_init_23 3 48 (Nat.le_of_ble_eq_true rfl) (Nat.le_of_ble_eq_true rfl) (fun x23 H hw => ?_)
  refine x_putF (pc := 25) X hw in_X8_init_X8 tyX8 tyX8_ok nmX8 0 rfl rfl 5 (by decide) (List.mem_of_getElem? (i := 7) rfl) rfl hin rfl rfl rfl (Nat.le_of_ble_eq_true rfl) dX8_init_25 (ws2 := [(a, .inr (8, [.int 0, .int 0, .int 0, .ref x7, .ref x15, .ref x23, .null, .null, .null])), (x7, .inl (cs.1, 16, .inl (fun _ => 0))), (x15, .inl (cs.1, 16, .inl (fun _ => 0))), (x23, .inl (cs.1, 16, .inl (fun _ => 0)))]) rfl (fun H locs hw => ?_)
  refine lv_aload_n (pc := 28) hx hb dX8_init_28 rfl (lv_at hl 0 rfl) ?_
  refine lv_bipush (pc := 29) (v := 10) hx hb dX8_init_29 (by decide) ?_
  refine x_newa (pc := 31) X hw rfl (Or.inl rfl) (List.mem_of_getElem? (i := 4) rfl) 0 rfl (a0 := (10, .inl (fun _ => 0))) (fun _ => rfl) (by decide) (by decide) (by decide) (Nat.le_of_ble_eq_true rfl) (Nat.le_of_ble_eq_true rfl) dX8_init_31 4 58 (Nat.le_of_ble_eq_true rfl) (Nat.le_of_ble_eq_true rfl) (fun x31 H hw => ?_)
  refine x_putF (pc := 33) X hw in_X8_init_X8 tyX8 tyX8_ok nmX8 0 rfl rfl 6 (by decide) (List.mem_of_getElem? (i := 8) rfl) rfl hin rfl rfl rfl (Nat.le_of_ble_eq_true rfl) dX8_init_33 (ws2 := [(a, .inr (8, [.int 0, .int 0, .int 0, .ref x7, .ref x15, .ref x23, .ref x31, .null, .null])), (x7, .inl (cs.1, 16, .inl (fun _ => 0))), (x15, .inl (cs.1, 16, .inl (fun _ => 0))), (x23, .inl (cs.1, 16, .inl (fun _ => 0))), (x31, .inl (cs.1, 10, .inl (fun _ => 0)))]) rfl (fun H locs hw => ?_)
  refine lv_aload_n (pc := 36) hx hb dX8_init_36 rfl (lv_at hl 0 rfl) ?_
  refine lv_bipush (pc := 37) (v := 8) hx hb dX8_init_37 (by decide) ?_
  refine x_newa (pc := 39) X hw rfl (Or.inr (Or.inl rfl)) (List.mem_of_getElem? (i := 9) rfl) 1 rfl (a0 := (8, .inr (.inl (fun _ => 0)))) (fun _ => rfl) (by decide) (by decide) (by decide) (Nat.le_of_ble_eq_true rfl) (Nat.le_of_ble_eq_true rfl) dX8_init_39 5 66 (Nat.le_of_ble_eq_true rfl) (Nat.le_of_ble_eq_true rfl) (fun x39 H hw => ?_)
  refine x_put (pc := 41) X hw in_X8_init_X8 tyX8 tyX8_ok nmX8 0 rfl rfl 7 (by decide) (List.mem_of_getElem? (i := 10) rfl) rfl rfl rfl (Nat.le_of_ble_eq_true rfl) dX8_init_41 (ws2 := [(a, .inr (8, [.int 0, .int 0, .int 0, .ref x7, .ref x15, .ref x23, .ref x31, .ref x39, .null])), (x7, .inl (cs.1, 16, .inl (fun _ => 0))), (x15, .inl (cs.1, 16, .inl (fun _ => 0))), (x23, .inl (cs.1, 16, .inl (fun _ => 0))), (x31, .inl (cs.1, 10, .inl (fun _ => 0))), (x39, .inl (cs.2.1, 8, .inr (.inl (fun _ => 0))))]) rfl (fun H locs hw => ?_)
  refine lv_aload_n (pc := 44) hx hb dX8_init_44 rfl (lv_at hl 0 rfl) ?_
  refine lv_bipush (pc := 45) (v := 8) hx hb dX8_init_45 (by decide) ?_
  refine x_newa (pc := 47) X hw rfl (Or.inr (Or.inl rfl)) (List.mem_of_getElem? (i := 9) rfl) 1 rfl (a0 := (8, .inr (.inl (fun _ => 0)))) (fun _ => rfl) (by decide) (by decide) (by decide) (Nat.le_of_ble_eq_true rfl) (Nat.le_of_ble_eq_true rfl) dX8_init_47 6 74 (Nat.le_of_ble_eq_true rfl) (Nat.le_of_ble_eq_true rfl) (fun x47 H hw => ?_)
  refine x_put (pc := 49) X hw in_X8_init_X8 tyX8 tyX8_ok nmX8 0 rfl rfl 8 (by decide) (List.mem_of_getElem? (i := 11) rfl) rfl rfl rfl (Nat.le_of_ble_eq_true rfl) dX8_init_49 (ws2 := [(a, .inr (8, [.int 0, .int 0, .int 0, .ref x7, .ref x15, .ref x23, .ref x31, .ref x39, .ref x47])), (x7, .inl (cs.1, 16, .inl (fun _ => 0))), (x15, .inl (cs.1, 16, .inl (fun _ => 0))), (x23, .inl (cs.1, 16, .inl (fun _ => 0))), (x31, .inl (cs.1, 10, .inl (fun _ => 0))), (x39, .inl (cs.2.1, 8, .inr (.inl (fun _ => 0)))), (x47, .inl (cs.2.1, 8, .inr (.inl (fun _ => 0))))]) rfl (fun H locs hw => ?_)
  refine lv_aload_n (pc := 52) hx hb dX8_init_52 rfl (lv_at hl 0 rfl) ?_
  refine lv_iconst (pc := 53) (v := 4) hx hb dX8_init_53 (by decide) ?_
  refine x_put (pc := 54) X hw in_X8_init_X8 tyX8 tyX8_ok nmX8 0 rfl rfl 0 (by decide) (List.mem_of_getElem? (i := 12) rfl) rfl rfl rfl (Nat.le_of_ble_eq_true rfl) dX8_init_54 (ws2 := [(a, .inr (8, [.int 4, .int 0, .int 0, .ref x7, .ref x15, .ref x23, .ref x31, .ref x39, .ref x47])), (x7, .inl (cs.1, 16, .inl (fun _ => 0))), (x15, .inl (cs.1, 16, .inl (fun _ => 0))), (x23, .inl (cs.1, 16, .inl (fun _ => 0))), (x31, .inl (cs.1, 10, .inl (fun _ => 0))), (x39, .inl (cs.2.1, 8, .inr (.inl (fun _ => 0)))), (x47, .inl (cs.2.1, 8, .inr (.inl (fun _ => 0))))]) rfl (fun H locs hw => ?_)
  refine lv_aload_n (pc := 57) hx hb dX8_init_57 rfl (lv_at hl 0 rfl) ?_
  refine lv_iconst (pc := 58) (v := 0) hx hb dX8_init_58 (by decide) ?_
  refine x_put (pc := 59) X hw in_X8_init_X8 tyX8 tyX8_ok nmX8 0 rfl rfl 1 (by decide) (List.mem_of_getElem? (i := 13) rfl) rfl rfl rfl (Nat.le_of_ble_eq_true rfl) dX8_init_59 (ws2 := [(a, .inr (8, [.int 4, .int 0, .int 0, .ref x7, .ref x15, .ref x23, .ref x31, .ref x39, .ref x47])), (x7, .inl (cs.1, 16, .inl (fun _ => 0))), (x15, .inl (cs.1, 16, .inl (fun _ => 0))), (x23, .inl (cs.1, 16, .inl (fun _ => 0))), (x31, .inl (cs.1, 10, .inl (fun _ => 0))), (x39, .inl (cs.2.1, 8, .inr (.inl (fun _ => 0)))), (x47, .inl (cs.2.1, 8, .inr (.inl (fun _ => 0))))]) rfl (fun H locs hw => ?_)
  refine lv_aload_n (pc := 62) hx hb dX8_init_62 rfl (lv_at hl 0 rfl) ?_
  refine lv_iconst (pc := 63) (v := 0) hx hb dX8_init_63 (by decide) ?_
  refine x_put (pc := 64) X hw in_X8_init_X8 tyX8 tyX8_ok nmX8 0 rfl rfl 2 (by decide) (List.mem_of_getElem? (i := 14) rfl) rfl rfl rfl (Nat.le_of_ble_eq_true rfl) dX8_init_64 (ws2 := [(a, .inr (8, [.int 4, .int 0, .int 0, .ref x7, .ref x15, .ref x23, .ref x31, .ref x39, .ref x47])), (x7, .inl (cs.1, 16, .inl (fun _ => 0))), (x15, .inl (cs.1, 16, .inl (fun _ => 0))), (x23, .inl (cs.1, 16, .inl (fun _ => 0))), (x31, .inl (cs.1, 10, .inl (fun _ => 0))), (x39, .inl (cs.2.1, 8, .inr (.inl (fun _ => 0)))), (x47, .inl (cs.2.1, 8, .inr (.inl (fun _ => 0))))]) rfl (fun H locs hw => ?_)
  exact hret _ _ 67 _ (wX8 cs a (fun k => ([0, 0, 0, x7, x15, x23, x31, x39, x47] : List Nat).getD k 0) zX8) ⟨_, rfl⟩ hw dX8_init_67

theorem in_X10_init_X10 : ∀ w ∈ wsX100, w ∈ wsX10_init := fun _ h => List.mem_cons_of_mem _ (List.mem_append_right _ h)
abbrev rmX10_init : Room := { frames := 1, cells := 23, slots := 2696, locals := 12 }
def zX10 : PS := sI (sI Z0 11 1) 14 4
set_option maxHeartbeats 4000000 in
set_option maxRecDepth 100000 in
theorem c_X10_init (l : Launch) (D : va_G) (cs : CS) (a : Nat) : CTN l D (TY cs) yX10_init wsX10_init rmX10_init [.ref a] [(a, .inr (10, [.null, .int 0, .null, .null, .null, .null, .null, .int 0, .int 0, .null, .int 0, .int 0, .int 0, .int 0, .int 0, .null, .null, .null, .int 0, .null, .int 0, .null, .int 0, .null, .null, .null, .null, .null, .int 0, .int 0, .int 0, .int 0, .int 0, .null, .null, .null, .null, .null, .null]))] (fun w => ∃ q : Nat → Nat, w = wX10 cs a q zX10) 23 2696 := by
  refine CTN.ofW (own := RX10) (cc := cX10_init) (maxL := 1) (by decide) rfl rfl rfl (Nat.le_of_ble_eq_true rfl) ?_
  intro p e s m args below meth c A Q X hin hret ls hl hw
  obtain ⟨hx, hb, hml, hown, hts, hK, hA, hr, hlk⟩ := id X
  have hl : lv_has ls 1 [(0, .ref a)] := hl
  refine lv_aload_n (pc := 0) hx hb dX10_init_0 rfl (lv_at hl 0 rfl) ?_
  refine x_objinit (pc := 1) X (List.mem_of_getElem? (i := 1) rfl) (List.mem_of_getElem? (i := 2) rfl) (List.mem_of_getElem? (i := 3) rfl) hl.1 dX10_init_1 (Nat.le_of_ble_eq_true rfl) (Nat.le_of_ble_eq_true rfl) ?_
  refine lv_aload_n (pc := 4) hx hb dX10_init_4 rfl (lv_at hl 0 rfl) ?_
  refine lv_sipush (pc := 5) (v := 200) hx hb dX10_init_5 (by decide) ?_
  refine x_newa (pc := 8) X hw rfl (Or.inl rfl) (List.mem_of_getElem? (i := 4) rfl) 0 rfl (a0 := (200, .inl (fun _ => 0))) (fun _ => rfl) (by decide) (by decide) (by decide) (Nat.le_of_ble_eq_true rfl) (Nat.le_of_ble_eq_true rfl) dX10_init_8 1 200 (Nat.le_of_ble_eq_true rfl) (Nat.le_of_ble_eq_true rfl) (fun x8 H hw => ?_)
  refine x_putF (pc := 10) X hw in_X10_init_X10 tyX10 tyX10_ok nmX10 0 rfl rfl 0 (by decide) (List.mem_of_getElem? (i := 5) rfl) rfl hin rfl rfl rfl (Nat.le_of_ble_eq_true rfl) dX10_init_10 (ws2 := [(a, .inr (10, [.ref x8, .int 0, .null, .null, .null, .null, .null, .int 0, .int 0, .null, .int 0, .int 0, .int 0, .int 0, .int 0, .null, .null, .null, .int 0, .null, .int 0, .null, .int 0, .null, .null, .null, .null, .null, .int 0, .int 0, .int 0, .int 0, .int 0, .null, .null, .null, .null, .null, .null])), (x8, .inl (cs.1, 200, .inl (fun _ => 0)))]) rfl (fun H locs hw => ?_)
  refine lv_aload_n (pc := 13) hx hb dX10_init_13 rfl (lv_at hl 0 rfl) ?_
  refine lv_bipush (pc := 14) (v := 40) hx hb dX10_init_14 (by decide) ?_
  refine x_newa (pc := 16) X hw rfl (Or.inl rfl) (List.mem_of_getElem? (i := 4) rfl) 0 rfl (a0 := (40, .inl (fun _ => 0))) (fun _ => rfl) (by decide) (by decide) (by decide) (Nat.le_of_ble_eq_true rfl) (Nat.le_of_ble_eq_true rfl) dX10_init_16 2 240 (Nat.le_of_ble_eq_true rfl) (Nat.le_of_ble_eq_true rfl) (fun x16 H hw => ?_)
  refine x_putF (pc := 18) X hw in_X10_init_X10 tyX10 tyX10_ok nmX10 0 rfl rfl 2 (by decide) (List.mem_of_getElem? (i := 6) rfl) rfl hin rfl rfl rfl (Nat.le_of_ble_eq_true rfl) dX10_init_18 (ws2 := [(a, .inr (10, [.ref x8, .int 0, .ref x16, .null, .null, .null, .null, .int 0, .int 0, .null, .int 0, .int 0, .int 0, .int 0, .int 0, .null, .null, .null, .int 0, .null, .int 0, .null, .int 0, .null, .null, .null, .null, .null, .int 0, .int 0, .int 0, .int 0, .int 0, .null, .null, .null, .null, .null, .null])), (x8, .inl (cs.1, 200, .inl (fun _ => 0))), (x16, .inl (cs.1, 40, .inl (fun _ => 0)))]) rfl (fun H locs hw => ?_)
  refine lv_aload_n (pc := 21) hx hb dX10_init_21 rfl (lv_at hl 0 rfl) ?_
  refine lv_bipush (pc := 22) (v := 40) hx hb dX10_init_22 (by decide) ?_
  refine x_newa (pc := 24) X hw rfl (Or.inl rfl) (List.mem_of_getElem? (i := 4) rfl) 0 rfl (a0 := (40, .inl (fun _ => 0))) (fun _ => rfl) (by decide) (by decide) (by decide) (Nat.le_of_ble_eq_true rfl) (Nat.le_of_ble_eq_true rfl) dX10_init_24 3 280 (Nat.le_of_ble_eq_true rfl) (Nat.le_of_ble_eq_true rfl) (fun x24 H hw => ?_)
  refine x_putF (pc := 26) X hw in_X10_init_X10 tyX10 tyX10_ok nmX10 0 rfl rfl 3 (by decide) (List.mem_of_getElem? (i := 7) rfl) rfl hin rfl rfl rfl (Nat.le_of_ble_eq_true rfl) dX10_init_26 (ws2 := [(a, .inr (10, [.ref x8, .int 0, .ref x16, .ref x24, .null, .null, .null, .int 0, .int 0, .null, .int 0, .int 0, .int 0, .int 0, .int 0, .null, .null, .null, .int 0, .null, .int 0, .null, .int 0, .null, .null, .null, .null, .null, .int 0, .int 0, .int 0, .int 0, .int 0, .null, .null, .null, .null, .null, .null])), (x8, .inl (cs.1, 200, .inl (fun _ => 0))), (x16, .inl (cs.1, 40, .inl (fun _ => 0))), (x24, .inl (cs.1, 40, .inl (fun _ => 0)))]) rfl (fun H locs hw => ?_)
  refine lv_aload_n (pc := 29) hx hb dX10_init_29 rfl (lv_at hl 0 rfl) ?_
  refine lv_bipush (pc := 30) (v := 40) hx hb dX10_init_30 (by decide) ?_
  refine x_newa (pc := 32) X hw rfl (Or.inl rfl) (List.mem_of_getElem? (i := 4) rfl) 0 rfl (a0 := (40, .inl (fun _ => 0))) (fun _ => rfl) (by decide) (by decide) (by decide) (Nat.le_of_ble_eq_true rfl) (Nat.le_of_ble_eq_true rfl) dX10_init_32 4 320 (Nat.le_of_ble_eq_true rfl) (Nat.le_of_ble_eq_true rfl) (fun x32 H hw => ?_)
  refine x_putF (pc := 34) X hw in_X10_init_X10 tyX10 tyX10_ok nmX10 0 rfl rfl 4 (by decide) (List.mem_of_getElem? (i := 8) rfl) rfl hin rfl rfl rfl (Nat.le_of_ble_eq_true rfl) dX10_init_34 (ws2 := [(a, .inr (10, [.ref x8, .int 0, .ref x16, .ref x24, .ref x32, .null, .null, .int 0, .int 0, .null, .int 0, .int 0, .int 0, .int 0, .int 0, .null, .null, .null, .int 0, .null, .int 0, .null, .int 0, .null, .null, .null, .null, .null, .int 0, .int 0, .int 0, .int 0, .int 0, .null, .null, .null, .null, .null, .null])), (x8, .inl (cs.1, 200, .inl (fun _ => 0))), (x16, .inl (cs.1, 40, .inl (fun _ => 0))), (x24, .inl (cs.1, 40, .inl (fun _ => 0))), (x32, .inl (cs.1, 40, .inl (fun _ => 0)))]) rfl (fun H locs hw => ?_)
  refine lv_aload_n (pc := 37) hx hb dX10_init_37 rfl (lv_at hl 0 rfl) ?_
  refine lv_bipush (pc := 38) (v := 40) hx hb dX10_init_38 (by decide) ?_
  refine x_newa (pc := 40) X hw rfl (Or.inl rfl) (List.mem_of_getElem? (i := 4) rfl) 0 rfl (a0 := (40, .inl (fun _ => 0))) (fun _ => rfl) (by decide) (by decide) (by decide) (Nat.le_of_ble_eq_true rfl) (Nat.le_of_ble_eq_true rfl) dX10_init_40 5 360 (Nat.le_of_ble_eq_true rfl) (Nat.le_of_ble_eq_true rfl) (fun x40 H hw => ?_)
  refine x_putF (pc := 42) X hw in_X10_init_X10 tyX10 tyX10_ok nmX10 0 rfl rfl 5 (by decide) (List.mem_of_getElem? (i := 9) rfl) rfl hin rfl rfl rfl (Nat.le_of_ble_eq_true rfl) dX10_init_42 (ws2 := [(a, .inr (10, [.ref x8, .int 0, .ref x16, .ref x24, .ref x32, .ref x40, .null, .int 0, .int 0, .null, .int 0, .int 0, .int 0, .int 0, .int 0, .null, .null, .null, .int 0, .null, .int 0, .null, .int 0, .null, .null, .null, .null, .null, .int 0, .int 0, .int 0, .int 0, .int 0, .null, .null, .null, .null, .null, .null])), (x8, .inl (cs.1, 200, .inl (fun _ => 0))), (x16, .inl (cs.1, 40, .inl (fun _ => 0))), (x24, .inl (cs.1, 40, .inl (fun _ => 0))), (x32, .inl (cs.1, 40, .inl (fun _ => 0))), (x40, .inl (cs.1, 40, .inl (fun _ => 0)))]) rfl (fun H locs hw => ?_)
  refine lv_aload_n (pc := 45) hx hb dX10_init_45 rfl (lv_at hl 0 rfl) ?_
  refine lv_bipush (pc := 46) (v := 40) hx hb dX10_init_46 (by decide) ?_
  refine x_newa (pc := 48) X hw rfl (Or.inl rfl) (List.mem_of_getElem? (i := 4) rfl) 0 rfl (a0 := (40, .inl (fun _ => 0))) (fun _ => rfl) (by decide) (by decide) (by decide) (Nat.le_of_ble_eq_true rfl) (Nat.le_of_ble_eq_true rfl) dX10_init_48 6 400 (Nat.le_of_ble_eq_true rfl) (Nat.le_of_ble_eq_true rfl) (fun x48 H hw => ?_)
  refine x_putF (pc := 50) X hw in_X10_init_X10 tyX10 tyX10_ok nmX10 0 rfl rfl 6 (by decide) (List.mem_of_getElem? (i := 10) rfl) rfl hin rfl rfl rfl (Nat.le_of_ble_eq_true rfl) dX10_init_50 (ws2 := [(a, .inr (10, [.ref x8, .int 0, .ref x16, .ref x24, .ref x32, .ref x40, .ref x48, .int 0, .int 0, .null, .int 0, .int 0, .int 0, .int 0, .int 0, .null, .null, .null, .int 0, .null, .int 0, .null, .int 0, .null, .null, .null, .null, .null, .int 0, .int 0, .int 0, .int 0, .int 0, .null, .null, .null, .null, .null, .null])), (x8, .inl (cs.1, 200, .inl (fun _ => 0))), (x16, .inl (cs.1, 40, .inl (fun _ => 0))), (x24, .inl (cs.1, 40, .inl (fun _ => 0))), (x32, .inl (cs.1, 40, .inl (fun _ => 0))), (x40, .inl (cs.1, 40, .inl (fun _ => 0))), (x48, .inl (cs.1, 40, .inl (fun _ => 0)))]) rfl (fun H locs hw => ?_)
  refine lv_aload_n (pc := 53) hx hb dX10_init_53 rfl (lv_at hl 0 rfl) ?_
  refine lv_bipush (pc := 54) (v := 20) hx hb dX10_init_54 (by decide) ?_
  refine x_newa (pc := 56) X hw rfl (Or.inl rfl) (List.mem_of_getElem? (i := 4) rfl) 0 rfl (a0 := (20, .inl (fun _ => 0))) (fun _ => rfl) (by decide) (by decide) (by decide) (Nat.le_of_ble_eq_true rfl) (Nat.le_of_ble_eq_true rfl) dX10_init_56 7 420 (Nat.le_of_ble_eq_true rfl) (Nat.le_of_ble_eq_true rfl) (fun x56 H hw => ?_)
  refine x_putF (pc := 58) X hw in_X10_init_X10 tyX10 tyX10_ok nmX10 0 rfl rfl 9 (by decide) (List.mem_of_getElem? (i := 11) rfl) rfl hin rfl rfl rfl (Nat.le_of_ble_eq_true rfl) dX10_init_58 (ws2 := [(a, .inr (10, [.ref x8, .int 0, .ref x16, .ref x24, .ref x32, .ref x40, .ref x48, .int 0, .int 0, .ref x56, .int 0, .int 0, .int 0, .int 0, .int 0, .null, .null, .null, .int 0, .null, .int 0, .null, .int 0, .null, .null, .null, .null, .null, .int 0, .int 0, .int 0, .int 0, .int 0, .null, .null, .null, .null, .null, .null])), (x8, .inl (cs.1, 200, .inl (fun _ => 0))), (x16, .inl (cs.1, 40, .inl (fun _ => 0))), (x24, .inl (cs.1, 40, .inl (fun _ => 0))), (x32, .inl (cs.1, 40, .inl (fun _ => 0))), (x40, .inl (cs.1, 40, .inl (fun _ => 0))), (x48, .inl (cs.1, 40, .inl (fun _ => 0))), (x56, .inl (cs.1, 20, .inl (fun _ => 0)))]) rfl (fun H locs hw => ?_)
  refine lv_aload_n (pc := 61) hx hb dX10_init_61 rfl (lv_at hl 0 rfl) ?_
  refine lv_iconst (pc := 62) (v := 1) hx hb dX10_init_62 (by decide) ?_
  refine x_put (pc := 63) X hw in_X10_init_X10 tyX10 tyX10_ok nmX10 0 rfl rfl 11 (by decide) (List.mem_of_getElem? (i := 12) rfl) rfl rfl rfl (Nat.le_of_ble_eq_true rfl) dX10_init_63 (ws2 := [(a, .inr (10, [.ref x8, .int 0, .ref x16, .ref x24, .ref x32, .ref x40, .ref x48, .int 0, .int 0, .ref x56, .int 0, .int 1, .int 0, .int 0, .int 0, .null, .null, .null, .int 0, .null, .int 0, .null, .int 0, .null, .null, .null, .null, .null, .int 0, .int 0, .int 0, .int 0, .int 0, .null, .null, .null, .null, .null, .null])), (x8, .inl (cs.1, 200, .inl (fun _ => 0))), (x16, .inl (cs.1, 40, .inl (fun _ => 0))), (x24, .inl (cs.1, 40, .inl (fun _ => 0))), (x32, .inl (cs.1, 40, .inl (fun _ => 0))), (x40, .inl (cs.1, 40, .inl (fun _ => 0))), (x48, .inl (cs.1, 40, .inl (fun _ => 0))), (x56, .inl (cs.1, 20, .inl (fun _ => 0)))]) rfl (fun H locs hw => ?_)
  refine lv_aload_n (pc := 66) hx hb dX10_init_66 rfl (lv_at hl 0 rfl) ?_
  refine lv_iconst (pc := 67) (v := 4) hx hb dX10_init_67 (by decide) ?_
  refine x_put (pc := 68) X hw in_X10_init_X10 tyX10 tyX10_ok nmX10 0 rfl rfl 14 (by decide) (List.mem_of_getElem? (i := 13) rfl) rfl rfl rfl (Nat.le_of_ble_eq_true rfl) dX10_init_68 (ws2 := [(a, .inr (10, [.ref x8, .int 0, .ref x16, .ref x24, .ref x32, .ref x40, .ref x48, .int 0, .int 0, .ref x56, .int 0, .int 1, .int 0, .int 0, .int 4, .null, .null, .null, .int 0, .null, .int 0, .null, .int 0, .null, .null, .null, .null, .null, .int 0, .int 0, .int 0, .int 0, .int 0, .null, .null, .null, .null, .null, .null])), (x8, .inl (cs.1, 200, .inl (fun _ => 0))), (x16, .inl (cs.1, 40, .inl (fun _ => 0))), (x24, .inl (cs.1, 40, .inl (fun _ => 0))), (x32, .inl (cs.1, 40, .inl (fun _ => 0))), (x40, .inl (cs.1, 40, .inl (fun _ => 0))), (x48, .inl (cs.1, 40, .inl (fun _ => 0))), (x56, .inl (cs.1, 20, .inl (fun _ => 0)))]) rfl (fun H locs hw => ?_)
  refine lv_aload_n (pc := 71) hx hb dX10_init_71 rfl (lv_at hl 0 rfl) ?_
  refine lv_bipush (pc := 72) (v := 16) hx hb dX10_init_72 (by decide) ?_
  refine x_newa (pc := 74) X hw rfl (Or.inl rfl) (List.mem_of_getElem? (i := 4) rfl) 0 rfl (a0 := (16, .inl (fun _ => 0))) (fun _ => rfl) (by decide) (by decide) (by decide) (Nat.le_of_ble_eq_true rfl) (Nat.le_of_ble_eq_true rfl) dX10_init_74 8 436 (Nat.le_of_ble_eq_true rfl) (Nat.le_of_ble_eq_true rfl) (fun x74 H hw => ?_)
  refine x_putF (pc := 76) X hw in_X10_init_X10 tyX10 tyX10_ok nmX10 0 rfl rfl 15 (by decide) (List.mem_of_getElem? (i := 14) rfl) rfl hin rfl rfl rfl (Nat.le_of_ble_eq_true rfl) dX10_init_76 (ws2 := [(a, .inr (10, [.ref x8, .int 0, .ref x16, .ref x24, .ref x32, .ref x40, .ref x48, .int 0, .int 0, .ref x56, .int 0, .int 1, .int 0, .int 0, .int 4, .ref x74, .null, .null, .int 0, .null, .int 0, .null, .int 0, .null, .null, .null, .null, .null, .int 0, .int 0, .int 0, .int 0, .int 0, .null, .null, .null, .null, .null, .null])), (x8, .inl (cs.1, 200, .inl (fun _ => 0))), (x16, .inl (cs.1, 40, .inl (fun _ => 0))), (x24, .inl (cs.1, 40, .inl (fun _ => 0))), (x32, .inl (cs.1, 40, .inl (fun _ => 0))), (x40, .inl (cs.1, 40, .inl (fun _ => 0))), (x48, .inl (cs.1, 40, .inl (fun _ => 0))), (x56, .inl (cs.1, 20, .inl (fun _ => 0))), (x74, .inl (cs.1, 16, .inl (fun _ => 0)))]) rfl (fun H locs hw => ?_)
  refine lv_aload_n (pc := 79) hx hb dX10_init_79 rfl (lv_at hl 0 rfl) ?_
  refine lv_bipush (pc := 80) (v := 16) hx hb dX10_init_80 (by decide) ?_
  refine x_newa (pc := 82) X hw rfl (Or.inl rfl) (List.mem_of_getElem? (i := 4) rfl) 0 rfl (a0 := (16, .inl (fun _ => 0))) (fun _ => rfl) (by decide) (by decide) (by decide) (Nat.le_of_ble_eq_true rfl) (Nat.le_of_ble_eq_true rfl) dX10_init_82 9 452 (Nat.le_of_ble_eq_true rfl) (Nat.le_of_ble_eq_true rfl) (fun x82 H hw => ?_)
  refine x_putF (pc := 84) X hw in_X10_init_X10 tyX10 tyX10_ok nmX10 0 rfl rfl 16 (by decide) (List.mem_of_getElem? (i := 15) rfl) rfl hin rfl rfl rfl (Nat.le_of_ble_eq_true rfl) dX10_init_84 (ws2 := [(a, .inr (10, [.ref x8, .int 0, .ref x16, .ref x24, .ref x32, .ref x40, .ref x48, .int 0, .int 0, .ref x56, .int 0, .int 1, .int 0, .int 0, .int 4, .ref x74, .ref x82, .null, .int 0, .null, .int 0, .null, .int 0, .null, .null, .null, .null, .null, .int 0, .int 0, .int 0, .int 0, .int 0, .null, .null, .null, .null, .null, .null])), (x8, .inl (cs.1, 200, .inl (fun _ => 0))), (x16, .inl (cs.1, 40, .inl (fun _ => 0))), (x24, .inl (cs.1, 40, .inl (fun _ => 0))), (x32, .inl (cs.1, 40, .inl (fun _ => 0))), (x40, .inl (cs.1, 40, .inl (fun _ => 0))), (x48, .inl (cs.1, 40, .inl (fun _ => 0))), (x56, .inl (cs.1, 20, .inl (fun _ => 0))), (x74, .inl (cs.1, 16, .inl (fun _ => 0))), (x82, .inl (cs.1, 16, .inl (fun _ => 0)))]) rfl (fun H locs hw => ?_)
  refine lv_aload_n (pc := 87) hx hb dX10_init_87 rfl (lv_at hl 0 rfl) ?_
  refine lv_bipush (pc := 88) (v := 16) hx hb dX10_init_88 (by decide) ?_
  refine x_newa (pc := 90) X hw rfl (Or.inl rfl) (List.mem_of_getElem? (i := 4) rfl) 0 rfl (a0 := (16, .inl (fun _ => 0))) (fun _ => rfl) (by decide) (by decide) (by decide) (Nat.le_of_ble_eq_true rfl) (Nat.le_of_ble_eq_true rfl) dX10_init_90 10 468 (Nat.le_of_ble_eq_true rfl) (Nat.le_of_ble_eq_true rfl) (fun x90 H hw => ?_)
  refine x_putF (pc := 92) X hw in_X10_init_X10 tyX10 tyX10_ok nmX10 0 rfl rfl 17 (by decide) (List.mem_of_getElem? (i := 16) rfl) rfl hin rfl rfl rfl (Nat.le_of_ble_eq_true rfl) dX10_init_92 (ws2 := [(a, .inr (10, [.ref x8, .int 0, .ref x16, .ref x24, .ref x32, .ref x40, .ref x48, .int 0, .int 0, .ref x56, .int 0, .int 1, .int 0, .int 0, .int 4, .ref x74, .ref x82, .ref x90, .int 0, .null, .int 0, .null, .int 0, .null, .null, .null, .null, .null, .int 0, .int 0, .int 0, .int 0, .int 0, .null, .null, .null, .null, .null, .null])), (x8, .inl (cs.1, 200, .inl (fun _ => 0))), (x16, .inl (cs.1, 40, .inl (fun _ => 0))), (x24, .inl (cs.1, 40, .inl (fun _ => 0))), (x32, .inl (cs.1, 40, .inl (fun _ => 0))), (x40, .inl (cs.1, 40, .inl (fun _ => 0))), (x48, .inl (cs.1, 40, .inl (fun _ => 0))), (x56, .inl (cs.1, 20, .inl (fun _ => 0))), (x74, .inl (cs.1, 16, .inl (fun _ => 0))), (x82, .inl (cs.1, 16, .inl (fun _ => 0))), (x90, .inl (cs.1, 16, .inl (fun _ => 0)))]) rfl (fun H locs hw => ?_)
  refine lv_aload_n (pc := 95) hx hb dX10_init_95 rfl (lv_at hl 0 rfl) ?_
  refine lv_bipush (pc := 96) (v := 10) hx hb dX10_init_96 (by decide) ?_
  refine x_newa (pc := 98) X hw rfl (Or.inl rfl) (List.mem_of_getElem? (i := 4) rfl) 0 rfl (a0 := (10, .inl (fun _ => 0))) (fun _ => rfl) (by decide) (by decide) (by decide) (Nat.le_of_ble_eq_true rfl) (Nat.le_of_ble_eq_true rfl) dX10_init_98 11 478 (Nat.le_of_ble_eq_true rfl) (Nat.le_of_ble_eq_true rfl) (fun x98 H hw => ?_)
  refine x_putF (pc := 100) X hw in_X10_init_X10 tyX10 tyX10_ok nmX10 0 rfl rfl 19 (by decide) (List.mem_of_getElem? (i := 17) rfl) rfl hin rfl rfl rfl (Nat.le_of_ble_eq_true rfl) dX10_init_100 (ws2 := [(a, .inr (10, [.ref x8, .int 0, .ref x16, .ref x24, .ref x32, .ref x40, .ref x48, .int 0, .int 0, .ref x56, .int 0, .int 1, .int 0, .int 0, .int 4, .ref x74, .ref x82, .ref x90, .int 0, .ref x98, .int 0, .null, .int 0, .null, .null, .null, .null, .null, .int 0, .int 0, .int 0, .int 0, .int 0, .null, .null, .null, .null, .null, .null])), (x8, .inl (cs.1, 200, .inl (fun _ => 0))), (x16, .inl (cs.1, 40, .inl (fun _ => 0))), (x24, .inl (cs.1, 40, .inl (fun _ => 0))), (x32, .inl (cs.1, 40, .inl (fun _ => 0))), (x40, .inl (cs.1, 40, .inl (fun _ => 0))), (x48, .inl (cs.1, 40, .inl (fun _ => 0))), (x56, .inl (cs.1, 20, .inl (fun _ => 0))), (x74, .inl (cs.1, 16, .inl (fun _ => 0))), (x82, .inl (cs.1, 16, .inl (fun _ => 0))), (x90, .inl (cs.1, 16, .inl (fun _ => 0))), (x98, .inl (cs.1, 10, .inl (fun _ => 0)))]) rfl (fun H locs hw => ?_)
  refine lv_aload_n (pc := 103) hx hb dX10_init_103 rfl (lv_at hl 0 rfl) ?_
  refine lv_bipush (pc := 104) (v := 32) hx hb dX10_init_104 (by decide) ?_
  refine x_newa (pc := 106) X hw rfl (Or.inl rfl) (List.mem_of_getElem? (i := 4) rfl) 0 rfl (a0 := (32, .inl (fun _ => 0))) (fun _ => rfl) (by decide) (by decide) (by decide) (Nat.le_of_ble_eq_true rfl) (Nat.le_of_ble_eq_true rfl) dX10_init_106 12 510 (Nat.le_of_ble_eq_true rfl) (Nat.le_of_ble_eq_true rfl) (fun x106 H hw => ?_)
  refine x_putF (pc := 108) X hw in_X10_init_X10 tyX10 tyX10_ok nmX10 0 rfl rfl 21 (by decide) (List.mem_of_getElem? (i := 18) rfl) rfl hin rfl rfl rfl (Nat.le_of_ble_eq_true rfl) dX10_init_108 (ws2 := [(a, .inr (10, [.ref x8, .int 0, .ref x16, .ref x24, .ref x32, .ref x40, .ref x48, .int 0, .int 0, .ref x56, .int 0, .int 1, .int 0, .int 0, .int 4, .ref x74, .ref x82, .ref x90, .int 0, .ref x98, .int 0, .ref x106, .int 0, .null, .null, .null, .null, .null, .int 0, .int 0, .int 0, .int 0, .int 0, .null, .null, .null, .null, .null, .null])), (x8, .inl (cs.1, 200, .inl (fun _ => 0))), (x16, .inl (cs.1, 40, .inl (fun _ => 0))), (x24, .inl (cs.1, 40, .inl (fun _ => 0))), (x32, .inl (cs.1, 40, .inl (fun _ => 0))), (x40, .inl (cs.1, 40, .inl (fun _ => 0))), (x48, .inl (cs.1, 40, .inl (fun _ => 0))), (x56, .inl (cs.1, 20, .inl (fun _ => 0))), (x74, .inl (cs.1, 16, .inl (fun _ => 0))), (x82, .inl (cs.1, 16, .inl (fun _ => 0))), (x90, .inl (cs.1, 16, .inl (fun _ => 0))), (x98, .inl (cs.1, 10, .inl (fun _ => 0))), (x106, .inl (cs.1, 32, .inl (fun _ => 0)))]) rfl (fun H locs hw => ?_)
  refine lv_aload_n (pc := 111) hx hb dX10_init_111 rfl (lv_at hl 0 rfl) ?_
  refine lv_iconst (pc := 112) (v := 2) hx hb dX10_init_112 (by decide) ?_
  refine x_newa (pc := 113) X hw rfl (Or.inl rfl) (List.mem_of_getElem? (i := 4) rfl) 0 rfl (a0 := (2, .inl (fun _ => 0))) (fun _ => rfl) (by decide) (by decide) (by decide) (Nat.le_of_ble_eq_true rfl) (Nat.le_of_ble_eq_true rfl) dX10_init_113 13 512 (Nat.le_of_ble_eq_true rfl) (Nat.le_of_ble_eq_true rfl) (fun x113 H hw => ?_)
  refine x_putF (pc := 115) X hw in_X10_init_X10 tyX10 tyX10_ok nmX10 0 rfl rfl 23 (by decide) (List.mem_of_getElem? (i := 19) rfl) rfl hin rfl rfl rfl (Nat.le_of_ble_eq_true rfl) dX10_init_115 (ws2 := [(a, .inr (10, [.ref x8, .int 0, .ref x16, .ref x24, .ref x32, .ref x40, .ref x48, .int 0, .int 0, .ref x56, .int 0, .int 1, .int 0, .int 0, .int 4, .ref x74, .ref x82, .ref x90, .int 0, .ref x98, .int 0, .ref x106, .int 0, .ref x113, .null, .null, .null, .null, .int 0, .int 0, .int 0, .int 0, .int 0, .null, .null, .null, .null, .null, .null])), (x8, .inl (cs.1, 200, .inl (fun _ => 0))), (x16, .inl (cs.1, 40, .inl (fun _ => 0))), (x24, .inl (cs.1, 40, .inl (fun _ => 0))), (x32, .inl (cs.1, 40, .inl (fun _ => 0))), (x40, .inl (cs.1, 40, .inl (fun _ => 0))), (x48, .inl (cs.1, 40, .inl (fun _ => 0))), (x56, .inl (cs.1, 20, .inl (fun _ => 0))), (x74, .inl (cs.1, 16, .inl (fun _ => 0))), (x82, .inl (cs.1, 16, .inl (fun _ => 0))), (x90, .inl (cs.1, 16, .inl (fun _ => 0))), (x98, .inl (cs.1, 10, .inl (fun _ => 0))), (x106, .inl (cs.1, 32, .inl (fun _ => 0))), (x113, .inl (cs.1, 2, .inl (fun _ => 0)))]) rfl (fun H locs hw => ?_)
  refine lv_aload_n (pc := 118) hx hb dX10_init_118 rfl (lv_at hl 0 rfl) ?_
  refine lv_bipush (pc := 119) (v := 12) hx hb dX10_init_119 (by decide) ?_
  refine x_newa (pc := 121) X hw rfl (Or.inl rfl) (List.mem_of_getElem? (i := 4) rfl) 0 rfl (a0 := (12, .inl (fun _ => 0))) (fun _ => rfl) (by decide) (by decide) (by decide) (Nat.le_of_ble_eq_true rfl) (Nat.le_of_ble_eq_true rfl) dX10_init_121 14 524 (Nat.le_of_ble_eq_true rfl) (Nat.le_of_ble_eq_true rfl) (fun x121 H hw => ?_)
  refine x_putF (pc := 123) X hw in_X10_init_X10 tyX10 tyX10_ok nmX10 0 rfl rfl 24 (by decide) (List.mem_of_getElem? (i := 20) rfl) rfl hin rfl rfl rfl (Nat.le_of_ble_eq_true rfl) dX10_init_123 (ws2 := [(a, .inr (10, [.ref x8, .int 0, .ref x16, .ref x24, .ref x32, .ref x40, .ref x48, .int 0, .int 0, .ref x56, .int 0, .int 1, .int 0, .int 0, .int 4, .ref x74, .ref x82, .ref x90, .int 0, .ref x98, .int 0, .ref x106, .int 0, .ref x113, .ref x121, .null, .null, .null, .int 0, .int 0, .int 0, .int 0, .int 0, .null, .null, .null, .null, .null, .null])), (x8, .inl (cs.1, 200, .inl (fun _ => 0))), (x16, .inl (cs.1, 40, .inl (fun _ => 0))), (x24, .inl (cs.1, 40, .inl (fun _ => 0))), (x32, .inl (cs.1, 40, .inl (fun _ => 0))), (x40, .inl (cs.1, 40, .inl (fun _ => 0))), (x48, .inl (cs.1, 40, .inl (fun _ => 0))), (x56, .inl (cs.1, 20, .inl (fun _ => 0))), (x74, .inl (cs.1, 16, .inl (fun _ => 0))), (x82, .inl (cs.1, 16, .inl (fun _ => 0))), (x90, .inl (cs.1, 16, .inl (fun _ => 0))), (x98, .inl (cs.1, 10, .inl (fun _ => 0))), (x106, .inl (cs.1, 32, .inl (fun _ => 0))), (x113, .inl (cs.1, 2, .inl (fun _ => 0))), (x121, .inl (cs.1, 12, .inl (fun _ => 0)))]) rfl (fun H locs hw => ?_)
  refine lv_aload_n (pc := 126) hx hb dX10_init_126 rfl (lv_at hl 0 rfl) ?_
  refine lv_bipush (pc := 127) (v := 12) hx hb dX10_init_127 (by decide) ?_
  refine x_newa (pc := 129) X hw rfl (Or.inl rfl) (List.mem_of_getElem? (i := 4) rfl) 0 rfl (a0 := (12, .inl (fun _ => 0))) (fun _ => rfl) (by decide) (by decide) (by decide) (Nat.le_of_ble_eq_true rfl) (Nat.le_of_ble_eq_true rfl) dX10_init_129 15 536 (Nat.le_of_ble_eq_true rfl) (Nat.le_of_ble_eq_true rfl) (fun x129 H hw => ?_)
  refine x_putF (pc := 131) X hw in_X10_init_X10 tyX10 tyX10_ok nmX10 0 rfl rfl 25 (by decide) (List.mem_of_getElem? (i := 21) rfl) rfl hin rfl rfl rfl (Nat.le_of_ble_eq_true rfl) dX10_init_131 (ws2 := [(a, .inr (10, [.ref x8, .int 0, .ref x16, .ref x24, .ref x32, .ref x40, .ref x48, .int 0, .int 0, .ref x56, .int 0, .int 1, .int 0, .int 0, .int 4, .ref x74, .ref x82, .ref x90, .int 0, .ref x98, .int 0, .ref x106, .int 0, .ref x113, .ref x121, .ref x129, .null, .null, .int 0, .int 0, .int 0, .int 0, .int 0, .null, .null, .null, .null, .null, .null])), (x8, .inl (cs.1, 200, .inl (fun _ => 0))), (x16, .inl (cs.1, 40, .inl (fun _ => 0))), (x24, .inl (cs.1, 40, .inl (fun _ => 0))), (x32, .inl (cs.1, 40, .inl (fun _ => 0))), (x40, .inl (cs.1, 40, .inl (fun _ => 0))), (x48, .inl (cs.1, 40, .inl (fun _ => 0))), (x56, .inl (cs.1, 20, .inl (fun _ => 0))), (x74, .inl (cs.1, 16, .inl (fun _ => 0))), (x82, .inl (cs.1, 16, .inl (fun _ => 0))), (x90, .inl (cs.1, 16, .inl (fun _ => 0))), (x98, .inl (cs.1, 10, .inl (fun _ => 0))), (x106, .inl (cs.1, 32, .inl (fun _ => 0))), (x113, .inl (cs.1, 2, .inl (fun _ => 0))), (x121, .inl (cs.1, 12, .inl (fun _ => 0))), (x129, .inl (cs.1, 12, .inl (fun _ => 0)))]) rfl (fun H locs hw => ?_)
  refine lv_aload_n (pc := 134) hx hb dX10_init_134 rfl (lv_at hl 0 rfl) ?_
  refine lv_bipush (pc := 135) (v := 12) hx hb dX10_init_135 (by decide) ?_
  refine x_newa (pc := 137) X hw rfl (Or.inl rfl) (List.mem_of_getElem? (i := 4) rfl) 0 rfl (a0 := (12, .inl (fun _ => 0))) (fun _ => rfl) (by decide) (by decide) (by decide) (Nat.le_of_ble_eq_true rfl) (Nat.le_of_ble_eq_true rfl) dX10_init_137 16 548 (Nat.le_of_ble_eq_true rfl) (Nat.le_of_ble_eq_true rfl) (fun x137 H hw => ?_)
  refine x_putF (pc := 139) X hw in_X10_init_X10 tyX10 tyX10_ok nmX10 0 rfl rfl 26 (by decide) (List.mem_of_getElem? (i := 22) rfl) rfl hin rfl rfl rfl (Nat.le_of_ble_eq_true rfl) dX10_init_139 (ws2 := [(a, .inr (10, [.ref x8, .int 0, .ref x16, .ref x24, .ref x32, .ref x40, .ref x48, .int 0, .int 0, .ref x56, .int 0, .int 1, .int 0, .int 0, .int 4, .ref x74, .ref x82, .ref x90, .int 0, .ref x98, .int 0, .ref x106, .int 0, .ref x113, .ref x121, .ref x129, .ref x137, .null, .int 0, .int 0, .int 0, .int 0, .int 0, .null, .null, .null, .null, .null, .null])), (x8, .inl (cs.1, 200, .inl (fun _ => 0))), (x16, .inl (cs.1, 40, .inl (fun _ => 0))), (x24, .inl (cs.1, 40, .inl (fun _ => 0))), (x32, .inl (cs.1, 40, .inl (fun _ => 0))), (x40, .inl (cs.1, 40, .inl (fun _ => 0))), (x48, .inl (cs.1, 40, .inl (fun _ => 0))), (x56, .inl (cs.1, 20, .inl (fun _ => 0))), (x74, .inl (cs.1, 16, .inl (fun _ => 0))), (x82, .inl (cs.1, 16, .inl (fun _ => 0))), (x90, .inl (cs.1, 16, .inl (fun _ => 0))), (x98, .inl (cs.1, 10, .inl (fun _ => 0))), (x106, .inl (cs.1, 32, .inl (fun _ => 0))), (x113, .inl (cs.1, 2, .inl (fun _ => 0))), (x121, .inl (cs.1, 12, .inl (fun _ => 0))), (x129, .inl (cs.1, 12, .inl (fun _ => 0))), (x137, .inl (cs.1, 12, .inl (fun _ => 0)))]) rfl (fun H locs hw => ?_)
  refine lv_aload_n (pc := 142) hx hb dX10_init_142 rfl (lv_at hl 0 rfl) ?_
  refine lv_bipush (pc := 143) (v := 12) hx hb dX10_init_143 (by decide) ?_
  refine x_newa (pc := 145) X hw rfl (Or.inl rfl) (List.mem_of_getElem? (i := 4) rfl) 0 rfl (a0 := (12, .inl (fun _ => 0))) (fun _ => rfl) (by decide) (by decide) (by decide) (Nat.le_of_ble_eq_true rfl) (Nat.le_of_ble_eq_true rfl) dX10_init_145 17 560 (Nat.le_of_ble_eq_true rfl) (Nat.le_of_ble_eq_true rfl) (fun x145 H hw => ?_)
  refine x_putF (pc := 147) X hw in_X10_init_X10 tyX10 tyX10_ok nmX10 0 rfl rfl 27 (by decide) (List.mem_of_getElem? (i := 23) rfl) rfl hin rfl rfl rfl (Nat.le_of_ble_eq_true rfl) dX10_init_147 (ws2 := [(a, .inr (10, [.ref x8, .int 0, .ref x16, .ref x24, .ref x32, .ref x40, .ref x48, .int 0, .int 0, .ref x56, .int 0, .int 1, .int 0, .int 0, .int 4, .ref x74, .ref x82, .ref x90, .int 0, .ref x98, .int 0, .ref x106, .int 0, .ref x113, .ref x121, .ref x129, .ref x137, .ref x145, .int 0, .int 0, .int 0, .int 0, .int 0, .null, .null, .null, .null, .null, .null])), (x8, .inl (cs.1, 200, .inl (fun _ => 0))), (x16, .inl (cs.1, 40, .inl (fun _ => 0))), (x24, .inl (cs.1, 40, .inl (fun _ => 0))), (x32, .inl (cs.1, 40, .inl (fun _ => 0))), (x40, .inl (cs.1, 40, .inl (fun _ => 0))), (x48, .inl (cs.1, 40, .inl (fun _ => 0))), (x56, .inl (cs.1, 20, .inl (fun _ => 0))), (x74, .inl (cs.1, 16, .inl (fun _ => 0))), (x82, .inl (cs.1, 16, .inl (fun _ => 0))), (x90, .inl (cs.1, 16, .inl (fun _ => 0))), (x98, .inl (cs.1, 10, .inl (fun _ => 0))), (x106, .inl (cs.1, 32, .inl (fun _ => 0))), (x113, .inl (cs.1, 2, .inl (fun _ => 0))), (x121, .inl (cs.1, 12, .inl (fun _ => 0))), (x129, .inl (cs.1, 12, .inl (fun _ => 0))), (x137, .inl (cs.1, 12, .inl (fun _ => 0))), (x145, .inl (cs.1, 12, .inl (fun _ => 0)))]) rfl (fun H locs hw => ?_)
  refine lv_aload_n (pc := 150) hx hb dX10_init_150 rfl (lv_at hl 0 rfl) ?_
  refine lv_bipush (pc := 151) (v := 8) hx hb dX10_init_151 (by decide) ?_
  refine x_newa (pc := 153) X hw rfl (Or.inl rfl) (List.mem_of_getElem? (i := 4) rfl) 0 rfl (a0 := (8, .inl (fun _ => 0))) (fun _ => rfl) (by decide) (by decide) (by decide) (Nat.le_of_ble_eq_true rfl) (Nat.le_of_ble_eq_true rfl) dX10_init_153 18 568 (Nat.le_of_ble_eq_true rfl) (Nat.le_of_ble_eq_true rfl) (fun x153 H hw => ?_)
  refine x_putF (pc := 155) X hw in_X10_init_X10 tyX10 tyX10_ok nmX10 0 rfl rfl 33 (by decide) (List.mem_of_getElem? (i := 24) rfl) rfl hin rfl rfl rfl (Nat.le_of_ble_eq_true rfl) dX10_init_155 (ws2 := [(a, .inr (10, [.ref x8, .int 0, .ref x16, .ref x24, .ref x32, .ref x40, .ref x48, .int 0, .int 0, .ref x56, .int 0, .int 1, .int 0, .int 0, .int 4, .ref x74, .ref x82, .ref x90, .int 0, .ref x98, .int 0, .ref x106, .int 0, .ref x113, .ref x121, .ref x129, .ref x137, .ref x145, .int 0, .int 0, .int 0, .int 0, .int 0, .ref x153, .null, .null, .null, .null, .null])), (x8, .inl (cs.1, 200, .inl (fun _ => 0))), (x16, .inl (cs.1, 40, .inl (fun _ => 0))), (x24, .inl (cs.1, 40, .inl (fun _ => 0))), (x32, .inl (cs.1, 40, .inl (fun _ => 0))), (x40, .inl (cs.1, 40, .inl (fun _ => 0))), (x48, .inl (cs.1, 40, .inl (fun _ => 0))), (x56, .inl (cs.1, 20, .inl (fun _ => 0))), (x74, .inl (cs.1, 16, .inl (fun _ => 0))), (x82, .inl (cs.1, 16, .inl (fun _ => 0))), (x90, .inl (cs.1, 16, .inl (fun _ => 0))), (x98, .inl (cs.1, 10, .inl (fun _ => 0))), (x106, .inl (cs.1, 32, .inl (fun _ => 0))), (x113, .inl (cs.1, 2, .inl (fun _ => 0))), (x121, .inl (cs.1, 12, .inl (fun _ => 0))), (x129, .inl (cs.1, 12, .inl (fun _ => 0))), (x137, .inl (cs.1, 12, .inl (fun _ => 0))), (x145, .inl (cs.1, 12, .inl (fun _ => 0))), (x153, .inl (cs.1, 8, .inl (fun _ => 0)))]) rfl (fun H locs hw => ?_)
  refine lv_aload_n (pc := 158) hx hb dX10_init_158 rfl (lv_at hl 0 rfl) ?_
  refine lv_sipush (pc := 159) (v := 2048) hx hb dX10_init_159 (by decide) ?_
  refine x_newa (pc := 162) X hw rfl (Or.inl rfl) (List.mem_of_getElem? (i := 4) rfl) 0 rfl (a0 := (2048, .inl (fun _ => 0))) (fun _ => rfl) (by decide) (by decide) (by decide) (Nat.le_of_ble_eq_true rfl) (Nat.le_of_ble_eq_true rfl) dX10_init_162 19 2616 (Nat.le_of_ble_eq_true rfl) (Nat.le_of_ble_eq_true rfl) (fun x162 H hw => ?_)
  refine x_putF (pc := 164) X hw in_X10_init_X10 tyX10 tyX10_ok nmX10 0 rfl rfl 34 (by decide) (List.mem_of_getElem? (i := 25) rfl) rfl hin rfl rfl rfl (Nat.le_of_ble_eq_true rfl) dX10_init_164 (ws2 := [(a, .inr (10, [.ref x8, .int 0, .ref x16, .ref x24, .ref x32, .ref x40, .ref x48, .int 0, .int 0, .ref x56, .int 0, .int 1, .int 0, .int 0, .int 4, .ref x74, .ref x82, .ref x90, .int 0, .ref x98, .int 0, .ref x106, .int 0, .ref x113, .ref x121, .ref x129, .ref x137, .ref x145, .int 0, .int 0, .int 0, .int 0, .int 0, .ref x153, .ref x162, .null, .null, .null, .null])), (x8, .inl (cs.1, 200, .inl (fun _ => 0))), (x16, .inl (cs.1, 40, .inl (fun _ => 0))), (x24, .inl (cs.1, 40, .inl (fun _ => 0))), (x32, .inl (cs.1, 40, .inl (fun _ => 0))), (x40, .inl (cs.1, 40, .inl (fun _ => 0))), (x48, .inl (cs.1, 40, .inl (fun _ => 0))), (x56, .inl (cs.1, 20, .inl (fun _ => 0))), (x74, .inl (cs.1, 16, .inl (fun _ => 0))), (x82, .inl (cs.1, 16, .inl (fun _ => 0))), (x90, .inl (cs.1, 16, .inl (fun _ => 0))), (x98, .inl (cs.1, 10, .inl (fun _ => 0))), (x106, .inl (cs.1, 32, .inl (fun _ => 0))), (x113, .inl (cs.1, 2, .inl (fun _ => 0))), (x121, .inl (cs.1, 12, .inl (fun _ => 0))), (x129, .inl (cs.1, 12, .inl (fun _ => 0))), (x137, .inl (cs.1, 12, .inl (fun _ => 0))), (x145, .inl (cs.1, 12, .inl (fun _ => 0))), (x153, .inl (cs.1, 8, .inl (fun _ => 0))), (x162, .inl (cs.1, 2048, .inl (fun _ => 0)))]) rfl (fun H locs hw => ?_)
  refine lv_aload_n (pc := 167) hx hb dX10_init_167 rfl (lv_at hl 0 rfl) ?_
  refine lv_bipush (pc := 168) (v := 32) hx hb dX10_init_168 (by decide) ?_
  refine x_newa (pc := 170) X hw rfl (Or.inr (Or.inr rfl)) (List.mem_of_getElem? (i := 26) rfl) 2 rfl (a0 := (32, .inl (fun _ => 0))) (fun _ => rfl) (by decide) (by decide) (by decide) (Nat.le_of_ble_eq_true rfl) (Nat.le_of_ble_eq_true rfl) dX10_init_170 20 2648 (Nat.le_of_ble_eq_true rfl) (Nat.le_of_ble_eq_true rfl) (fun x170 H hw => ?_)
  refine x_putF (pc := 172) X hw in_X10_init_X10 tyX10 tyX10_ok nmX10 0 rfl rfl 35 (by decide) (List.mem_of_getElem? (i := 27) rfl) rfl hin rfl rfl rfl (Nat.le_of_ble_eq_true rfl) dX10_init_172 (ws2 := [(a, .inr (10, [.ref x8, .int 0, .ref x16, .ref x24, .ref x32, .ref x40, .ref x48, .int 0, .int 0, .ref x56, .int 0, .int 1, .int 0, .int 0, .int 4, .ref x74, .ref x82, .ref x90, .int 0, .ref x98, .int 0, .ref x106, .int 0, .ref x113, .ref x121, .ref x129, .ref x137, .ref x145, .int 0, .int 0, .int 0, .int 0, .int 0, .ref x153, .ref x162, .ref x170, .null, .null, .null])), (x8, .inl (cs.1, 200, .inl (fun _ => 0))), (x16, .inl (cs.1, 40, .inl (fun _ => 0))), (x24, .inl (cs.1, 40, .inl (fun _ => 0))), (x32, .inl (cs.1, 40, .inl (fun _ => 0))), (x40, .inl (cs.1, 40, .inl (fun _ => 0))), (x48, .inl (cs.1, 40, .inl (fun _ => 0))), (x56, .inl (cs.1, 20, .inl (fun _ => 0))), (x74, .inl (cs.1, 16, .inl (fun _ => 0))), (x82, .inl (cs.1, 16, .inl (fun _ => 0))), (x90, .inl (cs.1, 16, .inl (fun _ => 0))), (x98, .inl (cs.1, 10, .inl (fun _ => 0))), (x106, .inl (cs.1, 32, .inl (fun _ => 0))), (x113, .inl (cs.1, 2, .inl (fun _ => 0))), (x121, .inl (cs.1, 12, .inl (fun _ => 0))), (x129, .inl (cs.1, 12, .inl (fun _ => 0))), (x137, .inl (cs.1, 12, .inl (fun _ => 0))), (x145, .inl (cs.1, 12, .inl (fun _ => 0))), (x153, .inl (cs.1, 8, .inl (fun _ => 0))), (x162, .inl (cs.1, 2048, .inl (fun _ => 0))), (x170, .inl (cs.2.2, 32, .inl (fun _ => 0)))]) rfl (fun H locs hw => ?_)
  refine lv_aload_n (pc := 175) hx hb dX10_init_175 rfl (lv_at hl 0 rfl) ?_
  refine lv_bipush (pc := 176) (v := 32) hx hb dX10_init_176 (by decide) ?_
  refine x_newa (pc := 178) X hw rfl (Or.inl rfl) (List.mem_of_getElem? (i := 4) rfl) 0 rfl (a0 := (32, .inl (fun _ => 0))) (fun _ => rfl) (by decide) (by decide) (by decide) (Nat.le_of_ble_eq_true rfl) (Nat.le_of_ble_eq_true rfl) dX10_init_178 21 2680 (Nat.le_of_ble_eq_true rfl) (Nat.le_of_ble_eq_true rfl) (fun x178 H hw => ?_)
  refine x_putF (pc := 180) X hw in_X10_init_X10 tyX10 tyX10_ok nmX10 0 rfl rfl 36 (by decide) (List.mem_of_getElem? (i := 28) rfl) rfl hin rfl rfl rfl (Nat.le_of_ble_eq_true rfl) dX10_init_180 (ws2 := [(a, .inr (10, [.ref x8, .int 0, .ref x16, .ref x24, .ref x32, .ref x40, .ref x48, .int 0, .int 0, .ref x56, .int 0, .int 1, .int 0, .int 0, .int 4, .ref x74, .ref x82, .ref x90, .int 0, .ref x98, .int 0, .ref x106, .int 0, .ref x113, .ref x121, .ref x129, .ref x137, .ref x145, .int 0, .int 0, .int 0, .int 0, .int 0, .ref x153, .ref x162, .ref x170, .ref x178, .null, .null])), (x8, .inl (cs.1, 200, .inl (fun _ => 0))), (x16, .inl (cs.1, 40, .inl (fun _ => 0))), (x24, .inl (cs.1, 40, .inl (fun _ => 0))), (x32, .inl (cs.1, 40, .inl (fun _ => 0))), (x40, .inl (cs.1, 40, .inl (fun _ => 0))), (x48, .inl (cs.1, 40, .inl (fun _ => 0))), (x56, .inl (cs.1, 20, .inl (fun _ => 0))), (x74, .inl (cs.1, 16, .inl (fun _ => 0))), (x82, .inl (cs.1, 16, .inl (fun _ => 0))), (x90, .inl (cs.1, 16, .inl (fun _ => 0))), (x98, .inl (cs.1, 10, .inl (fun _ => 0))), (x106, .inl (cs.1, 32, .inl (fun _ => 0))), (x113, .inl (cs.1, 2, .inl (fun _ => 0))), (x121, .inl (cs.1, 12, .inl (fun _ => 0))), (x129, .inl (cs.1, 12, .inl (fun _ => 0))), (x137, .inl (cs.1, 12, .inl (fun _ => 0))), (x145, .inl (cs.1, 12, .inl (fun _ => 0))), (x153, .inl (cs.1, 8, .inl (fun _ => 0))), (x162, .inl (cs.1, 2048, .inl (fun _ => 0))), (x170, .inl (cs.2.2, 32, .inl (fun _ => 0))), (x178, .inl (cs.1, 32, .inl (fun _ => 0)))]) rfl (fun H locs hw => ?_)
  refine lv_aload_n (pc := 183) hx hb dX10_init_183 rfl (lv_at hl 0 rfl) ?_
  refine lv_bipush (pc := 184) (v := 8) hx hb dX10_init_184 (by decide) ?_
  refine x_newa (pc := 186) X hw rfl (Or.inr (Or.inl rfl)) (List.mem_of_getElem? (i := 29) rfl) 1 rfl (a0 := (8, .inr (.inl (fun _ => 0)))) (fun _ => rfl) (by decide) (by decide) (by decide) (Nat.le_of_ble_eq_true rfl) (Nat.le_of_ble_eq_true rfl) dX10_init_186 22 2688 (Nat.le_of_ble_eq_true rfl) (Nat.le_of_ble_eq_true rfl) (fun x186 H hw => ?_)
  refine x_putF (pc := 188) X hw in_X10_init_X10 tyX10 tyX10_ok nmX10 0 rfl rfl 37 (by decide) (List.mem_of_getElem? (i := 30) rfl) rfl hin rfl rfl rfl (Nat.le_of_ble_eq_true rfl) dX10_init_188 (ws2 := [(a, .inr (10, [.ref x8, .int 0, .ref x16, .ref x24, .ref x32, .ref x40, .ref x48, .int 0, .int 0, .ref x56, .int 0, .int 1, .int 0, .int 0, .int 4, .ref x74, .ref x82, .ref x90, .int 0, .ref x98, .int 0, .ref x106, .int 0, .ref x113, .ref x121, .ref x129, .ref x137, .ref x145, .int 0, .int 0, .int 0, .int 0, .int 0, .ref x153, .ref x162, .ref x170, .ref x178, .ref x186, .null])), (x8, .inl (cs.1, 200, .inl (fun _ => 0))), (x16, .inl (cs.1, 40, .inl (fun _ => 0))), (x24, .inl (cs.1, 40, .inl (fun _ => 0))), (x32, .inl (cs.1, 40, .inl (fun _ => 0))), (x40, .inl (cs.1, 40, .inl (fun _ => 0))), (x48, .inl (cs.1, 40, .inl (fun _ => 0))), (x56, .inl (cs.1, 20, .inl (fun _ => 0))), (x74, .inl (cs.1, 16, .inl (fun _ => 0))), (x82, .inl (cs.1, 16, .inl (fun _ => 0))), (x90, .inl (cs.1, 16, .inl (fun _ => 0))), (x98, .inl (cs.1, 10, .inl (fun _ => 0))), (x106, .inl (cs.1, 32, .inl (fun _ => 0))), (x113, .inl (cs.1, 2, .inl (fun _ => 0))), (x121, .inl (cs.1, 12, .inl (fun _ => 0))), (x129, .inl (cs.1, 12, .inl (fun _ => 0))), (x137, .inl (cs.1, 12, .inl (fun _ => 0))), (x145, .inl (cs.1, 12, .inl (fun _ => 0))), (x153, .inl (cs.1, 8, .inl (fun _ => 0))), (x162, .inl (cs.1, 2048, .inl (fun _ => 0))), (x170, .inl (cs.2.2, 32, .inl (fun _ => 0))), (x178, .inl (cs.1, 32, .inl (fun _ => 0))), (x186, .inl (cs.2.1, 8, .inr (.inl (fun _ => 0))))]) rfl (fun H locs hw => ?_)
  refine lv_aload_n (pc := 191) hx hb dX10_init_191 rfl (lv_at hl 0 rfl) ?_
  refine lv_bipush (pc := 192) (v := 8) hx hb dX10_init_192 (by decide) ?_
  refine x_newa (pc := 194) X hw rfl (Or.inr (Or.inl rfl)) (List.mem_of_getElem? (i := 29) rfl) 1 rfl (a0 := (8, .inr (.inl (fun _ => 0)))) (fun _ => rfl) (by decide) (by decide) (by decide) (Nat.le_of_ble_eq_true rfl) (Nat.le_of_ble_eq_true rfl) dX10_init_194 23 2696 (Nat.le_of_ble_eq_true rfl) (Nat.le_of_ble_eq_true rfl) (fun x194 H hw => ?_)
  refine x_putF (pc := 196) X hw in_X10_init_X10 tyX10 tyX10_ok nmX10 0 rfl rfl 38 (by decide) (List.mem_of_getElem? (i := 31) rfl) rfl hin rfl rfl rfl (Nat.le_of_ble_eq_true rfl) dX10_init_196 (ws2 := [(a, .inr (10, [.ref x8, .int 0, .ref x16, .ref x24, .ref x32, .ref x40, .ref x48, .int 0, .int 0, .ref x56, .int 0, .int 1, .int 0, .int 0, .int 4, .ref x74, .ref x82, .ref x90, .int 0, .ref x98, .int 0, .ref x106, .int 0, .ref x113, .ref x121, .ref x129, .ref x137, .ref x145, .int 0, .int 0, .int 0, .int 0, .int 0, .ref x153, .ref x162, .ref x170, .ref x178, .ref x186, .ref x194])), (x8, .inl (cs.1, 200, .inl (fun _ => 0))), (x16, .inl (cs.1, 40, .inl (fun _ => 0))), (x24, .inl (cs.1, 40, .inl (fun _ => 0))), (x32, .inl (cs.1, 40, .inl (fun _ => 0))), (x40, .inl (cs.1, 40, .inl (fun _ => 0))), (x48, .inl (cs.1, 40, .inl (fun _ => 0))), (x56, .inl (cs.1, 20, .inl (fun _ => 0))), (x74, .inl (cs.1, 16, .inl (fun _ => 0))), (x82, .inl (cs.1, 16, .inl (fun _ => 0))), (x90, .inl (cs.1, 16, .inl (fun _ => 0))), (x98, .inl (cs.1, 10, .inl (fun _ => 0))), (x106, .inl (cs.1, 32, .inl (fun _ => 0))), (x113, .inl (cs.1, 2, .inl (fun _ => 0))), (x121, .inl (cs.1, 12, .inl (fun _ => 0))), (x129, .inl (cs.1, 12, .inl (fun _ => 0))), (x137, .inl (cs.1, 12, .inl (fun _ => 0))), (x145, .inl (cs.1, 12, .inl (fun _ => 0))), (x153, .inl (cs.1, 8, .inl (fun _ => 0))), (x162, .inl (cs.1, 2048, .inl (fun _ => 0))), (x170, .inl (cs.2.2, 32, .inl (fun _ => 0))), (x178, .inl (cs.1, 32, .inl (fun _ => 0))), (x186, .inl (cs.2.1, 8, .inr (.inl (fun _ => 0)))), (x194, .inl (cs.2.1, 8, .inr (.inl (fun _ => 0))))]) rfl (fun H locs hw => ?_)
  exact hret _ _ 199 _ (wX10 cs a (fun k => ([x8, 0, x16, x24, x32, x40, x48, 0, 0, x56, 0, 0, 0, 0, 0, x74, x82, x90, 0, x98, 0, x106, 0, x113, x121, x129, x137, x145, 0, 0, 0, 0, 0, x153, x162, x170, x178, x186, x194] : List Nat).getD k 0) zX10) ⟨_, rfl⟩ hw dX10_init_199

theorem in_X9_init_X6 : ∀ w ∈ wsX60, w ∈ wsX9_init := fun _ h => List.mem_cons_of_mem _ (List.mem_append_left _ (List.mem_append_left _ (List.mem_append_left _ (List.mem_append_left _ (List.mem_append_left _ (List.mem_append_left _ (List.mem_append_left _ (List.mem_append_left _ (List.mem_append_left _ (List.mem_append_right _ h))))))))))
theorem in_X9_init_X9 : ∀ w ∈ wsX90, w ∈ wsX9_init := fun _ h => List.mem_cons_of_mem _ (List.mem_append_left _ (List.mem_append_left _ (List.mem_append_left _ (List.mem_append_left _ (List.mem_append_left _ (List.mem_append_left _ (List.mem_append_left _ (List.mem_append_left _ (List.mem_append_right _ h)))))))))
theorem in_X9_init_X3 : ∀ w ∈ wsX30, w ∈ wsX9_init := fun _ h => List.mem_cons_of_mem _ (List.mem_append_left _ (List.mem_append_left _ (List.mem_append_left _ (List.mem_append_left _ (List.mem_append_left _ (List.mem_append_left _ (List.mem_append_left _ (List.mem_append_right _ h))))))))
theorem in_X9_init_X7 : ∀ w ∈ wsX70, w ∈ wsX9_init := fun _ h => List.mem_cons_of_mem _ (List.mem_append_left _ (List.mem_append_left _ (List.mem_append_left _ (List.mem_append_left _ (List.mem_append_left _ (List.mem_append_left _ (List.mem_append_right _ h)))))))
theorem in_X9_init_X2 : ∀ w ∈ wsX20, w ∈ wsX9_init := fun _ h => List.mem_cons_of_mem _ (List.mem_append_left _ (List.mem_append_left _ (List.mem_append_left _ (List.mem_append_left _ (List.mem_append_left _ (List.mem_append_right _ h))))))
theorem in_X9_init_X8 : ∀ w ∈ wsX80, w ∈ wsX9_init := fun _ h => List.mem_cons_of_mem _ (List.mem_append_left _ (List.mem_append_left _ (List.mem_append_left _ (List.mem_append_left _ (List.mem_append_right _ h)))))
theorem in_X9_init_X0 : ∀ w ∈ wsX00, w ∈ wsX9_init := fun _ h => List.mem_cons_of_mem _ (List.mem_append_left _ (List.mem_append_left _ (List.mem_append_left _ (List.mem_append_right _ h))))
theorem in_X9_init_X4 : ∀ w ∈ wsX40, w ∈ wsX9_init := fun _ h => List.mem_cons_of_mem _ (List.mem_append_left _ (List.mem_append_left _ (List.mem_append_right _ h)))
theorem in_X9_init_X5 : ∀ w ∈ wsX50, w ∈ wsX9_init := fun _ h => List.mem_cons_of_mem _ (List.mem_append_left _ (List.mem_append_right _ h))
theorem in_X9_init_X1 : ∀ w ∈ wsX10, w ∈ wsX9_init := fun _ h => List.mem_cons_of_mem _ (List.mem_append_right _ h)
abbrev rmX9_init : Room := { frames := 2, cells := 44, slots := 1033, locals := 42 }
def wFull (cs : CS) (a : Nat) (q qT qP qS qDr qV qH qSm qF1 qF2 qPt : Nat → Nat) (T R P S Dr V Hp Sm F1 F2 Pt : PS) : va_W := wX9 cs a q ++ wX6 cs (q 0) qT T ++ wX3 cs (q 1) (fun _ => q 0) R ++ wX2 cs (qS 0) qP P ++ wX7 cs (q 2) qS S ++ wX2 cs (q 3) qDr Dr ++ wX8 cs (q 4) qV V ++ wX0 cs (q 5) qH Hp ++ wX4 cs (q 6) qSm Sm ++ wX5 cs (q 7) qF1 F1 ++ wX5 cs (q 8) qF2 F2 ++ wX1 cs (q 9) qPt Pt
set_option maxHeartbeats 4000000 in
set_option maxRecDepth 100000 in
theorem c_X9_init (l : Launch) (D : va_G) (cs : CS) (a : Nat) (S4 : PS) (h4 : f_X4_init Z0 = some S4) : CTN l D (TY cs) yX9_init wsX9_init rmX9_init [.ref a] [(a, .inr (9, [.null, .null, .null, .null, .null, .null, .null, .null, .null, .null]))] (fun w => ∃ q qT qP qS qDr qV qH qSm qF1 qF2 qPt : Nat → Nat, w = wFull cs a q qT qP qS qDr qV qH qSm qF1 qF2 qPt zX6 zX3 zX2 zX7 zX2 zX8 zX0 S4 zX5 zX5 zX1) 44 1033 := by
  refine CTN.ofW (own := RX9) (cc := cX9_init) (maxL := 1) (by decide) rfl rfl rfl (Nat.le_of_ble_eq_true rfl) ?_
  intro p e s m args below meth c A Q X hin hret ls hl hw
  obtain ⟨hx, hb, hml, hown, hts, hK, hA, hr, hlk⟩ := id X
  have hl : lv_has ls 1 [(0, .ref a)] := hl
  refine lv_aload_n (pc := 0) hx hb dX9_init_0 rfl (lv_at hl 0 rfl) ?_
  refine x_objinit (pc := 1) X (List.mem_of_getElem? (i := 1) rfl) (List.mem_of_getElem? (i := 2) rfl) (List.mem_of_getElem? (i := 3) rfl) hl.1 dX9_init_1 (Nat.le_of_ble_eq_true rfl) (Nat.le_of_ble_eq_true rfl) ?_
  refine lv_aload_n (pc := 4) hx hb dX9_init_4 rfl (lv_at hl 0 rfl) ?_
  refine x_new (pc := 5) X hw in_X9_init_X6 tyX6 tyX6_ok (List.mem_of_getElem? (i := 4) rfl) (List.mem_of_getElem? (i := 5) rfl) (List.mem_of_getElem? (i := 6) rfl) (ci := 6) rfl (fs := [.null, .int 0]) (fun j hj => by rcases (show j = 0 ∨ j = 1 by omega) with rfl | rfl <;> rfl) (Nat.le_of_ble_eq_true rfl) (Nat.le_of_ble_eq_true rfl) dX9_init_5 1 2 (Nat.le_of_ble_eq_true rfl) (Nat.le_of_ble_eq_true rfl) (fun x5 H hw => ?_)
  refine lv_dup (pc := 8) hx hb dX9_init_8 rfl ?_
  refine x_cutN (pc := 9) (wr := [(a, .inr (9, [.null, .null, .null, .null, .null, .null, .null, .null, .null, .null]))]) X hw [1] [0] rfl rfl (by decide) (by decide) (va_runI (As := []) (rest := [.ref x5, .ref a]) ⟨hx, hb, hml, hown, hts⟩ (c_X6_init l D cs x5 _) (cwI 0 hts gX9_init_X6_init rfl rfl rfl (hts _ (List.mem_of_getElem? (i := 6) rfl)) (hts _ (List.mem_of_getElem? (i := 41) rfl)) (hts _ (List.mem_of_getElem? (i := 42) rfl)) rfl (by decide +kernel) ⟨Nat.le_of_ble_eq_true rfl, Nat.le_of_ble_eq_true rfl⟩) ⟨CP_blind, x_preC X hw [1] rfl (by decide) [.ref x5]⟩ rfl rfl hl.1 rfl (lv_room (Nat.le_of_ble_eq_true rfl)) dX9_init_9 ⟨Nat.le_of_ble_eq_true rfl, Nat.le_of_ble_eq_true rfl⟩) 2 202 (Nat.le_of_ble_eq_true rfl) (Nat.le_of_ble_eq_true rfl) (fun w1 H locs hw1 hw => ?_)
  obtain ⟨qx5, rfl⟩ := hw1
  refine x_putF (pc := 12) X hw in_X9_init_X9 tyX9 tyX9_ok nmX9 0 rfl rfl 0 (by decide) (List.mem_of_getElem? (i := 7) rfl) rfl hin rfl rfl rfl (Nat.le_of_ble_eq_true rfl) dX9_init_12 (ws2 := [(a, .inr (9, [.ref x5, .null, .null, .null, .null, .null, .null, .null, .null, .null]))] ++ wX6 cs x5 qx5 zX6) rfl (fun H locs hw => ?_)
  refine lv_aload_n (pc := 15) hx hb dX9_init_15 rfl (lv_at hl 0 rfl) ?_
  refine x_new (pc := 16) X hw in_X9_init_X3 tyX3 tyX3_ok (List.mem_of_getElem? (i := 8) rfl) (List.mem_of_getElem? (i := 9) rfl) (List.mem_of_getElem? (i := 10) rfl) (ci := 3) rfl (fs := [.null, .int 0, .int 0, .int 0]) (fun j hj => by rcases (show j = 0 ∨ j = 1 ∨ j = 2 ∨ j = 3 by omega) with rfl | rfl | rfl | rfl <;> rfl) (Nat.le_of_ble_eq_true rfl) (Nat.le_of_ble_eq_true rfl) dX9_init_16 3 206 (Nat.le_of_ble_eq_true rfl) (Nat.le_of_ble_eq_true rfl) (fun x16 H hw => ?_)
  refine lv_dup (pc := 19) hx hb dX9_init_19 rfl ?_
  refine lv_aload_n (pc := 20) hx hb dX9_init_20 rfl (lv_at hl 0 rfl) ?_
  refine x_get (pc := 21) X hw in_X9_init_X9 0 rfl rfl 0 (by decide) (List.mem_of_getElem? (i := 7) rfl) rfl dX9_init_21 ?_
  refine x_cutN (pc := 24) (wr := [(a, .inr (9, [.ref x5, .null, .null, .null, .null, .null, .null, .null, .null, .null]))] ++ wX6 cs x5 qx5 zX6) X hw [3] [0, 1, 2] rfl rfl (by decide) (by decide) (va_runI (As := [.ref x5]) (rest := [.ref x16, .ref a]) ⟨hx, hb, hml, hown, hts⟩ (c_X3_init l D cs x16 x5 _) (cwI 1 hts gX9_init_X3_init rfl rfl rfl (hts _ (List.mem_of_getElem? (i := 10) rfl)) (hts _ (List.mem_of_getElem? (i := 48) rfl)) (hts _ (List.mem_of_getElem? (i := 49) rfl)) rfl (by decide +kernel) ⟨Nat.le_of_ble_eq_true rfl, Nat.le_of_ble_eq_true rfl⟩) ⟨CP_blind, x_preC X hw [3] rfl (by decide) [.ref x16, .ref x5]⟩ rfl rfl hl.1 rfl (lv_room (Nat.le_of_ble_eq_true rfl)) dX9_init_24 ⟨Nat.le_of_ble_eq_true rfl, Nat.le_of_ble_eq_true rfl⟩) 3 206 (Nat.le_of_ble_eq_true rfl) (Nat.le_of_ble_eq_true rfl) (fun w1 H locs hw1 hw => ?_)
  subst hw1
  refine x_putF (pc := 27) X hw in_X9_init_X9 tyX9 tyX9_ok nmX9 0 rfl rfl 1 (by decide) (List.mem_of_getElem? (i := 11) rfl) rfl hin rfl rfl rfl (Nat.le_of_ble_eq_true rfl) dX9_init_27 (ws2 := [(a, .inr (9, [.ref x5, .ref x16, .null, .null, .null, .null, .null, .null, .null, .null]))] ++ wX6 cs x5 qx5 zX6 ++ wX3 cs x16 (fun _ => x5) zX3) rfl (fun H locs hw => ?_)
  refine lv_aload_n (pc := 30) hx hb dX9_init_30 rfl (lv_at hl 0 rfl) ?_
  refine x_new (pc := 31) X hw in_X9_init_X7 tyX7 tyX7_ok (List.mem_of_getElem? (i := 12) rfl) (List.mem_of_getElem? (i := 13) rfl) (List.mem_of_getElem? (i := 14) rfl) (ci := 7) rfl (fs := [.null, .int 0, .int 0, .int 0, .null, .null, .null, .null]) (fun j hj => by rcases (show j = 0 ∨ j = 1 ∨ j = 2 ∨ j = 3 ∨ j = 4 ∨ j = 5 ∨ j = 6 ∨ j = 7 by omega) with rfl | rfl | rfl | rfl | rfl | rfl | rfl | rfl <;> rfl) (Nat.le_of_ble_eq_true rfl) (Nat.le_of_ble_eq_true rfl) dX9_init_31 4 214 (Nat.le_of_ble_eq_true rfl) (Nat.le_of_ble_eq_true rfl) (fun x31 H hw => ?_)
  refine lv_dup (pc := 34) hx hb dX9_init_34 rfl ?_
  refine x_new (pc := 35) X hw in_X9_init_X2 tyX2 tyX2_ok (List.mem_of_getElem? (i := 15) rfl) (List.mem_of_getElem? (i := 16) rfl) (List.mem_of_getElem? (i := 17) rfl) (ci := 2) rfl (fs := [.int 0, .null, .null, .null, .int 0, .int 0, .null, .null, .null, .null, .int 0]) (fun j hj => by rcases (show j = 0 ∨ j = 1 ∨ j = 2 ∨ j = 3 ∨ j = 4 ∨ j = 5 ∨ j = 6 ∨ j = 7 ∨ j = 8 ∨ j = 9 ∨ j = 10 by omega) with rfl | rfl | rfl | rfl | rfl | rfl | rfl | rfl | rfl | rfl | rfl <;> rfl) (Nat.le_of_ble_eq_true rfl) (Nat.le_of_ble_eq_true rfl) dX9_init_35 5 225 (Nat.le_of_ble_eq_true rfl) (Nat.le_of_ble_eq_true rfl) (fun x35 H hw => ?_)
  refine lv_dup (pc := 38) hx hb dX9_init_38 rfl ?_
  refine x_cutN (pc := 39) (wr := [(a, .inr (9, [.ref x5, .ref x16, .null, .null, .null, .null, .null, .null, .null, .null]))] ++ wX6 cs x5 qx5 zX6 ++ wX3 cs x16 (fun _ => x5) zX3 ++ [(x31, .inr (7, [.null, .int 0, .int 0, .int 0, .null, .null, .null, .null]))]) X hw [5] [0, 1, 2, 3, 4] rfl rfl (by decide) (by decide) (va_runI (As := []) (rest := [.ref x35, .ref x31, .ref x31, .ref a]) ⟨hx, hb, hml, hown, hts⟩ (c_X2_init l D cs x35 _) (cwI 0 hts gX9_init_X2_init rfl rfl rfl (hts _ (List.mem_of_getElem? (i := 17) rfl)) (hts _ (List.mem_of_getElem? (i := 56) rfl)) (hts _ (List.mem_of_getElem? (i := 57) rfl)) rfl (by decide +kernel) ⟨Nat.le_of_ble_eq_true rfl, Nat.le_of_ble_eq_true rfl⟩) ⟨CP_blind, x_preC X hw [5] rfl (by decide) [.ref x35]⟩ rfl rfl hl.1 rfl (lv_room (Nat.le_of_ble_eq_true rfl)) dX9_init_39 ⟨Nat.le_of_ble_eq_true rfl, Nat.le_of_ble_eq_true rfl⟩) 12 377 (Nat.le_of_ble_eq_true rfl) (Nat.le_of_ble_eq_true rfl) (fun w1 H locs hw1 hw => ?_)
  obtain ⟨qx35, rfl⟩ := hw1
  refine x_cutN (pc := 42) (wr := [(a, .inr (9, [.ref x5, .ref x16, .null, .null, .null, .null, .null, .null, .null, .null]))] ++ wX6 cs x5 qx5 zX6 ++ wX3 cs x16 (fun _ => x5) zX3 ++ wX2 cs x35 qx35 zX2) X hw [4] [0, 1, 2, 3, 5, 6, 7, 8, 9, 10, 11, 12] rfl rfl (by decide) (by decide) (va_runI (As := [.ref x35]) (rest := [.ref x31, .ref a]) ⟨hx, hb, hml, hown, hts⟩ (c_X7_init l D cs x31 x35 _) (cwI 1 hts gX9_init_X7_init rfl rfl rfl (hts _ (List.mem_of_getElem? (i := 14) rfl)) (hts _ (List.mem_of_getElem? (i := 72) rfl)) (hts _ (List.mem_of_getElem? (i := 73) rfl)) rfl (by decide +kernel) ⟨Nat.le_of_ble_eq_true rfl, Nat.le_of_ble_eq_true rfl⟩) ⟨CP_blind, x_preC X hw [4] rfl (by decide) [.ref x31, .ref x35]⟩ rfl rfl hl.1 rfl (lv_room (Nat.le_of_ble_eq_true rfl)) dX9_init_42 ⟨Nat.le_of_ble_eq_true rfl, Nat.le_of_ble_eq_true rfl⟩) 16 513 (Nat.le_of_ble_eq_true rfl) (Nat.le_of_ble_eq_true rfl) (fun w1 H locs hw1 hw => ?_)
  obtain ⟨qx31, rfl⟩ := hw1
  refine x_putF (pc := 45) X hw in_X9_init_X9 tyX9 tyX9_ok nmX9 0 rfl rfl 2 (by decide) (List.mem_of_getElem? (i := 18) rfl) rfl hin rfl rfl rfl (Nat.le_of_ble_eq_true rfl) dX9_init_45 (ws2 := [(a, .inr (9, [.ref x5, .ref x16, .ref x31, .null, .null, .null, .null, .null, .null, .null]))] ++ wX6 cs x5 qx5 zX6 ++ wX3 cs x16 (fun _ => x5) zX3 ++ wX2 cs x35 qx35 zX2 ++ wX7 cs x31 (va_up qx31 0 x35) zX7) rfl (fun H locs hw => ?_)
  refine lv_aload_n (pc := 48) hx hb dX9_init_48 rfl (lv_at hl 0 rfl) ?_
  refine x_new (pc := 49) X hw in_X9_init_X2 tyX2 tyX2_ok (List.mem_of_getElem? (i := 15) rfl) (List.mem_of_getElem? (i := 16) rfl) (List.mem_of_getElem? (i := 17) rfl) (ci := 2) rfl (fs := [.int 0, .null, .null, .null, .int 0, .int 0, .null, .null, .null, .null, .int 0]) (fun j hj => by rcases (show j = 0 ∨ j = 1 ∨ j = 2 ∨ j = 3 ∨ j = 4 ∨ j = 5 ∨ j = 6 ∨ j = 7 ∨ j = 8 ∨ j = 9 ∨ j = 10 by omega) with rfl | rfl | rfl | rfl | rfl | rfl | rfl | rfl | rfl | rfl | rfl <;> rfl) (Nat.le_of_ble_eq_true rfl) (Nat.le_of_ble_eq_true rfl) dX9_init_49 17 524 (Nat.le_of_ble_eq_true rfl) (Nat.le_of_ble_eq_true rfl) (fun x49 H hw => ?_)
  refine lv_dup (pc := 52) hx hb dX9_init_52 rfl ?_
  refine x_cutN (pc := 53) (wr := [(a, .inr (9, [.ref x5, .ref x16, .ref x31, .null, .null, .null, .null, .null, .null, .null]))] ++ wX6 cs x5 qx5 zX6 ++ wX3 cs x16 (fun _ => x5) zX3 ++ wX2 cs x35 qx35 zX2 ++ wX7 cs x31 (va_up qx31 0 x35) zX7) X hw [17] [0, 1, 2, 3, 4, 5, 6, 7, 8, 9, 10, 11, 12, 13, 14, 15, 16] rfl rfl (by decide) (by decide) (va_runI (As := []) (rest := [.ref x49, .ref a]) ⟨hx, hb, hml, hown, hts⟩ (c_X2_init l D cs x49 _) (cwI 0 hts gX9_init_X2_init rfl rfl rfl (hts _ (List.mem_of_getElem? (i := 17) rfl)) (hts _ (List.mem_of_getElem? (i := 56) rfl)) (hts _ (List.mem_of_getElem? (i := 57) rfl)) rfl (by decide +kernel) ⟨Nat.le_of_ble_eq_true rfl, Nat.le_of_ble_eq_true rfl⟩) ⟨CP_blind, x_preC X hw [17] rfl (by decide) [.ref x49]⟩ rfl rfl hl.1 rfl (lv_room (Nat.le_of_ble_eq_true rfl)) dX9_init_53 ⟨Nat.le_of_ble_eq_true rfl, Nat.le_of_ble_eq_true rfl⟩) 24 676 (Nat.le_of_ble_eq_true rfl) (Nat.le_of_ble_eq_true rfl) (fun w1 H locs hw1 hw => ?_)
  obtain ⟨qx49, rfl⟩ := hw1
  refine x_put (pc := 56) X hw in_X9_init_X9 tyX9 tyX9_ok nmX9 0 rfl rfl 3 (by decide) (List.mem_of_getElem? (i := 19) rfl) rfl rfl rfl (Nat.le_of_ble_eq_true rfl) dX9_init_56 (ws2 := [(a, .inr (9, [.ref x5, .ref x16, .ref x31, .ref x49, .null, .null, .null, .null, .null, .null]))] ++ wX6 cs x5 qx5 zX6 ++ wX3 cs x16 (fun _ => x5) zX3 ++ wX2 cs x35 qx35 zX2 ++ wX7 cs x31 (va_up qx31 0 x35) zX7 ++ wX2 cs x49 qx49 zX2) rfl (fun H locs hw => ?_)
  refine lv_aload_n (pc := 59) hx hb dX9_init_59 rfl (lv_at hl 0 rfl) ?_
  refine x_new (pc := 60) X hw in_X9_init_X8 tyX8 tyX8_ok (List.mem_of_getElem? (i := 20) rfl) (List.mem_of_getElem? (i := 21) rfl) (List.mem_of_getElem? (i := 22) rfl) (ci := 8) rfl (fs := [.int 0, .int 0, .int 0, .null, .null, .null, .null, .null, .null]) (fun j hj => by rcases (show j = 0 ∨ j = 1 ∨ j = 2 ∨ j = 3 ∨ j = 4 ∨ j = 5 ∨ j = 6 ∨ j = 7 ∨ j = 8 by omega) with rfl | rfl | rfl | rfl | rfl | rfl | rfl | rfl | rfl <;> rfl) (Nat.le_of_ble_eq_true rfl) (Nat.le_of_ble_eq_true rfl) dX9_init_60 25 685 (Nat.le_of_ble_eq_true rfl) (Nat.le_of_ble_eq_true rfl) (fun x60 H hw => ?_)
  refine lv_dup (pc := 63) hx hb dX9_init_63 rfl ?_
  refine x_cutN (pc := 64) (wr := [(a, .inr (9, [.ref x5, .ref x16, .ref x31, .ref x49, .null, .null, .null, .null, .null, .null]))] ++ wX6 cs x5 qx5 zX6 ++ wX3 cs x16 (fun _ => x5) zX3 ++ wX2 cs x35 qx35 zX2 ++ wX7 cs x31 (va_up qx31 0 x35) zX7 ++ wX2 cs x49 qx49 zX2) X hw [25] [0, 1, 2, 3, 4, 5, 6, 7, 8, 9, 10, 11, 12, 13, 14, 15, 16, 17, 18, 19, 20, 21, 22, 23, 24] rfl rfl (by decide) (by decide) (va_runI (As := []) (rest := [.ref x60, .ref a]) ⟨hx, hb, hml, hown, hts⟩ (c_X8_init l D cs x60 _) (cwI 0 hts gX9_init_X8_init rfl rfl rfl (hts _ (List.mem_of_getElem? (i := 22) rfl)) (hts _ (List.mem_of_getElem? (i := 84) rfl)) (hts _ (List.mem_of_getElem? (i := 85) rfl)) rfl (by decide +kernel) ⟨Nat.le_of_ble_eq_true rfl, Nat.le_of_ble_eq_true rfl⟩) ⟨CP_blind, x_preC X hw [25] rfl (by decide) [.ref x60]⟩ rfl rfl hl.1 rfl (lv_room (Nat.le_of_ble_eq_true rfl)) dX9_init_64 ⟨Nat.le_of_ble_eq_true rfl, Nat.le_of_ble_eq_true rfl⟩) 31 759 (Nat.le_of_ble_eq_true rfl) (Nat.le_of_ble_eq_true rfl) (fun w1 H locs hw1 hw => ?_)
  obtain ⟨qx60, rfl⟩ := hw1
  refine x_putF (pc := 67) X hw in_X9_init_X9 tyX9 tyX9_ok nmX9 0 rfl rfl 4 (by decide) (List.mem_of_getElem? (i := 23) rfl) rfl hin rfl rfl rfl (Nat.le_of_ble_eq_true rfl) dX9_init_67 (ws2 := [(a, .inr (9, [.ref x5, .ref x16, .ref x31, .ref x49, .ref x60, .null, .null, .null, .null, .null]))] ++ wX6 cs x5 qx5 zX6 ++ wX3 cs x16 (fun _ => x5) zX3 ++ wX2 cs x35 qx35 zX2 ++ wX7 cs x31 (va_up qx31 0 x35) zX7 ++ wX2 cs x49 qx49 zX2 ++ wX8 cs x60 qx60 zX8) rfl (fun H locs hw => ?_)
  refine lv_aload_n (pc := 70) hx hb dX9_init_70 rfl (lv_at hl 0 rfl) ?_
  refine x_new (pc := 71) X hw in_X9_init_X0 tyX0 tyX0_ok (List.mem_of_getElem? (i := 24) rfl) (List.mem_of_getElem? (i := 25) rfl) (List.mem_of_getElem? (i := 26) rfl) (ci := 0) rfl (fs := [.null, .int 0]) (fun j hj => by rcases (show j = 0 ∨ j = 1 by omega) with rfl | rfl <;> rfl) (Nat.le_of_ble_eq_true rfl) (Nat.le_of_ble_eq_true rfl) dX9_init_71 32 761 (Nat.le_of_ble_eq_true rfl) (Nat.le_of_ble_eq_true rfl) (fun x71 H hw => ?_)
  refine lv_dup (pc := 74) hx hb dX9_init_74 rfl ?_
  refine x_cutN (pc := 75) (wr := [(a, .inr (9, [.ref x5, .ref x16, .ref x31, .ref x49, .ref x60, .null, .null, .null, .null, .null]))] ++ wX6 cs x5 qx5 zX6 ++ wX3 cs x16 (fun _ => x5) zX3 ++ wX2 cs x35 qx35 zX2 ++ wX7 cs x31 (va_up qx31 0 x35) zX7 ++ wX2 cs x49 qx49 zX2 ++ wX8 cs x60 qx60 zX8) X hw [32] [0, 1, 2, 3, 4, 5, 6, 7, 8, 9, 10, 11, 12, 13, 14, 15, 16, 17, 18, 19, 20, 21, 22, 23, 24, 25, 26, 27, 28, 29, 30, 31] rfl rfl (by decide) (by decide) (va_runI (As := []) (rest := [.ref x71, .ref a]) ⟨hx, hb, hml, hown, hts⟩ (c_X0_init l D cs x71 _) (cwI 0 hts gX9_init_X0_init rfl rfl rfl (hts _ (List.mem_of_getElem? (i := 26) rfl)) (hts _ (List.mem_of_getElem? (i := 97) rfl)) (hts _ (List.mem_of_getElem? (i := 98) rfl)) rfl (by decide +kernel) ⟨Nat.le_of_ble_eq_true rfl, Nat.le_of_ble_eq_true rfl⟩) ⟨CP_blind, x_preC X hw [32] rfl (by decide) [.ref x71]⟩ rfl rfl hl.1 rfl (lv_room (Nat.le_of_ble_eq_true rfl)) dX9_init_75 ⟨Nat.le_of_ble_eq_true rfl, Nat.le_of_ble_eq_true rfl⟩) 33 793 (Nat.le_of_ble_eq_true rfl) (Nat.le_of_ble_eq_true rfl) (fun w1 H locs hw1 hw => ?_)
  obtain ⟨qx71, rfl⟩ := hw1
  refine x_putF (pc := 78) X hw in_X9_init_X9 tyX9 tyX9_ok nmX9 0 rfl rfl 5 (by decide) (List.mem_of_getElem? (i := 27) rfl) rfl hin rfl rfl rfl (Nat.le_of_ble_eq_true rfl) dX9_init_78 (ws2 := [(a, .inr (9, [.ref x5, .ref x16, .ref x31, .ref x49, .ref x60, .ref x71, .null, .null, .null, .null]))] ++ wX6 cs x5 qx5 zX6 ++ wX3 cs x16 (fun _ => x5) zX3 ++ wX2 cs x35 qx35 zX2 ++ wX7 cs x31 (va_up qx31 0 x35) zX7 ++ wX2 cs x49 qx49 zX2 ++ wX8 cs x60 qx60 zX8 ++ wX0 cs x71 qx71 zX0) rfl (fun H locs hw => ?_)
  refine lv_aload_n (pc := 81) hx hb dX9_init_81 rfl (lv_at hl 0 rfl) ?_
  refine x_new (pc := 82) X hw in_X9_init_X4 tyX4 tyX4_ok (List.mem_of_getElem? (i := 28) rfl) (List.mem_of_getElem? (i := 29) rfl) (List.mem_of_getElem? (i := 30) rfl) (ci := 4) rfl (fs := [.null]) (fun j hj => by rcases (show j = 0 by omega) with rfl <;> rfl) (Nat.le_of_ble_eq_true rfl) (Nat.le_of_ble_eq_true rfl) dX9_init_82 34 794 (Nat.le_of_ble_eq_true rfl) (Nat.le_of_ble_eq_true rfl) (fun x82 H hw => ?_)
  refine lv_dup (pc := 85) hx hb dX9_init_85 rfl ?_
  refine x_cutN (pc := 86) (wr := [(a, .inr (9, [.ref x5, .ref x16, .ref x31, .ref x49, .ref x60, .ref x71, .null, .null, .null, .null]))] ++ wX6 cs x5 qx5 zX6 ++ wX3 cs x16 (fun _ => x5) zX3 ++ wX2 cs x35 qx35 zX2 ++ wX7 cs x31 (va_up qx31 0 x35) zX7 ++ wX2 cs x49 qx49 zX2 ++ wX8 cs x60 qx60 zX8 ++ wX0 cs x71 qx71 zX0) X hw [34] [0, 1, 2, 3, 4, 5, 6, 7, 8, 9, 10, 11, 12, 13, 14, 15, 16, 17, 18, 19, 20, 21, 22, 23, 24, 25, 26, 27, 28, 29, 30, 31, 32, 33] rfl rfl (by decide) (by decide) (va_runI (As := []) (rest := [.ref x82, .ref a]) ⟨hx, hb, hml, hown, hts⟩ (c_X4_init l D cs x82 S4 h4 _) (cwI 0 hts gX9_init_X4_init rfl rfl rfl (hts _ (List.mem_of_getElem? (i := 30) rfl)) (hts _ (List.mem_of_getElem? (i := 103) rfl)) (hts _ (List.mem_of_getElem? (i := 104) rfl)) rfl (by decide +kernel) ⟨Nat.le_of_ble_eq_true rfl, Nat.le_of_ble_eq_true rfl⟩) ⟨CP_blind, x_preC X hw [34] rfl (by decide) [.ref x82]⟩ rfl rfl hl.1 rfl (lv_room (Nat.le_of_ble_eq_true rfl)) dX9_init_86 ⟨Nat.le_of_ble_eq_true rfl, Nat.le_of_ble_eq_true rfl⟩) 35 810 (Nat.le_of_ble_eq_true rfl) (Nat.le_of_ble_eq_true rfl) (fun w1 H locs hw1 hw => ?_)
  obtain ⟨qx82, rfl⟩ := hw1
  refine x_putF (pc := 89) X hw in_X9_init_X9 tyX9 tyX9_ok nmX9 0 rfl rfl 6 (by decide) (List.mem_of_getElem? (i := 31) rfl) rfl hin rfl rfl rfl (Nat.le_of_ble_eq_true rfl) dX9_init_89 (ws2 := [(a, .inr (9, [.ref x5, .ref x16, .ref x31, .ref x49, .ref x60, .ref x71, .ref x82, .null, .null, .null]))] ++ wX6 cs x5 qx5 zX6 ++ wX3 cs x16 (fun _ => x5) zX3 ++ wX2 cs x35 qx35 zX2 ++ wX7 cs x31 (va_up qx31 0 x35) zX7 ++ wX2 cs x49 qx49 zX2 ++ wX8 cs x60 qx60 zX8 ++ wX0 cs x71 qx71 zX0 ++ wX4 cs x82 qx82 S4) rfl (fun H locs hw => ?_)
  refine lv_aload_n (pc := 92) hx hb dX9_init_92 rfl (lv_at hl 0 rfl) ?_
  refine x_new (pc := 93) X hw in_X9_init_X5 tyX5 tyX5_ok (List.mem_of_getElem? (i := 32) rfl) (List.mem_of_getElem? (i := 33) rfl) (List.mem_of_getElem? (i := 34) rfl) (ci := 5) rfl (fs := [.null, .int 0]) (fun j hj => by rcases (show j = 0 ∨ j = 1 by omega) with rfl | rfl <;> rfl) (Nat.le_of_ble_eq_true rfl) (Nat.le_of_ble_eq_true rfl) dX9_init_93 36 812 (Nat.le_of_ble_eq_true rfl) (Nat.le_of_ble_eq_true rfl) (fun x93 H hw => ?_)
  refine lv_dup (pc := 96) hx hb dX9_init_96 rfl ?_
  refine x_cutN (pc := 97) (wr := [(a, .inr (9, [.ref x5, .ref x16, .ref x31, .ref x49, .ref x60, .ref x71, .ref x82, .null, .null, .null]))] ++ wX6 cs x5 qx5 zX6 ++ wX3 cs x16 (fun _ => x5) zX3 ++ wX2 cs x35 qx35 zX2 ++ wX7 cs x31 (va_up qx31 0 x35) zX7 ++ wX2 cs x49 qx49 zX2 ++ wX8 cs x60 qx60 zX8 ++ wX0 cs x71 qx71 zX0 ++ wX4 cs x82 qx82 S4) X hw [36] [0, 1, 2, 3, 4, 5, 6, 7, 8, 9, 10, 11, 12, 13, 14, 15, 16, 17, 18, 19, 20, 21, 22, 23, 24, 25, 26, 27, 28, 29, 30, 31, 32, 33, 34, 35] rfl rfl (by decide) (by decide) (va_runI (As := []) (rest := [.ref x93, .ref a]) ⟨hx, hb, hml, hown, hts⟩ (c_X5_init l D cs x93 _) (cwI 0 hts gX9_init_X5_init rfl rfl rfl (hts _ (List.mem_of_getElem? (i := 34) rfl)) (hts _ (List.mem_of_getElem? (i := 115) rfl)) (hts _ (List.mem_of_getElem? (i := 116) rfl)) rfl (by decide +kernel) ⟨Nat.le_of_ble_eq_true rfl, Nat.le_of_ble_eq_true rfl⟩) ⟨CP_blind, x_preC X hw [36] rfl (by decide) [.ref x93]⟩ rfl rfl hl.1 rfl (lv_room (Nat.le_of_ble_eq_true rfl)) dX9_init_97 ⟨Nat.le_of_ble_eq_true rfl, Nat.le_of_ble_eq_true rfl⟩) 37 876 (Nat.le_of_ble_eq_true rfl) (Nat.le_of_ble_eq_true rfl) (fun w1 H locs hw1 hw => ?_)
  obtain ⟨qx93, rfl⟩ := hw1
  refine x_putF (pc := 100) X hw in_X9_init_X9 tyX9 tyX9_ok nmX9 0 rfl rfl 7 (by decide) (List.mem_of_getElem? (i := 35) rfl) rfl hin rfl rfl rfl (Nat.le_of_ble_eq_true rfl) dX9_init_100 (ws2 := [(a, .inr (9, [.ref x5, .ref x16, .ref x31, .ref x49, .ref x60, .ref x71, .ref x82, .ref x93, .null, .null]))] ++ wX6 cs x5 qx5 zX6 ++ wX3 cs x16 (fun _ => x5) zX3 ++ wX2 cs x35 qx35 zX2 ++ wX7 cs x31 (va_up qx31 0 x35) zX7 ++ wX2 cs x49 qx49 zX2 ++ wX8 cs x60 qx60 zX8 ++ wX0 cs x71 qx71 zX0 ++ wX4 cs x82 qx82 S4 ++ wX5 cs x93 qx93 zX5) rfl (fun H locs hw => ?_)
  refine lv_aload_n (pc := 103) hx hb dX9_init_103 rfl (lv_at hl 0 rfl) ?_
  refine x_new (pc := 104) X hw in_X9_init_X5 tyX5 tyX5_ok (List.mem_of_getElem? (i := 32) rfl) (List.mem_of_getElem? (i := 33) rfl) (List.mem_of_getElem? (i := 34) rfl) (ci := 5) rfl (fs := [.null, .int 0]) (fun j hj => by rcases (show j = 0 ∨ j = 1 by omega) with rfl | rfl <;> rfl) (Nat.le_of_ble_eq_true rfl) (Nat.le_of_ble_eq_true rfl) dX9_init_104 38 878 (Nat.le_of_ble_eq_true rfl) (Nat.le_of_ble_eq_true rfl) (fun x104 H hw => ?_)
  refine lv_dup (pc := 107) hx hb dX9_init_107 rfl ?_
  refine x_cutN (pc := 108) (wr := [(a, .inr (9, [.ref x5, .ref x16, .ref x31, .ref x49, .ref x60, .ref x71, .ref x82, .ref x93, .null, .null]))] ++ wX6 cs x5 qx5 zX6 ++ wX3 cs x16 (fun _ => x5) zX3 ++ wX2 cs x35 qx35 zX2 ++ wX7 cs x31 (va_up qx31 0 x35) zX7 ++ wX2 cs x49 qx49 zX2 ++ wX8 cs x60 qx60 zX8 ++ wX0 cs x71 qx71 zX0 ++ wX4 cs x82 qx82 S4 ++ wX5 cs x93 qx93 zX5) X hw [38] [0, 1, 2, 3, 4, 5, 6, 7, 8, 9, 10, 11, 12, 13, 14, 15, 16, 17, 18, 19, 20, 21, 22, 23, 24, 25, 26, 27, 28, 29, 30, 31, 32, 33, 34, 35, 36, 37] rfl rfl (by decide) (by decide) (va_runI (As := []) (rest := [.ref x104, .ref a]) ⟨hx, hb, hml, hown, hts⟩ (c_X5_init l D cs x104 _) (cwI 0 hts gX9_init_X5_init rfl rfl rfl (hts _ (List.mem_of_getElem? (i := 34) rfl)) (hts _ (List.mem_of_getElem? (i := 115) rfl)) (hts _ (List.mem_of_getElem? (i := 116) rfl)) rfl (by decide +kernel) ⟨Nat.le_of_ble_eq_true rfl, Nat.le_of_ble_eq_true rfl⟩) ⟨CP_blind, x_preC X hw [38] rfl (by decide) [.ref x104]⟩ rfl rfl hl.1 rfl (lv_room (Nat.le_of_ble_eq_true rfl)) dX9_init_108 ⟨Nat.le_of_ble_eq_true rfl, Nat.le_of_ble_eq_true rfl⟩) 39 942 (Nat.le_of_ble_eq_true rfl) (Nat.le_of_ble_eq_true rfl) (fun w1 H locs hw1 hw => ?_)
  obtain ⟨qx104, rfl⟩ := hw1
  refine x_putF (pc := 111) X hw in_X9_init_X9 tyX9 tyX9_ok nmX9 0 rfl rfl 8 (by decide) (List.mem_of_getElem? (i := 36) rfl) rfl hin rfl rfl rfl (Nat.le_of_ble_eq_true rfl) dX9_init_111 (ws2 := [(a, .inr (9, [.ref x5, .ref x16, .ref x31, .ref x49, .ref x60, .ref x71, .ref x82, .ref x93, .ref x104, .null]))] ++ wX6 cs x5 qx5 zX6 ++ wX3 cs x16 (fun _ => x5) zX3 ++ wX2 cs x35 qx35 zX2 ++ wX7 cs x31 (va_up qx31 0 x35) zX7 ++ wX2 cs x49 qx49 zX2 ++ wX8 cs x60 qx60 zX8 ++ wX0 cs x71 qx71 zX0 ++ wX4 cs x82 qx82 S4 ++ wX5 cs x93 qx93 zX5 ++ wX5 cs x104 qx104 zX5) rfl (fun H locs hw => ?_)
  refine lv_aload_n (pc := 114) hx hb dX9_init_114 rfl (lv_at hl 0 rfl) ?_
  refine x_new (pc := 115) X hw in_X9_init_X1 tyX1 tyX1_ok (List.mem_of_getElem? (i := 37) rfl) (List.mem_of_getElem? (i := 38) rfl) (List.mem_of_getElem? (i := 39) rfl) (ci := 1) rfl (fs := [.null, .null, .null, .null, .int 0, .int 0]) (fun j hj => by rcases (show j = 0 ∨ j = 1 ∨ j = 2 ∨ j = 3 ∨ j = 4 ∨ j = 5 by omega) with rfl | rfl | rfl | rfl | rfl | rfl <;> rfl) (Nat.le_of_ble_eq_true rfl) (Nat.le_of_ble_eq_true rfl) dX9_init_115 40 948 (Nat.le_of_ble_eq_true rfl) (Nat.le_of_ble_eq_true rfl) (fun x115 H hw => ?_)
  refine lv_dup (pc := 118) hx hb dX9_init_118 rfl ?_
  refine x_cutN (pc := 119) (wr := [(a, .inr (9, [.ref x5, .ref x16, .ref x31, .ref x49, .ref x60, .ref x71, .ref x82, .ref x93, .ref x104, .null]))] ++ wX6 cs x5 qx5 zX6 ++ wX3 cs x16 (fun _ => x5) zX3 ++ wX2 cs x35 qx35 zX2 ++ wX7 cs x31 (va_up qx31 0 x35) zX7 ++ wX2 cs x49 qx49 zX2 ++ wX8 cs x60 qx60 zX8 ++ wX0 cs x71 qx71 zX0 ++ wX4 cs x82 qx82 S4 ++ wX5 cs x93 qx93 zX5 ++ wX5 cs x104 qx104 zX5) X hw [40] [0, 1, 2, 3, 4, 5, 6, 7, 8, 9, 10, 11, 12, 13, 14, 15, 16, 17, 18, 19, 20, 21, 22, 23, 24, 25, 26, 27, 28, 29, 30, 31, 32, 33, 34, 35, 36, 37, 38, 39] rfl rfl (by decide) (by decide) (va_runI (As := []) (rest := [.ref x115, .ref a]) ⟨hx, hb, hml, hown, hts⟩ (c_X1_init l D cs x115 _) (cwI 0 hts gX9_init_X1_init rfl rfl rfl (hts _ (List.mem_of_getElem? (i := 39) rfl)) (hts _ (List.mem_of_getElem? (i := 121) rfl)) (hts _ (List.mem_of_getElem? (i := 122) rfl)) rfl (by decide +kernel) ⟨Nat.le_of_ble_eq_true rfl, Nat.le_of_ble_eq_true rfl⟩) ⟨CP_blind, x_preC X hw [40] rfl (by decide) [.ref x115]⟩ rfl rfl hl.1 rfl (lv_room (Nat.le_of_ble_eq_true rfl)) dX9_init_119 ⟨Nat.le_of_ble_eq_true rfl, Nat.le_of_ble_eq_true rfl⟩) 44 1033 (Nat.le_of_ble_eq_true rfl) (Nat.le_of_ble_eq_true rfl) (fun w1 H locs hw1 hw => ?_)
  obtain ⟨qx115, rfl⟩ := hw1
  refine x_putF (pc := 122) X hw in_X9_init_X9 tyX9 tyX9_ok nmX9 0 rfl rfl 9 (by decide) (List.mem_of_getElem? (i := 40) rfl) rfl hin rfl rfl rfl (Nat.le_of_ble_eq_true rfl) dX9_init_122 (ws2 := [(a, .inr (9, [.ref x5, .ref x16, .ref x31, .ref x49, .ref x60, .ref x71, .ref x82, .ref x93, .ref x104, .ref x115]))] ++ wX6 cs x5 qx5 zX6 ++ wX3 cs x16 (fun _ => x5) zX3 ++ wX2 cs x35 qx35 zX2 ++ wX7 cs x31 (va_up qx31 0 x35) zX7 ++ wX2 cs x49 qx49 zX2 ++ wX8 cs x60 qx60 zX8 ++ wX0 cs x71 qx71 zX0 ++ wX4 cs x82 qx82 S4 ++ wX5 cs x93 qx93 zX5 ++ wX5 cs x104 qx104 zX5 ++ wX1 cs x115 qx115 zX1) rfl (fun H locs hw => ?_)
  refine hret _ _ 125 _ _ ?_ hw dX9_init_125
  exact ⟨fun k => ([x5, x16, x31, x49, x60, x71, x82, x93, x104, x115] : List Nat).getD k 0, qx5, qx35, va_up qx31 0 x35, qx49, qx60, qx71, qx82, qx93, qx104, qx115, rfl⟩
