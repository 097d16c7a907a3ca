/-! string constants: a world beside the world -/
def sLen : List Nat := [4, 2, 2, 3, 3, 3, 4, 4, 3]
def sByt : List (List Int32) := [[100, 114, 97, 119], [105, 110], [105, 115], [97, 100, 100], [109, 117, 108], [120, 111, 114], [108, 101, 115, 115], [112, 105, 99, 107], [111, 117, 116]]
def sIx (i : Nat) : Nat := [80, 86, 88, 90, 92, 94, 96, 98, 100].getD i 0
def sTx (i : Nat) : String := ["draw", "in", "is", "add", "mul", "xor", "less", "pick", "out"].getD i ""
def SE (ad av : Nat → Nat) (A : Nat → Prop) (U : State) (H : Heap) : Prop := vk_S 9 sLen sByt ad av A U H ∧ va_Z "java/lang/String" "COMPACT_STRINGS" "Z" (.int 1) A U H ∧ va_Zq "jdk/internal/util/Preconditions" "SIOOBE_FORMATTER" "Ljava/util/function/BiFunction;" A U H ∧ ∀ i, i < 9 → vk_R RX3 (sIx i) (sTx i) (ad i) U
theorem SE.kept {ad av : Nat → Nat} {A : Nat → Prop} {U : State} {H H1 : Heap} (h : SE ad av A U H) (hq : ∀ a : Nat, a < H.size → ¬ A a → H1[a]? = H[a]?) : SE ad av A U H1 := ⟨h.1.kept hq, h.2.1.kept hq, h.2.2.1.kept hq, h.2.2.2⟩
theorem SE.narrow {ad av : Nat → Nat} {A B : Nat → Prop} {U : State} {H : Heap} (h : SE ad av A U H) (hAB : ∀ q, B q → A q) : SE ad av B U H := ⟨h.1.narrow hAB, h.2.1.narrow hAB, h.2.2.1.narrow hAB, h.2.2.2⟩
theorem SE.warm {ad av : Nat → Nat} {A : Nat → Prop} {s U : State} {H : Heap} (hW : s.WarmedH U.vm) (h : SE ad av A s H) : SE ad av A U H := ⟨vk_S.moved hW.alike h.1, va_Z.moved hW.alike h.2.1, va_Zq.moved hW.alike h.2.2.1, fun i hi => vk_R.warm hW (h.2.2.2 i hi)⟩
def CPE (D : va_G) (tys : List (ClassId × FieldType)) (ad av : Nat → Nat) (avl : List Value) (w0 : va_W) (sz : Nat) : Array Value → State → Prop := fun v U => CP D tys avl w0 sz v U ∧ SE ad av (va_A w0 sz) U U.heap
def CTE (l : Launch) (D : va_G) (tys : List (ClassId × FieldType)) (ad av : Nat → Nat) (y : MethodName) (wsy : List Cond) (rm : Room) (avl : List Value) (w0 : va_W) (r : Option Value) (w1 : va_W) : Prop := ∀ sz, Met l y wsy rm (CPE D tys ad av avl w0 sz) (CQ D tys w0 sz r w1) 0 0 (va_A w0 sz)
theorem CPE_blind {D : va_G} {tys : List (ClassId × FieldType)} {ad av : Nat → Nat} {avl : List Value} {w0 : va_W} {sz : Nat} : FrameBlind (CPE D tys ad av avl w0 sz) := fun a U g mk q => by
  refine ⟨CP_blind a U g mk q.1, ?_⟩
  have h := q.2
  exact ⟨vk_S.moved (u := U) (U := U.calling g mk a) (Vm.Alike.refl U.vm) h.1, va_Z.moved (u := U) (U := U.calling g mk a) (Vm.Alike.refl U.vm) h.2.1, va_Zq.moved (u := U) (U := U.calling g mk a) (Vm.Alike.refl U.vm) h.2.2.1, fun i hi => vk_R.same (u := U) (U := U.calling g mk a) rfl (h.2.2.2 i hi)⟩
theorem CTE.ofW {l : Launch} {D : va_G} {tys : List (ClassId × FieldType)} {ad ar : Nat → Nat} {y : MethodName} {wsy ws' : List Cond} {rm : Room} {av : List Value} {w0 w1 : va_W} {r : Option Value} {cc : ByteArray} {maxL : Nat} {ret : Option FieldType} {own : String} (hy : plainName y.cls = true) (hw : wsy = Cond.code y cc maxL ret :: ws') (hown : y.cls = own) (hlen : (lg_sl av).length ≤ maxL)
    (body : ∀ (p : Program) (e : Env) (s : State) (m : MethodId) (args : Array Value) (below : List Frame) (meth : Method) (c : Code) (A : Nat → Prop) (Q : State → Prop), SE ad ar A s s.heap → FX D tys p s m args meth c cc maxL wsy own A ret → (∀ (H : Heap) (locs : List Loc) (pc : Nat) (ls : Array Slot), WD D A s w1 H locs → RetOk ret r → decode cc pc = .ok (retOp r, 1) → W p l e rm s m args below meth c H locs 0 0 Q (F0 m pc ls r.toList)) → ∀ ls : Array Slot, lv_has ls maxL (lv_args 0 av) → WD D A s w0 s.heap [] → W p l e rm s m args below meth c s.heap [] 0 0 Q (F0 m 0 ls [])) : CTE l D tys ad ar y wsy rm av w0 r w1 := by
  intro sz
  refine Met.ofW (cc := cc) (maxL := maxL) (ret := ret) hy hw ?_
  intro p e s m args below meth c s₁ B hml hv
  obtain ⟨⟨rfl, hsz, hP, hK, hD0⟩, hE⟩ := hv
  have hlk := B.notSynchronized
  subst hsz
  subst hown
  have hD := hD0.self (sz := s.heap.size)
  rw [lg_entry_eq]
  refine body p e s m av.toArray below meth c (va_A w0 s.heap.size) _ hE ⟨B.exec, B.bytes, hml, findClass_of_methodNamed B.named, atoms_spec (ws := wsy) B.pre, hK, fun q h => Or.inr h, B.returns, hlk⟩ ?_ _ (lv_entry av hlen) ⟨hP, hD, va_S.rf⟩
  intro H locs pc ls hw1 hro hdg
  have hq : ∀ t : State, t.heap = H → s.WarmedH t.vm → CQ D tys w0 s.heap.size r w1 av.toArray s (.returned r) t := fun t ht hW => ⟨rfl, ⟨by rw [ht]; exact hw1.1, va_K.moved hW.alike hK, hw1.2.1⟩, hw1.2.2.F ht⟩
  match r, hro, hdg, hq with
  | none, hro, hdg, hq => exact W.vret B.exec B.bytes (B.returns.trans hro) hq hw1.2.2.2.2 hdg
  | some (.int v), hro, hdg, hq =>
    obtain ⟨ty, h1, h2⟩ := hro
    exact W.zret B.exec B.bytes (B.returns.trans h1) h2 hq hw1.2.2.2.2 hdg
  | some (.long v), hro, hdg, hq => exact W.lret B.exec B.bytes (B.returns.trans hro) hq hw1.2.2.2.2 hdg
  | some (.ref a), hro, hdg, hq =>
    obtain ⟨n, h1⟩ := hro
    exact W.aret B.exec B.bytes (B.returns.trans h1) (Or.inl ⟨n, rfl⟩) (Or.inr ⟨a, rfl⟩) hq hw1.2.2.2.2 hdg
section XE
variable {p : Program} {l : Launch} {e : Env} {R : Room} {s : State} {m : MethodId} {args : Array Value} {below : List Frame} {meth : Method} {c : Code} {H : Heap} {locs : List Loc} {cells slots : Nat} {Q : State → Prop} {D : va_G} {tys : List (ClassId × FieldType)} {A : Nat → Prop} {ws : va_W} {cc : ByteArray} {nL : Nat} {Ts : List Cond} {own : String} {rt : Option FieldType} {pc : Nat} {ls : Array Slot} {rest : List Value} {ad ar : Nat → Nat}
theorem SE.at_ {B : Nat → Prop} (hE : SE ad ar A s s.heap) (hS : va_S A s.heap H locs) (hB : ∀ q, B q → A q) {U : State} (hU : U.heap = H) (hW : s.WarmedH U.vm) : SE ad ar B U U.heap := by
  rw [hU]
  exact ((hE.kept hS.2.1).narrow hB).warm hW
theorem x_preAE (X : FX D tys p s m args meth c cc nL Ts own A rt) (hE : SE ad ar A s s.heap) (hw : WD D A s ws H locs) (av : List Value) : ∀ U : State, U.heap = H → s.WarmedH U.vm → CPE D tys ad ar av ws H.size av.toArray U := fun U hU hW => ⟨x_preA X hw av U hU hW, hE.at_ hw.2.2 (fun q h => by
    rcases h with ⟨k, e, h⟩ | h
    · exact hw.2.1.2 k (q, e) h
    · exact X.2.2.2.2.2.2.1 q (Nat.le_trans hw.2.2.1 h)) hU hW⟩
theorem x_preNE (X : FX D tys p s m args meth c cc nL Ts own A rt) (hE : SE ad ar A s s.heap) (hw : WD D A s ws H locs) (av : List Value) : ∀ U : State, U.heap = H → s.WarmedH U.vm → CPE D tys ad ar av [] H.size av.toArray U := fun U hU hW => ⟨x_preN X av U hU hW, hE.at_ hw.2.2 (fun q h => by
    rcases h with ⟨k, e, h⟩ | h
    · simp at h
    · exact X.2.2.2.2.2.2.1 q (Nat.le_trans hw.2.2.1 h)) hU hW⟩
theorem x_preCE {w0 : va_W} (X : FX D tys p s m args meth c cc nL Ts own A rt) (hE : SE ad ar A s s.heap) (hw : WD D A s ws H locs) (isC : List Nat) (hC : isC.map (fun i => ws[i]?) = w0.map some) (hnC : va_nd isC = true) (av : List Value) : ∀ U : State, U.heap = H → s.WarmedH U.vm → CPE D tys ad ar av w0 H.size av.toArray U := fun U hU hW => ⟨x_preC X hw isC hC hnC av U hU hW, hE.at_ hw.2.2 (va_free hw.2.1 hw.2.2 X.2.2.2.2.2.2.1 isC hC) hU hW⟩
end XE
/-! the JDK's members over these constants -/
abbrev rmJ0_coder : Room := { frames := 0, cells := 0, slots := 0, locals := 0 }
set_option maxHeartbeats 4000000 in
set_option maxRecDepth 100000 in
theorem c_J0_coder (l : Launch) (D : va_G) (cs : CS) (ad ar : Nat → Nat) (i : Nat) (hi : i < 9) : CTE l D (TY cs) ad ar yJ0_coder_7d493 wsJ0_coder_7d493 rmJ0_coder [.ref (ad i)] [] (some (.int 0)) [] := by
  refine CTE.ofW (own := RJ0) (cc := cJ0_coder_7d493) (maxL := 1) (ret := some .byte) (by decide) rfl rfl (Nat.le_of_ble_eq_true rfl) ?_
  intro p e s m args below meth c A Q hE X hret ls hl hw
  obtain ⟨hx, hb, hml, hown, hts, hK, hA, hr, hlk⟩ := id X
  have hl : lv_has ls 1 [(0, .ref (ad i))] := hl
  refine va_gets (pc := 0) hx hb hE.2.1 hw.2.2 hown (hts (.fieldLink RJ0 38 "java/lang/String" "COMPACT_STRINGS" "Z") (List.mem_of_getElem? (i := 1) rfl)) (fun _ h => h) dJ0_coder_7d493_0 ?_
  refine lv_if_eq (pc := 3) (tgt := 13) hx hb dJ0_coder_7d493_3 (by decide) (fun c1 => absurd c1 (by decide)) (fun c1 => ?_)
  refine lv_aload_n (pc := 6) hx hb dJ0_coder_7d493_6 rfl (lv_at hl 0 rfl) ?_
  refine vk_getf (pc := 7) hx hb (hE.1.1 i hi).2.1 hw.2.2 hown (hts (.fieldLink RJ0 15 "java/lang/String" "coder" "B") (List.mem_of_getElem? (i := 2) rfl)) (fun _ h => h) dJ0_coder_7d493_7 ?_
  refine lv_goto (pc := 10) (tgt := 14) hx hb dJ0_coder_7d493_10 (by decide) ?_
  exact hret _ _ 14 _ hw ⟨_, rfl, by decide⟩ dJ0_coder_7d493_14
abbrev rmJ0_isLatin1 : Room := { frames := 0, cells := 0, slots := 0, locals := 0 }
set_option maxHeartbeats 4000000 in
set_option maxRecDepth 100000 in
theorem c_J0_isLatin1 (l : Launch) (D : va_G) (cs : CS) (ad ar : Nat → Nat) (i : Nat) (hi : i < 9) : CTE l D (TY cs) ad ar yJ0_isLatin1_aae02 wsJ0_isLatin1_aae02 rmJ0_isLatin1 [.ref (ad i)] [] (some (.int 1)) [] := by
  refine CTE.ofW (own := RJ0) (cc := cJ0_isLatin1_aae02) (maxL := 1) (ret := some .boolean) (by decide) rfl rfl (Nat.le_of_ble_eq_true rfl) ?_
  intro p e s m args below meth c A Q hE X hret ls hl hw
  obtain ⟨hx, hb, hml, hown, hts, hK, hA, hr, hlk⟩ := id X
  have hl : lv_has ls 1 [(0, .ref (ad i))] := hl
  refine va_gets (pc := 0) hx hb hE.2.1 hw.2.2 hown (hts (.fieldLink RJ0 38 "java/lang/String" "COMPACT_STRINGS" "Z") (List.mem_of_getElem? (i := 1) rfl)) (fun _ h => h) dJ0_isLatin1_aae02_0 ?_
  refine lv_if_eq (pc := 3) (tgt := 17) hx hb dJ0_isLatin1_aae02_3 (by decide) (fun c1 => absurd c1 (by decide)) (fun c1 => ?_)
  refine lv_aload_n (pc := 6) hx hb dJ0_isLatin1_aae02_6 rfl (lv_at hl 0 rfl) ?_
  refine vk_getf (pc := 7) hx hb (hE.1.1 i hi).2.1 hw.2.2 hown (hts (.fieldLink RJ0 15 "java/lang/String" "coder" "B") (List.mem_of_getElem? (i := 2) rfl)) (fun _ h => h) dJ0_isLatin1_aae02_7 ?_
  refine lv_if_ne (pc := 10) (tgt := 17) hx hb dJ0_isLatin1_aae02_10 (by decide) (fun c2 => absurd rfl c2) (fun c2 => ?_)
  refine lv_iconst (pc := 13) (v := 1) hx hb dJ0_isLatin1_aae02_13 (by decide) ?_
  refine lv_goto (pc := 14) (tgt := 18) hx hb dJ0_isLatin1_aae02_14 (by decide) ?_
  exact hret _ _ 18 _ hw ⟨_, rfl, by decide⟩ dJ0_isLatin1_aae02_18
abbrev rmJ0_length : Room := { frames := 1, cells := 0, slots := 0, locals := 20 }
set_option maxHeartbeats 4000000 in
set_option maxRecDepth 100000 in
theorem c_J0_length (l : Launch) (D : va_G) (cs : CS) (ad ar : Nat → Nat) (i : Nat) (hi : i < 9) : CTE l D (TY cs) ad ar yJ0_length_8abf5 wsJ0_length_8abf5 rmJ0_length [.ref (ad i)] [] (some (.int (nI (sLen.getD i 0)))) [] := by
  refine CTE.ofW (own := RJ0) (cc := cJ0_length_8abf5) (maxL := 1) (ret := some .int) (by decide) rfl rfl (Nat.le_of_ble_eq_true rfl) ?_
  intro p e s m args below meth c A Q hE X hret ls hl hw
  obtain ⟨hx, hb, hml, hown, hts, hK, hA, hr, hlk⟩ := id X
  have hl : lv_has ls 1 [(0, .ref (ad i))] := hl
  refine lv_aload_n (pc := 0) hx hb dJ0_length_8abf5_0 rfl (lv_at hl 0 rfl) ?_
  refine vk_getf (pc := 1) hx hb (hE.1.1 i hi).2.2.1 hw.2.2 hown (hts (.fieldLink RJ0 9 "java/lang/String" "value" "[B") (List.mem_of_getElem? (i := 1) rfl)) (fun _ h => h) dJ0_length_8abf5_1 ?_
  refine va_tlen (pc := 4) hx hb (hE.1.1 i hi).2.2.2 hw.2.2 rfl dJ0_length_8abf5_4 ?_
  refine lv_aload_n (pc := 5) hx hb dJ0_length_8abf5_5 rfl (lv_at hl 0 rfl) ?_
  refine x_nil (pc := 6) X hw (va_runV (As := []) (rest := [.int (Int32.ofNat (sLen.getD i 0))]) ⟨hx, hb, hml, hown, hts⟩ (c_J0_coder l D cs ad ar i hi _) (cwV 0 hts gJ0_length_8abf5_J0_coder_7d493 rfl rfl rfl (by decide +kernel) ⟨Nat.le_of_ble_eq_true rfl, Nat.le_of_ble_eq_true rfl⟩) ⟨CPE_blind, vk_recv hE.1 hi hw.2.2, x_preNE X hE hw [.ref (ad i)]⟩ rfl rfl hl.1 rfl (lv_room (Nat.le_of_ble_eq_true rfl)) dJ0_length_8abf5_6 ⟨Nat.zero_le _, Nat.zero_le _⟩) (fun H locs hw => ?_)
  refine lv_ishr (pc := 9) hx hb dJ0_length_8abf5_9 ?_
  refine x_topi (y := nI (sLen.getD i 0)) (sb_shr0 _).symm ?_
  exact hret _ _ 10 _ hw ⟨_, rfl, rfl⟩ dJ0_length_8abf5_10
abbrev rmJ3_check : Room := { frames := 0, cells := 0, slots := 0, locals := 0 }
set_option maxHeartbeats 4000000 in
set_option maxRecDepth 100000 in
theorem c_J3_check (l : Launch) (D : va_G) (cs : CS) (x y : Int32) (v : Value) (hv : v = .null ∨ ∃ t, v = .ref t) (h1 : ¬ x < 0) (h2 : x < y) : CT l D (TY cs) yJ3_checkIndex_8e157 wsJ3_checkIndex_8e157 rmJ3_check [.int x, .int y, v] [] (some (.int x)) [] := by
  have hlen : (lg_sl [.int x, .int y, v]).length ≤ 3 := by rcases hv with rfl | ⟨t, rfl⟩ <;> exact Nat.le_of_ble_eq_true rfl
  have hla : lv_args 0 [.int x, .int y, v] = [(0, .int x), (1, .int y), (2, v)] := by rcases hv with rfl | ⟨t, rfl⟩ <;> rfl
  refine CT.ofW (own := RJ3) (cc := cJ3_checkIndex_8e157) (maxL := 3) (ret := some .int) (by decide) rfl rfl hlen ?_
  intro p e s m args below meth c A Q X hret ls hl hw
  obtain ⟨hx, hb, hml, hown, hts, hK, hA, hr, hlk⟩ := id X
  rw [hla] at hl
  refine lv_iload_n (pc := 0) hx hb dJ3_checkIndex_8e157_0 rfl (lv_at hl 0 rfl) ?_
  refine lv_if_lt (pc := 1) (tgt := 9) hx hb dJ3_checkIndex_8e157_1 (by decide) (fun c1 => absurd c1 h1) (fun c1 => ?_)
  refine lv_iload_n (pc := 4) hx hb dJ3_checkIndex_8e157_4 rfl (lv_at hl 0 rfl) ?_
  refine lv_iload_n (pc := 5) hx hb dJ3_checkIndex_8e157_5 rfl (lv_at hl 1 rfl) ?_
  refine lv_icmp_lt (pc := 6) (tgt := 16) hx hb dJ3_checkIndex_8e157_6 (by decide) (fun c2 => ?_) (fun c2 => absurd h2 c2)
  refine lv_iload_n (pc := 16) hx hb dJ3_checkIndex_8e157_16 rfl (lv_at hl 0 rfl) ?_
  exact hret _ _ 17 _ hw ⟨_, rfl, rfl⟩ dJ3_checkIndex_8e157_17
abbrev rmJ0_check : Room := { frames := 1, cells := 0, slots := 0, locals := 22 }
set_option maxHeartbeats 4000000 in
set_option maxRecDepth 100000 in
theorem c_J0_check (l : Launch) (D : va_G) (cs : CS) (ad ar : Nat → Nat) (x y : Int32) (h1 : ¬ x < 0) (h2 : x < y) : CTE l D (TY cs) ad ar yJ0_checkIndex_df160 wsJ0_checkIndex_df160 rmJ0_check [.int x, .int y] [] none [] := by
  refine CTE.ofW (own := RJ0) (cc := cJ0_checkIndex_df160) (maxL := 2) (ret := none) (by decide) rfl rfl (Nat.le_of_ble_eq_true rfl) ?_
  intro p e s m args below meth c A Q hE X hret ls hl hw
  obtain ⟨hx, hb, hml, hown, hts, hK, hA, hr, hlk⟩ := id X
  have hl : lv_has ls 2 [(0, .int x), (1, .int y)] := hl
  refine lv_iload_n (pc := 0) hx hb dJ0_checkIndex_df160_0 rfl (lv_at hl 0 rfl) ?_
  refine lv_iload_n (pc := 1) hx hb dJ0_checkIndex_df160_1 rfl (lv_at hl 1 rfl) ?_
  have key : ∀ v : Value, (v = .null ∨ ∃ t, v = .ref t) → W p l e rmJ0_check s m args below meth c s.heap [] 0 0 Q (F0 m 5 ls (v :: .int y :: .int x :: [])) := by
    intro v hv
    refine x_nil (pc := 5) X hw (va_runS (As := [.int x, .int y, v]) (rest := []) ⟨hx, hb, hml, hown, hts⟩ (c_J3_check l D cs x y v hv h1 h2 _) (va_cwS 3 hts gJ0_checkIndex_df160_J3_checkIndex_8e157 rfl rfl rfl (by decide +kernel) ⟨Nat.le_of_ble_eq_true rfl, Nat.le_of_ble_eq_true rfl⟩) ⟨CP_blind, x_preN X [.int x, .int y, v]⟩ rfl rfl hl.1 rfl (lv_room (Nat.le_of_ble_eq_true rfl)) dJ0_checkIndex_df160_5 ⟨Nat.zero_le _, Nat.zero_le _⟩) (fun H locs hw => ?_)
    refine lv_pop (pc := 8) hx hb dJ0_checkIndex_df160_8 rfl ?_
    exact hret _ _ 9 _ hw rfl dJ0_checkIndex_df160_9
  rcases hE.2.2.1 with hZ | ⟨t, hZ⟩
  · refine va_gets (pc := 2) hx hb hZ hw.2.2 hown (hts (.fieldLink RJ0 1053 "jdk/internal/util/Preconditions" "SIOOBE_FORMATTER" "Ljava/util/function/BiFunction;") (List.mem_of_getElem? (i := 1) rfl)) (fun _ h => h) dJ0_checkIndex_df160_2 ?_
    exact key _ (Or.inl rfl)
  · refine va_gets (pc := 2) hx hb hZ hw.2.2 hown (hts (.fieldLink RJ0 1053 "jdk/internal/util/Preconditions" "SIOOBE_FORMATTER" "Ljava/util/function/BiFunction;") (List.mem_of_getElem? (i := 1) rfl)) (fun _ h => h) dJ0_checkIndex_df160_2 ?_
    exact key _ (Or.inr ⟨t, rfl⟩)
/-- the char at k of constant i -/
def sCh (i : Nat) (k : Int32) : Option Int32 := if k < 0 ∨ nI (sLen.getD i 0) ≤ k then none else some ((sByt.getD i []).getD k.toNatClampNeg 0 &&& 255)
theorem sCh_ob {i : Nat} (hi : i < 9) {k v : Int32} (h : sCh i k = some v) : ¬ k < 0 ∧ k < nI (sLen.getD i 0) ∧ vp_in k (sLen.getD i 0) ∧ (sByt.getD i []).getD k.toNatClampNeg 0 &&& 255 = v := by
  unfold sCh at h
  by_cases c : k < 0 ∨ nI (sLen.getD i 0) ≤ k
  · rw [if_pos c] at h; cases h
  · rw [if_neg c] at h
    have hL : sLen.getD i 0 < 2 ^ 31 := (show ∀ i, i < 9 → sLen.getD i 0 < 2 ^ 31 by decide) i hi
    have h1 : ¬ k < 0 := fun z => c (Or.inl z)
    have h2 : k < nI (sLen.getD i 0) := Int32.not_le.mp (fun z => c (Or.inr z))
    refine ⟨h1, h2, ?_, Option.some.inj h⟩
    rw [vp_in_iff]
    have h3 := Int32.lt_iff_toInt_lt.mp h2
    rw [nI_toInt hL] at h3
    have h4 := Int32.le_iff_toInt_le.mp (Int32.not_lt.mp h1)
    exact ⟨by simpa using h4, h3⟩
abbrev rmJ1_charAt : Room := { frames := 2, cells := 0, slots := 0, locals := 43 }
set_option maxHeartbeats 4000000 in
set_option maxRecDepth 100000 in
theorem c_J1_charAt (l : Launch) (D : va_G) (cs : CS) (ad ar : Nat → Nat) (i : Nat) (hi : i < 9) (k v : Int32) (hf : sCh i k = some v) : CTE l D (TY cs) ad ar yJ1_charAt_3b067 wsJ1_charAt_3b067 rmJ1_charAt [.ref (ar i), .int k] [] (some (.int v)) [] := by
  obtain ⟨h1, h2, h3, h4⟩ := sCh_ob hi hf
  refine CTE.ofW (own := RJ1) (cc := cJ1_charAt_3b067) (maxL := 2) (ret := some .char) (by decide) rfl rfl (Nat.le_of_ble_eq_true rfl) ?_
  intro p e s m args below meth c A Q hE X hret ls hl hw
  obtain ⟨hx, hb, hml, hown, hts, hK, hA, hr, hlk⟩ := id X
  have hl : lv_has ls 2 [(0, .ref (ar i)), (1, .int k)] := hl
  refine lv_iload_n (pc := 0) hx hb dJ1_charAt_3b067_0 rfl (lv_at hl 1 rfl) ?_
  refine lv_aload_n (pc := 1) hx hb dJ1_charAt_3b067_1 rfl (lv_at hl 0 rfl) ?_
  refine va_tlen (pc := 2) hx hb (hE.1.1 i hi).2.2.2 hw.2.2 rfl dJ1_charAt_3b067_2 ?_
  refine x_nil (pc := 3) X hw (va_runS (As := [.int k, .int (Int32.ofNat (sLen.getD i 0))]) (rest := []) ⟨hx, hb, hml, hown, hts⟩ (c_J0_check l D cs ad ar k (Int32.ofNat (sLen.getD i 0)) h1 h2 _) (va_cwS 2 hts gJ1_charAt_3b067_J0_checkIndex_df160 rfl rfl rfl (by decide +kernel) ⟨Nat.le_of_ble_eq_true rfl, Nat.le_of_ble_eq_true rfl⟩) ⟨CPE_blind, x_preNE X hE hw [.int k, .int (Int32.ofNat (sLen.getD i 0))]⟩ rfl rfl hl.1 rfl (lv_room (Nat.le_of_ble_eq_true rfl)) dJ1_charAt_3b067_3 ⟨Nat.zero_le _, Nat.zero_le _⟩) (fun H locs hw => ?_)
  refine lv_aload_n (pc := 6) hx hb dJ1_charAt_3b067_6 rfl (lv_at hl 0 rfl) ?_
  refine lv_iload_n (pc := 7) hx hb dJ1_charAt_3b067_7 rfl (lv_at hl 1 rfl) ?_
  refine va_tb (pc := 8) hx hb (hE.1.1 i hi).2.2.2 hw.2.2 h3 rfl dJ1_charAt_3b067_8 ?_
  refine lv_sipush (pc := 9) (v := 255) hx hb dJ1_charAt_3b067_9 (by decide) ?_
  refine lv_iand (pc := 12) hx hb dJ1_charAt_3b067_12 ?_
  refine lv_i2c (pc := 13) hx hb dJ1_charAt_3b067_13 (sc_c2 _) ?_
  refine x_topi h4.symm ?_
  exact hret _ _ 14 _ hw ⟨_, rfl, by rw [← h4]; exact sc_nar _⟩ dJ1_charAt_3b067_14
abbrev rmJ0_charAt : Room := { frames := 3, cells := 0, slots := 0, locals := 64 }
set_option maxHeartbeats 4000000 in
set_option maxRecDepth 100000 in
theorem c_J0_charAt (l : Launch) (D : va_G) (cs : CS) (ad ar : Nat → Nat) (i : Nat) (hi : i < 9) (k v : Int32) (hf : sCh i k = some v) : CTE l D (TY cs) ad ar yJ0_charAt_5068e wsJ0_charAt_5068e rmJ0_charAt [.ref (ad i), .int k] [] (some (.int v)) [] := by
  obtain ⟨h1, h2, h3, h4⟩ := sCh_ob hi hf
  refine CTE.ofW (own := RJ0) (cc := cJ0_charAt_5068e) (maxL := 2) (ret := some .char) (by decide) rfl rfl (Nat.le_of_ble_eq_true rfl) ?_
  intro p e s m args below meth c A Q hE X hret ls hl hw
  obtain ⟨hx, hb, hml, hown, hts, hK, hA, hr, hlk⟩ := id X
  have hl : lv_has ls 2 [(0, .ref (ad i)), (1, .int k)] := hl
  refine lv_aload_n (pc := 0) hx hb dJ0_charAt_5068e_0 rfl (lv_at hl 0 rfl) ?_
  refine x_nil (pc := 1) X hw (va_runV (As := []) (rest := []) ⟨hx, hb, hml, hown, hts⟩ (c_J0_isLatin1 l D cs ad ar i hi _) (cwV 0 hts gJ0_charAt_5068e_J0_isLatin1_aae02 rfl rfl rfl (by decide +kernel) ⟨Nat.le_of_ble_eq_true rfl, Nat.le_of_ble_eq_true rfl⟩) ⟨CPE_blind, vk_recv hE.1 hi hw.2.2, x_preNE X hE hw [.ref (ad i)]⟩ rfl rfl hl.1 rfl (lv_room (Nat.le_of_ble_eq_true rfl)) dJ0_charAt_5068e_1 ⟨Nat.zero_le _, Nat.zero_le _⟩) (fun H locs hw => ?_)
  refine lv_if_eq (pc := 4) (tgt := 16) hx hb dJ0_charAt_5068e_4 (by decide) (fun c1 => absurd c1 (by decide)) (fun c1 => ?_)
  refine lv_aload_n (pc := 7) hx hb dJ0_charAt_5068e_7 rfl (lv_at hl 0 rfl) ?_
  refine vk_getf (pc := 8) hx hb (hE.1.1 i hi).2.2.1 hw.2.2 hown (hts (.fieldLink RJ0 9 "java/lang/String" "value" "[B") (List.mem_of_getElem? (i := 1) rfl)) (fun _ h => h) dJ0_charAt_5068e_8 ?_
  refine lv_iload_n (pc := 11) hx hb dJ0_charAt_5068e_11 rfl (lv_at hl 1 rfl) ?_
  refine x_nil (pc := 12) X hw (va_runS (As := [.ref (ar i), .int k]) (rest := []) ⟨hx, hb, hml, hown, hts⟩ (c_J1_charAt l D cs ad ar i hi k v hf _) (va_cwS 2 hts gJ0_charAt_5068e_J1_charAt_3b067 rfl rfl rfl (by decide +kernel) ⟨Nat.le_of_ble_eq_true rfl, Nat.le_of_ble_eq_true rfl⟩) ⟨CPE_blind, x_preNE X hE hw [.ref (ar i), .int k]⟩ rfl rfl hl.1 rfl (lv_room (Nat.le_of_ble_eq_true rfl)) dJ0_charAt_5068e_12 ⟨Nat.zero_le _, Nat.zero_le _⟩) (fun H locs hw => ?_)
  exact hret _ _ 15 _ hw ⟨_, rfl, by rw [← h4]; exact sc_nar _⟩ dJ0_charAt_5068e_15
