/-! pure words: failing steps, loops -/
def bn {α β : Type} (a : α) (k : α → Option β) : Option β := k a
theorem bn_ob {α β : Type} {a : α} {k : α → Option β} {r : β} (h : bn a k = some r) : ∃ z, z = a ∧ k z = some r := ⟨a, rfl, h⟩
def b1 {α β : Type} (o : Option α) (k : α → Option β) : Option β := match o with
  | none => none
  | some a => k a
theorem b1_ob {α β : Type} {o : Option α} {k : α → Option β} {r : β} (h : b1 o k = some r) : ∃ z, o = some z ∧ k z = some r := by
  cases o with
  | none => cases h
  | some a => exact ⟨a, rfl, h⟩
theorem b1_some {α β : Type} (a : α) (k : α → Option β) : b1 (some a) k = k a := rfl
theorem b1_none {α β : Type} (k : α → Option β) : b1 none k = none := rfl
def b2 {α0 α1 β : Type} (o : Option (α0 × α1)) (k : α0 → α1 → Option β) : Option β := match o with
  | none => none
  | some a => k a.1 a.2
theorem b2_ob {α0 α1 β : Type} {o : Option (α0 × α1)} {k : α0 → α1 → Option β} {r : β} (h : b2 o k = some r) : ∃ z0 z1, o = some (z0, z1) ∧ k z0 z1 = some r := by
  cases o with
  | none => cases h
  | some a => exact ⟨a.1, a.2, rfl, h⟩
theorem b2_some {α0 α1 β : Type} (z0 : α0) (z1 : α1) (k : α0 → α1 → Option β) : b2 (some (z0, z1)) k = k z0 z1 := rfl
theorem b2_none {α0 α1 β : Type} (k : α0 → α1 → Option β) : b2 none k = none := rfl
def b3 {α0 α1 α2 β : Type} (o : Option (α0 × α1 × α2)) (k : α0 → α1 → α2 → Option β) : Option β := match o with
  | none => none
  | some a => k a.1 a.2.1 a.2.2
theorem b3_ob {α0 α1 α2 β : Type} {o : Option (α0 × α1 × α2)} {k : α0 → α1 → α2 → Option β} {r : β} (h : b3 o k = some r) : ∃ z0 z1 z2, o = some (z0, z1, z2) ∧ k z0 z1 z2 = some r := by
  cases o with
  | none => cases h
  | some a => exact ⟨a.1, a.2.1, a.2.2, rfl, h⟩
theorem b3_some {α0 α1 α2 β : Type} (z0 : α0) (z1 : α1) (z2 : α2) (k : α0 → α1 → α2 → Option β) : b3 (some (z0, z1, z2)) k = k z0 z1 z2 := rfl
theorem b3_none {α0 α1 α2 β : Type} (k : α0 → α1 → α2 → Option β) : b3 none k = none := rfl
def b4 {α0 α1 α2 α3 β : Type} (o : Option (α0 × α1 × α2 × α3)) (k : α0 → α1 → α2 → α3 → Option β) : Option β := match o with
  | none => none
  | some a => k a.1 a.2.1 a.2.2.1 a.2.2.2
theorem b4_ob {α0 α1 α2 α3 β : Type} {o : Option (α0 × α1 × α2 × α3)} {k : α0 → α1 → α2 → α3 → Option β} {r : β} (h : b4 o k = some r) : ∃ z0 z1 z2 z3, o = some (z0, z1, z2, z3) ∧ k z0 z1 z2 z3 = some r := by
  cases o with
  | none => cases h
  | some a => exact ⟨a.1, a.2.1, a.2.2.1, a.2.2.2, rfl, h⟩
theorem b4_some {α0 α1 α2 α3 β : Type} (z0 : α0) (z1 : α1) (z2 : α2) (z3 : α3) (k : α0 → α1 → α2 → α3 → Option β) : b4 (some (z0, z1, z2, z3)) k = k z0 z1 z2 z3 := rfl
theorem b4_none {α0 α1 α2 α3 β : Type} (k : α0 → α1 → α2 → α3 → Option β) : b4 none k = none := rfl
def b5 {α0 α1 α2 α3 α4 β : Type} (o : Option (α0 × α1 × α2 × α3 × α4)) (k : α0 → α1 → α2 → α3 → α4 → Option β) : Option β := match o with
  | none => none
  | some a => k a.1 a.2.1 a.2.2.1 a.2.2.2.1 a.2.2.2.2
theorem b5_ob {α0 α1 α2 α3 α4 β : Type} {o : Option (α0 × α1 × α2 × α3 × α4)} {k : α0 → α1 → α2 → α3 → α4 → Option β} {r : β} (h : b5 o k = some r) : ∃ z0 z1 z2 z3 z4, o = some (z0, z1, z2, z3, z4) ∧ k z0 z1 z2 z3 z4 = some r := by
  cases o with
  | none => cases h
  | some a => exact ⟨a.1, a.2.1, a.2.2.1, a.2.2.2.1, a.2.2.2.2, rfl, h⟩
theorem b5_some {α0 α1 α2 α3 α4 β : Type} (z0 : α0) (z1 : α1) (z2 : α2) (z3 : α3) (z4 : α4) (k : α0 → α1 → α2 → α3 → α4 → Option β) : b5 (some (z0, z1, z2, z3, z4)) k = k z0 z1 z2 z3 z4 := rfl
theorem b5_none {α0 α1 α2 α3 α4 β : Type} (k : α0 → α1 → α2 → α3 → α4 → Option β) : b5 none k = none := rfl
def b6 {α0 α1 α2 α3 α4 α5 β : Type} (o : Option (α0 × α1 × α2 × α3 × α4 × α5)) (k : α0 → α1 → α2 → α3 → α4 → α5 → Option β) : Option β := match o with
  | none => none
  | some a => k a.1 a.2.1 a.2.2.1 a.2.2.2.1 a.2.2.2.2.1 a.2.2.2.2.2
theorem b6_ob {α0 α1 α2 α3 α4 α5 β : Type} {o : Option (α0 × α1 × α2 × α3 × α4 × α5)} {k : α0 → α1 → α2 → α3 → α4 → α5 → Option β} {r : β} (h : b6 o k = some r) : ∃ z0 z1 z2 z3 z4 z5, o = some (z0, z1, z2, z3, z4, z5) ∧ k z0 z1 z2 z3 z4 z5 = some r := by
  cases o with
  | none => cases h
  | some a => exact ⟨a.1, a.2.1, a.2.2.1, a.2.2.2.1, a.2.2.2.2.1, a.2.2.2.2.2, rfl, h⟩
theorem b6_some {α0 α1 α2 α3 α4 α5 β : Type} (z0 : α0) (z1 : α1) (z2 : α2) (z3 : α3) (z4 : α4) (z5 : α5) (k : α0 → α1 → α2 → α3 → α4 → α5 → Option β) : b6 (some (z0, z1, z2, z3, z4, z5)) k = k z0 z1 z2 z3 z4 z5 := rfl
theorem b6_none {α0 α1 α2 α3 α4 α5 β : Type} (k : α0 → α1 → α2 → α3 → α4 → α5 → Option β) : b6 none k = none := rfl
def b7 {α0 α1 α2 α3 α4 α5 α6 β : Type} (o : Option (α0 × α1 × α2 × α3 × α4 × α5 × α6)) (k : α0 → α1 → α2 → α3 → α4 → α5 → α6 → Option β) : Option β := match o with
  | none => none
  | some a => k a.1 a.2.1 a.2.2.1 a.2.2.2.1 a.2.2.2.2.1 a.2.2.2.2.2.1 a.2.2.2.2.2.2
theorem b7_ob {α0 α1 α2 α3 α4 α5 α6 β : Type} {o : Option (α0 × α1 × α2 × α3 × α4 × α5 × α6)} {k : α0 → α1 → α2 → α3 → α4 → α5 → α6 → Option β} {r : β} (h : b7 o k = some r) : ∃ z0 z1 z2 z3 z4 z5 z6, o = some (z0, z1, z2, z3, z4, z5, z6) ∧ k z0 z1 z2 z3 z4 z5 z6 = some r := by
  cases o with
  | none => cases h
  | some a => exact ⟨a.1, a.2.1, a.2.2.1, a.2.2.2.1, a.2.2.2.2.1, a.2.2.2.2.2.1, a.2.2.2.2.2.2, rfl, h⟩
theorem b7_some {α0 α1 α2 α3 α4 α5 α6 β : Type} (z0 : α0) (z1 : α1) (z2 : α2) (z3 : α3) (z4 : α4) (z5 : α5) (z6 : α6) (k : α0 → α1 → α2 → α3 → α4 → α5 → α6 → Option β) : b7 (some (z0, z1, z2, z3, z4, z5, z6)) k = k z0 z1 z2 z3 z4 z5 z6 := rfl
theorem b7_none {α0 α1 α2 α3 α4 α5 α6 β : Type} (k : α0 → α1 → α2 → α3 → α4 → α5 → α6 → Option β) : b7 none k = none := rfl
def b8 {α0 α1 α2 α3 α4 α5 α6 α7 β : Type} (o : Option (α0 × α1 × α2 × α3 × α4 × α5 × α6 × α7)) (k : α0 → α1 → α2 → α3 → α4 → α5 → α6 → α7 → Option β) : Option β := match o with
  | none => none
  | some a => k a.1 a.2.1 a.2.2.1 a.2.2.2.1 a.2.2.2.2.1 a.2.2.2.2.2.1 a.2.2.2.2.2.2.1 a.2.2.2.2.2.2.2
theorem b8_ob {α0 α1 α2 α3 α4 α5 α6 α7 β : Type} {o : Option (α0 × α1 × α2 × α3 × α4 × α5 × α6 × α7)} {k : α0 → α1 → α2 → α3 → α4 → α5 → α6 → α7 → Option β} {r : β} (h : b8 o k = some r) : ∃ z0 z1 z2 z3 z4 z5 z6 z7, o = some (z0, z1, z2, z3, z4, z5, z6, z7) ∧ k z0 z1 z2 z3 z4 z5 z6 z7 = some r := by
  cases o with
  | none => cases h
  | some a => exact ⟨a.1, a.2.1, a.2.2.1, a.2.2.2.1, a.2.2.2.2.1, a.2.2.2.2.2.1, a.2.2.2.2.2.2.1, a.2.2.2.2.2.2.2, rfl, h⟩
theorem b8_some {α0 α1 α2 α3 α4 α5 α6 α7 β : Type} (z0 : α0) (z1 : α1) (z2 : α2) (z3 : α3) (z4 : α4) (z5 : α5) (z6 : α6) (z7 : α7) (k : α0 → α1 → α2 → α3 → α4 → α5 → α6 → α7 → Option β) : b8 (some (z0, z1, z2, z3, z4, z5, z6, z7)) k = k z0 z1 z2 z3 z4 z5 z6 z7 := rfl
theorem b8_none {α0 α1 α2 α3 α4 α5 α6 α7 β : Type} (k : α0 → α1 → α2 → α3 → α4 → α5 → α6 → α7 → Option β) : b8 none k = none := rfl
theorem ipos {α : Type} {c : Prop} {hd : Decidable c} {x y r : α} (h : c) (hf : @ite α c hd x y = r) : x = r := (if_pos h).symm.trans hf
theorem ineg {α : Type} {c : Prop} {hd : Decidable c} {x y r : α} (h : ¬ c) (hf : @ite α c hd x y = r) : y = r := (if_neg h).symm.trans hf
def rdI (n : Nat) (f : Nat → Int32) (i : Int32) : Option Int32 := if i < 0 ∨ n ≤ i.toNatClampNeg then none else some (f i.toNatClampNeg)
def rdL (n : Nat) (f : Nat → Int64) (i : Int32) : Option Int64 := if i < 0 ∨ n ≤ i.toNatClampNeg then none else some (f i.toNatClampNeg)
def wrI (n : Nat) (f : Nat → Int32) (i x : Int32) : Option (Nat → Int32) := if i < 0 ∨ n ≤ i.toNatClampNeg then none else some (upd f i.toNatClampNeg x)
def wrL (n : Nat) (f : Nat → Int64) (i : Int32) (x : Int64) : Option (Nat → Int64) := if i < 0 ∨ n ≤ i.toNatClampNeg then none else some (vp_updL f i.toNatClampNeg x)
theorem rdI_ob {n : Nat} {f : Nat → Int32} {i v : Int32} (h : rdI n f i = some v) : vp_in i n ∧ f i.toNatClampNeg = v := by
  unfold rdI at h
  by_cases c : i < 0 ∨ n ≤ i.toNatClampNeg
  · rw [if_pos c] at h; cases h
  · rw [if_neg c] at h; exact ⟨c, Option.some.inj h⟩
theorem rdL_ob {n : Nat} {f : Nat → Int64} {i : Int32} {v : Int64} (h : rdL n f i = some v) : vp_in i n ∧ f i.toNatClampNeg = v := by
  unfold rdL at h
  by_cases c : i < 0 ∨ n ≤ i.toNatClampNeg
  · rw [if_pos c] at h; cases h
  · rw [if_neg c] at h; exact ⟨c, Option.some.inj h⟩
theorem wrI_ob {n : Nat} {f g : Nat → Int32} {i x : Int32} (h : wrI n f i x = some g) : vp_in i n ∧ upd f i.toNatClampNeg x = g := by
  unfold wrI at h
  by_cases c : i < 0 ∨ n ≤ i.toNatClampNeg
  · rw [if_pos c] at h; cases h
  · rw [if_neg c] at h; exact ⟨c, Option.some.inj h⟩
theorem wrL_ob {n : Nat} {f g : Nat → Int64} {i : Int32} {x : Int64} (h : wrL n f i x = some g) : vp_in i n ∧ vp_updL f i.toNatClampNeg x = g := by
  unfold wrL at h
  by_cases c : i < 0 ∨ n ≤ i.toNatClampNeg
  · rw [if_pos c] at h; cases h
  · rw [if_neg c] at h; exact ⟨c, Option.some.inj h⟩
def dvI (x y : Int32) : Option Int32 := if y = 0 then none else some (x / y)
def rmI (x y : Int32) : Option Int32 := if y = 0 then none else some (x - x / y * y)
def dvL (x y : Int64) : Option Int64 := if y = 0 then none else some (x / y)
def rmL (x y : Int64) : Option Int64 := if y = 0 then none else some (x - x / y * y)
theorem dvI_ob {x y v : Int32} (h : dvI x y = some v) : ¬ y = 0 ∧ x / y = v := by
  unfold dvI at h
  by_cases c : y = 0
  · rw [if_pos c] at h; cases h
  · rw [if_neg c] at h; exact ⟨c, Option.some.inj h⟩
theorem rmI_ob {x y v : Int32} (h : rmI x y = some v) : ¬ y = 0 ∧ x - x / y * y = v := by
  unfold rmI at h
  by_cases c : y = 0
  · rw [if_pos c] at h; cases h
  · rw [if_neg c] at h; exact ⟨c, Option.some.inj h⟩
theorem dvL_ob {x y v : Int64} (h : dvL x y = some v) : ¬ y = 0 ∧ x / y = v := by
  unfold dvL at h
  by_cases c : y = 0
  · rw [if_pos c] at h; cases h
  · rw [if_neg c] at h; exact ⟨c, Option.some.inj h⟩
theorem rmL_ob {x y v : Int64} (h : rmL x y = some v) : ¬ y = 0 ∧ x - x / y * y = v := by
  unfold rmL at h
  by_cases c : y = 0
  · rw [if_pos c] at h; cases h
  · rw [if_neg c] at h; exact ⟨c, Option.some.inj h⟩
/-- a number that is 0 or 1 -/
def ckB (x : Int32) : Option Int32 := if x = 0 then some 0 else if x = 1 then some 1 else none
theorem ckB_ob {x v : Int32} (h : ckB x = some v) : x = v ∧ (v = 0 ∨ v = 1) := by
  unfold ckB at h
  by_cases c : x = 0
  · rw [if_pos c] at h; cases h; exact ⟨c, Or.inl rfl⟩
  · rw [if_neg c] at h
    by_cases c2 : x = 1
    · rw [if_pos c2] at h; cases h; exact ⟨c2, Or.inr rfl⟩
    · rw [if_neg c2] at h; cases h
theorem ckB_nar {v : Int32} (h : v = 0 ∨ v = 1) : narrow .boolean (.int v) = .int v := by
  rcases h with rfl | rfl <;> decide +kernel
def loopF {σ ρ : Type} (B : σ → Option (σ ⊕ ρ)) : Nat → σ → Option ρ
  | 0, _ => none
  | n + 1, s => match B s with
    | none => none
    | some (.inl s2) => loopF B n s2
    | some (.inr r) => some r
def lpK {σ ρ : Type} (B : σ → Option (σ ⊕ ρ)) (n : Nat) (r : ρ) (x : σ ⊕ ρ) : Prop := match x with
  | .inl s2 => loopF B n s2 = some r
  | .inr q => q = r
theorem loopF_z {σ ρ : Type} {B : σ → Option (σ ⊕ ρ)} {s : σ} {r : ρ} (h : loopF B 0 s = some r) : False := by cases h
theorem loopF_ob {σ ρ : Type} {B : σ → Option (σ ⊕ ρ)} {n : Nat} {s : σ} {r : ρ} (h : loopF B (n + 1) s = some r) : ∃ x, B s = some x ∧ lpK B n r x := by
  unfold loopF at h
  cases hB : B s with
  | none => rw [hB] at h; cases h
  | some x =>
    rw [hB] at h
    cases x with
    | inl s2 => exact ⟨_, rfl, h⟩
    | inr q => exact ⟨_, rfl, Option.some.inj h⟩
theorem loopF_in {σ ρ : Type} {B : σ → Option (σ ⊕ ρ)} {n : Nat} {s s2 : σ} (h : B s = some (.inl s2)) : loopF B (n + 1) s = loopF B n s2 := by
  rw [loopF, h]
theorem loopF_out {σ ρ : Type} {B : σ → Option (σ ⊕ ρ)} {n : Nat} {s : σ} {r : ρ} (h : B s = some (.inr r)) : loopF B (n + 1) s = some r := by
  rw [loopF, h]
/-- the fuel of every loop -/
def FU : Nat := 100000
abbrev PS : Type := (Nat → Int32) × (Nat → Nat → Int32) × (Nat → Nat → Int64)
def sI (S : PS) (k : Nat) (v : Int32) : PS := (upd S.1 k v, S.2)
def sA (S : PS) (k : Nat) (f : Nat → Int32) : PS := (S.1, va_up S.2.1 k f, S.2.2)
def sL (S : PS) (k : Nat) (f : Nat → Int64) : PS := (S.1, S.2.1, va_up S.2.2 k f)
def wA (n : Nat) (S : PS) (k : Nat) (i x : Int32) : Option PS := if i < 0 ∨ n ≤ i.toNatClampNeg then none else some (sA S k (upd (S.2.1 k) i.toNatClampNeg x))
def wL (n : Nat) (S : PS) (k : Nat) (i : Int32) (x : Int64) : Option PS := if i < 0 ∨ n ≤ i.toNatClampNeg then none else some (sL S k (vp_updL (S.2.2 k) i.toNatClampNeg x))
theorem wA_ob {n : Nat} {S S1 : PS} {k : Nat} {i x : Int32} (h : wA n S k i x = some S1) : vp_in i n ∧ S1 = sA S k (upd (S.2.1 k) i.toNatClampNeg x) := by
  unfold wA at h
  by_cases c : i < 0 ∨ n ≤ i.toNatClampNeg
  · rw [if_pos c] at h; cases h
  · rw [if_neg c] at h; exact ⟨c, (Option.some.inj h).symm⟩
theorem wL_ob {n : Nat} {S S1 : PS} {k : Nat} {i : Int32} {x : Int64} (h : wL n S k i x = some S1) : vp_in i n ∧ S1 = sL S k (vp_updL (S.2.2 k) i.toNatClampNeg x) := by
  unfold wL at h
  by_cases c : i < 0 ∨ n ≤ i.toNatClampNeg
  · rw [if_pos c] at h; cases h
  · rw [if_neg c] at h; exact ⟨c, (Option.some.inj h).symm⟩
def lcm3 (x y : Int64) : Int32 := if x < y then -1 else if x = y then 0 else 1

/-! what stays fixed in a walk; the world; contracts that tell answer and world behind -/
def FX (D : va_G) (tys : List (ClassId × FieldType)) (p : Program) (s : State) (m : MethodId) (args : Array Value) (meth : Method) (c : Code) (cc : ByteArray) (nL : Nat) (Ts : List Cond) (own : String) (A : Nat → Prop) (rt : Option FieldType) : Prop :=
  p.tables.exec = Jvm.exec ∧ c.code = cc ∧ c.maxLocals = nL ∧ s.vm.findClass own = some m.cls ∧ (∀ w ∈ Ts, w.before args s = true) ∧ va_K D vwCl tys s ∧ (∀ q, s.heap.size ≤ q → A q) ∧ meth.sig.returnType = rt ∧ meth.locks = false
def WD (D : va_G) (A : Nat → Prop) (s : State) (ws : va_W) (H : Heap) (locs : List Loc) : Prop := va_P D vwCl ws H ∧ va_D A ws ∧ va_S A s.heap H locs
def CP (D : va_G) (tys : List (ClassId × FieldType)) (av : List Value) (w0 : va_W) (sz : Nat) : Array Value → State → Prop := va_Pc av (fun U => U.heap.size = sz ∧ va_P D vwCl w0 U.heap ∧ va_K D vwCl tys U ∧ va_D (fun _ => True) w0)
def CQ (D : va_G) (tys : List (ClassId × FieldType)) (w0 : va_W) (sz : Nat) (r : Option Value) (w1 : va_W) : Array Value → State → Outcome → State → Prop := fun _ st oc t => oc = .returned r ∧ (va_P D vwCl w1 t.heap ∧ va_K D vwCl tys t ∧ va_D (va_A w0 sz) w1) ∧ va_F (va_A w0 sz) st t
def CT (l : Launch) (D : va_G) (tys : List (ClassId × FieldType)) (y : MethodName) (wsy : List Cond) (rm : Room) (av : List Value) (w0 : va_W) (r : Option Value) (w1 : va_W) : Prop := ∀ sz, Met l y wsy rm (CP D tys av w0 sz) (CQ D tys w0 sz r w1) 0 0 (va_A w0 sz)
def RetOk (ret : Option FieldType) (r : Option Value) : Prop := match r with
  | none => ret = none
  | some (.int v) => ∃ ty, ret = some ty ∧ narrow ty (.int v) = .int v
  | some (.long _) => ret = some .long
  | some (.ref _) => ∃ n, ret = some (.object n)
  | _ => False
def retOp (r : Option Value) : Instr := match r with
  | none => .return_
  | some (.int _) => .ireturn
  | some (.long _) => .lreturn
  | _ => .areturn
theorem CP_blind {D : va_G} {tys : List (ClassId × FieldType)} {av : List Value} {w0 : va_W} {sz : Nat} : FrameBlind (CP D tys av w0 sz) := fun a U g mk q => by
  obtain ⟨q0, q1, qP, qK, qD⟩ := q
  exact ⟨q0, q1, qP, va_K.moved (u := U) (U := U.calling g mk a) (Vm.Alike.refl U.vm) qK, qD⟩
theorem fm_of {α : Type} {is : List Nat} {f : Nat → Option α} {l : List α} (h : is.map f = l.map some) : is.filterMap f = l := by
  induction is generalizing l with
  | nil => cases l with
    | nil => rfl
    | cons a l => cases h
  | cons i is ih => cases l with
    | nil => cases h
    | cons a l =>
      rw [List.map_cons, List.map_cons] at h
      obtain ⟨h1, h2⟩ := List.cons.inj h
      rw [List.filterMap_cons, h1, ih h2]
theorem CT.ofW {l : Launch} {D : va_G} {tys : List (ClassId × FieldType)} {y : MethodName} {wsy ws' : List Cond} {rm : Room} {av : List Value} {w0 w1 : va_W} {r : Option Value} {cc : ByteArray} {maxL : Nat} {ret : Option FieldType} {own : String} (hy : plainName y.cls = true) (hw : wsy = Cond.code y cc maxL ret :: ws') (hown : y.cls = own) (hlen : (lg_sl av).length ≤ maxL)
    (body : ∀ (p : Program) (e : Env) (s : State) (m : MethodId) (args : Array Value) (below : List Frame) (meth : Method) (c : Code) (A : Nat → Prop) (Q : State → Prop), FX D tys p s m args meth c cc maxL wsy own A ret → (∀ (H : Heap) (locs : List Loc) (pc : Nat) (ls : Array Slot), WD D A s w1 H locs → RetOk ret r → decode cc pc = .ok (retOp r, 1) → W p l e rm s m args below meth c H locs 0 0 Q (F0 m pc ls r.toList)) → ∀ ls : Array Slot, lv_has ls maxL (lv_args 0 av) → WD D A s w0 s.heap [] → W p l e rm s m args below meth c s.heap [] 0 0 Q (F0 m 0 ls [])) : CT l D tys y wsy rm av w0 r w1 := by
  intro sz
  refine Met.ofW (cc := cc) (maxL := maxL) (ret := ret) hy hw ?_
  intro p e s m args below meth c s₁ B hml hv
  obtain ⟨rfl, hsz, hP, hK, hD0⟩ := hv
  have hlk := B.notSynchronized
  subst hsz
  subst hown
  have hD := hD0.self (sz := s.heap.size)
  rw [lg_entry_eq]
  refine body p e s m av.toArray below meth c (va_A w0 s.heap.size) _ ⟨B.exec, B.bytes, hml, findClass_of_methodNamed B.named, atoms_spec (ws := wsy) B.pre, hK, fun q h => Or.inr h, B.returns, hlk⟩ ?_ _ (lv_entry av hlen) ⟨hP, hD, va_S.rf⟩
  intro H locs pc ls hw1 hro hdg
  have hq : ∀ t : State, t.heap = H → s.WarmedH t.vm → CQ D tys w0 s.heap.size r w1 av.toArray s (.returned r) t := fun t ht hW => ⟨rfl, ⟨by rw [ht]; exact hw1.1, va_K.moved hW.alike hK, hw1.2.1⟩, hw1.2.2.F ht⟩
  match r, hro, hdg, hq with
  | none, hro, hdg, hq => exact W.vret B.exec B.bytes (B.returns.trans hro) hq hw1.2.2.2.2 hdg
  | some (.int v), hro, hdg, hq =>
    obtain ⟨ty, h1, h2⟩ := hro
    exact W.zret B.exec B.bytes (B.returns.trans h1) h2 hq hw1.2.2.2.2 hdg
  | some (.long v), hro, hdg, hq => exact W.lret B.exec B.bytes (B.returns.trans hro) hq hw1.2.2.2.2 hdg
  | some (.ref a), hro, hdg, hq =>
    obtain ⟨n, h1⟩ := hro
    exact W.aret B.exec B.bytes (B.returns.trans h1) (Or.inl ⟨n, rfl⟩) (Or.inr ⟨a, rfl⟩) hq hw1.2.2.2.2 hdg
section XW
variable {p : Program} {l : Launch} {e : Env} {R : Room} {s : State} {m : MethodId} {args : Array Value} {below : List Frame} {meth : Method} {c : Code} {H : Heap} {locs : List Loc} {cells slots : Nat} {Q : State → Prop} {D : va_G} {tys : List (ClassId × FieldType)} {A : Nat → Prop} {ws : va_W} {cc : ByteArray} {nL : Nat} {Ts : List Cond} {own : String} {rt : Option FieldType} {pc : Nat} {ls : Array Slot} {rest : List Value}
theorem x_topi {x y : Int32} (h : y = x) (k : W p l e R s m args below meth c H locs cells slots Q (F0 m pc ls (.int y :: rest))) : W p l e R s m args below meth c H locs cells slots Q (F0 m pc ls (.int x :: rest)) := h ▸ k
theorem x_topl {x y : Int64} (h : y = x) (k : W p l e R s m args below meth c H locs cells slots Q (F0 m pc ls (.long y :: rest))) : W p l e R s m args below meth c H locs cells slots Q (F0 m pc ls (.long x :: rest)) := h ▸ k
theorem x_get (X : FX D tys p s m args meth c cc nL Ts own A rt) (hw : WD D A s ws H locs) {C : String} {T : u_T} {N ci index : Nat} (hin : ∀ w ∈ u_ws C T N, w ∈ Ts) (q0 : Nat) {a : Nat} {fs : List Value} (he : ws[q0]? = some (a, .inr (ci, fs))) (hc : vwCl[ci]? = some (C, T, N)) (k : Nat) (hk : k < N) (hlk : Cond.fieldLink own index (T k).1 (T k).2.1 (T k).2.2.1 ∈ Ts) {v : Value} (hv : fs[k]? = some v) (hdg : decode cc pc = .ok (.getfield index, 3))
    (kk : W p l e R s m args below meth c H locs cells slots Q (F0 m (pc + 3) ls (v :: rest))) : W p l e R s m args below meth c H locs cells slots Q (F0 m pc ls (.ref a :: rest)) :=
  va_get X.1 X.2.1 X.2.2.2.2.1 hin X.2.2.2.1 X.2.2.2.2.2.1 hw.1 q0 he hc k hk (X.2.2.2.2.1 _ hlk) (fun _ h => h) hv hdg kk
theorem x_put (X : FX D tys p s m args meth c cc nL Ts own A rt) (hw : WD D A s ws H locs) {C : String} {T : u_T} {N ci index : Nat} (hin : ∀ w ∈ u_ws C T N, w ∈ Ts) (ty0 : Nat → FieldType) (hty : ∀ k, k < N → parseFieldDescriptor (T k).2.2.1 = some (ty0 k)) (hnm : ∀ a, a < N → ∀ b, b < N → a ≠ b → (T a).2.1 ≠ (T b).2.1) (q0 : Nat) {a : Nat} {fs : List Value} (he : ws[q0]? = some (a, .inr (ci, fs))) (hc : vwCl[ci]? = some (C, T, N)) (k : Nat) (hk : k < N) (hlk : Cond.fieldLink own index (T k).1 (T k).2.1 (T k).2.2.1 ∈ Ts) (hfin : (T k).2.2.2 = false) {v : Value} (hn : narrow (ty0 k) v = v) (hfit : fits (ty0 k) v = true) (hl : k < fs.length) (hdg : decode cc pc = .ok (.putfield index, 3)) {ws2 : va_W} (h2 : ws.set q0 (a, .inr (ci, fs.set k v)) = ws2)
    (kk : ∀ (H1 : Heap) (locs1 : List Loc), WD D A s ws2 H1 locs1 → W p l e R s m args below meth c H1 locs1 cells slots Q (F0 m (pc + 3) ls rest)) : W p l e R s m args below meth c H locs cells slots Q (F0 m pc ls (v :: .ref a :: rest)) :=
  va_put X.1 X.2.1 X.2.2.2.2.1 hin ty0 hty hnm X.2.2.2.1 X.2.2.2.2.2.1 hw.1 hw.2.1 hw.2.2 q0 he hc k hk (X.2.2.2.2.1 _ hlk) (fun _ h => h) hfin (hty k hk) hn hfit hl hdg (fun H1 locs1 hP hD hS => kk H1 locs1 ⟨h2 ▸ hP, h2 ▸ hD, hS⟩)
theorem x_putF (X : FX D tys p s m args meth c cc nL Ts own A rt) (hw : WD D A s ws H locs) {C : String} {T : u_T} {N ci index : Nat} (hin : ∀ w ∈ u_ws C T N, w ∈ Ts) (ty0 : Nat → FieldType) (hty : ∀ k, k < N → parseFieldDescriptor (T k).2.2.1 = some (ty0 k)) (hnm : ∀ a, a < N → ∀ b, b < N → a ≠ b → (T a).2.1 ≠ (T b).2.1) (q0 : Nat) {a : Nat} {fs : List Value} (he : ws[q0]? = some (a, .inr (ci, fs))) (hc : vwCl[ci]? = some (C, T, N)) (k : Nat) (hk : k < N) (hlk : Cond.fieldLink own index (T k).1 (T k).2.1 (T k).2.2.1 ∈ Ts) (hfin : (T k).2.2.2 = true) (hin2 : meth.name = "<init>") (hdecl : (T k).1 = own) {v : Value} (hn : narrow (ty0 k) v = v) (hfit : fits (ty0 k) v = true) (hl : k < fs.length) (hdg : decode cc pc = .ok (.putfield index, 3)) {ws2 : va_W} (h2 : ws.set q0 (a, .inr (ci, fs.set k v)) = ws2)
    (kk : ∀ (H1 : Heap) (locs1 : List Loc), WD D A s ws2 H1 locs1 → W p l e R s m args below meth c H1 locs1 cells slots Q (F0 m (pc + 3) ls rest)) : W p l e R s m args below meth c H locs cells slots Q (F0 m pc ls (v :: .ref a :: rest)) :=
  va_putF X.1 X.2.1 X.2.2.2.2.1 hin ty0 hty hnm X.2.2.2.1 X.2.2.2.2.2.1 hw.1 hw.2.1 hw.2.2 q0 he hc k hk (X.2.2.2.2.1 _ hlk) (fun _ h => h) hfin hin2 hdecl (hty k hk) hn hfit hl hdg (fun H1 locs1 hP hD hS => kk H1 locs1 ⟨h2 ▸ hP, h2 ▸ hD, hS⟩)
theorem x_iald (X : FX D tys p s m args meth c cc nL Ts own A rt) (hw : WD D A s ws H locs) (q0 t0 : Nat) {a : Nat} {cA : ClassId} {n : Nat} {f : Nat → Int32} (ha : ws[q0]? = some (a, .inl (cA, n, .inl f))) (ht : tys[t0]? = some (cA, .int)) {i v : Int32} (hv : rdI n f i = some v) (hdg : decode cc pc = .ok (.iaload, 1))
    (kk : W p l e R s m args below meth c H locs cells slots Q (F0 m (pc + 1) ls (.int v :: rest))) : W p l e R s m args below meth c H locs cells slots Q (F0 m pc ls (.int i :: .ref a :: rest)) := by
  obtain ⟨h1, h2⟩ := rdI_ob hv
  exact va_iald X.1 X.2.1 X.2.2.2.2.2.1 hw.1 q0 t0 ha ht h1 hdg (h2 ▸ kk)
theorem x_zald (X : FX D tys p s m args meth c cc nL Ts own A rt) (hw : WD D A s ws H locs) (q0 t0 : Nat) {a : Nat} {cA : ClassId} {n : Nat} {f : Nat → Int32} (ha : ws[q0]? = some (a, .inl (cA, n, .inl f))) (ht : tys[t0]? = some (cA, .boolean)) {i v : Int32} (hv : rdI n f i = some v) (hdg : decode cc pc = .ok (.baload, 1))
    (kk : W p l e R s m args below meth c H locs cells slots Q (F0 m (pc + 1) ls (.int v :: rest))) : W p l e R s m args below meth c H locs cells slots Q (F0 m pc ls (.int i :: .ref a :: rest)) := by
  obtain ⟨h1, h2⟩ := rdI_ob hv
  exact va_zald X.1 X.2.1 X.2.2.2.2.2.1 hw.1 q0 t0 ha ht h1 hdg (h2 ▸ kk)
theorem x_lald (X : FX D tys p s m args meth c cc nL Ts own A rt) (hw : WD D A s ws H locs) (q0 t0 : Nat) {a : Nat} {cA : ClassId} {n : Nat} {f : Nat → Int64} (ha : ws[q0]? = some (a, .inl (cA, n, .inr (.inl f)))) (ht : tys[t0]? = some (cA, .long)) {i : Int32} {v : Int64} (hv : rdL n f i = some v) (hdg : decode cc pc = .ok (.laload, 1))
    (kk : W p l e R s m args below meth c H locs cells slots Q (F0 m (pc + 1) ls (.long v :: rest))) : W p l e R s m args below meth c H locs cells slots Q (F0 m pc ls (.int i :: .ref a :: rest)) := by
  obtain ⟨h1, h2⟩ := rdL_ob hv
  exact va_lald X.1 X.2.1 X.2.2.2.2.2.1 hw.1 q0 t0 ha ht h1 hdg (h2 ▸ kk)
theorem x_iast (X : FX D tys p s m args meth c cc nL Ts own A rt) (hw : WD D A s ws H locs) (q0 t0 : Nat) {a : Nat} {cA : ClassId} {n : Nat} {f : Nat → Int32} (ha : ws[q0]? = some (a, .inl (cA, n, .inl f))) (ht : tys[t0]? = some (cA, .int)) {i x : Int32} (hi : vp_in i n) (hdg : decode cc pc = .ok (.iastore, 1)) {ws2 : va_W} (h2 : ws.set q0 (a, .inl (cA, n, .inl (upd f i.toNatClampNeg x))) = ws2)
    (kk : ∀ (H1 : Heap) (locs1 : List Loc), WD D A s ws2 H1 locs1 → W p l e R s m args below meth c H1 locs1 cells slots Q (F0 m (pc + 1) ls rest)) : W p l e R s m args below meth c H locs cells slots Q (F0 m pc ls (.int x :: .int i :: .ref a :: rest)) :=
  va_iast X.1 X.2.1 X.2.2.2.2.2.1 hw.1 hw.2.1 hw.2.2 q0 t0 ha ht hi hdg (fun H1 locs1 hP hD hS => kk H1 locs1 ⟨h2 ▸ hP, h2 ▸ hD, hS⟩)
theorem x_zast (X : FX D tys p s m args meth c cc nL Ts own A rt) (hw : WD D A s ws H locs) (q0 t0 : Nat) {a : Nat} {cA : ClassId} {n : Nat} {f : Nat → Int32} (ha : ws[q0]? = some (a, .inl (cA, n, .inl f))) (ht : tys[t0]? = some (cA, .boolean)) {i x : Int32} (hi : vp_in i n) (hdg : decode cc pc = .ok (.bastore, 1)) {ws2 : va_W} (h2 : ws.set q0 (a, .inl (cA, n, .inl (upd f i.toNatClampNeg (vp_nar .boolean x)))) = ws2)
    (kk : ∀ (H1 : Heap) (locs1 : List Loc), WD D A s ws2 H1 locs1 → W p l e R s m args below meth c H1 locs1 cells slots Q (F0 m (pc + 1) ls rest)) : W p l e R s m args below meth c H locs cells slots Q (F0 m pc ls (.int x :: .int i :: .ref a :: rest)) :=
  va_zast X.1 X.2.1 X.2.2.2.2.2.1 hw.1 hw.2.1 hw.2.2 q0 t0 ha ht hi hdg (fun H1 locs1 hP hD hS => kk H1 locs1 ⟨h2 ▸ hP, h2 ▸ hD, hS⟩)
theorem x_last (X : FX D tys p s m args meth c cc nL Ts own A rt) (hw : WD D A s ws H locs) (q0 t0 : Nat) {a : Nat} {cA : ClassId} {n : Nat} {f : Nat → Int64} (ha : ws[q0]? = some (a, .inl (cA, n, .inr (.inl f)))) (ht : tys[t0]? = some (cA, .long)) {i : Int32} {x : Int64} (hi : vp_in i n) (hdg : decode cc pc = .ok (.lastore, 1)) {ws2 : va_W} (h2 : ws.set q0 (a, .inl (cA, n, .inr (.inl (vp_updL f i.toNatClampNeg x)))) = ws2)
    (kk : ∀ (H1 : Heap) (locs1 : List Loc), WD D A s ws2 H1 locs1 → W p l e R s m args below meth c H1 locs1 cells slots Q (F0 m (pc + 1) ls rest)) : W p l e R s m args below meth c H locs cells slots Q (F0 m pc ls (.long x :: .int i :: .ref a :: rest)) :=
  va_last X.1 X.2.1 X.2.2.2.2.2.1 hw.1 hw.2.1 hw.2.2 q0 t0 ha ht hi hdg (fun H1 locs1 hP hD hS => kk H1 locs1 ⟨h2 ▸ hP, h2 ▸ hD, hS⟩)
theorem x_alen (X : FX D tys p s m args meth c cc nL Ts own A rt) (hw : WD D A s ws H locs) (q0 t0 : Nat) {a : Nat} {cA : ClassId} {x : vp_A} (ha : ws[q0]? = some (a, .inl (cA, x))) {ty : FieldType} (ht : tys[t0]? = some (cA, ty)) {v : Int32} (hv : Int32.ofNat x.1 = v) (hdg : decode cc pc = .ok (.arraylength, 1))
    (kk : W p l e R s m args below meth c H locs cells slots Q (F0 m (pc + 1) ls (.int v :: rest))) : W p l e R s m args below meth c H locs cells slots Q (F0 m pc ls (.ref a :: rest)) :=
  va_alen X.1 X.2.1 X.2.2.2.2.2.1 hw.1 q0 t0 ha ht hv hdg kk
/-- behind a call whose world is all of ours -/
theorem x_all {st0 : List Value} {w1 : va_W} {r : Option Value} {a : Array Value} (X : FX D tys p s m args meth c cc nL Ts own A rt) (hw : WD D A s ws H locs) (hr : va_Run p l e R s m args below meth c H locs cells slots 0 0 (F0 m pc ls st0) rest (CQ D tys ws H.size r w1 a) (va_A ws H.size))
    (kk : ∀ (H1 : Heap) (locs1 : List Loc), WD D A s w1 H1 locs1 → W p l e R s m args below meth c H1 locs1 cells slots Q (F0 m (pc + 3) ls (r.toList ++ rest))) : W p l e R s m args below meth c H locs cells slots Q (F0 m pc ls st0) := by
  intro T hT Y
  obtain ⟨v, st₀, t, T', L, h0, Y', hL, e1, e2, ⟨hv, ⟨hP1, hK1, hD1⟩, hz, hk⟩, st⟩ := hr T hT Y
  cases hv
  rw [h0] at hz hk
  have hF : ∀ q, va_A ws H.size q → A q := fun q h => by
    rcases h with ⟨k, e, h⟩ | h
    · exact hw.2.1.2 k (q, e) h
    · exact X.2.2.2.2.2.2.1 q (Nat.le_trans hw.2.2.1 h)
  obtain ⟨t2, a1, b1⟩ := kk T'.heap (locs ++ L) ⟨by rw [e1]; exact hP1, hD1.weaken (fun k q _ h => hF q.1 h), Nat.le_trans hw.2.2.1 (by rw [e1]; exact hz), fun q h1 h2 => by rw [e1, hk q (Nat.lt_of_lt_of_le h1 hw.2.2.1) (fun z => h2 (hF q z))]; exact hw.2.2.2.1 q h1 h2, fun q hq => by
      rcases List.mem_append.mp hq with h | h
      · exact hw.2.2.2.2 q h
      · exact hF _ (hL q h)⟩ T' rfl Y'
  exact ⟨t2, st t2 a1, b1⟩
/-- behind a call that needs no cell -/
theorem x_nil {st0 : List Value} {r : Option Value} {a : Array Value} (X : FX D tys p s m args meth c cc nL Ts own A rt) (hw : WD D A s ws H locs) (hr : va_Run p l e R s m args below meth c H locs cells slots 0 0 (F0 m pc ls st0) rest (CQ D tys [] H.size r [] a) (va_A [] H.size))
    (kk : ∀ (H1 : Heap) (locs1 : List Loc), WD D A s ws H1 locs1 → W p l e R s m args below meth c H1 locs1 cells slots Q (F0 m (pc + 3) ls (r.toList ++ rest))) : W p l e R s m args below meth c H locs cells slots Q (F0 m pc ls st0) := by
  intro T hT Y
  obtain ⟨v, st₀, t, T', L, h0, Y', hL, e1, e2, ⟨hv, ⟨hP1, hK1, hD1⟩, hz, hk⟩, st⟩ := hr T hT Y
  cases hv
  rw [h0] at hz hk
  have hN : ∀ q : Nat, q < H.size → ¬ va_A [] H.size q := fun q h1 h2 => by
    rcases h2 with ⟨k, e, h⟩ | h
    · simp at h
    · exact absurd h1 (Nat.not_lt.mpr h)
  have hF : ∀ q, va_A [] H.size q → A q := fun q h => by
    rcases h with ⟨k, e, h⟩ | h
    · simp at h
    · exact X.2.2.2.2.2.2.1 q (Nat.le_trans hw.2.2.1 h)
  obtain ⟨t2, a1, b1⟩ := kk T'.heap (locs ++ L) ⟨hw.1.kept (fun k q h => by rw [e1]; exact hk q.1 (hw.1 k q h).lt (hN _ (hw.1 k q h).lt)), hw.2.1, Nat.le_trans hw.2.2.1 (by rw [e1]; exact hz), fun q h1 h2 => by rw [e1, hk q (Nat.lt_of_lt_of_le h1 hw.2.2.1) (fun z => h2 (hF q z))]; exact hw.2.2.2.1 q h1 h2, fun q hq => by
      rcases List.mem_append.mp hq with h | h
      · exact hw.2.2.2.2 q h
      · exact hF _ (hL q h)⟩ T' rfl Y'
  exact ⟨t2, st t2 a1, b1⟩
/-- behind a call that gets some of our cells -/
theorem x_cut {st0 : List Value} {w0 w1 wr ws2 : va_W} {r : Option Value} {a : Array Value} (X : FX D tys p s m args meth c cc nL Ts own A rt) (hw : WD D A s ws H locs) (isC isR is2 : List Nat) (hC : isC.map (fun i => ws[i]?) = w0.map some) (hR : isR.map (fun i => ws[i]?) = wr.map some) (hnR : va_nd isR = true) (hdis : ∀ i ∈ isR, i ∉ isC) (h2 : is2.map (fun i => (wr ++ w1)[i]?) = ws2.map some) (hn2 : va_nd is2 = true)
    (hr : va_Run p l e R s m args below meth c H locs cells slots 0 0 (F0 m pc ls st0) rest (CQ D tys w0 H.size r w1 a) (va_A w0 H.size))
    (kk : ∀ (H1 : Heap) (locs1 : List Loc), WD D A s ws2 H1 locs1 → W p l e R s m args below meth c H1 locs1 cells slots Q (F0 m (pc + 3) ls (r.toList ++ rest))) : W p l e R s m args below meth c H locs cells slots Q (F0 m pc ls st0) := by
  intro T hT Y
  obtain ⟨v, st₀, t, T', L, h0, Y', hL, e1, e2, ⟨hv, ⟨hP1, hK1, hD1⟩, hz, hk⟩, st⟩ := hr T hT Y
  cases hv
  rw [h0] at hz hk
  have hF : ∀ q, va_A w0 H.size q → A q := va_free hw.2.1 hw.2.2 X.2.2.2.2.2.2.1 isC hC
  obtain ⟨hP2, hD2⟩ := va_join (wr := wr) (w1 := w1) hw.1 hw.2.1 isC isR hC hR hnR hdis hk hF hP1 hD1
  obtain ⟨t2, a1, b1⟩ := kk T'.heap (locs ++ L) ⟨by rw [e1]; exact hP2.sub is2 (fm_of h2), hD2.sub is2 hn2 h2, Nat.le_trans hw.2.2.1 (by rw [e1]; exact hz), fun q h1 h2 => by rw [e1, hk q (Nat.lt_of_lt_of_le h1 hw.2.2.1) (fun z => h2 (hF q z))]; exact hw.2.2.2.1 q h1 h2, fun q hq => by
      rcases List.mem_append.mp hq with h | h
      · exact hw.2.2.2.2 q h
      · exact hF _ (hL q h)⟩ T' rfl Y'
  exact ⟨t2, st t2 a1, b1⟩
theorem x_preA (X : FX D tys p s m args meth c cc nL Ts own A rt) (hw : WD D A s ws H locs) (av : List Value) : ∀ U : State, U.heap = H → s.WarmedH U.vm → CP D tys av ws H.size av.toArray U := fun U hU hW => ⟨rfl, by rw [hU], by rw [hU]; exact hw.1, va_K.moved hW.alike X.2.2.2.2.2.1, hw.2.1.weaken (fun _ _ _ _ => trivial)⟩
theorem x_preN (X : FX D tys p s m args meth c cc nL Ts own A rt) (av : List Value) : ∀ U : State, U.heap = H → s.WarmedH U.vm → CP D tys av [] H.size av.toArray U := fun U hU hW => ⟨rfl, by rw [hU], fun k q h => by simp at h, va_K.moved hW.alike X.2.2.2.2.2.1, ⟨fun i j p q h => by simp at h, fun k q h => by simp at h⟩⟩
theorem x_preC {w0 : va_W} (X : FX D tys p s m args meth c cc nL Ts own A rt) (hw : WD D A s ws H locs) (isC : List Nat) (hC : isC.map (fun i => ws[i]?) = w0.map some) (hnC : va_nd isC = true) (av : List Value) : ∀ U : State, U.heap = H → s.WarmedH U.vm → CP D tys av w0 H.size av.toArray U := fun U hU hW => ⟨rfl, by rw [hU], by rw [hU]; exact hw.1.sub isC (fm_of hC), va_K.moved hW.alike X.2.2.2.2.2.1, (hw.2.1.sub isC hnC hC).weaken (fun _ _ _ _ => trivial)⟩
end XW
abbrev CS : Type := ClassId × ClassId × ClassId
def TY (cs : CS) : List (ClassId × FieldType) := [(cs.1, .int), (cs.2.1, .long), (cs.2.2, .boolean)]
def wX0 (cs : CS) (a : Nat) (q : Nat → Nat) (S : PS) : va_W := [(a, .inr (0, [.ref (q 0), .int (S.1 1)])), (q 0, .inl (cs.1, 32, .inl (S.2.1 0)))]
def wX1 (cs : CS) (a : Nat) (q : Nat → Nat) (S : PS) : va_W := [(a, .inr (1, [.ref (q 0), .ref (q 1), .ref (q 2), .ref (q 3), .int (S.1 4), .int (S.1 5)])), (q 0, .inl (cs.2.1, 64, .inr (.inl (S.2.2 0)))), (q 1, .inl (cs.2.1, 16, .inr (.inl (S.2.2 1)))), (q 2, .inl (cs.2.1, 4, .inr (.inl (S.2.2 2)))), (q 3, .inl (cs.2.1, 1, .inr (.inl (S.2.2 3))))]
def wX2 (cs : CS) (a : Nat) (q : Nat → Nat) (S : PS) : va_W := [(a, .inr (2, [.int (S.1 0), .ref (q 1), .ref (q 2), .ref (q 3), .int (S.1 4), .int (S.1 5), .ref (q 6), .ref (q 7), .ref (q 8), .ref (q 9), .int (S.1 10)])), (q 1, .inl (cs.1, 20, .inl (S.2.1 1))), (q 2, .inl (cs.1, 20, .inl (S.2.1 2))), (q 3, .inl (cs.1, 60, .inl (S.2.1 3))), (q 6, .inl (cs.1, 6, .inl (S.2.1 6))), (q 7, .inl (cs.1, 6, .inl (S.2.1 7))), (q 8, .inl (cs.1, 8, .inl (S.2.1 8))), (q 9, .inl (cs.2.1, 32, .inr (.inl (S.2.2 9))))]
def wX3 (cs : CS) (a : Nat) (q : Nat → Nat) (S : PS) : va_W := [(a, .inr (3, [.ref (q 0), .int (S.1 1), .int (S.1 2), .int (S.1 3)]))]
def wX4 (cs : CS) (a : Nat) (q : Nat → Nat) (S : PS) : va_W := [(a, .inr (4, [.ref (q 0)])), (q 0, .inl (cs.1, 16, .inl (S.2.1 0)))]
def wX5 (cs : CS) (a : Nat) (q : Nat → Nat) (S : PS) : va_W := [(a, .inr (5, [.ref (q 0), .int (S.1 1)])), (q 0, .inl (cs.2.1, 64, .inr (.inl (S.2.2 0))))]
def wX6 (cs : CS) (a : Nat) (q : Nat → Nat) (S : PS) : va_W := [(a, .inr (6, [.ref (q 0), .int (S.1 1)])), (q 0, .inl (cs.1, 200, .inl (S.2.1 0)))]
def wX7 (cs : CS) (a : Nat) (q : Nat → Nat) (S : PS) : va_W := [(a, .inr (7, [.ref (q 0), .int (S.1 1), .int (S.1 2), .int (S.1 3), .ref (q 4), .ref (q 5), .ref (q 6), .ref (q 7)])), (q 4, .inl (cs.2.1, 32, .inr (.inl (S.2.2 4)))), (q 5, .inl (cs.1, 64, .inl (S.2.1 5))), (q 6, .inl (cs.1, 32, .inl (S.2.1 6))), (q 7, .inl (cs.2.1, 8, .inr (.inl (S.2.2 7))))]
def wX8 (cs : CS) (a : Nat) (q : Nat → Nat) (S : PS) : va_W := [(a, .inr (8, [.int (S.1 0), .int (S.1 1), .int (S.1 2), .ref (q 3), .ref (q 4), .ref (q 5), .ref (q 6), .ref (q 7), .ref (q 8)])), (q 3, .inl (cs.1, 16, .inl (S.2.1 3))), (q 4, .inl (cs.1, 16, .inl (S.2.1 4))), (q 5, .inl (cs.1, 16, .inl (S.2.1 5))), (q 6, .inl (cs.1, 10, .inl (S.2.1 6))), (q 7, .inl (cs.2.1, 8, .inr (.inl (S.2.2 7)))), (q 8, .inl (cs.2.1, 8, .inr (.inl (S.2.2 8))))]
def wX9 (cs : CS) (a : Nat) (q : Nat → Nat) : va_W := [(a, .inr (9, [.ref (q 0), .ref (q 1), .ref (q 2), .ref (q 3), .ref (q 4), .ref (q 5), .ref (q 6), .ref (q 7), .ref (q 8), .ref (q 9)]))]
def wX10 (cs : CS) (a : Nat) (q : Nat → Nat) (S : PS) : va_W := [(a, .inr (10, [.ref (q 0), .int (S.1 1), .ref (q 2), .ref (q 3), .ref (q 4), .ref (q 5), .ref (q 6), .int (S.1 7), .int (S.1 8), .ref (q 9), .int (S.1 10), .int (S.1 11), .int (S.1 12), .int (S.1 13), .int (S.1 14), .ref (q 15), .ref (q 16), .ref (q 17), .int (S.1 18), .ref (q 19), .int (S.1 20), .ref (q 21), .int (S.1 22), .ref (q 23), .ref (q 24), .ref (q 25), .ref (q 26), .ref (q 27), .int (S.1 28), .int (S.1 29), .int (S.1 30), .int (S.1 31), .int (S.1 32), .ref (q 33), .ref (q 34), .ref (q 35), .ref (q 36), .ref (q 37), .ref (q 38)])), (q 0, .inl (cs.1, 200, .inl (S.2.1 0))), (q 2, .inl (cs.1, 40, .inl (S.2.1 2))), (q 3, .inl (cs.1, 40, .inl (S.2.1 3))), (q 4, .inl (cs.1, 40, .inl (S.2.1 4))), (q 5, .inl (cs.1, 40, .inl (S.2.1 5))), (q 6, .inl (cs.1, 40, .inl (S.2.1 6))), (q 9, .inl (cs.1, 20, .inl (S.2.1 9))), (q 15, .inl (cs.1, 16, .inl (S.2.1 15))), (q 16, .inl (cs.1, 16, .inl (S.2.1 16))), (q 17, .inl (cs.1, 16, .inl (S.2.1 17))), (q 19, .inl (cs.1, 10, .inl (S.2.1 19))), (q 21, .inl (cs.1, 32, .inl (S.2.1 21))), (q 23, .inl (cs.1, 2, .inl (S.2.1 23))), (q 24, .inl (cs.1, 12, .inl (S.2.1 24))), (q 25, .inl (cs.1, 12, .inl (S.2.1 25))), (q 26, .inl (cs.1, 12, .inl (S.2.1 26))), (q 27, .inl (cs.1, 12, .inl (S.2.1 27))), (q 33, .inl (cs.1, 8, .inl (S.2.1 33))), (q 34, .inl (cs.1, 2048, .inl (S.2.1 34))), (q 35, .inl (cs.2.2, 32, .inl (S.2.1 35))), (q 36, .inl (cs.1, 32, .inl (S.2.1 36))), (q 37, .inl (cs.2.1, 8, .inr (.inl (S.2.2 37)))), (q 38, .inl (cs.2.1, 8, .inr (.inl (S.2.2 38))))]
