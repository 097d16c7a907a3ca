/-! the greatest lean allowed; the bound -/
theorem alw4 {s a b : Nat} (hs : s ≤ 16) (ha : a ≤ 100) (hb0 : 1 ≤ b) (hb : b ≤ 100) : f_X4_leanAllowed (nI s) (nI a) (nI b) = some (zI (((a * s / b : Nat) : Int) - (((a * s / b + s) % 2 : Nat) : Int))) := by
  have m2 : a * s ≤ 100 * 16 := Nat.mul_le_mul ha hs
  have q1 : a * s / b ≤ a * s := Nat.div_le_self _ _
  unfold f_X4_leanAllowed
  rw [if_pos (show (1 : Int32) ≤ nI b from nI_le (a := 1) hb0 (by omega)), pk_mul, dvI_nI (by omega) (by omega) (by omega), b1_some]
  generalize a * s / b = q at *
  have e1 : (nI q - nI s) &&& 1 = nI ((q + s) % 2) := by
    rw [pk_and (m := 1) _ 1 rfl]
    congr 1
    have : (nI q - nI s).toBitVec.toNat = (2 ^ 32 - s + q) % 2 ^ 32 := by
      rw [Int32.toBitVec_sub, BitVec.toNat_sub]
      show (2 ^ 32 - (BitVec.ofNat 32 s).toNat + (BitVec.ofNat 32 q).toNat) % 2 ^ 32 = _
      rw [BitVec.toNat_ofNat, BitVec.toNat_ofNat, Nat.mod_eq_of_lt (by omega : s < 2 ^ 32), Nat.mod_eq_of_lt (by omega : q < 2 ^ 32)]
    rw [this]
    omega
  rw [e1, ← zI_nat, ← zI_nat]
  unfold zI
  rw [← Int32.ofInt_sub]
/-- lean within a / b, and lean within what is allowed -/
theorem alw_iff {s a b d : Nat} (hb0 : 1 ≤ b) (hd : d % 2 = s % 2) : d * b ≤ a * s ↔ (d : Int) ≤ ((a * s / b : Nat) : Int) - (((a * s / b + s) % 2 : Nat) : Int) := by
  have h1 : d * b ≤ a * s ↔ d ≤ a * s / b := (Nat.le_div_iff_mul_le (by omega)).symm
  rw [h1]
  generalize a * s / b = q
  omega
theorem lsD_par (x u : Nat) : lsD x u % 2 = pop 32 x % 2 := by unfold lsD; omega
def sgI (r u : Nat) : Int := 1 - 2 * (odN u r : Int)
/-- different rows are apart on half of all sets -/
theorem sg_all : ∀ k, k < 5 → ∀ r, r < 2 ^ k → ∀ q, q < 2 ^ k → fb_si (fun u => sgI r u * sgI q u) (2 ^ k) = if q = r then ((2 ^ k : Nat) : Int) else 0 := by decide +kernel
def xI (x r : Nat) : Int := ((x / 2 ^ r % 2 : Nat) : Int)
def chX (x m u : Nat) : Int := fb_si (fun r => xI x r * sgI r u) m
theorem chX_eq (x u : Nat) : ∀ m, chX x m u = ((fb_sm (fun r => x / 2 ^ r % 2) m : Nat) : Int) - 2 * ((fb_sm (fun r => (x / 2 ^ r % 2) * odN u r) m : Nat) : Int)
  | 0 => rfl
  | m + 1 => by
    have ih := chX_eq x u m
    unfold chX at ih ⊢
    rw [fb_si_succ, fb_sm_succ, fb_sm_succ, ih]
    unfold xI sgI
    have h1 := odN_lt u m
    rcases (show x / 2 ^ m % 2 = 0 ∨ x / 2 ^ m % 2 = 1 by omega) with e | e
    · rw [e]; omega
    · rw [e]; omega
theorem si_mulr (c : Int) (f : Nat → Int) (n : Nat) : fb_si (fun k => f k * c) n = fb_si f n * c := by
  have := fb_si_mul c f n
  rw [Int.mul_comm] at this
  rw [← this]
  exact fb_si_cong (fun k _ => Int.mul_comm _ _)
theorem inv_X {k x r : Nat} (hk : k ≤ 4) (hr : r < 2 ^ k) : fb_si (fun u => sgI r u * chX x (2 ^ k) u) (2 ^ k) = xI x r * ((2 ^ k : Nat) : Int) := by
  have e1 : ∀ u, sgI r u * chX x (2 ^ k) u = fb_si (fun q => xI x q * (sgI r u * sgI q u)) (2 ^ k) := fun u => by
    unfold chX
    rw [← fb_si_mul]
    refine fb_si_cong (fun q _ => ?_)
    rw [← Int.mul_assoc, ← Int.mul_assoc, Int.mul_comm (sgI r u)]
  simp only [e1]
  rw [si_swap (fun q u => xI x q * (sgI r u * sgI q u)) (2 ^ k) (2 ^ k)]
  have e2 : ∀ q, q < 2 ^ k → fb_si (fun u => xI x q * (sgI r u * sgI q u)) (2 ^ k) = if q = r then xI x q * ((2 ^ k : Nat) : Int) else 0 := fun q hq => by
    rw [fb_si_mul, sg_all k (by omega) r hr q hq]
    by_cases c : q = r
    · rw [if_pos c, if_pos c]
    · rw [if_neg c, if_neg c, Int.mul_zero]
  rw [fb_si_cong e2]
  exact si_one (fun q => xI x q * ((2 ^ k : Nat) : Int)) (2 ^ k) hr
theorem pars {k x : Nat} (hk : k ≤ 4) : fb_si (fun u => chX x (2 ^ k) u * chX x (2 ^ k) u) (2 ^ k) = ((fb_sm (fun r => x / 2 ^ r % 2) (2 ^ k) : Nat) : Int) * ((2 ^ k : Nat) : Int) := by
  have e1 : ∀ u, chX x (2 ^ k) u * chX x (2 ^ k) u = fb_si (fun r => xI x r * (sgI r u * chX x (2 ^ k) u)) (2 ^ k) := fun u => by
    have : chX x (2 ^ k) u * chX x (2 ^ k) u = fb_si (fun r => xI x r * sgI r u) (2 ^ k) * chX x (2 ^ k) u := rfl
    rw [this, ← si_mulr]
    exact fb_si_cong (fun r _ => Int.mul_assoc _ _ _)
  simp only [e1]
  rw [si_swap (fun r u => xI x r * (sgI r u * chX x (2 ^ k) u)) (2 ^ k) (2 ^ k)]
  have e2 : ∀ r, r < 2 ^ k → fb_si (fun u => xI x r * (sgI r u * chX x (2 ^ k) u)) (2 ^ k) = ((x / 2 ^ r % 2 : Nat) : Int) * ((2 ^ k : Nat) : Int) := fun r hr => by
    rw [fb_si_mul, inv_X hk hr, ← Int.mul_assoc]
    congr 1
    unfold xI
    rcases (show x / 2 ^ r % 2 = 0 ∨ x / 2 ^ r % 2 = 1 by omega) with e | e <;> rw [e] <;> rfl
  rw [fb_si_cong e2, si_mulr, fb_si_nat]
theorem half_od : ∀ k, k < 5 → ∀ u, u < 2 ^ k → 0 < u → 2 * fb_sm (fun r => odN u r) (2 ^ k) = 2 ^ k := by decide +kernel
theorem odN_0 (r : Nat) : odN 0 r = 0 := by
  unfold odN
  rw [Nat.zero_and, pop_0]
/-- the squares of all leans together -/
theorem pars_D {k x : Nat} (hk : k ≤ 4) (hx : x < 2 ^ 2 ^ k) : fb_sm (fun i => lsD x (i + 1) * lsD x (i + 1)) (2 ^ k - 1) = pop 32 x * (2 ^ k - pop 32 x) := by
  have l := k4 hk
  have p := Nat.two_pow_pos k
  have P := pars (x := x) hk
  rw [← pop_cut l.1 hx] at P
  have pl : pop 32 x ≤ 2 ^ k := by
    rw [pop_cut l.1 hx]
    exact pop_le (2 ^ k) x
  have D : ∀ u, chX x (2 ^ k) u * chX x (2 ^ k) u = ((lsD x u * lsD x u : Nat) : Int) := fun u => by
    rw [chX_eq, ← pop_cut l.1 hx, ← lsO_cut l.1 hx]
    unfold lsD
    rw [Int.natCast_mul, Int.natAbs_mul_self']
  have Z : lsD x 0 = pop 32 x := by
    unfold lsD lsO
    rw [sm_zero 16 (fun r _ => by rw [odN_0, Nat.mul_zero])]
    omega
  simp only [D] at P
  rw [fb_si_nat] at P
  have S : fb_sm (fun u => lsD x u * lsD x u) (2 ^ k) = lsD x 0 * lsD x 0 + fb_sm (fun i => lsD x (i + 1) * lsD x (i + 1)) (2 ^ k - 1) := by
    rw [show 2 ^ k = 1 + (2 ^ k - 1) by omega, fb_sm_split, show 1 + (2 ^ k - 1) - 1 = 2 ^ k - 1 by omega]
    congr 1
    · show 0 + lsD x 0 * lsD x 0 = _
      rw [Nat.zero_add]
    · exact fb_sm_cong (fun i _ => by rw [Nat.add_comm 1 i])
  rw [S, Z, ← Int.natCast_mul] at P
  have P' := Int.ofNat.inj P
  have e : pop 32 x * 2 ^ k = pop 32 x * pop 32 x + pop 32 x * (2 ^ k - pop 32 x) := by
    rw [← Nat.mul_add]
    congr 1
    omega
  omega
/-- no lean is greater than the size, or what is beyond it -/
theorem lsD_ut {k x u : Nat} (hk : k ≤ 4) (hx : x < 2 ^ 2 ^ k) (h0 : 0 < u) (hu : u < 2 ^ k) : lsD x u ≤ pop 32 x ∧ lsD x u ≤ 2 ^ k - pop 32 x := by
  have l := k4 hk
  have o := lsO_le (x := x) (by omega) u
  have hh := half_od k (by omega) u hu h0
  have o2 : lsO x u ≤ fb_sm (fun r => odN u r) (2 ^ k) := by
    rw [lsO_cut l.1 hx]
    refine fb_sm_le (fun r _ => ?_)
    have : (x / 2 ^ r % 2) * odN u r ≤ 1 * odN u r := Nat.mul_le_mul_right _ (by omega)
    omega
  have o3 : pop 32 x + fb_sm (fun r => odN u r) (2 ^ k) ≤ lsO x u + 2 ^ k := by
    rw [lsO_cut l.1 hx, pop_cut l.1 hx, ← fb_sm_add]
    have := fb_sm_add (fun r => (x / 2 ^ r % 2) * odN u r) (fun _ => 1) (2 ^ k)
    rw [fb_sm_const, Nat.mul_one] at this
    rw [← this]
    refine fb_sm_le (fun r _ => ?_)
    have h1 := odN_lt u r
    rcases (show x / 2 ^ r % 2 = 0 ∨ x / 2 ^ r % 2 = 1 by omega) with e | e
    · rw [e]; omega
    · rw [e]; omega
  unfold lsD
  omega
def utN (k s : Nat) : Nat := if 2 ^ k - s < s then 2 ^ k - s else s
def moN (k t s L i : Nat) : Nat := if t < pop 32 (i + 1) then utN k s else if utN k s < L then utN k s else L
theorem may4 {k t s L : Nat} (hk : k ≤ 4) (ht : t ≤ 4) (hs : s ≤ 2 ^ k) (hL : L ≤ 2000) : f_X4_mayLeanSoLittle (nI k) (nI t) (nI s) (nI L) = some (if s * (2 ^ k - s) ≤ fb_sm (fun i => moN k t s L i * moN k t s L i) (2 ^ k - 1) then 1 else 0) := by
  have l := k4 hk
  have p := Nat.two_pow_pos k
  have u1 : utN k s ≤ 16 := by unfold utN; split <;> omega
  have m1 : ∀ i, moN k t s L i ≤ 16 := fun i => by unfold moN; split <;> (try split) <;> omega
  have m2 : ∀ i, moN k t s L i * moN k t s L i ≤ 256 := fun i => Nat.mul_le_mul (m1 i) (m1 i)
  have key : L_X4_mayLeanSoLittle_27 (nI t) (nI L) (nI (2 ^ k)) (nI (utN k s)) FU 0 1 = some (nI (fb_sm (fun i => moN k t s L i * moN k t s L i) (2 ^ k - 1))) := by
    unfold L_X4_mayLeanSoLittle_27
    refine loopF_seq0 (fun j => (nI (fb_sm (fun i => moN k t s L i * moN k t s L i) j), nI (j + 1))) (2 ^ k - 1) _ rfl (fun j hj => ?_) ?_ (FU_lt (by omega))
    · have pj := pop_le 32 (j + 1)
      have v : (if nI t < nI (pop 32 (j + 1)) then some (nI (utN k s)) else some (if nI (utN k s) < nI L then nI (utN k s) else nI L)) = some (nI (moN k t s L j)) := by
        unfold moN
        by_cases c : t < pop 32 (j + 1)
        · rw [if_pos c, if_pos (nI_lt c (by omega))]
        · rw [if_neg c, if_neg (nI_nlt (by omega) (by omega))]
          by_cases d : utN k s < L
          · rw [if_pos d, if_pos (nI_lt d (by omega))]
          · rw [if_neg d, if_neg (nI_nlt (by omega) (by omega))]
      unfold B_X4_mayLeanSoLittle_27
      dsimp only
      rw [if_neg (nI_ge (by omega) (by omega)), bitCount_ok _ (by omega), b1_some, v, b1_some, bn_rw, bn_rw, pk_mul, nI_add, nI_1, fb_sm_succ]
    · unfold B_X4_mayLeanSoLittle_27
      dsimp only
      rw [if_pos (nI_le (by omega) (by omega))]
  have sb := fb_sm_bound (f := fun i => moN k t s L i * moN k t s L i) (c := 256) (n := 2 ^ k - 1) (fun i _ => m2 i)
  have pb : s * (2 ^ k - s) ≤ 16 * 16 := Nat.mul_le_mul (by omega) (by omega)
  have ut : (if nI (2 ^ k - s) < nI s then nI (2 ^ k - s) else nI s) = nI (utN k s) := by
    unfold utN
    by_cases d : 2 ^ k - s < s
    · rw [if_pos d, if_pos (nI_lt d (by omega))]
    · rw [if_neg d, if_neg (nI_nlt (by omega) (by omega))]
  unfold f_X4_mayLeanSoLittle
  rw [if_pos (nI_pos' (by omega)), shl1 (by omega), bn_rw, bn_rw, pk_sub hs, ut, key, b1_some, pk_mul]
  by_cases d : s * (2 ^ k - s) ≤ fb_sm (fun i => moN k t s L i * moN k t s L i) (2 ^ k - 1)
  · rw [if_pos d, if_neg (nI_nlt d (by omega))]; rfl
  · rw [if_neg d, if_pos (nI_lt (by omega) (by omega))]; rfl
theorem may_no {k t L x : Nat} (hk : k ≤ 4) (hx : x < 2 ^ 2 ^ k) (h : ¬ pop 32 x * (2 ^ k - pop 32 x) ≤ fb_sm (fun i => moN k t (pop 32 x) L i * moN k t (pop 32 x) L i) (2 ^ k - 1)) : ¬ ∀ u, 0 < u → u < 2 ^ k → pop 32 u ≤ t → lsD x u ≤ L := by
  intro H
  apply h
  rw [← pars_D hk hx]
  refine fb_sm_le (fun i hi => ?_)
  obtain ⟨a, b⟩ := lsD_ut hk hx (u := i + 1) (by omega) (by omega)
  have m : lsD x (i + 1) ≤ moN k t (pop 32 x) L i := by
    have ut : lsD x (i + 1) ≤ utN k (pop 32 x) := by unfold utN; split <;> omega
    unfold moN
    split
    · exact ut
    · have := H (i + 1) (by omega) (by omega) (by omega)
      split <;> omega
  exact Nat.mul_le_mul m m
