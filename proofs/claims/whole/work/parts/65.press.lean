/-! pressed and mixed -/
def pbit (p1 : Int64) (i : Nat) : Int32 := ((p1 >>> ((nI i).toInt64 &&& 63)) &&& 1).toInt32
def pcn (p1 : Int64) : Nat → Nat
  | 0 => 0
  | s + 1 => if pbit p1 (2 * s) = pbit p1 (2 * s + 1) then pcn p1 s else pcn p1 s + 1
def pvl (p1 : Int64) (p3 : Int32) : Nat → Int32
  | 0 => -1
  | s + 1 => if pbit p1 (2 * s) = pbit p1 (2 * s + 1) then pvl p1 p3 s else if nI (pcn p1 s) = p3 then pbit p1 (2 * s) else pvl p1 p3 s
theorem pcn_s (p1 : Int64) (s : Nat) : pcn p1 (s + 1) = if pbit p1 (2 * s) = pbit p1 (2 * s + 1) then pcn p1 s else pcn p1 s + 1 := rfl
theorem pvl_s (p1 : Int64) (p3 : Int32) (s : Nat) : pvl p1 p3 (s + 1) = if pbit p1 (2 * s) = pbit p1 (2 * s + 1) then pvl p1 p3 s else if nI (pcn p1 s) = p3 then pbit p1 (2 * s) else pvl p1 p3 s := rfl
theorem pcn_mono (p1 : Int64) (s : Nat) : pcn p1 s ≤ pcn p1 (s + 1) := by
  rw [pcn_s]
  by_cases c : pbit p1 (2 * s) = pbit p1 (2 * s + 1)
  · rw [if_pos c]; exact Nat.le_refl _
  · rw [if_neg c]; exact Nat.le_succ _
theorem pcn_le (p1 : Int64) : ∀ s, pcn p1 s ≤ s := by
  intro s
  induction s with
  | zero => exact Nat.le_refl 0
  | succ s ih =>
    rw [pcn_s]
    by_cases c : pbit p1 (2 * s) = pbit p1 (2 * s + 1)
    · rw [if_pos c]; exact Nat.le_succ_of_le ih
    · rw [if_neg c]; exact Nat.succ_le_succ ih
theorem pvl_stay {p1 : Int64} {p3 : Int32} {s : Nat} (h1 : ¬ pbit p1 (2 * s) = pbit p1 (2 * s + 1)) (h2 : nI (pcn p1 s) = p3) : ∀ d, s + 1 + d < 1000 → pcn p1 s + 1 ≤ pcn p1 (s + 1 + d) ∧ pvl p1 p3 (s + 1 + d) = pbit p1 (2 * s) := by
  intro d
  induction d with
  | zero =>
    intro _
    rw [Nat.add_zero, pcn_s, pvl_s, if_neg h1, if_neg h1, if_pos h2]
    exact ⟨Nat.le_refl _, rfl⟩
  | succ d ih =>
    intro hd
    obtain ⟨a, b⟩ := ih (by omega)
    rw [← Nat.add_assoc]
    refine ⟨Nat.le_trans a (pcn_mono p1 _), ?_⟩
    rw [pvl_s]
    by_cases c : pbit p1 (2 * (s + 1 + d)) = pbit p1 (2 * (s + 1 + d) + 1)
    · rw [if_pos c]; exact b
    · rw [if_neg c, if_neg]
      · exact b
      · intro k
        rw [← h2] at k
        have l1 := pcn_le p1 s
        have l2 := pcn_le p1 (s + 1 + d)
        rw [nI_eq (by omega) (by omega)] at k
        omega
theorem press10 (p1 : Int64) {p : Nat} (hp : p ≤ 32) (p3 : Int32) : L_X10_pressed_30 p1 (nI p) p3 FU 0 (-1) 0 = some (nI (pcn p1 (p / 2)), pvl p1 p3 (p / 2)) := by
  unfold L_X10_pressed_30
  refine loopF_seq0 (fun s => (nI (pcn p1 s), pvl p1 p3 s, nI (2 * s))) (p / 2) _ rfl (fun s hs => ?_) ?_ (FU_lt (by omega))
  · unfold B_X10_pressed_30
    dsimp only
    rw [nI_1, if_neg (nI_ge (by omega) (by omega))]
    have e1 : ((p1 >>> ((nI (2 * s)).toInt64 &&& 63)) &&& 1).toInt32 = pbit p1 (2 * s) := rfl
    have e2 : ((p1 >>> ((nI (2 * s + 1)).toInt64 &&& 63)) &&& 1).toInt32 = pbit p1 (2 * s + 1) := rfl
    have e3 : nI (2 * s) + 2 = nI (2 * (s + 1)) := nI_add (2 * s) 2
    simp only [bn, e1, e2, e3, pcn, pvl]
    by_cases g : pbit p1 (2 * s) = pbit p1 (2 * s + 1)
    · rw [if_pos g, if_pos g, if_pos g]
      simp only [b2_some]
    · rw [if_neg g, if_neg g, if_neg g]
      by_cases g2 : nI (pcn p1 s) = p3
      · rw [if_pos g2, if_pos g2]
        simp only [b1_some, b2_some, nI_1]
      · rw [if_neg g2, if_neg g2]
        simp only [b1_some, b2_some, nI_1]
  · unfold B_X10_pressed_30
    dsimp only
    rw [nI_1, if_pos (nI_le (by omega) (by omega))]
theorem press9 (p1 : Int64) {p : Nat} (hp : p ≤ 32) (p3 : Int32) : L_X9_pressed_25 p1 (nI p) p3 FU 0 0 = some (if p3 = -1 then nI (pcn p1 (p / 2)) else pvl p1 p3 (p / 2)) := by
  have key : ∃ r, L_X9_pressed_25 p1 (nI p) p3 FU 0 0 = some r ∧ r = (if p3 = -1 then nI (pcn p1 (p / 2)) else pvl p1 p3 (p / 2)) := by
    unfold L_X9_pressed_25
    refine loopF_inv (fun s x => x = (nI (pcn p1 s), nI (2 * s)) ∧ pvl p1 p3 s = -1) _ (p / 2) ?_ ?_ (p / 2) 0 (0, 0) FU (by omega) (FU_lt (by omega)) ⟨rfl, rfl⟩
    · rintro s hs x ⟨rfl, k2⟩
      unfold B_X9_pressed_25
      dsimp only
      rw [nI_1, if_neg (nI_ge (by omega) (by omega))]
      have e1 : ((p1 >>> ((nI (2 * s)).toInt64 &&& 63)) &&& 1).toInt32 = pbit p1 (2 * s) := rfl
      have e2 : ((p1 >>> ((nI (2 * s + 1)).toInt64 &&& 63)) &&& 1).toInt32 = pbit p1 (2 * s + 1) := rfl
      have e3 : nI (2 * s) + 2 = nI (2 * (s + 1)) := nI_add (2 * s) 2
      simp only [bn, e1, e2, e3, pcn, pvl]
      by_cases g : pbit p1 (2 * s) = pbit p1 (2 * s + 1)
      · rw [if_pos g, if_pos g, if_pos g]
        exact Or.inl ⟨_, rfl, rfl, k2⟩
      · rw [if_neg g, if_neg g, if_neg g]
        by_cases g2 : nI (pcn p1 s) = p3
        · rw [if_pos g2, if_pos g2]
          refine Or.inr ⟨_, rfl, ?_⟩
          have l1 := pcn_le p1 s
          rw [if_neg, show p / 2 = s + 1 + (p / 2 - s - 1) by omega, (pvl_stay g g2 _ (by omega)).2]
          intro k
          rw [k] at g2
          have := congrArg Int32.toInt g2
          rw [nI_toInt (by omega)] at this
          change (pcn p1 s : Int) = -1 at this
          omega
        · rw [if_neg g2, if_neg g2]
          refine Or.inl ⟨_, rfl, ?_, k2⟩
          rw [nI_1]
    · rintro x ⟨rfl, k2⟩
      unfold B_X9_pressed_25
      dsimp only
      rw [nI_1, if_pos (nI_le (by omega) (by omega))]
      by_cases g : p3 = -1
      · rw [if_pos g, if_pos g]; exact ⟨_, rfl, rfl⟩
      · rw [if_neg g, if_neg g]; exact ⟨_, rfl, k2.symm⟩
  obtain ⟨r, a, b⟩ := key
  rw [a, b]
theorem g_pressed (M : PS) (p1 : Int64) (p2 p3 : Int32) : ∃ r : Int32, f_X9_pressed p1 p2 p3 = some r ∧ f_X10_pressed M p1 p2 p3 = some r := by
  unfold f_X9_pressed f_X10_pressed
  rw [in_32 p2 0 32 0 32 rfl rfl]
  simp only [b1_some]
  by_cases c1 : 0 ≤ p2.toInt ∧ p2.toInt ≤ 32
  · rw [if_pos c1, if_neg one_ne0, if_neg (fun k => by rw [ltL p2 0 0 rfl] at k; omega), if_neg (fun k => by rw [gtL p2 32 32 rfl] at k; omega)]
    obtain ⟨p, hp, rfl⟩ := nI_four (N := 33) (x := p2) (by omega)
    by_cases c2 : (-1 : Int32) ≤ p3
    · rw [if_pos c2, if_pos c2]
      simp only [bn]
      rw [press9 p1 (by omega), press10 p1 (by omega)]
      simp only [b2_some]
      by_cases c3 : p3 = -1
      · rw [if_pos c3, if_pos c3]; exact ⟨_, rfl, rfl⟩
      · rw [if_neg c3, if_neg c3]; exact ⟨_, rfl, rfl⟩
    · rw [if_neg c2, if_neg c2]; exact ⟨_, rfl, rfl⟩
  · rw [if_neg c1, if_pos rfl]
    refine ⟨_, ?_, rfl⟩
    by_cases d : p2 < 0
    · rw [if_pos d]
    · rw [if_neg d, if_pos]
      rw [ltL p2 0 0 rfl] at d
      rw [gtL p2 32 32 rfl]
      omega
def odN (a b : Nat) : Nat := pop 32 (a &&& b) % 2
def omN (a : Nat) : Nat := fb_sm (fun b => odN a b * 2 ^ b) 16
def RSm (Sm : PS) : Prop := ∀ a, a < 16 → Sm.2.1 0 a = nI (omN a)
theorem om_bit : ∀ a, a < 16 → ∀ b, b < 16 → omN a / 2 ^ b % 2 = odN a b := by decide +kernel
theorem om_lt : ∀ a, a < 16 → omN a < 65536 := by decide +kernel
theorem and_bitN (x y b : Nat) : (x &&& y) / 2 ^ b % 2 = (x / 2 ^ b % 2) * (y / 2 ^ b % 2) := by
  have h : (x &&& y).testBit b = (x.testBit b && y.testBit b) := Nat.testBit_and x y b
  simp only [Nat.testBit_eq_decide_div_mod_eq] at h
  have hx : x / 2 ^ b % 2 < 2 := Nat.mod_lt _ (by decide)
  have hy : y / 2 ^ b % 2 < 2 := Nat.mod_lt _ (by decide)
  have hz : (x &&& y) / 2 ^ b % 2 < 2 := Nat.mod_lt _ (by decide)
  generalize x / 2 ^ b % 2 = u at *
  generalize y / 2 ^ b % 2 = w at *
  generalize (x &&& y) / 2 ^ b % 2 = q at *
  have hu : u = 0 ∨ u = 1 := by omega
  have hw : w = 0 ∨ w = 1 := by omega
  have hq : q = 0 ∨ q = 1 := by omega
  rcases hu with rfl | rfl <;> rcases hw with rfl | rfl <;> rcases hq with rfl | rfl <;> simp_all
theorem sm_mul (c : Nat) (f : Nat → Nat) : ∀ n, fb_sm (fun k => c * f k) n = c * fb_sm f n
  | 0 => rfl
  | n + 1 => by rw [fb_sm_succ, fb_sm_succ, sm_mul c f n, Nat.mul_add]
theorem pop16 {x : Nat} (h : x < 65536) : pop 32 x = pop 16 x := pop_big (k := 16) h 16
theorem pop_om {y a : Nat} (hy : y < 65536) (ha : a < 16) : pop 32 (y &&& omN a) = fb_sm (fun b => (y / 2 ^ b % 2) * odN a b) 16 := by
  rw [pop16 (Nat.lt_of_le_of_lt Nat.and_le_left hy)]
  unfold pop
  exact fb_sm_cong (fun b hb => by rw [and_bitN, om_bit a ha b hb])
def oddP (x y : Nat) : Nat := fb_sm (fun a => (x / 2 ^ a % 2) * fb_sm (fun b => (y / 2 ^ b % 2) * odN a b) 16) 16
theorem odN_lt (a b : Nat) : odN a b < 2 := Nat.mod_lt _ (by decide)
theorem oddP_le (x y : Nat) : ∀ i, fb_sm (fun a => (x / 2 ^ a % 2) * fb_sm (fun b => (y / 2 ^ b % 2) * odN a b) 16) i ≤ i * 16 := fun i => fb_sm_bound (fun a _ => by
  have h1 : x / 2 ^ a % 2 ≤ 1 := by omega
  have h2 : fb_sm (fun b => (y / 2 ^ b % 2) * odN a b) 16 ≤ 16 * 1 := fb_sm_bound (fun b _ => by
    have h1 : y / 2 ^ b % 2 ≤ 1 := by omega
    have h2 := odN_lt a b
    exact Nat.le_trans (Nat.mul_le_mul h1 (show odN a b ≤ 1 by omega)) (by decide))
  exact Nat.le_trans (Nat.mul_le_mul h1 h2) (by decide))
theorem odd4 {Sm : PS} (h : RSm Sm) {x y : Nat} (hx : x < 65536) (hy : y < 65536) : f_X4_oddPairs Sm (nI x) (nI y) = some (nI (oddP x y)) := by
  have key : L_X4_oddPairs_5 Sm (nI x) (nI y) FU 0 0 = some (nI (oddP x y)) := by
    unfold L_X4_oddPairs_5
    refine loopF_seq0 (fun i => (nI (fb_sm (fun a => (x / 2 ^ a % 2) * fb_sm (fun b => (y / 2 ^ b % 2) * odN a b) 16) i), nI i)) 16 _ rfl (fun i hi => ?_) rfl (FU_lt (by decide))
    unfold B_X4_oddPairs_5
    dsimp only
    rw [if_neg (show ¬ (16 : Int32) ≤ nI i from nI_ge hi (by decide)), bitI (by omega) (by omega), rdI_nI hi (by decide), h i hi]
    simp only [b1_some]
    rw [fa_and, bitCount_ok _ (Nat.lt_of_le_of_lt (Nat.and_le_left (n := y)) (by omega)), pop_om hy hi]
    have e9 := fb_sm_succ (fun a => (x / 2 ^ a % 2) * fb_sm (fun b => (y / 2 ^ b % 2) * odN a b) 16) i
    rw [e9]
    have b2 : x / 2 ^ i % 2 = 0 ∨ x / 2 ^ i % 2 = 1 := by omega
    rcases b2 with b2 | b2
    · rw [b2, if_neg (show ¬ nI 0 = 1 by decide), Nat.zero_mul, Nat.add_zero]
      simp only [b1_some, bn, nI_1]
    · rw [b2, if_pos (show nI 1 = 1 from rfl), Nat.one_mul]
      simp only [b1_some, bn, nI_1, nI_add]
  unfold f_X4_oddPairs
  rw [key]; rfl
theorem set_ok (p : Int32) : f_X4_isSet p = some (if 1 ≤ p.toInt ∧ p.toInt < 65536 then 1 else 0) := by
  unfold f_X4_isSet
  rw [rng (a := 1) (b := 65536) rfl rfl]
  simp only [b1_some, ck_b]
def dM (x y a b : Nat) : Int := if x / 2 ^ a % 2 = 1 ∧ y / 2 ^ b % 2 = 1 then (if odN a b = 1 then 1 else -1) else 0
def cM (x y a b : Nat) : Nat := (x / 2 ^ a % 2) * (y / 2 ^ b % 2)
theorem in10m {x y a : Nat} (hx : x < 65536) (hy : y < 65536) (ha : a < 16) (u : Int) (n : Nat) : L_X10_mixed_53 (nI x) (nI y) (nI a) FU (zI u) (nI n) 0 = some (zI (u + fb_si (dM x y a) 16), nI (n + fb_sm (cM x y a) 16)) := by
  unfold L_X10_mixed_53
  refine loopF_seq0 (fun b => (zI (u + fb_si (dM x y a) b), nI (n + fb_sm (cM x y a) b), nI b)) 16 _ (by rw [show fb_si (dM x y a) 0 = 0 from rfl, Int.add_zero]; rfl) (fun b hb => ?_) rfl (FU_lt (by decide))
  unfold B_X10_mixed_53
  dsimp only
  rw [if_neg (show ¬ (16 : Int32) ≤ nI b from nI_ge hb (by decide)), bitI (by omega) (by omega), bitI (by omega) (by omega), fa_and, bits10 (Nat.lt_of_le_of_lt (Nat.and_le_left (n := a)) (by omega)), fb_si_succ, fb_sm_succ]
  have b1' : x / 2 ^ a % 2 = 0 ∨ x / 2 ^ a % 2 = 1 := by omega
  have b2' : y / 2 ^ b % 2 = 0 ∨ y / 2 ^ b % 2 = 1 := by omega
  have z10 : ¬ nI 0 = 1 := by decide
  have o11 : nI 1 = 1 := rfl
  have pl := pop_le 32 (a &&& b)
  unfold dM cM
  rcases b1' with g1 | g1
  · rw [g1, if_neg z10, if_neg (by omega)]
    simp only [b1_some, bn, nI_1, if_pos trivial, Nat.zero_mul, Nat.add_zero, Int.add_zero, Int32.add_zero]
  · rw [g1, if_pos o11]
    rcases b2' with g2 | g2
    · rw [g2, if_neg z10, if_neg (by omega)]
      simp only [b1_some, bn, nI_1, if_pos trivial, Nat.mul_zero, Nat.add_zero, Int.add_zero, Int32.add_zero]
    · rw [g2, if_pos o11, if_pos (show (1 : Nat) = 1 ∧ (1 : Nat) = 1 from ⟨rfl, rfl⟩)]
      simp only [b1_some, bn]
      rw [if_neg one_ne0, if_neg one_ne0, rem2 (by omega)]
      simp only [b1_some, nI_1]
      have od : odN a b = pop 32 (a &&& b) % 2 := rfl
      have b3 : odN a b = 0 ∨ odN a b = 1 := by have := odN_lt a b; omega
      rw [← od]
      rcases b3 with g3 | g3
      · rw [g3, if_neg z10, if_neg (by decide)]
        simp only [b1_some]
        rw [show (-1 : Int32) = zI (-1) from rfl, zI_add, Int.add_assoc, Nat.mul_one, Nat.add_assoc]
      · rw [g3, if_pos o11, if_pos rfl]
        simp only [b1_some]
        rw [show (1 : Int32) = zI 1 from rfl, zI_add, Int.add_assoc, Nat.mul_one, Nat.add_assoc]
theorem dM_eq (x y a b : Nat) : dM x y a b = 2 * ((x / 2 ^ a % 2) * ((y / 2 ^ b % 2) * odN a b) : Nat) - (cM x y a b : Int) := by
  have b1' : x / 2 ^ a % 2 = 0 ∨ x / 2 ^ a % 2 = 1 := by omega
  have b2' : y / 2 ^ b % 2 = 0 ∨ y / 2 ^ b % 2 = 1 := by omega
  have b3 : odN a b = 0 ∨ odN a b = 1 := by have := odN_lt a b; omega
  unfold dM cM
  rcases b1' with g1 | g1 <;> rcases b2' with g2 | g2 <;> rcases b3 with g3 | g3 <;> rw [g1, g2, g3] <;> rfl
theorem out10m {x y : Nat} (hx : x < 65536) (hy : y < 65536) : L_X10_mixed_43 (nI x) (nI y) FU 0 0 0 = some (zI (2 * (oddP x y : Nat) - (pop 32 x * pop 32 y : Nat)), nI (pop 32 x * pop 32 y)) := by
  have key : L_X10_mixed_43 (nI x) (nI y) FU 0 0 0 = some (zI (fb_si (fun a => fb_si (dM x y a) 16) 16), nI (fb_sm (fun a => fb_sm (cM x y a) 16) 16)) := by
    unfold L_X10_mixed_43
    refine loopF_seq0 (fun i => (zI (fb_si (fun a => fb_si (dM x y a) 16) i), nI (fb_sm (fun a => fb_sm (cM x y a) 16) i), nI i)) 16 _ rfl (fun i hi => ?_) rfl (FU_lt (by decide))
    unfold B_X10_mixed_43
    dsimp only
    rw [if_neg (show ¬ (16 : Int32) ≤ nI i from nI_ge hi (by decide)), in10m hx hy hi]
    simp only [b2_some, bn, nI_1]
    rfl
  have e1 : fb_sm (fun a => fb_sm (cM x y a) 16) 16 = pop 32 x * pop 32 y := by
    rw [pop16 hx, pop16 hy]
    unfold pop
    rw [Nat.mul_comm, ← sm_mul]
    refine fb_sm_cong (fun a ha => ?_)
    unfold cM
    rw [sm_mul, Nat.mul_comm]
  have e2 : fb_si (fun a => fb_si (dM x y a) 16) 16 = 2 * (oddP x y : Nat) - (pop 32 x * pop 32 y : Nat) := by
    rw [← e1]
    unfold oddP
    rw [← fb_si_nat, ← fb_si_nat, ← fb_si_mul, ← fb_si_sub]
    refine fb_si_cong (fun a ha => ?_)
    rw [← sm_mul, ← fb_si_nat, ← fb_si_nat, ← fb_si_mul, ← fb_si_sub]
    exact fb_si_cong (fun b hb => dM_eq x y a b)
  rw [key, e1, e2]
theorem abs32 {d : Int} (h1 : -1000000 ≤ d) (h2 : d ≤ 1000000) : (if 0 ≤ zI d then zI d else 0 - zI d) = nI d.natAbs := by
  by_cases c : 0 ≤ d
  · rw [if_pos (by rw [geL (zI d) 0 0 rfl, zI_toInt (by omega) (by omega)]; exact c), ← zI_nat]
    congr 1; omega
  · rw [if_neg (by rw [geL (zI d) 0 0 rfl, zI_toInt (by omega) (by omega)]; exact c), ← zI_nat, Int32.zero_sub, zI_neg]
    congr 1; omega
theorem abs64 {d : Int} (h1 : -1000000 ≤ d) (h2 : d ≤ 1000000) : (if 0 ≤ zI d then some (zI d).toInt64 else some (-zI d).toInt64) = some (lN d.natAbs) := by
  rw [← nI_l (by omega)]
  by_cases c : 0 ≤ d
  · rw [if_pos (by rw [geL (zI d) 0 0 rfl, zI_toInt (by omega) (by omega)]; exact c), ← zI_nat]
    congr 3; omega
  · rw [if_neg (by rw [geL (zI d) 0 0 rfl, zI_toInt (by omega) (by omega)]; exact c), ← zI_nat, zI_neg]
    congr 3; omega
theorem pop_pos {x : Nat} : ∀ k, 0 < x → x < 2 ^ k → 0 < pop k x := by
  intro k
  induction k with
  | zero => intro a b; omega
  | succ k ih =>
    intro a b
    show 0 < pop k x + x / 2 ^ k % 2
    by_cases c : x < 2 ^ k
    · have := ih a c; omega
    · have : x / 2 ^ k = 1 := by
        rw [Nat.pow_succ] at b
        have h1 : x / 2 ^ k < 2 := Nat.div_lt_of_lt_mul (by omega)
        have h2 : 1 ≤ x / 2 ^ k := (Nat.le_div_iff_mul_le (Nat.two_pow_pos k)).mpr (by omega)
        omega
      rw [this]; omega
theorem g_mixed {Sm : PS} (M : PS) (h : RSm Sm) (p1 p2 p3 : Int32) : ∃ r : Int32, f_X9_mixed Sm p1 p2 p3 = some r ∧ f_X10_mixed M p1 p2 p3 = some r := by
  unfold f_X9_mixed f_X10_mixed
  have i16 (p : Int32) : f_X10_in p.toInt64 1 65535 = some (if 1 ≤ p.toInt ∧ p.toInt < 65536 then 1 else 0) := by
    rw [in_32 p 1 65535 1 65535 rfl rfl]
    by_cases c : 1 ≤ p.toInt ∧ p.toInt < 65536
    · rw [if_pos c, if_pos (by omega)]
    · rw [if_neg c, if_neg (by omega)]
  rw [set_ok, set_ok, part9, part10, i16, i16]
  simp only [b1_some]
  by_cases c1 : 1 ≤ p1.toInt ∧ p1.toInt < 65536
  · rw [if_pos c1, if_neg one_ne0, if_neg one_ne0]
    by_cases c2 : 1 ≤ p2.toInt ∧ p2.toInt < 65536
    · rw [if_pos c2, if_neg one_ne0, if_neg one_ne0]
      by_cases c3 : 0 ≤ p3.toInt ∧ p3.toInt ≤ 1
      · rw [if_pos c3, if_neg one_ne0, if_neg one_ne0]
        obtain ⟨x, hx, rfl⟩ := nI_four (N := 65536) (x := p1) (by omega)
        obtain ⟨y, hy, rfl⟩ := nI_four (N := 65536) (x := p2) (by omega)
        obtain ⟨w, rfl, hw⟩ := ch_ex c3
        rw [nI_toInt (by omega)] at c1 c2
        rw [bitCount_ok x (by omega), bitCount_ok y (by omega), odd4 h hx hy, out10m hx hy]
        have l1 := pop_le 32 x
        have l2 := pop_le 32 y
        have l3 : pop 32 x * pop 32 y ≤ 32 * 32 := Nat.mul_le_mul l1 l2
        have l4 : oddP x y ≤ 16 * 16 := oddP_le x y 16
        have l5 : 0 < pop 32 x * pop 32 y := Nat.mul_pos (pop_pos 32 (by omega) (by omega)) (pop_pos 32 (by omega) (by omega))
        have e : nI (pop 32 x * pop 32 y) - 2 * nI (oddP x y) = zI ((pop 32 x * pop 32 y : Nat) - 2 * (oddP x y : Nat)) := by
          rw [← zI_nat, ← zI_nat, show (2 : Int32) = zI 2 from rfl]
          unfold zI
          rw [← Int32.ofInt_mul, ← Int32.ofInt_sub]
        simp only [b1_some, b2_some, bn, pk_mul]
        rw [e, abs32 (by omega) (by omega), abs64 (by omega) (by omega)]
        simp only [b1_some]
        rw [nI_l (by omega), low9 l5 (by omega) (by omega) hw, part_ok l5 (by omega) (by omega) hw]
        simp only [b1_some]
        refine ⟨_, rfl, ?_⟩
        rw [show (2 * (oddP x y : Nat) - (pop 32 x * pop 32 y : Nat) : Int).natAbs = ((pop 32 x * pop 32 y : Nat) - 2 * (oddP x y : Nat) : Int).natAbs by omega]
      · rw [if_neg c3, if_pos rfl, if_pos rfl]; exact ⟨_, rfl, rfl⟩
    · rw [if_neg c2, if_pos rfl, if_pos rfl]; exact ⟨_, rfl, rfl⟩
  · rw [if_neg c1, if_pos rfl, if_pos rfl]; exact ⟨_, rfl, rfl⟩
