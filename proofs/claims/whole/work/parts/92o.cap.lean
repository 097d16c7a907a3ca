/-! cap, again -/
theorem ratio9 (p q : Int32) : f_X9_isRatio p q = some (if (0 ≤ p.toInt ∧ p.toInt ≤ 100) ∧ (1 ≤ q.toInt ∧ q.toInt ≤ 100) then 1 else 0) := by
  unfold f_X9_isRatio
  have a1 := ltL p 0 0 rfl
  have a2 := gtL p 100 100 rfl
  have a3 := ltL q 1 1 rfl
  have a4 := gtL q 100 100 rfl
  by_cases c1 : p < 0
  · rw [if_pos c1, if_neg (fun k => by rw [a1] at c1; omega)]; rfl
  · rw [if_neg c1]
    by_cases c2 : 100 < p
    · rw [if_pos c2, if_neg (fun k => by rw [a2] at c2; omega)]; rfl
    · rw [if_neg c2]
      by_cases c3 : q < 1
      · rw [if_pos c3, if_neg (fun k => by rw [a3] at c3; omega)]; rfl
      · rw [if_neg c3]
        by_cases c4 : 100 < q
        · rw [if_pos c4, if_neg (fun k => by rw [a4] at c4; omega)]; rfl
        · rw [if_neg c4, if_pos (by rw [a1] at c1; rw [a2] at c2; rw [a3] at c3; rw [a4] at c4; omega)]; rfl
theorem bound10 (p q : Int32) : f_X10_isBound p q = some (if (0 ≤ p.toInt ∧ p.toInt ≤ 100) ∧ (1 ≤ q.toInt ∧ q.toInt ≤ 100) then 1 else 0) := by
  unfold f_X10_isBound
  rw [in_32 p 0 100 0 100 rfl rfl, in_32 q 1 100 1 100 rfl rfl]
  simp only [b1_some]
  by_cases c1 : 0 ≤ p.toInt ∧ p.toInt ≤ 100
  · rw [if_pos c1, if_neg one_ne0]
    by_cases c2 : 1 ≤ q.toInt ∧ q.toInt ≤ 100
    · rw [if_pos c2, if_neg one_ne0, if_pos ⟨c1, c2⟩]; rfl
    · rw [if_neg c2, if_pos rfl, if_neg (fun k => c2 k.2)]; rfl
  · rw [if_neg c1, if_pos rfl, if_neg (fun k => c1 k.1)]; rfl
/-- the first number of runs that will do, from 8 - j on -/
def ffI (ok : Nat → Bool) : Nat → Int32
  | 0 => -1
  | j + 1 => if ok (7 - j) then nI (7 - j) else ffI ok j
theorem ff_s {ok : Nat → Bool} {j : Nat} (hj : j < 7) : ffI ok (7 - j) = if ok (j + 1) = true then nI (j + 1) else ffI ok (7 - (j + 1)) := by
  rw [show 7 - j = (7 - (j + 1)) + 1 by omega, ffI, show 7 - (7 - (j + 1)) = j + 1 by omega]
def alN (q : Nat → Bool) : Nat → Bool
  | 0 => true
  | k + 1 => alN q k && q k
theorem al_iff (q : Nat → Bool) : ∀ n, alN q n = true ↔ ∀ k, k < n → q k = true
  | 0 => by simp [alN]
  | n + 1 => by
    rw [alN, Bool.and_eq_true, al_iff q n]
    constructor
    · rintro ⟨a, b⟩ k hk
      by_cases e : k = n
      · rw [e]; exact b
      · exact a k (by omega)
    · intro a
      exact ⟨fun k hk => a k (by omega), a n (by omega)⟩
theorem powL (B : Nat) {x : Nat} (hx : x ≤ 7) : f_X10_power (lN B) (nI x) = some (lN (B ^ x)) := by
  have key : L_X10_power_5 (lN B) (nI x) FU 1 0 = some (lN (B ^ x)) := by
    unfold L_X10_power_5
    refine loopF_seq0 (fun j => (lN (B ^ j), nI j)) x _ rfl (fun j hj => ?_) ?_ (FU_lt (by omega))
    · unfold B_X10_power_5
      dsimp only
      rw [if_neg (nI_ge hj (by omega))]
      simp only [bn, nI_1, lN_mul]
      rw [Nat.pow_succ]
    · unfold B_X10_power_5
      dsimp only
      rw [if_pos (nI_le (by omega) (by omega))]
  unfold f_X10_power
  rw [key]
  rfl
theorem pow_le {x n : Nat} (hx : x ≤ 64) (hn : n ≤ 7) : x ^ n ≤ 4398046511104 := by
  have h1 : x ^ n ≤ 64 ^ n := Nat.pow_le_pow_left hx n
  have h2 : 64 ^ n ≤ 64 ^ 7 := Nat.pow_le_pow_right (by decide) hn
  have h3 : 64 ^ 7 = 4398046511104 := by decide
  omega
theorem mul_100 {x b : Nat} (hx : x ≤ 4398046511104000) (hb : b ≤ 100) : x * b < 2 ^ 63 := by
  have : x * b ≤ 4398046511104000 * 100 := Nat.mul_le_mul hx hb
  omega
section TRS4
variable {S P M : PS} {nd rw wd : Nat} {dz : Nat → Nat} {rt : Nat → Nat → Nat}
def okC (R : Nat) (c : Nat → Nat) (W a b n : Nat) : Bool := decide ((R - c W) ^ n * b ≤ a * R ^ n)
theorem okC_eq {c : Nat → Nat} {R a b n k : Nat} : alN (fun i => decide ((R - c i) ^ n * b ≤ R ^ n * a)) (k + 1) = okC R c (wsN c k) a b n := by
  have w := ws_lt c k
  rw [Bool.eq_iff_iff, al_iff]
  unfold okC
  rw [decide_eq_true_iff, Nat.mul_comm a]
  constructor
  · intro h
    exact of_decide_eq_true (h (wsN c k) (by omega))
  · intro h i hi
    have m := ws_min c k i (by omega)
    have q : (R - c i) ^ n ≤ (R - c (wsN c k)) ^ n := Nat.pow_le_pow_left (by omega) n
    have q2 : (R - c i) ^ n * b ≤ (R - c (wsN c k)) ^ n * b := Nat.mul_le_mul_right b q
    exact decide_eq_true (by omega)
theorem capL {a b r R : Nat} (hR : R ≤ 64) (h9 : P.1 5 = nI R) (ha : a ≤ 100) (hb : b ≤ 100) : L_X7_runsForOne_26 P (nI a) (nI b) (nI (R - r)) FU 1 1 1 = some (ffI (fun n => decide ((R - r) ^ n * b ≤ a * R ^ n)) 7) := by
  have key : ∃ x, L_X7_runsForOne_26 P (nI a) (nI b) (nI (R - r)) FU 1 1 1 = some x ∧ x = ffI (fun n => decide ((R - r) ^ n * b ≤ a * R ^ n)) 7 := by
    unfold L_X7_runsForOne_26
    refine loopF_inv (fun j x => x = (lN (R ^ j), lN ((R - r) ^ j), nI (j + 1)) ∧ ffI (fun n => decide ((R - r) ^ n * b ≤ a * R ^ n)) 7 = ffI (fun n => decide ((R - r) ^ n * b ≤ a * R ^ n)) (7 - j)) _ 7 ?_ ?_ 7 0 (1, 1, 1) FU (by omega) (FU_lt (by omega)) ⟨rfl, rfl⟩
    · rintro j hj x ⟨k1, k2⟩
      subst k1
      unfold B_X7_runsForOne_26
      dsimp only
      rw [if_neg (show ¬ (7 : Int32) < nI (j + 1) from nI_nlt (a := 7) (by omega) (by decide)), h9]
      simp only [bn]
      have m1 : lN (R ^ j) * lN R = lN (R ^ (j + 1)) := by rw [lN_mul, Nat.pow_succ]
      have m2 : lN ((R - r) ^ j) * lN (R - r) = lN ((R - r) ^ (j + 1)) := by rw [lN_mul, Nat.pow_succ]
      rw [nI_l (by omega), nI_l (by omega), nI_l (by omega), nI_l (by omega), m1, m2, lN_mul, lN_mul]
      have e1 := pow_le (x := R) (n := j + 1) hR (by omega)
      have e2 := pow_le (x := R - r) (n := j + 1) (by omega) (by omega)
      have e3 := mul_100 (x := (R - r) ^ (j + 1)) (b := b) (by omega) hb
      have e4 := mul_100 (x := R ^ (j + 1)) (b := a) (by omega) ha
      rw [Nat.mul_comm] at e4
      have cc : 0 < lg_cmp (lN ((R - r) ^ (j + 1) * b)) (lN (a * R ^ (j + 1))) ↔ a * R ^ (j + 1) < (R - r) ^ (j + 1) * b := by rw [cmp_gt, pk_lLT e4 e3]
      rw [ff_s hj] at k2
      by_cases z : (R - r) ^ (j + 1) * b ≤ a * R ^ (j + 1)
      · right
        rw [if_neg (fun k => by rw [cc] at k; omega)]
        rw [if_pos (decide_eq_true z)] at k2
        exact ⟨_, rfl, k2.symm⟩
      · left
        rw [if_pos (cc.mpr (by omega))]
        rw [if_neg (fun k => z (of_decide_eq_true k))] at k2
        rw [nI_1]
        exact ⟨_, rfl, rfl, k2⟩
    · rintro x ⟨k1, k2⟩
      subst k1
      refine ⟨-1, ?_, by rw [k2]; rfl⟩
      unfold B_X7_runsForOne_26
      dsimp only
      rw [if_pos (show (7 : Int32) < nI (7 + 1) by decide)]
  obtain ⟨x, k1, k2⟩ := key
  rw [k1, k2]
theorem rc_rw (h : TR S P M nd rw wd dz rt) (i : Nat) : fb_sm (rt i) rw ≤ rw := by
  have := fb_sm_bound (f := rt i) (c := 1) (n := rw) (fun k _ => h.2.2.2.2.2.1 _ k)
  omega
theorem cap7 (h : TR S P M nd rw wd dz rt) {a b : Nat} (ha : a ≤ 100) (hb : b ≤ 100) : f_X7_runsForOne S P (nI a) (nI b) = some (ffI (okC rw (fun i => fb_sm (rt i) rw) (wsN (fun i => fb_sm (rt i) rw) (2 ^ wd - 1)) a b) 7) := by
  obtain ⟨h1, h2, h3, h4, h5, h6, h7, h8, h9, h10, h11, h12, hD, hL, hI, hG⟩ := id h
  have p := Nat.two_pow_pos wd
  have wl := ws_lt (fun i => fb_sm (rt i) rw) (2 ^ wd - 1)
  unfold f_X7_runsForOne
  rw [ws7 h]
  simp only [b1_some]
  rw [rc7 h (by omega), h9]
  simp only [b1_some, bn]
  rw [pk_sub (rc_rw h _)]
  exact capL h4 h9 ha hb
theorem capI10 (h : TR S P M nd rw wd dz rt) {a b n : Nat} (ha : a ≤ 100) (hb : b ≤ 100) (hn : n ≤ 7) : L_X10_cap_29 (nI a) (nI b) M (nI n) FU 1 0 = some (if alN (fun i => decide ((rw - fb_sm (rt i) rw) ^ n * b ≤ rw ^ n * a)) (2 ^ wd) then 1 else 0) := by
  obtain ⟨h1, h2, h3, h4, h5, h6, h7, h8, h9, h10, h11, h12, hD, hL, hI, hG⟩ := id h
  have l := pw5 h1
  unfold L_X10_cap_29
  refine loopF_seq0 (fun j => (if alN (fun i => decide ((rw - fb_sm (rt i) rw) ^ n * b ≤ rw ^ n * a)) j then 1 else 0, nI j)) (2 ^ wd) _ rfl (fun j hj => ?_) ?_ (FU_lt (by omega))
  · unfold B_X10_cap_29
    dsimp only
    rw [h10, shl1 (by omega), if_neg (nI_ge hj (by omega))]
    rw [alN]
    by_cases z : alN (fun i => decide ((rw - fb_sm (rt i) rw) ^ n * b ≤ rw ^ n * a)) j = true
    · have rb : fb_sm (rt j) rw ≤ rw := by
        have := fb_sm_bound (f := rt j) (c := 1) (n := rw) (fun k _ => h6 _ k)
        omega
      rw [if_pos z, if_neg one_ne0, h12, rf10a h hj]
      simp only [b1_some]
      rw [pk_sub rb, nI_l (by omega), nI_l (by omega), powL _ hn, powL _ hn]
      simp only [b1_some]
      rw [nI_l (by omega), nI_l (by omega), lN_mul, lN_mul]
      have e1 := pow_le (x := rw) (n := n) h4 hn
      have e2 := pow_le (x := rw - fb_sm (rt j) rw) (n := n) (by omega) hn
      have e3 := mul_100 (x := (rw - fb_sm (rt j) rw) ^ n) (b := b) (by omega) hb
      have e4 := mul_100 (x := rw ^ n) (b := a) (by omega) ha
      have cc : 0 < lg_cmp (lN ((rw - fb_sm (rt j) rw) ^ n * b)) (lN (rw ^ n * a)) ↔ rw ^ n * a < (rw - fb_sm (rt j) rw) ^ n * b := by rw [cmp_gt, pk_lLT e4 e3]
      by_cases y : (rw - fb_sm (rt j) rw) ^ n * b ≤ rw ^ n * a
      · rw [if_neg (fun k => by rw [cc] at k; omega), if_pos (by rw [Bool.and_eq_true]; exact ⟨z, decide_eq_true y⟩)]
        simp only [b1_some, bn, nI_1]
      · rw [if_pos (cc.mpr (by omega)), if_neg (fun k => by rw [Bool.and_eq_true] at k; exact y (of_decide_eq_true k.2))]
        simp only [b1_some, bn, nI_1]
    · rw [if_neg z, if_pos rfl]
      simp only [b1_some, bn, nI_1]
      rw [if_neg (fun k => z (by rw [Bool.and_eq_true] at k; exact k.1))]
  · unfold B_X10_cap_29
    dsimp only
    rw [h10, shl1 (by omega), if_pos (nI_le (by omega) (by omega))]
theorem cap10 (h : TR S P M nd rw wd dz rt) {a b : Nat} (ha : a ≤ 100) (hb : b ≤ 100) : L_X10_cap_17 (nI a) (nI b) M FU 1 = some (ffI (okC rw (fun i => fb_sm (rt i) rw) (wsN (fun i => fb_sm (rt i) rw) (2 ^ wd - 1)) a b) 7, M) := by
  have p := Nat.two_pow_pos wd
  generalize hk : okC rw (fun i => fb_sm (rt i) rw) (wsN (fun i => fb_sm (rt i) rw) (2 ^ wd - 1)) a b = ok
  have I : ∀ n, n ≤ 7 → L_X10_cap_29 (nI a) (nI b) M (nI n) FU 1 0 = some (if ok n then 1 else 0) := by
    intro n hn
    rw [capI10 h ha hb hn, ← hk, ← okC_eq, show 2 ^ wd - 1 + 1 = 2 ^ wd by omega]
  have key : ∃ x, L_X10_cap_17 (nI a) (nI b) M FU 1 = some x ∧ x = (ffI ok 7, M) := by
    unfold L_X10_cap_17
    refine loopF_inv (fun j x => x = nI (j + 1) ∧ ffI ok 7 = ffI ok (7 - j)) _ 7 ?_ ?_ 7 0 1 FU (by omega) (FU_lt (by omega)) ⟨rfl, rfl⟩
    · rintro j hj x ⟨k1, k2⟩
      subst k1
      unfold B_X10_cap_17
      rw [if_neg (show ¬ (8 : Int32) ≤ nI (j + 1) from nI_ge (b := 8) (by omega) (by decide)), I (j + 1) (by omega)]
      simp only [b1_some]
      rw [ff_s hj] at k2
      by_cases z : ok (j + 1) = true
      · right
        rw [if_pos z] at k2
        rw [if_pos z, if_neg one_ne0]
        exact ⟨_, rfl, by rw [k2]⟩
      · left
        rw [if_neg z] at k2
        rw [if_neg z, if_pos rfl]
        simp only [bn, nI_1]
        exact ⟨_, rfl, rfl, k2⟩
    · rintro x ⟨k1, k2⟩
      subst k1
      refine ⟨(-1, M), ?_, by rw [k2]; rfl⟩
      unfold B_X10_cap_17
      rw [if_pos (show (8 : Int32) ≤ nI (7 + 1) by decide)]
  obtain ⟨x, k1, k2⟩ := key
  rw [k1, k2]
end TRS4
theorem g_cap {P S M : PS} (hR : RP P S M) (p1 p2 : Int32) : OWE P S M (f_X9_cap S P p1 p2) (f_X10_cap M p1 p2) := by
  obtain ⟨nl, nd, rw, wd, kd, ce, aa, ab, ac, dn, dz, h⟩ := id hR
  unfold f_X9_cap f_X10_cap
  rw [ratio9, bound10]
  simp only [b1_some]
  by_cases c1 : (0 ≤ p1.toInt ∧ p1.toInt ≤ 100) ∧ (1 ≤ p2.toInt ∧ p2.toInt ≤ 100)
  · obtain ⟨a, ha, rfl⟩ := nI_four (N := 101) (x := p1) (by omega)
    obtain ⟨b, hb, rfl⟩ := nI_four (N := 101) (x := p2) (by omega)
    rw [if_pos c1, if_neg one_ne0, if_neg one_ne0]
    obtain ⟨S2, P2, M2, rt, x1, x2, x3, x4, x5⟩ := fresh_ok h
    rw [x1, x2]
    simp only [b1_some, b2_some]
    rw [cap7 x5 (by omega) (by omega), cap10 x5 (by omega) (by omega)]
    exact ⟨_, S2, P2, M2, rfl, rfl, ⟨nl, nd, rw, wd, kd, ce, aa, ab, ac, dn, dz, x3⟩, x4.mono (by simp) (by simp) (by simp)⟩
  · rw [if_neg c1, if_pos rfl, if_pos rfl]; exact owe0 hR _
