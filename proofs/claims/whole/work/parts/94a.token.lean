/-! the text's tokens, both sides -/
def TX (T : PS) (n : Nat) (tx : Nat → Nat) : Prop := n ≤ 200 ∧ T.1 1 = nI n ∧ ∀ j, j < n → T.2.1 0 j = nI (tx j) ∧ tx j < 256
theorem TX.of {T M : PS} (h : RText T M) : ∃ n tx, TX T n tx ∧ TX M n tx := by
  obtain ⟨n, h1, h2, h3, h4⟩ := h
  refine ⟨n, fun j => (T.2.1 0 j).toNatClampNeg, ⟨h1, h2, fun j hj => ?_⟩, ⟨h1, h3, fun j hj => ?_⟩⟩
  · obtain ⟨x, a, b, c⟩ := h4 j hj
    dsimp only
    rw [b, nI_clamp (by omega)]
    exact ⟨rfl, a⟩
  · obtain ⟨x, a, b, c⟩ := h4 j hj
    dsimp only
    rw [b, c, nI_clamp (by omega)]
    exact ⟨rfl, a⟩
def clN (c : Nat) : Nat := if 97 ≤ c ∧ c ≤ 122 then 1 else if 48 ≤ c ∧ c ≤ 57 then 2 else if c = 32 then 4 else 3
theorem sort3 : ∀ c, c < 256 → f_X3_sortOf (nI c) = some (nI (clN c)) := by decide +kernel
theorem sort10 : ∀ c, c < 256 → f_X10_sort (nI c) = some (nI (if clN c ≤ 2 then clN c else 0)) := by decide +kernel
theorem cl_le (c : Nat) : 1 ≤ clN c ∧ clN c ≤ 4 := by unfold clN; split <;> (try split) <;> (try split) <;> omega
theorem cl_4 (c : Nat) : clN c = 4 ↔ c = 32 := by
  unfold clN
  split
  · omega
  · split
    · omega
    · split <;> omega
/-- behind what is of the class w, from p on, d places at most -/
def bhF (tx : Nat → Nat) (w : Nat) : Nat → Nat → Nat
  | 0, p => p
  | d + 1, p => if clN (tx p) = w then bhF tx w d (p + 1) else p
theorem bh_rng (tx : Nat → Nat) (w : Nat) : ∀ d p, p ≤ bhF tx w d p ∧ bhF tx w d p ≤ p + d
  | 0, p => ⟨Nat.le_refl _, Nat.le_refl _⟩
  | d + 1, p => by
    have := bh_rng tx w d (p + 1)
    rw [bhF]
    split <;> omega
theorem bh_stop (tx : Nat → Nat) (w : Nat) : ∀ d p, bhF tx w d p < p + d → ¬ clN (tx (bhF tx w d p)) = w
  | 0, p, h => by rw [bhF] at h; omega
  | d + 1, p, h => by
    rw [bhF] at h ⊢
    by_cases c : clN (tx p) = w
    · rw [if_pos c] at h ⊢
      exact bh_stop tx w d (p + 1) (by omega)
    · rw [if_neg c]
      exact c
section TOK
variable {T M R : PS} {n : Nat} {tx : Nat → Nat}
theorem at_ok (hT : TX T n tx) {p : Nat} (hp : p < n) : f_X6_at T (nI p) = some (nI (tx p)) := by
  obtain ⟨h1, h2, h3⟩ := hT
  unfold f_X6_at
  rw [if_neg (nI_pos (by omega)), h2, if_neg (nI_ge hp (by omega)), if_neg (show ¬ (200 : Int32) ≤ nI p from nI_ge (b := 200) (by omega) (by decide)), rdI_nI (by omega) (by decide), (h3 p hp).1]
  rfl
theorem at_end (hT : TX T n tx) : f_X6_at T (nI n) = some (-1) := by
  obtain ⟨h1, h2, h3⟩ := hT
  unfold f_X6_at
  rw [if_neg (nI_pos (by omega)), h2, if_pos (nI_le (Nat.le_refl _) (by omega))]
  rfl
theorem beL (hT : TX T n tx) {w : Nat} (hw : w ≤ 4) : ∀ d p f, p + d = n → d < f → L_X3_behind_2 T (nI w) f (nI p) = some (nI (bhF tx w d p))
  | 0, p, f, hp, hf => by
    obtain ⟨f, rfl⟩ : ∃ m, f = m + 1 := ⟨f - 1, by omega⟩
    unfold L_X3_behind_2
    refine loopF_out ?_
    unfold B_X3_behind_2
    rw [hT.2.1, if_pos (nI_le (by omega) (by have := hT.1; omega))]
    rfl
  | d + 1, p, f, hp, hf => by
    obtain ⟨f, rfl⟩ : ∃ m, f = m + 1 := ⟨f - 1, by omega⟩
    have h200 := hT.1
    have hc := cl_le (tx p)
    have ih := beL hT hw d (p + 1) f (by omega) (by omega)
    unfold L_X3_behind_2 at ih ⊢
    have B : B_X3_behind_2 T (nI w) (nI p) = if clN (tx p) = w then some (.inl (nI (p + 1))) else some (.inr (nI p)) := by
      unfold B_X3_behind_2
      rw [hT.2.1, if_neg (nI_ge (by omega) (by omega)), at_ok hT (by omega), b1_some, sort3 _ (hT.2.2 p (by omega)).2, b1_some]
      by_cases c : clN (tx p) = w
      · rw [if_pos c, if_pos (by rw [c]), bn_rw, nI_1]
      · rw [if_neg c, if_neg (fun z => c ((nI_eq (by omega) (by omega)).mp z))]
    rw [bhF]
    by_cases c : clN (tx p) = w
    · rw [if_pos c] at B ⊢
      rw [loopF_in (B := fun x => B_X3_behind_2 T (nI w) x) B]
      exact ih
    · rw [if_neg c] at B ⊢
      exact loopF_out B
theorem be_ok (hT : TX T n tx) {w p : Nat} (hw : w ≤ 4) (hp : p ≤ n) : f_X3_behind R T (nI p) (nI w) = some (nI (bhF tx w (n - p) p)) := by
  have h200 := hT.1
  unfold f_X3_behind
  rw [beL hT hw (n - p) p FU (by omega) (FU_lt (by omega))]
  rfl
/-- the token that begins at b: its sort (0 the end, 1 a word, 2 a number, 3 a sign), its end -/
def soN (n : Nat) (tx : Nat → Nat) (b : Nat) : Nat := if b < n then clN (tx b) else 0
def enN (n : Nat) (tx : Nat → Nat) (b : Nat) : Nat := if b < n then (if clN (tx b) ≤ 2 then bhF tx (clN (tx b)) (n - (b + 1)) (b + 1) else b + 1) else b
theorem en_le {b : Nat} (hb : b ≤ n) : b ≤ enN n tx b ∧ enN n tx b ≤ n := by
  unfold enN
  split
  · split
    · have := bh_rng tx (clN (tx b)) (n - (b + 1)) (b + 1)
      omega
    · omega
  · omega
/-- both readers stand at the token that begins at b -/
def TK (n : Nat) (tx : Nat → Nat) (R M : PS) (b : Nat) : Prop := b ≤ n ∧ (b < n → ¬ tx b = 32) ∧ R.1 1 = nI b ∧ R.1 2 = nI (enN n tx b) ∧ R.1 3 = nI (soN n tx b) ∧ M.1 28 = nI (enN n tx b) ∧ M.1 29 = nI b ∧ M.1 30 = nI (enN n tx b)
theorem bl10 (hM : TX M n tx) : ∀ d p f (N : PS), SX [28, 29, 30] [] [] M N → N.1 28 = nI p → p + d = n → d < f → ∃ N2, L_X10_token_0 f N = some N2 ∧ SX [28, 29, 30] [] [] M N2 ∧ N2.1 28 = nI (bhF tx 4 d p)
  | 0, p, f, N, s, h, hp, hf => by
    obtain ⟨f, rfl⟩ : ∃ m, f = m + 1 := ⟨f - 1, by omega⟩
    refine ⟨N, ?_, s, h⟩
    unfold L_X10_token_0
    refine loopF_out ?_
    unfold B_X10_token_0
    rw [s.1 1 (by simp), hM.2.1, h, if_pos (nI_le (by omega) (by have := hM.1; omega))]
  | d + 1, p, f, N, s, h, hp, hf => by
    obtain ⟨f, rfl⟩ : ∃ m, f = m + 1 := ⟨f - 1, by omega⟩
    have h200 := hM.1
    have c256 := (hM.2.2 p (by omega)).2
    unfold L_X10_token_0
    have B : B_X10_token_0 N = if clN (tx p) = 4 then some (.inl (sI N 28 (nI (p + 1)))) else some (.inr N) := by
      unfold B_X10_token_0
      rw [s.1 1 (by simp), hM.2.1, h, if_neg (nI_ge (by omega) (by omega)), rdI_nI (by omega) (by decide), s.2.1 0 (by simp), (hM.2.2 p (by omega)).1, b1_some]
      by_cases c : clN (tx p) = 4
      · rw [if_pos c, if_pos (by rw [(cl_4 _).mp c]; rfl), bn_rw, nI_1]
      · have q : ¬ nI (tx p) = (32 : Int32) := fun z => c ((cl_4 _).mpr ((nI_eq (b := 32) (by omega) (by decide)).mp z))
        rw [if_neg c, if_neg q]
    rw [bhF]
    by_cases c : clN (tx p) = 4
    · rw [if_pos c] at B ⊢
      rw [loopF_in (B := fun x => B_X10_token_0 x) B]
      exact bl10 hM d (p + 1) f (sI N 28 (nI (p + 1))) (s.sI _ (by decide)) rfl (by omega) (by omega)
    · rw [if_neg c] at B ⊢
      exact ⟨N, loopF_out B, s, h⟩
theorem tk10 (hM : TX M n tx) {b : Nat} (hb : b < n) (hc : clN (tx b) ≤ 2) : ∀ d p f (N : PS), SX [28, 29, 30] [] [] M N → N.1 28 = nI p → N.1 29 = nI b → p + d = n → d < f → ∃ N2, L_X10_token_71 f N = some N2 ∧ SX [28, 29, 30] [] [] M N2 ∧ N2.1 28 = nI (bhF tx (clN (tx b)) d p) ∧ N2.1 29 = nI b
  | 0, p, f, N, s, h, h29, hp, hf => by
    obtain ⟨f, rfl⟩ : ∃ m, f = m + 1 := ⟨f - 1, by omega⟩
    refine ⟨N, ?_, s, h, h29⟩
    unfold L_X10_token_71
    refine loopF_out ?_
    unfold B_X10_token_71
    rw [s.1 1 (by simp), hM.2.1, h, if_pos (nI_le (by omega) (by have := hM.1; omega))]
  | d + 1, p, f, N, s, h, h29, hp, hf => by
    obtain ⟨f, rfl⟩ : ∃ m, f = m + 1 := ⟨f - 1, by omega⟩
    have h200 := hM.1
    have hl := cl_le (tx b)
    have hl2 := cl_le (tx p)
    unfold L_X10_token_71
    have B : B_X10_token_71 N = if clN (tx p) = clN (tx b) then some (.inl (sI N 28 (nI (p + 1)))) else some (.inr N) := by
      unfold B_X10_token_71
      rw [s.1 1 (by simp), hM.2.1, h, if_neg (nI_ge (by omega) (by omega)), h29, rdI_nI (by omega) (by decide), s.2.1 0 (by simp), (hM.2.2 b hb).1, b1_some, sort10 _ (hM.2.2 b hb).2, b1_some, if_pos hc, if_neg (nI_nle (by omega) (by omega)), rdI_nI (by omega) (by decide), (hM.2.2 p (by omega)).1, b1_some, sort10 _ (hM.2.2 p (by omega)).2, b1_some, b1_some, sort10 _ (hM.2.2 b hb).2, b1_some, if_pos hc]
      by_cases c : clN (tx p) = clN (tx b)
      · rw [if_pos c, if_pos (by rw [if_pos (by omega), c]), bn_rw, nI_1]
      · rw [if_neg c, if_neg (fun z => ?_)]
        rw [nI_eq (by split <;> omega) (by omega)] at z
        split at z <;> omega
    rw [bhF]
    by_cases c : clN (tx p) = clN (tx b)
    · rw [if_pos c] at B ⊢
      rw [loopF_in (B := fun x => B_X10_token_71 x) B]
      exact tk10 hM hb hc d (p + 1) f (sI N 28 (nI (p + 1))) (s.sI _ (by decide)) rfl h29 (by omega) (by omega)
    · rw [if_neg c] at B ⊢
      exact ⟨N, loopF_out B, s, h, h29⟩
/-- the next token, the reference -/
theorem tok10 (hM : TX M n tx) {e : Nat} (he : e ≤ n) (h28 : M.1 28 = nI e) : ∃ M2, f_X10_token M = some M2 ∧ SX [28, 29, 30] [] [] M M2 ∧ M2.1 28 = nI (enN n tx (bhF tx 4 (n - e) e)) ∧ M2.1 29 = nI (bhF tx 4 (n - e) e) ∧ M2.1 30 = nI (enN n tx (bhF tx 4 (n - e) e)) := by
  have h200 := hM.1
  obtain ⟨N, a1, a2, a3⟩ := bl10 hM (n - e) e FU M SX.rf h28 (by omega) (FU_lt (by omega))
  have rg := bh_rng tx 4 (n - e) e
  generalize bhF tx 4 (n - e) e = b at *
  unfold f_X10_token
  rw [a1, b1_some, bn_rw]
  have n1 : (sI N 29 (N.1 28)).1 1 = nI n := (a2.1 1 (by simp)).trans hM.2.1
  have n28 : (sI N 29 (N.1 28)).1 28 = nI b := a3
  rw [n1, n28]
  by_cases c : b < n
  · rw [if_neg (nI_ge c (by omega)), b1_some, bn_rw, nI_1]
    have s2 : SX [28, 29, 30] [] [] M (sI (sI N 29 (N.1 28)) 28 (nI (b + 1))) := (a2.sI _ (by decide)).sI _ (by decide)
    have g29 : (sI (sI N 29 (N.1 28)) 28 (nI (b + 1))).1 29 = nI b := a3
    by_cases c2 : clN (tx b) ≤ 2
    · obtain ⟨N2, y1, y2, y3, y4⟩ := tk10 hM c c2 (n - (b + 1)) (b + 1) FU _ s2 rfl g29 (by omega) (FU_lt (by omega))
      rw [y1, b1_some, bn_rw]
      have e : enN n tx b = bhF tx (clN (tx b)) (n - (b + 1)) (b + 1) := by unfold enN; rw [if_pos c, if_pos c2]
      refine ⟨_, rfl, y2.sI _ (by decide), ?_, y4, ?_⟩
      · rw [e]; exact y3
      · rw [e]; exact y3
    · have e : enN n tx b = b + 1 := by unfold enN; rw [if_pos c, if_neg c2]
      have B : B_X10_token_71 (sI (sI N 29 (N.1 28)) 28 (nI (b + 1))) = some (.inr (sI (sI N 29 (N.1 28)) 28 (nI (b + 1)))) := by
        unfold B_X10_token_71
        by_cases d : b + 1 < n
        · rw [s2.1 1 (by simp), hM.2.1, show (sI (sI N 29 (N.1 28)) 28 (nI (b + 1))).1 28 = nI (b + 1) from rfl, if_neg (nI_ge d (by omega)), g29, rdI_nI (by omega) (by decide), s2.2.1 0 (by simp), (hM.2.2 b c).1, b1_some, sort10 _ (hM.2.2 b c).2, b1_some, if_neg c2, if_pos (show nI 0 ≤ 0 by decide)]
        · rw [s2.1 1 (by simp), hM.2.1, show (sI (sI N 29 (N.1 28)) 28 (nI (b + 1))).1 28 = nI (b + 1) from rfl, if_pos (nI_le (by omega) (by omega))]
      have L : L_X10_token_71 FU (sI (sI N 29 (N.1 28)) 28 (nI (b + 1))) = some (sI (sI N 29 (N.1 28)) 28 (nI (b + 1))) := by
        unfold L_X10_token_71 FU
        exact loopF_out B
      rw [L, b1_some, bn_rw, e]
      exact ⟨_, rfl, s2.sI _ (by decide), rfl, g29, rfl⟩
  · have bn' : b = n := by omega
    rw [if_pos (nI_le (by omega) (by omega)), b1_some, bn_rw]
    have e : enN n tx b = b := by unfold enN; rw [if_neg c]
    have z : nI b + (0 : Int32) = nI b := by rw [show (0 : Int32) = nI 0 from rfl, nI_add, Nat.add_zero]
    rw [z]
    have s2 : SX [28, 29, 30] [] [] M (sI (sI N 29 (N.1 28)) 28 (nI b)) := (a2.sI _ (by decide)).sI _ (by decide)
    have g29 : (sI (sI N 29 (N.1 28)) 28 (nI b)).1 29 = nI b := a3
    have B : B_X10_token_71 (sI (sI N 29 (N.1 28)) 28 (nI b)) = some (.inr (sI (sI N 29 (N.1 28)) 28 (nI b))) := by
      unfold B_X10_token_71
      rw [s2.1 1 (by simp), hM.2.1, show (sI (sI N 29 (N.1 28)) 28 (nI b)).1 28 = nI b from rfl, if_pos (nI_le (by omega) (by omega))]
    have L : L_X10_token_71 FU (sI (sI N 29 (N.1 28)) 28 (nI b)) = some (sI (sI N 29 (N.1 28)) 28 (nI b)) := by
      unfold L_X10_token_71 FU
      exact loopF_out B
    rw [L, b1_some, bn_rw, e]
    exact ⟨_, rfl, s2.sI _ (by decide), rfl, g29, rfl⟩
/-- the next token, the class -/
theorem stp3 (hT : TX T n tx) {e : Nat} (he : e ≤ n) (h2 : R.1 2 = nI e) : ∃ R2, f_X3_step R T = some R2 ∧ R2.1 1 = nI (bhF tx 4 (n - e) e) ∧ R2.1 2 = nI (enN n tx (bhF tx 4 (n - e) e)) ∧ R2.1 3 = nI (soN n tx (bhF tx 4 (n - e) e)) := by
  have h200 := hT.1
  have rg := bh_rng tx 4 (n - e) e
  have b1' : f_X3_behind R T (nI e) 4 = some (nI (bhF tx 4 (n - e) e)) := be_ok hT (w := 4) (by decide) he
  have st := bh_stop tx 4 (n - e) e
  generalize bhF tx 4 (n - e) e = b at *
  unfold f_X3_step
  rw [h2, b1', b1_some, bn_rw, show (sI R 1 (nI b)).1 1 = nI b from rfl]
  by_cases c : b < n
  · have hc := cl_le (tx b)
    have ns := st (by omega)
    rw [at_ok hT c, b1_some, sort3 _ (hT.2.2 b c).2, b1_some, bn_rw]
    have s : soN n tx b = clN (tx b) := by unfold soN; rw [if_pos c]
    have g3 : (sI (sI R 1 (nI b)) 3 (nI (clN (tx b)))).1 3 = nI (clN (tx b)) := rfl
    have g1 : (sI (sI R 1 (nI b)) 3 (nI (clN (tx b)))).1 1 = nI b := rfl
    rw [g3, g1, s]
    by_cases c2 : clN (tx b) ≤ 2
    · have e2 : enN n tx b = bhF tx (clN (tx b)) (n - b) b := by
        unfold enN
        rw [if_pos c, if_pos c2, show n - b = (n - (b + 1)) + 1 by omega, bhF, if_pos rfl]
      rw [be_ok hT (by omega) (by omega), b1_some, e2]
      rcases (show clN (tx b) = 1 ∨ clN (tx b) = 2 by omega) with q | q
      · rw [q, if_pos (show nI 1 = 1 from rfl)]
        exact ⟨_, rfl, rfl, rfl, rfl⟩
      · rw [q, if_neg (show ¬ nI 2 = 1 by decide), if_pos (show nI 2 = 2 from rfl)]
        exact ⟨_, rfl, rfl, rfl, rfl⟩
    · have e2 : enN n tx b = b + 1 := by unfold enN; rw [if_pos c, if_neg c2]
      have q : clN (tx b) = 3 := by omega
      rw [q, if_neg (show ¬ nI 3 = 1 by decide), if_neg (show ¬ nI 3 = 2 by decide), if_neg (show ¬ nI 3 = 0 by decide), b1_some, bn_rw, nI_1, e2]
      exact ⟨_, rfl, rfl, rfl, rfl⟩
  · have bn' : b = n := by omega
    subst bn'
    have s : soN b tx b = 0 := by unfold soN; rw [if_neg c]
    have e2 : enN b tx b = b := by unfold enN; rw [if_neg c]
    rw [at_end hT, b1_some, show f_X3_sortOf (-1) = some 0 from rfl, b1_some, bn_rw]
    have g3 : (sI (sI R 1 (nI b)) 3 0).1 3 = 0 := rfl
    have g1 : (sI (sI R 1 (nI b)) 3 0).1 1 = nI b := rfl
    rw [g3, g1, if_neg (show ¬ (0 : Int32) = 1 by decide), if_neg (show ¬ (0 : Int32) = 2 by decide), if_pos rfl, b1_some, bn_rw, s, e2]
    exact ⟨_, rfl, rfl, rfl, rfl⟩
/-- both go to the next token -/
theorem tk_go (hT : TX T n tx) (hM : TX M n tx) {e : Nat} (he : e ≤ n) (h2 : R.1 2 = nI e) (h28 : M.1 28 = nI e) : ∃ R2 M2 b, f_X3_step R T = some R2 ∧ f_X10_token M = some M2 ∧ TK n tx R2 M2 b ∧ SX [28, 29, 30] [] [] M M2 := by
  obtain ⟨M2, a1, a2, a3, a4, a5⟩ := tok10 hM he h28
  obtain ⟨R2, b1, b2, b3, b4⟩ := stp3 hT he h2
  have rg := bh_rng tx 4 (n - e) e
  have st := bh_stop tx 4 (n - e) e
  exact ⟨R2, M2, _, b1, a1, ⟨by omega, fun c z => st (by omega) ((cl_4 _).mpr z), b2, b3, b4, a3, a4, a5⟩, a2⟩
end TOK
