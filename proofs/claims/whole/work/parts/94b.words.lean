/-! numbers and words, both sides -/
def nmI (tx : Nat → Nat) : Nat → Nat → Int32 → Int32
  | 0, _, v => v
  | d + 1, p, v => nmI tx d (p + 1) (10 * v + nI (tx p) - 48)
section NUM
variable {T M R : PS} {n : Nat} {tx : Nat → Nat}
theorem nm3L (hT : TX T n tx) {e : Nat} (he : e ≤ n) (h2 : R.1 2 = nI e) : ∀ d p f v, p + d = e → d < f → L_X3_number_7 R T f v (nI p) = some (nmI tx d p v)
  | 0, p, f, v, hp, hf => by
    obtain ⟨f, rfl⟩ : ∃ m, f = m + 1 := ⟨f - 1, by omega⟩
    unfold L_X3_number_7
    refine loopF_out ?_
    unfold B_X3_number_7
    dsimp only
    rw [h2, if_pos (nI_le (by omega) (by have := hT.1; omega))]
    rfl
  | d + 1, p, f, v, hp, hf => by
    obtain ⟨f, rfl⟩ : ∃ m, f = m + 1 := ⟨f - 1, by omega⟩
    have h200 := hT.1
    have ih := nm3L hT he h2 d (p + 1) f (10 * v + nI (tx p) - 48) (by omega) (by omega)
    unfold L_X3_number_7 at ih ⊢
    have B : B_X3_number_7 R T v (nI p) = some (.inl (10 * v + nI (tx p) - 48, nI (p + 1))) := by
      unfold B_X3_number_7
      rw [h2, if_neg (nI_ge (by omega) (by omega)), at_ok hT (by omega), b1_some, bn_rw, bn_rw, nI_1]
    rw [loopF_in (B := fun x : Int32 × Int32 => B_X3_number_7 R T x.1 x.2) B]
    exact ih
theorem nm10L (hM : TX M n tx) {e : Nat} (he : e ≤ n) (h30 : M.1 30 = nI e) : ∀ d p f v (N : PS), SX [31] [] [] M N → N.1 31 = v → p + d = e → d < f → ∃ N2, L_X10_isNumber_57 1 f (nI p) N = some N2 ∧ SX [31] [] [] M N2 ∧ N2.1 31 = nmI tx d p v
  | 0, p, f, v, N, s, h, hp, hf => by
    obtain ⟨f, rfl⟩ : ∃ m, f = m + 1 := ⟨f - 1, by omega⟩
    refine ⟨N, ?_, s, h⟩
    unfold L_X10_isNumber_57
    refine loopF_out ?_
    unfold B_X10_isNumber_57
    dsimp only
    rw [if_neg one_ne0, s.1 30 (by simp), h30, if_pos (nI_le (by omega) (by have := hM.1; omega))]
  | d + 1, p, f, v, N, s, h, hp, hf => by
    obtain ⟨f, rfl⟩ : ∃ m, f = m + 1 := ⟨f - 1, by omega⟩
    have h200 := hM.1
    unfold L_X10_isNumber_57
    have B : B_X10_isNumber_57 1 (nI p) N = some (.inl (nI (p + 1), sI N 31 (10 * v + nI (tx p) - 48))) := by
      unfold B_X10_isNumber_57
      rw [if_neg one_ne0, s.1 30 (by simp), h30, if_neg (nI_ge (by omega) (by omega)), rdI_nI (by omega) (by decide), s.2.1 0 (by simp), (hM.2.2 p (by omega)).1, b1_some, bn_rw, bn_rw, nI_1, h]
    rw [loopF_in (B := fun x : Int32 × PS => B_X10_isNumber_57 1 x.1 x.2) B]
    exact nm10L hM he h30 d (p + 1) f (10 * v + nI (tx p) - 48) (sI N 31 (10 * v + nI (tx p) - 48)) (s.sI _ (by decide)) rfl (by omega) (by omega)
theorem so_2 {b : Nat} : soN n tx b = 2 ↔ b < n ∧ clN (tx b) = 2 := by
  unfold soN
  split <;> omega
theorem so_1 {b : Nat} : soN n tx b = 1 ↔ b < n ∧ clN (tx b) = 1 := by
  unfold soN
  split <;> omega
theorem so_le (n : Nat) (tx : Nat → Nat) (b : Nat) : soN n tx b ≤ 4 := by
  have := cl_le (tx b)
  unfold soN
  split <;> omega
theorem num_ok (hT : TX T n tx) (hM : TX M n tx) {b : Nat} (k : TK n tx R M b) {lo hi : Nat} (hlo : lo ≤ 15) (hhi : hi ≤ 15) : ∃ fl M1, f_X3_isNumberWithin R T (nI lo) (nI hi) = some fl ∧ f_X10_isNumber M (nI lo) (nI hi) = some (fl, M1) ∧ SX [31] [] [] M M1 ∧ (fl = 0 ∨ (fl = 1 ∧ soN n tx b = 2 ∧ ∃ v, f_X3_number R T = some (nI v) ∧ M1.1 31 = nI v ∧ lo ≤ v ∧ v ≤ hi)) := by
  have h200 := hT.1
  obtain ⟨t1, t2, t3, t4, t5, t6, t7, t8⟩ := k
  have en := en_le (n := n) (tx := tx) t1
  have hc := cl_le (tx b)
  have hs := so_le n tx b
  unfold f_X3_isNumberWithin f_X10_isNumber
  rw [hM.2.1, t3, t4, t5, t7, t8, pk_sub en.1]
  simp only [bn]
  by_cases c : soN n tx b = 2
  · obtain ⟨c1, c2⟩ := so_2.mp c
    rw [if_neg (nI_ge c1 (by omega)), rdI_nI (by omega) (by decide), (hM.2.2 b c1).1, b1_some, sort10 _ (hM.2.2 b c1).2, b1_some, c2, if_pos (by decide : (2 : Nat) ≤ 2), if_pos (show nI 2 = 2 from rfl), c, if_pos (show nI 2 = 2 from rfl)]
    by_cases c3 : enN n tx b - b ≤ 2
    · have g29 : (sI M 31 0).1 29 = nI b := t7
      have e3 := nm3L (R := R) hT en.2 t4 (enN n tx b - b) b FU 0 (by omega) (FU_lt (by omega))
      obtain ⟨N2, y1, y2, y3⟩ := nm10L hM en.2 t8 (enN n tx b - b) b FU 0 (sI M 31 0) (SX.rf.sI _ (by decide)) rfl (by omega) (FU_lt (by omega))
      have nu : f_X3_number R T = some (nmI tx (enN n tx b - b) b 0) := by
        unfold f_X3_number
        rw [bn_rw, t3, e3]
        rfl
      rw [if_neg (show ¬ (2 : Int32) < nI (enN n tx b - b) from nI_nlt (a := 2) c3 (by decide)), b1_some, g29, y1, b1_some, if_neg one_ne0, y3, if_pos (show nI (enN n tx b - b) ≤ 2 from nI_le (b := 2) c3 (by decide)), nu, b1_some]
      generalize nmI tx (enN n tx b - b) b 0 = v at *
      rw [in_32 v _ _ lo hi (toI_lN (by omega)) (toI_lN (by omega)), b1_some]
      by_cases q : (lo : Int) ≤ v.toInt ∧ v.toInt ≤ hi
      · obtain ⟨x, hx, rfl⟩ := nI_four (N := hi + 1) (x := v) (by omega)
        rw [nI_toInt (by omega)] at q
        rw [if_pos (show (lo : Int) ≤ (nI x).toInt ∧ (nI x).toInt ≤ hi by rw [nI_toInt (by omega)]; exact q), if_neg one_ne0, b1_some, if_neg (nI_nlt (by omega) (by omega)), if_neg (nI_nlt (by omega) (by omega)), b1_some, ck_1, b1_some, b1_some]
        exact ⟨1, N2, rfl, rfl, y2, Or.inr ⟨rfl, rfl, x, rfl, y3, by omega, by omega⟩⟩
      · rw [if_neg q, if_pos rfl, b1_some, ck_0, b1_some]
        refine ⟨0, N2, ?_, rfl, y2, Or.inl rfl⟩
        by_cases z : v < nI lo
        · rw [if_pos z]; rfl
        · rw [if_neg z, if_pos]
          · rfl
          · rw [ltL v _ lo (nI_toInt (by omega))] at z
            rw [gtL v _ hi (nI_toInt (by omega))]
            omega
    · rw [if_pos (show (2 : Int32) < nI (enN n tx b - b) from nI_lt (a := 2) (by omega) (by omega)), b1_some, if_neg (show ¬ nI (enN n tx b - b) ≤ 2 from nI_ge (a := 2) (by omega) (by omega))]
      have L : L_X10_isNumber_57 0 FU ((sI M 31 0).1 29) (sI M 31 0) = some (sI M 31 0) := by
        unfold L_X10_isNumber_57 FU
        refine loopF_out ?_
        unfold B_X10_isNumber_57
        dsimp only
        rw [if_pos rfl]
      rw [L, b1_some, if_pos rfl]
      exact ⟨0, sI M 31 0, rfl, rfl, SX.rf.sI _ (by decide), Or.inl rfl⟩
  · have q : ¬ nI (soN n tx b) = (2 : Int32) := fun z => c ((nI_eq (b := 2) (by omega) (by decide)).mp z)
    rw [if_neg q]
    have L : L_X10_isNumber_57 0 FU ((sI M 31 0).1 29) (sI M 31 0) = some (sI M 31 0) := by
      unfold L_X10_isNumber_57 FU
      refine loopF_out ?_
      unfold B_X10_isNumber_57
      dsimp only
      rw [if_pos rfl]
    have V : (if nI n ≤ nI b then some (0 : Int32) else b1 (rdI 200 (M.2.1 0) (nI b)) fun v3 => b1 (f_X10_sort v3) fun v4 => if v4 = 2 then (if 2 < nI (enN n tx b - b) then some 0 else some 1) else some 0) = some 0 := by
      by_cases d : b < n
      · rw [if_neg (nI_ge d (by omega)), rdI_nI (by omega) (by decide), (hM.2.2 b d).1, b1_some, sort10 _ (hM.2.2 b d).2, b1_some, if_neg]
        intro z
        apply c
        rw [so_2]
        refine ⟨d, ?_⟩
        have := (nI_eq (b := 2) (by split <;> omega) (by decide)).mp z
        split at this <;> omega
      · rw [if_pos (nI_le (by omega) (by omega))]
    rw [V, b1_some, L, b1_some, if_pos rfl]
    exact ⟨0, sI M 31 0, rfl, rfl, SX.rf.sI _ (by decide), Or.inl rfl⟩
def wlN (w i : Nat) : Nat := (([[100, 114, 97, 119], [105, 110], [105, 115], [97, 100, 100], [109, 117, 108], [120, 111, 114], [108, 101, 115, 115], [112, 105, 99, 107], [111, 117, 116]] : List (List Nat)).getD w []).getD i 0
def cdI (w : Nat) : Int32 := [755268, 457, 617, 4225, 12973, 18936, 642220, 363824, 21167].getD w 0
abbrev lnN (w : Nat) : Nat := sLen.getD w 0
theorem wl_ok : ∀ w, w < 9 → 2 ≤ lnN w ∧ lnN w ≤ 4 ∧ ∀ i, i < lnN w → sCh w (nI i) = some (nI (wlN w i)) ∧ 96 + ((cdI w >>> ((5 * nI i) &&& 31)) &&& 31) = nI (wlN w i) ∧ 97 ≤ wlN w i ∧ wlN w i ≤ 122 := by decide +kernel
theorem wl_one : ∀ w, w < 9 → ∀ v, v < 9 → lnN w = lnN v → (∀ i, i < lnN w → wlN w i = wlN v i) → w = v := by decide +kernel
/-- the word w stands at b -/
def MW (n : Nat) (tx : Nat → Nat) (b w : Nat) : Prop := b < n ∧ clN (tx b) = 1 ∧ enN n tx b - b = lnN w ∧ ∀ i, i < lnN w → tx (b + i) = wlN w i
theorem MW.one {b w v : Nat} (hw : w < 9) (hv : v < 9) (h : MW n tx b w) (g : MW n tx b v) : w = v := by
  obtain ⟨h1, h2, h3, h4⟩ := h
  obtain ⟨g1, g2, g3, g4⟩ := g
  refine wl_one w hw v hv (by omega) (fun i hi => ?_)
  rw [← h4 i hi, ← g4 i (by omega)]
theorem word3 (hT : TX T n tx) {b : Nat} (k : TK n tx R M b) {w : Nat} (hw : w < 9) : ∃ fl, f_X3_isWord R T w = some fl ∧ (fl = 0 ∨ fl = 1) ∧ (fl = 1 ↔ MW n tx b w) := by
  have h200 := hT.1
  obtain ⟨t1, t2, t3, t4, t5, t6, t7, t8⟩ := k
  obtain ⟨w1, w2, w3⟩ := wl_ok w hw
  have w4 : sLen.getD w 0 ≤ 4 := w2
  have en := en_le (n := n) (tx := tx) t1
  have hs := so_le n tx b
  unfold f_X3_isWord
  rw [t3, t4, t5, pk_sub en.1, bn_rw]
  by_cases c : soN n tx b = 1
  · obtain ⟨c1, c2⟩ := so_1.mp c
    rw [c, if_pos (show nI 1 = 1 from rfl)]
    by_cases d : enN n tx b - b = lnN w
    · rw [if_pos (by rw [d])]
      unfold L_X3_isWord_28
      have key : ∃ fl, loopF (fun x : Int32 => B_X3_isWord_28 R T w x) FU 0 = some fl ∧ ((fl = 0 ∨ fl = 1) ∧ (fl = 1 ↔ MW n tx b w)) := by
        refine loopF_inv (fun j v => v = nI j ∧ ∀ i, i < j → tx (b + i) = wlN w i) _ (lnN w) ?_ ?_ (lnN w) 0 0 FU (by omega) (FU_lt (by omega)) ⟨rfl, fun i hi => by omega⟩
        · rintro j hj v ⟨k1, k2⟩
          subst k1
          obtain ⟨x1, x2, x3, x4⟩ := w3 j hj
          have tb := (hT.2.2 (b + j) (by omega)).2
          unfold B_X3_isWord_28
          rw [bn_rw, if_neg (nI_ge hj (by omega)), t3, nI_add, at_ok hT (by omega), b1_some, x1, b1_some]
          by_cases z : tx (b + j) = wlN w j
          · left
            rw [if_pos (by rw [z]), bn_rw, nI_1]
            refine ⟨_, rfl, rfl, fun i hi => ?_⟩
            by_cases y : i = j
            · rw [y]; exact z
            · exact k2 i (by omega)
          · right
            rw [if_neg (fun y => z ((nI_eq (by omega) (by omega)).mp y))]
            exact ⟨0, rfl, Or.inl rfl, fun y => absurd y (by decide), fun y => absurd (y.2.2.2 j hj) z⟩
        · rintro v ⟨k1, k2⟩
          subst k1
          refine ⟨1, ?_, Or.inr rfl, fun _ => ⟨c1, c2, d, k2⟩, fun _ => rfl⟩
          unfold B_X3_isWord_28
          rw [bn_rw, if_pos (nI_le (Nat.le_refl _) (by omega))]
      exact key
    · rw [if_neg (fun z => d ((nI_eq (by omega) (by omega)).mp z))]
      exact ⟨0, rfl, Or.inl rfl, fun y => absurd y (by decide), fun y => absurd y.2.2.1 d⟩
  · have q : ¬ nI (soN n tx b) = (1 : Int32) := fun z => c ((nI_eq (b := 1) (by omega) (by decide)).mp z)
    rw [if_neg q]
    exact ⟨0, rfl, Or.inl rfl, fun y => absurd y (by decide), fun y => absurd (so_1.mpr ⟨y.1, y.2.1⟩) c⟩
theorem word10 (hM : TX M n tx) {b : Nat} (hb : b ≤ n) (t7 : M.1 29 = nI b) (t8 : M.1 30 = nI (enN n tx b)) {w : Nat} (hw : w < 9) : ∃ fl, f_X10_isWord M (cdI w) (nI (lnN w)) = some fl ∧ (fl = 0 ∨ fl = 1) ∧ (fl = 1 ↔ MW n tx b w) := by
  have h200 := hM.1
  obtain ⟨w1, w2, w3⟩ := wl_ok w hw
  have w4 : sLen.getD w 0 ≤ 4 := w2
  have en := en_le (n := n) (tx := tx) hb
  have full : enN n tx b - b = lnN w → (∀ i, i < lnN w → tx (b + i) = wlN w i) → MW n tx b w := by
    intro d h
    have bn' : b < n := by
      by_cases c : b < n
      · exact c
      · unfold enN at d
        rw [if_neg c] at d
        omega
    refine ⟨bn', ?_, d, h⟩
    have h0 := h 0 (by omega)
    obtain ⟨x1, x2, x3, x4⟩ := w3 0 (by omega)
    rw [Nat.add_zero] at h0
    unfold clN
    rw [if_pos (by omega)]
  have key : ∃ fl, (b1 (if nI (enN n tx b) - nI b = nI (lnN w) then some (1 : Int32) else some 0) fun v1 => L_X10_isWord_22 M (cdI w) (nI (lnN w)) FU v1 0) = some fl ∧ (fl = 0 ∨ fl = 1) ∧ (fl = 1 ↔ MW n tx b w) := by
    rw [pk_sub en.1]
    by_cases d : enN n tx b - b = lnN w
    · rw [if_pos (by rw [d]), b1_some]
      unfold L_X10_isWord_22
      have key : ∃ fl, loopF (fun x : Int32 × Int32 => B_X10_isWord_22 M (cdI w) (nI (lnN w)) x.1 x.2) FU (1, 0) = some fl ∧ ((fl = 0 ∨ fl = 1) ∧ (fl = 1 ↔ MW n tx b w)) := by
        refine loopF_inv (fun j v => v.2 = nI j ∧ ((v.1 = 1 ∧ ∀ i, i < j → tx (b + i) = wlN w i) ∨ (v.1 = 0 ∧ ¬ MW n tx b w))) _ (lnN w) ?_ ?_ (lnN w) 0 (1, 0) FU (by omega) (FU_lt (by omega)) ⟨rfl, Or.inl ⟨rfl, fun i hi => by omega⟩⟩
        · rintro j hj ⟨u1, u2⟩ ⟨k1, k2⟩
          dsimp only at k1 k2
          subst k1
          obtain ⟨x1, x2, x3, x4⟩ := w3 j hj
          have tb := hM.2.2 (b + j) (by omega)
          unfold B_X10_isWord_22
          dsimp only
          rcases k2 with ⟨rfl, k2⟩ | ⟨rfl, k2⟩
          · left
            rw [if_neg one_ne0, if_neg (nI_ge hj (by omega)), t7, nI_add, rdI_nI (by omega) (by decide), tb.1, b1_some, x2]
            by_cases z : tx (b + j) = wlN w j
            · rw [if_pos (by rw [z]), b1_some, bn_rw, nI_1]
              refine ⟨_, rfl, rfl, Or.inl ⟨rfl, fun i hi => ?_⟩⟩
              by_cases y : i = j
              · rw [y]; exact z
              · exact k2 i (by omega)
            · rw [if_neg (fun y => z ((nI_eq (by omega) (by omega)).mp y)), b1_some, bn_rw, nI_1]
              exact ⟨_, rfl, rfl, Or.inr ⟨rfl, fun y => absurd (y.2.2.2 j hj) z⟩⟩
          · right
            rw [if_pos rfl]
            exact ⟨0, rfl, Or.inl rfl, fun y => absurd y (by decide), fun y => absurd y k2⟩
        · rintro ⟨u1, u2⟩ ⟨k1, k2⟩
          dsimp only at k1 k2
          subst k1
          unfold B_X10_isWord_22
          dsimp only
          rcases k2 with ⟨rfl, k2⟩ | ⟨rfl, k2⟩
          · rw [if_neg one_ne0, if_pos (nI_le (Nat.le_refl _) (by omega))]
            exact ⟨1, rfl, Or.inr rfl, fun _ => full d k2, fun _ => rfl⟩
          · rw [if_pos rfl]
            exact ⟨0, rfl, Or.inl rfl, fun y => absurd y (by decide), fun y => absurd y k2⟩
      exact key
    · rw [if_neg (fun z => d ((nI_eq (by omega) (by omega)).mp z)), b1_some]
      have L : L_X10_isWord_22 M (cdI w) (nI (lnN w)) FU 0 0 = some 0 := by
        unfold L_X10_isWord_22 FU
        refine loopF_out ?_
        unfold B_X10_isWord_22
        dsimp only
        rw [if_pos rfl]
      exact ⟨0, L, Or.inl rfl, fun y => absurd y (by decide), fun y => absurd y.2.2.1 d⟩
  obtain ⟨fl, y1, y2, y3⟩ := key
  refine ⟨fl, ?_, y2, y3⟩
  unfold f_X10_isWord
  rw [t7, t8]
  have ass : ∀ (o : Option Int32) (f : Int32 → Option Int32) (g : Int32 → Option Int32), (b1 o fun v => b1 (f v) g) = b1 (b1 o f) g := fun o f g => by cases o <;> rfl
  rw [ass, y1, b1_some]
  rcases y2 with rfl | rfl <;> rfl
theorem fl0 {fl : Int32} {c : Prop} (h : fl = 0 ∨ fl = 1) (g : fl = 1 ↔ c) (k : ¬ c) : fl = 0 := by
  rcases h with h | h
  · exact h
  · exact absurd (g.mp h) k
end NUM
