/-! frames of states -/
def SX (is as ls : List Nat) (M N : PS) : Prop := (∀ k, k ∉ is → N.1 k = M.1 k) ∧ (∀ k, k ∉ as → N.2.1 k = M.2.1 k) ∧ ∀ k, k ∉ ls → N.2.2 k = M.2.2 k
theorem SX.rf {is as ls : List Nat} {M : PS} : SX is as ls M M := ⟨fun _ _ => rfl, fun _ _ => rfl, fun _ _ => rfl⟩
theorem SX.tr {is as ls : List Nat} {M N O : PS} (h : SX is as ls M N) (g : SX is as ls N O) : SX is as ls M O := ⟨fun k hk => (g.1 k hk).trans (h.1 k hk), fun k hk => (g.2.1 k hk).trans (h.2.1 k hk), fun k hk => (g.2.2 k hk).trans (h.2.2 k hk)⟩
theorem SX.mono {is as ls is2 as2 ls2 : List Nat} {M N : PS} (h : SX is as ls M N) (h1 : ∀ k ∈ is, k ∈ is2) (h2 : ∀ k ∈ as, k ∈ as2) (h3 : ∀ k ∈ ls, k ∈ ls2) : SX is2 as2 ls2 M N := ⟨fun k hk => h.1 k (fun z => hk (h1 k z)), fun k hk => h.2.1 k (fun z => hk (h2 k z)), fun k hk => h.2.2 k (fun z => hk (h3 k z))⟩
theorem SX.sI {is as ls : List Nat} {M N : PS} (h : SX is as ls M N) {k : Nat} (v : Int32) (hk : k ∈ is) : SX is as ls M (sI N k v) := ⟨fun j hj => by rw [sI_1, if_neg (show ¬ j = k from fun e => hj (by rw [e]; exact hk))]; exact h.1 j hj, h.2.1, h.2.2⟩
theorem SX.sA {is as ls : List Nat} {M N : PS} (h : SX is as ls M N) {k : Nat} (f : Nat → Int32) (hk : k ∈ as) : SX is as ls M (sA N k f) := ⟨h.1, fun j hj => by rw [sA_2, if_neg (show ¬ j = k from fun e => hj (by rw [e]; exact hk))]; exact h.2.1 j hj, h.2.2⟩
theorem SX.sL {is as ls : List Nat} {M N : PS} (h : SX is as ls M N) {k : Nat} (f : Nat → Int64) (hk : k ∈ ls) : SX is as ls M (sL N k f) := ⟨h.1, h.2.1, fun j hj => by rw [sL_3, if_neg (show ¬ j = k from fun e => hj (by rw [e]; exact hk))]; exact h.2.2 j hj⟩
theorem toI32 (n : Nat) (h : n < 2 ^ 31) : (nI n).toInt = n := nI_toInt h
/-- an int between two bounds is a natural -/
theorem nI_ex (x : Int32) {a b : Int} (ha : 0 ≤ a) (h : a ≤ x.toInt ∧ x.toInt ≤ b) : ∃ n : Nat, x = nI n ∧ (n : Int) = x.toInt ∧ n < 2 ^ 31 := by
  refine ⟨x.toInt.toNat, ofI (by omega), by omega, ?_⟩
  have := Int32.toInt_lt x
  omega
theorem byte_ex (y : Int64) : ∃ x : Nat, x < 256 ∧ (y &&& 255).toInt32 = nI x := by
  obtain ⟨m, hm, rfl⟩ := wb_of y
  refine ⟨m % 256, Nat.mod_lt _ (by decide), ?_⟩
  rw [show (255 : Int64) = lN (2 ^ 8 - 1) from rfl, wb_mask hm (by decide)]
  exact lN_i _
theorem one_ne0 : ¬ (1 : Int32) = 0 := by decide
def RText (T M : PS) : Prop := ∃ n : Nat, n ≤ 200 ∧ T.1 1 = nI n ∧ M.1 1 = nI n ∧ ∀ j, j < n → ∃ x : Nat, x < 256 ∧ T.2.1 0 j = nI x ∧ M.2.1 0 j = nI x
theorem RText.fr {T M N : PS} {is as ls : List Nat} (h : RText T M) (g : SX is as ls M N) (h1 : 1 ∉ is) (h2 : 0 ∉ as) : RText T N := by
  obtain ⟨n, a, b, c, d⟩ := h
  exact ⟨n, a, b, by rw [g.1 1 h1]; exact c, fun j hj => by rw [g.2.1 0 h2]; exact d j hj⟩
def wByte (p1 : Int64) (j : Nat) : Int32 := (((p1 >>> ((8 * nI j).toInt64 &&& 63)) &&& (255)).toInt32)
theorem add_ok {T : PS} {n : Nat} (hn : n < 200) (h : T.1 1 = nI n) (x : Int32) : f_X6_add T x = some (sI (sA T 0 (upd (T.2.1 0) n x)) 1 (nI (n + 1))) := by
  unfold f_X6_add
  have h1 : ¬ (200 : Int32) ≤ T.1 1 := by rw [h]; exact nI_ge hn (by decide)
  rw [if_neg h1, h, wA_nI hn (by decide)]
  simp only [b1_some, bn, sA_1, h, nI_1]
theorem write9 {T : PS} {n k : Nat} (p1 : Int64) (hk : k ≤ 8) (hn : n + k ≤ 200) (h : T.1 1 = nI n) : ∃ T2, L_X9_write_35 p1 (nI k) FU 0 T = some T2 ∧ T2.1 1 = nI (n + k) ∧ (∀ j, j < n → T2.2.1 0 j = T.2.1 0 j) ∧ ∀ j, j < k → T2.2.1 0 (n + j) = wByte p1 j := by
  unfold L_X9_write_35
  refine loopF_inv (fun i x => x.1 = nI i ∧ x.2.1 1 = nI (n + i) ∧ (∀ j, j < n → x.2.2.1 0 j = T.2.1 0 j) ∧ ∀ j, j < i → x.2.2.1 0 (n + j) = wByte p1 j) _ k ?_ ?_ k 0 (0, T) FU (by omega) (FU_lt (by omega)) ⟨rfl, h, fun _ _ => rfl, fun j hj => by omega⟩
  · rintro i hi ⟨v, U⟩ ⟨h1, h2, h3, h4⟩
    dsimp only at h1 h2 h3 h4
    subst h1
    left
    refine ⟨(nI (i + 1), sI (sA U 0 (upd (U.2.1 0) (n + i) (wByte p1 i))) 1 (nI (n + i + 1))), ?_, rfl, rfl, fun j hj => ?_, fun j hj => ?_⟩
    · unfold B_X9_write_35
      rw [if_neg (nI_ge hi (by omega)), add_ok (by omega) h2]
      simp only [b1_some, bn, nI_1]
      rfl
    · show upd (U.2.1 0) (n + i) (wByte p1 i) j = _
      rw [pk_un (by omega)]
      exact h3 j hj
    · show upd (U.2.1 0) (n + i) (wByte p1 i) (n + j) = _
      by_cases e : j = i
      · subst e; exact pk_us
      · rw [pk_un (by omega)]
        exact h4 j (by omega)
  · rintro ⟨v, U⟩ ⟨h1, h2, h3, h4⟩
    dsimp only at h1 h2 h3 h4
    subst h1
    refine ⟨U, ?_, h2, h3, h4⟩
    unfold B_X9_write_35
    rw [if_pos (nI_le (Nat.le_refl k) (by omega))]
theorem write10 {M : PS} {n k : Nat} (p1 : Int64) (hk : k ≤ 8) (hn : n + k ≤ 200) (h : M.1 1 = nI n) : ∃ M2, L_X10_write_33 p1 (nI k) FU 0 M = some M2 ∧ SX [1] [0] [] M M2 ∧ M2.1 1 = nI (n + k) ∧ (∀ j, j < n → M2.2.1 0 j = M.2.1 0 j) ∧ ∀ j, j < k → M2.2.1 0 (n + j) = wByte p1 j := by
  unfold L_X10_write_33
  refine loopF_inv (fun i x => x.1 = nI i ∧ SX [1] [0] [] M x.2 ∧ x.2.1 1 = nI (n + i) ∧ (∀ j, j < n → x.2.2.1 0 j = M.2.1 0 j) ∧ ∀ j, j < i → x.2.2.1 0 (n + j) = wByte p1 j) _ k ?_ ?_ k 0 (0, M) FU (by omega) (FU_lt (by omega)) ⟨rfl, SX.rf, h, fun _ _ => rfl, fun j hj => by omega⟩
  · rintro i hi ⟨v, U⟩ ⟨h1, h0, h2, h3, h4⟩
    dsimp only at h1 h0 h2 h3 h4
    subst h1
    left
    refine ⟨(nI (i + 1), sI (sA U 0 (upd (U.2.1 0) (n + i) (wByte p1 i))) 1 (nI (n + i + 1))), ?_, rfl, (h0.sA _ (by decide)).sI _ (by decide), rfl, fun j hj => ?_, fun j hj => ?_⟩
    · unfold B_X10_write_33
      rw [if_neg (nI_ge hi (by omega)), h2, wA_nI (by omega) (by decide)]
      simp only [b1_some, bn, nI_1, sA_1, h2]
      rfl
    · show upd (U.2.1 0) (n + i) (wByte p1 i) j = _
      rw [pk_un (by omega)]
      exact h3 j hj
    · show upd (U.2.1 0) (n + i) (wByte p1 i) (n + j) = _
      by_cases e : j = i
      · subst e; exact pk_us
      · rw [pk_un (by omega)]
        exact h4 j (by omega)
  · rintro ⟨v, U⟩ ⟨h1, h0, h2, h3, h4⟩
    dsimp only at h1 h0 h2 h3 h4
    subst h1
    refine ⟨U, ?_, h0, h2, h3, h4⟩
    unfold B_X10_write_33
    rw [if_pos (nI_le (Nat.le_refl k) (by omega))]
theorem g_write {T M : PS} (hR : RText T M) (p1 : Int64) (p2 : Int32) : ∃ (r : Int32) (T' M' : PS), f_X9_write T p1 p2 = some (r, T') ∧ f_X10_write M p1 p2 = some (r, M') ∧ RText T' M' ∧ SX [1] [0] [] M M' := by
  obtain ⟨n, hn, ht, hm, hb⟩ := id hR
  unfold f_X9_write f_X10_write
  rw [in_32 p2 1 8 1 8 rfl rfl]
  simp only [b1_some]
  by_cases h : 1 ≤ p2.toInt ∧ p2.toInt ≤ 8
  · obtain ⟨k, hk, hk2, hk3⟩ := nI_ex p2 (by decide) h
    subst hk
    have hk8 : k ≤ 8 := by omega
    have c1 : ¬ nI k < 1 := nI_nlt (a := k) (b := 1) (by omega) (by omega)
    have c2 : nI k ≤ 8 := nI_le (b := 8) hk8 (by decide)
    rw [if_pos h, if_neg c1, if_pos c2, if_neg one_ne0, ht, hm]
    by_cases g : n + k ≤ 200
    · have e1 : nI k ≤ 200 - nI n := by
        rw [i_lit 200, pk_sub hn]; exact nI_le (by omega) (by omega)
      have e2 : nI n + nI k ≤ 200 := by rw [nI_add]; exact nI_le (b := 200) g (by decide)
      rw [if_pos e1, if_pos e2]
      obtain ⟨T2, a1, a2, a3, a4⟩ := write9 p1 hk8 g ht
      obtain ⟨M2, b1', b2', b3', b4', b5'⟩ := write10 p1 hk8 g hm
      rw [a1, b1']
      refine ⟨T2.1 1, T2, M2, rfl, by rw [a2, ← b3']; rfl, ⟨n + k, g, a2, b3', fun j hj => ?_⟩, b2'⟩
      by_cases e : j < n
      · rw [a3 j e, b4' j e]; exact hb j e
      · obtain ⟨x, hx1, hx2⟩ := byte_ex (p1 >>> ((8 * nI (j - n)).toInt64 &&& 63))
        have ej : n + (j - n) = j := by omega
        have q1 := a4 (j - n) (by omega)
        have q2 := b5' (j - n) (by omega)
        rw [ej] at q1 q2
        exact ⟨x, hx1, q1.trans hx2, q2.trans hx2⟩
    · have e1 : ¬ nI k ≤ 200 - nI n := by
        rw [i_lit 200, pk_sub hn]; exact nI_ge (by omega) (by omega)
      have e2 : ¬ nI n + nI k ≤ 200 := by rw [nI_add]; exact nI_ge (a := 200) (by omega) (by omega)
      rw [if_neg e1, if_neg e2]
      exact ⟨_, T, M, rfl, rfl, hR, SX.rf⟩
  · rw [if_neg h, if_pos rfl]
    refine ⟨_, T, M, ?_, rfl, hR, SX.rf⟩
    by_cases c1 : p2 < 1
    · rw [if_pos c1]
    · rw [if_neg c1, if_neg]
      intro c2
      rw [i_lt] at c1
      rw [i_le] at c2
      exact h ⟨by simpa using c1, by simpa using c2⟩
theorem g_erase {T M : PS} (hR : RText T M) : ∃ (r : Int32) (T' M' : PS), f_X9_erase T = some (r, T') ∧ f_X10_erase M = some (r, M') ∧ RText T' M' ∧ SX [1] [0] [] M M' := by
  obtain ⟨n, hn, ht, hm, hb⟩ := id hR
  unfold f_X9_erase f_X10_erase
  simp only [bn]
  refine ⟨T.1 1, sI T 1 0, sI M 1 0, rfl, by rw [ht, ← hm], ⟨0, by omega, rfl, rfl, fun j hj => by omega⟩, SX.rf.sI _ (by decide)⟩
