/-! programs and trials: the relation -/
def nzN (rw : Nat) (o : Nat → Nat → Nat) (inp : Nat) : Nat := fb_sm (fun row => (if o inp row = 0 then 0 else 1) * 2 ^ row) rw
abbrev tbit (tr : Int32) (inp : Nat) : Prop := (tr >>> (nI inp &&& 31)) &&& 1 = 1
def rtN (o : Nat → Nat → Nat) (tr : Int32) (inp row : Nat) : Nat := if o inp row = 0 then (if tbit tr inp then 0 else 1) else (if tbit tr inp then 1 else 0)
def rrN (rw : Nat) (o : Nat → Nat → Nat) (tr : Int32) (inp : Nat) : Nat := fb_sm (fun row => rtN o tr inp row * 2 ^ row) rw
def riN (wd : Nat) (o : Nat → Nat → Nat) (tr : Int32) (row : Nat) : Nat := fb_sm (fun inp => rtN o tr inp row * 2 ^ inp) (2 ^ wd)
def oN (kd ce aa ab ac dn dz : Nat → Nat) (nl nd : Nat) (inp row : Nat) : Nat := outP kd ce aa ab ac dn (fig dz nd row) inp nl
def KN (P : PS) (rw : Nat) (o : Nat → Nat → Nat) : Prop := ∃ kn : Nat, kn < 2 ^ 32 ∧ P.1 10 = nI kn ∧ ∀ inp, inp < 32 → kn / 2 ^ inp % 2 = 1 → P.2.2 9 inp = lN (nzN rw o inp)
def ST (S : PS) (rw wd : Nat) (o : Nat → Nat → Nat) (tr : Int32) : Prop := S.1 3 = 0 → (∀ inp, inp < 2 ^ wd → S.2.2 4 inp = lN (rrN rw o tr inp)) ∧ ∀ row, row < rw → S.2.1 5 row = nI (riN wd o tr row)
/-- the product of the first draws' sizes -/
def prN (f : Nat → Nat) : Nat → Nat
  | 0 => 1
  | n + 1 => prN f n * f n
def RPg (P S M : PS) (nl nd rw wd : Nat) (kd ce aa ab ac dn dz : Nat → Nat) : Prop := PG P M nl nd rw kd ce aa ab ac dn dz ∧ wd ≤ 5 ∧ S.1 1 = nI wd ∧ M.1 12 = nI wd ∧ S.1 2 = M.1 13 ∧ KN P rw (oN kd ce aa ab ac dn dz nl nd) ∧ ST S rw wd (oN kd ce aa ab ac dn dz nl nd) (S.1 2) ∧ rw = prN dz nd
def RP (P S M : PS) : Prop := ∃ (nl nd rw wd : Nat) (kd ce aa ab ac dn dz : Nat → Nat), RPg P S M nl nd rw wd kd ce aa ab ac dn dz
section PROG5
variable {P S M : PS} {nl nd rw wd : Nat} {kd ce aa ab ac dn dz : Nat → Nat}
theorem PG.fr (h : PG P M nl nd rw kd ce aa ab ac dn dz) {P' M' : PS} (p1 : ∀ k, k = 0 ∨ k = 4 ∨ k = 5 → P'.1 k = P.1 k) (p2 : ∀ k, k = 1 ∨ k = 2 ∨ k = 3 ∨ k = 6 → P'.2.1 k = P.2.1 k) (m1 : ∀ k, k = 7 ∨ k = 10 ∨ k = 11 → M'.1 k = M.1 k) (m2 : ∀ k, k = 2 ∨ k = 3 ∨ k = 4 ∨ k = 5 ∨ k = 6 ∨ k = 9 → M'.2.1 k = M.2.1 k) : PG P' M' nl nd rw kd ce aa ab ac dn dz := by
  unfold PG at h ⊢
  rw [p1 0 (by omega), p1 4 (by omega), p1 5 (by omega), p2 1 (by omega), p2 2 (by omega), p2 3 (by omega), p2 6 (by omega), m1 7 (by omega), m1 10 (by omega), m1 11 (by omega), m2 2 (by omega), m2 3 (by omega), m2 4 (by omega), m2 5 (by omega), m2 6 (by omega), m2 9 (by omega)]
  exact h
theorem RPg.frM (h : RPg P S M nl nd rw wd kd ce aa ab ac dn dz) {M' : PS} (m1 : ∀ k, k = 7 ∨ k = 10 ∨ k = 11 ∨ k = 12 ∨ k = 13 → M'.1 k = M.1 k) (m2 : ∀ k, k = 2 ∨ k = 3 ∨ k = 4 ∨ k = 5 ∨ k = 6 ∨ k = 9 → M'.2.1 k = M.2.1 k) : RPg P S M' nl nd rw wd kd ce aa ab ac dn dz := by
  obtain ⟨a, b, c, d, e, f, g⟩ := h
  refine ⟨a.fr (fun _ _ => rfl) (fun _ _ => rfl) (fun k hk => m1 k (by omega)) m2, b, c, (m1 12 (by omega)).trans d, e.trans (m1 13 (by omega)).symm, f, g⟩
theorem RPg.frP (h : RPg P S M nl nd rw wd kd ce aa ab ac dn dz) {P' : PS} (g : SX [] [7, 8] [] P P') : RPg P' S M nl nd rw wd kd ce aa ab ac dn dz := by
  obtain ⟨a, b, c, d, e, ⟨kn, f1, f2, f3⟩, q⟩ := h
  refine ⟨a.fr (fun k _ => g.1 k (by simp)) (fun k hk => g.2.1 k (by simp; omega)) (fun _ _ => rfl) (fun _ _ => rfl), b, c, d, e, ⟨kn, f1, (g.1 10 (by decide)).trans f2, fun i hi k => ?_⟩, q⟩
  rw [g.2.2 9 (by decide)]
  exact f3 i hi k
end PROG5
theorem RP_ok : ∀ P S M M', RP P S M → (∀ k, k = 7 ∨ k = 10 ∨ k = 11 ∨ k = 12 ∨ k = 13 → M'.1 k = M.1 k) → (∀ k, k = 2 ∨ k = 3 ∨ k = 4 ∨ k = 5 ∨ k = 6 ∨ k = 9 → M'.2.1 k = M.2.1 k) → RP P S M' := by
  rintro P S M M' ⟨nl, nd, rw, wd, kd, ce, aa, ab, ac, dn, dz, h⟩ m1 m2
  exact ⟨nl, nd, rw, wd, kd, ce, aa, ab, ac, dn, dz, h.frM m1 m2⟩
