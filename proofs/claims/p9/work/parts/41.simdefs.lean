/-! ONE STEP OF THE LAW, over what a call does on both sides -/
theorem gg_widen {X : gC} {M : List mC} {k n k2 n2 pc : Nat} {L : List (Nat × Value)} {st : List Value} (h1 : k ≤ k2) (h2 : n ≤ n2) (h : gg X M k2 n2 pc L st) : gg X M k n pc L st := by
  obtain ⟨p, l, e, R, s, m, args, below, meth, c, nL, D, tc, A, n0, ad0, Q⟩ := X
  intro ad H locs ls a1 a2 a3 a4 a5
  exact W.widen h1 h2 (h ad H locs ls a1 a2 a3 a4 a5)
theorem gF_l {X : gC} {h c s nl k n : Nat} (hX : gR X = room_1) (h1 : h ≤ 200) (h2 : nl ≤ 45) (h3 : k + c ≤ 601024) (h4 : n + s ≤ 7293034) : gF X (rmc h c s) nl k n := by
  unfold gF
  rw [hX]
  simp only [rmc, room_1]
  omega
/-- a call through its wrapper, and the reference's own: the same number of what was thrown, the same answer -/
def Sim (l : Launch) (R : CS → MS → Prop) (c : CS) (m : MS) (o : Nat → Int64) (yW : MethodName) (wW : List Cond) (AW : List Value) (yM : MethodName) (wM : List Cond) (AM : List Value) : Prop :=
  ∃ (k h h2 : Nat) (c' : CS) (o' : Nat → Int64) (b : Int32) (m' : MS), h ≤ 200 ∧ h2 ≤ 200 ∧ mm_ l yW wW (rmc h 1 6) (.ref 0 :: (AW ++ [.ref 84])) (W9 c m o) (fun r M' => r = some (.int (nI k)) ∧ M' = W9 c' m o') ∧ mm_ l yM wM (rmh h2) (.ref 58 :: AM) (W9 c' m o') (qM c' o' (fun r m2 => r = some (.int b) ∧ m2 = m')) ∧ m'.cd = k ∧ k < 2 ^ 31 ∧ (k = 0 → o' 0 = b.toInt64) ∧ R c' m'
def SimJ (l : Launch) (R : CS → MS → Prop) (c : CS) (m : MS) (o : Nat → Int64) (yW : MethodName) (wW : List Cond) (AW : List Value) (yM : MethodName) (wM : List Cond) (AM : List Value) : Prop :=
  ∃ (k h h2 : Nat) (c' : CS) (o' : Nat → Int64) (b : Int64) (m' : MS), h ≤ 200 ∧ h2 ≤ 200 ∧ mm_ l yW wW (rmc h 1 6) (.ref 0 :: (AW ++ [.ref 84])) (W9 c m o) (fun r M' => r = some (.int (nI k)) ∧ M' = W9 c' m o') ∧ mm_ l yM wM (rmh h2) (.ref 58 :: AM) (W9 c' m o') (qM c' o' (fun r m2 => r = some (.long b) ∧ m2 = m')) ∧ m'.cd = k ∧ k < 2 ^ 31 ∧ (k = 0 → o' 0 = b) ∧ R c' m'
def Sim0 (l : Launch) (R : CS → MS → Prop) (c : CS) (m : MS) (o : Nat → Int64) (yW : MethodName) (wW : List Cond) (yM : MethodName) (wM : List Cond) : Prop :=
  ∃ (h h2 : Nat) (c' : CS) (b : Int32) (m' : MS), h ≤ 200 ∧ h2 ≤ 200 ∧ mm_ l yW wW (rmh h) [.ref 0] (W9 c m o) (qC m o (fun r c2 => r = some (.int b) ∧ c2 = c')) ∧ mm_ l yM wM (rmh h2) [.ref 58] (W9 c' m o) (qM c' o (fun r m2 => r = some (.int b) ∧ m2 = m')) ∧ R c' m'
abbrev LL (i : Nat) : List (Nat × Value) := [(0, .ref spl), (1, .ref 0), (2, .ref 58), (3, .ref 84), (4, .int (nI i))]
/-- behind a step -/
def Nx (X : gC) (R : CS → MS → Prop) (k n i : Nat) : Prop := ∀ c' m' o', R c' m' → gg X (W9 c' m' o') (k + 1) (n + 6) 690 (LL i) []
