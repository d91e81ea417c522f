/-! ONE STEP OF THE LAW, over what a call does on both sides -/
theorem gg_widen {X : gC} {M : List mC} {k n k2 n2 pc : Nat} {L : List (Nat × Value)} {st : List Value} (h1 : k ≤ k2) (h2 : n ≤ n2) (h : gg X M k2 n2 pc L st) : gg X M k n pc L st := by
  obtain ⟨p, l, e, R, s, m, args, below, meth, c, nL, D, tc, A, n0, ad0, Q⟩ := X
  intro ad H locs ls a1 a2 a3 a4 a5
  exact W.widen h1 h2 (h ad H locs ls a1 a2 a3 a4 a5)
theorem gF_l {X : gC} {h c s nl k n : Nat} (hX : gR X = room_1) (h1 : h ≤ 200) (h2 : nl ≤ 45) (h3 : k + c ≤ 600002) (h4 : n + s ≤ 7302232) : gF X (rmc h c s) nl k n := by
  unfold gF
  rw [hX]
  simp only [rmc, room_1]
  omega
/-- a call through its wrapper, and the reference's own: the same number of what was thrown, the same answer -/
def Sim (l : Launch) (R : CS → MS → Prop) (c : CS) (m : MS) (o : Nat → Int64) (yW : MethodName) (wW : List Cond) (AW : List Value) (yM : MethodName) (wM : List Cond) (AM : List Value) : Prop :=
  ∃ (k h h2 : Nat) (c' : CS) (o' : Nat → Int64) (b : Int32) (m' : MS), h ≤ 200 ∧ h2 ≤ 200 ∧ mm_ l yW wW (rmc h 1 6) (.ref 0 :: (AW ++ [.ref 84])) (W9 c m o) (fun r M' => r = some (.int (nI k)) ∧ M' = W9 c' m o') ∧ mm_ l yM wM (rmh h2) (.ref 58 :: AM) (W9 c' m o') (qM c' o' (fun r m2 => r = some (.int b) ∧ m2 = m')) ∧ m'.cd = k ∧ k < 2 ^ 31 ∧ (k = 0 → o' 0 = b.toInt64) ∧ R c' m'
def SimJ (l : Launch) (R : CS → MS → Prop) (c : CS) (m : MS) (o : Nat → Int64) (yW : MethodName) (wW : List Cond) (AW : List Value) (yM : MethodName) (wM : List Cond) (AM : List Value) : Prop :=
  ∃ (k h h2 : Nat) (c' : CS) (o' : Nat → Int64) (b : Int64) (m' : MS), h ≤ 200 ∧ h2 ≤ 200 ∧ mm_ l yW wW (rmc h 1 6) (.ref 0 :: (AW ++ [.ref 84])) (W9 c m o) (fun r M' => r = some (.int (nI k)) ∧ M' = W9 c' m o') ∧ mm_ l yM wM (rmh h2) (.ref 58 :: AM) (W9 c' m o') (qM c' o' (fun r m2 => r = some (.long b) ∧ m2 = m')) ∧ m'.cd = k ∧ k < 2 ^ 31 ∧ (k = 0 → o' 0 = b) ∧ R c' m'
def Sim0 (l : Launch) (R : CS → MS → Prop) (c : CS) (m : MS) (o : Nat → Int64) (yW : MethodName) (wW : List Cond) (yM : MethodName) (wM : List Cond) : Prop :=
  ∃ (h h2 : Nat) (c' : CS) (b : Int32) (m' : MS), h ≤ 200 ∧ h2 ≤ 200 ∧ mm_ l yW wW (rmh h) [.ref 0] (W9 c m o) (qC m o (fun r c2 => r = some (.int b) ∧ c2 = c')) ∧ mm_ l yM wM (rmh h2) [.ref 58] (W9 c' m o) (qM c' o (fun r m2 => r = some (.int b) ∧ m2 = m')) ∧ R c' m'
section LS
variable {X : gC} {l : Launch} {c : CS} {m : MS} {o : Nat → Int64} {R : CS → MS → Prop} {k n i Ln : Nat} {xs : Nat → Int32}
abbrev LL (i : Nat) : List (Nat × Value) := [(0, .ref spl), (1, .ref 0), (2, .ref 58), (3, .ref 84), (4, .int (nI i))]
/-- behind a step -/
def Nx (X : gC) (R : CS → MS → Prop) (k n i : Nat) : Prop := ∀ c' m' o', R c' m' → gg X (W9 c' m' o') (k + 1) (n + 6) 941 (LL i) []
theorem ls_add (ok : gO X c_La_law "TripleStoreLaw" w_Tr_size) (S : gSc X Ln xs) (G : gLw X l) (hi : i + 7 ≤ Ln) (hL : Ln ≤ 3584) (hk : k + 1 ≤ 600002) (hn : n + 6 ≤ 7302232) (hs : ∀ (s p q : Int64), Sim l R c m o y_La_add w_La_add [.long s, .long p, .long q] y_Mo_add w_Mo_add [.long s, .long p, .long q]) (nx : Nx X R k n i) : gg X (W9 c m o) k n 104 (LL i) [] := by
  obtain rfl : gLa X = l := G.La
  have hR := G.R
  obtain ⟨t, h, h2, c', o', b, m', hh, hh2, a1, a2, a3, a4, a5, a6⟩ := hs _ _ _
  refine k_La_law_104 ok S (vin (nA rfl (nL 1)) (by omega) (by omega)) (vin (nA rfl (nL 2)) (by omega) (by omega)) (vin (nA rfl (nL 3)) (by omega) (by omega)) (vin (nA rfl (nL 4)) (by omega) (by omega)) (vin (nA rfl (nL 5)) (by omega) (by omega)) (vin (nA rfl (nL 6)) (by omega) (by omega)) a1 (gF_l hR hh (by decide) hk hn) (fun _ _ q => by rw [q.2]; rfl) ?_
  rintro r M' ⟨rfl, rfl⟩
  refine k_La_law_176 ok S G.nL (vin (nA rfl (nL 1)) (by omega) (by omega)) (vin (nA rfl (nL 2)) (by omega) (by omega)) (vin (nA rfl (nL 3)) (by omega) (by omega)) (vin (nA rfl (nL 4)) (by omega) (by omega)) (vin (nA rfl (nL 5)) (by omega) (by omega)) (vin (nA rfl (nL 6)) (by omega) (by omega)) rW_58 a2 (gF_l (c := 0) (s := 0) hR hh2 (by decide) hk hn) (fun _ _ q => qM_len q) ?_
  rintro r M' ⟨m2, ⟨rfl, rfl⟩, rfl⟩
  refine k_La_law_249 ok G.nL rW_58 mo_thrown (gF_l (c := 0) (s := 0) (h := 1) hR (by decide) (by decide) hk hn) (fun _ _ q => qM_len q) ?_
  rintro r M' ⟨m, ⟨rfl, rfl⟩, rfl⟩
  rw [a3]
  have fin : gg X (W9 c' m o') (k + 1) (n + 6) 279 [(0, .ref spl), (1, .ref 0), (2, .ref 58), (3, .ref 84), (4, .int (nI i)), (5, .int (nI t)), (6, .int b)] [] := k_La_law_279 ok (nx _ _ _ a6)
  refine k_La_law_255 ok (fun _ => ?_) (fun z => absurd rfl z)
  refine k_La_law_262 ok (fun _ => fin) (fun z => ?_)
  have e0 : t = 0 := nEq rfl (nL 0) a4 (by decide) z
  exact k_La_law_267 ok rW_84 (vin (nL 0) (by decide) (by decide)) (fun _ => fin) (fun z => absurd (a5 e0) z)
theorem ls_remove (ok : gO X c_La_law "TripleStoreLaw" w_Tr_size) (S : gSc X Ln xs) (G : gLw X l) (hi : i + 7 ≤ Ln) (hL : Ln ≤ 3584) (hk : k + 1 ≤ 600002) (hn : n + 6 ≤ 7302232) (hs : ∀ (s p q : Int64), Sim l R c m o y_La_remove w_La_remove [.long s, .long p, .long q] y_Mo_remove w_Mo_remove [.long s, .long p, .long q]) (nx : Nx X R k n i) : gg X (W9 c m o) k n 282 (LL i) [] := by
  obtain rfl : gLa X = l := G.La
  have hR := G.R
  obtain ⟨t, h, h2, c', o', b, m', hh, hh2, a1, a2, a3, a4, a5, a6⟩ := hs _ _ _
  refine k_La_law_282 ok S (vin (nA rfl (nL 1)) (by omega) (by omega)) (vin (nA rfl (nL 2)) (by omega) (by omega)) (vin (nA rfl (nL 3)) (by omega) (by omega)) (vin (nA rfl (nL 4)) (by omega) (by omega)) (vin (nA rfl (nL 5)) (by omega) (by omega)) (vin (nA rfl (nL 6)) (by omega) (by omega)) a1 (gF_l hR hh (by decide) hk hn) (fun _ _ q => by rw [q.2]; rfl) ?_
  rintro r M' ⟨rfl, rfl⟩
  refine k_La_law_354 ok S G.nL (vin (nA rfl (nL 1)) (by omega) (by omega)) (vin (nA rfl (nL 2)) (by omega) (by omega)) (vin (nA rfl (nL 3)) (by omega) (by omega)) (vin (nA rfl (nL 4)) (by omega) (by omega)) (vin (nA rfl (nL 5)) (by omega) (by omega)) (vin (nA rfl (nL 6)) (by omega) (by omega)) rW_58 a2 (gF_l (c := 0) (s := 0) hR hh2 (by decide) hk hn) (fun _ _ q => qM_len q) ?_
  rintro r M' ⟨m2, ⟨rfl, rfl⟩, rfl⟩
  refine k_La_law_427 ok G.nL rW_58 mo_thrown (gF_l (c := 0) (s := 0) (h := 1) hR (by decide) (by decide) hk hn) (fun _ _ q => qM_len q) ?_
  rintro r M' ⟨m, ⟨rfl, rfl⟩, rfl⟩
  rw [a3]
  have fin : gg X (W9 c' m o') (k + 1) (n + 6) 457 [(0, .ref spl), (1, .ref 0), (2, .ref 58), (3, .ref 84), (4, .int (nI i)), (5, .int (nI t)), (6, .int b)] [] := k_La_law_457 ok (nx _ _ _ a6)
  refine k_La_law_433 ok (fun _ => ?_) (fun z => absurd rfl z)
  refine k_La_law_440 ok (fun _ => fin) (fun z => ?_)
  have e0 : t = 0 := nEq rfl (nL 0) a4 (by decide) z
  exact k_La_law_445 ok rW_84 (vin (nL 0) (by decide) (by decide)) (fun _ => fin) (fun z => absurd (a5 e0) z)
theorem ls_begin (ok : gO X c_La_law "TripleStoreLaw" w_Tr_size) (S : gSc X Ln xs) (G : gLw X l) (hi : i + 7 ≤ Ln) (hL : Ln ≤ 3584) (hk : k + 1 ≤ 600002) (hn : n + 6 ≤ 7302232) (hs : Sim l R c m o y_La_begin w_La_begin [] y_Mo_begin w_Mo_begin []) (nx : Nx X R k n i) : gg X (W9 c m o) k n 460 (LL i) [] := by
  obtain rfl : gLa X = l := G.La
  have hR := G.R
  obtain ⟨t, h, h2, c', o', b, m', hh, hh2, a1, a2, a3, a4, a5, a6⟩ := hs 
  refine k_La_law_460 ok a1 (gF_l hR hh (by decide) hk hn) (fun _ _ q => by rw [q.2]; rfl) ?_
  rintro r M' ⟨rfl, rfl⟩
  refine k_La_law_465 ok G.nL rW_58 a2 (gF_l (c := 0) (s := 0) hR hh2 (by decide) hk hn) (fun _ _ q => qM_len q) ?_
  rintro r M' ⟨m2, ⟨rfl, rfl⟩, rfl⟩
  refine k_La_law_471 ok G.nL rW_58 mo_thrown (gF_l (c := 0) (s := 0) (h := 1) hR (by decide) (by decide) hk hn) (fun _ _ q => qM_len q) ?_
  rintro r M' ⟨m, ⟨rfl, rfl⟩, rfl⟩
  rw [a3]
  have fin : gg X (W9 c' m o') (k + 1) (n + 6) 501 [(0, .ref spl), (1, .ref 0), (2, .ref 58), (3, .ref 84), (4, .int (nI i)), (5, .int (nI t)), (6, .int b)] [] := k_La_law_501 ok (nx _ _ _ a6)
  refine k_La_law_477 ok (fun _ => ?_) (fun z => absurd rfl z)
  refine k_La_law_484 ok (fun _ => fin) (fun z => ?_)
  have e0 : t = 0 := nEq rfl (nL 0) a4 (by decide) z
  exact k_La_law_489 ok rW_84 (vin (nL 0) (by decide) (by decide)) (fun _ => fin) (fun z => absurd (a5 e0) z)
theorem ls_commit (ok : gO X c_La_law "TripleStoreLaw" w_Tr_size) (S : gSc X Ln xs) (G : gLw X l) (hi : i + 7 ≤ Ln) (hL : Ln ≤ 3584) (hk : k + 1 ≤ 600002) (hn : n + 6 ≤ 7302232) (hs : Sim l R c m o y_La_commit w_La_commit [] y_Mo_commit w_Mo_commit []) (nx : Nx X R k n i) : gg X (W9 c m o) k n 504 (LL i) [] := by
  obtain rfl : gLa X = l := G.La
  have hR := G.R
  obtain ⟨t, h, h2, c', o', b, m', hh, hh2, a1, a2, a3, a4, a5, a6⟩ := hs 
  refine k_La_law_504 ok a1 (gF_l hR hh (by decide) hk hn) (fun _ _ q => by rw [q.2]; rfl) ?_
  rintro r M' ⟨rfl, rfl⟩
  refine k_La_law_509 ok G.nL rW_58 a2 (gF_l (c := 0) (s := 0) hR hh2 (by decide) hk hn) (fun _ _ q => qM_len q) ?_
  rintro r M' ⟨m2, ⟨rfl, rfl⟩, rfl⟩
  refine k_La_law_515 ok G.nL rW_58 mo_thrown (gF_l (c := 0) (s := 0) (h := 1) hR (by decide) (by decide) hk hn) (fun _ _ q => qM_len q) ?_
  rintro r M' ⟨m, ⟨rfl, rfl⟩, rfl⟩
  rw [a3]
  have fin : gg X (W9 c' m o') (k + 1) (n + 6) 545 [(0, .ref spl), (1, .ref 0), (2, .ref 58), (3, .ref 84), (4, .int (nI i)), (5, .int (nI t)), (6, .int b)] [] := k_La_law_545 ok (nx _ _ _ a6)
  refine k_La_law_521 ok (fun _ => ?_) (fun z => absurd rfl z)
  refine k_La_law_528 ok (fun _ => fin) (fun z => ?_)
  have e0 : t = 0 := nEq rfl (nL 0) a4 (by decide) z
  exact k_La_law_533 ok rW_84 (vin (nL 0) (by decide) (by decide)) (fun _ => fin) (fun z => absurd (a5 e0) z)
theorem ls_rollback (ok : gO X c_La_law "TripleStoreLaw" w_Tr_size) (S : gSc X Ln xs) (G : gLw X l) (hi : i + 7 ≤ Ln) (hL : Ln ≤ 3584) (hk : k + 1 ≤ 600002) (hn : n + 6 ≤ 7302232) (hs : Sim l R c m o y_La_rollback w_La_rollback [] y_Mo_rollback w_Mo_rollback []) (nx : Nx X R k n i) : gg X (W9 c m o) k n 548 (LL i) [] := by
  obtain rfl : gLa X = l := G.La
  have hR := G.R
  obtain ⟨t, h, h2, c', o', b, m', hh, hh2, a1, a2, a3, a4, a5, a6⟩ := hs 
  refine k_La_law_548 ok a1 (gF_l hR hh (by decide) hk hn) (fun _ _ q => by rw [q.2]; rfl) ?_
  rintro r M' ⟨rfl, rfl⟩
  refine k_La_law_553 ok G.nL rW_58 a2 (gF_l (c := 0) (s := 0) hR hh2 (by decide) hk hn) (fun _ _ q => qM_len q) ?_
  rintro r M' ⟨m2, ⟨rfl, rfl⟩, rfl⟩
  refine k_La_law_559 ok G.nL rW_58 mo_thrown (gF_l (c := 0) (s := 0) (h := 1) hR (by decide) (by decide) hk hn) (fun _ _ q => qM_len q) ?_
  rintro r M' ⟨m, ⟨rfl, rfl⟩, rfl⟩
  rw [a3]
  have fin : gg X (W9 c' m o') (k + 1) (n + 6) 589 [(0, .ref spl), (1, .ref 0), (2, .ref 58), (3, .ref 84), (4, .int (nI i)), (5, .int (nI t)), (6, .int b)] [] := k_La_law_589 ok (nx _ _ _ a6)
  refine k_La_law_565 ok (fun _ => ?_) (fun z => absurd rfl z)
  refine k_La_law_572 ok (fun _ => fin) (fun z => ?_)
  have e0 : t = 0 := nEq rfl (nL 0) a4 (by decide) z
  exact k_La_law_577 ok rW_84 (vin (nL 0) (by decide) (by decide)) (fun _ => fin) (fun z => absurd (a5 e0) z)
theorem ls_crash (ok : gO X c_La_law "TripleStoreLaw" w_Tr_size) (S : gSc X Ln xs) (G : gLw X l) (hi : i + 7 ≤ Ln) (hL : Ln ≤ 3584) (hk : k + 1 ≤ 600002) (hn : n + 6 ≤ 7302232) (hs : ∀ (x : Int32), Sim l R c m o y_La_crash w_La_crash [.int x] y_Mo_crash w_Mo_crash [.int x]) (nx : Nx X R k n i) : gg X (W9 c m o) k n 605 (LL i) [] := by
  obtain rfl : gLa X = l := G.La
  have hR := G.R
  obtain ⟨t, h, h2, c', o', b, m', hh, hh2, a1, a2, a3, a4, a5, a6⟩ := hs _
  refine k_La_law_605 ok S (vin (nA rfl (nL 1)) (by omega) (by omega)) a1 (gF_l hR hh (by decide) hk hn) (fun _ _ q => by rw [q.2]; rfl) ?_
  rintro r M' ⟨rfl, rfl⟩
  refine k_La_law_616 ok S G.nL (vin (nA rfl (nL 1)) (by omega) (by omega)) rW_58 a2 (gF_l (c := 0) (s := 0) hR hh2 (by decide) hk hn) (fun _ _ q => qM_len q) ?_
  rintro r M' ⟨m2, ⟨rfl, rfl⟩, rfl⟩
  refine k_La_law_628 ok G.nL rW_58 mo_thrown (gF_l (c := 0) (s := 0) (h := 1) hR (by decide) (by decide) hk hn) (fun _ _ q => qM_len q) ?_
  rintro r M' ⟨m, ⟨rfl, rfl⟩, rfl⟩
  rw [a3]
  have fin : gg X (W9 c' m o') (k + 1) (n + 6) 658 [(0, .ref spl), (1, .ref 0), (2, .ref 58), (3, .ref 84), (4, .int (nI i)), (5, .int (nI t)), (6, .int b)] [] := k_La_law_658 ok (nx _ _ _ a6)
  refine k_La_law_634 ok (fun _ => ?_) (fun z => absurd rfl z)
  refine k_La_law_641 ok (fun _ => fin) (fun z => ?_)
  have e0 : t = 0 := nEq rfl (nL 0) a4 (by decide) z
  exact k_La_law_646 ok rW_84 (vin (nL 0) (by decide) (by decide)) (fun _ => fin) (fun z => absurd (a5 e0) z)
theorem ls_append (ok : gO X c_La_law "TripleStoreLaw" w_Tr_size) (S : gSc X Ln xs) (G : gLw X l) (hi : i + 7 ≤ Ln) (hL : Ln ≤ 3584) (hk : k + 1 ≤ 600002) (hn : n + 6 ≤ 7302232) (hs : ∀ (v : Int64) (x : Int32), Sim l R c m o y_La_append w_La_append [.long v, .int x] y_Mo_append w_Mo_append [.long v, .int x]) (nx : Nx X R k n i) : gg X (W9 c m o) k n 661 (LL i) [] := by
  obtain rfl : gLa X = l := G.La
  have hR := G.R
  obtain ⟨t, h, h2, c', o', b, m', hh, hh2, a1, a2, a3, a4, a5, a6⟩ := hs _ _
  refine k_La_law_661 ok S (vin (nA rfl (nL 1)) (by omega) (by omega)) (vin (nA rfl (nL 2)) (by omega) (by omega)) (vin (nA rfl (nL 3)) (by omega) (by omega)) a1 (gF_l hR hh (by decide) hk hn) (fun _ _ q => by rw [q.2]; rfl) ?_
  rintro r M' ⟨rfl, rfl⟩
  refine k_La_law_694 ok S G.nL (vin (nA rfl (nL 1)) (by omega) (by omega)) (vin (nA rfl (nL 2)) (by omega) (by omega)) (vin (nA rfl (nL 3)) (by omega) (by omega)) rW_58 a2 (gF_l (c := 0) (s := 0) hR hh2 (by decide) hk hn) (fun _ _ q => qM_len q) ?_
  rintro r M' ⟨m2, ⟨rfl, rfl⟩, rfl⟩
  refine k_La_law_728 ok G.nL rW_58 mo_thrown (gF_l (c := 0) (s := 0) (h := 1) hR (by decide) (by decide) hk hn) (fun _ _ q => qM_len q) ?_
  rintro r M' ⟨m, ⟨rfl, rfl⟩, rfl⟩
  rw [a3]
  have fin : gg X (W9 c' m o') (k + 1) (n + 6) 758 [(0, .ref spl), (1, .ref 0), (2, .ref 58), (3, .ref 84), (4, .int (nI i)), (5, .int (nI t)), (6, .int b)] [] := k_La_law_758 ok (nx _ _ _ a6)
  refine k_La_law_734 ok (fun _ => ?_) (fun z => absurd rfl z)
  refine k_La_law_741 ok (fun _ => fin) (fun z => ?_)
  have e0 : t = 0 := nEq rfl (nL 0) a4 (by decide) z
  exact k_La_law_746 ok rW_84 (vin (nL 0) (by decide) (by decide)) (fun _ => fin) (fun z => absurd (a5 e0) z)
theorem ls_ask (ok : gO X c_La_law "TripleStoreLaw" w_Tr_size) (S : gSc X Ln xs) (G : gLw X l) (hi : i + 7 ≤ Ln) (hL : Ln ≤ 3584) (hk : k + 1 ≤ 600002) (hn : n + 6 ≤ 7302232) (hs : Sim l R c m o y_La_ask w_La_ask [] y_Mo_ask w_Mo_ask []) (nx : Nx X R k n i) : gg X (W9 c m o) k n 761 (LL i) [] := by
  obtain rfl : gLa X = l := G.La
  have hR := G.R
  obtain ⟨t, h, h2, c', o', b, m', hh, hh2, a1, a2, a3, a4, a5, a6⟩ := hs 
  refine k_La_law_761 ok a1 (gF_l hR hh (by decide) hk hn) (fun _ _ q => by rw [q.2]; rfl) ?_
  rintro r M' ⟨rfl, rfl⟩
  refine k_La_law_766 ok G.nL rW_58 a2 (gF_l (c := 0) (s := 0) hR hh2 (by decide) hk hn) (fun _ _ q => qM_len q) ?_
  rintro r M' ⟨m2, ⟨rfl, rfl⟩, rfl⟩
  refine k_La_law_772 ok G.nL rW_58 mo_thrown (gF_l (c := 0) (s := 0) (h := 1) hR (by decide) (by decide) hk hn) (fun _ _ q => qM_len q) ?_
  rintro r M' ⟨m, ⟨rfl, rfl⟩, rfl⟩
  rw [a3]
  have fin : gg X (W9 c' m o') (k + 1) (n + 6) 802 [(0, .ref spl), (1, .ref 0), (2, .ref 58), (3, .ref 84), (4, .int (nI i)), (5, .int (nI t)), (6, .int b)] [] := k_La_law_802 ok (nx _ _ _ a6)
  refine k_La_law_778 ok (fun _ => ?_) (fun z => absurd rfl z)
  refine k_La_law_785 ok (fun _ => fin) (fun z => ?_)
  have e0 : t = 0 := nEq rfl (nL 0) a4 (by decide) z
  exact k_La_law_790 ok rW_84 (vin (nL 0) (by decide) (by decide)) (fun _ => fin) (fun z => absurd (a5 e0) z)
theorem ls_count (ok : gO X c_La_law "TripleStoreLaw" w_Tr_size) (S : gSc X Ln xs) (G : gLw X l) (hi : i + 7 ≤ Ln) (hL : Ln ≤ 3584) (hk : k + 1 ≤ 600002) (hn : n + 6 ≤ 7302232) (hs : ∀ (x : Int32), Sim l R c m o y_La_count w_La_count [.int x] y_Mo_count w_Mo_count [.int x]) (nx : Nx X R k n i) : gg X (W9 c m o) k n 885 (LL i) [] := by
  obtain rfl : gLa X = l := G.La
  have hR := G.R
  obtain ⟨t, h, h2, c', o', b, m', hh, hh2, a1, a2, a3, a4, a5, a6⟩ := hs _
  refine k_La_law_885 ok S (vin (nA rfl (nL 1)) (by omega) (by omega)) a1 (gF_l hR hh (by decide) hk hn) (fun _ _ q => by rw [q.2]; rfl) ?_
  rintro r M' ⟨rfl, rfl⟩
  refine k_La_law_896 ok S G.nL (vin (nA rfl (nL 1)) (by omega) (by omega)) rW_58 a2 (gF_l (c := 0) (s := 0) hR hh2 (by decide) hk hn) (fun _ _ q => qM_len q) ?_
  rintro r M' ⟨m2, ⟨rfl, rfl⟩, rfl⟩
  refine k_La_law_908 ok G.nL rW_58 mo_thrown (gF_l (c := 0) (s := 0) (h := 1) hR (by decide) (by decide) hk hn) (fun _ _ q => qM_len q) ?_
  rintro r M' ⟨m, ⟨rfl, rfl⟩, rfl⟩
  rw [a3]
  have fin : gg X (W9 c' m o') (k + 1) (n + 6) 938 [(0, .ref spl), (1, .ref 0), (2, .ref 58), (3, .ref 84), (4, .int (nI i)), (5, .int (nI t)), (6, .int b)] [] := k_La_law_938 ok (nx _ _ _ a6)
  refine k_La_law_914 ok (fun _ => ?_) (fun z => absurd rfl z)
  refine k_La_law_921 ok (fun _ => fin) (fun z => ?_)
  have e0 : t = 0 := nEq rfl (nL 0) a4 (by decide) z
  exact k_La_law_926 ok rW_84 (vin (nL 0) (by decide) (by decide)) (fun _ => fin) (fun z => absurd (a5 e0) z)
theorem ls_cell (ok : gO X c_La_law "TripleStoreLaw" w_Tr_size) (S : gSc X Ln xs) (G : gLw X l) (hi : i + 7 ≤ Ln) (hL : Ln ≤ 3584) (hk : k + 1 ≤ 600002) (hn : n + 6 ≤ 7302232) (hs : ∀ (x y : Int32), SimJ l R c m o y_La_cell2 w_La_cell2 [.int x, .int y] y_Mo_cell w_Mo_cell [.int x, .int y]) (nx : Nx X R k n i) : gg X (W9 c m o) k n 818 (LL i) [] := by
  obtain rfl : gLa X = l := G.La
  have hR := G.R
  obtain ⟨t, h, h2, c', o', b, m', hh, hh2, a1, a2, a3, a4, a5, a6⟩ := hs _ _
  refine k_La_law_818 ok S (vin (nA rfl (nL 1)) (by omega) (by omega)) (vin (nA rfl (nL 2)) (by omega) (by omega)) a1 (gF_l hR hh (by decide) hk hn) (fun _ _ q => by rw [q.2]; rfl) ?_
  rintro r M' ⟨rfl, rfl⟩
  refine k_La_law_835 ok S G.nL (vin (nA rfl (nL 1)) (by omega) (by omega)) (vin (nA rfl (nL 2)) (by omega) (by omega)) rW_58 a2 (gF_l (c := 0) (s := 0) hR hh2 (by decide) hk hn) (fun _ _ q => qM_len q) ?_
  rintro r M' ⟨m2, ⟨rfl, rfl⟩, rfl⟩
  refine k_La_law_853 ok G.nL rW_58 mo_thrown (gF_l (c := 0) (s := 0) (h := 1) hR (by decide) (by decide) hk hn) (fun _ _ q => qM_len q) ?_
  rintro r M' ⟨m, ⟨rfl, rfl⟩, rfl⟩
  rw [a3]
  have fin : gg X (W9 c' m o') (k + 1) (n + 6) 882 [(0, .ref spl), (1, .ref 0), (2, .ref 58), (3, .ref 84), (4, .int (nI i)), (5, .int (nI t)), (6, .long b)] [] := k_La_law_882 ok (nx _ _ _ a6)
  refine k_La_law_859 ok (fun _ => ?_) (fun z => absurd rfl z)
  refine k_La_law_866 ok (fun _ => fin) (fun z => ?_)
  have e0 : t = 0 := nEq rfl (nL 0) a4 (by decide) z
  exact k_La_law_871 ok rW_84 (vin (nL 0) (by decide) (by decide)) (fun _ => fin) (fun z => absurd (a5 e0) z)
theorem ls_sync (ok : gO X c_La_law "TripleStoreLaw" w_Tr_size) (G : gLw X l) (hk : k + 1 ≤ 600002) (hn : n + 6 ≤ 7302232) (hs : Sim0 l R c m o y_TS_sync w_TS_sync y_Mo_sync w_Mo_sync) (nx : Nx X R k n i) : gg X (W9 c m o) k n 592 (LL i) [] := by
  obtain rfl : gLa X = l := G.La
  have hR := G.R
  obtain ⟨h, h2, c', b, m', hh, hh2, a1, a2, a3⟩ := hs
  refine k_La_law_592 ok rW_0 a1 (gF_l (c := 0) (s := 0) hR hh (by decide) (by omega) (by omega)) (fun _ _ q => qC_len q) ?_
  rintro r M' ⟨c2, ⟨rfl, rfl⟩, rfl⟩
  refine k_La_law_596 ok rW_58 a2 (gF_l (c := 0) (s := 0) hR hh2 (by decide) (by show k ≤ _; omega) (by show n ≤ _; omega)) (fun _ _ q => qM_len q) ?_
  rintro r M' ⟨m2, ⟨rfl, rfl⟩, rfl⟩
  refine k_La_law_600 ok (fun _ => ?_) (fun z => absurd rfl z)
  exact gg_widen (Nat.le_succ k) (Nat.le_add_right n 6) (nx _ _ _ a3)
theorem ls_fault (ok : gO X c_La_law "TripleStoreLaw" w_Tr_size) (G : gLw X l) (hk : k + 1 ≤ 600002) (hn : n + 6 ≤ 7302232) (hs : Sim0 l R c m o y_TS_fault w_TS_fault y_Mo_fault w_Mo_fault) (nx : Nx X R k n i) : gg X (W9 c m o) k n 805 (LL i) [] := by
  obtain rfl : gLa X = l := G.La
  have hR := G.R
  obtain ⟨h, h2, c', b, m', hh, hh2, a1, a2, a3⟩ := hs
  refine k_La_law_805 ok rW_0 a1 (gF_l (c := 0) (s := 0) hR hh (by decide) (by omega) (by omega)) (fun _ _ q => qC_len q) ?_
  rintro r M' ⟨c2, ⟨rfl, rfl⟩, rfl⟩
  refine k_La_law_809 ok rW_58 a2 (gF_l (c := 0) (s := 0) hR hh2 (by decide) (by show k ≤ _; omega) (by show n ≤ _; omega)) (fun _ _ q => qM_len q) ?_
  rintro r M' ⟨m2, ⟨rfl, rfl⟩, rfl⟩
  refine k_La_law_813 ok (fun _ => ?_) (fun z => absurd rfl z)
  exact gg_widen (Nat.le_succ k) (Nat.le_add_right n 6) (nx _ _ _ a3)
def SimsAt (l : Launch) (R : CS → MS → Prop) (c : CS) (m : MS) (o : Nat → Int64) : Prop := (∀ (s p q : Int64), Sim l R c m o y_La_add w_La_add [.long s, .long p, .long q] y_Mo_add w_Mo_add [.long s, .long p, .long q]) ∧ (∀ (s p q : Int64), Sim l R c m o y_La_remove w_La_remove [.long s, .long p, .long q] y_Mo_remove w_Mo_remove [.long s, .long p, .long q]) ∧ (Sim l R c m o y_La_begin w_La_begin [] y_Mo_begin w_Mo_begin []) ∧ (Sim l R c m o y_La_commit w_La_commit [] y_Mo_commit w_Mo_commit []) ∧ (Sim l R c m o y_La_rollback w_La_rollback [] y_Mo_rollback w_Mo_rollback []) ∧ (∀ (x : Int32), Sim l R c m o y_La_crash w_La_crash [.int x] y_Mo_crash w_Mo_crash [.int x]) ∧ (∀ (v : Int64) (x : Int32), Sim l R c m o y_La_append w_La_append [.long v, .int x] y_Mo_append w_Mo_append [.long v, .int x]) ∧ (Sim l R c m o y_La_ask w_La_ask [] y_Mo_ask w_Mo_ask []) ∧ (∀ (x : Int32), Sim l R c m o y_La_count w_La_count [.int x] y_Mo_count w_Mo_count [.int x]) ∧ (∀ (x y : Int32), SimJ l R c m o y_La_cell2 w_La_cell2 [.int x, .int y] y_Mo_cell w_Mo_cell [.int x, .int y]) ∧ Sim0 l R c m o y_TS_sync w_TS_sync y_Mo_sync w_Mo_sync ∧ Sim0 l R c m o y_TS_fault w_TS_fault y_Mo_fault w_Mo_fault ∧ R c m
theorem ls_step (ok : gO X c_La_law "TripleStoreLaw" w_Tr_size) (S : gSc X Ln xs) (G : gLw X l) (hi : i + 7 ≤ Ln) (hL : Ln ≤ 3584) (hk : k + 1 ≤ 600002) (hn : n + 6 ≤ 7302232) (hs : SimsAt l R c m o) (nx : Nx X R k n i) : gg X (W9 c m o) k n 33 (LL i) [] := by
  obtain ⟨s0, s1, s2, s3, s4, s6, s7, s8, s11, s10, s5, s9, h0⟩ := hs
  refine k_La_law_33 ok S (vin rfl (by omega) (by omega)) (fun _ => ls_add ok S G hi hL hk hn s0 nx) (fun _ => ls_remove ok S G hi hL hk hn s1 nx) (fun _ => ls_begin ok S G hi hL hk hn s2 nx) (fun _ => ls_commit ok S G hi hL hk hn s3 nx) (fun _ => ls_rollback ok S G hi hL hk hn s4 nx) (fun _ => ls_sync ok G hk hn s5 nx) (fun _ => ls_crash ok S G hi hL hk hn s6 nx) (fun _ => ls_append ok S G hi hL hk hn s7 nx) (fun _ => ls_ask ok S G hi hL hk hn s8 nx) (fun _ => ls_fault ok G hk hn s9 nx) (fun _ => ls_cell ok S G hi hL hk hn s10 nx) (fun _ => ls_count ok S G hi hL hk hn s11 nx) (fun _ => gg_widen (Nat.le_succ k) (Nat.le_add_right n 6) (nx _ _ _ h0))
end LS
