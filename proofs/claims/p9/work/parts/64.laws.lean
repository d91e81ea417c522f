section LX
variable {X : gC} {l : Launch} {c : CS} {m : MS} {o : Nat → Int64} {R : CS → MS → Prop} {k n i Ln : Nat} {xs : Nat → Int32}

theorem ls_add (ok : gO X c_La_law "TripleStoreLaw" w_Tr_size) (S : gSc X Ln xs) (G : gLw X l) (hi : i + 7 ≤ Ln) (hL : Ln ≤ 3584) (hk : k + 1 ≤ 601024) (hn : n + 6 ≤ 7293034) (hs : ∀ (s p q : Int64), SimU l R c m o y_La_add w_La_add [.long s, .long p, .long q] y_Mo_add w_Mo_add [.long s, .long p, .long q]) (nx : Nx X R k n i) : gg X (W9 c m o) k n 104 (LL i) [] := by
  obtain rfl : gLa X = l := G.La
  have hR := G.R
  obtain ⟨h, h2, pC, hh, hh2, a1, a2⟩ := hs _ _ _
  refine k_La_law_104 ok S (vin (nA rfl (nL 1)) (by omega) (by omega)) (vin (nA rfl (nL 2)) (by omega) (by omega)) (vin (nA rfl (nL 3)) (by omega) (by omega)) (vin (nA rfl (nL 4)) (by omega) (by omega)) (vin (nA rfl (nL 5)) (by omega) (by omega)) (vin (nA rfl (nL 6)) (by omega) (by omega)) a1 (gF_l hR hh (by decide) hk hn) (fun _ _ q => by obtain ⟨_, _, _, _, _, rfl⟩ := q; rfl) ?_
  rintro r M' ⟨k2, c2, o2, rfl, q1, rfl⟩
  refine k_La_law_176 ok S G.nL (vin (nA rfl (nL 1)) (by omega) (by omega)) (vin (nA rfl (nL 2)) (by omega) (by omega)) (vin (nA rfl (nL 3)) (by omega) (by omega)) (vin (nA rfl (nL 4)) (by omega) (by omega)) (vin (nA rfl (nL 5)) (by omega) (by omega)) (vin (nA rfl (nL 6)) (by omega) (by omega)) rW_58 (a2 c2 o2 q1) (gF_l (c := 0) (s := 0) hR hh2 (by decide) hk hn) (fun _ _ q => qM_len q) ?_
  rintro r M' ⟨m2, ⟨⟨b2, rfl⟩, q2⟩, rfl⟩
  refine k_La_law_249 ok G.nL ?_
  exact nx _ _ _ q2
theorem ls_remove (ok : gO X c_La_law "TripleStoreLaw" w_Tr_size) (S : gSc X Ln xs) (G : gLw X l) (hi : i + 7 ≤ Ln) (hL : Ln ≤ 3584) (hk : k + 1 ≤ 601024) (hn : n + 6 ≤ 7293034) (hs : ∀ (s p q : Int64), SimU l R c m o y_La_remove w_La_remove [.long s, .long p, .long q] y_Mo_remove w_Mo_remove [.long s, .long p, .long q]) (nx : Nx X R k n i) : gg X (W9 c m o) k n 254 (LL i) [] := by
  obtain rfl : gLa X = l := G.La
  have hR := G.R
  obtain ⟨h, h2, pC, hh, hh2, a1, a2⟩ := hs _ _ _
  refine k_La_law_254 ok S (vin (nA rfl (nL 1)) (by omega) (by omega)) (vin (nA rfl (nL 2)) (by omega) (by omega)) (vin (nA rfl (nL 3)) (by omega) (by omega)) (vin (nA rfl (nL 4)) (by omega) (by omega)) (vin (nA rfl (nL 5)) (by omega) (by omega)) (vin (nA rfl (nL 6)) (by omega) (by omega)) a1 (gF_l hR hh (by decide) hk hn) (fun _ _ q => by obtain ⟨_, _, _, _, _, rfl⟩ := q; rfl) ?_
  rintro r M' ⟨k2, c2, o2, rfl, q1, rfl⟩
  refine k_La_law_326 ok S G.nL (vin (nA rfl (nL 1)) (by omega) (by omega)) (vin (nA rfl (nL 2)) (by omega) (by omega)) (vin (nA rfl (nL 3)) (by omega) (by omega)) (vin (nA rfl (nL 4)) (by omega) (by omega)) (vin (nA rfl (nL 5)) (by omega) (by omega)) (vin (nA rfl (nL 6)) (by omega) (by omega)) rW_58 (a2 c2 o2 q1) (gF_l (c := 0) (s := 0) hR hh2 (by decide) hk hn) (fun _ _ q => qM_len q) ?_
  rintro r M' ⟨m2, ⟨⟨b2, rfl⟩, q2⟩, rfl⟩
  refine k_La_law_399 ok G.nL ?_
  exact nx _ _ _ q2
theorem ls_begin (ok : gO X c_La_law "TripleStoreLaw" w_Tr_size) (S : gSc X Ln xs) (G : gLw X l) (hi : i + 7 ≤ Ln) (hL : Ln ≤ 3584) (hk : k + 1 ≤ 601024) (hn : n + 6 ≤ 7293034) (hs : SimU l R c m o y_La_begin w_La_begin [] y_Mo_begin w_Mo_begin []) (nx : Nx X R k n i) : gg X (W9 c m o) k n 404 (LL i) [] := by
  obtain rfl : gLa X = l := G.La
  have hR := G.R
  obtain ⟨h, h2, pC, hh, hh2, a1, a2⟩ := hs 
  refine k_La_law_404 ok a1 (gF_l hR hh (by decide) hk hn) (fun _ _ q => by obtain ⟨_, _, _, _, _, rfl⟩ := q; rfl) ?_
  rintro r M' ⟨k2, c2, o2, rfl, q1, rfl⟩
  refine k_La_law_409 ok G.nL rW_58 (a2 c2 o2 q1) (gF_l (c := 0) (s := 0) hR hh2 (by decide) hk hn) (fun _ _ q => qM_len q) ?_
  rintro r M' ⟨m2, ⟨⟨b2, rfl⟩, q2⟩, rfl⟩
  refine k_La_law_415 ok G.nL ?_
  exact nx _ _ _ q2
theorem ls_commit (ok : gO X c_La_law "TripleStoreLaw" w_Tr_size) (S : gSc X Ln xs) (G : gLw X l) (hi : i + 7 ≤ Ln) (hL : Ln ≤ 3584) (hk : k + 1 ≤ 601024) (hn : n + 6 ≤ 7293034) (hs : SimU l R c m o y_La_commit w_La_commit [] y_Mo_commit w_Mo_commit []) (nx : Nx X R k n i) : gg X (W9 c m o) k n 420 (LL i) [] := by
  obtain rfl : gLa X = l := G.La
  have hR := G.R
  obtain ⟨h, h2, pC, hh, hh2, a1, a2⟩ := hs 
  refine k_La_law_420 ok a1 (gF_l hR hh (by decide) hk hn) (fun _ _ q => by obtain ⟨_, _, _, _, _, rfl⟩ := q; rfl) ?_
  rintro r M' ⟨k2, c2, o2, rfl, q1, rfl⟩
  refine k_La_law_425 ok G.nL rW_58 (a2 c2 o2 q1) (gF_l (c := 0) (s := 0) hR hh2 (by decide) hk hn) (fun _ _ q => qM_len q) ?_
  rintro r M' ⟨m2, ⟨⟨b2, rfl⟩, q2⟩, rfl⟩
  refine k_La_law_431 ok G.nL ?_
  exact nx _ _ _ q2
theorem ls_rollback (ok : gO X c_La_law "TripleStoreLaw" w_Tr_size) (S : gSc X Ln xs) (G : gLw X l) (hi : i + 7 ≤ Ln) (hL : Ln ≤ 3584) (hk : k + 1 ≤ 601024) (hn : n + 6 ≤ 7293034) (hs : SimU l R c m o y_La_rollback w_La_rollback [] y_Mo_rollback w_Mo_rollback []) (nx : Nx X R k n i) : gg X (W9 c m o) k n 436 (LL i) [] := by
  obtain rfl : gLa X = l := G.La
  have hR := G.R
  obtain ⟨h, h2, pC, hh, hh2, a1, a2⟩ := hs 
  refine k_La_law_436 ok a1 (gF_l hR hh (by decide) hk hn) (fun _ _ q => by obtain ⟨_, _, _, _, _, rfl⟩ := q; rfl) ?_
  rintro r M' ⟨k2, c2, o2, rfl, q1, rfl⟩
  refine k_La_law_441 ok G.nL rW_58 (a2 c2 o2 q1) (gF_l (c := 0) (s := 0) hR hh2 (by decide) hk hn) (fun _ _ q => qM_len q) ?_
  rintro r M' ⟨m2, ⟨⟨b2, rfl⟩, q2⟩, rfl⟩
  refine k_La_law_447 ok G.nL ?_
  exact nx _ _ _ q2
theorem ls_sync (ok : gO X c_La_law "TripleStoreLaw" w_Tr_size) (S : gSc X Ln xs) (G : gLw X l) (hi : i + 7 ≤ Ln) (hL : Ln ≤ 3584) (hk : k + 1 ≤ 601024) (hn : n + 6 ≤ 7293034) (hs : SimU0 l R c m o y_TS_sync w_TS_sync y_Mo_sync w_Mo_sync) (nx : Nx X R k n i) : gg X (W9 c m o) k n 452 (LL i) [] := by
  obtain rfl : gLa X = l := G.La
  have hR := G.R
  obtain ⟨h, h2, pC, hh, hh2, a1, a2⟩ := hs
  refine k_La_law_452 ok rW_0 a1 (gF_l (c := 0) (s := 0) hR hh (by decide) (by omega) (by omega)) (fun _ _ q => qC_len q) ?_
  rintro r M' ⟨c2, ⟨⟨b, rfl⟩, q1⟩, rfl⟩
  refine k_La_law_456 ok rW_58 (a2 c2 q1) (gF_l (c := 0) (s := 0) hR hh2 (by decide) (by show k ≤ _; omega) (by show n ≤ _; omega)) (fun _ _ q => qM_len q) ?_
  rintro r M' ⟨m2, ⟨⟨b2, rfl⟩, q2⟩, rfl⟩
  refine k_La_law_461 ok ?_
  exact gg_widen (Nat.le_succ k) (Nat.le_add_right n 6) (nx _ _ _ q2)
theorem ls_crash (ok : gO X c_La_law "TripleStoreLaw" w_Tr_size) (S : gSc X Ln xs) (G : gLw X l) (hi : i + 7 ≤ Ln) (hL : Ln ≤ 3584) (hk : k + 1 ≤ 601024) (hn : n + 6 ≤ 7293034) (hs : ∀ (x : Int32), SimU l R c m o y_La_crash w_La_crash [.int x] y_Mo_crash w_Mo_crash [.int x]) (nx : Nx X R k n i) : gg X (W9 c m o) k n 465 (LL i) [] := by
  obtain rfl : gLa X = l := G.La
  have hR := G.R
  obtain ⟨h, h2, pC, hh, hh2, a1, a2⟩ := hs _
  refine k_La_law_465 ok S (vin (nA rfl (nL 1)) (by omega) (by omega)) a1 (gF_l hR hh (by decide) hk hn) (fun _ _ q => by obtain ⟨_, _, _, _, _, rfl⟩ := q; rfl) ?_
  rintro r M' ⟨k2, c2, o2, rfl, q1, rfl⟩
  refine k_La_law_476 ok S G.nL (vin (nA rfl (nL 1)) (by omega) (by omega)) rW_58 (a2 c2 o2 q1) (gF_l (c := 0) (s := 0) hR hh2 (by decide) hk hn) (fun _ _ q => qM_len q) ?_
  rintro r M' ⟨m2, ⟨⟨b2, rfl⟩, q2⟩, rfl⟩
  refine k_La_law_488 ok G.nL ?_
  exact nx _ _ _ q2
theorem ls_append (ok : gO X c_La_law "TripleStoreLaw" w_Tr_size) (S : gSc X Ln xs) (G : gLw X l) (hi : i + 7 ≤ Ln) (hL : Ln ≤ 3584) (hk : k + 1 ≤ 601024) (hn : n + 6 ≤ 7293034) (hs : ∀ (v : Int64) (x : Int32), Sim l R c m o y_La_append w_La_append [.long v, .int x] y_Mo_append w_Mo_append [.long v, .int x]) (nx : Nx X R k n i) : gg X (W9 c m o) k n 493 (LL i) [] := by
  obtain rfl : gLa X = l := G.La
  have hR := G.R
  obtain ⟨t, h, h2, c', o', b, m', hh, hh2, a1, a2, a3, a4, a5, a6⟩ := hs _ _
  refine k_La_law_493 ok S (vin (nA rfl (nL 1)) (by omega) (by omega)) (vin (nA rfl (nL 2)) (by omega) (by omega)) (vin (nA rfl (nL 3)) (by omega) (by omega)) a1 (gF_l hR hh (by decide) hk hn) (fun _ _ q => by rw [q.2]; rfl) ?_
  rintro r M' ⟨rfl, rfl⟩
  refine k_La_law_526 ok S G.nL (vin (nA rfl (nL 1)) (by omega) (by omega)) (vin (nA rfl (nL 2)) (by omega) (by omega)) (vin (nA rfl (nL 3)) (by omega) (by omega)) rW_58 a2 (gF_l (c := 0) (s := 0) hR hh2 (by decide) hk hn) (fun _ _ q => qM_len q) ?_
  rintro r M' ⟨m2, ⟨rfl, rfl⟩, rfl⟩
  refine k_La_law_560 ok G.nL rW_58 mo_thrown (gF_l (c := 0) (s := 0) (h := 1) hR (by decide) (by decide) hk hn) (fun _ _ q => qM_len q) ?_
  rintro r M' ⟨m, ⟨rfl, rfl⟩, rfl⟩
  rw [a3]
  have fin : gg X (W9 c' m o') (k + 1) (n + 6) 590 [(0, .ref spl), (1, .ref 0), (2, .ref 58), (3, .ref 84), (4, .int (nI i)), (5, .int (nI t)), (6, .int b)] [] := k_La_law_590 ok (nx _ _ _ a6)
  refine k_La_law_566 ok (fun _ => ?_) (fun z => absurd rfl z)
  refine k_La_law_573 ok (fun _ => fin) (fun z => ?_)
  have e0 : t = 0 := nEq rfl (nL 0) a4 (by decide) z
  exact k_La_law_578 ok rW_84 (vin (nL 0) (by decide) (by decide)) (fun _ => fin) (fun z => absurd (a5 e0) z)
theorem ls_ask (ok : gO X c_La_law "TripleStoreLaw" w_Tr_size) (S : gSc X Ln xs) (G : gLw X l) (hi : i + 7 ≤ Ln) (hL : Ln ≤ 3584) (hk : k + 1 ≤ 601024) (hn : n + 6 ≤ 7293034) (hs : SimU l R c m o y_La_ask w_La_ask [] y_Mo_ask w_Mo_ask []) (nx : Nx X R k n i) : gg X (W9 c m o) k n 593 (LL i) [] := by
  obtain rfl : gLa X = l := G.La
  have hR := G.R
  obtain ⟨h, h2, pC, hh, hh2, a1, a2⟩ := hs 
  refine k_La_law_593 ok a1 (gF_l hR hh (by decide) hk hn) (fun _ _ q => by obtain ⟨_, _, _, _, _, rfl⟩ := q; rfl) ?_
  rintro r M' ⟨k2, c2, o2, rfl, q1, rfl⟩
  refine k_La_law_598 ok G.nL rW_58 (a2 c2 o2 q1) (gF_l (c := 0) (s := 0) hR hh2 (by decide) hk hn) (fun _ _ q => qM_len q) ?_
  rintro r M' ⟨m2, ⟨⟨b2, rfl⟩, q2⟩, rfl⟩
  refine k_La_law_604 ok G.nL ?_
  exact nx _ _ _ q2
theorem ls_fault (ok : gO X c_La_law "TripleStoreLaw" w_Tr_size) (S : gSc X Ln xs) (G : gLw X l) (hi : i + 7 ≤ Ln) (hL : Ln ≤ 3584) (hk : k + 1 ≤ 601024) (hn : n + 6 ≤ 7293034) (hs : SimU0 l R c m o y_TS_fault w_TS_fault y_Mo_fault w_Mo_fault) (nx : Nx X R k n i) : gg X (W9 c m o) k n 609 (LL i) [] := by
  obtain rfl : gLa X = l := G.La
  have hR := G.R
  obtain ⟨h, h2, pC, hh, hh2, a1, a2⟩ := hs
  refine k_La_law_609 ok rW_0 a1 (gF_l (c := 0) (s := 0) hR hh (by decide) (by omega) (by omega)) (fun _ _ q => qC_len q) ?_
  rintro r M' ⟨c2, ⟨⟨b, rfl⟩, q1⟩, rfl⟩
  refine k_La_law_613 ok rW_58 (a2 c2 q1) (gF_l (c := 0) (s := 0) hR hh2 (by decide) (by show k ≤ _; omega) (by show n ≤ _; omega)) (fun _ _ q => qM_len q) ?_
  rintro r M' ⟨m2, ⟨⟨b2, rfl⟩, q2⟩, rfl⟩
  refine k_La_law_618 ok ?_
  exact gg_widen (Nat.le_succ k) (Nat.le_add_right n 6) (nx _ _ _ q2)
theorem ls_cell (ok : gO X c_La_law "TripleStoreLaw" w_Tr_size) (S : gSc X Ln xs) (G : gLw X l) (hi : i + 7 ≤ Ln) (hL : Ln ≤ 3584) (hk : k + 1 ≤ 601024) (hn : n + 6 ≤ 7293034) (hs : ∀ (x y : Int32), SimUJ l R c m o y_La_cell2 w_La_cell2 [.int x, .int y] y_Mo_cell w_Mo_cell [.int x, .int y]) (nx : Nx X R k n i) : gg X (W9 c m o) k n 622 (LL i) [] := by
  obtain rfl : gLa X = l := G.La
  have hR := G.R
  obtain ⟨h, h2, pC, hh, hh2, a1, a2⟩ := hs _ _
  refine k_La_law_622 ok S (vin (nA rfl (nL 1)) (by omega) (by omega)) (vin (nA rfl (nL 2)) (by omega) (by omega)) a1 (gF_l hR hh (by decide) hk hn) (fun _ _ q => by obtain ⟨_, _, _, _, _, rfl⟩ := q; rfl) ?_
  rintro r M' ⟨k2, c2, o2, rfl, q1, rfl⟩
  refine k_La_law_639 ok S G.nL (vin (nA rfl (nL 1)) (by omega) (by omega)) (vin (nA rfl (nL 2)) (by omega) (by omega)) rW_58 (a2 c2 o2 q1) (gF_l (c := 0) (s := 0) hR hh2 (by decide) hk hn) (fun _ _ q => qM_len q) ?_
  rintro r M' ⟨m2, ⟨⟨b2, rfl⟩, q2⟩, rfl⟩
  refine k_La_law_657 ok G.nL ?_
  exact nx _ _ _ q2
theorem ls_count (ok : gO X c_La_law "TripleStoreLaw" w_Tr_size) (S : gSc X Ln xs) (G : gLw X l) (hi : i + 7 ≤ Ln) (hL : Ln ≤ 3584) (hk : k + 1 ≤ 601024) (hn : n + 6 ≤ 7293034) (hs : ∀ (x : Int32), SimU l R c m o y_La_count w_La_count [.int x] y_Mo_count w_Mo_count [.int x]) (nx : Nx X R k n i) : gg X (W9 c m o) k n 662 (LL i) [] := by
  obtain rfl : gLa X = l := G.La
  have hR := G.R
  obtain ⟨h, h2, pC, hh, hh2, a1, a2⟩ := hs _
  refine k_La_law_662 ok S (vin (nA rfl (nL 1)) (by omega) (by omega)) a1 (gF_l hR hh (by decide) hk hn) (fun _ _ q => by obtain ⟨_, _, _, _, _, rfl⟩ := q; rfl) ?_
  rintro r M' ⟨k2, c2, o2, rfl, q1, rfl⟩
  refine k_La_law_673 ok S G.nL (vin (nA rfl (nL 1)) (by omega) (by omega)) rW_58 (a2 c2 o2 q1) (gF_l (c := 0) (s := 0) hR hh2 (by decide) hk hn) (fun _ _ q => qM_len q) ?_
  rintro r M' ⟨m2, ⟨⟨b2, rfl⟩, q2⟩, rfl⟩
  refine k_La_law_685 ok G.nL ?_
  exact nx _ _ _ q2
def SimsX (l : Launch) (R : CS → MS → Prop) (c : CS) (m : MS) (o : Nat → Int64) : Prop := (∀ (s p q : Int64), SimU l R c m o y_La_add w_La_add [.long s, .long p, .long q] y_Mo_add w_Mo_add [.long s, .long p, .long q]) ∧ (∀ (s p q : Int64), SimU l R c m o y_La_remove w_La_remove [.long s, .long p, .long q] y_Mo_remove w_Mo_remove [.long s, .long p, .long q]) ∧ (SimU l R c m o y_La_begin w_La_begin [] y_Mo_begin w_Mo_begin []) ∧ (SimU l R c m o y_La_commit w_La_commit [] y_Mo_commit w_Mo_commit []) ∧ (SimU l R c m o y_La_rollback w_La_rollback [] y_Mo_rollback w_Mo_rollback []) ∧ (SimU0 l R c m o y_TS_sync w_TS_sync y_Mo_sync w_Mo_sync) ∧ (∀ (x : Int32), SimU l R c m o y_La_crash w_La_crash [.int x] y_Mo_crash w_Mo_crash [.int x]) ∧ (∀ (v : Int64) (x : Int32), Sim l R c m o y_La_append w_La_append [.long v, .int x] y_Mo_append w_Mo_append [.long v, .int x]) ∧ (SimU l R c m o y_La_ask w_La_ask [] y_Mo_ask w_Mo_ask []) ∧ (SimU0 l R c m o y_TS_fault w_TS_fault y_Mo_fault w_Mo_fault) ∧ (∀ (x y : Int32), SimUJ l R c m o y_La_cell2 w_La_cell2 [.int x, .int y] y_Mo_cell w_Mo_cell [.int x, .int y]) ∧ (∀ (x : Int32), SimU l R c m o y_La_count w_La_count [.int x] y_Mo_count w_Mo_count [.int x]) ∧ R c m
theorem lx_step (ok : gO X c_La_law "TripleStoreLaw" w_Tr_size) (S : gSc X Ln xs) (G : gLw X l) (hi : i + 7 ≤ Ln) (hL : Ln ≤ 3584) (hk : k + 1 ≤ 601024) (hn : n + 6 ≤ 7293034) (hs : SimsX l R c m o) (nx : Nx X R k n i) : gg X (W9 c m o) k n 33 (LL i) [] := by
  obtain ⟨s0, s1, s2, s3, s4, s5, s6, s7, s8, s9, s10, s11, h0⟩ := hs
  refine k_La_law_33 ok S (vin rfl (by omega) (by omega)) (fun _ => ls_add ok S G hi hL hk hn s0 nx) (fun _ => ls_remove ok S G hi hL hk hn s1 nx) (fun _ => ls_begin ok S G hi hL hk hn s2 nx) (fun _ => ls_commit ok S G hi hL hk hn s3 nx) (fun _ => ls_rollback ok S G hi hL hk hn s4 nx) (fun _ => ls_sync ok S G hi hL hk hn s5 nx) (fun _ => ls_crash ok S G hi hL hk hn s6 nx) (fun _ => ls_append ok S G hi hL hk hn s7 nx) (fun _ => ls_ask ok S G hi hL hk hn s8 nx) (fun _ => ls_fault ok S G hi hL hk hn s9 nx) (fun _ => ls_cell ok S G hi hL hk hn s10 nx) (fun _ => ls_count ok S G hi hL hk hn s11 nx) (fun _ => gg_widen (Nat.le_succ k) (Nat.le_add_right n 6) (nx _ _ _ h0))
end LX
