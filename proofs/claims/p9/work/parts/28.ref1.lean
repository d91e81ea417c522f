/-! THE REFERENCE: its store -/
section RS
variable {l : Launch} {c : CS} {m : MS} {o : Nat → Int64}
theorem mo_good (b : Bool) (k : Nat) : mm_ l y_Mo_good w_Mo_good (rmh 1) [.ref 58, .int (bI b), .int (nI k)] (W9 c m o) (qM c o (fun r m' => r = some (.int (bI b)) ∧ m' = m.u_cd (bif b then 0 else k))) := by
  refine mm_imp (m_Mo_good rW_58 (Nat.le_refl 59) b (nI k)) (fun r M' h => ⟨_, ⟨h.1, rfl⟩, h.2.trans ?_⟩)
  cases b <;> rfl
theorem mo_goodT (k : Nat) : mm_ l y_Mo_good w_Mo_good (rmh 1) [.ref 58, .int (bI true), .int (nI k)] (W9 c m o) (qM c o (fun r m' => r = some (.int (bI true)) ∧ m' = m.u_cd 0)) := mo_good true k
theorem mo_goodF (k : Nat) : mm_ l y_Mo_good w_Mo_good (rmh 1) [.ref 58, .int (bI false), .int (nI k)] (W9 c m o) (qM c o (fun r m' => r = some (.int (bI false)) ∧ m' = m.u_cd k)) := mo_good false k
theorem mo_isTriple (s p q : Int64) : mm_ l y_Mo_isTriple w_Mo_isTriple (rmh 3) [.ref 58, .long s, .long p, .long q] (W9 c m o) (qM c o (fun r m' => r = some (.int (bI (rT s p q))) ∧ m' = m.u_cd (bif rT s p q then 0 else 1))) := by
  refine mm_imp (m_Mo_isTriple rW_58 (Nat.le_refl 59) s p q) (fun r M' h => ⟨_, ⟨h.1, rfl⟩, h.2.trans ?_⟩)
  cases rT s p q <;> rfl
theorem mo_thrown : mm_ l y_Mo_thrown w_Mo_thrown (rmh 1) [.ref 58] (W9 c m o) (qM c o (fun r m' => r = some (.int (nI m.cd)) ∧ m' = m)) :=
  mm_imp (m_Mo_thrown rW_58 rfl) (fun r M' h => ⟨_, ⟨h.1, rfl⟩, h.2⟩)
theorem mo_in (a b d : Int32) : mm_ l y_Mo_in w_Mo_in (rmh 1) [.int a, .int b, .int d] (W9 c m o) (qM c o (fun r m' => r = some (.int (bI (rI a b d))) ∧ m' = m)) :=
  mm_imp (m_Mo_in a b d) (fun r M' h => ⟨_, ⟨h.1, rfl⟩, h.2⟩)
abbrev MS.d_close (m : MS) : MS := ((m.u_cm (m.cm + 1)).u_us (m.us + 1)).u_op false
theorem mo_close : mm_ l y_Mo_close w_Mo_close (rmh 1) [.ref 58] (W9 c m o) (qM c o (fun r m' => r = none ∧ m' = m.d_close)) := by
  refine mm_intro (by decide) (Nat.le_of_ble_eq_true rfl) i_Mo_close (fun X ok E => ?_)
  refine k_Mo_close_0 ok rW_58 rF_Mo_8 (Nat.le_refl 59) (sF_Mo_8 (nA rfl (nL 1))) (sO_Mo_8 rfl) rF_Mo_9 (sF_Mo_9 (nA rfl (nL 1))) (sO_Mo_9 rfl) (sF_Mo_10 (v := false) rfl) (sO_Mo_10 rfl) E ⟨_, ⟨rfl, rfl⟩, rfl⟩ (Nat.le_refl _) (Nat.le_refl _)
def fd3 (f : Nat → Int64) (s p q : Int64) : Nat → Nat → Nat
  | 0, i => i
  | r + 1, i => if f (3 * i) = s ∧ f (3 * i + 1) = p ∧ f (3 * i + 2) = q then i else fd3 f s p q r (i + 1)
theorem fd3_le (f : Nat → Int64) (s p q : Int64) : ∀ r i, fd3 f s p q r i ≤ i + r
  | 0, i => Nat.le_refl _
  | r + 1, i => by
    unfold fd3
    split
    · omega
    · have := fd3_le f s p q r (i + 1)
      omega
theorem mo_find (hn : m.nt ≤ 48) (s p q : Int64) : mm_ l y_Mo_find w_Mo_find (rmh 1) [.ref 58, .long s, .long p, .long q] (W9 c m o) (qM c o (fun r m' => r = some (.int (nI (fd3 m.tr s p q m.nt 0))) ∧ m' = m)) := by
  refine mm_intro (by decide) (Nat.le_of_ble_eq_true rfl) i_Mo_find (fun X ok E => ?_)
  refine k_Mo_find_0 ok E.nL ?_
  have loop : ∀ r i, i + r = m.nt → fd3 m.tr s p q r i = fd3 m.tr s p q m.nt 0 → gg X (W9 c m o) 0 0 3 [(0, .ref 58), (1, .long s), (3, .long p), (5, .long q), (7, .int (nI i))] [] := by
    intro r
    induction r with
    | zero =>
      intro i hi hr
      refine k_Mo_find_3 ok rW_58 rF_Mo_1 (fun z => have z := (nLe rfl rfl (by omega) (by omega) z); ?_) (fun z => have z := (nNle rfl rfl (by omega) (by omega) z); ?_)
      · refine k_Mo_find_65 ok E ⟨_, ⟨by rw [← hr]; rfl, rfl⟩, rfl⟩ (Nat.le_refl _) (Nat.le_refl _)
      · omega
    | succ r ih =>
      intro i hi hr
      have c0 : (3 * nI i).toNatClampNeg = 3 * i := nC (nM (nL 3) rfl) (by omega)
      have c1 : (3 * nI i + 1).toNatClampNeg = 3 * i + 1 := nC (nA (nM (nL 3) rfl) (nL 1)) (by omega)
      have c2 : (3 * nI i + 2).toNatClampNeg = 3 * i + 2 := nC (nA (nM (nL 3) rfl) (nL 2)) (by omega)
      have next : ¬ (m.tr (3 * i) = s ∧ m.tr (3 * i + 1) = p ∧ m.tr (3 * i + 2) = q) → gg X (W9 c m o) 0 0 59 [(0, .ref 58), (1, .long s), (3, .long p), (5, .long q), (7, .int (nI i))] [] := by
        intro hne
        refine k_Mo_find_59 ok E.nL ?_
        rw [nI_1]
        refine ih (i + 1) (by omega) ?_
        exact (if_neg hne : fd3 m.tr s p q (r + 1) i = _).symm.trans hr
      refine k_Mo_find_3 ok rW_58 rF_Mo_1 (fun z => have z := (nLe rfl rfl (by omega) (by omega) z); ?_) (fun z => have z := (nNle rfl rfl (by omega) (by omega) z); ?_)
      · omega
      refine k_Mo_find_12 ok rW_58 rF_Mo_0 rW_59 (vin (nM (nL 3) rfl) (by omega) (by decide)) (fun z => next (fun h => z (by rw [c0]; exact h.1))) (fun z1 => ?_)
      refine k_Mo_find_26 ok rW_58 rF_Mo_0 rW_59 (vin (nA (nM (nL 3) rfl) (nL 1)) (by omega) (by decide)) (fun z => next (fun h => z (by rw [c1]; exact h.2.1))) (fun z2 => ?_)
      refine k_Mo_find_42 ok rW_58 rF_Mo_0 rW_59 (vin (nA (nM (nL 3) rfl) (nL 2)) (by omega) (by decide)) (fun z3 => ?_) (fun z => next (fun h => z (by rw [c2]; exact h.2.2)))
      rw [c0] at z1
      rw [c1] at z2
      rw [c2] at z3
      have e9 : fd3 m.tr s p q (r + 1) i = i := if_pos ⟨z1, z2, z3⟩
      refine k_Mo_find_65 ok E ⟨_, ⟨by rw [← hr, e9], rfl⟩, rfl⟩ (Nat.le_refl _) (Nat.le_refl _)
  exact loop m.nt 0 (by omega) rfl
/-- a triple at place i -/
def up3 (f : Nat → Int64) (i : Nat) (s p q : Int64) : Nat → Int64 := vp_updL (vp_updL (vp_updL f (3 * i) s) (3 * i + 1) p) (3 * i + 2) q
abbrev MS.d_put (m : MS) (s p q : Int64) : MS := (m.u_tr (up3 m.tr m.nt s p q)).u_nt (m.nt + 1)
theorem mo_applyT (hn : m.nt < 48) (s p q : Int64) : mm_ l y_Mo_apply w_Mo_apply (rmh 2) [.ref 58, .int (bI true), .long s, .long p, .long q] (W9 c m o) (qM c o (fun r m' => r = none ∧ m' = m.d_put s p q)) := by
  refine mm_intro (by decide) (Nat.le_of_ble_eq_true rfl) i_Mo_apply (fun X ok E => ?_)
  have c0 : (3 * nI m.nt).toNatClampNeg = 3 * m.nt := nC (nM (nL 3) rfl) (by omega)
  have c1 : (3 * nI m.nt + 1).toNatClampNeg = 3 * m.nt + 1 := nC (nA (nM (nL 3) rfl) (nL 1)) (by omega)
  have c2 : (3 * nI m.nt + 2).toNatClampNeg = 3 * m.nt + 2 := nC (nA (nM (nL 3) rfl) (nL 2)) (by omega)
  refine k_Mo_apply_0 ok rW_58 (mo_find (by omega) s p q) (gF_h E.nR (by decide) (by decide)) (fun _ _ q => qM_len q) ?_
  rintro r M' ⟨m, ⟨rfl, rfl⟩, rfl⟩
  refine k_Mo_apply_9 ok E.nL (fun z => absurd z (by decide)) (fun _ => ?_)
  refine k_Mo_apply_15 ok rW_58 rF_Mo_0 rF_Mo_1 rW_59 (vin (nM (nL 3) rfl) (by omega) (by decide)) sA_59 (vin (nA (nM (nL 3) rfl) (nL 1)) (by omega) (by decide)) sA_59 (vin (nA (nM (nL 3) rfl) (nL 2)) (by omega) (by decide)) sA_59 (Nat.le_refl 59) (sF_Mo_1 (nA rfl (nL 1))) (sO_Mo_1 rfl) E ⟨_, ⟨rfl, by rw [c0, c1, c2]; rfl⟩, rfl⟩ (Nat.le_refl _) (Nat.le_refl _)
def mv3 (f : Nat → Int64) (i j : Nat) : Nat → Nat → Int64
  | 0 => f
  | k + 1 => vp_updL (mv3 f i j k) (3 * i + k) (mv3 f i j k (3 * j + k))
abbrev MS.d_cut (m : MS) (i : Nat) : MS := (m.u_nt (m.nt - 1)).u_tr (mv3 m.tr i (m.nt - 1) 3)
theorem mo_applyF (hn : m.nt ≤ 48) (s p q : Int64) (hi : fd3 m.tr s p q m.nt 0 < m.nt) : mm_ l y_Mo_apply w_Mo_apply (rmh 2) [.ref 58, .int (bI false), .long s, .long p, .long q] (W9 c m o) (qM c o (fun r m' => r = none ∧ m' = m.d_cut (fd3 m.tr s p q m.nt 0))) := by
  refine mm_intro (by decide) (Nat.le_of_ble_eq_true rfl) i_Mo_apply (fun X ok E => ?_)
  refine k_Mo_apply_0 ok rW_58 (mo_find hn s p q) (gF_h E.nR (by decide) (by decide)) (fun _ _ q => qM_len q) ?_
  rintro r M' ⟨m, ⟨rfl, rfl⟩, rfl⟩
  obtain ⟨i, hi9⟩ : ∃ i, fd3 m.tr s p q m.nt 0 = i := ⟨_, rfl⟩
  rw [hi9] at hi E ⊢
  refine k_Mo_apply_9 ok E.nL (fun _ => ?_) (fun z => absurd rfl z)
  refine k_Mo_apply_68 ok E.nL rW_58 rF_Mo_1 (Nat.le_refl 59) (sF_Mo_1 (nS rfl (nL 1) (by omega))) (sO_Mo_1 rfl) ?_
  have loop : ∀ r k, k + r = 3 → gg X (W9 c ((m.u_nt (m.nt - 1)).u_tr (mv3 m.tr i (m.nt - 1) k)) o) 0 0 81 [(0, .ref 58), (8, .int (nI i)), (9, .int (nI k))] [] := by
    intro r
    induction r with
    | zero =>
      intro k hk
      obtain rfl : k = 3 := by omega
      refine k_Mo_apply_81 ok (fun z => have z := (nLe (nL 3) rfl (by omega) (by omega) z); ?_) (fun z => have z := (nNle (nL 3) rfl (by omega) (by omega) z); ?_)
      · refine k_Mo_apply_119 ok E ⟨_, ⟨rfl, rfl⟩, rfl⟩ (Nat.le_refl _) (Nat.le_refl _)
      · omega
    | succ r ih =>
      intro k hk
      refine k_Mo_apply_81 ok (fun z => have z := (nLe (nL 3) rfl (by omega) (by omega) z); ?_) (fun z => have z := (nNle (nL 3) rfl (by omega) (by omega) z); ?_)
      · omega
      have c0 : (3 * nI (m.nt - 1) + nI k).toNatClampNeg = 3 * (m.nt - 1) + k := nC (nA (nM (nL 3) rfl) rfl) (by omega)
      have c1 : (3 * nI i + nI k).toNatClampNeg = 3 * i + k := nC (nA (nM (nL 3) rfl) rfl) (by omega)
      have e1 : ((m.u_nt (m.nt - 1)).u_tr (mv3 m.tr i (m.nt - 1) k)).nt = m.nt - 1 := rfl
      refine k_Mo_apply_87 ok E.nL rW_58 rF_Mo_0 rF_Mo_1 rW_59 (vin (nA (nM (nL 3) rfl) rfl) (by omega) (by decide)) (vin (nA (nM (nL 3) rfl) rfl) (by omega) (by decide)) sA_59 ?_
      rw [nI_1]
      refine cast (congrArg (fun f => gg X (W9 c ((m.u_nt (m.nt - 1)).u_tr f) o) 0 0 81 _ _) ?_) (ih (k + 1) (by omega))
      show vp_updL _ _ _ = vp_updL _ _ _
      rw [← c0, ← c1]
  exact loop 3 0 rfl
end RS
