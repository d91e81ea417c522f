/-! TRIPLES: contracts -/
/-- a Triples object at t: three arrays of N longs, n of them in use -/
def pTr (M : List mC) (t a b c N n : Nat) (f g h : Nat → Int64) : Prop :=
  M[t]? = some (.inr (8, [.ref a, .ref b, .ref c, .int (nI n)])) ∧ M[a]? = some (.inl (1, N, .inr (.inl f))) ∧ M[b]? = some (.inl (1, N, .inr (.inl g))) ∧ M[c]? = some (.inl (1, N, .inr (.inl h))) ∧ n ≤ N ∧ N < 2 ^ 30 ∧ a ≠ b ∧ a ≠ c ∧ b ≠ c ∧ t ≠ a ∧ t ≠ b ∧ t ≠ c
def tfd (f g h : Nat → Int64) (s p o : Int64) : Nat → Nat → Option Nat
  | 0, _ => none
  | r + 1, i => if f i = s ∧ g i = p ∧ h i = o then some i else tfd f g h s p o r (i + 1)
def tfI (q : Option Nat) : Int32 := match q with
  | some i => nI i
  | none => -1
theorem m_Tr_size {l : Launch} {M : List mC} {t a b c N n : Nat} {f g h : Nat → Int64} (P : pTr M t a b c N n f g h) : mm_ l y_Tr_size w_Tr_size (rmh 1) [.ref t] M (fun r M' => r = some (.int (nI n)) ∧ M' = M) := by
  refine mm_intro (by decide) (Nat.le_of_ble_eq_true rfl) i_Tr_size (fun X ok E => ?_)
  exact k_Tr_size_0 ok P.1 rfl E ⟨rfl, rfl⟩ (Nat.le_refl _) (Nat.le_refl _)
theorem m_Tr_find {l : Launch} {M : List mC} {t a b c N n : Nat} {f g h : Nat → Int64} (P : pTr M t a b c N n f g h) (s p o : Int64) : mm_ l y_Tr_find w_Tr_find (rmh 1) [.ref t, .long s, .long p, .long o] M (fun r M' => r = some (.int (tfI (tfd f g h s p o n 0))) ∧ M' = M) := by
  obtain ⟨p0, pa, pb, pc, hn, hN, -⟩ := P
  refine mm_intro (by decide) (Nat.le_of_ble_eq_true rfl) i_Tr_find (fun X ok E => ?_)
  refine k_Tr_find_0 ok E.nL ?_
  have loop : ∀ r i, i + r = n → tfd f g h s p o r i = tfd f g h s p o n 0 → gg X M 0 0 3 [(0, .ref t), (1, .long s), (3, .long p), (5, .long o), (7, .int (nI i))] [] := by
    intro r
    induction r with
    | zero =>
      intro i hi hr
      refine k_Tr_find_3 ok p0 rfl (fun _ => ?_) (fun z => absurd (nI_le (by omega) (by omega)) z)
      exact k_Tr_find_58 ok E ⟨by rw [← hr]; rfl, rfl⟩ (Nat.le_refl _) (Nat.le_refl _)
    | succ r ih =>
      intro i hi hr
      refine k_Tr_find_3 ok p0 rfl (fun z => absurd z (nI_ge (by omega) (by omega))) (fun _ => ?_)
      have hin : vp_in (nI i) N := vp_in_nI (by omega) (by omega)
      have hcl : (nI i).toNatClampNeg = i := nI_clamp (by omega)
      have next : ¬ (f i = s ∧ g i = p ∧ h i = o) → gg X M 0 0 52 [(0, .ref t), (1, .long s), (3, .long p), (5, .long o), (7, .int (nI i))] [] := by
        intro hne
        refine k_Tr_find_52 ok E.nL ?_
        rw [nI_1]
        refine ih (i + 1) (by omega) ?_
        exact (if_neg hne : tfd f g h s p o (r + 1) i = _).symm.trans hr
      refine k_Tr_find_12 ok p0 rfl pa hin (fun z => next (fun q => z (by rw [hcl]; exact q.1))) (fun z1 => ?_)
      refine k_Tr_find_24 ok p0 rfl pb hin (fun z => next (fun q => z (by rw [hcl]; exact q.2.1))) (fun z2 => ?_)
      refine k_Tr_find_36 ok p0 rfl pc hin (fun z => next (fun q => z (by rw [hcl]; exact q.2.2))) (fun z3 => ?_)
      rw [hcl] at z1 z2 z3
      refine k_Tr_find_49 ok E ⟨?_, rfl⟩ (Nat.le_refl _) (Nat.le_refl _)
      have e9 : tfd f g h s p o (r + 1) i = some i := if_pos ⟨z1, z2, z3⟩
      rw [← hr, e9]
      rfl
  exact loop n 0 (by omega) rfl
theorem m_Tr_isFull {l : Launch} {M : List mC} {t a b c N n : Nat} {f g h : Nat → Int64} (P : pTr M t a b c N n f g h) : mm_ l y_Tr_isFull w_Tr_isFull (rmh 1) [.ref t] M (fun r M' => r = some (.int (if N ≤ n then 1 else 0)) ∧ M' = M) := by
  obtain ⟨p0, pa, pb, pc, hn, hN, -⟩ := P
  refine mm_intro (by decide) (Nat.le_of_ble_eq_true rfl) i_Tr_isFull (fun X ok E => ?_)
  refine k_Tr_isFull_0 ok p0 rfl rfl pa (fun z => ?_) (fun z => ?_)
  · have h1 : ¬ N ≤ n := fun q => nI_nlt q (by omega) z
    refine k_Tr_isFull_16 ok ?_
    exact k_Tr_isFull_17 ok E rfl ⟨by rw [if_neg h1], rfl⟩ (Nat.le_refl _) (Nat.le_refl _)
  · have h1 : N ≤ n := by
      rcases Nat.lt_or_ge n N with q | q
      · exact absurd (nI_lt q (by omega)) z
      · exact q
    refine k_Tr_isFull_12 ok ?_
    exact k_Tr_isFull_17 ok E rfl ⟨by rw [if_pos h1], rfl⟩ (Nat.le_refl _) (Nat.le_refl _)
theorem nI_s {n : Nat} (h : 0 < n) : nI n - 1 = nI (n - 1) := by
  obtain ⟨j, rfl⟩ : ∃ j, n = j + 1 := ⟨n - 1, by omega⟩
  exact nI_pred j
/-- behind a change of a Triples object: the rest of the world is as it was -/
def sTr (M M' : List mC) (t a b c : Nat) : Prop := M'.length = M.length ∧ ∀ j, j ≠ t → j ≠ a → j ≠ b → j ≠ c → M'[j]? = M[j]?
theorem m_Tr_put {l : Launch} {M : List mC} {t a b c N n : Nat} {f g h : Nat → Int64} (P : pTr M t a b c N n f g h) (s p o : Int64) (hlt : n < N) : mm_ l y_Tr_put w_Tr_put (rmh 2) [.ref t, .long s, .long p, .long o] M (fun r M' => r = none ∧ pTr M' t a b c N (n + 1) (vp_updL f n s) (vp_updL g n p) (vp_updL h n o) ∧ sTr M M' t a b c) := by
  obtain ⟨p0, pa, pb, pc, hn, hN, n1, n2, n3, n4, n5, n6⟩ := id P
  refine mm_intro (by decide) (Nat.le_of_ble_eq_true rfl) i_Tr_put (fun X ok E => ?_)
  refine k_Tr_put_0 ok p0 (m_Tr_isFull P) (gF_h E.nR (by decide) (by decide)) (fun r M' q => by rw [q.2]) ?_
  rintro r M' ⟨rfl, rfl⟩
  rw [if_neg (by omega)]
  refine k_Tr_put_4 ok (fun _ => ?_) (fun z => absurd rfl z)
  have hin : vp_in (nI n) N := vp_in_nI hlt (by omega)
  have hcl : (nI n).toNatClampNeg = n := nI_clamp (by omega)
  refine k_Tr_put_8 ok p0 rfl rfl pa hin rfl rfl pb (Ne.symm n1) hin rfl rfl pc (Ne.symm n2) n3 hin rfl (Nat.le_refl 4) rfl rfl E ⟨rfl, ?_, ?_⟩ (Nat.le_refl _) (Nat.le_refl _)
  · rw [hcl, nI_1]
    refine ⟨?_, ?_, ?_, ?_, by omega, hN, n1, n2, n3, n4, n5, n6⟩
    · exact gs_eq (by rw [gs_ne (Ne.symm n6), gs_ne (Ne.symm n5), gs_ne (Ne.symm n4)]; exact p0)
    · rw [gs_ne n4, gs_ne (Ne.symm n2), gs_ne (Ne.symm n1)]
      exact gs_eq pa
    · rw [gs_ne n5, gs_ne (Ne.symm n3)]
      exact gs_eq (by rw [gs_ne n1]; exact pb)
    · rw [gs_ne n6]
      exact gs_eq (by rw [gs_ne n3, gs_ne n2]; exact pc)
  · refine ⟨by simp only [List.length_set], fun j j1 j2 j3 j4 => ?_⟩
    rw [gs_ne (Ne.symm j1), gs_ne (Ne.symm j4), gs_ne (Ne.symm j3), gs_ne (Ne.symm j2)]
