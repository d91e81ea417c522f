/-! THE REFERENCE'S SOLVER: the steps, the rows -/
section RV12
variable {l : Launch} {c : CS} {m : MS} {o : Nat → Int64}
/-- what the tests and the store give the solver -/
def VI (m : MS) : Prop := SI m ∧ nzT m ∧ (∀ j, okv (m.sd j)) ∧ m.ne ≤ 14 ∧ ∀ t, t < m.ne → TT m t
theorem mo_work (h : VI m) (x a : Int32) (t : Nat) (hx : opR x a m.tp t) (h9 : m.tp ≤ 9) : mm_ l y_Mo_work w_Mo_work (rmh 4) [.ref 58, .int x, .int a] (W9 c m o) (qM c o (fun r m' => r = none ∧ m'.1 = m.1 ∧ m'.2.2 = m.2.2 ∧ SI m' ∧ m'.tp = t)) := by
  obtain ⟨hS, hT, hs, hne, hTT⟩ := h
  refine mm_intro (by decide) (Nat.le_of_ble_eq_true rfl) i_Mo_work (fun X ok E => ?_)
  have out : ∀ m1, m1.1 = m.1 → m1.2.2 = m.2.2 → SI m1 → m1.tp = t → gg X (W9 c m1 o) 0 0 174 [] [] := by
    intro m1 q1 q2 q3 q4
    refine k_Mo_work_174 ok E ⟨_, ⟨rfl, q1, q2, q3, q4⟩, rfl⟩ (Nat.le_refl _) (Nat.le_refl _)
  have pu : ∀ s, s ≤ 1 → t = m.tp + 1 → m.tp < 9 → gg X (W9 c m o) 0 0 29 [(0, .ref 58)] [.int (nI s), .int (nI m.tp), .ref 79] := by
    intro s hs1 e1 e2
    have c1 : (nI m.tp).toNatClampNeg = m.tp := nC rfl (by omega)
    refine k_Mo_work_29 ok rW_79 (vin rfl (by omega) (by decide)) sA_79 rW_58 rF_Mo_48 rF_Mo_50 rW_78 (by decide) (vin (nM (nL 150) rfl) (by omega) (by decide)) sA_78 (Nat.le_refl 59) (sF_Mo_50 (nA rfl (nL 1))) (sO_Mo_50 rfl) ?_
    rw [c1]
    exact out _ (by rfl) (by rfl) ⟨(SI_up (L := m.tp) (s := s) hS (by omega)).1, gz_clr (m := m.u_sz (upd m.sz m.tp (nI s))) hS.2 _⟩ (by exact e1.symm)
  rcases hx with ⟨hx, g1, g2⟩ | ⟨hx, g1, g2, g3, j, hj, ha⟩ | ⟨hx, g1, g2⟩ | ⟨hx, g1, g2⟩
  · have k11 : gg X (W9 c m o) 0 0 11 [(0, .ref 58), (1, .int x)] [] := by
      refine k_Mo_work_11 ok rW_58 rF_Mo_49 rF_Mo_50 (fun z => ?_) (fun z => ?_)
      · refine k_Mo_work_28 ok ?_
        exact pu 0 (by decide) g2 g1
      · refine k_Mo_work_24 ok ?_
        exact pu 1 (by decide) g2 g1
    refine k_Mo_work_0 ok (fun z => ?_) (fun z => ?_)
    · exact k11
    · rcases hx with hx | hx
      · exact absurd hx z
      refine k_Mo_work_5 ok (fun z => absurd hx z) (fun _ => k11)
  · subst hx
    subst ha
    refine k_Mo_work_0 ok (fun z => absurd z (by decide)) (fun _ => ?_)
    refine k_Mo_work_5 ok (fun _ => ?_) (fun z => absurd z (by decide))
    refine k_Mo_work_57 ok (fun z => absurd rfl z) (fun _ => ?_)
    refine k_Mo_work_62 ok rW_58 (mo_match hS hT hs (by omega) (3 * j) (by omega)) (gF_h E.nR (by decide) (by decide)) (fun _ _ q => qM_len q) ?_
    rintro r M' ⟨m2, ⟨rfl, q1, q2, q3, q4⟩, rfl⟩
    refine k_Mo_work_67 ok rW_58 (mo_combine q3 (by omega) (by omega) 0) (gF_h E.nR (by decide) (by decide)) (fun _ _ q => qM_len q) ?_
    rintro r M' ⟨m3, ⟨rfl, w1, w2, w3, w4⟩, rfl⟩
    refine k_Mo_work_72 ok ?_
    exact out m3 (w1.trans q1) (w2.trans q2) w3 (by omega)
  · subst hx
    refine k_Mo_work_0 ok (fun z => absurd z (by decide)) (fun _ => ?_)
    refine k_Mo_work_5 ok (fun _ => ?_) (fun z => absurd z (by decide))
    refine k_Mo_work_57 ok (fun _ => ?_) (fun z => absurd z (by decide))
    refine k_Mo_work_75 ok (fun z => absurd rfl z) (fun _ => ?_)
    refine k_Mo_work_80 ok rW_58 (mo_filter hS hs hne hTT g1 (by omega) a) (gF_h E.nR (by decide) (by decide)) (fun _ _ q => qM_len q) ?_
    rintro r M' ⟨m2, ⟨rfl, q1, q2, q3, q4⟩, rfl⟩
    refine k_Mo_work_85 ok ?_
    exact out m2 q1 q2 q3 (by omega)
  · have n1 : ¬ x = 1 := by rcases hx with rfl | rfl | rfl | rfl <;> decide
    have n6 : ¬ x = 6 := by rcases hx with rfl | rfl | rfl | rfl <;> decide
    have n2 : ¬ x = 2 := by rcases hx with rfl | rfl | rfl | rfl <;> decide
    have n3 : ¬ x = 3 := by rcases hx with rfl | rfl | rfl | rfl <;> decide
    refine k_Mo_work_0 ok (fun z => absurd z n1) (fun _ => ?_)
    refine k_Mo_work_5 ok (fun _ => ?_) (fun z => absurd z n6)
    refine k_Mo_work_57 ok (fun _ => ?_) (fun z => absurd z n2)
    refine k_Mo_work_75 ok (fun _ => ?_) (fun z => absurd z n3)
    refine k_Mo_work_88 ok (fun z => ?_) (fun z => ?_)
    · refine k_Mo_work_101 ok (fun z => ?_) (fun z => ?_)
      · refine k_Mo_work_114 ok (fun z => ?_) (fun z => ?_)
        · -- append
          refine k_Mo_work_128 ok E.nL rW_58 rF_Mo_50 (Nat.le_refl 59) (sF_Mo_50 (nS rfl (nL 1) (by omega))) (sO_Mo_50 rfl) ?_
          have e0 : (m.u_tp (m.tp - 1)).tp = m.tp - 1 := rfl
          obtain ⟨s, hs9, hsz⟩ := hS.1 (m.tp - 1) (by omega)
          have c1 : (nI (m.tp - 1)).toNatClampNeg = m.tp - 1 := nC rfl (by omega)
          have L1 : ∀ r i m1, i + r = s → Sm (m.tp - 2) (m.u_tp (m.tp - 1)) m1 → gg X (W9 c m1 o) 0 0 140 [(0, .ref 58), (3, .int (nI i))] [] := by
            intro r
            induction r with
            | zero =>
              intro i m1 hi q
              have e1 : m1.tp = m.tp - 1 := q.2.2.1
              have e2 : m1.sz (nI m1.tp).toNatClampNeg = nI s := by rw [e1, c1, q.2.2.2.2 _ (by omega)]; exact hsz
              refine k_Mo_work_140 ok rW_58 rF_Mo_49 rF_Mo_50 rW_79 (vin rfl (by omega) (by decide)) (fun z => ?_) (fun z => ?_)
              · exact out m1 (by exact q.1) (by exact q.2.1) q.2.2.2.1 (by omega)
              · rw [e2] at z
                exact absurd (nI_le (by omega) (by omega)) z
            | succ r ih =>
              intro i m1 hi q
              have e1 : m1.tp = m.tp - 1 := q.2.2.1
              have e2 : m1.sz (nI m1.tp).toNatClampNeg = nI s := by rw [e1, c1, q.2.2.2.2 _ (by omega)]; exact hsz
              have e3 : nI m1.tp - 1 = nI (m.tp - 2) := by rw [e1]; exact nS (a := m.tp - 1) rfl (nL 1) (by omega)
              refine k_Mo_work_140 ok rW_58 rF_Mo_49 rF_Mo_50 rW_79 (vin rfl (by omega) (by decide)) (fun z => ?_) (fun z => ?_)
              · rw [e2] at z
                exact absurd z (nI_ge (by omega) (by omega))
              · refine k_Mo_work_153 ok rW_58 rF_Mo_50 (by rw [e3]; exact mo_addTo q.2.2.2.1 (m.tp - 2) m1.tp i (by omega) (by omega) (by omega)) (gF_h E.nR (by decide) (by decide)) (fun _ _ q => qM_len q) ?_
                rintro r M' ⟨m2, ⟨rfl, q2, -⟩, rfl⟩
                refine k_Mo_work_168 ok E.nL ?_
                rw [nI_1]
                exact ih (i + 1) m2 (by omega) (q.trans q2)
          exact L1 s 0 _ (by omega) (Sm.refl (m := m.u_tp (m.tp - 1)) hS)
        · refine k_Mo_work_120 ok rW_58 (mo_combine hS (by omega) (by omega) 0) (gF_h E.nR (by decide) (by decide)) (fun _ _ q => qM_len q) ?_
          rintro r M' ⟨m3, ⟨rfl, w1, w2, w3, w4⟩, rfl⟩
          refine k_Mo_work_125 ok ?_
          exact out m3 w1 w2 w3 (by omega)
      · refine k_Mo_work_106 ok rW_58 (mo_combine hS (by omega) (by omega) 2) (gF_h E.nR (by decide) (by decide)) (fun _ _ q => qM_len q) ?_
        rintro r M' ⟨m3, ⟨rfl, w1, w2, w3, w4⟩, rfl⟩
        refine k_Mo_work_111 ok ?_
        exact out m3 w1 w2 w3 (by omega)
    · refine k_Mo_work_93 ok rW_58 (mo_combine hS (by omega) (by omega) 1) (gF_h E.nR (by decide) (by decide)) (fun _ _ q => qM_len q) ?_
      rintro r M' ⟨m3, ⟨rfl, w1, w2, w3, w4⟩, rfl⟩
      refine k_Mo_work_98 ok ?_
      exact out m3 w1 w2 w3 (by omega)
theorem mo_by (g : gz m) (v i k : Nat) (hv : v < 6) (hi : i < 1650) (hk : k < 1650) : mm_ l y_Mo_by w_Mo_by (rmh 2) [.ref 58, .int (nI v), .int (nI i), .int (nI k)] (W9 c m o) (qM c o (fun r m' => ∃ x, r = some (.int x) ∧ m' = m)) := by
  refine mm_intro (by decide) (Nat.le_of_ble_eq_true rfl) i_Mo_by (fun X ok E => ?_)
  have di : (nI i).toNatClampNeg = i := nC rfl (by omega)
  have dk : (nI k).toNatClampNeg = k := nC rfl (by omega)
  have r101 : ∀ x, gg X (W9 c m o) 0 0 101 [] [.int x] := by
    intro x
    refine k_Mo_by_101 ok E ⟨_, ⟨x, rfl, rfl⟩, rfl⟩ (Nat.le_refl _) (Nat.le_refl _)
  have k52 : ∀ a b, gg X (W9 c m o) 0 0 52 [(4, .int a), (5, .int b)] [] := by
    intro a b
    refine k_Mo_by_52 ok (fun z52 => ?_) (fun z52 => ?_)
    · refine k_Mo_by_61 ok ?_
      refine k_Mo_by_62 ok (fun z62 => ?_) (fun z62 => ?_)
      · refine k_Mo_by_71 ok ?_
        refine k_Mo_by_72 ok ?_
        exact r101 _
      · refine k_Mo_by_67 ok ?_
        refine k_Mo_by_72 ok ?_
        exact r101 _
    · refine k_Mo_by_57 ok ?_
      refine k_Mo_by_62 ok (fun z62 => ?_) (fun z62 => ?_)
      · refine k_Mo_by_71 ok ?_
        refine k_Mo_by_72 ok ?_
        exact r101 _
      · refine k_Mo_by_67 ok ?_
        refine k_Mo_by_72 ok ?_
        exact r101 _
  have k40 : ∀ a b : Bool, (a = true → bt (m.gv i) v = true) → (b = true → bt (m.gv k) v = true) → gg X (W9 c m o) 0 0 40 [(0, .ref 58), (1, .int (nI v)), (2, .int (nI i)), (3, .int (nI k)), (4, .int (bI a))] [.int (bI b)] := by
    intro a b ha hb
    refine k_Mo_by_40 ok E.nL (fun z => have z := bI_0 z; ?_) (fun z => have z := bI_1 z; ?_)
    · exact k52 _ _
    have z1 := ha z
    refine k_Mo_by_47 ok (fun z => have z := bI_1 z; ?_) (fun z => have z := bI_0 z; ?_)
    · have z2 := hb z
      have d1 : (6 * nI i + nI v).toNatClampNeg = 6 * i + v := nC (nA (nM (nL 6) rfl) rfl) (by omega)
      have d2 : (6 * nI k + nI v).toNatClampNeg = 6 * k + v := nC (nA (nM (nL 6) rfl) rfl) (by omega)
      refine k_Mo_by_76 ok rW_58 rF_Mo_47 rW_77 (vin (nA (nM (nL 6) rfl) rfl) (by omega) (by decide)) (vin (nA (nM (nL 6) rfl) rfl) (by omega) (by decide)) (by rw [d1, d2]; exact mo_compare _ _ (g i hi v hv z1) (g k hk v hv z2)) (gF_h E.nR (by decide) (by decide)) (fun _ _ q => qM_len q) ?_
      rintro r M' ⟨m, ⟨x, rfl, rfl⟩, rfl⟩
      exact r101 x
    · exact k52 _ _
  have k19 : ∀ a : Bool, (a = true → bt (m.gv i) v = true) → gg X (W9 c m o) 0 0 19 [(0, .ref 58), (1, .int (nI v)), (2, .int (nI i)), (3, .int (nI k))] [.int (bI a)] := by
    intro a ha
    refine k_Mo_by_19 ok E.nL rW_58 rF_Mo_48 rW_78 (vin rfl (by omega) (by decide)) (fun z => ?_) (fun z => ?_)
    · refine k_Mo_by_39 ok ?_
      exact k40 a false ha (fun z => nomatch z)
    · rw [dk] at z
      refine k_Mo_by_35 ok ?_
      exact k40 a true ha (fun _ => (bt_iff _ v hv).mp z)
  refine k_Mo_by_0 ok rW_58 rF_Mo_48 rW_78 (vin rfl (by omega) (by decide)) (fun z => ?_) (fun z => ?_)
  · refine k_Mo_by_18 ok ?_
    exact k19 false (fun z => nomatch z)
  · rw [di] at z
    refine k_Mo_by_14 ok ?_
    exact k19 true (fun _ => (bt_iff _ v hv).mp z)
def WI (m : MS) : Prop := gz m ∧ m.nw ≤ 6 ∧ (∀ j, j < m.nw → ∃ v, v < 6 ∧ m.wa j = nI v) ∧ okv m.ob
theorem mo_byTerms (h : WI m) (i k : Nat) (hi : i < 1650) (hk : k < 1650) : mm_ l y_Mo_byTerms w_Mo_byTerms (rmh 3) [.ref 58, .int (nI i), .int (nI k)] (W9 c m o) (qM c o (fun r m' => ∃ x, r = some (.int x) ∧ m' = m)) := by
  obtain ⟨g, hw, hwa, -⟩ := h
  refine mm_intro (by decide) (Nat.le_of_ble_eq_true rfl) i_Mo_byTerms (fun X ok E => ?_)
  refine k_Mo_byTerms_0 ok E.nL ?_
  have L1 : ∀ r j x, j + r = m.nw → gg X (W9 c m o) 0 0 5 [(0, .ref 58), (1, .int (nI i)), (2, .int (nI k)), (3, .int x), (4, .int (nI j))] [] := by
    intro r
    induction r with
    | zero =>
      intro j x hj
      refine k_Mo_byTerms_5 ok rW_58 rF_Mo_41 (fun z => have z := (nLe rfl rfl (by omega) (by omega) z); ?_) (fun z => have z := (nNle rfl rfl (by omega) (by omega) z); ?_)
      · refine k_Mo_byTerms_38 ok E ⟨_, ⟨x, rfl, rfl⟩, rfl⟩ (Nat.le_refl _) (Nat.le_refl _)
      · omega
    | succ r ih =>
      intro j x hj
      refine k_Mo_byTerms_5 ok rW_58 rF_Mo_41 (fun z => have z := (nLe rfl rfl (by omega) (by omega) z); ?_) (fun z => have z := (nNle rfl rfl (by omega) (by omega) z); ?_)
      · omega
      refine k_Mo_byTerms_14 ok (fun z => ?_) (fun z => ?_)
      · refine k_Mo_byTerms_38 ok E ⟨_, ⟨x, rfl, rfl⟩, rfl⟩ (Nat.le_refl _) (Nat.le_refl _)
      · obtain ⟨v, hv, ev⟩ := hwa j (by omega)
        have e1 : m.wa (nI j).toNatClampNeg = nI v := by rw [nC rfl (by omega)]; exact ev
        refine k_Mo_byTerms_18 ok rW_58 rF_Mo_40 rW_75 (vin rfl (by omega) (by decide)) (by rw [e1]; exact mo_by g v i k hv hi hk) (gF_h E.nR (by decide) (by decide)) (fun _ _ q => qM_len q) ?_
        rintro r M' ⟨m, ⟨y, rfl, rfl⟩, rfl⟩
        refine k_Mo_byTerms_31 ok E.nL ?_
        rw [nI_1]
        exact ih (j + 1) y (by omega)
  exact L1 m.nw 0 0 (by omega)
theorem mo_before (h : WI m) (i k : Nat) (hi : i < 1650) (hk : k < 1650) : mm_ l y_Mo_before w_Mo_before (rmh 4) [.ref 58, .int (nI i), .int (nI k)] (W9 c m o) (qM c o (fun r m' => ∃ b, r = some (.int (bI b)) ∧ m' = m)) := by
  refine mm_intro (by decide) (Nat.le_of_ble_eq_true rfl) i_Mo_before (fun X ok E => ?_)
  have k52 : ∀ b : Bool, gg X (W9 c m o) 0 0 52 [] [.int (bI b)] := by
    intro b
    refine k_Mo_before_52 ok E (bI_nar _) ⟨_, ⟨b, rfl, rfl⟩, rfl⟩ (Nat.le_refl _) (Nat.le_refl _)
  have k43 : ∀ x, gg X (W9 c m o) 0 0 43 [(3, .int x)] [] := by
    intro x
    refine k_Mo_before_43 ok (fun z => ?_) (fun z => ?_)
    · refine k_Mo_before_51 ok ?_
      exact k52 false
    · refine k_Mo_before_47 ok ?_
      exact k52 true
  have k32 : ∀ x, gg X (W9 c m o) 0 0 32 [(0, .ref 58), (1, .int (nI i)), (2, .int (nI k)), (3, .int x)] [] := by
    intro x
    refine k_Mo_before_32 ok (fun z => ?_) (fun z => ?_)
    · exact k43 x
    · refine k_Mo_before_36 ok rW_58 (mo_byTerms h i k hi hk) (gF_h E.nR (by decide) (by decide)) (fun _ _ q => qM_len q) ?_
      rintro r M' ⟨m, ⟨y, rfl, rfl⟩, rfl⟩
      refine k_Mo_before_42 ok E.nL ?_
      exact k43 y
  have k21 : ∀ x, gg X (W9 c m o) 0 0 21 [(0, .ref 58), (1, .int (nI i)), (2, .int (nI k))] [.int x] := by
    intro x
    refine k_Mo_before_21 ok E.nL rW_58 rF_Mo_45 (fun z => ?_) (fun z => ?_)
    · exact k32 x
    · refine k_Mo_before_29 ok E.nL ?_
      exact k32 _
  refine k_Mo_before_0 ok rW_58 rF_Mo_44 (fun z => ?_) (fun z => ?_)
  · obtain ⟨v, hv, ev⟩ := okv_ge h.2.2.2 z
    refine k_Mo_before_11 ok rW_58 rF_Mo_44 (by rw [ev]; exact mo_by h.1 v i k hv hi hk) (gF_h E.nR (by decide) (by decide)) (fun _ _ q => qM_len q) ?_
    rintro r M' ⟨m, ⟨y, rfl, rfl⟩, rfl⟩
    exact k21 y
  · refine k_Mo_before_7 ok ?_
    exact k21 0
def RA (m : MS) : Prop := ∀ j, ∃ q, q < 150 ∧ m.ra j = nI q
/-- behind makeRows -/
def Mr (m m' : MS) : Prop := m'.1 = m.1 ∧ m'.2.1 = m.2.1 ∧ m'.2.2.2 = m.2.2.2 ∧ m'.co = m.co ∧ m'.nl = m.nl ∧ RA m'
theorem RA_up (h : RA m) (i : Nat) (x : Int32) (hx : ∃ q, q < 150 ∧ x = nI q) : RA (m.u_ra (upd m.ra i x)) := by
  intro j
  show ∃ q, q < 150 ∧ upd m.ra i x j = nI q
  unfold upd
  split
  · exact hx
  · exact h j
theorem WI_Mr {m m' : MS} (h : WI m) (q : Mr m m') : WI m' := by
  obtain ⟨q1, q2, -⟩ := q
  have e1 : m'.gv = m.gv := congrArg (fun z => MS.gv (m.1, (z, m.2.2))) q2
  have e2 : m'.va = m.va := congrArg (fun z => MS.va (m.1, (z, m.2.2))) q2
  have e3 : m'.nw = m.nw := congrArg (fun z => MS.nw (z, m.2)) q1
  have e4 : m'.wa = m.wa := congrArg (fun z => MS.wa (z, m.2)) q1
  have e5 : m'.ob = m.ob := congrArg (fun z => MS.ob (z, m.2)) q1
  unfold WI gz
  rw [e1, e2, e3, e4, e5]
  exact h
theorem mo_makeRows (h : WI m) (hS : SI m) (hR : RA m) (h0 : m.nr = 0) : mm_ l y_Mo_makeRows w_Mo_makeRows (rmh 5) [.ref 58] (W9 c m o) (qM c o (fun r m' => r = none ∧ Mr m m' ∧ m'.nr ≤ 150)) := by
  obtain ⟨n, hn, hsz⟩ := hS.1 0 (by decide)
  refine mm_intro (by decide) (Nat.le_of_ble_eq_true rfl) i_Mo_makeRows (fun X ok E => ?_)
  have e0 : m.sz (0 : Int32).toNatClampNeg = nI n := hsz
  refine k_Mo_makeRows_0 ok E.nL rW_58 rF_Mo_49 rW_79 (vin (nL 0) (by omega) (by decide)) ?_
  rw [e0]
  have L3 : ∀ r i m1, i + r = n → Mr m m1 → m1.nr ≤ i → gg X (W9 c m1 o) 0 0 71 [(0, .ref 58), (1, .int (nI n)), (2, .int (nI i))] [] := by
    intro r
    induction r with
    | zero =>
      intro i m1 hi q1 q2
      refine k_Mo_makeRows_71 ok (fun z => have z := (nLe rfl rfl (by omega) (by omega) z); ?_) (fun z => have z := (nNle rfl rfl (by omega) (by omega) z); ?_)
      · refine k_Mo_makeRows_221 ok E ⟨_, ⟨rfl, q1, by omega⟩, rfl⟩ (Nat.le_refl _) (Nat.le_refl _)
      · omega
    | succ r ih =>
      intro i m1 hi q1 q2
      have hW := WI_Mr h q1
      have ci : (nI i).toNatClampNeg = i := nC rfl (by omega)
      obtain ⟨qi, hqi, eqi⟩ := q1.2.2.2.2.2 i
      have nx : ∀ m2, Mr m m2 → m2.nr ≤ i + 1 → gg X (W9 c m2 o) 0 0 215 [(0, .ref 58), (1, .int (nI n)), (2, .int (nI i))] [] := by
        intro m2 w1 w2
        refine k_Mo_makeRows_215 ok E.nL ?_
        rw [nI_1]
        exact ih (i + 1) m2 (by omega) w1 w2
      have put : gg X (W9 c m1 o) 0 0 137 [(0, .ref 58), (1, .int (nI n)), (2, .int (nI i))] [] := by
        refine k_Mo_makeRows_137 ok E.nL ?_
        have L4 : ∀ r v w, v + r = 6 → gg X (W9 c (m1.u_ro w) o) 0 0 140 [(0, .ref 58), (1, .int (nI n)), (2, .int (nI i)), (4, .int (nI v))] [] := by
          have er : ∀ w, (m1.u_ro w).ra (nI i).toNatClampNeg = nI qi := fun w => by rw [ci]; exact eqi
          have enr : ∀ w, (m1.u_ro w).nr = m1.nr := fun w => rfl
          intro r
          induction r with
          | zero =>
            intro v w hv
            have e3 := enr w
            refine k_Mo_makeRows_140 ok (fun z => have z := (nLe (nL 6) rfl (by omega) (by omega) z); ?_) (fun z => have z := (nNle (nL 6) rfl (by omega) (by omega) z); ?_)
            · refine k_Mo_makeRows_185 ok rW_58 rF_Mo_53 rF_Mo_55 rF_Mo_48 rF_Mo_54 rW_82 (vin rfl (by omega) (by decide)) rW_78 (vin (er w) (by omega) (by decide)) rW_81 (vin rfl (by omega) (by decide)) sA_81 (Nat.le_refl 59) (sF_Mo_55 (nA rfl (nL 1))) (sO_Mo_55 rfl) ?_
              exact nx _ (by exact q1) (by show m1.nr + 1 ≤ i + 1; omega)
            · omega
          | succ r ih4 =>
            intro v w hv
            have e3 := enr w
            refine k_Mo_makeRows_140 ok (fun z => have z := (nLe (nL 6) rfl (by omega) (by omega) z); ?_) (fun z => have z := (nNle (nL 6) rfl (by omega) (by omega) z); ?_)
            · omega
            refine k_Mo_makeRows_147 ok E.nL rW_58 rF_Mo_52 rF_Mo_55 rF_Mo_47 rF_Mo_54 rW_82 (vin rfl (by omega) (by decide)) rW_77 (vin (nA (nM (nL 6) (er w)) rfl) (by omega) (by decide)) rW_80 (vin (nA (nM (nL 6) rfl) rfl) (by omega) (by decide)) sA_80 ?_
            rw [nI_1]
            exact ih4 (v + 1) _ (by omega)
        exact L4 6 0 m1.ro rfl
      have L5 : ∀ r k y, k + r = i → gg X (W9 c m1 o) 0 0 92 [(0, .ref 58), (1, .int (nI n)), (2, .int (nI i)), (3, .int y), (4, .int (nI k))] [] := by
        intro r
        induction r with
        | zero =>
          intro k y hk
          refine k_Mo_makeRows_92 ok (fun z => have z := (nLe rfl rfl (by omega) (by omega) z); ?_) (fun z => have z := (nNle rfl rfl (by omega) (by omega) z); ?_)
          · refine k_Mo_makeRows_126 ok rW_58 rF_Mo_43 (fun z => ?_) (fun z => ?_)
            · exact put
            · refine k_Mo_makeRows_133 ok (fun z => ?_) (fun z => ?_)
              · exact nx m1 q1 (by omega)
              · exact put
          · omega
        | succ r ih5 =>
          intro k y hk
          have ck : (nI k).toNatClampNeg = k := nC rfl (by omega)
          obtain ⟨qk, hqk, eqk⟩ := q1.2.2.2.2.2 k
          have n5 : ∀ y, gg X (W9 c m1 o) 0 0 120 [(0, .ref 58), (1, .int (nI n)), (2, .int (nI i)), (3, .int y), (4, .int (nI k))] [] := by
            intro y
            refine k_Mo_makeRows_120 ok E.nL ?_
            rw [nI_1]
            exact ih5 (k + 1) y (by omega)
          refine k_Mo_makeRows_92 ok (fun z => have z := (nLe rfl rfl (by omega) (by omega) z); ?_) (fun z => have z := (nNle rfl rfl (by omega) (by omega) z); ?_)
          · omega
          refine k_Mo_makeRows_98 ok rW_58 rF_Mo_54 rW_82 (vin rfl (by omega) (by decide)) (vin rfl (by omega) (by decide)) (by rw [ci, ck, eqk, eqi]; exact mo_byTerms hW _ _ (by omega) (by omega)) (gF_h E.nR (by decide) (by decide)) (fun _ _ q => qM_len q) ?_
          rintro r M' ⟨m1, ⟨z9, rfl, rfl⟩, rfl⟩
          refine k_Mo_makeRows_115 ok (fun z => ?_) (fun z => ?_)
          · exact n5 y
          · refine k_Mo_makeRows_118 ok E.nL ?_
            exact n5 _
      refine k_Mo_makeRows_71 ok (fun z => have z := (nLe rfl rfl (by omega) (by omega) z); ?_) (fun z => have z := (nNle rfl rfl (by omega) (by omega) z); ?_)
      · omega
      refine k_Mo_makeRows_76 ok rW_58 rF_Mo_55 rF_Mo_46 (fun z => ?_) (fun z => ?_)
      · refine k_Mo_makeRows_221 ok E ⟨_, ⟨rfl, q1, by omega⟩, rfl⟩ (Nat.le_refl _) (Nat.le_refl _)
      · refine k_Mo_makeRows_87 ok E.nL ?_
        exact L5 i 0 _ (by omega)
  have L1 : ∀ r i m1, i + r = n → Mr m m1 → m1.nr = 0 → gg X (W9 c m1 o) 0 0 9 [(0, .ref 58), (1, .int (nI n)), (2, .int (nI i))] [] := by
    intro r
    induction r with
    | zero =>
      intro i m1 hi q1 q2
      refine k_Mo_makeRows_9 ok (fun z => have z := (nLe rfl rfl (by omega) (by omega) z); ?_) (fun z => have z := (nNle rfl rfl (by omega) (by omega) z); ?_)
      · refine k_Mo_makeRows_69 ok E.nL ?_
        exact L3 n 0 m1 (by omega) q1 (by omega)
      · omega
    | succ r ih =>
      intro i m1 hi q1 q2
      have L2 : ∀ k m2 x, x = nI k → k ≤ i → Mr m m2 → m2.nr = 0 → gg X (W9 c m2 o) 0 0 16 [(0, .ref 58), (1, .int (nI n)), (2, .int (nI i)), (3, .int x)] [] := by
        intro k
        induction k with
        | zero =>
          rintro m2 x rfl hk w1 w2
          refine k_Mo_makeRows_16 ok (fun _ => ?_) (fun z => absurd (by decide) z)
          refine k_Mo_makeRows_56 ok E.nL rW_58 rF_Mo_54 rW_82 (vin rfl (by omega) (by decide)) sA_82 ?_
          rw [nI_1]
          exact ih (i + 1) _ (by omega) ⟨w1.1, w1.2.1, w1.2.2.1, w1.2.2.2.1, w1.2.2.2.2.1, RA_up w1.2.2.2.2.2 _ _ ⟨i, by omega, rfl⟩⟩ (by exact w2)
        | succ k ihk =>
          rintro m2 x rfl hk w1 w2
          have hW := WI_Mr h w1
          have e1 : nI (k + 1) - 1 = nI k := nI_pred k
          have ck : (nI k).toNatClampNeg = k := nC rfl (by omega)
          obtain ⟨qk, hqk, eqk⟩ := w1.2.2.2.2.2 k
          have stop : gg X (W9 c m2 o) 0 0 56 [(0, .ref 58), (1, .int (nI n)), (2, .int (nI i)), (3, .int (nI (k + 1)))] [] := by
            refine k_Mo_makeRows_56 ok E.nL rW_58 rF_Mo_54 rW_82 (vin rfl (by omega) (by decide)) sA_82 ?_
            rw [nI_1]
            exact ih (i + 1) _ (by omega) ⟨w1.1, w1.2.1, w1.2.2.1, w1.2.2.2.1, w1.2.2.2.2.1, RA_up w1.2.2.2.2.2 _ _ ⟨i, by omega, rfl⟩⟩ (by exact w2)
          refine k_Mo_makeRows_16 ok (fun z => absurd z (nI_nle (by omega) (by omega))) (fun _ => ?_)
          refine k_Mo_makeRows_20 ok rW_58 rF_Mo_54 rW_82 (vin e1 (by omega) (by decide)) (by rw [e1, ck, eqk]; exact mo_before hW _ _ (by omega) (by omega)) (gF_h E.nR (by decide) (by decide)) (fun _ _ q => qM_len q) ?_
          rintro r M' ⟨m2, ⟨b, rfl, rfl⟩, rfl⟩
          refine k_Mo_makeRows_33 ok (fun z => ?_) (fun z => ?_)
          · exact stop
          · refine k_Mo_makeRows_36 ok E.nL rW_58 rF_Mo_54 rW_82 (vin e1 (by omega) (by decide)) (vin rfl (by omega) (by decide)) sA_82 ?_
            refine ihk _ _ ((nI_m1 _).trans e1) (by omega) ⟨w1.1, w1.2.1, w1.2.2.1, w1.2.2.2.1, w1.2.2.2.2.1, RA_up w1.2.2.2.2.2 _ _ ?_⟩ (by exact w2)
            rw [e1, ck]
            exact ⟨qk, hqk, eqk⟩
      refine k_Mo_makeRows_9 ok (fun z => have z := (nLe rfl rfl (by omega) (by omega) z); ?_) (fun z => have z := (nNle rfl rfl (by omega) (by omega) z); ?_)
      · omega
      refine k_Mo_makeRows_14 ok E.nL ?_
      exact L2 i m1 _ rfl (Nat.le_refl _) q1 q2
  exact L1 n 0 m (by omega) ⟨rfl, rfl, rfl, rfl, rfl, hR⟩ h0
end RV12
