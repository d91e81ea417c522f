/-! THE CLASS: its rows, on every query -/
section CRo
variable {l : Launch} {c : CS} {m : MS} {o : Nat → Int64}
/-- the rows' terms and order alone have changed -/
def Rw (c c' : CS) : Prop := c'.1 = c.1 ∧ c'.2.1 = c.2.1 ∧ c'.2.2.1 = c.2.2.1 ∧ c'.rc = c.rc
/-- .. and not their number -/
def Rn (c c' : CS) : Prop := Rw c c' ∧ c'.rn = c.rn
theorem Rw.refl : Rw c c := ⟨rfl, rfl, rfl, rfl⟩
theorem Rn.refl : Rn c c := ⟨Rw.refl, rfl⟩
theorem Rw.trans {c1 c2 c3 : CS} (h1 : Rw c1 c2) (h2 : Rw c2 c3) : Rw c1 c3 := ⟨h2.1.trans h1.1, h2.2.1.trans h1.2.1, h2.2.2.1.trans h1.2.2.1, h2.2.2.2.trans h1.2.2.2⟩
theorem Rn.trans {c1 c2 c3 : CS} (h1 : Rn c1 c2) (h2 : Rn c2 c3) : Rn c1 c3 := ⟨h1.1.trans h2.1, h2.2.trans h1.2⟩
theorem Rw.zn {c1 c2 : CS} (h : Rw c1 c2) : c2.zn = c1.zn := congrArg (fun g : CS4 => CS.zn (c1.1, (c1.2.1, (g, c1.2.2.2)))) h.2.2.1
theorem Rw.zB {c1 c2 : CS} (h : Rw c1 c2) (hz : zB c1) : zB c2 := fun j hj => by
  rw [h.zn]
  exact hz j hj
theorem ro_clear (n : Nat) (hn : n ≤ 6) : mm_ l y_Ro_clear w_Ro_clear (rmh 2) [.ref 55, .int (nI n)] (W9 c m o) (qC m o (fun r c' => r = none ∧ c' = (c.u_rc n).u_rn 0)) := by
  refine mm_intro (by decide) (Nat.le_of_ble_eq_true rfl) i_Ro_clear (fun X ok E => ?_)
  refine k_Ro_clear_0 ok (by rw [E.nR]; exact Nat.le_of_ble_eq_true rfl) (by rw [E.nR]; exact Nat.le_of_ble_eq_true rfl) (by rw [E.nR]; exact Nat.le_of_ble_eq_true rfl) (by rw [E.nR]; exact Nat.le_of_ble_eq_true rfl) ?_
  rw [if_neg (fun z => absurd (nLt (nL 6) rfl (by omega) (by omega) z) (by omega))]
  refine k_Ro_clear_7 ok rW_55 (Nat.le_refl 4) (sF_Ro_2 rfl) (sO_Ro_2 rfl) (sF_Ro_3 (v := 0) (by decide)) (sO_Ro_3 rfl) E ⟨_, ⟨rfl, rfl⟩, rfl⟩ (Nat.le_refl _) (Nat.le_refl _)
theorem ro_standsBefore {a : Nat} (ha : a < 8) (hz : zB c) (h6 : c.rc ≤ 6) (x y : Int32) : mm_ l y_Ro_standsBefore w_Ro_standsBefore (rmh 2) [.ref 55, .ref 17, .ref (39 + 2 * a), .int x, .int y] (W9 c m o) (qC m o (fun r c' => ∃ b, r = some (.int (bI b)) ∧ c' = c)) := by
  refine mm_intro (by decide) (Nat.le_of_ble_eq_true rfl) i_Ro_standsBefore (fun X ok E => ?_)
  refine k_Ro_standsBefore_0 ok rW_17 rF_Qu_5 (rZ ha) (so_term ha hz _ _) (gF_h E.nR (by decide) (by decide)) (fun _ _ q => qC_len q) ?_
  rintro r M' ⟨c, ⟨v, rfl, rfl⟩, rfl⟩
  refine k_Ro_standsBefore_9 ok E.nL rW_17 rF_Qu_5 (rZ ha) (so_term ha hz _ _) (gF_h E.nR (by decide) (by decide)) (fun _ _ q => qC_len q) ?_
  rintro r M' ⟨c, ⟨v2, rfl, rfl⟩, rfl⟩
  have f67 : ∀ b : Bool, gg X (W9 c m o) 0 0 67 [] [.int (bI b)] := by
    intro b
    refine k_Ro_standsBefore_67 ok E (bI_nar _) ⟨_, ⟨b, rfl, rfl⟩, rfl⟩ (Nat.le_refl _) (Nat.le_refl _)
  have f130 : ∀ b : Bool, gg X (W9 c m o) 0 0 130 [] [.int (bI b)] := by
    intro b
    refine k_Ro_standsBefore_130 ok E (bI_nar _) ⟨_, ⟨b, rfl, rfl⟩, rfl⟩ (Nat.le_refl _) (Nat.le_refl _)
  have L1 : ∀ r k, k + r = c.rc → gg X (W9 c m o) 0 0 71 [(0, .ref 55), (1, .ref 17), (2, .ref (39 + 2 * a)), (3, .int x), (4, .int y), (9, .int (nI k))] [] := by
    intro r
    induction r with
    | zero =>
      intro k hk
      refine k_Ro_standsBefore_71 ok rW_55 rF_Ro_2 (fun z => have z := (nLe rfl rfl (by omega) (by omega) z); ?_) (fun z => have z := (nNle rfl rfl (by omega) (by omega) z); ?_)
      · refine k_Ro_standsBefore_137 ok E ⟨_, ⟨false, rfl, rfl⟩, rfl⟩ (Nat.le_refl _) (Nat.le_refl _)
      · omega
    | succ r ih =>
      intro k hk
      refine k_Ro_standsBefore_71 ok rW_55 rF_Ro_2 (fun z => have z := (nLe rfl rfl (by omega) (by omega) z); ?_) (fun z => have z := (nNle rfl rfl (by omega) (by omega) z); ?_)
      · omega
      refine k_Ro_standsBefore_80 ok rW_17 rF_Qu_2 rW_19 (vin rfl (by omega) (by decide)) (rZ ha) (so_term ha hz _ _) (gF_h E.nR (by decide) (by decide)) (fun _ _ q => qC_len q) ?_
      rintro r M' ⟨c, ⟨v3, rfl, rfl⟩, rfl⟩
      refine k_Ro_standsBefore_92 ok E.nL rW_17 rF_Qu_2 rW_19 (vin rfl (by omega) (by decide)) (rZ ha) (so_term ha hz _ _) (gF_h E.nR (by decide) (by decide)) (fun _ _ q => qC_len q) ?_
      rintro r M' ⟨c, ⟨v4, rfl, rfl⟩, rfl⟩
      refine k_Ro_standsBefore_107 ok E.nL (fun z => ?_) (fun z => ?_)
      · refine k_Ro_standsBefore_131 ok E.nL ?_
        rw [nI_1]
        exact ih (k + 1) (by omega)
      · refine k_Ro_standsBefore_117 ok (fun z => ?_) (fun z => ?_)
        · refine k_Ro_standsBefore_129 ok ?_
          exact f130 false
        · refine k_Ro_standsBefore_125 ok ?_
          exact f130 true
  refine k_Ro_standsBefore_21 ok E.nL (fun z => ?_) (fun z => ?_)
  · refine k_Ro_standsBefore_68 ok E.nL ?_
    exact L1 c.rc 0 (by omega)
  · refine k_Ro_standsBefore_31 ok rW_17 rF_Qu_6 (fun z => ?_) (fun z => ?_)
    · refine k_Ro_standsBefore_54 ok (fun z => ?_) (fun z => ?_)
      · refine k_Ro_standsBefore_66 ok ?_
        exact f67 false
      · refine k_Ro_standsBefore_62 ok ?_
        exact f67 true
    · refine k_Ro_standsBefore_38 ok (fun z => ?_) (fun z => ?_)
      · refine k_Ro_standsBefore_50 ok ?_
        exact f67 false
      · refine k_Ro_standsBefore_46 ok ?_
        exact f67 true
theorem ro_sort {a : Nat} (ha : a < 8) (hz : zB c) (h6 : c.rc ≤ 6) : mm_ l y_Ro_sort w_Ro_sort (rmh 3) [.ref 55, .ref 17, .ref (39 + 2 * a)] (W9 c m o) (qC m o (fun r c' => r = none ∧ Rn c c')) := by
  have hza := hz a ha
  refine mm_intro (by decide) (Nat.le_of_ble_eq_true rfl) i_Ro_sort (fun X ok E => ?_)
  refine k_Ro_sort_0 ok E.nL ?_
  have L1 : ∀ r k c1, k + r = c.zn a → Rn c c1 → gg X (W9 c1 m o) 0 0 2 [(0, .ref 55), (1, .ref 17), (2, .ref (39 + 2 * a)), (3, .int (nI k))] [] := by
    intro r
    induction r with
    | zero =>
      intro k c1 hk q
      have e1 : c1.zn a = c.zn a := congrFun q.1.zn a
      refine k_Ro_sort_2 ok (rZ ha) (so_size ha) (gF_h E.nR (by decide) (by decide)) (fun _ _ q => qC_len q) ?_
      rintro r M' ⟨c1, ⟨rfl, rfl⟩, rfl⟩
      refine k_Ro_sort_7 ok (fun z => have z := (nLe rfl rfl (by omega) (by omega) z); ?_) (fun z => have z := (nNle rfl rfl (by omega) (by omega) z); ?_)
      · refine k_Ro_sort_73 ok E ⟨_, ⟨rfl, q⟩, rfl⟩ (Nat.le_refl _) (Nat.le_refl _)
      · omega
    | succ r ih =>
      intro k c1 hk q
      have e1 : c1.zn a = c.zn a := congrFun q.1.zn a
      refine k_Ro_sort_2 ok (rZ ha) (so_size ha) (gF_h E.nR (by decide) (by decide)) (fun _ _ q => qC_len q) ?_
      rintro r M' ⟨c1, ⟨rfl, rfl⟩, rfl⟩
      refine k_Ro_sort_7 ok (fun z => have z := (nLe rfl rfl (by omega) (by omega) z); ?_) (fun z => have z := (nNle rfl rfl (by omega) (by omega) z); ?_)
      · omega
      refine k_Ro_sort_10 ok E.nL ?_
      have k59 : ∀ p c2, p ≤ k → Rn c c2 → gg X (W9 c2 m o) 0 0 59 [(0, .ref 55), (1, .ref 17), (2, .ref (39 + 2 * a)), (3, .int (nI k)), (4, .int (nI p))] [] := by
        intro p c2 hp q2
        refine k_Ro_sort_59 ok E.nL rW_55 rF_Ro_1 rW_57 (vin rfl (by omega) (by decide)) sA_57 ?_
        rw [nI_1]
        exact ih (k + 1) _ (by omega) (q2.trans ⟨⟨rfl, rfl, rfl, rfl⟩, rfl⟩)
      have L2 : ∀ p c2, p ≤ k → Rn c c2 → gg X (W9 c2 m o) 0 0 13 [(0, .ref 55), (1, .ref 17), (2, .ref (39 + 2 * a)), (3, .int (nI k)), (4, .int (nI p))] [] := by
        intro p
        induction p with
        | zero =>
          intro c2 hp q2
          refine k_Ro_sort_13 ok (fun z => have z := (nLe rfl (nL 0) (by omega) (by omega) z); ?_) (fun z => have z := (nNle rfl (nL 0) (by omega) (by omega) z); ?_)
          · exact k59 0 c2 hp q2
          · omega
        | succ p ih2 =>
          intro c2 hp q2
          have e9 : nI (p + 1) + (-1) = nI p := by
            rw [nI_m1]
            exact nI_pred p
          have e2 := q2.1.2.2.2
          refine k_Ro_sort_13 ok (fun z => have z := (nLe rfl (nL 0) (by omega) (by omega) z); ?_) (fun z => have z := (nNle rfl (nL 0) (by omega) (by omega) z); ?_)
          · omega
          refine k_Ro_sort_18 ok rW_55 rF_Ro_1 rW_57 (vin (nS rfl (nL 1) (by omega)) (by omega) (by decide)) (ro_standsBefore ha (q2.1.zB hz) (by omega) _ _) (gF_h E.nR (by decide) (by decide)) (fun _ _ q => qC_len q) ?_
          rintro r M' ⟨c2, ⟨b, rfl, rfl⟩, rfl⟩
          refine k_Ro_sort_34 ok (fun z => ?_) (fun z => ?_)
          · exact k59 (p + 1) c2 hp q2
          refine k_Ro_sort_37 ok E.nL rW_55 rF_Ro_1 rW_57 (vin (nS rfl (nL 1) (by omega)) (by omega) (by decide)) (vin rfl (by omega) (by decide)) sA_57 ?_
          rw [e9]
          exact ih2 _ (by omega) (q2.trans ⟨⟨rfl, rfl, rfl, rfl⟩, rfl⟩)
      exact L2 k c1 (Nat.le_refl _) q
  exact L1 (c.zn a) 0 c (by omega) Rn.refl
theorem ro_takeRow {a : Nat} (ha : a < 8) (hz : zB c) (h6 : c.rc ≤ 6) (hn : c.rn ≤ 150) (x : Int32) : mm_ l y_Ro_takeRow w_Ro_takeRow (rmh 2) [.ref 55, .ref 17, .ref (39 + 2 * a), .int x] (W9 c m o) (qC m o (fun r c' => r = none ∧ Rn c c')) := by
  refine mm_intro (by decide) (Nat.le_of_ble_eq_true rfl) i_Ro_takeRow (fun X ok E => ?_)
  refine k_Ro_takeRow_0 ok rW_55 rF_Ro_3 (fun z => have z := (nLt rfl (nL 150) (by omega) (by omega) z); ?_) (fun z => have z := (nNlt rfl (nL 150) (by omega) (by omega) z); ?_)
  · refine k_Ro_takeRow_11 ok E.nL ?_
    have L1 : ∀ r k c1, k + r = c.rc → Rn c c1 → gg X (W9 c1 m o) 0 0 14 [(0, .ref 55), (1, .ref 17), (2, .ref (39 + 2 * a)), (3, .int x), (4, .int (nI k))] [] := by
      intro r
      induction r with
      | zero =>
        intro k c1 hk q
        have e2 := q.1.2.2.2
        refine k_Ro_takeRow_14 ok rW_55 rF_Ro_2 (fun z => have z := (nLe rfl rfl (by omega) (by omega) z); ?_) (fun z => have z := (nNle rfl rfl (by omega) (by omega) z); ?_)
        · refine k_Ro_takeRow_56 ok E ⟨_, ⟨rfl, q⟩, rfl⟩ (Nat.le_refl _) (Nat.le_refl _)
        · omega
      | succ r ih =>
        intro k c1 hk q
        have e2 := q.1.2.2.2
        have e3 := q.2
        refine k_Ro_takeRow_14 ok rW_55 rF_Ro_2 (fun z => have z := (nLe rfl rfl (by omega) (by omega) z); ?_) (fun z => have z := (nNle rfl rfl (by omega) (by omega) z); ?_)
        · omega
        refine k_Ro_takeRow_23 ok rW_55 rF_Ro_0 rF_Ro_3 rW_17 rF_Qu_2 rW_19 (vin rfl (by omega) (by decide)) (rZ ha) (so_term ha (q.1.zB hz) _ _) (gF_h E.nR (by decide) (by decide)) (fun _ _ q => qC_len q) ?_
        rintro r M' ⟨c1, ⟨v, rfl, rfl⟩, rfl⟩
        refine k_Ro_takeRow_49 ok E.nL rW_56 (vin (nA (nM rfl (nL 6)) rfl) (by omega) (by decide)) sA_56 ?_
        rw [nI_1]
        exact ih (k + 1) _ (by omega) (q.trans ⟨⟨rfl, rfl, rfl, rfl⟩, rfl⟩)
    exact L1 c.rc 0 c (by omega) Rn.refl
  · refine k_Ro_takeRow_10 ok E ⟨_, ⟨rfl, Rn.refl⟩, rfl⟩ (Nat.le_refl _) (Nat.le_refl _)
theorem ro_isSameRow (i j : Nat) (hi : i < 2 ^ 31) (hj : j < 2 ^ 31) (h6 : c.rc ≤ 6) : mm_ l y_Ro_isSameRow w_Ro_isSameRow (rmh 1) [.ref 55, .int (nI i), .int (nI j)] (W9 c m o) (qC m o (fun r c' => ∃ b, r = some (.int (bI b)) ∧ c' = c)) := by
  refine mm_intro (by decide) (Nat.le_of_ble_eq_true rfl) i_Ro_isSameRow (fun X ok E => ?_)
  refine k_Ro_isSameRow_0 ok (fun z => have z := (nLe (nL 150) rfl (by omega) (by omega) z); ?_) (fun z => have z := (nNle (nL 150) rfl (by omega) (by omega) z); ?_)
  · refine k_Ro_isSameRow_14 ok E ⟨_, ⟨false, rfl, rfl⟩, rfl⟩ (Nat.le_refl _) (Nat.le_refl _)
  refine k_Ro_isSameRow_7 ok (fun z => have z := (nLt rfl (nL 150) (by omega) (by omega) z); ?_) (fun z => have z := (nNlt rfl (nL 150) (by omega) (by omega) z); ?_)
  · refine k_Ro_isSameRow_16 ok E.nL ?_
    have L1 : ∀ r k, k + r = c.rc → gg X (W9 c m o) 0 0 18 [(0, .ref 55), (1, .int (nI i)), (2, .int (nI j)), (3, .int (nI k))] [] := by
      intro r
      induction r with
      | zero =>
        intro k hk
        refine k_Ro_isSameRow_18 ok rW_55 rF_Ro_2 (fun z => have z := (nLe rfl rfl (by omega) (by omega) z); ?_) (fun z => have z := (nNle rfl rfl (by omega) (by omega) z); ?_)
        · refine k_Ro_isSameRow_60 ok E ⟨_, ⟨true, rfl, rfl⟩, rfl⟩ (Nat.le_refl _) (Nat.le_refl _)
        · omega
      | succ r ih =>
        intro k hk
        refine k_Ro_isSameRow_18 ok rW_55 rF_Ro_2 (fun z => have z := (nLe rfl rfl (by omega) (by omega) z); ?_) (fun z => have z := (nNle rfl rfl (by omega) (by omega) z); ?_)
        · omega
        refine k_Ro_isSameRow_26 ok rW_55 rF_Ro_0 rW_56 (vin (nA (nM rfl (nL 6)) rfl) (by omega) (by decide)) (vin (nA (nM rfl (nL 6)) rfl) (by omega) (by decide)) (fun z => ?_) (fun z => ?_)
        · refine k_Ro_isSameRow_54 ok E.nL ?_
          rw [nI_1]
          exact ih (k + 1) (by omega)
        · refine k_Ro_isSameRow_52 ok E ⟨_, ⟨false, rfl, rfl⟩, rfl⟩ (Nat.le_refl _) (Nat.le_refl _)
    exact L1 c.rc 0 (by omega)
  · refine k_Ro_isSameRow_14 ok E ⟨_, ⟨false, rfl, rfl⟩, rfl⟩ (Nat.le_refl _) (Nat.le_refl _)
theorem ro_isLastKnown (h6 : c.rc ≤ 6) (hn : c.rn ≤ 150) : mm_ l y_Ro_isLastKnown w_Ro_isLastKnown (rmh 2) [.ref 55] (W9 c m o) (qC m o (fun r c' => ∃ b, r = some (.int (bI b)) ∧ c' = c)) := by
  refine mm_intro (by decide) (Nat.le_of_ble_eq_true rfl) i_Ro_isLastKnown (fun X ok E => ?_)
  refine k_Ro_isLastKnown_0 ok E.nL ?_
  have L1 : ∀ r k, k + r = c.rn → gg X (W9 c m o) 0 0 2 [(0, .ref 55), (1, .int (nI k))] [] := by
    intro r
    induction r with
    | zero =>
      intro k hk
      refine k_Ro_isLastKnown_2 ok rW_55 rF_Ro_3 (fun z => have z := (nLe rfl rfl (by omega) (by omega) z); ?_) (fun z => have z := (nNle rfl rfl (by omega) (by omega) z); ?_)
      · refine k_Ro_isLastKnown_30 ok E ⟨_, ⟨false, rfl, rfl⟩, rfl⟩ (Nat.le_refl _) (Nat.le_refl _)
      · omega
    | succ r ih =>
      intro k hk
      refine k_Ro_isLastKnown_2 ok rW_55 rF_Ro_3 (fun z => have z := (nLe rfl rfl (by omega) (by omega) z); ?_) (fun z => have z := (nNle rfl rfl (by omega) (by omega) z); ?_)
      · omega
      refine k_Ro_isLastKnown_10 ok rW_55 rF_Ro_3 (ro_isSameRow k c.rn (by omega) (by omega) h6) (gF_h E.nR (by decide) (by decide)) (fun _ _ q => qC_len q) ?_
      rintro r M' ⟨c, ⟨b, rfl, rfl⟩, rfl⟩
      refine k_Ro_isLastKnown_19 ok (fun z => ?_) (fun z => ?_)
      · refine k_Ro_isLastKnown_24 ok E.nL ?_
        rw [nI_1]
        exact ih (k + 1) (by omega)
      · refine k_Ro_isLastKnown_22 ok E ⟨_, ⟨true, rfl, rfl⟩, rfl⟩ (Nat.le_refl _) (Nat.le_refl _)
  exact L1 c.rn 0 (by omega)
theorem ro_fill {a : Nat} (ha : a < 8) (hz : zB c) (h6 : c.rc ≤ 6) (h0 : c.rn = 0) : mm_ l y_Ro_fill w_Ro_fill (rmh 4) [.ref 55, .ref 17, .ref (39 + 2 * a)] (W9 c m o) (qC m o (fun r c' => r = none ∧ Rw c c' ∧ c'.rn ≤ 150)) := by
  have hza := hz a ha
  refine mm_intro (by decide) (Nat.le_of_ble_eq_true rfl) i_Ro_fill (fun X ok E => ?_)
  have L1 : ∀ r k c1, k + r = c.zn a → Rw c c1 → c1.rn ≤ k → gg X (W9 c1 m o) 0 0 8 [(0, .ref 55), (1, .ref 17), (2, .ref (39 + 2 * a)), (3, .int (nI k))] [] := by
    intro r
    induction r with
    | zero =>
      intro k c1 hk q hr
      have e1 : c1.zn a = c.zn a := congrFun q.zn a
      refine k_Ro_fill_8 ok (rZ ha) (so_size ha) (gF_h E.nR (by decide) (by decide)) (fun _ _ q => qC_len q) ?_
      rintro r M' ⟨c1, ⟨rfl, rfl⟩, rfl⟩
      refine k_Ro_fill_13 ok (fun z => have z := (nLe rfl rfl (by omega) (by omega) z); ?_) (fun z => have z := (nNle rfl rfl (by omega) (by omega) z); ?_)
      · refine k_Ro_fill_69 ok E ⟨_, ⟨rfl, q, by omega⟩, rfl⟩ (Nat.le_refl _) (Nat.le_refl _)
      · omega
    | succ r ih =>
      intro k c1 hk q hr
      have e1 : c1.zn a = c.zn a := congrFun q.zn a
      have e2 := q.2.2.2
      refine k_Ro_fill_8 ok (rZ ha) (so_size ha) (gF_h E.nR (by decide) (by decide)) (fun _ _ q => qC_len q) ?_
      rintro r M' ⟨c1, ⟨rfl, rfl⟩, rfl⟩
      refine k_Ro_fill_13 ok (fun z => have z := (nLe rfl rfl (by omega) (by omega) z); ?_) (fun z => have z := (nNle rfl rfl (by omega) (by omega) z); ?_)
      · omega
      refine k_Ro_fill_16 ok rW_55 rF_Ro_3 rW_17 rF_Qu_7 (fun z => ?_) (fun z => ?_)
      · refine k_Ro_fill_69 ok E ⟨_, ⟨rfl, q, by omega⟩, rfl⟩ (Nat.le_refl _) (Nat.le_refl _)
      refine k_Ro_fill_27 ok rW_55 rF_Ro_1 rW_57 (vin rfl (by omega) (by decide)) (ro_takeRow ha (q.zB hz) (by omega) (by omega) _) (gF_h E.nR (by decide) (by decide)) (fun _ _ q => qC_len q) ?_
      rintro r M' ⟨c2, ⟨rfl, q2⟩, rfl⟩
      have t2 : Rw c c2 := q.trans q2.1
      have e3 := q2.2
      have e4 := t2.2.2.2
      have nx : ∀ c3, Rw c c3 → c3.rn ≤ k + 1 → gg X (W9 c3 m o) 0 0 63 [(0, .ref 55), (1, .ref 17), (2, .ref (39 + 2 * a)), (3, .int (nI k))] [] := by
        intro c3 q3 h3
        refine k_Ro_fill_63 ok E.nL ?_
        rw [nI_1]
        exact ih (k + 1) c3 (by omega) q3 h3
      have k53 : gg X (W9 c2 m o) 0 0 53 [(0, .ref 55), (1, .ref 17), (2, .ref (39 + 2 * a)), (3, .int (nI k))] [] := by
        refine k_Ro_fill_53 ok rW_55 rF_Ro_3 (Nat.le_refl 4) (sF_Ro_3 (nA rfl (nL 1))) (sO_Ro_3 rfl) ?_
        exact nx _ (t2.trans ⟨rfl, rfl, rfl, rfl⟩) (by show c2.rn + 1 ≤ k + 1; omega)
      refine k_Ro_fill_39 ok rW_17 rF_Qu_4 (fun z => ?_) (fun z => ?_)
      · exact k53
      refine k_Ro_fill_46 ok rW_55 (ro_isLastKnown (by omega) (by omega)) (gF_h E.nR (by decide) (by decide)) (fun _ _ q => qC_len q) ?_
      rintro r M' ⟨c2, ⟨b, rfl, rfl⟩, rfl⟩
      refine k_Ro_fill_50 ok (fun z => ?_) (fun z => ?_)
      · exact nx c2 t2 (by omega)
      · exact k53
  refine k_Ro_fill_0 ok rW_55 (ro_sort ha hz h6) (gF_h E.nR (by decide) (by decide)) (fun _ _ q => qC_len q) ?_
  rintro r M' ⟨c2, ⟨rfl, q2⟩, rfl⟩
  have e3 := q2.2
  refine k_Ro_fill_6 ok E.nL ?_
  exact L1 (c.zn a) 0 c2 (by omega) q2.1 (by omega)
end CRo
