/-! THE CLASS: its solutions and its solver, on every query -/
section CSv
variable {l : Launch} {c : CS} {m : MS} {o : Nat → Int64}
theorem rZ {j : Nat} (h : j < 8) : (W9 c m o)[39 + 2 * j]? = some (.inr (4, [.ref (40 + 2 * j), .int (nI (c.zn j))])) := by
  have w9 : j = 0 ∨ j = 1 ∨ j = 2 ∨ j = 3 ∨ j = 4 ∨ j = 5 ∨ j = 6 ∨ j = 7 := by omega
  rcases w9 with rfl | rfl | rfl | rfl | rfl | rfl | rfl | rfl
  all_goals rfl
theorem rZt {j : Nat} (h : j < 8) : (W9 c m o)[40 + 2 * j]? = some (.inl (1, 900, .inr (.inl (c.zt j)))) := by
  have w9 : j = 0 ∨ j = 1 ∨ j = 2 ∨ j = 3 ∨ j = 4 ∨ j = 5 ∨ j = 6 ∨ j = 7 := by omega
  rcases w9 with rfl | rfl | rfl | rfl | rfl | rfl | rfl | rfl
  all_goals rfl
theorem sZ {j : Nat} (h : j < 8) {v : Nat} : (W9 c m o).set (39 + 2 * j) (.inr (4, [.ref (40 + 2 * j), .int (nI v)])) = W9 (c.u_zn (eU c.zn j v)) m o := by
  have w9 : j = 0 ∨ j = 1 ∨ j = 2 ∨ j = 3 ∨ j = 4 ∨ j = 5 ∨ j = 6 ∨ j = 7 := by omega
  rcases w9 with rfl | rfl | rfl | rfl | rfl | rfl | rfl | rfl
  all_goals rfl
theorem sZt {j : Nat} (h : j < 8) {g : Nat → Int64} : (W9 c m o).set (40 + 2 * j) (.inl (1, 900, .inr (.inl g))) = W9 (c.u_zt (eU c.zt j g)) m o := by
  have w9 : j = 0 ∨ j = 1 ∨ j = 2 ∨ j = 3 ∨ j = 4 ∨ j = 5 ∨ j = 6 ∨ j = 7 := by omega
  rcases w9 with rfl | rfl | rfl | rfl | rfl | rfl | rfl | rfl
  all_goals rfl
theorem zF0 {p : Nat} {x : Value} : ([.ref p, x] : List Value).set 1 (.int 0) = [.ref p, .int (nI 0)] := rfl
theorem zF1 {p a : Nat} : ([.ref p, .int (nI a)] : List Value).set 1 (.int (nI a + 1)) = [.ref p, .int (nI (a + 1))] := by
  rw [nI_1]
  rfl
/-- the lists are no longer than their room -/
def zB (c : CS) : Prop := ∀ j, j < 8 → c.zn j ≤ 150
/-- the draft alone has changed -/
def Dw (c c' : CS) : Prop := c'.1 = c.1 ∧ c'.2.1 = c.2.1 ∧ c'.2.2.2 = c.2.2.2 ∧ c'.vf = c.vf ∧ c'.vn = c.vn ∧ c'.zn = c.zn
/-- the draft and the list t alone have changed -/
def Swc (t : Nat) (c c' : CS) : Prop := c'.1 = c.1 ∧ c'.2.1 = c.2.1 ∧ c'.2.2.2 = c.2.2.2 ∧ c'.vf = c.vf ∧ c'.vn = c.vn ∧ (∀ j, j ≠ t → c'.zn j = c.zn j) ∧ (c.zn t ≤ 150 → c'.zn t ≤ 150)
theorem Dw.refl : Dw c c := ⟨rfl, rfl, rfl, rfl, rfl, rfl⟩
theorem Dw.trans {c1 c2 c3 : CS} (h1 : Dw c1 c2) (h2 : Dw c2 c3) : Dw c1 c3 := ⟨h2.1.trans h1.1, h2.2.1.trans h1.2.1, h2.2.2.1.trans h1.2.2.1, h2.2.2.2.1.trans h1.2.2.2.1, h2.2.2.2.2.1.trans h1.2.2.2.2.1, h2.2.2.2.2.2.trans h1.2.2.2.2.2⟩
theorem Dw.sw {c1 c2 : CS} {t : Nat} (h : Dw c1 c2) : Swc t c1 c2 := ⟨h.1, h.2.1, h.2.2.1, h.2.2.2.1, h.2.2.2.2.1, fun j _ => congrFun h.2.2.2.2.2 j, fun q => by rw [h.2.2.2.2.2]; exact q⟩
theorem Swc.refl {t : Nat} : Swc t c c := Dw.refl.sw
theorem Swc.trans {c1 c2 c3 : CS} {t : Nat} (h1 : Swc t c1 c2) (h2 : Swc t c2 c3) : Swc t c1 c3 := ⟨h2.1.trans h1.1, h2.2.1.trans h1.2.1, h2.2.2.1.trans h1.2.2.1, h2.2.2.2.1.trans h1.2.2.2.1, h2.2.2.2.2.1.trans h1.2.2.2.2.1, fun j hj => (h2.2.2.2.2.2.1 j hj).trans (h1.2.2.2.2.2.1 j hj), fun q => h2.2.2.2.2.2.2 (h1.2.2.2.2.2.2 q)⟩
theorem Swc.zB {c1 c2 : CS} {t : Nat} (h : Swc t c1 c2) (hz : zB c1) : zB c2 := fun j hj => by
  by_cases e : j = t
  · subst e
    exact h.2.2.2.2.2.2 (hz j hj)
  · rw [h.2.2.2.2.2.1 j e]
    exact hz j hj
theorem Dw.zB {c1 c2 : CS} (h : Dw c1 c2) (hz : zB c1) : zB c2 := (h.sw (t := 0)).zB hz
theorem Swc.zn {c1 c2 : CS} {t j : Nat} (h : Swc t c1 c2) (hj : j ≠ t) : c2.zn j = c1.zn j := h.2.2.2.2.2.1 j hj
theorem Swc.tn {c1 c2 : CS} {t : Nat} (h : Swc t c1 c2) : c2.tn = c1.tn := congrArg (fun z : CS0 × (CS1 × CS2) => CS.tn (z, c1.2)) h.1
theorem Dw.tn {c1 c2 : CS} (h : Dw c1 c2) : c2.tn = c1.tn := (h.sw (t := 0)).tn
/-- the query, as the solver reads it -/
def QE (c : CS) : Prop := c.qe ≤ 12 ∧ c.qg ≤ 145 ∧ ∀ i, i < 12 → c.qx i = some (22 + i)
theorem QE.of {c1 c2 : CS} (h : c2.2.1 = c1.2.1) (q : QE c1) : QE c2 := (congrArg (fun g : CS3 => QE (c1.1, (g, c1.2.2))) h).mpr q
theorem Swc.qe {c1 c2 : CS} {t : Nat} (h : Swc t c1 c2) (q : QE c1) : QE c2 := QE.of h.2.1 q
theorem Dw.qe {c1 c2 : CS} (h : Dw c1 c2) (q : QE c1) : QE c2 := QE.of h.2.1 q
theorem ce_of {c1 c2 : CS} (h : c2.2.1 = c1.2.1) : c2.qe = c1.qe := congrArg (fun g : CS3 => CS.qe (c1.1, (g, c1.2.2))) h
theorem cg_of {c1 c2 : CS} (h : c2.2.1 = c1.2.1) : c2.qg = c1.qg := congrArg (fun g : CS3 => CS.qg (c1.1, (g, c1.2.2))) h
theorem qx_at2 (h : QE c) {e : Nat} (he : e < 12) : c.qx (nI e).toNatClampNeg = some (22 + e) := by
  rw [nC rfl (by omega)]
  exact h.2.2 e he
theorem Sw_zn {j v : Nat} (hv : v ≤ 150) : Swc j c (c.u_zn (eU c.zn j v)) := ⟨rfl, rfl, rfl, rfl, rfl, fun k hk => eU_ne c.zn v hk, fun _ => by
  show eU c.zn j v j ≤ 150
  rw [eU_eq]
  exact hv⟩
theorem so_size {j : Nat} (hj : j < 8) : mm_ l y_So_size w_So_size (rmh 1) [.ref (39 + 2 * j)] (W9 c m o) (qC m o (fun r c' => r = some (.int (nI (c.zn j))) ∧ c' = c)) := by
  refine mm_intro (by decide) (Nat.le_of_ble_eq_true rfl) i_So_size (fun X ok E => ?_)
  refine k_So_size_0 ok (rZ hj) rfl E ⟨_, ⟨rfl, rfl⟩, rfl⟩ (Nat.le_refl _) (Nat.le_refl _)
theorem so_clear {j : Nat} (hj : j < 8) : mm_ l y_So_clear w_So_clear (rmh 1) [.ref (39 + 2 * j)] (W9 c m o) (qC m o (fun r c' => r = none ∧ Swc j c c')) := by
  refine mm_intro (by decide) (Nat.le_of_ble_eq_true rfl) i_So_clear (fun X ok E => ?_)
  refine k_So_clear_0 ok (rZ hj) (Nat.le_refl 2) zF0 (sZ hj) E ⟨_, ⟨rfl, Sw_zn (Nat.zero_le _)⟩, rfl⟩ (Nat.le_refl _) (Nat.le_refl _)
theorem so_term {j : Nat} (hj : j < 8) (hz : zB c) (x y : Int32) : mm_ l y_So_term w_So_term (rmh 1) [.ref (39 + 2 * j), .int x, .int y] (W9 c m o) (qC m o (fun r c' => ∃ v, r = some (.long v) ∧ c' = c)) := by
  have hb := hz j hj
  refine mm_intro (by decide) (Nat.le_of_ble_eq_true rfl) i_So_term (fun X ok E => ?_)
  have no : gg X (W9 c m o) 0 0 22 [] [] := by
    refine k_So_term_22 ok E ⟨_, ⟨_, rfl, rfl⟩, rfl⟩ (Nat.le_refl _) (Nat.le_refl _)
  refine k_So_term_0 ok (fun _ => no) (fun z1 => ?_)
  obtain ⟨a, ha, rfl⟩ := nI_of z1
  refine k_So_term_4 ok (rZ hj) rfl (fun z => have z := (nLe rfl rfl (by omega) (by omega) z); ?_) (fun z => have z := (nNle rfl rfl (by omega) (by omega) z); ?_)
  · exact no
  refine k_So_term_12 ok (fun _ => no) (fun z3 => ?_)
  obtain ⟨b, hb2, rfl⟩ := nI_of z3
  refine k_So_term_16 ok (fun z => have z := (nLt rfl (nL 6) (by omega) (by omega) z); ?_) (fun z => have z := (nNlt rfl (nL 6) (by omega) (by omega) z); ?_)
  · refine k_So_term_24 ok (rZ hj) rfl (rZt hj) (vin (nA (nM rfl (nL 6)) rfl) (by omega) (by decide)) E ⟨_, ⟨_, rfl, rfl⟩, rfl⟩ (Nat.le_refl _) (Nat.le_refl _)
  · exact no
theorem so_put {j : Nat} (hj : j < 8) (hz : zB c) : mm_ l y_So_put w_So_put (rmh 1) [.ref (39 + 2 * j), .ref 38] (W9 c m o) (qC m o (fun r c' => ∃ b, r = some (.int (bI b)) ∧ Swc j c c')) := by
  have hb := hz j hj
  have e6 : nI (c.zn j) * 6 = nI (c.zn j * 6) := nM rfl (nL 6)
  refine mm_intro (by decide) (Nat.le_of_ble_eq_true rfl) i_So_put (fun X ok E => ?_)
  refine k_So_put_0 ok (rZ hj) rfl (fun z => have z := (nLt rfl (nL 150) (by omega) (by omega) z); ?_) (fun z => have z := (nNlt rfl (nL 150) (by omega) (by omega) z); ?_)
  · refine k_So_put_12 ok (rZ hj) rfl rfl rW_38 (rZt hj) (by decide) (by rw [e6]; exact nI_pos (by omega)) (by decide) (by decide) (by rw [e6, nC rfl (by omega)]; show c.zn j * 6 + 6 ≤ 900; omega) (by rw [E.nR]; exact Nat.le_of_ble_eq_true rfl) (by rw [E.nR]; exact Nat.le_of_ble_eq_true rfl) ?_
    rw [sZt hj]
    refine k_So_put_30 ok (rZ hj) rfl (Nat.le_refl 2) zF1 (sZ hj) E ⟨_, ⟨true, rfl, by exact Sw_zn (c := c.u_zt _) (v := c.zn j + 1) (by omega)⟩, rfl⟩ (Nat.le_refl _) (Nat.le_refl _)
  · refine k_So_put_10 ok E ⟨_, ⟨false, rfl, Swc.refl⟩, rfl⟩ (Nat.le_refl _) (Nat.le_refl _)
theorem so_copy {j : Nat} (hj : j < 8) (hz : zB c) (x : Int32) : mm_ l y_So_copy w_So_copy (rmh 1) [.ref (39 + 2 * j), .int x, .ref 38] (W9 c m o) (qC m o (fun r c' => r = none ∧ Dw c c')) := by
  have hb := hz j hj
  refine mm_intro (by decide) (Nat.le_of_ble_eq_true rfl) i_So_copy (fun X ok E => ?_)
  have no : ∀ c1, Dw c c1 → gg X (W9 c1 m o) 0 0 27 [] [] := by
    intro c1 q
    refine k_So_copy_27 ok E ⟨_, ⟨rfl, q⟩, rfl⟩ (Nat.le_refl _) (Nat.le_refl _)
  refine k_So_copy_0 ok (fun _ => no c Dw.refl) (fun z1 => ?_)
  obtain ⟨a, ha, rfl⟩ := nI_of z1
  have e6 : nI a * 6 = nI (a * 6) := nM rfl (nL 6)
  refine k_So_copy_4 ok (rZ hj) rfl (fun z => have z := (nLe rfl rfl (by omega) (by omega) z); ?_) (fun z => have z := (nNle rfl rfl (by omega) (by omega) z); ?_)
  · exact no c Dw.refl
  refine k_So_copy_12 ok (rZ hj) rfl (rZt hj) rW_38 (by rw [e6]; exact nI_pos (by omega)) (by decide) (by decide) (by rw [e6, nC rfl (by omega)]; show a * 6 + 6 ≤ 900; omega) (by decide) (by rw [E.nR]; exact Nat.le_of_ble_eq_true rfl) (by rw [E.nR]; exact Nat.le_of_ble_eq_true rfl) ?_
  rw [sA_38]
  exact no _ ⟨rfl, rfl, rfl, rfl, rfl, rfl⟩
theorem so_joinInto {j : Nat} (hj : j < 8) (hz : zB c) (x : Int32) : mm_ l y_So_joinInto w_So_joinInto (rmh 2) [.ref (39 + 2 * j), .int x, .ref 38] (W9 c m o) (qC m o (fun r c' => ∃ b, r = some (.int (bI b)) ∧ Dw c c')) := by
  refine mm_intro (by decide) (Nat.le_of_ble_eq_true rfl) i_So_joinInto (fun X ok E => ?_)
  refine k_So_joinInto_0 ok E.nL ?_
  have L1 : ∀ r i c1, i + r = 6 → Dw c c1 → gg X (W9 c1 m o) 0 0 2 [(0, .ref (39 + 2 * j)), (1, .int x), (2, .ref 38), (3, .int (nI i))] [] := by
    intro r
    induction r with
    | zero =>
      intro i c1 hi q
      refine k_So_joinInto_2 ok (fun z => have z := (nLe (nL 6) rfl (by omega) (by omega) z); ?_) (fun z => have z := (nNle (nL 6) rfl (by omega) (by omega) z); ?_)
      · refine k_So_joinInto_56 ok E ⟨_, ⟨true, rfl, q⟩, rfl⟩ (Nat.le_refl _) (Nat.le_refl _)
      · omega
    | succ r ih =>
      intro i c1 hi q
      have nx : ∀ c2, Dw c c2 → gg X (W9 c2 m o) 0 0 50 [(0, .ref (39 + 2 * j)), (1, .int x), (2, .ref 38), (3, .int (nI i))] [] := by
        intro c2 q2
        refine k_So_joinInto_50 ok E.nL ?_
        rw [nI_1]
        exact ih (i + 1) c2 (by omega) q2
      refine k_So_joinInto_2 ok (fun z => have z := (nLe (nL 6) rfl (by omega) (by omega) z); ?_) (fun z => have z := (nNle (nL 6) rfl (by omega) (by omega) z); ?_)
      · omega
      refine k_So_joinInto_8 ok (rZ hj) (so_term hj (q.zB hz) _ _) (gF_h E.nR (by decide) (by decide)) (fun _ _ q => qC_len q) ?_
      rintro r M' ⟨c1, ⟨v, rfl, rfl⟩, rfl⟩
      refine k_So_joinInto_14 ok E.nL rW_38 (vin rfl (by omega) (by decide)) (fun z => ?_) (fun z => ?_)
      · refine k_So_joinInto_32 ok (fun z => ?_) (fun z => ?_)
        · exact nx c1 q
        refine k_So_joinInto_39 ok rW_38 (vin rfl (by omega) (by decide)) (fun z => ?_) (fun z => ?_)
        · exact nx c1 q
        · refine k_So_joinInto_48 ok E ⟨_, ⟨false, rfl, q⟩, rfl⟩ (Nat.le_refl _) (Nat.le_refl _)
      · refine k_So_joinInto_24 ok rW_38 (vin rfl (by omega) (by decide)) sA_38 ?_
        exact nx _ (q.trans ⟨rfl, rfl, rfl, rfl, rfl, rfl⟩)
  exact L1 6 0 c rfl Dw.refl
theorem so_sharesVariable {j : Nat} (hj : j < 8) (hz : zB c) (x : Int32) : mm_ l y_So_sharesVariable w_So_sharesVariable (rmh 2) [.ref (39 + 2 * j), .int x, .ref 38] (W9 c m o) (qC m o (fun r c' => ∃ b, r = some (.int (bI b)) ∧ c' = c)) := by
  refine mm_intro (by decide) (Nat.le_of_ble_eq_true rfl) i_So_sharesVariable (fun X ok E => ?_)
  refine k_So_sharesVariable_0 ok E.nL ?_
  have L1 : ∀ r i, i + r = 6 → gg X (W9 c m o) 0 0 2 [(0, .ref (39 + 2 * j)), (1, .int x), (2, .ref 38), (3, .int (nI i))] [] := by
    intro r
    induction r with
    | zero =>
      intro i hi
      refine k_So_sharesVariable_2 ok (fun z => have z := (nLe (nL 6) rfl (by omega) (by omega) z); ?_) (fun z => have z := (nNle (nL 6) rfl (by omega) (by omega) z); ?_)
      · refine k_So_sharesVariable_35 ok E ⟨_, ⟨false, rfl, rfl⟩, rfl⟩ (Nat.le_refl _) (Nat.le_refl _)
      · omega
    | succ r ih =>
      intro i hi
      have nx : gg X (W9 c m o) 0 0 29 [(0, .ref (39 + 2 * j)), (1, .int x), (2, .ref 38), (3, .int (nI i))] [] := by
        refine k_So_sharesVariable_29 ok E.nL ?_
        rw [nI_1]
        exact ih (i + 1) (by omega)
      refine k_So_sharesVariable_2 ok (fun z => have z := (nLe (nL 6) rfl (by omega) (by omega) z); ?_) (fun z => have z := (nNle (nL 6) rfl (by omega) (by omega) z); ?_)
      · omega
      refine k_So_sharesVariable_8 ok rW_38 (vin rfl (by omega) (by decide)) (fun z => ?_) (fun z => ?_)
      · exact nx
      refine k_So_sharesVariable_16 ok (rZ hj) (so_term hj hz _ _) (gF_h E.nR (by decide) (by decide)) (fun _ _ q => qC_len q) ?_
      rintro r M' ⟨c, ⟨v, rfl, rfl⟩, rfl⟩
      refine k_So_sharesVariable_22 ok (fun z => ?_) (fun z => ?_)
      · exact nx
      · refine k_So_sharesVariable_27 ok E ⟨_, ⟨true, rfl, rfl⟩, rfl⟩ (Nat.le_refl _) (Nat.le_refl _)
  exact L1 6 0 rfl
theorem ar_fill (x : Int64) : mm_ l y_Ar_fill w_Ar_fill (rmh 1) [.ref 38, .long x] (W9 c m o) (qC m o (fun r c' => r = none ∧ Dw c c')) := by
  refine mm_intro (by decide) (Nat.le_of_ble_eq_true rfl) i_Ar_fill (fun X ok E => ?_)
  refine k_Ar_fill_0 ok E.nL rW_38 ?_
  have L1 : ∀ r i c1, i + r = 6 → Dw c c1 → gg X (W9 c1 m o) 0 0 6 [(0, .ref 38), (1, .long x), (3, .int (nI i)), (4, .int (nI 6))] [] := by
    intro r
    induction r with
    | zero =>
      intro i c1 hi q
      refine k_Ar_fill_6 ok (fun z => have z := (nLe rfl rfl (by omega) (by omega) z); ?_) (fun z => have z := (nNle rfl rfl (by omega) (by omega) z); ?_)
      · refine k_Ar_fill_22 ok E ⟨_, ⟨rfl, q⟩, rfl⟩ (Nat.le_refl _) (Nat.le_refl _)
      · omega
    | succ r ih =>
      intro i c1 hi q
      refine k_Ar_fill_6 ok (fun z => have z := (nLe rfl rfl (by omega) (by omega) z); ?_) (fun z => have z := (nNle rfl rfl (by omega) (by omega) z); ?_)
      · omega
      refine k_Ar_fill_12 ok E.nL rW_38 (vin rfl (by omega) (by decide)) sA_38 ?_
      rw [nI_1]
      exact ih (i + 1) _ (by omega) (q.trans ⟨rfl, rfl, rfl, rfl, rfl, rfl⟩)
  exact L1 6 0 c rfl Dw.refl
theorem sv_termOf (x : Int64) : mm_ l y_Sv_termOf w_Sv_termOf (rmh 1) [.ref 35, .long x] (W9 c m o) (qC m o (fun r c' => ∃ v, r = some (.long v) ∧ c' = c)) := by
  refine mm_intro (by decide) (Nat.le_of_ble_eq_true rfl) i_Sv_termOf (fun X ok E => ?_)
  have fin : ∀ v : Int64, gg X (W9 c m o) 0 0 35 [] [.long v] := by
    intro v
    refine k_Sv_termOf_35 ok E ⟨_, ⟨v, rfl, rfl⟩, rfl⟩ (Nat.le_refl _) (Nat.le_refl _)
  refine k_Sv_termOf_0 ok (fun z => ?_) (fun z => ?_)
  · refine k_Sv_termOf_8 ok E.nL (fun _ => ?_) (fun z1 => ?_)
    · refine k_Sv_termOf_34 ok ?_
      exact fin 0
    obtain ⟨a, ha, e⟩ := nI_of z1
    rw [e]
    refine k_Sv_termOf_19 ok (fun z => have z := (nLe (nL 6) rfl (by omega) (by omega) z); ?_) (fun z => have z := (nNle (nL 6) rfl (by omega) (by omega) z); ?_)
    · refine k_Sv_termOf_34 ok ?_
      exact fin 0
    refine k_Sv_termOf_25 ok rW_35 rF_Sv_4 rW_38 (vin rfl (by omega) (by decide)) ?_
    exact fin _
  · refine k_Sv_termOf_6 ok E ⟨_, ⟨_, rfl, rfl⟩, rfl⟩ (Nat.le_refl _) (Nat.le_refl _)
theorem sv_fitsTerm (x y : Int64) : mm_ l y_Sv_fitsTerm w_Sv_fitsTerm (rmh 2) [.ref 35, .long x, .long y] (W9 c m o) (qC m o (fun r c' => ∃ b, r = some (.int (bI b)) ∧ Dw c c')) := by
  refine mm_intro (by decide) (Nat.le_of_ble_eq_true rfl) i_Sv_fitsTerm (fun X ok E => ?_)
  refine k_Sv_fitsTerm_0 ok rW_35 (sv_termOf _) (gF_h E.nR (by decide) (by decide)) (fun _ _ q => qC_len q) ?_
  rintro r M' ⟨c, ⟨v, rfl, rfl⟩, rfl⟩
  have f26 : ∀ b : Bool, gg X (W9 c m o) 0 0 26 [] [.int (bI b)] := by
    intro b
    refine k_Sv_fitsTerm_26 ok E (bI_nar _) ⟨_, ⟨b, rfl, Dw.refl⟩, rfl⟩ (Nat.le_refl _) (Nat.le_refl _)
  have f55 : ∀ c1, Dw c c1 → gg X (W9 c1 m o) 0 0 55 [] [] := by
    intro c1 q
    refine k_Sv_fitsTerm_55 ok E ⟨_, ⟨true, rfl, q⟩, rfl⟩ (Nat.le_refl _) (Nat.le_refl _)
  refine k_Sv_fitsTerm_5 ok E.nL (fun z => ?_) (fun z => ?_)
  · refine k_Sv_fitsTerm_27 ok E.nL (fun _ => f55 c Dw.refl) (fun z1 => ?_)
    obtain ⟨a, ha, e⟩ := nI_of z1
    rw [e]
    refine k_Sv_fitsTerm_40 ok (fun z => have z := (nLe (nL 6) rfl (by omega) (by omega) z); ?_) (fun z => have z := (nNle (nL 6) rfl (by omega) (by omega) z); ?_)
    · exact f55 c Dw.refl
    refine k_Sv_fitsTerm_47 ok rW_35 rF_Sv_4 rW_38 (vin rfl (by omega) (by decide)) sA_38 ?_
    exact f55 _ ⟨rfl, rfl, rfl, rfl, rfl, rfl⟩
  · refine k_Sv_fitsTerm_14 ok (fun z => ?_) (fun z => ?_)
    · refine k_Sv_fitsTerm_25 ok ?_
      exact f26 false
    · refine k_Sv_fitsTerm_21 ok ?_
      exact f26 true
theorem st_subject2 (h : c.tn ≤ 48) (t : Nat) (ht : t < c.tn) : mm_ l y_St_subject w_St_subject (rmh 2) [.ref 1, .int (nI t)] (W9 c m o) (qC m o (fun r c' => ∃ v, r = some (.long v) ∧ c' = c)) := by
  refine mm_intro (by decide) (Nat.le_of_ble_eq_true rfl) i_St_subject (fun X ok E => ?_)
  refine k_St_subject_0 ok rW_1 rF_St_0 rW_2 (T1_subject h t ht) (gF_h E.nR (by decide) (by decide)) (fun _ _ q => qC_len q) ?_
  rintro r M' ⟨c, ⟨rfl, rfl⟩, rfl⟩
  refine k_St_subject_8 ok E ⟨_, ⟨_, rfl, rfl⟩, rfl⟩ (Nat.le_refl _) (Nat.le_refl _)
theorem st_predicate2 (h : c.tn ≤ 48) (t : Nat) (ht : t < c.tn) : mm_ l y_St_predicate w_St_predicate (rmh 2) [.ref 1, .int (nI t)] (W9 c m o) (qC m o (fun r c' => ∃ v, r = some (.long v) ∧ c' = c)) := by
  refine mm_intro (by decide) (Nat.le_of_ble_eq_true rfl) i_St_predicate (fun X ok E => ?_)
  refine k_St_predicate_0 ok rW_1 rF_St_0 rW_2 (T1_predicate h t ht) (gF_h E.nR (by decide) (by decide)) (fun _ _ q => qC_len q) ?_
  rintro r M' ⟨c, ⟨rfl, rfl⟩, rfl⟩
  refine k_St_predicate_8 ok E ⟨_, ⟨_, rfl, rfl⟩, rfl⟩ (Nat.le_refl _) (Nat.le_refl _)
theorem st_object2 (h : c.tn ≤ 48) (t : Nat) (ht : t < c.tn) : mm_ l y_St_object w_St_object (rmh 2) [.ref 1, .int (nI t)] (W9 c m o) (qC m o (fun r c' => ∃ v, r = some (.long v) ∧ c' = c)) := by
  refine mm_intro (by decide) (Nat.le_of_ble_eq_true rfl) i_St_object (fun X ok E => ?_)
  refine k_St_object_0 ok rW_1 rF_St_0 rW_2 (T1_object h t ht) (gF_h E.nR (by decide) (by decide)) (fun _ _ q => qC_len q) ?_
  rintro r M' ⟨c, ⟨rfl, rfl⟩, rfl⟩
  refine k_St_object_8 ok E ⟨_, ⟨_, rfl, rfl⟩, rfl⟩ (Nat.le_refl _) (Nat.le_refl _)
theorem sv_fitsTriple {i : Nat} (hi : i < 12) (h48 : c.tn ≤ 48) (t : Nat) (ht : t < c.tn) : mm_ l y_Sv_fitsTriple w_Sv_fitsTriple (rmh 3) [.ref 35, .ref (22 + i), .int (nI t)] (W9 c m o) (qC m o (fun r c' => ∃ b, r = some (.int (bI b)) ∧ Dw c c')) := by
  refine mm_intro (by decide) (Nat.le_of_ble_eq_true rfl) i_Sv_fitsTriple (fun X ok E => ?_)
  have f62 : ∀ c1 (b : Bool), Dw c c1 → gg X (W9 c1 m o) 0 0 62 [] [.int (bI b)] := by
    intro c1 b q
    refine k_Sv_fitsTriple_62 ok E (bI_nar _) ⟨_, ⟨b, rfl, q⟩, rfl⟩ (Nat.le_refl _) (Nat.le_refl _)
  have no : ∀ c1, Dw c c1 → gg X (W9 c1 m o) 0 0 61 [] [] := by
    intro c1 q
    refine k_Sv_fitsTriple_61 ok ?_
    exact f62 c1 false q
  refine k_Sv_fitsTriple_0 ok (rE hi) rfl rW_35 rF_Sv_0 rW_1 (st_subject2 h48 t ht) (gF_h E.nR (by decide) (by decide)) (fun _ _ q => qC_len q) ?_
  rintro r M' ⟨c, ⟨v1, rfl, rfl⟩, rfl⟩
  refine k_Sv_fitsTriple_13 ok rW_35 (sv_fitsTerm _ _) (gF_h E.nR (by decide) (by decide)) (fun _ _ q => qC_len q) ?_
  rintro r M' ⟨c2, ⟨b2, rfl, q2⟩, rfl⟩
  have e2 := q2.tn
  refine k_Sv_fitsTriple_16 ok (fun z => ?_) (fun z => ?_)
  · exact no c2 q2
  refine k_Sv_fitsTriple_19 ok (rE hi) rfl rW_35 rF_Sv_0 rW_1 (st_predicate2 (by omega) t (by omega)) (gF_h E.nR (by decide) (by decide)) (fun _ _ q => qC_len q) ?_
  rintro r M' ⟨c2, ⟨v2, rfl, rfl⟩, rfl⟩
  refine k_Sv_fitsTriple_32 ok rW_35 (sv_fitsTerm _ _) (gF_h E.nR (by decide) (by decide)) (fun _ _ q => qC_len q) ?_
  rintro r M' ⟨c3, ⟨b3, rfl, q3⟩, rfl⟩
  have t3 := q2.trans q3
  have e3 := t3.tn
  refine k_Sv_fitsTriple_35 ok (fun z => ?_) (fun z => ?_)
  · exact no c3 t3
  refine k_Sv_fitsTriple_38 ok (rE hi) rfl rW_35 rF_Sv_0 rW_1 (st_object2 (by omega) t (by omega)) (gF_h E.nR (by decide) (by decide)) (fun _ _ q => qC_len q) ?_
  rintro r M' ⟨c3, ⟨v3, rfl, rfl⟩, rfl⟩
  refine k_Sv_fitsTriple_51 ok rW_35 (sv_fitsTerm _ _) (gF_h E.nR (by decide) (by decide)) (fun _ _ q => qC_len q) ?_
  rintro r M' ⟨c4, ⟨b4, rfl, q4⟩, rfl⟩
  refine k_Sv_fitsTriple_54 ok (fun z => ?_) (fun z => ?_)
  · exact no c4 (t3.trans q4)
  · refine k_Sv_fitsTriple_57 ok ?_
    exact f62 c4 true (t3.trans q4)
theorem sv_joinPattern {i a b : Nat} (hi : i < 12) (ha : a < 8) (hb : b < 8) (hab : a ≠ b) (hz : zB c) (h48 : c.tn ≤ 48) : mm_ l y_Sv_joinPattern w_Sv_joinPattern (rmh 4) [.ref 35, .ref (22 + i), .ref (39 + 2 * a), .ref (39 + 2 * b)] (W9 c m o) (qC m o (fun r c' => ∃ x, r = some (.int (bI x)) ∧ Swc b c c')) := by
  have hza := hz a ha
  refine mm_intro (by decide) (Nat.le_of_ble_eq_true rfl) i_Sv_joinPattern (fun X ok E => ?_)
  refine k_Sv_joinPattern_0 ok E.nL ?_
  have L1 : ∀ r k c1, k + r = c.zn a → Swc b c c1 → gg X (W9 c1 m o) 0 0 3 [(0, .ref 35), (1, .ref (22 + i)), (2, .ref (39 + 2 * a)), (3, .ref (39 + 2 * b)), (4, .int (nI k))] [] := by
    intro r
    induction r with
    | zero =>
      intro k c1 hk q
      have e1 := q.zn hab
      refine k_Sv_joinPattern_3 ok (rZ ha) (so_size ha) (gF_h E.nR (by decide) (by decide)) (fun _ _ q => qC_len q) ?_
      rintro r M' ⟨c1, ⟨rfl, rfl⟩, rfl⟩
      refine k_Sv_joinPattern_9 ok (fun z => have z := (nLe rfl rfl (by omega) (by omega) z); ?_) (fun z => have z := (nNle rfl rfl (by omega) (by omega) z); ?_)
      · refine k_Sv_joinPattern_72 ok E ⟨_, ⟨true, rfl, q⟩, rfl⟩ (Nat.le_refl _) (Nat.le_refl _)
      · omega
    | succ r ih =>
      intro k c1 hk q
      have e1 := q.zn hab
      refine k_Sv_joinPattern_3 ok (rZ ha) (so_size ha) (gF_h E.nR (by decide) (by decide)) (fun _ _ q => qC_len q) ?_
      rintro r M' ⟨c1, ⟨rfl, rfl⟩, rfl⟩
      refine k_Sv_joinPattern_9 ok (fun z => have z := (nLe rfl rfl (by omega) (by omega) z); ?_) (fun z => have z := (nNle rfl rfl (by omega) (by omega) z); ?_)
      · omega
      refine k_Sv_joinPattern_12 ok E.nL ?_
      have L2 : ∀ r2 t c2, t + r2 = c.tn → Swc b c c2 → gg X (W9 c2 m o) 0 0 15 [(0, .ref 35), (1, .ref (22 + i)), (2, .ref (39 + 2 * a)), (3, .ref (39 + 2 * b)), (4, .int (nI k)), (5, .int (nI t))] [] := by
        intro r2
        induction r2 with
        | zero =>
          intro t c2 ht q2
          have e2 := q2.tn
          refine k_Sv_joinPattern_15 ok rW_35 rF_Sv_0 rW_1 (st_size (by omega)) (gF_h E.nR (by decide) (by decide)) (fun _ _ q => qC_len q) ?_
          rintro r M' ⟨c2, ⟨rfl, rfl⟩, rfl⟩
          refine k_Sv_joinPattern_24 ok (fun z => have z := (nLe rfl rfl (by omega) (by omega) z); ?_) (fun z => have z := (nNle rfl rfl (by omega) (by omega) z); ?_)
          · refine k_Sv_joinPattern_66 ok E.nL ?_
            rw [nI_1]
            exact ih (k + 1) c2 (by omega) q2
          · omega
        | succ r2 ih2 =>
          intro t c2 ht q2
          have e2 := q2.tn
          refine k_Sv_joinPattern_15 ok rW_35 rF_Sv_0 rW_1 (st_size (by omega)) (gF_h E.nR (by decide) (by decide)) (fun _ _ q => qC_len q) ?_
          rintro r M' ⟨c2, ⟨rfl, rfl⟩, rfl⟩
          refine k_Sv_joinPattern_24 ok (fun z => have z := (nLe rfl rfl (by omega) (by omega) z); ?_) (fun z => have z := (nNle rfl rfl (by omega) (by omega) z); ?_)
          · omega
          refine k_Sv_joinPattern_27 ok rW_35 rF_Sv_4 (rZ ha) (so_copy ha (q2.zB hz) _) (gF_h E.nR (by decide) (by decide)) (fun _ _ q => qC_len q) ?_
          rintro r M' ⟨c3, ⟨rfl, q3⟩, rfl⟩
          have t3 : Swc b c c3 := q2.trans q3.sw
          have e3 := t3.tn
          have nx : ∀ c4, Swc b c c4 → gg X (W9 c4 m o) 0 0 60 [(0, .ref 35), (1, .ref (22 + i)), (2, .ref (39 + 2 * a)), (3, .ref (39 + 2 * b)), (4, .int (nI k)), (5, .int (nI t))] [] := by
            intro c4 q4
            refine k_Sv_joinPattern_60 ok E.nL ?_
            rw [nI_1]
            exact ih2 (t + 1) c4 (by omega) q4
          refine k_Sv_joinPattern_37 ok rW_35 (sv_fitsTriple hi (by omega) t (by omega)) (gF_h E.nR (by decide) (by decide)) (fun _ _ q => qC_len q) ?_
          rintro r M' ⟨c4, ⟨b4, rfl, q4⟩, rfl⟩
          have t4 : Swc b c c4 := t3.trans q4.sw
          refine k_Sv_joinPattern_44 ok (fun z => ?_) (fun z => ?_)
          · exact nx c4 t4
          refine k_Sv_joinPattern_47 ok rW_35 rF_Sv_4 (rZ hb) (so_put hb (t4.zB hz)) (gF_h E.nR (by decide) (by decide)) (fun _ _ q => qC_len q) ?_
          rintro r M' ⟨c5, ⟨b5, rfl, q5⟩, rfl⟩
          refine k_Sv_joinPattern_55 ok (fun z => ?_) (fun z => ?_)
          · exact nx c5 (t4.trans q5)
          · refine k_Sv_joinPattern_58 ok E ⟨_, ⟨false, rfl, t4.trans q5⟩, rfl⟩ (Nat.le_refl _) (Nat.le_refl _)
      exact L2 c.tn 0 c1 (by omega) q
  exact L1 (c.zn a) 0 c (by omega) Swc.refl
theorem sv_hasPartner {a b : Nat} (ha : a < 8) (hb : b < 8) (hz : zB c) (x y : Int32) : mm_ l y_Sv_hasPartner w_Sv_hasPartner (rmh 3) [.ref 35, .ref (39 + 2 * a), .int x, .ref (39 + 2 * b), .int y] (W9 c m o) (qC m o (fun r c' => ∃ v, r = some (.int (bI v)) ∧ Dw c c')) := by
  have hzb := hz b hb
  refine mm_intro (by decide) (Nat.le_of_ble_eq_true rfl) i_Sv_hasPartner (fun X ok E => ?_)
  refine k_Sv_hasPartner_0 ok E.nL ?_
  have L1 : ∀ r k c1, k + r = c.zn b → Dw c c1 → gg X (W9 c1 m o) 0 0 3 [(0, .ref 35), (1, .ref (39 + 2 * a)), (2, .int x), (3, .ref (39 + 2 * b)), (4, .int y), (5, .int (nI k))] [] := by
    intro r
    induction r with
    | zero =>
      intro k c1 hk q
      have e1 : c1.zn b = c.zn b := congrFun q.2.2.2.2.2 b
      refine k_Sv_hasPartner_3 ok (rZ hb) (so_size hb) (gF_h E.nR (by decide) (by decide)) (fun _ _ q => qC_len q) ?_
      rintro r M' ⟨c1, ⟨rfl, rfl⟩, rfl⟩
      refine k_Sv_hasPartner_9 ok (fun z => have z := (nLe rfl rfl (by omega) (by omega) z); ?_) (fun z => have z := (nNle rfl rfl (by omega) (by omega) z); ?_)
      · refine k_Sv_hasPartner_60 ok E ⟨_, ⟨false, rfl, q⟩, rfl⟩ (Nat.le_refl _) (Nat.le_refl _)
      · omega
    | succ r ih =>
      intro k c1 hk q
      have e1 : c1.zn b = c.zn b := congrFun q.2.2.2.2.2 b
      refine k_Sv_hasPartner_3 ok (rZ hb) (so_size hb) (gF_h E.nR (by decide) (by decide)) (fun _ _ q => qC_len q) ?_
      rintro r M' ⟨c1, ⟨rfl, rfl⟩, rfl⟩
      refine k_Sv_hasPartner_9 ok (fun z => have z := (nLe rfl rfl (by omega) (by omega) z); ?_) (fun z => have z := (nNle rfl rfl (by omega) (by omega) z); ?_)
      · omega
      refine k_Sv_hasPartner_12 ok rW_35 rF_Sv_4 (rZ ha) (so_copy ha (q.zB hz) _) (gF_h E.nR (by decide) (by decide)) (fun _ _ q => qC_len q) ?_
      rintro r M' ⟨c2, ⟨rfl, q2⟩, rfl⟩
      have t2 : Dw c c2 := q.trans q2
      have nx : ∀ c3, Dw c c3 → gg X (W9 c3 m o) 0 0 54 [(0, .ref 35), (1, .ref (39 + 2 * a)), (2, .int x), (3, .ref (39 + 2 * b)), (4, .int y), (5, .int (nI k))] [] := by
        intro c3 q3
        refine k_Sv_hasPartner_54 ok E.nL ?_
        rw [nI_1]
        exact ih (k + 1) c3 (by omega) q3
      have k39 : gg X (W9 c2 m o) 0 0 39 [(0, .ref 35), (1, .ref (39 + 2 * a)), (2, .int x), (3, .ref (39 + 2 * b)), (4, .int y), (5, .int (nI k))] [] := by
        refine k_Sv_hasPartner_39 ok rW_35 rF_Sv_4 (rZ hb) (so_joinInto hb (t2.zB hz) _) (gF_h E.nR (by decide) (by decide)) (fun _ _ q => qC_len q) ?_
        rintro r M' ⟨c4, ⟨b4, rfl, q4⟩, rfl⟩
        refine k_Sv_hasPartner_49 ok (fun z => ?_) (fun z => ?_)
        · exact nx c4 (t2.trans q4)
        · refine k_Sv_hasPartner_52 ok E ⟨_, ⟨true, rfl, t2.trans q4⟩, rfl⟩ (Nat.le_refl _) (Nat.le_refl _)
      refine k_Sv_hasPartner_21 ok (fun z => ?_) (fun z => ?_)
      · exact k39
      refine k_Sv_hasPartner_26 ok rW_35 rF_Sv_4 (rZ hb) (so_sharesVariable hb (t2.zB hz) _) (gF_h E.nR (by decide) (by decide)) (fun _ _ q => qC_len q) ?_
      rintro r M' ⟨c2, ⟨b3, rfl, rfl⟩, rfl⟩
      refine k_Sv_hasPartner_36 ok (fun z => ?_) (fun z => ?_)
      · exact nx c2 t2
      · exact k39
  exact L1 (c.zn b) 0 c (by omega) Dw.refl
theorem sv_joinAll {a b t : Nat} (ha : a < 8) (hb : b < 8) (ht : t < 8) (hbt : b ≠ t) (hz : zB c) (x : Int32) : mm_ l y_Sv_joinAll w_Sv_joinAll (rmh 3) [.ref 35, .ref (39 + 2 * a), .int x, .ref (39 + 2 * b), .ref (39 + 2 * t)] (W9 c m o) (qC m o (fun r c' => ∃ v, r = some (.int (bI v)) ∧ Swc t c c')) := by
  have hzb := hz b hb
  refine mm_intro (by decide) (Nat.le_of_ble_eq_true rfl) i_Sv_joinAll (fun X ok E => ?_)
  refine k_Sv_joinAll_0 ok E.nL ?_
  have L1 : ∀ r k c1, k + r = c.zn b → Swc t c c1 → gg X (W9 c1 m o) 0 0 3 [(0, .ref 35), (1, .ref (39 + 2 * a)), (2, .int x), (3, .ref (39 + 2 * b)), (4, .ref (39 + 2 * t)), (5, .int (nI k))] [] := by
    intro r
    induction r with
    | zero =>
      intro k c1 hk q
      have e1 := q.zn hbt
      refine k_Sv_joinAll_3 ok (rZ hb) (so_size hb) (gF_h E.nR (by decide) (by decide)) (fun _ _ q => qC_len q) ?_
      rintro r M' ⟨c1, ⟨rfl, rfl⟩, rfl⟩
      refine k_Sv_joinAll_9 ok (fun z => have z := (nLe rfl rfl (by omega) (by omega) z); ?_) (fun z => have z := (nNle rfl rfl (by omega) (by omega) z); ?_)
      · refine k_Sv_joinAll_54 ok E ⟨_, ⟨true, rfl, q⟩, rfl⟩ (Nat.le_refl _) (Nat.le_refl _)
      · omega
    | succ r ih =>
      intro k c1 hk q
      have e1 := q.zn hbt
      refine k_Sv_joinAll_3 ok (rZ hb) (so_size hb) (gF_h E.nR (by decide) (by decide)) (fun _ _ q => qC_len q) ?_
      rintro r M' ⟨c1, ⟨rfl, rfl⟩, rfl⟩
      refine k_Sv_joinAll_9 ok (fun z => have z := (nLe rfl rfl (by omega) (by omega) z); ?_) (fun z => have z := (nNle rfl rfl (by omega) (by omega) z); ?_)
      · omega
      refine k_Sv_joinAll_12 ok rW_35 rF_Sv_4 (rZ ha) (so_copy ha (q.zB hz) _) (gF_h E.nR (by decide) (by decide)) (fun _ _ q => qC_len q) ?_
      rintro r M' ⟨c2, ⟨rfl, q2⟩, rfl⟩
      have t2 : Swc t c c2 := q.trans q2.sw
      have nx : ∀ c3, Swc t c c3 → gg X (W9 c3 m o) 0 0 48 [(0, .ref 35), (1, .ref (39 + 2 * a)), (2, .int x), (3, .ref (39 + 2 * b)), (4, .ref (39 + 2 * t)), (5, .int (nI k))] [] := by
        intro c3 q3
        refine k_Sv_joinAll_48 ok E.nL ?_
        rw [nI_1]
        exact ih (k + 1) c3 (by omega) q3
      refine k_Sv_joinAll_21 ok rW_35 rF_Sv_4 (rZ hb) (so_joinInto hb (t2.zB hz) _) (gF_h E.nR (by decide) (by decide)) (fun _ _ q => qC_len q) ?_
      rintro r M' ⟨c4, ⟨b4, rfl, q4⟩, rfl⟩
      have t4 : Swc t c c4 := t2.trans q4.sw
      refine k_Sv_joinAll_31 ok (fun z => ?_) (fun z => ?_)
      · exact nx c4 t4
      refine k_Sv_joinAll_34 ok rW_35 rF_Sv_4 (rZ ht) (so_put ht (t4.zB hz)) (gF_h E.nR (by decide) (by decide)) (fun _ _ q => qC_len q) ?_
      rintro r M' ⟨c5, ⟨b5, rfl, q5⟩, rfl⟩
      refine k_Sv_joinAll_43 ok (fun z => ?_) (fun z => ?_)
      · exact nx c5 (t4.trans q5)
      · refine k_Sv_joinAll_46 ok E ⟨_, ⟨false, rfl, t4.trans q5⟩, rfl⟩ (Nat.le_refl _) (Nat.le_refl _)
  exact L1 (c.zn b) 0 c (by omega) Swc.refl
theorem sv_applySolved {a b t : Nat} (x1 : Int32) (ha : a < 8) (hb : b < 8) (ht : t < 8) (hat : a ≠ t) (hbt : b ≠ t) (hz : zB c) : mm_ l y_Sv_applySolved w_Sv_applySolved (rmh 4) [.ref 35, .int x1, .ref (39 + 2 * a), .ref (39 + 2 * b), .ref (39 + 2 * t)] (W9 c m o) (qC m o (fun r c' => ∃ v, r = some (.int (bI v)) ∧ Swc t c c')) := by
  have hza := hz a ha
  refine mm_intro (by decide) (Nat.le_of_ble_eq_true rfl) i_Sv_applySolved (fun X ok E => ?_)
  have L1 : ∀ x5 r k c1, k + r = c.zn a → Swc t c c1 → gg X (W9 c1 m o) 0 0 15 [(0, .ref 35), (1, .int x1), (2, .ref (39 + 2 * a)), (3, .ref (39 + 2 * b)), (4, .ref (39 + 2 * t)), (5, .int x5), (6, .int (nI k))] [] := by
    intro x5 r
    induction r with
    | zero =>
      intro k c1 hk q
      have e1 := q.zn hat
      refine k_Sv_applySolved_15 ok (rZ ha) (so_size ha) (gF_h E.nR (by decide) (by decide)) (fun _ _ q => qC_len q) ?_
      rintro r M' ⟨c1, ⟨rfl, rfl⟩, rfl⟩
      refine k_Sv_applySolved_21 ok (fun z => have z := (nLe rfl rfl (by omega) (by omega) z); ?_) (fun z => have z := (nNle rfl rfl (by omega) (by omega) z); ?_)
      · refine k_Sv_applySolved_104 ok E ⟨_, ⟨true, rfl, q⟩, rfl⟩ (Nat.le_refl _) (Nat.le_refl _)
      · omega
    | succ r ih =>
      intro k c1 hk q
      have e1 := q.zn hat
      refine k_Sv_applySolved_15 ok (rZ ha) (so_size ha) (gF_h E.nR (by decide) (by decide)) (fun _ _ q => qC_len q) ?_
      rintro r M' ⟨c1, ⟨rfl, rfl⟩, rfl⟩
      refine k_Sv_applySolved_21 ok (fun z => have z := (nLe rfl rfl (by omega) (by omega) z); ?_) (fun z => have z := (nNle rfl rfl (by omega) (by omega) z); ?_)
      · omega
      have k91 : ∀ c2 x7, Swc t c c2 → gg X (W9 c2 m o) 0 0 91 [(0, .ref 35), (1, .int x1), (2, .ref (39 + 2 * a)), (3, .ref (39 + 2 * b)), (4, .ref (39 + 2 * t)), (5, .int x5), (6, .int (nI k)), (7, .int x7)] [] := by
        intro c2 x7 q2
        refine k_Sv_applySolved_91 ok (fun z => ?_) (fun z => ?_)
        · refine k_Sv_applySolved_98 ok E.nL ?_
          rw [nI_1]
          exact ih (k + 1) c2 (by omega) q2
        · refine k_Sv_applySolved_96 ok E ⟨_, ⟨false, rfl, q2⟩, rfl⟩ (Nat.le_refl _) (Nat.le_refl _)
      have k84 : ∀ c2, Swc t c c2 → gg X (W9 c2 m o) 0 0 84 [(0, .ref 35), (1, .int x1), (2, .ref (39 + 2 * a)), (3, .ref (39 + 2 * b)), (4, .ref (39 + 2 * t)), (5, .int x5), (6, .int (nI k))] [] := by
        intro c2 q2
        refine k_Sv_applySolved_84 ok ?_
        refine k_Sv_applySolved_89 ok E.nL ?_
        exact k91 c2 _ q2
      have k66 : ∀ c2, Swc t c c2 → gg X (W9 c2 m o) 0 0 66 [(0, .ref 35), (1, .int x1), (2, .ref (39 + 2 * a)), (3, .ref (39 + 2 * b)), (4, .ref (39 + 2 * t)), (5, .int x5), (6, .int (nI k))] [] := by
        intro c2 q2
        refine k_Sv_applySolved_66 ok (fun z => ?_) (fun z => ?_)
        · exact k84 c2 q2
        refine k_Sv_applySolved_71 ok rW_35 (sv_joinAll ha hb ht hbt (q2.zB hz) _) (gF_h E.nR (by decide) (by decide)) (fun _ _ q => qC_len q) ?_
        rintro r M' ⟨c3, ⟨b3, rfl, q3⟩, rfl⟩
        refine k_Sv_applySolved_81 ok (fun z => ?_) (fun z => ?_)
        · refine k_Sv_applySolved_88 ok ?_
          refine k_Sv_applySolved_89 ok E.nL ?_
          exact k91 c3 _ (q2.trans q3)
        · exact k84 c3 (q2.trans q3)
      refine k_Sv_applySolved_24 ok (fun z => ?_) (fun z => ?_)
      · exact k66 c1 q
      refine k_Sv_applySolved_29 ok rW_35 (sv_hasPartner ha hb (q.zB hz) _ _) (gF_h E.nR (by decide) (by decide)) (fun _ _ q => qC_len q) ?_
      rintro r M' ⟨c2, ⟨b2, rfl, q2⟩, rfl⟩
      have t2 : Swc t c c2 := q.trans q2.sw
      refine k_Sv_applySolved_39 ok (fun z => ?_) (fun z => ?_)
      · exact k66 c2 t2
      refine k_Sv_applySolved_42 ok rW_35 rF_Sv_4 (rZ ha) (so_copy ha (t2.zB hz) _) (gF_h E.nR (by decide) (by decide)) (fun _ _ q => qC_len q) ?_
      rintro r M' ⟨c3, ⟨rfl, q3⟩, rfl⟩
      have t3 : Swc t c c3 := t2.trans q3.sw
      refine k_Sv_applySolved_52 ok rW_35 rF_Sv_4 (rZ ht) (so_put ht (t3.zB hz)) (gF_h E.nR (by decide) (by decide)) (fun _ _ q => qC_len q) ?_
      rintro r M' ⟨c4, ⟨b4, rfl, q4⟩, rfl⟩
      refine k_Sv_applySolved_61 ok E.nL ?_
      exact k91 c4 _ (t3.trans q4)
  have k10 : ∀ x, gg X (W9 c m o) 0 0 10 [(0, .ref 35), (1, .int x1), (2, .ref (39 + 2 * a)), (3, .ref (39 + 2 * b)), (4, .ref (39 + 2 * t))] [.int x] := by
    intro x
    refine k_Sv_applySolved_10 ok E.nL ?_
    exact L1 x (c.zn a) 0 c (by omega) Swc.refl
  refine k_Sv_applySolved_0 ok (fun z => ?_) (fun z => ?_)
  · refine k_Sv_applySolved_9 ok ?_
    exact k10 _
  · refine k_Sv_applySolved_5 ok ?_
    exact k10 _
theorem sv_holds {i : Nat} (hi : i < 12) : mm_ l y_Sv_holds w_Sv_holds (rmh 2) [.ref 35, .ref (22 + i)] (W9 c m o) (qC m o (fun r c' => ∃ b, r = some (.int (bI b)) ∧ c' = c)) := by
  refine mm_intro (by decide) (Nat.le_of_ble_eq_true rfl) i_Sv_holds (fun X ok E => ?_)
  have f29 : ∀ b : Bool, gg X (W9 c m o) 0 0 29 [] [.int (bI b)] := by
    intro b
    refine k_Sv_holds_29 ok E (bI_nar _) ⟨_, ⟨b, rfl, rfl⟩, rfl⟩ (Nat.le_refl _) (Nat.le_refl _)
  have f104 : ∀ b : Bool, gg X (W9 c m o) 0 0 104 [] [.int (bI b)] := by
    intro b
    refine k_Sv_holds_104 ok E (bI_nar _) ⟨_, ⟨b, rfl, rfl⟩, rfl⟩ (Nat.le_refl _) (Nat.le_refl _)
  have f117 : ∀ b : Bool, gg X (W9 c m o) 0 0 117 [] [.int (bI b)] := by
    intro b
    refine k_Sv_holds_117 ok E (bI_nar _) ⟨_, ⟨b, rfl, rfl⟩, rfl⟩ (Nat.le_refl _) (Nat.le_refl _)
  have f130 : ∀ b : Bool, gg X (W9 c m o) 0 0 130 [] [.int (bI b)] := by
    intro b
    refine k_Sv_holds_130 ok E (bI_nar _) ⟨_, ⟨b, rfl, rfl⟩, rfl⟩ (Nat.le_refl _) (Nat.le_refl _)
  have f143 : ∀ b : Bool, gg X (W9 c m o) 0 0 143 [] [.int (bI b)] := by
    intro b
    refine k_Sv_holds_143 ok E (bI_nar _) ⟨_, ⟨b, rfl, rfl⟩, rfl⟩ (Nat.le_refl _) (Nat.le_refl _)
  have f53 : gg X (W9 c m o) 0 0 53 [] [] := by
    refine k_Sv_holds_53 ok E ⟨_, ⟨false, rfl, rfl⟩, rfl⟩ (Nat.le_refl _) (Nat.le_refl _)
  refine k_Sv_holds_0 ok (rE hi) rfl rW_35 (sv_termOf _) (gF_h E.nR (by decide) (by decide)) (fun _ _ q => qC_len q) ?_
  rintro r M' ⟨c, ⟨v, rfl, rfl⟩, rfl⟩
  refine k_Sv_holds_8 ok E.nL (rE hi) rfl (fun z => ?_) (fun z => ?_)
  · refine k_Sv_holds_30 ok (rE hi) rfl rW_35 (sv_termOf _) (gF_h E.nR (by decide) (by decide)) (fun _ _ q => qC_len q) ?_
    rintro r M' ⟨c, ⟨v2, rfl, rfl⟩, rfl⟩
    refine k_Sv_holds_38 ok E.nL (fun z => ?_) (fun z => ?_)
    · exact f53
    refine k_Sv_holds_46 ok (fun z => ?_) (fun z => ?_)
    · refine k_Sv_holds_55 ok (rE hi) rfl (fun _ => ?_) (fun _ => ?_) (fun _ => ?_) (fun _ => ?_)
      · refine k_Sv_holds_105 ok (fun z => ?_) (fun z => ?_)
        · refine k_Sv_holds_116 ok ?_
          exact f117 false
        · refine k_Sv_holds_112 ok ?_
          exact f117 true
      · refine k_Sv_holds_118 ok (fun z => ?_) (fun z => ?_)
        · refine k_Sv_holds_129 ok ?_
          exact f130 false
        · refine k_Sv_holds_125 ok ?_
          exact f130 true
      · refine k_Sv_holds_92 ok (fun z => ?_) (fun z => ?_)
        · refine k_Sv_holds_103 ok ?_
          exact f104 false
        · refine k_Sv_holds_99 ok ?_
          exact f104 true
      · refine k_Sv_holds_131 ok (fun z => ?_) (fun z => ?_)
        · refine k_Sv_holds_142 ok ?_
          exact f143 false
        · refine k_Sv_holds_138 ok ?_
          exact f143 true
    · exact f53
  · refine k_Sv_holds_18 ok (fun z => ?_) (fun z => ?_)
    · refine k_Sv_holds_28 ok ?_
      exact f29 false
    · refine k_Sv_holds_24 ok ?_
      exact f29 true
theorem sv_passesTests (h : QE c) (x : Int32) : mm_ l y_Sv_passesTests w_Sv_passesTests (rmh 3) [.ref 35, .int x] (W9 c m o) (qC m o (fun r c' => ∃ b, r = some (.int (bI b)) ∧ c' = c)) := by
  have h1 := h.1
  refine mm_intro (by decide) (Nat.le_of_ble_eq_true rfl) i_Sv_passesTests (fun X ok E => ?_)
  refine k_Sv_passesTests_0 ok E.nL ?_
  have L1 : ∀ r k, k + r = c.qe → gg X (W9 c m o) 0 0 2 [(0, .ref 35), (1, .int x), (2, .int (nI k))] [] := by
    intro r
    induction r with
    | zero =>
      intro k hk
      refine k_Sv_passesTests_2 ok rW_35 rF_Sv_1 rW_17 rF_Qu_9 (fun z => have z := (nLe rfl rfl (by omega) (by omega) z); ?_) (fun z => have z := (nNle rfl rfl (by omega) (by omega) z); ?_)
      · refine k_Sv_passesTests_59 ok E ⟨_, ⟨true, rfl, rfl⟩, rfl⟩ (Nat.le_refl _) (Nat.le_refl _)
      · omega
    | succ r ih =>
      intro k hk
      have hk2 : k < 12 := by omega
      have nx : gg X (W9 c m o) 0 0 53 [(0, .ref 35), (1, .int x), (2, .int (nI k))] [] := by
        refine k_Sv_passesTests_53 ok E.nL ?_
        rw [nI_1]
        exact ih (k + 1) (by omega)
      refine k_Sv_passesTests_2 ok rW_35 rF_Sv_1 rW_17 rF_Qu_9 (fun z => have z := (nLe rfl rfl (by omega) (by omega) z); ?_) (fun z => have z := (nNle rfl rfl (by omega) (by omega) z); ?_)
      · omega
      refine k_Sv_passesTests_13 ok E.nL rW_35 rF_Sv_1 rW_17 rF_Qu_8 rW_20 (vin rfl (by omega) (by decide)) (qx_at2 h hk2) (rE hk2) rfl (fun z => ?_) (fun z => ?_)
      · exact nx
      refine k_Sv_passesTests_31 ok (rE hk2) rfl (fun z => ?_) (fun z => ?_)
      · exact nx
      refine k_Sv_passesTests_39 ok rW_35 (sv_holds hk2) (gF_h E.nR (by decide) (by decide)) (fun _ _ q => qC_len q) ?_
      rintro r M' ⟨c, ⟨b, rfl, rfl⟩, rfl⟩
      refine k_Sv_passesTests_44 ok (rE hk2) rfl (fun z => ?_) (fun z => ?_)
      · exact nx
      · refine k_Sv_passesTests_51 ok E ⟨_, ⟨false, rfl, rfl⟩, rfl⟩ (Nat.le_refl _) (Nat.le_refl _)
  exact L1 c.qe 0 (by omega)
theorem sv_keepPassing {a b : Nat} (h : QE c) (x : Int32) (ha : a < 8) (hb : b < 8) (hab : a ≠ b) (hz : zB c) : mm_ l y_Sv_keepPassing w_Sv_keepPassing (rmh 4) [.ref 35, .int x, .ref (39 + 2 * a), .ref (39 + 2 * b)] (W9 c m o) (qC m o (fun r c' => r = none ∧ Swc b c c')) := by
  have hza := hz a ha
  refine mm_intro (by decide) (Nat.le_of_ble_eq_true rfl) i_Sv_keepPassing (fun X ok E => ?_)
  refine k_Sv_keepPassing_0 ok E.nL ?_
  have L1 : ∀ r k c1, k + r = c.zn a → Swc b c c1 → gg X (W9 c1 m o) 0 0 3 [(0, .ref 35), (1, .int x), (2, .ref (39 + 2 * a)), (3, .ref (39 + 2 * b)), (4, .int (nI k))] [] := by
    intro r
    induction r with
    | zero =>
      intro k c1 hk q
      have e1 := q.zn hab
      refine k_Sv_keepPassing_3 ok (rZ ha) (so_size ha) (gF_h E.nR (by decide) (by decide)) (fun _ _ q => qC_len q) ?_
      rintro r M' ⟨c1, ⟨rfl, rfl⟩, rfl⟩
      refine k_Sv_keepPassing_9 ok (fun z => have z := (nLe rfl rfl (by omega) (by omega) z); ?_) (fun z => have z := (nNle rfl rfl (by omega) (by omega) z); ?_)
      · refine k_Sv_keepPassing_45 ok E ⟨_, ⟨rfl, q⟩, rfl⟩ (Nat.le_refl _) (Nat.le_refl _)
      · omega
    | succ r ih =>
      intro k c1 hk q
      have e1 := q.zn hab
      refine k_Sv_keepPassing_3 ok (rZ ha) (so_size ha) (gF_h E.nR (by decide) (by decide)) (fun _ _ q => qC_len q) ?_
      rintro r M' ⟨c1, ⟨rfl, rfl⟩, rfl⟩
      refine k_Sv_keepPassing_9 ok (fun z => have z := (nLe rfl rfl (by omega) (by omega) z); ?_) (fun z => have z := (nNle rfl rfl (by omega) (by omega) z); ?_)
      · omega
      refine k_Sv_keepPassing_12 ok rW_35 rF_Sv_4 (rZ ha) (so_copy ha (q.zB hz) _) (gF_h E.nR (by decide) (by decide)) (fun _ _ q => qC_len q) ?_
      rintro r M' ⟨c2, ⟨rfl, q2⟩, rfl⟩
      have t2 : Swc b c c2 := q.trans q2.sw
      have nx : ∀ c3, Swc b c c3 → gg X (W9 c3 m o) 0 0 39 [(0, .ref 35), (1, .int x), (2, .ref (39 + 2 * a)), (3, .ref (39 + 2 * b)), (4, .int (nI k))] [] := by
        intro c3 q3
        refine k_Sv_keepPassing_39 ok E.nL ?_
        rw [nI_1]
        exact ih (k + 1) c3 (by omega) q3
      refine k_Sv_keepPassing_22 ok rW_35 (sv_passesTests (t2.qe h) _) (gF_h E.nR (by decide) (by decide)) (fun _ _ q => qC_len q) ?_
      rintro r M' ⟨c2, ⟨b2, rfl, rfl⟩, rfl⟩
      refine k_Sv_keepPassing_27 ok (fun z => ?_) (fun z => ?_)
      · exact nx c2 t2
      refine k_Sv_keepPassing_30 ok rW_35 rF_Sv_4 (rZ hb) (so_put hb (t2.zB hz)) (gF_h E.nR (by decide) (by decide)) (fun _ _ q => qC_len q) ?_
      rintro r M' ⟨c3, ⟨b3, rfl, q3⟩, rfl⟩
      refine k_Sv_keepPassing_38 ok ?_
      exact nx c3 (t2.trans q3)
  exact L1 (c.zn a) 0 c (by omega) Swc.refl
/-- the lists of each depth, either way round -/
def SIc (c : CS) : Prop := zB c ∧ ∀ d, d < 4 → ∃ a b, c.vf d = some (39 + 2 * a) ∧ c.vn d = some (39 + 2 * b) ∧ ((a = 2 * d ∧ b = 2 * d + 1) ∨ (a = 2 * d + 1 ∧ b = 2 * d))
/-- what the solver does from depth d on -/
def Sg (d : Nat) (c c' : CS) : Prop := c'.1 = c.1 ∧ c'.2.1 = c.2.1 ∧ c'.2.2.2 = c.2.2.2 ∧ SIc c' ∧ (∀ e, e < d → c'.vf e = c.vf e ∧ c'.vn e = c.vn e) ∧ (∀ j, j < 2 * d → c'.zn j = c.zn j)
theorem Sg.refl {d : Nat} (h : SIc c) : Sg d c c := ⟨rfl, rfl, rfl, h, fun _ _ => ⟨rfl, rfl⟩, fun _ _ => rfl⟩
theorem Sg.trans {c1 c2 c3 : CS} {d : Nat} (h1 : Sg d c1 c2) (h2 : Sg d c2 c3) : Sg d c1 c3 := ⟨h2.1.trans h1.1, h2.2.1.trans h1.2.1, h2.2.2.1.trans h1.2.2.1, h2.2.2.2.1, fun e he => ⟨(h2.2.2.2.2.1 e he).1.trans (h1.2.2.2.2.1 e he).1, (h2.2.2.2.2.1 e he).2.trans (h1.2.2.2.2.1 e he).2⟩, fun j hj => (h2.2.2.2.2.2 j hj).trans (h1.2.2.2.2.2 j hj)⟩
theorem Sg.weak {c1 c2 : CS} {d d2 : Nat} (h : Sg d2 c1 c2) (hd : d ≤ d2) : Sg d c1 c2 := ⟨h.1, h.2.1, h.2.2.1, h.2.2.2.1, fun e he => h.2.2.2.2.1 e (by omega), fun j hj => h.2.2.2.2.2 j (by omega)⟩
theorem Swc.sg {c1 c2 : CS} {d t : Nat} (h : Swc t c1 c2) (hs : SIc c1) (ht : 2 * d ≤ t) : Sg d c1 c2 := ⟨h.1, h.2.1, h.2.2.1, ⟨h.zB hs.1, fun e he => by rw [h.2.2.2.1, h.2.2.2.2.1]; exact hs.2 e he⟩, fun e _ => ⟨congrFun h.2.2.2.1 e, congrFun h.2.2.2.2.1 e⟩, fun j hj => h.2.2.2.2.2.1 j (by omega)⟩
theorem Dw.sg {c1 c2 : CS} {d : Nat} (h : Dw c1 c2) (hs : SIc c1) : Sg d c1 c2 := (h.sw (t := 2 * d)).sg hs (Nat.le_refl _)
theorem Sg.tn {c1 c2 : CS} {d : Nat} (h : Sg d c1 c2) : c2.tn = c1.tn := congrArg (fun z : CS0 × (CS1 × CS2) => CS.tn (z, c1.2)) h.1
theorem Sg.qe {c1 c2 : CS} {d : Nat} (h : Sg d c1 c2) (q : QE c1) : QE c2 := QE.of h.2.1 q
theorem vk_at {f : Nat → Option Nat} {d v : Nat} (hd : d < 4) (h : f d = some v) : f (nI d).toNatClampNeg = some v := by
  rw [nC rfl (by omega)]
  exact h
theorem sv_turn {d a b : Nat} (hd : d < 4) (hs : SIc c) (hf : c.vf d = some (39 + 2 * a)) (hn : c.vn d = some (39 + 2 * b)) (hab : (a = 2 * d ∧ b = 2 * d + 1) ∨ (a = 2 * d + 1 ∧ b = 2 * d)) : mm_ l y_Sv_turn w_Sv_turn (rmh 1) [.ref 35, .int (nI d)] (W9 c m o) (qC m o (fun r c' => r = none ∧ Sg d c c')) := by
  refine mm_intro (by decide) (Nat.le_of_ble_eq_true rfl) i_Sv_turn (fun X ok E => ?_)
  have e0 : (nI d).toNatClampNeg = d := nC rfl (by omega)
  have key : Sg d c ((c.u_vf (va_up c.vf (nI d).toNatClampNeg (some (39 + 2 * b)))).u_vn (va_up c.vn (nI d).toNatClampNeg (some (39 + 2 * a)))) := by
    rw [e0]
    refine ⟨rfl, rfl, rfl, ⟨hs.1, fun e he => ?_⟩, fun e he => ⟨?_, ?_⟩, fun j _ => rfl⟩
    · show ∃ a2 b2, va_up c.vf d (some (39 + 2 * b)) e = some (39 + 2 * a2) ∧ va_up c.vn d (some (39 + 2 * a)) e = some (39 + 2 * b2) ∧ ((a2 = 2 * e ∧ b2 = 2 * e + 1) ∨ (a2 = 2 * e + 1 ∧ b2 = 2 * e))
      unfold va_up
      by_cases h9 : e = d
      · subst h9
        refine ⟨b, a, by rw [if_pos rfl], by rw [if_pos rfl], by omega⟩
      · rw [if_neg h9, if_neg h9]
        exact hs.2 e he
    · show va_up c.vf d (some (39 + 2 * b)) e = c.vf e
      unfold va_up
      rw [if_neg (by omega)]
    · show va_up c.vn d (some (39 + 2 * a)) e = c.vn e
      unfold va_up
      rw [if_neg (by omega)]
  refine k_Sv_turn_0 ok E.nL rW_35 rF_Sv_2 rW_36 (vin rfl (by omega) (by decide)) (vk_at hd hf) rF_Sv_3 rW_37 (vin rfl (by omega) (by decide)) (vk_at hd hn) (rZ (j := b) (by omega)) (vin rfl (by omega) (by decide)) sA_36 (by decide) (rZ (j := a) (by omega)) (vin rfl (by omega) (by decide)) sA_37 E ⟨_, ⟨rfl, key⟩, rfl⟩ (Nat.le_refl _) (Nat.le_refl _)
theorem sv_solutions {a : Nat} (hf : c.vf 0 = some (39 + 2 * a)) : mm_ l y_Sv_solutions w_Sv_solutions (rmh 1) [.ref 35] (W9 c m o) (qC m o (fun r c' => r = some (.ref (39 + 2 * a)) ∧ c' = c)) := by
  refine mm_intro (by decide) (Nat.le_of_ble_eq_true rfl) i_Sv_solutions (fun X ok E => ?_)
  refine k_Sv_solutions_0 ok rW_35 rF_Sv_2 rW_36 (vin (nL 0) (by omega) (by decide)) (by exact hf) E ⟨_, ⟨rfl, rfl⟩, rfl⟩ (Nat.le_refl _) (Nat.le_refl _)
theorem sv_applyGroups_3 (hs : SIc c) (x y : Int32) : mm_ l y_Sv_applyGroups w_Sv_applyGroups (rmh 1) [.ref 35, .int x, .int y, .int (nI 3)] (W9 c m o) (qC m o (fun r c' => ∃ b, r = some (.int (bI b)) ∧ Sg 3 c c')) := by
  refine mm_intro (by decide) (Nat.le_of_ble_eq_true rfl) i_Sv_applyGroups (fun X ok E => ?_)
  refine k_Sv_applyGroups_0 ok E.nL (fun z => absurd z (by decide)) (fun _ => ?_)
  refine k_Sv_applyGroups_11 ok E ⟨_, ⟨false, rfl, Sg.refl hs⟩, rfl⟩ (Nat.le_refl _) (Nat.le_refl _)
theorem sv_solveGroup_3 (hs : SIc c) (hq : QE c) (h48 : c.tn ≤ 48) (x : Int32) : mm_ l y_Sv_solveGroup w_Sv_solveGroup (rmh 5) [.ref 35, .int x, .int (nI 3)] (W9 c m o) (qC m o (fun r c' => ∃ b, r = some (.int (bI b)) ∧ Sg 3 c c')) := by
  have hq1 := hq.1
  have hd : 3 < 4 := by decide
  refine mm_intro (by decide) (Nat.le_of_ble_eq_true rfl) i_Sv_solveGroup (fun X ok E => ?_)
  have fin : ∀ c1, Sg 3 c c1 → gg X (W9 c1 m o) 0 0 161 [(0, .ref 35), (1, .int x), (2, .int (nI 3))] [] := by
    intro c1 q1
    obtain ⟨a, b, hf, hn, hab⟩ := q1.2.2.2.1.2 3 hd
    refine k_Sv_solveGroup_161 ok rW_35 rF_Sv_3 rW_37 (vin rfl (by omega) (by decide)) (vk_at hd hn) (rZ (j := b) (by omega)) (so_clear (j := b) (by omega)) (gF_h E.nR (by decide) (by decide)) (fun _ _ q => qC_len q) ?_
    rintro r M' ⟨c2, ⟨rfl, q2⟩, rfl⟩
    have t2 : Sg 3 c c2 := q1.trans (q2.sg q1.2.2.2.1 (by omega))
    have hf2 : c2.vf 3 = some (39 + 2 * a) := by rw [q2.2.2.2.1]; exact hf
    have hn2 : c2.vn 3 = some (39 + 2 * b) := by rw [q2.2.2.2.2.1]; exact hn
    refine k_Sv_solveGroup_170 ok rW_35 rF_Sv_2 rW_36 (vin rfl (by omega) (by decide)) (vk_at hd hf2) rF_Sv_3 rW_37 (vin rfl (by omega) (by decide)) (vk_at hd hn2) (sv_keepPassing (t2.qe hq) _ (by omega) (by omega) (by omega) t2.2.2.2.1.1) (gF_h E.nR (by decide) (by decide)) (fun _ _ q => qC_len q) ?_
    rintro r M' ⟨c3, ⟨rfl, q3⟩, rfl⟩
    have t3 : Sg 3 c c3 := t2.trans (q3.sg t2.2.2.2.1 (by omega))
    have hf3 : c3.vf 3 = some (39 + 2 * a) := by rw [q3.2.2.2.1]; exact hf2
    have hn3 : c3.vn 3 = some (39 + 2 * b) := by rw [q3.2.2.2.2.1]; exact hn2
    refine k_Sv_solveGroup_187 ok rW_35 (sv_turn hd t3.2.2.2.1 hf3 hn3 hab) (gF_h E.nR (by decide) (by decide)) (fun _ _ q => qC_len q) ?_
    rintro r M' ⟨c4, ⟨rfl, q4⟩, rfl⟩
    refine k_Sv_solveGroup_192 ok E ⟨_, ⟨true, rfl, t3.trans q4⟩, rfl⟩ (Nat.le_refl _) (Nat.le_refl _)
  have L1 : ∀ r k c1, k + r = c.qe → Sg 3 c c1 → gg X (W9 c1 m o) 0 0 44 [(0, .ref 35), (1, .int x), (2, .int (nI 3)), (3, .int (nI k))] [] := by
    intro r
    induction r with
    | zero =>
      intro k c1 hk q1
      have e1 := ce_of q1.2.1
      refine k_Sv_solveGroup_44 ok rW_35 rF_Sv_1 rW_17 rF_Qu_9 (fun z => have z := (nLe rfl rfl (by omega) (by omega) z); ?_) (fun z => have z := (nNle rfl rfl (by omega) (by omega) z); ?_)
      · exact fin c1 q1
      · omega
    | succ r ih =>
      intro k c1 hk q1
      have e1 := ce_of q1.2.1
      have hk2 : k < 12 := by omega
      have nx : ∀ c2, Sg 3 c c2 → gg X (W9 c2 m o) 0 0 155 [(0, .ref 35), (1, .int x), (2, .int (nI 3)), (3, .int (nI k))] [] := by
        intro c2 q2
        refine k_Sv_solveGroup_155 ok E.nL ?_
        rw [nI_1]
        exact ih (k + 1) c2 (by omega) q2
      have k141 : ∀ c2 (v : Bool), Sg 3 c c2 → gg X (W9 c2 m o) 0 0 141 [(0, .ref 35), (1, .int x), (2, .int (nI 3)), (3, .int (nI k))] [.int (bI v)] := by
        intro c2 v q2
        obtain ⟨a, b, hf, hn, hab⟩ := q2.2.2.2.1.2 3 hd
        refine k_Sv_solveGroup_141 ok E.nL (fun z => ?_) (fun z => ?_)
        · refine k_Sv_solveGroup_150 ok rW_35 (sv_turn hd q2.2.2.2.1 hf hn hab) (gF_h E.nR (by decide) (by decide)) (fun _ _ q => qC_len q) ?_
          rintro r M' ⟨c3, ⟨rfl, q3⟩, rfl⟩
          exact nx c3 (q2.trans q3)
        · refine k_Sv_solveGroup_148 ok E ⟨_, ⟨false, rfl, q2⟩, rfl⟩ (Nat.le_refl _) (Nat.le_refl _)
      refine k_Sv_solveGroup_44 ok rW_35 rF_Sv_1 rW_17 rF_Qu_9 (fun z => have z := (nLe rfl rfl (by omega) (by omega) z); ?_) (fun z => have z := (nNle rfl rfl (by omega) (by omega) z); ?_)
      · omega
      refine k_Sv_solveGroup_55 ok E.nL rW_35 rF_Sv_1 rW_17 rF_Qu_8 rW_20 (vin rfl (by omega) (by decide)) (qx_at2 (q1.qe hq) hk2) (rE hk2) rfl (vin rfl (by omega) (by decide)) (qx_at2 (q1.qe hq) hk2) (rE hk2) rfl (fun z => ?_) (fun z => ?_)
      · exact nx c1 q1
      refine k_Sv_solveGroup_85 ok (fun z => ?_) (fun z => ?_)
      · exact nx c1 q1
      obtain ⟨a, b, hf, hn, hab⟩ := q1.2.2.2.1.2 3 hd
      refine k_Sv_solveGroup_91 ok rW_35 rF_Sv_3 rW_37 (vin rfl (by omega) (by decide)) (vk_at hd hn) (rZ (j := b) (by omega)) (so_clear (j := b) (by omega)) (gF_h E.nR (by decide) (by decide)) (fun _ _ q => qC_len q) ?_
      rintro r M' ⟨c2, ⟨rfl, q2⟩, rfl⟩
      have t2 : Sg 3 c c2 := q1.trans (q2.sg q1.2.2.2.1 (by omega))
      have hf2 : c2.vf 3 = some (39 + 2 * a) := by rw [q2.2.2.2.1]; exact hf
      have hn2 : c2.vn 3 = some (39 + 2 * b) := by rw [q2.2.2.2.2.1]; exact hn
      have e2 := t2.tn
      refine k_Sv_solveGroup_100 ok (fun z => ?_) (fun z => ?_)
      · refine k_Sv_solveGroup_133 ok rW_35 (sv_applyGroups_3 t2.2.2.2.1 _ _) (gF_h E.nR (by decide) (by decide)) (fun _ _ q => qC_len q) ?_
        rintro r M' ⟨c3, ⟨b3, rfl, q3⟩, rfl⟩
        exact k141 c3 b3 (t2.trans q3)
      · refine k_Sv_solveGroup_105 ok rW_35 rF_Sv_1 rW_17 rF_Qu_8 rW_20 (vin rfl (by omega) (by decide)) (qx_at2 (t2.qe hq) hk2) rF_Sv_2 rW_36 (vin rfl (by omega) (by decide)) (vk_at hd hf2) rF_Sv_3 rW_37 (vin rfl (by omega) (by decide)) (vk_at hd hn2) (sv_joinPattern hk2 (by omega) (by omega) (by omega) t2.2.2.2.1.1 (by omega)) (gF_h E.nR (by decide) (by decide)) (fun _ _ q => qC_len q) ?_
        rintro r M' ⟨c3, ⟨b3, rfl, q3⟩, rfl⟩
        refine k_Sv_solveGroup_130 ok ?_
        exact k141 c3 b3 (t2.trans (q3.sg t2.2.2.2.1 (by omega)))
  obtain ⟨a, b, hf, hn, hab⟩ := hs.2 3 hd
  refine k_Sv_solveGroup_0 ok (fun z => absurd z (by decide)) (fun _ => ?_)
  refine k_Sv_solveGroup_4 ok (fun _ => ?_) (fun z => absurd (by decide) z)
  refine k_Sv_solveGroup_11 ok rW_35 rF_Sv_4 (ar_fill _) (gF_h E.nR (by decide) (by decide)) (fun _ _ q => qC_len q) ?_
  rintro r M' ⟨c2, ⟨rfl, q2⟩, rfl⟩
  have t2 : Sg 3 c c2 := q2.sg hs
  have hf2 : c2.vf 3 = some (39 + 2 * a) := by rw [q2.2.2.2.1]; exact hf
  refine k_Sv_solveGroup_19 ok rW_35 rF_Sv_2 rW_36 (vin rfl (by omega) (by decide)) (vk_at hd hf2) (rZ (j := a) (by omega)) (so_clear (j := a) (by omega)) (gF_h E.nR (by decide) (by decide)) (fun _ _ q => qC_len q) ?_
  rintro r M' ⟨c3, ⟨rfl, q3⟩, rfl⟩
  have t3 : Sg 3 c c3 := t2.trans (q3.sg t2.2.2.2.1 (by omega))
  have hf3 : c3.vf 3 = some (39 + 2 * a) := by rw [q3.2.2.2.1]; exact hf2
  refine k_Sv_solveGroup_28 ok rW_35 rF_Sv_2 rW_36 (vin rfl (by omega) (by decide)) (vk_at hd hf3) rF_Sv_4 (rZ (j := a) (by omega)) (so_put (j := a) (by omega) t3.2.2.2.1.1) (gF_h E.nR (by decide) (by decide)) (fun _ _ q => qC_len q) ?_
  rintro r M' ⟨c4, ⟨b4, rfl, q4⟩, rfl⟩
  have t4 : Sg 3 c c4 := t3.trans (q4.sg t3.2.2.2.1 (by omega))
  refine k_Sv_solveGroup_41 ok E.nL ?_
  exact L1 c.qe 0 c4 (by omega) t4
theorem sv_applyGroups_2 (hs : SIc c) (hq : QE c) (h48 : c.tn ≤ 48) (x y : Int32) : mm_ l y_Sv_applyGroups w_Sv_applyGroups (rmh 6) [.ref 35, .int x, .int y, .int (nI 2)] (W9 c m o) (qC m o (fun r c' => ∃ b, r = some (.int (bI b)) ∧ Sg 2 c c')) := by
  have hq2 := hq.2.1
  have hd : 2 < 4 := by decide
  have hD : 3 < 4 := by decide
  have e1 : nI 2 + 1 = nI 3 := rfl
  refine mm_intro (by decide) (Nat.le_of_ble_eq_true rfl) i_Sv_applyGroups (fun X ok E => ?_)
  have no : ∀ c1, Sg 2 c c1 → gg X (W9 c1 m o) 0 0 80 [] [] := by
    intro c1 q1
    refine k_Sv_applyGroups_80 ok E ⟨_, ⟨false, rfl, q1⟩, rfl⟩ (Nat.le_refl _) (Nat.le_refl _)
  have L1 : ∀ r g c1, g + r = c.qg → Sg 2 c c1 → gg X (W9 c1 m o) 0 0 16 [(0, .ref 35), (1, .int x), (2, .int y), (3, .int (nI 2)), (4, .int (nI 3)), (5, .int (nI g))] [] := by
    intro r
    induction r with
    | zero =>
      intro g c1 hg q1
      have e2 := cg_of q1.2.1
      refine k_Sv_applyGroups_16 ok rW_35 rF_Sv_1 rW_17 rF_Qu_11 (fun z => have z := (nLe rfl rfl (by omega) (by omega) z); ?_) (fun z => have z := (nNle rfl rfl (by omega) (by omega) z); ?_)
      · refine k_Sv_applyGroups_88 ok E ⟨_, ⟨true, rfl, q1⟩, rfl⟩ (Nat.le_refl _) (Nat.le_refl _)
      · omega
    | succ r ih =>
      intro g c1 hg q1
      have e2 := cg_of q1.2.1
      have e3 := q1.tn
      have nx : ∀ c2, Sg 2 c c2 → gg X (W9 c2 m o) 0 0 82 [(0, .ref 35), (1, .int x), (2, .int y), (3, .int (nI 2)), (4, .int (nI 3)), (5, .int (nI g))] [] := by
        intro c2 q2
        refine k_Sv_applyGroups_82 ok E.nL ?_
        rw [nI_1]
        exact ih (g + 1) c2 (by omega) q2
      refine k_Sv_applyGroups_16 ok rW_35 rF_Sv_1 rW_17 rF_Qu_11 (fun z => have z := (nLe rfl rfl (by omega) (by omega) z); ?_) (fun z => have z := (nNle rfl rfl (by omega) (by omega) z); ?_)
      · omega
      refine k_Sv_applyGroups_28 ok rW_35 rF_Sv_1 rW_17 rF_Qu_10 rW_21 (vin rfl (by omega) (by decide)) (fun z => ?_) (fun z => ?_)
      · exact nx c1 q1
      refine k_Sv_applyGroups_42 ok rW_35 (sv_solveGroup_3 q1.2.2.2.1 (q1.qe hq) (by omega) _) (gF_h E.nR (by decide) (by decide)) (fun _ _ q => qC_len q) ?_
      rintro r M' ⟨c2, ⟨b2, rfl, q2⟩, rfl⟩
      have t2 : Sg 2 c c2 := q1.trans (q2.weak (by decide))
      refine k_Sv_applyGroups_50 ok (fun z => ?_) (fun z => ?_)
      · exact no c2 t2
      obtain ⟨a, b, hf, hn, hab⟩ := t2.2.2.2.1.2 2 hd
      obtain ⟨a2, b3, hf2, hn2, hab2⟩ := t2.2.2.2.1.2 3 hD
      refine k_Sv_applyGroups_53 ok rW_35 rF_Sv_2 rW_36 (vin rfl (by omega) (by decide)) (vk_at hd hf) (vin rfl (by omega) (by decide)) (vk_at hD hf2) rF_Sv_3 rW_37 (vin rfl (by omega) (by decide)) (vk_at hd hn) (sv_applySolved (a := a) (b := a2) (t := b) _ (by omega) (by omega) (by omega) (by omega) (by omega) t2.2.2.2.1.1) (gF_h E.nR (by decide) (by decide)) (fun _ _ q => qC_len q) ?_
      rintro r M' ⟨c3, ⟨b4, rfl, q3⟩, rfl⟩
      have t3 : Sg 2 c c3 := t2.trans (q3.sg t2.2.2.2.1 (by omega))
      refine k_Sv_applyGroups_77 ok (fun z => ?_) (fun z => ?_)
      · exact nx c3 t3
      · exact no c3 t3
  refine k_Sv_applyGroups_0 ok E.nL (fun _ => ?_) (fun z => absurd (by decide) z)
  rw [e1]
  refine k_Sv_applyGroups_13 ok E.nL ?_
  exact L1 c.qg 0 c (by omega) (Sg.refl hs)
theorem sv_solveGroup_2 (hs : SIc c) (hq : QE c) (h48 : c.tn ≤ 48) (x : Int32) : mm_ l y_Sv_solveGroup w_Sv_solveGroup (rmh 7) [.ref 35, .int x, .int (nI 2)] (W9 c m o) (qC m o (fun r c' => ∃ b, r = some (.int (bI b)) ∧ Sg 2 c c')) := by
  have hq1 := hq.1
  have hd : 2 < 4 := by decide
  refine mm_intro (by decide) (Nat.le_of_ble_eq_true rfl) i_Sv_solveGroup (fun X ok E => ?_)
  have fin : ∀ c1, Sg 2 c c1 → gg X (W9 c1 m o) 0 0 161 [(0, .ref 35), (1, .int x), (2, .int (nI 2))] [] := by
    intro c1 q1
    obtain ⟨a, b, hf, hn, hab⟩ := q1.2.2.2.1.2 2 hd
    refine k_Sv_solveGroup_161 ok rW_35 rF_Sv_3 rW_37 (vin rfl (by omega) (by decide)) (vk_at hd hn) (rZ (j := b) (by omega)) (so_clear (j := b) (by omega)) (gF_h E.nR (by decide) (by decide)) (fun _ _ q => qC_len q) ?_
    rintro r M' ⟨c2, ⟨rfl, q2⟩, rfl⟩
    have t2 : Sg 2 c c2 := q1.trans (q2.sg q1.2.2.2.1 (by omega))
    have hf2 : c2.vf 2 = some (39 + 2 * a) := by rw [q2.2.2.2.1]; exact hf
    have hn2 : c2.vn 2 = some (39 + 2 * b) := by rw [q2.2.2.2.2.1]; exact hn
    refine k_Sv_solveGroup_170 ok rW_35 rF_Sv_2 rW_36 (vin rfl (by omega) (by decide)) (vk_at hd hf2) rF_Sv_3 rW_37 (vin rfl (by omega) (by decide)) (vk_at hd hn2) (sv_keepPassing (t2.qe hq) _ (by omega) (by omega) (by omega) t2.2.2.2.1.1) (gF_h E.nR (by decide) (by decide)) (fun _ _ q => qC_len q) ?_
    rintro r M' ⟨c3, ⟨rfl, q3⟩, rfl⟩
    have t3 : Sg 2 c c3 := t2.trans (q3.sg t2.2.2.2.1 (by omega))
    have hf3 : c3.vf 2 = some (39 + 2 * a) := by rw [q3.2.2.2.1]; exact hf2
    have hn3 : c3.vn 2 = some (39 + 2 * b) := by rw [q3.2.2.2.2.1]; exact hn2
    refine k_Sv_solveGroup_187 ok rW_35 (sv_turn hd t3.2.2.2.1 hf3 hn3 hab) (gF_h E.nR (by decide) (by decide)) (fun _ _ q => qC_len q) ?_
    rintro r M' ⟨c4, ⟨rfl, q4⟩, rfl⟩
    refine k_Sv_solveGroup_192 ok E ⟨_, ⟨true, rfl, t3.trans q4⟩, rfl⟩ (Nat.le_refl _) (Nat.le_refl _)
  have L1 : ∀ r k c1, k + r = c.qe → Sg 2 c c1 → gg X (W9 c1 m o) 0 0 44 [(0, .ref 35), (1, .int x), (2, .int (nI 2)), (3, .int (nI k))] [] := by
    intro r
    induction r with
    | zero =>
      intro k c1 hk q1
      have e1 := ce_of q1.2.1
      refine k_Sv_solveGroup_44 ok rW_35 rF_Sv_1 rW_17 rF_Qu_9 (fun z => have z := (nLe rfl rfl (by omega) (by omega) z); ?_) (fun z => have z := (nNle rfl rfl (by omega) (by omega) z); ?_)
      · exact fin c1 q1
      · omega
    | succ r ih =>
      intro k c1 hk q1
      have e1 := ce_of q1.2.1
      have hk2 : k < 12 := by omega
      have nx : ∀ c2, Sg 2 c c2 → gg X (W9 c2 m o) 0 0 155 [(0, .ref 35), (1, .int x), (2, .int (nI 2)), (3, .int (nI k))] [] := by
        intro c2 q2
        refine k_Sv_solveGroup_155 ok E.nL ?_
        rw [nI_1]
        exact ih (k + 1) c2 (by omega) q2
      have k141 : ∀ c2 (v : Bool), Sg 2 c c2 → gg X (W9 c2 m o) 0 0 141 [(0, .ref 35), (1, .int x), (2, .int (nI 2)), (3, .int (nI k))] [.int (bI v)] := by
        intro c2 v q2
        obtain ⟨a, b, hf, hn, hab⟩ := q2.2.2.2.1.2 2 hd
        refine k_Sv_solveGroup_141 ok E.nL (fun z => ?_) (fun z => ?_)
        · refine k_Sv_solveGroup_150 ok rW_35 (sv_turn hd q2.2.2.2.1 hf hn hab) (gF_h E.nR (by decide) (by decide)) (fun _ _ q => qC_len q) ?_
          rintro r M' ⟨c3, ⟨rfl, q3⟩, rfl⟩
          exact nx c3 (q2.trans q3)
        · refine k_Sv_solveGroup_148 ok E ⟨_, ⟨false, rfl, q2⟩, rfl⟩ (Nat.le_refl _) (Nat.le_refl _)
      refine k_Sv_solveGroup_44 ok rW_35 rF_Sv_1 rW_17 rF_Qu_9 (fun z => have z := (nLe rfl rfl (by omega) (by omega) z); ?_) (fun z => have z := (nNle rfl rfl (by omega) (by omega) z); ?_)
      · omega
      refine k_Sv_solveGroup_55 ok E.nL rW_35 rF_Sv_1 rW_17 rF_Qu_8 rW_20 (vin rfl (by omega) (by decide)) (qx_at2 (q1.qe hq) hk2) (rE hk2) rfl (vin rfl (by omega) (by decide)) (qx_at2 (q1.qe hq) hk2) (rE hk2) rfl (fun z => ?_) (fun z => ?_)
      · exact nx c1 q1
      refine k_Sv_solveGroup_85 ok (fun z => ?_) (fun z => ?_)
      · exact nx c1 q1
      obtain ⟨a, b, hf, hn, hab⟩ := q1.2.2.2.1.2 2 hd
      refine k_Sv_solveGroup_91 ok rW_35 rF_Sv_3 rW_37 (vin rfl (by omega) (by decide)) (vk_at hd hn) (rZ (j := b) (by omega)) (so_clear (j := b) (by omega)) (gF_h E.nR (by decide) (by decide)) (fun _ _ q => qC_len q) ?_
      rintro r M' ⟨c2, ⟨rfl, q2⟩, rfl⟩
      have t2 : Sg 2 c c2 := q1.trans (q2.sg q1.2.2.2.1 (by omega))
      have hf2 : c2.vf 2 = some (39 + 2 * a) := by rw [q2.2.2.2.1]; exact hf
      have hn2 : c2.vn 2 = some (39 + 2 * b) := by rw [q2.2.2.2.2.1]; exact hn
      have e2 := t2.tn
      refine k_Sv_solveGroup_100 ok (fun z => ?_) (fun z => ?_)
      · refine k_Sv_solveGroup_133 ok rW_35 (sv_applyGroups_2 t2.2.2.2.1 (t2.qe hq) (by omega) _ _) (gF_h E.nR (by decide) (by decide)) (fun _ _ q => qC_len q) ?_
        rintro r M' ⟨c3, ⟨b3, rfl, q3⟩, rfl⟩
        exact k141 c3 b3 (t2.trans q3)
      · refine k_Sv_solveGroup_105 ok rW_35 rF_Sv_1 rW_17 rF_Qu_8 rW_20 (vin rfl (by omega) (by decide)) (qx_at2 (t2.qe hq) hk2) rF_Sv_2 rW_36 (vin rfl (by omega) (by decide)) (vk_at hd hf2) rF_Sv_3 rW_37 (vin rfl (by omega) (by decide)) (vk_at hd hn2) (sv_joinPattern hk2 (by omega) (by omega) (by omega) t2.2.2.2.1.1 (by omega)) (gF_h E.nR (by decide) (by decide)) (fun _ _ q => qC_len q) ?_
        rintro r M' ⟨c3, ⟨b3, rfl, q3⟩, rfl⟩
        refine k_Sv_solveGroup_130 ok ?_
        exact k141 c3 b3 (t2.trans (q3.sg t2.2.2.2.1 (by omega)))
  obtain ⟨a, b, hf, hn, hab⟩ := hs.2 2 hd
  refine k_Sv_solveGroup_0 ok (fun z => absurd z (by decide)) (fun _ => ?_)
  refine k_Sv_solveGroup_4 ok (fun _ => ?_) (fun z => absurd (by decide) z)
  refine k_Sv_solveGroup_11 ok rW_35 rF_Sv_4 (ar_fill _) (gF_h E.nR (by decide) (by decide)) (fun _ _ q => qC_len q) ?_
  rintro r M' ⟨c2, ⟨rfl, q2⟩, rfl⟩
  have t2 : Sg 2 c c2 := q2.sg hs
  have hf2 : c2.vf 2 = some (39 + 2 * a) := by rw [q2.2.2.2.1]; exact hf
  refine k_Sv_solveGroup_19 ok rW_35 rF_Sv_2 rW_36 (vin rfl (by omega) (by decide)) (vk_at hd hf2) (rZ (j := a) (by omega)) (so_clear (j := a) (by omega)) (gF_h E.nR (by decide) (by decide)) (fun _ _ q => qC_len q) ?_
  rintro r M' ⟨c3, ⟨rfl, q3⟩, rfl⟩
  have t3 : Sg 2 c c3 := t2.trans (q3.sg t2.2.2.2.1 (by omega))
  have hf3 : c3.vf 2 = some (39 + 2 * a) := by rw [q3.2.2.2.1]; exact hf2
  refine k_Sv_solveGroup_28 ok rW_35 rF_Sv_2 rW_36 (vin rfl (by omega) (by decide)) (vk_at hd hf3) rF_Sv_4 (rZ (j := a) (by omega)) (so_put (j := a) (by omega) t3.2.2.2.1.1) (gF_h E.nR (by decide) (by decide)) (fun _ _ q => qC_len q) ?_
  rintro r M' ⟨c4, ⟨b4, rfl, q4⟩, rfl⟩
  have t4 : Sg 2 c c4 := t3.trans (q4.sg t3.2.2.2.1 (by omega))
  refine k_Sv_solveGroup_41 ok E.nL ?_
  exact L1 c.qe 0 c4 (by omega) t4
theorem sv_applyGroups_1 (hs : SIc c) (hq : QE c) (h48 : c.tn ≤ 48) (x y : Int32) : mm_ l y_Sv_applyGroups w_Sv_applyGroups (rmh 8) [.ref 35, .int x, .int y, .int (nI 1)] (W9 c m o) (qC m o (fun r c' => ∃ b, r = some (.int (bI b)) ∧ Sg 1 c c')) := by
  have hq2 := hq.2.1
  have hd : 1 < 4 := by decide
  have hD : 2 < 4 := by decide
  have e1 : nI 1 + 1 = nI 2 := rfl
  refine mm_intro (by decide) (Nat.le_of_ble_eq_true rfl) i_Sv_applyGroups (fun X ok E => ?_)
  have no : ∀ c1, Sg 1 c c1 → gg X (W9 c1 m o) 0 0 80 [] [] := by
    intro c1 q1
    refine k_Sv_applyGroups_80 ok E ⟨_, ⟨false, rfl, q1⟩, rfl⟩ (Nat.le_refl _) (Nat.le_refl _)
  have L1 : ∀ r g c1, g + r = c.qg → Sg 1 c c1 → gg X (W9 c1 m o) 0 0 16 [(0, .ref 35), (1, .int x), (2, .int y), (3, .int (nI 1)), (4, .int (nI 2)), (5, .int (nI g))] [] := by
    intro r
    induction r with
    | zero =>
      intro g c1 hg q1
      have e2 := cg_of q1.2.1
      refine k_Sv_applyGroups_16 ok rW_35 rF_Sv_1 rW_17 rF_Qu_11 (fun z => have z := (nLe rfl rfl (by omega) (by omega) z); ?_) (fun z => have z := (nNle rfl rfl (by omega) (by omega) z); ?_)
      · refine k_Sv_applyGroups_88 ok E ⟨_, ⟨true, rfl, q1⟩, rfl⟩ (Nat.le_refl _) (Nat.le_refl _)
      · omega
    | succ r ih =>
      intro g c1 hg q1
      have e2 := cg_of q1.2.1
      have e3 := q1.tn
      have nx : ∀ c2, Sg 1 c c2 → gg X (W9 c2 m o) 0 0 82 [(0, .ref 35), (1, .int x), (2, .int y), (3, .int (nI 1)), (4, .int (nI 2)), (5, .int (nI g))] [] := by
        intro c2 q2
        refine k_Sv_applyGroups_82 ok E.nL ?_
        rw [nI_1]
        exact ih (g + 1) c2 (by omega) q2
      refine k_Sv_applyGroups_16 ok rW_35 rF_Sv_1 rW_17 rF_Qu_11 (fun z => have z := (nLe rfl rfl (by omega) (by omega) z); ?_) (fun z => have z := (nNle rfl rfl (by omega) (by omega) z); ?_)
      · omega
      refine k_Sv_applyGroups_28 ok rW_35 rF_Sv_1 rW_17 rF_Qu_10 rW_21 (vin rfl (by omega) (by decide)) (fun z => ?_) (fun z => ?_)
      · exact nx c1 q1
      refine k_Sv_applyGroups_42 ok rW_35 (sv_solveGroup_2 q1.2.2.2.1 (q1.qe hq) (by omega) _) (gF_h E.nR (by decide) (by decide)) (fun _ _ q => qC_len q) ?_
      rintro r M' ⟨c2, ⟨b2, rfl, q2⟩, rfl⟩
      have t2 : Sg 1 c c2 := q1.trans (q2.weak (by decide))
      refine k_Sv_applyGroups_50 ok (fun z => ?_) (fun z => ?_)
      · exact no c2 t2
      obtain ⟨a, b, hf, hn, hab⟩ := t2.2.2.2.1.2 1 hd
      obtain ⟨a2, b3, hf2, hn2, hab2⟩ := t2.2.2.2.1.2 2 hD
      refine k_Sv_applyGroups_53 ok rW_35 rF_Sv_2 rW_36 (vin rfl (by omega) (by decide)) (vk_at hd hf) (vin rfl (by omega) (by decide)) (vk_at hD hf2) rF_Sv_3 rW_37 (vin rfl (by omega) (by decide)) (vk_at hd hn) (sv_applySolved (a := a) (b := a2) (t := b) _ (by omega) (by omega) (by omega) (by omega) (by omega) t2.2.2.2.1.1) (gF_h E.nR (by decide) (by decide)) (fun _ _ q => qC_len q) ?_
      rintro r M' ⟨c3, ⟨b4, rfl, q3⟩, rfl⟩
      have t3 : Sg 1 c c3 := t2.trans (q3.sg t2.2.2.2.1 (by omega))
      refine k_Sv_applyGroups_77 ok (fun z => ?_) (fun z => ?_)
      · exact nx c3 t3
      · exact no c3 t3
  refine k_Sv_applyGroups_0 ok E.nL (fun _ => ?_) (fun z => absurd (by decide) z)
  rw [e1]
  refine k_Sv_applyGroups_13 ok E.nL ?_
  exact L1 c.qg 0 c (by omega) (Sg.refl hs)
theorem sv_solveGroup_1 (hs : SIc c) (hq : QE c) (h48 : c.tn ≤ 48) (x : Int32) : mm_ l y_Sv_solveGroup w_Sv_solveGroup (rmh 9) [.ref 35, .int x, .int (nI 1)] (W9 c m o) (qC m o (fun r c' => ∃ b, r = some (.int (bI b)) ∧ Sg 1 c c')) := by
  have hq1 := hq.1
  have hd : 1 < 4 := by decide
  refine mm_intro (by decide) (Nat.le_of_ble_eq_true rfl) i_Sv_solveGroup (fun X ok E => ?_)
  have fin : ∀ c1, Sg 1 c c1 → gg X (W9 c1 m o) 0 0 161 [(0, .ref 35), (1, .int x), (2, .int (nI 1))] [] := by
    intro c1 q1
    obtain ⟨a, b, hf, hn, hab⟩ := q1.2.2.2.1.2 1 hd
    refine k_Sv_solveGroup_161 ok rW_35 rF_Sv_3 rW_37 (vin rfl (by omega) (by decide)) (vk_at hd hn) (rZ (j := b) (by omega)) (so_clear (j := b) (by omega)) (gF_h E.nR (by decide) (by decide)) (fun _ _ q => qC_len q) ?_
    rintro r M' ⟨c2, ⟨rfl, q2⟩, rfl⟩
    have t2 : Sg 1 c c2 := q1.trans (q2.sg q1.2.2.2.1 (by omega))
    have hf2 : c2.vf 1 = some (39 + 2 * a) := by rw [q2.2.2.2.1]; exact hf
    have hn2 : c2.vn 1 = some (39 + 2 * b) := by rw [q2.2.2.2.2.1]; exact hn
    refine k_Sv_solveGroup_170 ok rW_35 rF_Sv_2 rW_36 (vin rfl (by omega) (by decide)) (vk_at hd hf2) rF_Sv_3 rW_37 (vin rfl (by omega) (by decide)) (vk_at hd hn2) (sv_keepPassing (t2.qe hq) _ (by omega) (by omega) (by omega) t2.2.2.2.1.1) (gF_h E.nR (by decide) (by decide)) (fun _ _ q => qC_len q) ?_
    rintro r M' ⟨c3, ⟨rfl, q3⟩, rfl⟩
    have t3 : Sg 1 c c3 := t2.trans (q3.sg t2.2.2.2.1 (by omega))
    have hf3 : c3.vf 1 = some (39 + 2 * a) := by rw [q3.2.2.2.1]; exact hf2
    have hn3 : c3.vn 1 = some (39 + 2 * b) := by rw [q3.2.2.2.2.1]; exact hn2
    refine k_Sv_solveGroup_187 ok rW_35 (sv_turn hd t3.2.2.2.1 hf3 hn3 hab) (gF_h E.nR (by decide) (by decide)) (fun _ _ q => qC_len q) ?_
    rintro r M' ⟨c4, ⟨rfl, q4⟩, rfl⟩
    refine k_Sv_solveGroup_192 ok E ⟨_, ⟨true, rfl, t3.trans q4⟩, rfl⟩ (Nat.le_refl _) (Nat.le_refl _)
  have L1 : ∀ r k c1, k + r = c.qe → Sg 1 c c1 → gg X (W9 c1 m o) 0 0 44 [(0, .ref 35), (1, .int x), (2, .int (nI 1)), (3, .int (nI k))] [] := by
    intro r
    induction r with
    | zero =>
      intro k c1 hk q1
      have e1 := ce_of q1.2.1
      refine k_Sv_solveGroup_44 ok rW_35 rF_Sv_1 rW_17 rF_Qu_9 (fun z => have z := (nLe rfl rfl (by omega) (by omega) z); ?_) (fun z => have z := (nNle rfl rfl (by omega) (by omega) z); ?_)
      · exact fin c1 q1
      · omega
    | succ r ih =>
      intro k c1 hk q1
      have e1 := ce_of q1.2.1
      have hk2 : k < 12 := by omega
      have nx : ∀ c2, Sg 1 c c2 → gg X (W9 c2 m o) 0 0 155 [(0, .ref 35), (1, .int x), (2, .int (nI 1)), (3, .int (nI k))] [] := by
        intro c2 q2
        refine k_Sv_solveGroup_155 ok E.nL ?_
        rw [nI_1]
        exact ih (k + 1) c2 (by omega) q2
      have k141 : ∀ c2 (v : Bool), Sg 1 c c2 → gg X (W9 c2 m o) 0 0 141 [(0, .ref 35), (1, .int x), (2, .int (nI 1)), (3, .int (nI k))] [.int (bI v)] := by
        intro c2 v q2
        obtain ⟨a, b, hf, hn, hab⟩ := q2.2.2.2.1.2 1 hd
        refine k_Sv_solveGroup_141 ok E.nL (fun z => ?_) (fun z => ?_)
        · refine k_Sv_solveGroup_150 ok rW_35 (sv_turn hd q2.2.2.2.1 hf hn hab) (gF_h E.nR (by decide) (by decide)) (fun _ _ q => qC_len q) ?_
          rintro r M' ⟨c3, ⟨rfl, q3⟩, rfl⟩
          exact nx c3 (q2.trans q3)
        · refine k_Sv_solveGroup_148 ok E ⟨_, ⟨false, rfl, q2⟩, rfl⟩ (Nat.le_refl _) (Nat.le_refl _)
      refine k_Sv_solveGroup_44 ok rW_35 rF_Sv_1 rW_17 rF_Qu_9 (fun z => have z := (nLe rfl rfl (by omega) (by omega) z); ?_) (fun z => have z := (nNle rfl rfl (by omega) (by omega) z); ?_)
      · omega
      refine k_Sv_solveGroup_55 ok E.nL rW_35 rF_Sv_1 rW_17 rF_Qu_8 rW_20 (vin rfl (by omega) (by decide)) (qx_at2 (q1.qe hq) hk2) (rE hk2) rfl (vin rfl (by omega) (by decide)) (qx_at2 (q1.qe hq) hk2) (rE hk2) rfl (fun z => ?_) (fun z => ?_)
      · exact nx c1 q1
      refine k_Sv_solveGroup_85 ok (fun z => ?_) (fun z => ?_)
      · exact nx c1 q1
      obtain ⟨a, b, hf, hn, hab⟩ := q1.2.2.2.1.2 1 hd
      refine k_Sv_solveGroup_91 ok rW_35 rF_Sv_3 rW_37 (vin rfl (by omega) (by decide)) (vk_at hd hn) (rZ (j := b) (by omega)) (so_clear (j := b) (by omega)) (gF_h E.nR (by decide) (by decide)) (fun _ _ q => qC_len q) ?_
      rintro r M' ⟨c2, ⟨rfl, q2⟩, rfl⟩
      have t2 : Sg 1 c c2 := q1.trans (q2.sg q1.2.2.2.1 (by omega))
      have hf2 : c2.vf 1 = some (39 + 2 * a) := by rw [q2.2.2.2.1]; exact hf
      have hn2 : c2.vn 1 = some (39 + 2 * b) := by rw [q2.2.2.2.2.1]; exact hn
      have e2 := t2.tn
      refine k_Sv_solveGroup_100 ok (fun z => ?_) (fun z => ?_)
      · refine k_Sv_solveGroup_133 ok rW_35 (sv_applyGroups_1 t2.2.2.2.1 (t2.qe hq) (by omega) _ _) (gF_h E.nR (by decide) (by decide)) (fun _ _ q => qC_len q) ?_
        rintro r M' ⟨c3, ⟨b3, rfl, q3⟩, rfl⟩
        exact k141 c3 b3 (t2.trans q3)
      · refine k_Sv_solveGroup_105 ok rW_35 rF_Sv_1 rW_17 rF_Qu_8 rW_20 (vin rfl (by omega) (by decide)) (qx_at2 (t2.qe hq) hk2) rF_Sv_2 rW_36 (vin rfl (by omega) (by decide)) (vk_at hd hf2) rF_Sv_3 rW_37 (vin rfl (by omega) (by decide)) (vk_at hd hn2) (sv_joinPattern hk2 (by omega) (by omega) (by omega) t2.2.2.2.1.1 (by omega)) (gF_h E.nR (by decide) (by decide)) (fun _ _ q => qC_len q) ?_
        rintro r M' ⟨c3, ⟨b3, rfl, q3⟩, rfl⟩
        refine k_Sv_solveGroup_130 ok ?_
        exact k141 c3 b3 (t2.trans (q3.sg t2.2.2.2.1 (by omega)))
  obtain ⟨a, b, hf, hn, hab⟩ := hs.2 1 hd
  refine k_Sv_solveGroup_0 ok (fun z => absurd z (by decide)) (fun _ => ?_)
  refine k_Sv_solveGroup_4 ok (fun _ => ?_) (fun z => absurd (by decide) z)
  refine k_Sv_solveGroup_11 ok rW_35 rF_Sv_4 (ar_fill _) (gF_h E.nR (by decide) (by decide)) (fun _ _ q => qC_len q) ?_
  rintro r M' ⟨c2, ⟨rfl, q2⟩, rfl⟩
  have t2 : Sg 1 c c2 := q2.sg hs
  have hf2 : c2.vf 1 = some (39 + 2 * a) := by rw [q2.2.2.2.1]; exact hf
  refine k_Sv_solveGroup_19 ok rW_35 rF_Sv_2 rW_36 (vin rfl (by omega) (by decide)) (vk_at hd hf2) (rZ (j := a) (by omega)) (so_clear (j := a) (by omega)) (gF_h E.nR (by decide) (by decide)) (fun _ _ q => qC_len q) ?_
  rintro r M' ⟨c3, ⟨rfl, q3⟩, rfl⟩
  have t3 : Sg 1 c c3 := t2.trans (q3.sg t2.2.2.2.1 (by omega))
  have hf3 : c3.vf 1 = some (39 + 2 * a) := by rw [q3.2.2.2.1]; exact hf2
  refine k_Sv_solveGroup_28 ok rW_35 rF_Sv_2 rW_36 (vin rfl (by omega) (by decide)) (vk_at hd hf3) rF_Sv_4 (rZ (j := a) (by omega)) (so_put (j := a) (by omega) t3.2.2.2.1.1) (gF_h E.nR (by decide) (by decide)) (fun _ _ q => qC_len q) ?_
  rintro r M' ⟨c4, ⟨b4, rfl, q4⟩, rfl⟩
  have t4 : Sg 1 c c4 := t3.trans (q4.sg t3.2.2.2.1 (by omega))
  refine k_Sv_solveGroup_41 ok E.nL ?_
  exact L1 c.qe 0 c4 (by omega) t4
theorem sv_applyGroups_0 (hs : SIc c) (hq : QE c) (h48 : c.tn ≤ 48) (x y : Int32) : mm_ l y_Sv_applyGroups w_Sv_applyGroups (rmh 10) [.ref 35, .int x, .int y, .int (nI 0)] (W9 c m o) (qC m o (fun r c' => ∃ b, r = some (.int (bI b)) ∧ Sg 0 c c')) := by
  have hq2 := hq.2.1
  have hd : 0 < 4 := by decide
  have hD : 1 < 4 := by decide
  have e1 : nI 0 + 1 = nI 1 := rfl
  refine mm_intro (by decide) (Nat.le_of_ble_eq_true rfl) i_Sv_applyGroups (fun X ok E => ?_)
  have no : ∀ c1, Sg 0 c c1 → gg X (W9 c1 m o) 0 0 80 [] [] := by
    intro c1 q1
    refine k_Sv_applyGroups_80 ok E ⟨_, ⟨false, rfl, q1⟩, rfl⟩ (Nat.le_refl _) (Nat.le_refl _)
  have L1 : ∀ r g c1, g + r = c.qg → Sg 0 c c1 → gg X (W9 c1 m o) 0 0 16 [(0, .ref 35), (1, .int x), (2, .int y), (3, .int (nI 0)), (4, .int (nI 1)), (5, .int (nI g))] [] := by
    intro r
    induction r with
    | zero =>
      intro g c1 hg q1
      have e2 := cg_of q1.2.1
      refine k_Sv_applyGroups_16 ok rW_35 rF_Sv_1 rW_17 rF_Qu_11 (fun z => have z := (nLe rfl rfl (by omega) (by omega) z); ?_) (fun z => have z := (nNle rfl rfl (by omega) (by omega) z); ?_)
      · refine k_Sv_applyGroups_88 ok E ⟨_, ⟨true, rfl, q1⟩, rfl⟩ (Nat.le_refl _) (Nat.le_refl _)
      · omega
    | succ r ih =>
      intro g c1 hg q1
      have e2 := cg_of q1.2.1
      have e3 := q1.tn
      have nx : ∀ c2, Sg 0 c c2 → gg X (W9 c2 m o) 0 0 82 [(0, .ref 35), (1, .int x), (2, .int y), (3, .int (nI 0)), (4, .int (nI 1)), (5, .int (nI g))] [] := by
        intro c2 q2
        refine k_Sv_applyGroups_82 ok E.nL ?_
        rw [nI_1]
        exact ih (g + 1) c2 (by omega) q2
      refine k_Sv_applyGroups_16 ok rW_35 rF_Sv_1 rW_17 rF_Qu_11 (fun z => have z := (nLe rfl rfl (by omega) (by omega) z); ?_) (fun z => have z := (nNle rfl rfl (by omega) (by omega) z); ?_)
      · omega
      refine k_Sv_applyGroups_28 ok rW_35 rF_Sv_1 rW_17 rF_Qu_10 rW_21 (vin rfl (by omega) (by decide)) (fun z => ?_) (fun z => ?_)
      · exact nx c1 q1
      refine k_Sv_applyGroups_42 ok rW_35 (sv_solveGroup_1 q1.2.2.2.1 (q1.qe hq) (by omega) _) (gF_h E.nR (by decide) (by decide)) (fun _ _ q => qC_len q) ?_
      rintro r M' ⟨c2, ⟨b2, rfl, q2⟩, rfl⟩
      have t2 : Sg 0 c c2 := q1.trans (q2.weak (by decide))
      refine k_Sv_applyGroups_50 ok (fun z => ?_) (fun z => ?_)
      · exact no c2 t2
      obtain ⟨a, b, hf, hn, hab⟩ := t2.2.2.2.1.2 0 hd
      obtain ⟨a2, b3, hf2, hn2, hab2⟩ := t2.2.2.2.1.2 1 hD
      refine k_Sv_applyGroups_53 ok rW_35 rF_Sv_2 rW_36 (vin rfl (by omega) (by decide)) (vk_at hd hf) (vin rfl (by omega) (by decide)) (vk_at hD hf2) rF_Sv_3 rW_37 (vin rfl (by omega) (by decide)) (vk_at hd hn) (sv_applySolved (a := a) (b := a2) (t := b) _ (by omega) (by omega) (by omega) (by omega) (by omega) t2.2.2.2.1.1) (gF_h E.nR (by decide) (by decide)) (fun _ _ q => qC_len q) ?_
      rintro r M' ⟨c3, ⟨b4, rfl, q3⟩, rfl⟩
      have t3 : Sg 0 c c3 := t2.trans (q3.sg t2.2.2.2.1 (by omega))
      refine k_Sv_applyGroups_77 ok (fun z => ?_) (fun z => ?_)
      · exact nx c3 t3
      · exact no c3 t3
  refine k_Sv_applyGroups_0 ok E.nL (fun _ => ?_) (fun z => absurd (by decide) z)
  rw [e1]
  refine k_Sv_applyGroups_13 ok E.nL ?_
  exact L1 c.qg 0 c (by omega) (Sg.refl hs)
theorem sv_solveGroup_0 (hs : SIc c) (hq : QE c) (h48 : c.tn ≤ 48) (x : Int32) : mm_ l y_Sv_solveGroup w_Sv_solveGroup (rmh 11) [.ref 35, .int x, .int (nI 0)] (W9 c m o) (qC m o (fun r c' => ∃ b, r = some (.int (bI b)) ∧ Sg 0 c c')) := by
  have hq1 := hq.1
  have hd : 0 < 4 := by decide
  refine mm_intro (by decide) (Nat.le_of_ble_eq_true rfl) i_Sv_solveGroup (fun X ok E => ?_)
  have fin : ∀ c1, Sg 0 c c1 → gg X (W9 c1 m o) 0 0 161 [(0, .ref 35), (1, .int x), (2, .int (nI 0))] [] := by
    intro c1 q1
    obtain ⟨a, b, hf, hn, hab⟩ := q1.2.2.2.1.2 0 hd
    refine k_Sv_solveGroup_161 ok rW_35 rF_Sv_3 rW_37 (vin rfl (by omega) (by decide)) (vk_at hd hn) (rZ (j := b) (by omega)) (so_clear (j := b) (by omega)) (gF_h E.nR (by decide) (by decide)) (fun _ _ q => qC_len q) ?_
    rintro r M' ⟨c2, ⟨rfl, q2⟩, rfl⟩
    have t2 : Sg 0 c c2 := q1.trans (q2.sg q1.2.2.2.1 (by omega))
    have hf2 : c2.vf 0 = some (39 + 2 * a) := by rw [q2.2.2.2.1]; exact hf
    have hn2 : c2.vn 0 = some (39 + 2 * b) := by rw [q2.2.2.2.2.1]; exact hn
    refine k_Sv_solveGroup_170 ok rW_35 rF_Sv_2 rW_36 (vin rfl (by omega) (by decide)) (vk_at hd hf2) rF_Sv_3 rW_37 (vin rfl (by omega) (by decide)) (vk_at hd hn2) (sv_keepPassing (t2.qe hq) _ (by omega) (by omega) (by omega) t2.2.2.2.1.1) (gF_h E.nR (by decide) (by decide)) (fun _ _ q => qC_len q) ?_
    rintro r M' ⟨c3, ⟨rfl, q3⟩, rfl⟩
    have t3 : Sg 0 c c3 := t2.trans (q3.sg t2.2.2.2.1 (by omega))
    have hf3 : c3.vf 0 = some (39 + 2 * a) := by rw [q3.2.2.2.1]; exact hf2
    have hn3 : c3.vn 0 = some (39 + 2 * b) := by rw [q3.2.2.2.2.1]; exact hn2
    refine k_Sv_solveGroup_187 ok rW_35 (sv_turn hd t3.2.2.2.1 hf3 hn3 hab) (gF_h E.nR (by decide) (by decide)) (fun _ _ q => qC_len q) ?_
    rintro r M' ⟨c4, ⟨rfl, q4⟩, rfl⟩
    refine k_Sv_solveGroup_192 ok E ⟨_, ⟨true, rfl, t3.trans q4⟩, rfl⟩ (Nat.le_refl _) (Nat.le_refl _)
  have L1 : ∀ r k c1, k + r = c.qe → Sg 0 c c1 → gg X (W9 c1 m o) 0 0 44 [(0, .ref 35), (1, .int x), (2, .int (nI 0)), (3, .int (nI k))] [] := by
    intro r
    induction r with
    | zero =>
      intro k c1 hk q1
      have e1 := ce_of q1.2.1
      refine k_Sv_solveGroup_44 ok rW_35 rF_Sv_1 rW_17 rF_Qu_9 (fun z => have z := (nLe rfl rfl (by omega) (by omega) z); ?_) (fun z => have z := (nNle rfl rfl (by omega) (by omega) z); ?_)
      · exact fin c1 q1
      · omega
    | succ r ih =>
      intro k c1 hk q1
      have e1 := ce_of q1.2.1
      have hk2 : k < 12 := by omega
      have nx : ∀ c2, Sg 0 c c2 → gg X (W9 c2 m o) 0 0 155 [(0, .ref 35), (1, .int x), (2, .int (nI 0)), (3, .int (nI k))] [] := by
        intro c2 q2
        refine k_Sv_solveGroup_155 ok E.nL ?_
        rw [nI_1]
        exact ih (k + 1) c2 (by omega) q2
      have k141 : ∀ c2 (v : Bool), Sg 0 c c2 → gg X (W9 c2 m o) 0 0 141 [(0, .ref 35), (1, .int x), (2, .int (nI 0)), (3, .int (nI k))] [.int (bI v)] := by
        intro c2 v q2
        obtain ⟨a, b, hf, hn, hab⟩ := q2.2.2.2.1.2 0 hd
        refine k_Sv_solveGroup_141 ok E.nL (fun z => ?_) (fun z => ?_)
        · refine k_Sv_solveGroup_150 ok rW_35 (sv_turn hd q2.2.2.2.1 hf hn hab) (gF_h E.nR (by decide) (by decide)) (fun _ _ q => qC_len q) ?_
          rintro r M' ⟨c3, ⟨rfl, q3⟩, rfl⟩
          exact nx c3 (q2.trans q3)
        · refine k_Sv_solveGroup_148 ok E ⟨_, ⟨false, rfl, q2⟩, rfl⟩ (Nat.le_refl _) (Nat.le_refl _)
      refine k_Sv_solveGroup_44 ok rW_35 rF_Sv_1 rW_17 rF_Qu_9 (fun z => have z := (nLe rfl rfl (by omega) (by omega) z); ?_) (fun z => have z := (nNle rfl rfl (by omega) (by omega) z); ?_)
      · omega
      refine k_Sv_solveGroup_55 ok E.nL rW_35 rF_Sv_1 rW_17 rF_Qu_8 rW_20 (vin rfl (by omega) (by decide)) (qx_at2 (q1.qe hq) hk2) (rE hk2) rfl (vin rfl (by omega) (by decide)) (qx_at2 (q1.qe hq) hk2) (rE hk2) rfl (fun z => ?_) (fun z => ?_)
      · exact nx c1 q1
      refine k_Sv_solveGroup_85 ok (fun z => ?_) (fun z => ?_)
      · exact nx c1 q1
      obtain ⟨a, b, hf, hn, hab⟩ := q1.2.2.2.1.2 0 hd
      refine k_Sv_solveGroup_91 ok rW_35 rF_Sv_3 rW_37 (vin rfl (by omega) (by decide)) (vk_at hd hn) (rZ (j := b) (by omega)) (so_clear (j := b) (by omega)) (gF_h E.nR (by decide) (by decide)) (fun _ _ q => qC_len q) ?_
      rintro r M' ⟨c2, ⟨rfl, q2⟩, rfl⟩
      have t2 : Sg 0 c c2 := q1.trans (q2.sg q1.2.2.2.1 (by omega))
      have hf2 : c2.vf 0 = some (39 + 2 * a) := by rw [q2.2.2.2.1]; exact hf
      have hn2 : c2.vn 0 = some (39 + 2 * b) := by rw [q2.2.2.2.2.1]; exact hn
      have e2 := t2.tn
      refine k_Sv_solveGroup_100 ok (fun z => ?_) (fun z => ?_)
      · refine k_Sv_solveGroup_133 ok rW_35 (sv_applyGroups_0 t2.2.2.2.1 (t2.qe hq) (by omega) _ _) (gF_h E.nR (by decide) (by decide)) (fun _ _ q => qC_len q) ?_
        rintro r M' ⟨c3, ⟨b3, rfl, q3⟩, rfl⟩
        exact k141 c3 b3 (t2.trans q3)
      · refine k_Sv_solveGroup_105 ok rW_35 rF_Sv_1 rW_17 rF_Qu_8 rW_20 (vin rfl (by omega) (by decide)) (qx_at2 (t2.qe hq) hk2) rF_Sv_2 rW_36 (vin rfl (by omega) (by decide)) (vk_at hd hf2) rF_Sv_3 rW_37 (vin rfl (by omega) (by decide)) (vk_at hd hn2) (sv_joinPattern hk2 (by omega) (by omega) (by omega) t2.2.2.2.1.1 (by omega)) (gF_h E.nR (by decide) (by decide)) (fun _ _ q => qC_len q) ?_
        rintro r M' ⟨c3, ⟨b3, rfl, q3⟩, rfl⟩
        refine k_Sv_solveGroup_130 ok ?_
        exact k141 c3 b3 (t2.trans (q3.sg t2.2.2.2.1 (by omega)))
  obtain ⟨a, b, hf, hn, hab⟩ := hs.2 0 hd
  refine k_Sv_solveGroup_0 ok (fun z => absurd z (by decide)) (fun _ => ?_)
  refine k_Sv_solveGroup_4 ok (fun _ => ?_) (fun z => absurd (by decide) z)
  refine k_Sv_solveGroup_11 ok rW_35 rF_Sv_4 (ar_fill _) (gF_h E.nR (by decide) (by decide)) (fun _ _ q => qC_len q) ?_
  rintro r M' ⟨c2, ⟨rfl, q2⟩, rfl⟩
  have t2 : Sg 0 c c2 := q2.sg hs
  have hf2 : c2.vf 0 = some (39 + 2 * a) := by rw [q2.2.2.2.1]; exact hf
  refine k_Sv_solveGroup_19 ok rW_35 rF_Sv_2 rW_36 (vin rfl (by omega) (by decide)) (vk_at hd hf2) (rZ (j := a) (by omega)) (so_clear (j := a) (by omega)) (gF_h E.nR (by decide) (by decide)) (fun _ _ q => qC_len q) ?_
  rintro r M' ⟨c3, ⟨rfl, q3⟩, rfl⟩
  have t3 : Sg 0 c c3 := t2.trans (q3.sg t2.2.2.2.1 (by omega))
  have hf3 : c3.vf 0 = some (39 + 2 * a) := by rw [q3.2.2.2.1]; exact hf2
  refine k_Sv_solveGroup_28 ok rW_35 rF_Sv_2 rW_36 (vin rfl (by omega) (by decide)) (vk_at hd hf3) rF_Sv_4 (rZ (j := a) (by omega)) (so_put (j := a) (by omega) t3.2.2.2.1.1) (gF_h E.nR (by decide) (by decide)) (fun _ _ q => qC_len q) ?_
  rintro r M' ⟨c4, ⟨b4, rfl, q4⟩, rfl⟩
  have t4 : Sg 0 c c4 := t3.trans (q4.sg t3.2.2.2.1 (by omega))
  refine k_Sv_solveGroup_41 ok E.nL ?_
  exact L1 c.qe 0 c4 (by omega) t4
end CSv