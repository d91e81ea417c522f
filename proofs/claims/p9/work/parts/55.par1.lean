/-! THE CLASS: its query and its parser, on every text -/
section CPa
variable {l : Launch} {c : CS} {m : MS} {o : Nat → Int64}
/-- one place of a function -/
def eU {α : Type} (f : Nat → α) (k : Nat) (v : α) : Nat → α := fun j => bif j == k then v else f j
theorem eU_eq {α : Type} (f : Nat → α) (k : Nat) (v : α) : eU f k v k = v := by
  unfold eU
  rw [beq_self_eq_true]
  rfl
theorem eU_ne {α : Type} (f : Nat → α) {k j : Nat} (v : α) (h : j ≠ k) : eU f k v j = f j := by
  unfold eU
  rw [beq_false_of_ne h]
  rfl
theorem p1m1 (a : Int32) : a + 1 - 1 = a := Int32.add_sub_cancel a 1
theorem rE {i : Nat} (h : i < 12) : (W9 c m o)[22 + i]? = some (.inr (0, elF c i)) := by
  have w9 : i = 0 ∨ i = 1 ∨ i = 2 ∨ i = 3 ∨ i = 4 ∨ i = 5 ∨ i = 6 ∨ i = 7 ∨ i = 8 ∨ i = 9 ∨ i = 10 ∨ i = 11 := by omega
  rcases w9 with rfl | rfl | rfl | rfl | rfl | rfl | rfl | rfl | rfl | rfl | rfl | rfl
  all_goals rfl
theorem eF0 (i : Nat) (v : Int32) : (elF c i).set 0 (.int v) = elF (c.u_eK (eU c.eK i v)) i := by
  have e : elF (c.u_eK (eU c.eK i v)) i = [.int (eU c.eK i v i), .int (c.eH i), .long (c.e1 i), .long (c.e2 i), .long (c.e3 i), .int (c.eS i), .int (c.eN i)] := rfl
  rw [e, eU_eq]
  rfl
theorem eS0 {i : Nat} (h : i < 12) {v : Int32} : (W9 c m o).set (22 + i) (.inr (0, elF (c.u_eK (eU c.eK i v)) i)) = W9 (c.u_eK (eU c.eK i v)) m o := by
  have w9 : i = 0 ∨ i = 1 ∨ i = 2 ∨ i = 3 ∨ i = 4 ∨ i = 5 ∨ i = 6 ∨ i = 7 ∨ i = 8 ∨ i = 9 ∨ i = 10 ∨ i = 11 := by omega
  rcases w9 with rfl | rfl | rfl | rfl | rfl | rfl | rfl | rfl | rfl | rfl | rfl | rfl
  all_goals rfl
theorem eF1 (i : Nat) (v : Int32) : (elF c i).set 1 (.int v) = elF (c.u_eH (eU c.eH i v)) i := by
  have e : elF (c.u_eH (eU c.eH i v)) i = [.int (c.eK i), .int (eU c.eH i v i), .long (c.e1 i), .long (c.e2 i), .long (c.e3 i), .int (c.eS i), .int (c.eN i)] := rfl
  rw [e, eU_eq]
  rfl
theorem eS1 {i : Nat} (h : i < 12) {v : Int32} : (W9 c m o).set (22 + i) (.inr (0, elF (c.u_eH (eU c.eH i v)) i)) = W9 (c.u_eH (eU c.eH i v)) m o := by
  have w9 : i = 0 ∨ i = 1 ∨ i = 2 ∨ i = 3 ∨ i = 4 ∨ i = 5 ∨ i = 6 ∨ i = 7 ∨ i = 8 ∨ i = 9 ∨ i = 10 ∨ i = 11 := by omega
  rcases w9 with rfl | rfl | rfl | rfl | rfl | rfl | rfl | rfl | rfl | rfl | rfl | rfl
  all_goals rfl
theorem eF2 (i : Nat) (v : Int64) : (elF c i).set 2 (.long v) = elF (c.u_e1 (eU c.e1 i v)) i := by
  have e : elF (c.u_e1 (eU c.e1 i v)) i = [.int (c.eK i), .int (c.eH i), .long (eU c.e1 i v i), .long (c.e2 i), .long (c.e3 i), .int (c.eS i), .int (c.eN i)] := rfl
  rw [e, eU_eq]
  rfl
theorem eS2 {i : Nat} (h : i < 12) {v : Int64} : (W9 c m o).set (22 + i) (.inr (0, elF (c.u_e1 (eU c.e1 i v)) i)) = W9 (c.u_e1 (eU c.e1 i v)) m o := by
  have w9 : i = 0 ∨ i = 1 ∨ i = 2 ∨ i = 3 ∨ i = 4 ∨ i = 5 ∨ i = 6 ∨ i = 7 ∨ i = 8 ∨ i = 9 ∨ i = 10 ∨ i = 11 := by omega
  rcases w9 with rfl | rfl | rfl | rfl | rfl | rfl | rfl | rfl | rfl | rfl | rfl | rfl
  all_goals rfl
theorem eF3 (i : Nat) (v : Int64) : (elF c i).set 3 (.long v) = elF (c.u_e2 (eU c.e2 i v)) i := by
  have e : elF (c.u_e2 (eU c.e2 i v)) i = [.int (c.eK i), .int (c.eH i), .long (c.e1 i), .long (eU c.e2 i v i), .long (c.e3 i), .int (c.eS i), .int (c.eN i)] := rfl
  rw [e, eU_eq]
  rfl
theorem eS3 {i : Nat} (h : i < 12) {v : Int64} : (W9 c m o).set (22 + i) (.inr (0, elF (c.u_e2 (eU c.e2 i v)) i)) = W9 (c.u_e2 (eU c.e2 i v)) m o := by
  have w9 : i = 0 ∨ i = 1 ∨ i = 2 ∨ i = 3 ∨ i = 4 ∨ i = 5 ∨ i = 6 ∨ i = 7 ∨ i = 8 ∨ i = 9 ∨ i = 10 ∨ i = 11 := by omega
  rcases w9 with rfl | rfl | rfl | rfl | rfl | rfl | rfl | rfl | rfl | rfl | rfl | rfl
  all_goals rfl
theorem eF4 (i : Nat) (v : Int64) : (elF c i).set 4 (.long v) = elF (c.u_e3 (eU c.e3 i v)) i := by
  have e : elF (c.u_e3 (eU c.e3 i v)) i = [.int (c.eK i), .int (c.eH i), .long (c.e1 i), .long (c.e2 i), .long (eU c.e3 i v i), .int (c.eS i), .int (c.eN i)] := rfl
  rw [e, eU_eq]
  rfl
theorem eS4 {i : Nat} (h : i < 12) {v : Int64} : (W9 c m o).set (22 + i) (.inr (0, elF (c.u_e3 (eU c.e3 i v)) i)) = W9 (c.u_e3 (eU c.e3 i v)) m o := by
  have w9 : i = 0 ∨ i = 1 ∨ i = 2 ∨ i = 3 ∨ i = 4 ∨ i = 5 ∨ i = 6 ∨ i = 7 ∨ i = 8 ∨ i = 9 ∨ i = 10 ∨ i = 11 := by omega
  rcases w9 with rfl | rfl | rfl | rfl | rfl | rfl | rfl | rfl | rfl | rfl | rfl | rfl
  all_goals rfl
theorem eF5 (i : Nat) (v : Int32) : (elF c i).set 5 (.int v) = elF (c.u_eS (eU c.eS i v)) i := by
  have e : elF (c.u_eS (eU c.eS i v)) i = [.int (c.eK i), .int (c.eH i), .long (c.e1 i), .long (c.e2 i), .long (c.e3 i), .int (eU c.eS i v i), .int (c.eN i)] := rfl
  rw [e, eU_eq]
  rfl
theorem eS5 {i : Nat} (h : i < 12) {v : Int32} : (W9 c m o).set (22 + i) (.inr (0, elF (c.u_eS (eU c.eS i v)) i)) = W9 (c.u_eS (eU c.eS i v)) m o := by
  have w9 : i = 0 ∨ i = 1 ∨ i = 2 ∨ i = 3 ∨ i = 4 ∨ i = 5 ∨ i = 6 ∨ i = 7 ∨ i = 8 ∨ i = 9 ∨ i = 10 ∨ i = 11 := by omega
  rcases w9 with rfl | rfl | rfl | rfl | rfl | rfl | rfl | rfl | rfl | rfl | rfl | rfl
  all_goals rfl
theorem eF6 (i : Nat) (v : Int32) : (elF c i).set 6 (.int v) = elF (c.u_eN (eU c.eN i v)) i := by
  have e : elF (c.u_eN (eU c.eN i v)) i = [.int (c.eK i), .int (c.eH i), .long (c.e1 i), .long (c.e2 i), .long (c.e3 i), .int (c.eS i), .int (eU c.eN i v i)] := rfl
  rw [e, eU_eq]
  rfl
theorem eS6 {i : Nat} (h : i < 12) {v : Int32} : (W9 c m o).set (22 + i) (.inr (0, elF (c.u_eN (eU c.eN i v)) i)) = W9 (c.u_eN (eU c.eN i v)) m o := by
  have w9 : i = 0 ∨ i = 1 ∨ i = 2 ∨ i = 3 ∨ i = 4 ∨ i = 5 ∨ i = 6 ∨ i = 7 ∨ i = 8 ∨ i = 9 ∨ i = 10 ∨ i = 11 := by omega
  rcases w9 with rfl | rfl | rfl | rfl | rfl | rfl | rfl | rfl | rfl | rfl | rfl | rfl
  all_goals rfl
/-- the query is well formed, the cursor stands on a token -/
def QIc (c : CS) : Prop := c.cur ∧ c.qv ≤ 6 ∧ c.qc ≤ 6 ∧ c.qe ≤ 12 ∧ c.qg ≤ 145 ∧ ∀ i, i < 12 → c.qx i = some (22 + i)
/-- store, text, solver and rows are as they were -/
def Pz (c c' : CS) : Prop := (c'.1.1 = c.1.1 ∧ c'.1.2.1 = c.1.2.1 ∧ c'.2.2 = c.2.2) ∧ QIc c'
theorem Pz.refl (h : QIc c) : Pz c c := ⟨⟨rfl, rfl, rfl⟩, h⟩
theorem Pz.trans {c1 c2 c3 : CS} (h1 : Pz c1 c2) (h2 : Pz c2 c3) : Pz c1 c3 := ⟨⟨h2.1.1.trans h1.1.1, h2.1.2.1.trans h1.1.2.1, h2.1.2.2.trans h1.1.2.2⟩, h2.2⟩
def pB (c : CS) : Option Value → CS → Prop := fun r c' => ∃ b, r = some (.int (bI b)) ∧ Pz c c'
theorem qx_at (h : QIc c) {e : Nat} (he : e < 12) : c.qx (nI e).toNatClampNeg = some (22 + e) := by
  rw [nC rfl (by omega)]
  exact h.2.2.2.2.2 e he
theorem step_Pz (h : QIc c) : Pz c c.d_step := by
  unfold CS.d_step
  split
  · exact ⟨⟨rfl, rfl, rfl⟩, ⟨by assumption, h.1.2⟩, h.2⟩
  · exact Pz.refl h
theorem take_Pz (b : Bool) (h : QIc c) : Pz c (c.d_take b) := by
  cases b
  · exact Pz.refl h
  · exact step_Pz h
theorem pt_step (h : QIc c) : mm_ l y_To_step w_To_step (rmh 1) [.ref 13] (W9 c m o) (qC m o (fun r c' => r = none ∧ Pz c c')) := mm_imp (to_step h.1) (fun r M' ⟨c', q, e⟩ => ⟨c', ⟨q.1, by rw [q.2]; exact step_Pz h⟩, e⟩)
theorem pt_takeKey (h : QIc c) (x : Int64) : mm_ l y_To_takeKey w_To_takeKey (rmh 2) [.ref 13, .long x] (W9 c m o) (qC m o (pB c)) := mm_imp (to_takeKey h.1 x) (fun r M' ⟨c', q, e⟩ => ⟨c', ⟨_, q.1, by rw [q.2]; exact take_Pz _ h⟩, e⟩)
theorem pt_takeSign (h : QIc c) (x : Int32) : mm_ l y_To_takeSign w_To_takeSign (rmh 2) [.ref 13, .int x] (W9 c m o) (qC m o (pB c)) := mm_imp (to_takeSign h.1 x) (fun r M' ⟨c', q, e⟩ => ⟨c', ⟨_, q.1, by rw [q.2]; exact take_Pz _ h⟩, e⟩)
theorem te_isHeldNumber (x : Int64) : mm_ l y_Te_isHeldNumber w_Te_isHeldNumber (rmh 1) [.long x] (W9 c m o) (qC m o (fun r c' => r = some (.int (bI (tH x))) ∧ c' = c)) := mm_imp (m_Te_isHeldNumber x) (fun r M' h => ⟨_, ⟨h.1, rfl⟩, h.2⟩)
theorem qu_variable (h : QIc c) (x : Int64) : mm_ l y_Qu_variable w_Qu_variable (rmh 1) [.ref 17, .long x] (W9 c m o) (qC m o (fun r c' => ∃ v, r = some (.int v) ∧ Pz c c')) := by
  obtain ⟨h1, h2, h3, h4, h5, h6⟩ := id h
  refine mm_intro (by decide) (Nat.le_of_ble_eq_true rfl) i_Qu_variable (fun X ok E => ?_)
  refine k_Qu_variable_0 ok E.nL ?_
  have L1 : ∀ r i, i + r = c.qv → gg X (W9 c m o) 0 0 2 [(0, .ref 17), (1, .long x), (3, .int (nI i))] [] := by
    intro r
    induction r with
    | zero =>
      intro i hi
      refine k_Qu_variable_2 ok rW_17 rF_Qu_1 (fun z => have z := (nLe rfl rfl (by omega) (by omega) z); ?_) (fun z => have z := (nNle rfl rfl (by omega) (by omega) z); ?_)
      · refine k_Qu_variable_29 ok rW_17 rF_Qu_1 (fun z => have z := (nLt rfl (nL 6) (by omega) (by omega) z); ?_) (fun z => have z := (nNlt rfl (nL 6) (by omega) (by omega) z); ?_)
        · refine k_Qu_variable_40 ok rW_17 rF_Qu_0 rF_Qu_1 rW_18 (vin rfl (by omega) (by decide)) sA_18 (Nat.le_refl 12) (sF_Qu_1 (nA rfl (nL 1))) (sO_Qu_1 rfl) E ⟨_, ⟨_, rfl, by exact ⟨⟨rfl, rfl, rfl⟩, h1, by show c.qv + 1 ≤ 6; omega, h3, h4, h5, h6⟩⟩, rfl⟩ (Nat.le_refl _) (Nat.le_refl _)
        · refine k_Qu_variable_38 ok E ⟨_, ⟨_, rfl, Pz.refl h⟩, rfl⟩ (Nat.le_refl _) (Nat.le_refl _)
      · omega
    | succ r ih =>
      intro i hi
      refine k_Qu_variable_2 ok rW_17 rF_Qu_1 (fun z => have z := (nLe rfl rfl (by omega) (by omega) z); ?_) (fun z => have z := (nNle rfl rfl (by omega) (by omega) z); ?_)
      · omega
      refine k_Qu_variable_10 ok rW_17 rF_Qu_0 rW_18 (vin rfl (by omega) (by decide)) (fun z => ?_) (fun z => ?_)
      · refine k_Qu_variable_23 ok E.nL ?_
        rw [nI_1]
        exact ih (i + 1) (by omega)
      · refine k_Qu_variable_21 ok E ⟨_, ⟨_, rfl, Pz.refl h⟩, rfl⟩ (Nat.le_refl _) (Nat.le_refl _)
  exact L1 c.qv 0 (by omega)
theorem qu_newElement (h : QIc c) (x : Int32) : mm_ l y_Qu_newElement w_Qu_newElement (rmh 1) [.ref 17, .int x] (W9 c m o) (qC m o (fun r c' => Pz c c' ∧ (r = some (.int (-1)) ∨ ∃ e, e < 12 ∧ r = some (.int (nI e))))) := by
  obtain ⟨h1, h2, h3, h4, h5, h6⟩ := id h
  refine mm_intro (by decide) (Nat.le_of_ble_eq_true rfl) i_Qu_newElement (fun X ok E => ?_)
  refine k_Qu_newElement_0 ok rW_17 rF_Qu_9 (fun z => have z := (nLt rfl (nL 12) (by omega) (by omega) z); ?_) (fun z => have z := (nNlt rfl (nL 12) (by omega) (by omega) z); ?_)
  · refine k_Qu_newElement_11 ok rW_17 rF_Qu_8 rF_Qu_9 rW_20 (vin rfl (by omega) (by decide)) (qx_at h z) (rE (i := c.qe) z) (Nat.le_refl 7) (eF1 _ _) (eS1 z) (by omega) (Nat.le_refl 12) (sF_Qu_9 (nA rfl (nL 1))) (sO_Qu_9 rfl) E ⟨_, ⟨by exact ⟨⟨rfl, rfl, rfl⟩, h1, h2, h3, by show c.qe + 1 ≤ 12; omega, h5, h6⟩, Or.inr ⟨c.qe, z, by rw [p1m1]⟩⟩, rfl⟩ (Nat.le_refl _) (Nat.le_refl _)
  · refine k_Qu_newElement_9 ok E ⟨_, ⟨Pz.refl h, Or.inl rfl⟩, rfl⟩ (Nat.le_refl _) (Nat.le_refl _)
theorem qu_newGroup (h : QIc c) (x : Int32) : mm_ l y_Qu_newGroup w_Qu_newGroup (rmh 1) [.ref 17, .int x] (W9 c m o) (qC m o (fun r c' => ∃ v, r = some (.int v) ∧ Pz c c')) := by
  obtain ⟨h1, h2, h3, h4, h5, h6⟩ := id h
  refine mm_intro (by decide) (Nat.le_of_ble_eq_true rfl) i_Qu_newGroup (fun X ok E => ?_)
  refine k_Qu_newGroup_0 ok rW_17 rF_Qu_11 (fun z => have z := (nLt rfl (nL 145) (by omega) (by omega) z); ?_) (fun z => have z := (nNlt rfl (nL 145) (by omega) (by omega) z); ?_)
  · refine k_Qu_newGroup_12 ok rW_17 rF_Qu_10 rF_Qu_11 rW_21 (vin rfl (by omega) (by decide)) sA_21 (Nat.le_refl 12) (sF_Qu_11 (nA rfl (nL 1))) (sO_Qu_11 rfl) E ⟨_, ⟨_, rfl, by exact ⟨⟨rfl, rfl, rfl⟩, h1, h2, h3, h4, by show c.qg + 1 ≤ 145; omega, h6⟩⟩, rfl⟩ (Nat.le_refl _) (Nat.le_refl _)
  · refine k_Qu_newGroup_10 ok E ⟨_, ⟨_, rfl, Pz.refl h⟩, rfl⟩ (Nat.le_refl _) (Nat.le_refl _)
theorem pa_readVariable (h : QIc c) : mm_ l y_Pa_readVariable w_Pa_readVariable (rmh 2) [.ref 34] (W9 c m o) (qC m o (pB c)) := by
  refine mm_intro (by decide) (Nat.le_of_ble_eq_true rfl) i_Pa_readVariable (fun X ok E => ?_)
  refine k_Pa_readVariable_0 ok rW_34 rF_Pa_0 rW_13 (to_kind h.1) (gF_h E.nR (by decide) (by decide)) (fun _ _ q => qC_len q) ?_
  rintro r M' ⟨c, ⟨rfl, rfl⟩, rfl⟩
  refine k_Pa_readVariable_7 ok (fun z => ?_) (fun z => ?_)
  · refine k_Pa_readVariable_13 ok rW_34 rF_Pa_1 rF_Pa_0 rW_13 (to_value h.1) (gF_h E.nR (by decide) (by decide)) (fun _ _ q => qC_len q) ?_
    rintro r M' ⟨c, ⟨rfl, rfl⟩, rfl⟩
    refine k_Pa_readVariable_24 ok rW_17 (qu_variable h _) (gF_h E.nR (by decide) (by decide)) (fun _ _ q => qC_len q) ?_
    rintro r M' ⟨c2, ⟨v, rfl, q⟩, rfl⟩
    refine k_Pa_readVariable_27 ok E.nL (fun z => ?_) (fun z => ?_)
    · refine k_Pa_readVariable_35 ok rW_34 (Nat.le_refl 3) sF_Pa_2 (sO_Pa_2 rfl) rF_Pa_0 rW_13 (by decide) (pt_step (by exact q.2)) (gF_h E.nR (by decide) (by decide)) (fun _ _ q => qC_len q) ?_
      rintro r M' ⟨c3, ⟨rfl, q3⟩, rfl⟩
      refine k_Pa_readVariable_50 ok E ⟨_, ⟨true, rfl, q.trans (by exact q3)⟩, rfl⟩ (Nat.le_refl _) (Nat.le_refl _)
    · refine k_Pa_readVariable_33 ok E ⟨_, ⟨false, rfl, q⟩, rfl⟩ (Nat.le_refl _) (Nat.le_refl _)
  · refine k_Pa_readVariable_11 ok E ⟨_, ⟨false, rfl, Pz.refl h⟩, rfl⟩ (Nat.le_refl _) (Nat.le_refl _)
theorem pa_readSide (h : QIc c) : mm_ l y_Pa_readSide w_Pa_readSide (rmh 3) [.ref 34] (W9 c m o) (qC m o (pB c)) := by
  refine mm_intro (by decide) (Nat.le_of_ble_eq_true rfl) i_Pa_readSide (fun X ok E => ?_)
  refine k_Pa_readSide_0 ok rW_34 rF_Pa_0 rW_13 (to_kind h.1) (gF_h E.nR (by decide) (by decide)) (fun _ _ q => qC_len q) ?_
  rintro r M' ⟨c, ⟨rfl, rfl⟩, rfl⟩
  refine k_Pa_readSide_7 ok (fun z => ?_) (fun z => ?_)
  · refine k_Pa_readSide_16 ok rW_34 rF_Pa_0 rW_13 (to_value h.1) (gF_h E.nR (by decide) (by decide)) (fun _ _ q => qC_len q) ?_
    rintro r M' ⟨c, ⟨rfl, rfl⟩, rfl⟩
    refine k_Pa_readSide_24 ok rW_34 (Nat.le_refl 3) sF_Pa_2 (sO_Pa_2 rfl) rF_Pa_0 rW_13 (by decide) (pt_step (by exact h)) (gF_h E.nR (by decide) (by decide)) (fun _ _ q => qC_len q) ?_
    rintro r M' ⟨c3, ⟨rfl, q3⟩, rfl⟩
    refine k_Pa_readSide_34 ok E ⟨_, ⟨true, rfl, by exact q3⟩, rfl⟩ (Nat.le_refl _) (Nat.le_refl _)
  · refine k_Pa_readSide_11 ok rW_34 (pa_readVariable h) (gF_h E.nR (by decide) (by decide)) (fun _ _ q => qC_len q) ?_
    rintro r M' ⟨c2, ⟨b, rfl, q⟩, rfl⟩
    refine k_Pa_readSide_15 ok E (bI_nar _) ⟨_, ⟨b, rfl, q⟩, rfl⟩ (Nat.le_refl _) (Nat.le_refl _)
theorem pa_isAtComparison (h : QIc c) : mm_ l y_Pa_isAtComparison w_Pa_isAtComparison (rmh 2) [.ref 34] (W9 c m o) (qC m o (fun r c' => ∃ b, r = some (.int (bI b)) ∧ c' = c)) := by
  refine mm_intro (by decide) (Nat.le_of_ble_eq_true rfl) i_Pa_isAtComparison (fun X ok E => ?_)
  have fin : ∀ b : Bool, gg X (W9 c m o) 0 0 53 [] [.int (bI b)] := by
    intro b
    refine k_Pa_isAtComparison_53 ok E (bI_nar _) ⟨_, ⟨b, rfl, rfl⟩, rfl⟩ (Nat.le_refl _) (Nat.le_refl _)
  refine k_Pa_isAtComparison_0 ok rW_34 rF_Pa_0 rW_13 (to_isAtSign h.1 _) (gF_h E.nR (by decide) (by decide)) (fun _ _ q => qC_len q) ?_
  rintro r M' ⟨c, ⟨rfl, rfl⟩, rfl⟩
  refine k_Pa_isAtComparison_9 ok (fun z9 => have z9 := bI_1 z9; ?_) (fun z9 => have z9 := bI_0 z9; ?_)
  · refine k_Pa_isAtComparison_48 ok ?_
    first | exact fin true | exact fin false
  · refine k_Pa_isAtComparison_12 ok rW_34 rF_Pa_0 rW_13 (to_isAtSign h.1 _) (gF_h E.nR (by decide) (by decide)) (fun _ _ q => qC_len q) ?_
    rintro r M' ⟨c, ⟨rfl, rfl⟩, rfl⟩
    refine k_Pa_isAtComparison_21 ok (fun z21 => have z21 := bI_1 z21; ?_) (fun z21 => have z21 := bI_0 z21; ?_)
    · refine k_Pa_isAtComparison_48 ok ?_
      first | exact fin true | exact fin false
    · refine k_Pa_isAtComparison_24 ok rW_34 rF_Pa_0 rW_13 (to_isAtSign h.1 _) (gF_h E.nR (by decide) (by decide)) (fun _ _ q => qC_len q) ?_
      rintro r M' ⟨c, ⟨rfl, rfl⟩, rfl⟩
      refine k_Pa_isAtComparison_33 ok (fun z33 => have z33 := bI_1 z33; ?_) (fun z33 => have z33 := bI_0 z33; ?_)
      · refine k_Pa_isAtComparison_48 ok ?_
        first | exact fin true | exact fin false
      · refine k_Pa_isAtComparison_36 ok rW_34 rF_Pa_0 rW_13 (to_isAtSign h.1 _) (gF_h E.nR (by decide) (by decide)) (fun _ _ q => qC_len q) ?_
        rintro r M' ⟨c, ⟨rfl, rfl⟩, rfl⟩
        refine k_Pa_isAtComparison_45 ok (fun z45 => have z45 := bI_0 z45; ?_) (fun z45 => have z45 := bI_1 z45; ?_)
        · refine k_Pa_isAtComparison_52 ok ?_
          first | exact fin true | exact fin false
        · refine k_Pa_isAtComparison_48 ok ?_
          first | exact fin true | exact fin false
theorem pa_readPattern (h : QIc c) {i : Nat} (hi : i < 12) : mm_ l y_Pa_readPattern w_Pa_readPattern (rmh 4) [.ref 34, .ref (22 + i)] (W9 c m o) (qC m o (pB c)) := by
  refine mm_intro (by decide) (Nat.le_of_ble_eq_true rfl) i_Pa_readPattern (fun X ok E => ?_)
  refine k_Pa_readPattern_0 ok rW_34 (pa_readSide h) (gF_h E.nR (by decide) (by decide)) (fun _ _ q => qC_len q) ?_
  rintro r M' ⟨c2, ⟨b, rfl, q⟩, rfl⟩
  refine k_Pa_readPattern_4 ok (fun z => ?_) (fun z => ?_)
  · refine k_Pa_readPattern_9 ok rW_34 rF_Pa_2 (rE hi) (Nat.le_refl 7) (eF2 _ _) (eS2 hi) (by omega) (pa_readSide (by exact q.2)) (gF_h E.nR (by decide) (by decide)) (fun _ _ q => qC_len q) ?_
    rintro r M' ⟨c3, ⟨b3, rfl, q3⟩, rfl⟩
    have t3 : Pz c c3 := q.trans (by exact q3)
    refine k_Pa_readPattern_21 ok (fun z => ?_) (fun z => ?_)
    · refine k_Pa_readPattern_26 ok rW_34 rF_Pa_2 (rE hi) (Nat.le_refl 7) (eF3 _ _) (eS3 hi) (by omega) (pa_readSide (by exact t3.2)) (gF_h E.nR (by decide) (by decide)) (fun _ _ q => qC_len q) ?_
      rintro r M' ⟨c4, ⟨b4, rfl, q4⟩, rfl⟩
      have t4 : Pz c c4 := t3.trans (by exact q4)
      refine k_Pa_readPattern_38 ok (fun z => ?_) (fun z => ?_)
      · refine k_Pa_readPattern_43 ok rW_34 rF_Pa_2 (rE hi) (Nat.le_refl 7) (eF4 _ _) (eS4 hi) E ⟨_, ⟨true, rfl, t4.trans (by exact ⟨⟨rfl, rfl, rfl⟩, t4.2⟩)⟩, rfl⟩ (Nat.le_refl _) (Nat.le_refl _)
      · refine k_Pa_readPattern_41 ok E ⟨_, ⟨false, rfl, t4⟩, rfl⟩ (Nat.le_refl _) (Nat.le_refl _)
    · refine k_Pa_readPattern_24 ok E ⟨_, ⟨false, rfl, t3⟩, rfl⟩ (Nat.le_refl _) (Nat.le_refl _)
  · refine k_Pa_readPattern_7 ok E ⟨_, ⟨false, rfl, q⟩, rfl⟩ (Nat.le_refl _) (Nat.le_refl _)
theorem pa_readNots (h : QIc c) {i : Nat} (hi : i < 12) : mm_ l y_Pa_readNots w_Pa_readNots (rmh 3) [.ref 34, .ref (22 + i)] (W9 c m o) (qC m o (fun r c' => r = none ∧ Pz c c')) := by
  refine mm_intro (by decide) (Nat.le_of_ble_eq_true rfl) i_Pa_readNots (fun X ok E => ?_)
  refine k_Pa_readNots_0 ok E.nL (rE hi) (Nat.le_refl 7) (eF6 _ _) (eS6 hi) ?_
  have L1 : ∀ r j c1, j + r = 4 → Pz c c1 → gg X (W9 c1 m o) 0 0 7 [(0, .ref 34), (1, .ref (22 + i)), (2, .int (nI j))] [] := by
    intro r
    induction r with
    | zero =>
      intro j c1 hj q
      refine k_Pa_readNots_7 ok (fun z => have z := (nLe (nL 4) rfl (by omega) (by omega) z); ?_) (fun z => have z := (nNle (nL 4) rfl (by omega) (by omega) z); ?_)
      · refine k_Pa_readNots_47 ok E ⟨_, ⟨rfl, q⟩, rfl⟩ (Nat.le_refl _) (Nat.le_refl _)
      · omega
    | succ r ih =>
      intro j c1 hj q
      refine k_Pa_readNots_7 ok (fun z => have z := (nLe (nL 4) rfl (by omega) (by omega) z); ?_) (fun z => have z := (nNle (nL 4) rfl (by omega) (by omega) z); ?_)
      · omega
      refine k_Pa_readNots_12 ok rW_34 rF_Pa_0 rW_13 (pt_takeKey q.2 _) (gF_h E.nR (by decide) (by decide)) (fun _ _ q => qC_len q) ?_
      rintro r M' ⟨c2, ⟨b, rfl, q2⟩, rfl⟩
      have nx : ∀ s : Int32, narrow .boolean (.int s) = .int s ∧ fits .boolean (.int s) = true → gg X (W9 c2 m o) 0 0 38 [(0, .ref 34), (1, .ref (22 + i)), (2, .int (nI j))] [.int s, .ref (22 + i)] := by
        intro s hs
        refine k_Pa_readNots_38 ok E.nL (rE hi) (Nat.le_refl 7) hs (eF6 _ _) (eS6 hi) ?_
        rw [nI_1]
        exact ih (j + 1) _ (by omega) (q.trans (q2.trans (by exact ⟨⟨rfl, rfl, rfl⟩, q2.2⟩)))
      refine k_Pa_readNots_22 ok (fun z => ?_) (fun z => ?_)
      · refine k_Pa_readNots_47 ok E ⟨_, ⟨rfl, q.trans q2⟩, rfl⟩ (Nat.le_refl _) (Nat.le_refl _)
      · refine k_Pa_readNots_25 ok (rE hi) rfl (fun z => ?_) (fun z => ?_)
        · refine k_Pa_readNots_37 ok ?_
          exact nx 0 ⟨rfl, rfl⟩
        · refine k_Pa_readNots_33 ok ?_
          exact nx 1 ⟨rfl, rfl⟩
  exact L1 4 0 _ rfl (by exact ⟨⟨rfl, rfl, rfl⟩, h⟩)
theorem pa_readBound (h : QIc c) {i : Nat} (hi : i < 12) : mm_ l y_Pa_readBound w_Pa_readBound (rmh 3) [.ref 34, .ref (22 + i)] (W9 c m o) (qC m o (pB c)) := by
  refine mm_intro (by decide) (Nat.le_of_ble_eq_true rfl) i_Pa_readBound (fun X ok E => ?_)
  refine k_Pa_readBound_0 ok rW_34 (pa_readVariable h) (gF_h E.nR (by decide) (by decide)) (fun _ _ q => qC_len q) ?_
  rintro r M' ⟨c2, ⟨b, rfl, q⟩, rfl⟩
  refine k_Pa_readBound_4 ok E.nL rW_34 rF_Pa_2 (rE hi) (Nat.le_refl 7) (eF2 _ _) (eS2 hi) (eF5 _ _) (eS5 hi) E (bI_nar _) ⟨_, ⟨b, rfl, q.trans (by exact ⟨⟨rfl, rfl, rfl⟩, q.2⟩)⟩, rfl⟩ (Nat.le_refl _) (Nat.le_refl _)
theorem pa_readComparison (h : QIc c) {i : Nat} (hi : i < 12) : mm_ l y_Pa_readComparison w_Pa_readComparison (rmh 4) [.ref 34, .ref (22 + i)] (W9 c m o) (qC m o (pB c)) := by
  refine mm_intro (by decide) (Nat.le_of_ble_eq_true rfl) i_Pa_readComparison (fun X ok E => ?_)
  refine k_Pa_readComparison_0 ok rW_34 (pa_readSide h) (gF_h E.nR (by decide) (by decide)) (fun _ _ q => qC_len q) ?_
  rintro r M' ⟨c2, ⟨b, rfl, q⟩, rfl⟩
  refine k_Pa_readComparison_4 ok (fun z => ?_) (fun z => ?_)
  · refine k_Pa_readComparison_9 ok rW_34 rF_Pa_2 (rE hi) (Nat.le_refl 7) (eF2 _ _) (eS2 hi) (by omega) (pa_isAtComparison (by exact q.2)) (gF_h E.nR (by decide) (by decide)) (fun _ _ q => qC_len q) ?_
    rintro r M' ⟨c3, ⟨b3, rfl, rfl⟩, rfl⟩
    refine k_Pa_readComparison_21 ok (fun z => ?_) (fun z => ?_)
    · refine k_Pa_readComparison_26 ok rW_34 rF_Pa_0 rW_13 (to_value (by exact q.2.1)) (gF_h E.nR (by decide) (by decide)) (fun _ _ q => qC_len q) ?_
      rintro r M' ⟨c4, ⟨rfl, rfl⟩, rfl⟩
      refine k_Pa_readComparison_34 ok (rE hi) (Nat.le_refl 7) (eF5 _ _) (eS5 hi) rW_34 (by omega) rF_Pa_0 rW_13 (by omega) (pt_step (by exact q.2)) (gF_h E.nR (by decide) (by decide)) (fun _ _ q => qC_len q) ?_
      rintro r M' ⟨c5, ⟨rfl, q5⟩, rfl⟩
      have t5 : Pz c c5 := q.trans (by exact q5)
      refine k_Pa_readComparison_45 ok rW_34 (pa_readSide t5.2) (gF_h E.nR (by decide) (by decide)) (fun _ _ q => qC_len q) ?_
      rintro r M' ⟨c6, ⟨b6, rfl, q6⟩, rfl⟩
      refine k_Pa_readComparison_49 ok E.nL rW_34 rF_Pa_2 (rE hi) (Nat.le_refl 7) (eF3 _ _) (eS3 hi) E (bI_nar _) ⟨_, ⟨b6, rfl, t5.trans (q6.trans (by exact ⟨⟨rfl, rfl, rfl⟩, q6.2⟩))⟩, rfl⟩ (Nat.le_refl _) (Nat.le_refl _)
    · refine k_Pa_readComparison_24 ok E ⟨_, ⟨false, rfl, q.trans (by exact ⟨⟨rfl, rfl, rfl⟩, q.2⟩)⟩, rfl⟩ (Nat.le_refl _) (Nat.le_refl _)
  · refine k_Pa_readComparison_7 ok E ⟨_, ⟨false, rfl, q⟩, rfl⟩ (Nat.le_refl _) (Nat.le_refl _)
theorem pa_readOrder (h : QIc c) : mm_ l y_Pa_readOrder w_Pa_readOrder (rmh 3) [.ref 34] (W9 c m o) (qC m o (pB c)) := by
  refine mm_intro (by decide) (Nat.le_of_ble_eq_true rfl) i_Pa_readOrder (fun X ok E => ?_)
  refine k_Pa_readOrder_0 ok rW_34 rF_Pa_0 rW_13 (pt_takeKey h _) (gF_h E.nR (by decide) (by decide)) (fun _ _ q => qC_len q) ?_
  rintro r M' ⟨c2, ⟨b, rfl, q⟩, rfl⟩
  refine k_Pa_readOrder_10 ok (fun z => ?_) (fun z => ?_)
  · refine k_Pa_readOrder_15 ok rW_34 (pa_readVariable q.2) (gF_h E.nR (by decide) (by decide)) (fun _ _ q => qC_len q) ?_
    rintro r M' ⟨c3, ⟨b3, rfl, q3⟩, rfl⟩
    refine k_Pa_readOrder_19 ok (fun z => ?_) (fun z => ?_)
    · refine k_Pa_readOrder_24 ok rW_34 rF_Pa_1 rF_Pa_2 rW_17 (Nat.le_refl 12) sF_Qu_5 (sO_Qu_5 rfl) (by decide) rF_Pa_0 rW_13 (by decide) (pt_takeKey (by exact q3.2) _) (gF_h E.nR (by decide) (by decide)) (fun _ _ q => qC_len q) ?_
      rintro r M' ⟨c4, ⟨b4, rfl, q4⟩, rfl⟩
      have t4 : Pz c c4 := (q.trans q3).trans (by exact q4)
      refine k_Pa_readOrder_54 ok rW_17 (Nat.le_refl 12) (by cases b4 <;> exact ⟨rfl, rfl⟩) (sF_Qu_6 rfl) (sO_Qu_6 rfl) E ⟨_, ⟨true, rfl, t4.trans (by exact ⟨⟨rfl, rfl, rfl⟩, t4.2⟩)⟩, rfl⟩ (Nat.le_refl _) (Nat.le_refl _)
    · refine k_Pa_readOrder_22 ok E ⟨_, ⟨false, rfl, q.trans q3⟩, rfl⟩ (Nat.le_refl _) (Nat.le_refl _)
  · refine k_Pa_readOrder_13 ok E ⟨_, ⟨true, rfl, q⟩, rfl⟩ (Nat.le_refl _) (Nat.le_refl _)
theorem pa_readLimit (h : QIc c) : mm_ l y_Pa_readLimit w_Pa_readLimit (rmh 3) [.ref 34] (W9 c m o) (qC m o (pB c)) := by
  refine mm_intro (by decide) (Nat.le_of_ble_eq_true rfl) i_Pa_readLimit (fun X ok E => ?_)
  refine k_Pa_readLimit_0 ok rW_34 rF_Pa_0 rW_13 (pt_takeKey h _) (gF_h E.nR (by decide) (by decide)) (fun _ _ q => qC_len q) ?_
  rintro r M' ⟨c2, ⟨b, rfl, q⟩, rfl⟩
  refine k_Pa_readLimit_10 ok (fun z => ?_) (fun z => ?_)
  · refine k_Pa_readLimit_15 ok rW_34 rF_Pa_0 rW_13 (to_value q.2.1) (gF_h E.nR (by decide) (by decide)) (fun _ _ q => qC_len q) ?_
    rintro r M' ⟨c2, ⟨rfl, rfl⟩, rfl⟩
    refine k_Pa_readLimit_22 ok E.nL rW_34 rF_Pa_0 rW_13 (to_kind q.2.1) (gF_h E.nR (by decide) (by decide)) (fun _ _ q => qC_len q) ?_
    rintro r M' ⟨c2, ⟨rfl, rfl⟩, rfl⟩
    have no : gg X (W9 c2 m o) 0 0 41 [] [] := by
      refine k_Pa_readLimit_41 ok E ⟨_, ⟨false, rfl, q⟩, rfl⟩ (Nat.le_refl _) (Nat.le_refl _)
    refine k_Pa_readLimit_30 ok (fun z => ?_) (fun z => ?_)
    · exact no
    refine k_Pa_readLimit_34 ok (te_isHeldNumber _) (gF_h E.nR (by decide) (by decide)) (fun _ _ q => qC_len q) ?_
    rintro r M' ⟨c2, ⟨rfl, rfl⟩, rfl⟩
    refine k_Pa_readLimit_38 ok (fun z => ?_) (fun z => ?_)
    · refine k_Pa_readLimit_43 ok rW_34 rF_Pa_1 rW_17 (Nat.le_refl 12) sF_Qu_7 (sO_Qu_7 rfl) (by decide) rF_Pa_0 rW_13 (by decide) (pt_step (by exact q.2)) (gF_h E.nR (by decide) (by decide)) (fun _ _ q => qC_len q) ?_
      rintro r M' ⟨c3, ⟨rfl, q3⟩, rfl⟩
      refine k_Pa_readLimit_61 ok E ⟨_, ⟨true, rfl, q.trans (by exact q3)⟩, rfl⟩ (Nat.le_refl _) (Nat.le_refl _)
    · exact no
  · refine k_Pa_readLimit_13 ok E ⟨_, ⟨true, rfl, q⟩, rfl⟩ (Nat.le_refl _) (Nat.le_refl _)
theorem pa_readSelected (h : QIc c) : mm_ l y_Pa_readSelected w_Pa_readSelected (rmh 3) [.ref 34] (W9 c m o) (qC m o (pB c)) := by
  refine mm_intro (by decide) (Nat.le_of_ble_eq_true rfl) i_Pa_readSelected (fun X ok E => ?_)
  refine k_Pa_readSelected_0 ok rW_34 rF_Pa_1 rF_Pa_0 rW_13 (pt_takeKey h _) (gF_h E.nR (by decide) (by decide)) (fun _ _ q => qC_len q) ?_
  rintro r M' ⟨c2, ⟨b, rfl, q⟩, rfl⟩
  have fin : ∀ c1, Pz c c1 → gg X (W9 c1 m o) 0 0 79 [(0, .ref 34)] [] := by
    intro c1 q1
    have k94 : ∀ b : Bool, gg X (W9 c1 m o) 0 0 94 [] [.int (bI b)] := by
      intro b
      refine k_Pa_readSelected_94 ok E (bI_nar _) ⟨_, ⟨b, rfl, q1⟩, rfl⟩ (Nat.le_refl _) (Nat.le_refl _)
    refine k_Pa_readSelected_79 ok rW_34 rF_Pa_1 rW_17 rF_Qu_3 (fun z => ?_) (fun z => ?_)
    · refine k_Pa_readSelected_93 ok ?_
      exact k94 false
    · refine k_Pa_readSelected_89 ok ?_
      exact k94 true
  refine k_Pa_readSelected_14 ok E.nL rW_17 (Nat.le_refl 12) (by cases b <;> exact ⟨rfl, rfl⟩) (sF_Qu_4 rfl) (sO_Qu_4 rfl) ?_
  have L1 : ∀ r j c1, j + r = 6 → Pz c c1 → gg X (W9 c1 m o) 0 0 19 [(0, .ref 34), (1, .int (nI j))] [] := by
    intro r
    induction r with
    | zero =>
      intro j c1 hj q1
      refine k_Pa_readSelected_19 ok (fun z => have z := (nLe (nL 6) rfl (by omega) (by omega) z); ?_) (fun z => have z := (nNle (nL 6) rfl (by omega) (by omega) z); ?_)
      · exact fin c1 q1
      · omega
    | succ r ih =>
      intro j c1 hj q1
      refine k_Pa_readSelected_19 ok (fun z => have z := (nLe (nL 6) rfl (by omega) (by omega) z); ?_) (fun z => have z := (nNle (nL 6) rfl (by omega) (by omega) z); ?_)
      · omega
      refine k_Pa_readSelected_25 ok rW_34 rF_Pa_0 rW_13 (to_kind q1.2.1) (gF_h E.nR (by decide) (by decide)) (fun _ _ q => qC_len q) ?_
      rintro r M' ⟨c1, ⟨rfl, rfl⟩, rfl⟩
      refine k_Pa_readSelected_32 ok (fun z => ?_) (fun z => ?_)
      · exact fin c1 q1
      refine k_Pa_readSelected_36 ok rW_34 (pa_readVariable q1.2) (gF_h E.nR (by decide) (by decide)) (fun _ _ q => qC_len q) ?_
      rintro r M' ⟨c3, ⟨b3, rfl, q3⟩, rfl⟩
      refine k_Pa_readSelected_40 ok (fun z => ?_) (fun z => ?_)
      · refine k_Pa_readSelected_45 ok E.nL rW_34 rF_Pa_1 rW_17 rF_Qu_2 rF_Pa_2 rW_19 (vin rfl (by omega) (by decide)) sA_19 (Nat.le_refl 12) (sF_Qu_3 (nA rfl (nL 1))) (sO_Qu_3 rfl) ?_
        rw [nI_1]
        exact ih (j + 1) _ (by omega) (q1.trans (q3.trans ⟨⟨rfl, rfl, rfl⟩, by exact ⟨q3.2.1, q3.2.2.1, by show j + 1 ≤ 6; omega, q3.2.2.2.2⟩⟩))
      · refine k_Pa_readSelected_43 ok E ⟨_, ⟨false, rfl, q1.trans q3⟩, rfl⟩ (Nat.le_refl _) (Nat.le_refl _)
  exact L1 6 0 _ rfl (q.trans (by exact ⟨⟨rfl, rfl, rfl⟩, q.2⟩))
theorem pa_readGroup_4 (h : QIc c) (x : Int32) : mm_ l y_Pa_readGroup w_Pa_readGroup (rmh 3) [.ref 34, .int x, .int (nI 4)] (W9 c m o) (qC m o (pB c)) := by
  refine mm_intro (by decide) (Nat.le_of_ble_eq_true rfl) i_Pa_readGroup (fun X ok E => ?_)
  refine k_Pa_readGroup_0 ok rW_34 rF_Pa_0 rW_13 (to_isAtSign h.1 _) (gF_h E.nR (by decide) (by decide)) (fun _ _ q => qC_len q) ?_
  rintro r M' ⟨c, ⟨rfl, rfl⟩, rfl⟩
  have no : gg X (W9 c m o) 0 0 17 [] [] := by
    refine k_Pa_readGroup_17 ok E ⟨_, ⟨false, rfl, Pz.refl h⟩, rfl⟩ (Nat.le_refl _) (Nat.le_refl _)
  refine k_Pa_readGroup_9 ok (fun z => ?_) (fun z => ?_)
  · exact no
  refine k_Pa_readGroup_12 ok (fun z => have z := (nLt rfl (nL 4) (by omega) (by omega) z); ?_) (fun z => have z := (nNlt rfl (nL 4) (by omega) (by omega) z); ?_)
  · omega
  · exact no
theorem pa_readUnion_4 (h : QIc c) (x : Int32) : mm_ l y_Pa_readUnion w_Pa_readUnion (rmh 4) [.ref 34, .int x, .int (nI 4)] (W9 c m o) (qC m o (pB c)) := by
  refine mm_intro (by decide) (Nat.le_of_ble_eq_true rfl) i_Pa_readUnion (fun X ok E => ?_)
  refine k_Pa_readUnion_0 ok E.nL ?_
  have L1 : ∀ r j c1, j + r = 12 → Pz c c1 → gg X (W9 c1 m o) 0 0 2 [(0, .ref 34), (1, .int x), (2, .int (nI 4)), (3, .int (nI j))] [] := by
    intro r
    induction r with
    | zero =>
      intro j c1 hj q
      refine k_Pa_readUnion_2 ok (fun z => have z := (nLe (nL 12) rfl (by omega) (by omega) z); ?_) (fun z => have z := (nNle (nL 12) rfl (by omega) (by omega) z); ?_)
      · refine k_Pa_readUnion_40 ok E ⟨_, ⟨false, rfl, q⟩, rfl⟩ (Nat.le_refl _) (Nat.le_refl _)
      · omega
    | succ r ih =>
      intro j c1 hj q
      refine k_Pa_readUnion_2 ok (fun z => have z := (nLe (nL 12) rfl (by omega) (by omega) z); ?_) (fun z => have z := (nNle (nL 12) rfl (by omega) (by omega) z); ?_)
      · omega
      refine k_Pa_readUnion_8 ok rW_34 (pa_readGroup_4 q.2 _) (gF_h E.nR (by decide) (by decide)) (fun _ _ q => qC_len q) ?_
      rintro r M' ⟨c2, ⟨b, rfl, q2⟩, rfl⟩
      refine k_Pa_readUnion_14 ok (fun z => ?_) (fun z => ?_)
      · refine k_Pa_readUnion_19 ok rW_34 rF_Pa_0 rW_13 (pt_takeKey q2.2 _) (gF_h E.nR (by decide) (by decide)) (fun _ _ q => qC_len q) ?_
        rintro r M' ⟨c3, ⟨b3, rfl, q3⟩, rfl⟩
        refine k_Pa_readUnion_29 ok (fun z => ?_) (fun z => ?_)
        · refine k_Pa_readUnion_34 ok E.nL ?_
          rw [nI_1]
          exact ih (j + 1) c3 (by omega) (q.trans (q2.trans q3))
        · refine k_Pa_readUnion_32 ok E ⟨_, ⟨true, rfl, q.trans (q2.trans q3)⟩, rfl⟩ (Nat.le_refl _) (Nat.le_refl _)
      · refine k_Pa_readUnion_17 ok E ⟨_, ⟨false, rfl, q.trans q2⟩, rfl⟩ (Nat.le_refl _) (Nat.le_refl _)
  exact L1 12 0 c rfl (Pz.refl h)
theorem pa_readElement_3 (h : QIc c) (x : Int32) : mm_ l y_Pa_readElement w_Pa_readElement (rmh 5) [.ref 34, .int x, .int (nI 3)] (W9 c m o) (qC m o (pB c)) := by
  refine mm_intro (by decide) (Nat.le_of_ble_eq_true rfl) i_Pa_readElement (fun X ok E => ?_)
  refine k_Pa_readElement_0 ok rW_34 rF_Pa_1 rW_17 (qu_newElement h _) (gF_h E.nR (by decide) (by decide)) (fun _ _ q => qC_len q) ?_
  rintro r M' ⟨c2, ⟨q, hr⟩, rfl⟩
  rcases hr with rfl | ⟨e, he, rfl⟩
  · refine k_Pa_readElement_8 ok E.nL (fun z => absurd rfl z) (fun _ => ?_)
    refine k_Pa_readElement_14 ok E ⟨_, ⟨false, rfl, q⟩, rfl⟩ (Nat.le_refl _) (Nat.le_refl _)
  have e1 : nI 3 + 1 = nI 4 := rfl
  refine k_Pa_readElement_8 ok E.nL (fun z => ?_) (fun z => ?_)
  · refine k_Pa_readElement_16 ok E.nL rW_34 rF_Pa_1 rW_17 rF_Qu_8 rW_20 (vin rfl (by omega) (by decide)) (qx_at q.2 he) rF_Pa_0 rW_13 (pt_takeKey q.2 _) (gF_h E.nR (by decide) (by decide)) (fun _ _ q => qC_len q) ?_
    rintro r M' ⟨c3, ⟨b, rfl, q3⟩, rfl⟩
    have t3 : Pz c c3 := q.trans q3
    refine k_Pa_readElement_37 ok (fun z => ?_) (fun z => ?_)
    · refine k_Pa_readElement_81 ok rW_34 rF_Pa_0 rW_13 (pt_takeKey t3.2 _) (gF_h E.nR (by decide) (by decide)) (fun _ _ q => qC_len q) ?_
      rintro r M' ⟨c4, ⟨b4, rfl, q4⟩, rfl⟩
      have t4 : Pz c c4 := t3.trans q4
      refine k_Pa_readElement_91 ok (fun z => ?_) (fun z => ?_)
      · refine k_Pa_readElement_109 ok rW_34 rF_Pa_0 rW_13 (pt_takeKey t4.2 _) (gF_h E.nR (by decide) (by decide)) (fun _ _ q => qC_len q) ?_
        rintro r M' ⟨c5, ⟨b5, rfl, q5⟩, rfl⟩
        have t5 : Pz c c5 := t4.trans q5
        refine k_Pa_readElement_119 ok (fun z => ?_) (fun z => ?_)
        · refine k_Pa_readElement_137 ok rW_34 rF_Pa_0 rW_13 (to_isAtSign t5.2.1 _) (gF_h E.nR (by decide) (by decide)) (fun _ _ q => qC_len q) ?_
          rintro r M' ⟨c5, ⟨rfl, rfl⟩, rfl⟩
          refine k_Pa_readElement_146 ok (fun z => ?_) (fun z => ?_)
          · refine k_Pa_readElement_164 ok (rE he) (Nat.le_refl 7) (eF0 _ _) (eS0 he) rW_34 (by omega) (pa_readPattern (by exact t5.2) he) (gF_h E.nR (by decide) (by decide)) (fun _ _ q => qC_len q) ?_
            rintro r M' ⟨c7, ⟨b7, rfl, q7⟩, rfl⟩
            refine k_Pa_readElement_176 ok E (bI_nar _) ⟨_, ⟨b7, rfl, t5.trans (by exact q7)⟩, rfl⟩ (Nat.le_refl _) (Nat.le_refl _)
          · refine k_Pa_readElement_149 ok (rE he) (Nat.le_refl 7) (eF0 _ _) (eS0 he) rW_34 (by omega) (by rw [e1]; exact pa_readUnion_4 (by exact t5.2) _) (gF_h E.nR (by decide) (by decide)) (fun _ _ q => qC_len q) ?_
            rintro r M' ⟨c7, ⟨b7, rfl, q7⟩, rfl⟩
            refine k_Pa_readElement_163 ok E (bI_nar _) ⟨_, ⟨b7, rfl, t5.trans (by exact q7)⟩, rfl⟩ (Nat.le_refl _) (Nat.le_refl _)
        · refine k_Pa_readElement_122 ok (rE he) (Nat.le_refl 7) (eF0 _ _) (eS0 he) rW_34 (by omega) (by rw [e1]; exact pa_readGroup_4 (by exact t5.2) _) (gF_h E.nR (by decide) (by decide)) (fun _ _ q => qC_len q) ?_
          rintro r M' ⟨c7, ⟨b7, rfl, q7⟩, rfl⟩
          refine k_Pa_readElement_136 ok E (bI_nar _) ⟨_, ⟨b7, rfl, t5.trans (by exact q7)⟩, rfl⟩ (Nat.le_refl _) (Nat.le_refl _)
      · refine k_Pa_readElement_94 ok (rE he) (Nat.le_refl 7) (eF0 _ _) (eS0 he) rW_34 (by omega) (by rw [e1]; exact pa_readGroup_4 (by exact t4.2) _) (gF_h E.nR (by decide) (by decide)) (fun _ _ q => qC_len q) ?_
        rintro r M' ⟨c7, ⟨b7, rfl, q7⟩, rfl⟩
        refine k_Pa_readElement_108 ok E (bI_nar _) ⟨_, ⟨b7, rfl, t4.trans (by exact q7)⟩, rfl⟩ (Nat.le_refl _) (Nat.le_refl _)
    · refine k_Pa_readElement_40 ok (rE he) (Nat.le_refl 7) (eF0 _ _) (eS0 he) rW_34 (by omega) (pa_readNots (by exact t3.2) he) (gF_h E.nR (by decide) (by decide)) (fun _ _ q => qC_len q) ?_
      rintro r M' ⟨c4, ⟨rfl, q4⟩, rfl⟩
      have t4 : Pz c c4 := t3.trans (by exact q4)
      refine k_Pa_readElement_52 ok rW_34 rF_Pa_0 rW_13 (pt_takeKey t4.2 _) (gF_h E.nR (by decide) (by decide)) (fun _ _ q => qC_len q) ?_
      rintro r M' ⟨c5, ⟨b5, rfl, q5⟩, rfl⟩
      have t5 : Pz c c5 := t4.trans q5
      refine k_Pa_readElement_62 ok (fun z => ?_) (fun z => ?_)
      · refine k_Pa_readElement_74 ok rW_34 (pa_readComparison t5.2 he) (gF_h E.nR (by decide) (by decide)) (fun _ _ q => qC_len q) ?_
        rintro r M' ⟨c6, ⟨b6, rfl, q6⟩, rfl⟩
        refine k_Pa_readElement_80 ok E (bI_nar _) ⟨_, ⟨b6, rfl, t5.trans q6⟩, rfl⟩ (Nat.le_refl _) (Nat.le_refl _)
      · refine k_Pa_readElement_65 ok rW_34 (pa_readBound t5.2 he) (gF_h E.nR (by decide) (by decide)) (fun _ _ q => qC_len q) ?_
        rintro r M' ⟨c6, ⟨b6, rfl, q6⟩, rfl⟩
        refine k_Pa_readElement_71 ok ?_
        refine k_Pa_readElement_80 ok E (bI_nar _) ⟨_, ⟨b6, rfl, t5.trans q6⟩, rfl⟩ (Nat.le_refl _) (Nat.le_refl _)
  · refine k_Pa_readElement_14 ok E ⟨_, ⟨false, rfl, q⟩, rfl⟩ (Nat.le_refl _) (Nat.le_refl _)
theorem pa_readGroup_3 (h : QIc c) (x : Int32) : mm_ l y_Pa_readGroup w_Pa_readGroup (rmh 6) [.ref 34, .int x, .int (nI 3)] (W9 c m o) (qC m o (pB c)) := by
  refine mm_intro (by decide) (Nat.le_of_ble_eq_true rfl) i_Pa_readGroup (fun X ok E => ?_)
  refine k_Pa_readGroup_0 ok rW_34 rF_Pa_0 rW_13 (to_isAtSign h.1 _) (gF_h E.nR (by decide) (by decide)) (fun _ _ q => qC_len q) ?_
  rintro r M' ⟨c, ⟨rfl, rfl⟩, rfl⟩
  have no : gg X (W9 c m o) 0 0 17 [] [] := by
    refine k_Pa_readGroup_17 ok E ⟨_, ⟨false, rfl, Pz.refl h⟩, rfl⟩ (Nat.le_refl _) (Nat.le_refl _)
  refine k_Pa_readGroup_9 ok (fun z => ?_) (fun z => ?_)
  · exact no
  refine k_Pa_readGroup_12 ok (fun z => ?_) (fun z => ?_)
  · refine k_Pa_readGroup_19 ok rW_34 rF_Pa_1 rW_17 (qu_newGroup h _) (gF_h E.nR (by decide) (by decide)) (fun _ _ q => qC_len q) ?_
    rintro r M' ⟨c2, ⟨v, rfl, q⟩, rfl⟩
    refine k_Pa_readGroup_27 ok E.nL (fun z => ?_) (fun z => ?_)
    · refine k_Pa_readGroup_35 ok rW_34 rF_Pa_0 rW_13 (pt_step q.2) (gF_h E.nR (by decide) (by decide)) (fun _ _ q => qC_len q) ?_
      rintro r M' ⟨c3, ⟨rfl, q3⟩, rfl⟩
      refine k_Pa_readGroup_42 ok rW_34 rF_Pa_0 rW_13 (pt_takeSign q3.2 _) (gF_h E.nR (by decide) (by decide)) (fun _ _ q => qC_len q) ?_
      rintro r M' ⟨c4, ⟨b4, rfl, q4⟩, rfl⟩
      have t4 : Pz c c4 := q.trans (q3.trans q4)
      refine k_Pa_readGroup_51 ok (fun z => ?_) (fun z => ?_)
      · refine k_Pa_readGroup_56 ok E.nL ?_
        have L1 : ∀ r j c1, j + r = 12 → Pz c c1 → gg X (W9 c1 m o) 0 0 59 [(0, .ref 34), (2, .int (nI 3)), (3, .int v), (4, .int (nI j))] [] := by
          intro r
          induction r with
          | zero =>
            intro j c1 hj q1
            refine k_Pa_readGroup_59 ok (fun z => have z := (nLe (nL 12) rfl (by omega) (by omega) z); ?_) (fun z => have z := (nNle (nL 12) rfl (by omega) (by omega) z); ?_)
            · refine k_Pa_readGroup_105 ok E ⟨_, ⟨false, rfl, q1⟩, rfl⟩ (Nat.le_refl _) (Nat.le_refl _)
            · omega
          | succ r ih =>
            intro j c1 hj q1
            refine k_Pa_readGroup_59 ok (fun z => have z := (nLe (nL 12) rfl (by omega) (by omega) z); ?_) (fun z => have z := (nNle (nL 12) rfl (by omega) (by omega) z); ?_)
            · omega
            refine k_Pa_readGroup_66 ok rW_34 (pa_readElement_3 q1.2 _) (gF_h E.nR (by decide) (by decide)) (fun _ _ q => qC_len q) ?_
            rintro r M' ⟨c5, ⟨b5, rfl, q5⟩, rfl⟩
            refine k_Pa_readGroup_72 ok (fun z => ?_) (fun z => ?_)
            · refine k_Pa_readGroup_77 ok rW_34 rF_Pa_0 rW_13 (pt_takeSign q5.2 _) (gF_h E.nR (by decide) (by decide)) (fun _ _ q => qC_len q) ?_
              rintro r M' ⟨c6, ⟨b6, rfl, q6⟩, rfl⟩
              refine k_Pa_readGroup_86 ok (fun z => ?_) (fun z => ?_)
              · refine k_Pa_readGroup_99 ok E.nL ?_
                rw [nI_1]
                exact ih (j + 1) c6 (by omega) (q1.trans (q5.trans q6))
              · refine k_Pa_readGroup_89 ok rW_34 rF_Pa_0 rW_13 (pt_takeSign q6.2 _) (gF_h E.nR (by decide) (by decide)) (fun _ _ q => qC_len q) ?_
                rintro r M' ⟨c7, ⟨b7, rfl, q7⟩, rfl⟩
                refine k_Pa_readGroup_98 ok E (bI_nar _) ⟨_, ⟨b7, rfl, q1.trans (q5.trans (q6.trans q7))⟩, rfl⟩ (Nat.le_refl _) (Nat.le_refl _)
            · refine k_Pa_readGroup_75 ok E ⟨_, ⟨false, rfl, q1.trans q5⟩, rfl⟩ (Nat.le_refl _) (Nat.le_refl _)
        exact L1 12 0 c4 rfl t4
      · refine k_Pa_readGroup_54 ok E ⟨_, ⟨true, rfl, t4⟩, rfl⟩ (Nat.le_refl _) (Nat.le_refl _)
    · refine k_Pa_readGroup_33 ok E ⟨_, ⟨false, rfl, q⟩, rfl⟩ (Nat.le_refl _) (Nat.le_refl _)
  · exact no
theorem pa_readUnion_3 (h : QIc c) (x : Int32) : mm_ l y_Pa_readUnion w_Pa_readUnion (rmh 7) [.ref 34, .int x, .int (nI 3)] (W9 c m o) (qC m o (pB c)) := by
  refine mm_intro (by decide) (Nat.le_of_ble_eq_true rfl) i_Pa_readUnion (fun X ok E => ?_)
  refine k_Pa_readUnion_0 ok E.nL ?_
  have L1 : ∀ r j c1, j + r = 12 → Pz c c1 → gg X (W9 c1 m o) 0 0 2 [(0, .ref 34), (1, .int x), (2, .int (nI 3)), (3, .int (nI j))] [] := by
    intro r
    induction r with
    | zero =>
      intro j c1 hj q
      refine k_Pa_readUnion_2 ok (fun z => have z := (nLe (nL 12) rfl (by omega) (by omega) z); ?_) (fun z => have z := (nNle (nL 12) rfl (by omega) (by omega) z); ?_)
      · refine k_Pa_readUnion_40 ok E ⟨_, ⟨false, rfl, q⟩, rfl⟩ (Nat.le_refl _) (Nat.le_refl _)
      · omega
    | succ r ih =>
      intro j c1 hj q
      refine k_Pa_readUnion_2 ok (fun z => have z := (nLe (nL 12) rfl (by omega) (by omega) z); ?_) (fun z => have z := (nNle (nL 12) rfl (by omega) (by omega) z); ?_)
      · omega
      refine k_Pa_readUnion_8 ok rW_34 (pa_readGroup_3 q.2 _) (gF_h E.nR (by decide) (by decide)) (fun _ _ q => qC_len q) ?_
      rintro r M' ⟨c2, ⟨b, rfl, q2⟩, rfl⟩
      refine k_Pa_readUnion_14 ok (fun z => ?_) (fun z => ?_)
      · refine k_Pa_readUnion_19 ok rW_34 rF_Pa_0 rW_13 (pt_takeKey q2.2 _) (gF_h E.nR (by decide) (by decide)) (fun _ _ q => qC_len q) ?_
        rintro r M' ⟨c3, ⟨b3, rfl, q3⟩, rfl⟩
        refine k_Pa_readUnion_29 ok (fun z => ?_) (fun z => ?_)
        · refine k_Pa_readUnion_34 ok E.nL ?_
          rw [nI_1]
          exact ih (j + 1) c3 (by omega) (q.trans (q2.trans q3))
        · refine k_Pa_readUnion_32 ok E ⟨_, ⟨true, rfl, q.trans (q2.trans q3)⟩, rfl⟩ (Nat.le_refl _) (Nat.le_refl _)
      · refine k_Pa_readUnion_17 ok E ⟨_, ⟨false, rfl, q.trans q2⟩, rfl⟩ (Nat.le_refl _) (Nat.le_refl _)
  exact L1 12 0 c rfl (Pz.refl h)
theorem pa_readElement_2 (h : QIc c) (x : Int32) : mm_ l y_Pa_readElement w_Pa_readElement (rmh 8) [.ref 34, .int x, .int (nI 2)] (W9 c m o) (qC m o (pB c)) := by
  refine mm_intro (by decide) (Nat.le_of_ble_eq_true rfl) i_Pa_readElement (fun X ok E => ?_)
  refine k_Pa_readElement_0 ok rW_34 rF_Pa_1 rW_17 (qu_newElement h _) (gF_h E.nR (by decide) (by decide)) (fun _ _ q => qC_len q) ?_
  rintro r M' ⟨c2, ⟨q, hr⟩, rfl⟩
  rcases hr with rfl | ⟨e, he, rfl⟩
  · refine k_Pa_readElement_8 ok E.nL (fun z => absurd rfl z) (fun _ => ?_)
    refine k_Pa_readElement_14 ok E ⟨_, ⟨false, rfl, q⟩, rfl⟩ (Nat.le_refl _) (Nat.le_refl _)
  have e1 : nI 2 + 1 = nI 3 := rfl
  refine k_Pa_readElement_8 ok E.nL (fun z => ?_) (fun z => ?_)
  · refine k_Pa_readElement_16 ok E.nL rW_34 rF_Pa_1 rW_17 rF_Qu_8 rW_20 (vin rfl (by omega) (by decide)) (qx_at q.2 he) rF_Pa_0 rW_13 (pt_takeKey q.2 _) (gF_h E.nR (by decide) (by decide)) (fun _ _ q => qC_len q) ?_
    rintro r M' ⟨c3, ⟨b, rfl, q3⟩, rfl⟩
    have t3 : Pz c c3 := q.trans q3
    refine k_Pa_readElement_37 ok (fun z => ?_) (fun z => ?_)
    · refine k_Pa_readElement_81 ok rW_34 rF_Pa_0 rW_13 (pt_takeKey t3.2 _) (gF_h E.nR (by decide) (by decide)) (fun _ _ q => qC_len q) ?_
      rintro r M' ⟨c4, ⟨b4, rfl, q4⟩, rfl⟩
      have t4 : Pz c c4 := t3.trans q4
      refine k_Pa_readElement_91 ok (fun z => ?_) (fun z => ?_)
      · refine k_Pa_readElement_109 ok rW_34 rF_Pa_0 rW_13 (pt_takeKey t4.2 _) (gF_h E.nR (by decide) (by decide)) (fun _ _ q => qC_len q) ?_
        rintro r M' ⟨c5, ⟨b5, rfl, q5⟩, rfl⟩
        have t5 : Pz c c5 := t4.trans q5
        refine k_Pa_readElement_119 ok (fun z => ?_) (fun z => ?_)
        · refine k_Pa_readElement_137 ok rW_34 rF_Pa_0 rW_13 (to_isAtSign t5.2.1 _) (gF_h E.nR (by decide) (by decide)) (fun _ _ q => qC_len q) ?_
          rintro r M' ⟨c5, ⟨rfl, rfl⟩, rfl⟩
          refine k_Pa_readElement_146 ok (fun z => ?_) (fun z => ?_)
          · refine k_Pa_readElement_164 ok (rE he) (Nat.le_refl 7) (eF0 _ _) (eS0 he) rW_34 (by omega) (pa_readPattern (by exact t5.2) he) (gF_h E.nR (by decide) (by decide)) (fun _ _ q => qC_len q) ?_
            rintro r M' ⟨c7, ⟨b7, rfl, q7⟩, rfl⟩
            refine k_Pa_readElement_176 ok E (bI_nar _) ⟨_, ⟨b7, rfl, t5.trans (by exact q7)⟩, rfl⟩ (Nat.le_refl _) (Nat.le_refl _)
          · refine k_Pa_readElement_149 ok (rE he) (Nat.le_refl 7) (eF0 _ _) (eS0 he) rW_34 (by omega) (by rw [e1]; exact pa_readUnion_3 (by exact t5.2) _) (gF_h E.nR (by decide) (by decide)) (fun _ _ q => qC_len q) ?_
            rintro r M' ⟨c7, ⟨b7, rfl, q7⟩, rfl⟩
            refine k_Pa_readElement_163 ok E (bI_nar _) ⟨_, ⟨b7, rfl, t5.trans (by exact q7)⟩, rfl⟩ (Nat.le_refl _) (Nat.le_refl _)
        · refine k_Pa_readElement_122 ok (rE he) (Nat.le_refl 7) (eF0 _ _) (eS0 he) rW_34 (by omega) (by rw [e1]; exact pa_readGroup_3 (by exact t5.2) _) (gF_h E.nR (by decide) (by decide)) (fun _ _ q => qC_len q) ?_
          rintro r M' ⟨c7, ⟨b7, rfl, q7⟩, rfl⟩
          refine k_Pa_readElement_136 ok E (bI_nar _) ⟨_, ⟨b7, rfl, t5.trans (by exact q7)⟩, rfl⟩ (Nat.le_refl _) (Nat.le_refl _)
      · refine k_Pa_readElement_94 ok (rE he) (Nat.le_refl 7) (eF0 _ _) (eS0 he) rW_34 (by omega) (by rw [e1]; exact pa_readGroup_3 (by exact t4.2) _) (gF_h E.nR (by decide) (by decide)) (fun _ _ q => qC_len q) ?_
        rintro r M' ⟨c7, ⟨b7, rfl, q7⟩, rfl⟩
        refine k_Pa_readElement_108 ok E (bI_nar _) ⟨_, ⟨b7, rfl, t4.trans (by exact q7)⟩, rfl⟩ (Nat.le_refl _) (Nat.le_refl _)
    · refine k_Pa_readElement_40 ok (rE he) (Nat.le_refl 7) (eF0 _ _) (eS0 he) rW_34 (by omega) (pa_readNots (by exact t3.2) he) (gF_h E.nR (by decide) (by decide)) (fun _ _ q => qC_len q) ?_
      rintro r M' ⟨c4, ⟨rfl, q4⟩, rfl⟩
      have t4 : Pz c c4 := t3.trans (by exact q4)
      refine k_Pa_readElement_52 ok rW_34 rF_Pa_0 rW_13 (pt_takeKey t4.2 _) (gF_h E.nR (by decide) (by decide)) (fun _ _ q => qC_len q) ?_
      rintro r M' ⟨c5, ⟨b5, rfl, q5⟩, rfl⟩
      have t5 : Pz c c5 := t4.trans q5
      refine k_Pa_readElement_62 ok (fun z => ?_) (fun z => ?_)
      · refine k_Pa_readElement_74 ok rW_34 (pa_readComparison t5.2 he) (gF_h E.nR (by decide) (by decide)) (fun _ _ q => qC_len q) ?_
        rintro r M' ⟨c6, ⟨b6, rfl, q6⟩, rfl⟩
        refine k_Pa_readElement_80 ok E (bI_nar _) ⟨_, ⟨b6, rfl, t5.trans q6⟩, rfl⟩ (Nat.le_refl _) (Nat.le_refl _)
      · refine k_Pa_readElement_65 ok rW_34 (pa_readBound t5.2 he) (gF_h E.nR (by decide) (by decide)) (fun _ _ q => qC_len q) ?_
        rintro r M' ⟨c6, ⟨b6, rfl, q6⟩, rfl⟩
        refine k_Pa_readElement_71 ok ?_
        refine k_Pa_readElement_80 ok E (bI_nar _) ⟨_, ⟨b6, rfl, t5.trans q6⟩, rfl⟩ (Nat.le_refl _) (Nat.le_refl _)
  · refine k_Pa_readElement_14 ok E ⟨_, ⟨false, rfl, q⟩, rfl⟩ (Nat.le_refl _) (Nat.le_refl _)
theorem pa_readGroup_2 (h : QIc c) (x : Int32) : mm_ l y_Pa_readGroup w_Pa_readGroup (rmh 9) [.ref 34, .int x, .int (nI 2)] (W9 c m o) (qC m o (pB c)) := by
  refine mm_intro (by decide) (Nat.le_of_ble_eq_true rfl) i_Pa_readGroup (fun X ok E => ?_)
  refine k_Pa_readGroup_0 ok rW_34 rF_Pa_0 rW_13 (to_isAtSign h.1 _) (gF_h E.nR (by decide) (by decide)) (fun _ _ q => qC_len q) ?_
  rintro r M' ⟨c, ⟨rfl, rfl⟩, rfl⟩
  have no : gg X (W9 c m o) 0 0 17 [] [] := by
    refine k_Pa_readGroup_17 ok E ⟨_, ⟨false, rfl, Pz.refl h⟩, rfl⟩ (Nat.le_refl _) (Nat.le_refl _)
  refine k_Pa_readGroup_9 ok (fun z => ?_) (fun z => ?_)
  · exact no
  refine k_Pa_readGroup_12 ok (fun z => ?_) (fun z => ?_)
  · refine k_Pa_readGroup_19 ok rW_34 rF_Pa_1 rW_17 (qu_newGroup h _) (gF_h E.nR (by decide) (by decide)) (fun _ _ q => qC_len q) ?_
    rintro r M' ⟨c2, ⟨v, rfl, q⟩, rfl⟩
    refine k_Pa_readGroup_27 ok E.nL (fun z => ?_) (fun z => ?_)
    · refine k_Pa_readGroup_35 ok rW_34 rF_Pa_0 rW_13 (pt_step q.2) (gF_h E.nR (by decide) (by decide)) (fun _ _ q => qC_len q) ?_
      rintro r M' ⟨c3, ⟨rfl, q3⟩, rfl⟩
      refine k_Pa_readGroup_42 ok rW_34 rF_Pa_0 rW_13 (pt_takeSign q3.2 _) (gF_h E.nR (by decide) (by decide)) (fun _ _ q => qC_len q) ?_
      rintro r M' ⟨c4, ⟨b4, rfl, q4⟩, rfl⟩
      have t4 : Pz c c4 := q.trans (q3.trans q4)
      refine k_Pa_readGroup_51 ok (fun z => ?_) (fun z => ?_)
      · refine k_Pa_readGroup_56 ok E.nL ?_
        have L1 : ∀ r j c1, j + r = 12 → Pz c c1 → gg X (W9 c1 m o) 0 0 59 [(0, .ref 34), (2, .int (nI 2)), (3, .int v), (4, .int (nI j))] [] := by
          intro r
          induction r with
          | zero =>
            intro j c1 hj q1
            refine k_Pa_readGroup_59 ok (fun z => have z := (nLe (nL 12) rfl (by omega) (by omega) z); ?_) (fun z => have z := (nNle (nL 12) rfl (by omega) (by omega) z); ?_)
            · refine k_Pa_readGroup_105 ok E ⟨_, ⟨false, rfl, q1⟩, rfl⟩ (Nat.le_refl _) (Nat.le_refl _)
            · omega
          | succ r ih =>
            intro j c1 hj q1
            refine k_Pa_readGroup_59 ok (fun z => have z := (nLe (nL 12) rfl (by omega) (by omega) z); ?_) (fun z => have z := (nNle (nL 12) rfl (by omega) (by omega) z); ?_)
            · omega
            refine k_Pa_readGroup_66 ok rW_34 (pa_readElement_2 q1.2 _) (gF_h E.nR (by decide) (by decide)) (fun _ _ q => qC_len q) ?_
            rintro r M' ⟨c5, ⟨b5, rfl, q5⟩, rfl⟩
            refine k_Pa_readGroup_72 ok (fun z => ?_) (fun z => ?_)
            · refine k_Pa_readGroup_77 ok rW_34 rF_Pa_0 rW_13 (pt_takeSign q5.2 _) (gF_h E.nR (by decide) (by decide)) (fun _ _ q => qC_len q) ?_
              rintro r M' ⟨c6, ⟨b6, rfl, q6⟩, rfl⟩
              refine k_Pa_readGroup_86 ok (fun z => ?_) (fun z => ?_)
              · refine k_Pa_readGroup_99 ok E.nL ?_
                rw [nI_1]
                exact ih (j + 1) c6 (by omega) (q1.trans (q5.trans q6))
              · refine k_Pa_readGroup_89 ok rW_34 rF_Pa_0 rW_13 (pt_takeSign q6.2 _) (gF_h E.nR (by decide) (by decide)) (fun _ _ q => qC_len q) ?_
                rintro r M' ⟨c7, ⟨b7, rfl, q7⟩, rfl⟩
                refine k_Pa_readGroup_98 ok E (bI_nar _) ⟨_, ⟨b7, rfl, q1.trans (q5.trans (q6.trans q7))⟩, rfl⟩ (Nat.le_refl _) (Nat.le_refl _)
            · refine k_Pa_readGroup_75 ok E ⟨_, ⟨false, rfl, q1.trans q5⟩, rfl⟩ (Nat.le_refl _) (Nat.le_refl _)
        exact L1 12 0 c4 rfl t4
      · refine k_Pa_readGroup_54 ok E ⟨_, ⟨true, rfl, t4⟩, rfl⟩ (Nat.le_refl _) (Nat.le_refl _)
    · refine k_Pa_readGroup_33 ok E ⟨_, ⟨false, rfl, q⟩, rfl⟩ (Nat.le_refl _) (Nat.le_refl _)
  · exact no
theorem pa_readUnion_2 (h : QIc c) (x : Int32) : mm_ l y_Pa_readUnion w_Pa_readUnion (rmh 10) [.ref 34, .int x, .int (nI 2)] (W9 c m o) (qC m o (pB c)) := by
  refine mm_intro (by decide) (Nat.le_of_ble_eq_true rfl) i_Pa_readUnion (fun X ok E => ?_)
  refine k_Pa_readUnion_0 ok E.nL ?_
  have L1 : ∀ r j c1, j + r = 12 → Pz c c1 → gg X (W9 c1 m o) 0 0 2 [(0, .ref 34), (1, .int x), (2, .int (nI 2)), (3, .int (nI j))] [] := by
    intro r
    induction r with
    | zero =>
      intro j c1 hj q
      refine k_Pa_readUnion_2 ok (fun z => have z := (nLe (nL 12) rfl (by omega) (by omega) z); ?_) (fun z => have z := (nNle (nL 12) rfl (by omega) (by omega) z); ?_)
      · refine k_Pa_readUnion_40 ok E ⟨_, ⟨false, rfl, q⟩, rfl⟩ (Nat.le_refl _) (Nat.le_refl _)
      · omega
    | succ r ih =>
      intro j c1 hj q
      refine k_Pa_readUnion_2 ok (fun z => have z := (nLe (nL 12) rfl (by omega) (by omega) z); ?_) (fun z => have z := (nNle (nL 12) rfl (by omega) (by omega) z); ?_)
      · omega
      refine k_Pa_readUnion_8 ok rW_34 (pa_readGroup_2 q.2 _) (gF_h E.nR (by decide) (by decide)) (fun _ _ q => qC_len q) ?_
      rintro r M' ⟨c2, ⟨b, rfl, q2⟩, rfl⟩
      refine k_Pa_readUnion_14 ok (fun z => ?_) (fun z => ?_)
      · refine k_Pa_readUnion_19 ok rW_34 rF_Pa_0 rW_13 (pt_takeKey q2.2 _) (gF_h E.nR (by decide) (by decide)) (fun _ _ q => qC_len q) ?_
        rintro r M' ⟨c3, ⟨b3, rfl, q3⟩, rfl⟩
        refine k_Pa_readUnion_29 ok (fun z => ?_) (fun z => ?_)
        · refine k_Pa_readUnion_34 ok E.nL ?_
          rw [nI_1]
          exact ih (j + 1) c3 (by omega) (q.trans (q2.trans q3))
        · refine k_Pa_readUnion_32 ok E ⟨_, ⟨true, rfl, q.trans (q2.trans q3)⟩, rfl⟩ (Nat.le_refl _) (Nat.le_refl _)
      · refine k_Pa_readUnion_17 ok E ⟨_, ⟨false, rfl, q.trans q2⟩, rfl⟩ (Nat.le_refl _) (Nat.le_refl _)
  exact L1 12 0 c rfl (Pz.refl h)
theorem pa_readElement_1 (h : QIc c) (x : Int32) : mm_ l y_Pa_readElement w_Pa_readElement (rmh 11) [.ref 34, .int x, .int (nI 1)] (W9 c m o) (qC m o (pB c)) := by
  refine mm_intro (by decide) (Nat.le_of_ble_eq_true rfl) i_Pa_readElement (fun X ok E => ?_)
  refine k_Pa_readElement_0 ok rW_34 rF_Pa_1 rW_17 (qu_newElement h _) (gF_h E.nR (by decide) (by decide)) (fun _ _ q => qC_len q) ?_
  rintro r M' ⟨c2, ⟨q, hr⟩, rfl⟩
  rcases hr with rfl | ⟨e, he, rfl⟩
  · refine k_Pa_readElement_8 ok E.nL (fun z => absurd rfl z) (fun _ => ?_)
    refine k_Pa_readElement_14 ok E ⟨_, ⟨false, rfl, q⟩, rfl⟩ (Nat.le_refl _) (Nat.le_refl _)
  have e1 : nI 1 + 1 = nI 2 := rfl
  refine k_Pa_readElement_8 ok E.nL (fun z => ?_) (fun z => ?_)
  · refine k_Pa_readElement_16 ok E.nL rW_34 rF_Pa_1 rW_17 rF_Qu_8 rW_20 (vin rfl (by omega) (by decide)) (qx_at q.2 he) rF_Pa_0 rW_13 (pt_takeKey q.2 _) (gF_h E.nR (by decide) (by decide)) (fun _ _ q => qC_len q) ?_
    rintro r M' ⟨c3, ⟨b, rfl, q3⟩, rfl⟩
    have t3 : Pz c c3 := q.trans q3
    refine k_Pa_readElement_37 ok (fun z => ?_) (fun z => ?_)
    · refine k_Pa_readElement_81 ok rW_34 rF_Pa_0 rW_13 (pt_takeKey t3.2 _) (gF_h E.nR (by decide) (by decide)) (fun _ _ q => qC_len q) ?_
      rintro r M' ⟨c4, ⟨b4, rfl, q4⟩, rfl⟩
      have t4 : Pz c c4 := t3.trans q4
      refine k_Pa_readElement_91 ok (fun z => ?_) (fun z => ?_)
      · refine k_Pa_readElement_109 ok rW_34 rF_Pa_0 rW_13 (pt_takeKey t4.2 _) (gF_h E.nR (by decide) (by decide)) (fun _ _ q => qC_len q) ?_
        rintro r M' ⟨c5, ⟨b5, rfl, q5⟩, rfl⟩
        have t5 : Pz c c5 := t4.trans q5
        refine k_Pa_readElement_119 ok (fun z => ?_) (fun z => ?_)
        · refine k_Pa_readElement_137 ok rW_34 rF_Pa_0 rW_13 (to_isAtSign t5.2.1 _) (gF_h E.nR (by decide) (by decide)) (fun _ _ q => qC_len q) ?_
          rintro r M' ⟨c5, ⟨rfl, rfl⟩, rfl⟩
          refine k_Pa_readElement_146 ok (fun z => ?_) (fun z => ?_)
          · refine k_Pa_readElement_164 ok (rE he) (Nat.le_refl 7) (eF0 _ _) (eS0 he) rW_34 (by omega) (pa_readPattern (by exact t5.2) he) (gF_h E.nR (by decide) (by decide)) (fun _ _ q => qC_len q) ?_
            rintro r M' ⟨c7, ⟨b7, rfl, q7⟩, rfl⟩
            refine k_Pa_readElement_176 ok E (bI_nar _) ⟨_, ⟨b7, rfl, t5.trans (by exact q7)⟩, rfl⟩ (Nat.le_refl _) (Nat.le_refl _)
          · refine k_Pa_readElement_149 ok (rE he) (Nat.le_refl 7) (eF0 _ _) (eS0 he) rW_34 (by omega) (by rw [e1]; exact pa_readUnion_2 (by exact t5.2) _) (gF_h E.nR (by decide) (by decide)) (fun _ _ q => qC_len q) ?_
            rintro r M' ⟨c7, ⟨b7, rfl, q7⟩, rfl⟩
            refine k_Pa_readElement_163 ok E (bI_nar _) ⟨_, ⟨b7, rfl, t5.trans (by exact q7)⟩, rfl⟩ (Nat.le_refl _) (Nat.le_refl _)
        · refine k_Pa_readElement_122 ok (rE he) (Nat.le_refl 7) (eF0 _ _) (eS0 he) rW_34 (by omega) (by rw [e1]; exact pa_readGroup_2 (by exact t5.2) _) (gF_h E.nR (by decide) (by decide)) (fun _ _ q => qC_len q) ?_
          rintro r M' ⟨c7, ⟨b7, rfl, q7⟩, rfl⟩
          refine k_Pa_readElement_136 ok E (bI_nar _) ⟨_, ⟨b7, rfl, t5.trans (by exact q7)⟩, rfl⟩ (Nat.le_refl _) (Nat.le_refl _)
      · refine k_Pa_readElement_94 ok (rE he) (Nat.le_refl 7) (eF0 _ _) (eS0 he) rW_34 (by omega) (by rw [e1]; exact pa_readGroup_2 (by exact t4.2) _) (gF_h E.nR (by decide) (by decide)) (fun _ _ q => qC_len q) ?_
        rintro r M' ⟨c7, ⟨b7, rfl, q7⟩, rfl⟩
        refine k_Pa_readElement_108 ok E (bI_nar _) ⟨_, ⟨b7, rfl, t4.trans (by exact q7)⟩, rfl⟩ (Nat.le_refl _) (Nat.le_refl _)
    · refine k_Pa_readElement_40 ok (rE he) (Nat.le_refl 7) (eF0 _ _) (eS0 he) rW_34 (by omega) (pa_readNots (by exact t3.2) he) (gF_h E.nR (by decide) (by decide)) (fun _ _ q => qC_len q) ?_
      rintro r M' ⟨c4, ⟨rfl, q4⟩, rfl⟩
      have t4 : Pz c c4 := t3.trans (by exact q4)
      refine k_Pa_readElement_52 ok rW_34 rF_Pa_0 rW_13 (pt_takeKey t4.2 _) (gF_h E.nR (by decide) (by decide)) (fun _ _ q => qC_len q) ?_
      rintro r M' ⟨c5, ⟨b5, rfl, q5⟩, rfl⟩
      have t5 : Pz c c5 := t4.trans q5
      refine k_Pa_readElement_62 ok (fun z => ?_) (fun z => ?_)
      · refine k_Pa_readElement_74 ok rW_34 (pa_readComparison t5.2 he) (gF_h E.nR (by decide) (by decide)) (fun _ _ q => qC_len q) ?_
        rintro r M' ⟨c6, ⟨b6, rfl, q6⟩, rfl⟩
        refine k_Pa_readElement_80 ok E (bI_nar _) ⟨_, ⟨b6, rfl, t5.trans q6⟩, rfl⟩ (Nat.le_refl _) (Nat.le_refl _)
      · refine k_Pa_readElement_65 ok rW_34 (pa_readBound t5.2 he) (gF_h E.nR (by decide) (by decide)) (fun _ _ q => qC_len q) ?_
        rintro r M' ⟨c6, ⟨b6, rfl, q6⟩, rfl⟩
        refine k_Pa_readElement_71 ok ?_
        refine k_Pa_readElement_80 ok E (bI_nar _) ⟨_, ⟨b6, rfl, t5.trans q6⟩, rfl⟩ (Nat.le_refl _) (Nat.le_refl _)
  · refine k_Pa_readElement_14 ok E ⟨_, ⟨false, rfl, q⟩, rfl⟩ (Nat.le_refl _) (Nat.le_refl _)
theorem pa_readGroup_1 (h : QIc c) (x : Int32) : mm_ l y_Pa_readGroup w_Pa_readGroup (rmh 12) [.ref 34, .int x, .int (nI 1)] (W9 c m o) (qC m o (pB c)) := by
  refine mm_intro (by decide) (Nat.le_of_ble_eq_true rfl) i_Pa_readGroup (fun X ok E => ?_)
  refine k_Pa_readGroup_0 ok rW_34 rF_Pa_0 rW_13 (to_isAtSign h.1 _) (gF_h E.nR (by decide) (by decide)) (fun _ _ q => qC_len q) ?_
  rintro r M' ⟨c, ⟨rfl, rfl⟩, rfl⟩
  have no : gg X (W9 c m o) 0 0 17 [] [] := by
    refine k_Pa_readGroup_17 ok E ⟨_, ⟨false, rfl, Pz.refl h⟩, rfl⟩ (Nat.le_refl _) (Nat.le_refl _)
  refine k_Pa_readGroup_9 ok (fun z => ?_) (fun z => ?_)
  · exact no
  refine k_Pa_readGroup_12 ok (fun z => ?_) (fun z => ?_)
  · refine k_Pa_readGroup_19 ok rW_34 rF_Pa_1 rW_17 (qu_newGroup h _) (gF_h E.nR (by decide) (by decide)) (fun _ _ q => qC_len q) ?_
    rintro r M' ⟨c2, ⟨v, rfl, q⟩, rfl⟩
    refine k_Pa_readGroup_27 ok E.nL (fun z => ?_) (fun z => ?_)
    · refine k_Pa_readGroup_35 ok rW_34 rF_Pa_0 rW_13 (pt_step q.2) (gF_h E.nR (by decide) (by decide)) (fun _ _ q => qC_len q) ?_
      rintro r M' ⟨c3, ⟨rfl, q3⟩, rfl⟩
      refine k_Pa_readGroup_42 ok rW_34 rF_Pa_0 rW_13 (pt_takeSign q3.2 _) (gF_h E.nR (by decide) (by decide)) (fun _ _ q => qC_len q) ?_
      rintro r M' ⟨c4, ⟨b4, rfl, q4⟩, rfl⟩
      have t4 : Pz c c4 := q.trans (q3.trans q4)
      refine k_Pa_readGroup_51 ok (fun z => ?_) (fun z => ?_)
      · refine k_Pa_readGroup_56 ok E.nL ?_
        have L1 : ∀ r j c1, j + r = 12 → Pz c c1 → gg X (W9 c1 m o) 0 0 59 [(0, .ref 34), (2, .int (nI 1)), (3, .int v), (4, .int (nI j))] [] := by
          intro r
          induction r with
          | zero =>
            intro j c1 hj q1
            refine k_Pa_readGroup_59 ok (fun z => have z := (nLe (nL 12) rfl (by omega) (by omega) z); ?_) (fun z => have z := (nNle (nL 12) rfl (by omega) (by omega) z); ?_)
            · refine k_Pa_readGroup_105 ok E ⟨_, ⟨false, rfl, q1⟩, rfl⟩ (Nat.le_refl _) (Nat.le_refl _)
            · omega
          | succ r ih =>
            intro j c1 hj q1
            refine k_Pa_readGroup_59 ok (fun z => have z := (nLe (nL 12) rfl (by omega) (by omega) z); ?_) (fun z => have z := (nNle (nL 12) rfl (by omega) (by omega) z); ?_)
            · omega
            refine k_Pa_readGroup_66 ok rW_34 (pa_readElement_1 q1.2 _) (gF_h E.nR (by decide) (by decide)) (fun _ _ q => qC_len q) ?_
            rintro r M' ⟨c5, ⟨b5, rfl, q5⟩, rfl⟩
            refine k_Pa_readGroup_72 ok (fun z => ?_) (fun z => ?_)
            · refine k_Pa_readGroup_77 ok rW_34 rF_Pa_0 rW_13 (pt_takeSign q5.2 _) (gF_h E.nR (by decide) (by decide)) (fun _ _ q => qC_len q) ?_
              rintro r M' ⟨c6, ⟨b6, rfl, q6⟩, rfl⟩
              refine k_Pa_readGroup_86 ok (fun z => ?_) (fun z => ?_)
              · refine k_Pa_readGroup_99 ok E.nL ?_
                rw [nI_1]
                exact ih (j + 1) c6 (by omega) (q1.trans (q5.trans q6))
              · refine k_Pa_readGroup_89 ok rW_34 rF_Pa_0 rW_13 (pt_takeSign q6.2 _) (gF_h E.nR (by decide) (by decide)) (fun _ _ q => qC_len q) ?_
                rintro r M' ⟨c7, ⟨b7, rfl, q7⟩, rfl⟩
                refine k_Pa_readGroup_98 ok E (bI_nar _) ⟨_, ⟨b7, rfl, q1.trans (q5.trans (q6.trans q7))⟩, rfl⟩ (Nat.le_refl _) (Nat.le_refl _)
            · refine k_Pa_readGroup_75 ok E ⟨_, ⟨false, rfl, q1.trans q5⟩, rfl⟩ (Nat.le_refl _) (Nat.le_refl _)
        exact L1 12 0 c4 rfl t4
      · refine k_Pa_readGroup_54 ok E ⟨_, ⟨true, rfl, t4⟩, rfl⟩ (Nat.le_refl _) (Nat.le_refl _)
    · refine k_Pa_readGroup_33 ok E ⟨_, ⟨false, rfl, q⟩, rfl⟩ (Nat.le_refl _) (Nat.le_refl _)
  · exact no
theorem pa_readUnion_1 (h : QIc c) (x : Int32) : mm_ l y_Pa_readUnion w_Pa_readUnion (rmh 13) [.ref 34, .int x, .int (nI 1)] (W9 c m o) (qC m o (pB c)) := by
  refine mm_intro (by decide) (Nat.le_of_ble_eq_true rfl) i_Pa_readUnion (fun X ok E => ?_)
  refine k_Pa_readUnion_0 ok E.nL ?_
  have L1 : ∀ r j c1, j + r = 12 → Pz c c1 → gg X (W9 c1 m o) 0 0 2 [(0, .ref 34), (1, .int x), (2, .int (nI 1)), (3, .int (nI j))] [] := by
    intro r
    induction r with
    | zero =>
      intro j c1 hj q
      refine k_Pa_readUnion_2 ok (fun z => have z := (nLe (nL 12) rfl (by omega) (by omega) z); ?_) (fun z => have z := (nNle (nL 12) rfl (by omega) (by omega) z); ?_)
      · refine k_Pa_readUnion_40 ok E ⟨_, ⟨false, rfl, q⟩, rfl⟩ (Nat.le_refl _) (Nat.le_refl _)
      · omega
    | succ r ih =>
      intro j c1 hj q
      refine k_Pa_readUnion_2 ok (fun z => have z := (nLe (nL 12) rfl (by omega) (by omega) z); ?_) (fun z => have z := (nNle (nL 12) rfl (by omega) (by omega) z); ?_)
      · omega
      refine k_Pa_readUnion_8 ok rW_34 (pa_readGroup_1 q.2 _) (gF_h E.nR (by decide) (by decide)) (fun _ _ q => qC_len q) ?_
      rintro r M' ⟨c2, ⟨b, rfl, q2⟩, rfl⟩
      refine k_Pa_readUnion_14 ok (fun z => ?_) (fun z => ?_)
      · refine k_Pa_readUnion_19 ok rW_34 rF_Pa_0 rW_13 (pt_takeKey q2.2 _) (gF_h E.nR (by decide) (by decide)) (fun _ _ q => qC_len q) ?_
        rintro r M' ⟨c3, ⟨b3, rfl, q3⟩, rfl⟩
        refine k_Pa_readUnion_29 ok (fun z => ?_) (fun z => ?_)
        · refine k_Pa_readUnion_34 ok E.nL ?_
          rw [nI_1]
          exact ih (j + 1) c3 (by omega) (q.trans (q2.trans q3))
        · refine k_Pa_readUnion_32 ok E ⟨_, ⟨true, rfl, q.trans (q2.trans q3)⟩, rfl⟩ (Nat.le_refl _) (Nat.le_refl _)
      · refine k_Pa_readUnion_17 ok E ⟨_, ⟨false, rfl, q.trans q2⟩, rfl⟩ (Nat.le_refl _) (Nat.le_refl _)
  exact L1 12 0 c rfl (Pz.refl h)
theorem pa_readElement_0 (h : QIc c) (x : Int32) : mm_ l y_Pa_readElement w_Pa_readElement (rmh 14) [.ref 34, .int x, .int (nI 0)] (W9 c m o) (qC m o (pB c)) := by
  refine mm_intro (by decide) (Nat.le_of_ble_eq_true rfl) i_Pa_readElement (fun X ok E => ?_)
  refine k_Pa_readElement_0 ok rW_34 rF_Pa_1 rW_17 (qu_newElement h _) (gF_h E.nR (by decide) (by decide)) (fun _ _ q => qC_len q) ?_
  rintro r M' ⟨c2, ⟨q, hr⟩, rfl⟩
  rcases hr with rfl | ⟨e, he, rfl⟩
  · refine k_Pa_readElement_8 ok E.nL (fun z => absurd rfl z) (fun _ => ?_)
    refine k_Pa_readElement_14 ok E ⟨_, ⟨false, rfl, q⟩, rfl⟩ (Nat.le_refl _) (Nat.le_refl _)
  have e1 : nI 0 + 1 = nI 1 := rfl
  refine k_Pa_readElement_8 ok E.nL (fun z => ?_) (fun z => ?_)
  · refine k_Pa_readElement_16 ok E.nL rW_34 rF_Pa_1 rW_17 rF_Qu_8 rW_20 (vin rfl (by omega) (by decide)) (qx_at q.2 he) rF_Pa_0 rW_13 (pt_takeKey q.2 _) (gF_h E.nR (by decide) (by decide)) (fun _ _ q => qC_len q) ?_
    rintro r M' ⟨c3, ⟨b, rfl, q3⟩, rfl⟩
    have t3 : Pz c c3 := q.trans q3
    refine k_Pa_readElement_37 ok (fun z => ?_) (fun z => ?_)
    · refine k_Pa_readElement_81 ok rW_34 rF_Pa_0 rW_13 (pt_takeKey t3.2 _) (gF_h E.nR (by decide) (by decide)) (fun _ _ q => qC_len q) ?_
      rintro r M' ⟨c4, ⟨b4, rfl, q4⟩, rfl⟩
      have t4 : Pz c c4 := t3.trans q4
      refine k_Pa_readElement_91 ok (fun z => ?_) (fun z => ?_)
      · refine k_Pa_readElement_109 ok rW_34 rF_Pa_0 rW_13 (pt_takeKey t4.2 _) (gF_h E.nR (by decide) (by decide)) (fun _ _ q => qC_len q) ?_
        rintro r M' ⟨c5, ⟨b5, rfl, q5⟩, rfl⟩
        have t5 : Pz c c5 := t4.trans q5
        refine k_Pa_readElement_119 ok (fun z => ?_) (fun z => ?_)
        · refine k_Pa_readElement_137 ok rW_34 rF_Pa_0 rW_13 (to_isAtSign t5.2.1 _) (gF_h E.nR (by decide) (by decide)) (fun _ _ q => qC_len q) ?_
          rintro r M' ⟨c5, ⟨rfl, rfl⟩, rfl⟩
          refine k_Pa_readElement_146 ok (fun z => ?_) (fun z => ?_)
          · refine k_Pa_readElement_164 ok (rE he) (Nat.le_refl 7) (eF0 _ _) (eS0 he) rW_34 (by omega) (pa_readPattern (by exact t5.2) he) (gF_h E.nR (by decide) (by decide)) (fun _ _ q => qC_len q) ?_
            rintro r M' ⟨c7, ⟨b7, rfl, q7⟩, rfl⟩
            refine k_Pa_readElement_176 ok E (bI_nar _) ⟨_, ⟨b7, rfl, t5.trans (by exact q7)⟩, rfl⟩ (Nat.le_refl _) (Nat.le_refl _)
          · refine k_Pa_readElement_149 ok (rE he) (Nat.le_refl 7) (eF0 _ _) (eS0 he) rW_34 (by omega) (by rw [e1]; exact pa_readUnion_1 (by exact t5.2) _) (gF_h E.nR (by decide) (by decide)) (fun _ _ q => qC_len q) ?_
            rintro r M' ⟨c7, ⟨b7, rfl, q7⟩, rfl⟩
            refine k_Pa_readElement_163 ok E (bI_nar _) ⟨_, ⟨b7, rfl, t5.trans (by exact q7)⟩, rfl⟩ (Nat.le_refl _) (Nat.le_refl _)
        · refine k_Pa_readElement_122 ok (rE he) (Nat.le_refl 7) (eF0 _ _) (eS0 he) rW_34 (by omega) (by rw [e1]; exact pa_readGroup_1 (by exact t5.2) _) (gF_h E.nR (by decide) (by decide)) (fun _ _ q => qC_len q) ?_
          rintro r M' ⟨c7, ⟨b7, rfl, q7⟩, rfl⟩
          refine k_Pa_readElement_136 ok E (bI_nar _) ⟨_, ⟨b7, rfl, t5.trans (by exact q7)⟩, rfl⟩ (Nat.le_refl _) (Nat.le_refl _)
      · refine k_Pa_readElement_94 ok (rE he) (Nat.le_refl 7) (eF0 _ _) (eS0 he) rW_34 (by omega) (by rw [e1]; exact pa_readGroup_1 (by exact t4.2) _) (gF_h E.nR (by decide) (by decide)) (fun _ _ q => qC_len q) ?_
        rintro r M' ⟨c7, ⟨b7, rfl, q7⟩, rfl⟩
        refine k_Pa_readElement_108 ok E (bI_nar _) ⟨_, ⟨b7, rfl, t4.trans (by exact q7)⟩, rfl⟩ (Nat.le_refl _) (Nat.le_refl _)
    · refine k_Pa_readElement_40 ok (rE he) (Nat.le_refl 7) (eF0 _ _) (eS0 he) rW_34 (by omega) (pa_readNots (by exact t3.2) he) (gF_h E.nR (by decide) (by decide)) (fun _ _ q => qC_len q) ?_
      rintro r M' ⟨c4, ⟨rfl, q4⟩, rfl⟩
      have t4 : Pz c c4 := t3.trans (by exact q4)
      refine k_Pa_readElement_52 ok rW_34 rF_Pa_0 rW_13 (pt_takeKey t4.2 _) (gF_h E.nR (by decide) (by decide)) (fun _ _ q => qC_len q) ?_
      rintro r M' ⟨c5, ⟨b5, rfl, q5⟩, rfl⟩
      have t5 : Pz c c5 := t4.trans q5
      refine k_Pa_readElement_62 ok (fun z => ?_) (fun z => ?_)
      · refine k_Pa_readElement_74 ok rW_34 (pa_readComparison t5.2 he) (gF_h E.nR (by decide) (by decide)) (fun _ _ q => qC_len q) ?_
        rintro r M' ⟨c6, ⟨b6, rfl, q6⟩, rfl⟩
        refine k_Pa_readElement_80 ok E (bI_nar _) ⟨_, ⟨b6, rfl, t5.trans q6⟩, rfl⟩ (Nat.le_refl _) (Nat.le_refl _)
      · refine k_Pa_readElement_65 ok rW_34 (pa_readBound t5.2 he) (gF_h E.nR (by decide) (by decide)) (fun _ _ q => qC_len q) ?_
        rintro r M' ⟨c6, ⟨b6, rfl, q6⟩, rfl⟩
        refine k_Pa_readElement_71 ok ?_
        refine k_Pa_readElement_80 ok E (bI_nar _) ⟨_, ⟨b6, rfl, t5.trans q6⟩, rfl⟩ (Nat.le_refl _) (Nat.le_refl _)
  · refine k_Pa_readElement_14 ok E ⟨_, ⟨false, rfl, q⟩, rfl⟩ (Nat.le_refl _) (Nat.le_refl _)
theorem pa_readGroup_0 (h : QIc c) (x : Int32) : mm_ l y_Pa_readGroup w_Pa_readGroup (rmh 15) [.ref 34, .int x, .int (nI 0)] (W9 c m o) (qC m o (pB c)) := by
  refine mm_intro (by decide) (Nat.le_of_ble_eq_true rfl) i_Pa_readGroup (fun X ok E => ?_)
  refine k_Pa_readGroup_0 ok rW_34 rF_Pa_0 rW_13 (to_isAtSign h.1 _) (gF_h E.nR (by decide) (by decide)) (fun _ _ q => qC_len q) ?_
  rintro r M' ⟨c, ⟨rfl, rfl⟩, rfl⟩
  have no : gg X (W9 c m o) 0 0 17 [] [] := by
    refine k_Pa_readGroup_17 ok E ⟨_, ⟨false, rfl, Pz.refl h⟩, rfl⟩ (Nat.le_refl _) (Nat.le_refl _)
  refine k_Pa_readGroup_9 ok (fun z => ?_) (fun z => ?_)
  · exact no
  refine k_Pa_readGroup_12 ok (fun z => ?_) (fun z => ?_)
  · refine k_Pa_readGroup_19 ok rW_34 rF_Pa_1 rW_17 (qu_newGroup h _) (gF_h E.nR (by decide) (by decide)) (fun _ _ q => qC_len q) ?_
    rintro r M' ⟨c2, ⟨v, rfl, q⟩, rfl⟩
    refine k_Pa_readGroup_27 ok E.nL (fun z => ?_) (fun z => ?_)
    · refine k_Pa_readGroup_35 ok rW_34 rF_Pa_0 rW_13 (pt_step q.2) (gF_h E.nR (by decide) (by decide)) (fun _ _ q => qC_len q) ?_
      rintro r M' ⟨c3, ⟨rfl, q3⟩, rfl⟩
      refine k_Pa_readGroup_42 ok rW_34 rF_Pa_0 rW_13 (pt_takeSign q3.2 _) (gF_h E.nR (by decide) (by decide)) (fun _ _ q => qC_len q) ?_
      rintro r M' ⟨c4, ⟨b4, rfl, q4⟩, rfl⟩
      have t4 : Pz c c4 := q.trans (q3.trans q4)
      refine k_Pa_readGroup_51 ok (fun z => ?_) (fun z => ?_)
      · refine k_Pa_readGroup_56 ok E.nL ?_
        have L1 : ∀ r j c1, j + r = 12 → Pz c c1 → gg X (W9 c1 m o) 0 0 59 [(0, .ref 34), (2, .int (nI 0)), (3, .int v), (4, .int (nI j))] [] := by
          intro r
          induction r with
          | zero =>
            intro j c1 hj q1
            refine k_Pa_readGroup_59 ok (fun z => have z := (nLe (nL 12) rfl (by omega) (by omega) z); ?_) (fun z => have z := (nNle (nL 12) rfl (by omega) (by omega) z); ?_)
            · refine k_Pa_readGroup_105 ok E ⟨_, ⟨false, rfl, q1⟩, rfl⟩ (Nat.le_refl _) (Nat.le_refl _)
            · omega
          | succ r ih =>
            intro j c1 hj q1
            refine k_Pa_readGroup_59 ok (fun z => have z := (nLe (nL 12) rfl (by omega) (by omega) z); ?_) (fun z => have z := (nNle (nL 12) rfl (by omega) (by omega) z); ?_)
            · omega
            refine k_Pa_readGroup_66 ok rW_34 (pa_readElement_0 q1.2 _) (gF_h E.nR (by decide) (by decide)) (fun _ _ q => qC_len q) ?_
            rintro r M' ⟨c5, ⟨b5, rfl, q5⟩, rfl⟩
            refine k_Pa_readGroup_72 ok (fun z => ?_) (fun z => ?_)
            · refine k_Pa_readGroup_77 ok rW_34 rF_Pa_0 rW_13 (pt_takeSign q5.2 _) (gF_h E.nR (by decide) (by decide)) (fun _ _ q => qC_len q) ?_
              rintro r M' ⟨c6, ⟨b6, rfl, q6⟩, rfl⟩
              refine k_Pa_readGroup_86 ok (fun z => ?_) (fun z => ?_)
              · refine k_Pa_readGroup_99 ok E.nL ?_
                rw [nI_1]
                exact ih (j + 1) c6 (by omega) (q1.trans (q5.trans q6))
              · refine k_Pa_readGroup_89 ok rW_34 rF_Pa_0 rW_13 (pt_takeSign q6.2 _) (gF_h E.nR (by decide) (by decide)) (fun _ _ q => qC_len q) ?_
                rintro r M' ⟨c7, ⟨b7, rfl, q7⟩, rfl⟩
                refine k_Pa_readGroup_98 ok E (bI_nar _) ⟨_, ⟨b7, rfl, q1.trans (q5.trans (q6.trans q7))⟩, rfl⟩ (Nat.le_refl _) (Nat.le_refl _)
            · refine k_Pa_readGroup_75 ok E ⟨_, ⟨false, rfl, q1.trans q5⟩, rfl⟩ (Nat.le_refl _) (Nat.le_refl _)
        exact L1 12 0 c4 rfl t4
      · refine k_Pa_readGroup_54 ok E ⟨_, ⟨true, rfl, t4⟩, rfl⟩ (Nat.le_refl _) (Nat.le_refl _)
    · refine k_Pa_readGroup_33 ok E ⟨_, ⟨false, rfl, q⟩, rfl⟩ (Nat.le_refl _) (Nat.le_refl _)
  · exact no
theorem pa_readQuery (hc : c.cur) (hx : ∀ i, i < 12 → c.qx i = some (22 + i)) : mm_ l y_Pa_readQuery w_Pa_readQuery (rmh 16) [.ref 34] (W9 c m o) (qC m o (pB c)) := by
  refine mm_intro (by decide) (Nat.le_of_ble_eq_true rfl) i_Pa_readQuery (fun X ok E => ?_)
  refine k_Pa_readQuery_0 ok rW_34 rF_Pa_1 rW_17 qu_clear (gF_h E.nR (by decide) (by decide)) (fun _ _ q => qC_len q) ?_
  rintro r M' ⟨c2, ⟨rfl, rfl⟩, rfl⟩
  have t0 : Pz c c.d_qcl := ⟨⟨rfl, rfl, rfl⟩, hc, Nat.zero_le _, Nat.zero_le _, Nat.zero_le _, Nat.zero_le _, hx⟩
  have k65 : ∀ c1 (b : Bool), Pz c c1 → gg X (W9 c1 m o) 0 0 65 [] [.int (bI b)] := by
    intro c1 b q
    refine k_Pa_readQuery_65 ok E (bI_nar _) ⟨_, ⟨b, rfl, q⟩, rfl⟩ (Nat.le_refl _) (Nat.le_refl _)
  have no : ∀ c1, Pz c c1 → gg X (W9 c1 m o) 0 0 64 [] [] := by
    intro c1 q
    refine k_Pa_readQuery_64 ok ?_
    exact k65 c1 false q
  refine k_Pa_readQuery_7 ok rW_34 rF_Pa_0 rW_13 (pt_takeKey t0.2 _) (gF_h E.nR (by decide) (by decide)) (fun _ _ q => qC_len q) ?_
  rintro r M' ⟨c2, ⟨b2, rfl, q2⟩, rfl⟩
  have t2 : Pz c c2 := t0.trans q2
  refine k_Pa_readQuery_17 ok (fun z => ?_) (fun z => ?_)
  · exact no c2 t2
  refine k_Pa_readQuery_20 ok rW_34 (pa_readSelected t2.2) (gF_h E.nR (by decide) (by decide)) (fun _ _ q => qC_len q) ?_
  rintro r M' ⟨c3, ⟨b3, rfl, q3⟩, rfl⟩
  have t3 : Pz c c3 := t2.trans q3
  refine k_Pa_readQuery_24 ok (fun z => ?_) (fun z => ?_)
  · exact no c3 t3
  refine k_Pa_readQuery_27 ok rW_34 (pa_readGroup_0 t3.2 _) (gF_h E.nR (by decide) (by decide)) (fun _ _ q => qC_len q) ?_
  rintro r M' ⟨c4, ⟨b4, rfl, q4⟩, rfl⟩
  have t4 : Pz c c4 := t3.trans q4
  refine k_Pa_readQuery_33 ok (fun z => ?_) (fun z => ?_)
  · exact no c4 t4
  refine k_Pa_readQuery_36 ok rW_34 (pa_readOrder t4.2) (gF_h E.nR (by decide) (by decide)) (fun _ _ q => qC_len q) ?_
  rintro r M' ⟨c5, ⟨b5, rfl, q5⟩, rfl⟩
  have t5 : Pz c c5 := t4.trans q5
  refine k_Pa_readQuery_40 ok (fun z => ?_) (fun z => ?_)
  · exact no c5 t5
  refine k_Pa_readQuery_43 ok rW_34 (pa_readLimit t5.2) (gF_h E.nR (by decide) (by decide)) (fun _ _ q => qC_len q) ?_
  rintro r M' ⟨c6, ⟨b6, rfl, q6⟩, rfl⟩
  have t6 : Pz c c6 := t5.trans q6
  refine k_Pa_readQuery_47 ok (fun z => ?_) (fun z => ?_)
  · exact no c6 t6
  refine k_Pa_readQuery_50 ok rW_34 rF_Pa_0 rW_13 (to_kind t6.2.1) (gF_h E.nR (by decide) (by decide)) (fun _ _ q => qC_len q) ?_
  rintro r M' ⟨c6, ⟨rfl, rfl⟩, rfl⟩
  refine k_Pa_readQuery_57 ok (fun z => ?_) (fun z => ?_)
  · exact no c6 t6
  refine k_Pa_readQuery_60 ok ?_
  exact k65 c6 true t6
end CPa