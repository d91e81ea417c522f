/-! THE CLASS: triples and log (T1) -/
section CT1
variable {l : Launch} {c : CS} {m : MS} {o : Nat → Int64}
theorem p_T1 (h : c.tn ≤ 48) : pTr (W9 c m o) 2 3 4 5 48 c.tn c.ta c.tb c.tc := ⟨rfl, rfl, rfl, rfl, h, by decide, by decide, by decide, by decide, by decide, by decide, by decide⟩
theorem T1_size (h : c.tn ≤ 48) : mm_ l y_Tr_size w_Tr_size (rmh 1) [.ref 2] (W9 c m o) (qC m o (fun r c' => r = some (.int (nI c.tn)) ∧ c' = c)) := mm_imp (m_Tr_size (p_T1 h)) (fun r M' q => ⟨_, ⟨q.1, rfl⟩, q.2⟩)
theorem T1_isFull (h : c.tn ≤ 48) : mm_ l y_Tr_isFull w_Tr_isFull (rmh 1) [.ref 2] (W9 c m o) (qC m o (fun r c' => r = some (.int (bI (decide (48 ≤ c.tn)))) ∧ c' = c)) := mm_imp (m_Tr_isFull (p_T1 h)) (fun r M' q => ⟨_, ⟨q.1.trans (by unfold bI; simp only [decide_eq_true_eq]), rfl⟩, q.2⟩)
theorem T1_find (h : c.tn ≤ 48) (s p q : Int64) : mm_ l y_Tr_find w_Tr_find (rmh 1) [.ref 2, .long s, .long p, .long q] (W9 c m o) (qC m o (fun r c' => r = some (.int (tfI (tfd c.ta c.tb c.tc s p q c.tn 0))) ∧ c' = c)) := mm_imp (m_Tr_find (p_T1 h) s p q) (fun r M' q => ⟨_, ⟨q.1, rfl⟩, q.2⟩)
abbrev CS.tput (c : CS) (s p q : Int64) : CS := (((c.u_ta (vp_updL c.ta c.tn s)).u_tb (vp_updL c.tb c.tn p)).u_tc (vp_updL c.tc c.tn q)).u_tn (c.tn + 1)
theorem T1_put (h : c.tn < 48) (s p q : Int64) : mm_ l y_Tr_put w_Tr_put (rmh 2) [.ref 2, .long s, .long p, .long q] (W9 c m o) (qC m o (fun r c' => r = none ∧ c' = c.tput s p q)) := by
  refine mm_intro (by decide) (Nat.le_of_ble_eq_true rfl) i_Tr_put (fun X ok E => ?_)
  have c0 : (nI c.tn).toNatClampNeg = c.tn := nC rfl (by omega)
  refine k_Tr_put_0 ok rW_2 (T1_isFull (by omega)) (gF_h E.nR (by decide) (by decide)) (fun _ _ q => qC_len q) ?_
  rintro r M' ⟨c, ⟨rfl, rfl⟩, rfl⟩
  rw [decide_eq_false (by omega)]
  refine k_Tr_put_4 ok (fun _ => ?_) (fun z => absurd rfl z)
  refine k_Tr_put_8 ok rW_2 rF_T1_0 rF_T1_3 rW_3 (vin rfl (by omega) (by decide)) sA_3 rF_T1_1 rW_4 (by decide) (vin rfl (by omega) (by decide)) sA_4 rF_T1_2 rW_5 (by decide) (by decide) (vin rfl (by omega) (by decide)) sA_5 (Nat.le_refl 4) (sF_T1_3 (nA rfl (nL 1))) (sO_T1_3 rfl) E ⟨_, ⟨rfl, by rw [c0]⟩, rfl⟩ (Nat.le_refl _) (Nat.le_refl _)
abbrev CS.tcut (c : CS) (i : Nat) : CS := (((c.u_tn (c.tn - 1)).u_ta (vp_updL c.ta i (c.ta (c.tn - 1)))).u_tb (vp_updL c.tb i (c.tb (c.tn - 1)))).u_tc (vp_updL c.tc i (c.tc (c.tn - 1)))
theorem T1_drop (h : c.tn ≤ 48) (i : Nat) (hi : i < c.tn) : mm_ l y_Tr_drop w_Tr_drop (rmh 1) [.ref 2, .int (nI i)] (W9 c m o) (qC m o (fun r c' => r = none ∧ c' = c.tcut i)) := by
  refine mm_intro (by decide) (Nat.le_of_ble_eq_true rfl) i_Tr_drop (fun X ok E => ?_)
  have c0 : (nI i).toNatClampNeg = i := nC rfl (by omega)
  have c1 : (nI c.tn - 1).toNatClampNeg = c.tn - 1 := nC (nS rfl (nL 1) (by omega)) (by omega)
  refine k_Tr_drop_0 ok (fun z => have z := (nLt rfl (nL 0) (by omega) (by omega) z); ?_) (fun z => have z := (nNlt rfl (nL 0) (by omega) (by omega) z); ?_)
  · omega
  refine k_Tr_drop_4 ok rW_2 rF_T1_3 (fun z => have z := (nLt rfl rfl (by omega) (by omega) z); ?_) (fun z => have z := (nNlt rfl rfl (by omega) (by omega) z); ?_)
  · refine k_Tr_drop_13 ok rW_2 rF_T1_3 (Nat.le_refl 4) (sF_T1_3 (nS rfl (nL 1) (by omega))) (sO_T1_3 rfl) rF_T1_0 rW_3 (vin (nS rfl (nL 1) (by omega)) (by omega) (by decide)) (vin rfl (by omega) (by decide)) sA_3 rF_T1_1 rW_4 (by decide) (vin (nS rfl (nL 1) (by omega)) (by omega) (by decide)) (vin rfl (by omega) (by decide)) sA_4 rF_T1_2 rW_5 (by decide) (by decide) (vin (nS rfl (nL 1) (by omega)) (by omega) (by decide)) (vin rfl (by omega) (by decide)) sA_5 E ⟨_, ⟨rfl, by rw [c0, c1]⟩, rfl⟩ (Nat.le_refl _) (Nat.le_refl _)
  · omega
theorem T1_dropN : mm_ l y_Tr_drop w_Tr_drop (rmh 1) [.ref 2, .int (-1)] (W9 c m o) (qC m o (fun r c' => r = none ∧ c' = c)) := by
  refine mm_intro (by decide) (Nat.le_of_ble_eq_true rfl) i_Tr_drop (fun X ok E => ?_)
  refine k_Tr_drop_0 ok (fun _ => ?_) (fun z => absurd (by decide) z)
  refine k_Tr_drop_12 ok E ⟨_, ⟨rfl, rfl⟩, rfl⟩ (Nat.le_refl _) (Nat.le_refl _)
theorem T1_subject (h : c.tn ≤ 48) (i : Nat) (hi : i < c.tn) : mm_ l y_Tr_subject w_Tr_subject (rmh 1) [.ref 2, .int (nI i)] (W9 c m o) (qC m o (fun r c' => r = some (.long (c.ta i)) ∧ c' = c)) := by
  refine mm_intro (by decide) (Nat.le_of_ble_eq_true rfl) i_Tr_subject (fun X ok E => ?_)
  have c0 : (nI i).toNatClampNeg = i := nC rfl (by omega)
  refine k_Tr_subject_0 ok (fun z => have z := (nLt rfl (nL 0) (by omega) (by omega) z); ?_) (fun z => have z := (nNlt rfl (nL 0) (by omega) (by omega) z); ?_)
  · omega
  refine k_Tr_subject_4 ok rW_2 rF_T1_3 (fun z => have z := (nLe rfl rfl (by omega) (by omega) z); ?_) (fun z => have z := (nNle rfl rfl (by omega) (by omega) z); ?_)
  · omega
  refine k_Tr_subject_12 ok rW_2 rF_T1_0 rW_3 (vin rfl (by omega) (by decide)) ?_
  rw [c0]
  refine k_Tr_subject_22 ok E ⟨_, ⟨rfl, rfl⟩, rfl⟩ (Nat.le_refl _) (Nat.le_refl _)
theorem T1_predicate (h : c.tn ≤ 48) (i : Nat) (hi : i < c.tn) : mm_ l y_Tr_predicate w_Tr_predicate (rmh 1) [.ref 2, .int (nI i)] (W9 c m o) (qC m o (fun r c' => r = some (.long (c.tb i)) ∧ c' = c)) := by
  refine mm_intro (by decide) (Nat.le_of_ble_eq_true rfl) i_Tr_predicate (fun X ok E => ?_)
  have c0 : (nI i).toNatClampNeg = i := nC rfl (by omega)
  refine k_Tr_predicate_0 ok (fun z => have z := (nLt rfl (nL 0) (by omega) (by omega) z); ?_) (fun z => have z := (nNlt rfl (nL 0) (by omega) (by omega) z); ?_)
  · omega
  refine k_Tr_predicate_4 ok rW_2 rF_T1_3 (fun z => have z := (nLe rfl rfl (by omega) (by omega) z); ?_) (fun z => have z := (nNle rfl rfl (by omega) (by omega) z); ?_)
  · omega
  refine k_Tr_predicate_12 ok rW_2 rF_T1_1 rW_4 (vin rfl (by omega) (by decide)) ?_
  rw [c0]
  refine k_Tr_predicate_22 ok E ⟨_, ⟨rfl, rfl⟩, rfl⟩ (Nat.le_refl _) (Nat.le_refl _)
theorem T1_object (h : c.tn ≤ 48) (i : Nat) (hi : i < c.tn) : mm_ l y_Tr_object w_Tr_object (rmh 1) [.ref 2, .int (nI i)] (W9 c m o) (qC m o (fun r c' => r = some (.long (c.tc i)) ∧ c' = c)) := by
  refine mm_intro (by decide) (Nat.le_of_ble_eq_true rfl) i_Tr_object (fun X ok E => ?_)
  have c0 : (nI i).toNatClampNeg = i := nC rfl (by omega)
  refine k_Tr_object_0 ok (fun z => have z := (nLt rfl (nL 0) (by omega) (by omega) z); ?_) (fun z => have z := (nNlt rfl (nL 0) (by omega) (by omega) z); ?_)
  · omega
  refine k_Tr_object_4 ok rW_2 rF_T1_3 (fun z => have z := (nLe rfl rfl (by omega) (by omega) z); ?_) (fun z => have z := (nNle rfl rfl (by omega) (by omega) z); ?_)
  · omega
  refine k_Tr_object_12 ok rW_2 rF_T1_2 rW_5 (vin rfl (by omega) (by decide)) ?_
  rw [c0]
  refine k_Tr_object_22 ok E ⟨_, ⟨rfl, rfl⟩, rfl⟩ (Nat.le_refl _) (Nat.le_refl _)
end CT1

/-! THE CLASS: triples and log (T2) -/
section CT2
variable {l : Launch} {c : CS} {m : MS} {o : Nat → Int64}
theorem p_T2 (h : c.gn ≤ 512) : pTr (W9 c m o) 6 7 8 9 512 c.gn c.ga c.gb c.gc := ⟨rfl, rfl, rfl, rfl, h, by decide, by decide, by decide, by decide, by decide, by decide, by decide⟩
theorem T2_size (h : c.gn ≤ 512) : mm_ l y_Tr_size w_Tr_size (rmh 1) [.ref 6] (W9 c m o) (qC m o (fun r c' => r = some (.int (nI c.gn)) ∧ c' = c)) := mm_imp (m_Tr_size (p_T2 h)) (fun r M' q => ⟨_, ⟨q.1, rfl⟩, q.2⟩)
theorem T2_isFull (h : c.gn ≤ 512) : mm_ l y_Tr_isFull w_Tr_isFull (rmh 1) [.ref 6] (W9 c m o) (qC m o (fun r c' => r = some (.int (bI (decide (512 ≤ c.gn)))) ∧ c' = c)) := mm_imp (m_Tr_isFull (p_T2 h)) (fun r M' q => ⟨_, ⟨q.1.trans (by unfold bI; simp only [decide_eq_true_eq]), rfl⟩, q.2⟩)
theorem T2_find (h : c.gn ≤ 512) (s p q : Int64) : mm_ l y_Tr_find w_Tr_find (rmh 1) [.ref 6, .long s, .long p, .long q] (W9 c m o) (qC m o (fun r c' => r = some (.int (tfI (tfd c.ga c.gb c.gc s p q c.gn 0))) ∧ c' = c)) := mm_imp (m_Tr_find (p_T2 h) s p q) (fun r M' q => ⟨_, ⟨q.1, rfl⟩, q.2⟩)
abbrev CS.gput (c : CS) (s p q : Int64) : CS := (((c.u_ga (vp_updL c.ga c.gn s)).u_gb (vp_updL c.gb c.gn p)).u_gc (vp_updL c.gc c.gn q)).u_gn (c.gn + 1)
theorem T2_put (h : c.gn < 512) (s p q : Int64) : mm_ l y_Tr_put w_Tr_put (rmh 2) [.ref 6, .long s, .long p, .long q] (W9 c m o) (qC m o (fun r c' => r = none ∧ c' = c.gput s p q)) := by
  refine mm_intro (by decide) (Nat.le_of_ble_eq_true rfl) i_Tr_put (fun X ok E => ?_)
  have c0 : (nI c.gn).toNatClampNeg = c.gn := nC rfl (by omega)
  refine k_Tr_put_0 ok rW_6 (T2_isFull (by omega)) (gF_h E.nR (by decide) (by decide)) (fun _ _ q => qC_len q) ?_
  rintro r M' ⟨c, ⟨rfl, rfl⟩, rfl⟩
  rw [decide_eq_false (by omega)]
  refine k_Tr_put_4 ok (fun _ => ?_) (fun z => absurd rfl z)
  refine k_Tr_put_8 ok rW_6 rF_T2_0 rF_T2_3 rW_7 (vin rfl (by omega) (by decide)) sA_7 rF_T2_1 rW_8 (by decide) (vin rfl (by omega) (by decide)) sA_8 rF_T2_2 rW_9 (by decide) (by decide) (vin rfl (by omega) (by decide)) sA_9 (Nat.le_refl 4) (sF_T2_3 (nA rfl (nL 1))) (sO_T2_3 rfl) E ⟨_, ⟨rfl, by rw [c0]⟩, rfl⟩ (Nat.le_refl _) (Nat.le_refl _)
abbrev CS.gcut (c : CS) (i : Nat) : CS := (((c.u_gn (c.gn - 1)).u_ga (vp_updL c.ga i (c.ga (c.gn - 1)))).u_gb (vp_updL c.gb i (c.gb (c.gn - 1)))).u_gc (vp_updL c.gc i (c.gc (c.gn - 1)))
theorem T2_drop (h : c.gn ≤ 512) (i : Nat) (hi : i < c.gn) : mm_ l y_Tr_drop w_Tr_drop (rmh 1) [.ref 6, .int (nI i)] (W9 c m o) (qC m o (fun r c' => r = none ∧ c' = c.gcut i)) := by
  refine mm_intro (by decide) (Nat.le_of_ble_eq_true rfl) i_Tr_drop (fun X ok E => ?_)
  have c0 : (nI i).toNatClampNeg = i := nC rfl (by omega)
  have c1 : (nI c.gn - 1).toNatClampNeg = c.gn - 1 := nC (nS rfl (nL 1) (by omega)) (by omega)
  refine k_Tr_drop_0 ok (fun z => have z := (nLt rfl (nL 0) (by omega) (by omega) z); ?_) (fun z => have z := (nNlt rfl (nL 0) (by omega) (by omega) z); ?_)
  · omega
  refine k_Tr_drop_4 ok rW_6 rF_T2_3 (fun z => have z := (nLt rfl rfl (by omega) (by omega) z); ?_) (fun z => have z := (nNlt rfl rfl (by omega) (by omega) z); ?_)
  · refine k_Tr_drop_13 ok rW_6 rF_T2_3 (Nat.le_refl 4) (sF_T2_3 (nS rfl (nL 1) (by omega))) (sO_T2_3 rfl) rF_T2_0 rW_7 (vin (nS rfl (nL 1) (by omega)) (by omega) (by decide)) (vin rfl (by omega) (by decide)) sA_7 rF_T2_1 rW_8 (by decide) (vin (nS rfl (nL 1) (by omega)) (by omega) (by decide)) (vin rfl (by omega) (by decide)) sA_8 rF_T2_2 rW_9 (by decide) (by decide) (vin (nS rfl (nL 1) (by omega)) (by omega) (by decide)) (vin rfl (by omega) (by decide)) sA_9 E ⟨_, ⟨rfl, by rw [c0, c1]⟩, rfl⟩ (Nat.le_refl _) (Nat.le_refl _)
  · omega
theorem T2_dropN : mm_ l y_Tr_drop w_Tr_drop (rmh 1) [.ref 6, .int (-1)] (W9 c m o) (qC m o (fun r c' => r = none ∧ c' = c)) := by
  refine mm_intro (by decide) (Nat.le_of_ble_eq_true rfl) i_Tr_drop (fun X ok E => ?_)
  refine k_Tr_drop_0 ok (fun _ => ?_) (fun z => absurd (by decide) z)
  refine k_Tr_drop_12 ok E ⟨_, ⟨rfl, rfl⟩, rfl⟩ (Nat.le_refl _) (Nat.le_refl _)
theorem T2_subject (h : c.gn ≤ 512) (i : Nat) (hi : i < c.gn) : mm_ l y_Tr_subject w_Tr_subject (rmh 1) [.ref 6, .int (nI i)] (W9 c m o) (qC m o (fun r c' => r = some (.long (c.ga i)) ∧ c' = c)) := by
  refine mm_intro (by decide) (Nat.le_of_ble_eq_true rfl) i_Tr_subject (fun X ok E => ?_)
  have c0 : (nI i).toNatClampNeg = i := nC rfl (by omega)
  refine k_Tr_subject_0 ok (fun z => have z := (nLt rfl (nL 0) (by omega) (by omega) z); ?_) (fun z => have z := (nNlt rfl (nL 0) (by omega) (by omega) z); ?_)
  · omega
  refine k_Tr_subject_4 ok rW_6 rF_T2_3 (fun z => have z := (nLe rfl rfl (by omega) (by omega) z); ?_) (fun z => have z := (nNle rfl rfl (by omega) (by omega) z); ?_)
  · omega
  refine k_Tr_subject_12 ok rW_6 rF_T2_0 rW_7 (vin rfl (by omega) (by decide)) ?_
  rw [c0]
  refine k_Tr_subject_22 ok E ⟨_, ⟨rfl, rfl⟩, rfl⟩ (Nat.le_refl _) (Nat.le_refl _)
theorem T2_predicate (h : c.gn ≤ 512) (i : Nat) (hi : i < c.gn) : mm_ l y_Tr_predicate w_Tr_predicate (rmh 1) [.ref 6, .int (nI i)] (W9 c m o) (qC m o (fun r c' => r = some (.long (c.gb i)) ∧ c' = c)) := by
  refine mm_intro (by decide) (Nat.le_of_ble_eq_true rfl) i_Tr_predicate (fun X ok E => ?_)
  have c0 : (nI i).toNatClampNeg = i := nC rfl (by omega)
  refine k_Tr_predicate_0 ok (fun z => have z := (nLt rfl (nL 0) (by omega) (by omega) z); ?_) (fun z => have z := (nNlt rfl (nL 0) (by omega) (by omega) z); ?_)
  · omega
  refine k_Tr_predicate_4 ok rW_6 rF_T2_3 (fun z => have z := (nLe rfl rfl (by omega) (by omega) z); ?_) (fun z => have z := (nNle rfl rfl (by omega) (by omega) z); ?_)
  · omega
  refine k_Tr_predicate_12 ok rW_6 rF_T2_1 rW_8 (vin rfl (by omega) (by decide)) ?_
  rw [c0]
  refine k_Tr_predicate_22 ok E ⟨_, ⟨rfl, rfl⟩, rfl⟩ (Nat.le_refl _) (Nat.le_refl _)
theorem T2_object (h : c.gn ≤ 512) (i : Nat) (hi : i < c.gn) : mm_ l y_Tr_object w_Tr_object (rmh 1) [.ref 6, .int (nI i)] (W9 c m o) (qC m o (fun r c' => r = some (.long (c.gc i)) ∧ c' = c)) := by
  refine mm_intro (by decide) (Nat.le_of_ble_eq_true rfl) i_Tr_object (fun X ok E => ?_)
  have c0 : (nI i).toNatClampNeg = i := nC rfl (by omega)
  refine k_Tr_object_0 ok (fun z => have z := (nLt rfl (nL 0) (by omega) (by omega) z); ?_) (fun z => have z := (nNlt rfl (nL 0) (by omega) (by omega) z); ?_)
  · omega
  refine k_Tr_object_4 ok rW_6 rF_T2_3 (fun z => have z := (nLe rfl rfl (by omega) (by omega) z); ?_) (fun z => have z := (nNle rfl rfl (by omega) (by omega) z); ?_)
  · omega
  refine k_Tr_object_12 ok rW_6 rF_T2_2 rW_9 (vin rfl (by omega) (by decide)) ?_
  rw [c0]
  refine k_Tr_object_22 ok E ⟨_, ⟨rfl, rfl⟩, rfl⟩ (Nat.le_refl _) (Nat.le_refl _)
end CT2
