/-! THE CLASS: the cursor on the tokens -/
section CTo
variable {l : Launch} {c : CS} {m : MS} {o : Nat → Int64}
/-- the cursor stands on a token -/
def CS.cur (c : CS) : Prop := c.ka < c.kn ∧ c.kn ≤ 161
theorem to_kind (h : c.cur) : mm_ l y_To_kind w_To_kind (rmh 1) [.ref 13] (W9 c m o) (qC m o (fun r c' => r = some (.int (c.kk c.ka)) ∧ c' = c)) := by
  obtain ⟨h1, h2⟩ := h
  refine mm_intro (by decide) (Nat.le_of_ble_eq_true rfl) i_To_kind (fun X ok E => ?_)
  have d0 : (nI c.ka).toNatClampNeg = c.ka := nC rfl (by omega)
  refine k_To_kind_0 ok rW_13 rF_To_0 rF_To_4 rW_14 (vin rfl (by omega) (by decide)) E ⟨_, ⟨by rw [d0], rfl⟩, rfl⟩ (Nat.le_refl _) (Nat.le_refl _)
theorem to_value (h : c.cur) : mm_ l y_To_value w_To_value (rmh 1) [.ref 13] (W9 c m o) (qC m o (fun r c' => r = some (.long (c.kv c.ka)) ∧ c' = c)) := by
  obtain ⟨h1, h2⟩ := h
  refine mm_intro (by decide) (Nat.le_of_ble_eq_true rfl) i_To_value (fun X ok E => ?_)
  have d0 : (nI c.ka).toNatClampNeg = c.ka := nC rfl (by omega)
  refine k_To_value_0 ok rW_13 rF_To_1 rF_To_4 rW_15 (vin rfl (by omega) (by decide)) E ⟨_, ⟨by rw [d0], rfl⟩, rfl⟩ (Nat.le_refl _) (Nat.le_refl _)
theorem to_place (h : c.cur) : mm_ l y_To_place w_To_place (rmh 1) [.ref 13] (W9 c m o) (qC m o (fun r c' => r = some (.int (c.kp c.ka)) ∧ c' = c)) := by
  obtain ⟨h1, h2⟩ := h
  refine mm_intro (by decide) (Nat.le_of_ble_eq_true rfl) i_To_place (fun X ok E => ?_)
  have d0 : (nI c.ka).toNatClampNeg = c.ka := nC rfl (by omega)
  refine k_To_place_0 ok rW_13 rF_To_2 rF_To_4 rW_16 (vin rfl (by omega) (by decide)) E ⟨_, ⟨by rw [d0], rfl⟩, rfl⟩ (Nat.le_refl _) (Nat.le_refl _)
def CS.d_step (c : CS) : CS := if c.ka + 1 < c.kn then c.u_ka (c.ka + 1) else c
theorem to_step (h : c.cur) : mm_ l y_To_step w_To_step (rmh 1) [.ref 13] (W9 c m o) (qC m o (fun r c' => r = none ∧ c' = c.d_step)) := by
  obtain ⟨h1, h2⟩ := h
  refine mm_intro (by decide) (Nat.le_of_ble_eq_true rfl) i_To_step (fun X ok E => ?_)
  refine k_To_step_0 ok rW_13 rF_To_4 rF_To_3 (fun z => have z := (nLe (nS rfl (nL 1) (by omega)) rfl (by omega) (by omega) z); ?_) (fun z => have z := (nNle (nS rfl (nL 1) (by omega)) rfl (by omega) (by omega) z); ?_)
  · refine k_To_step_23 ok E ⟨_, ⟨rfl, by rw [CS.d_step, if_neg (by omega)]⟩, rfl⟩ (Nat.le_refl _) (Nat.le_refl _)
  · refine k_To_step_13 ok rW_13 rF_To_4 (Nat.le_refl 5) (sF_To_4 (nA rfl (nL 1))) (sO_To_4 rfl) ?_
    refine k_To_step_23 ok E ⟨_, ⟨rfl, by rw [CS.d_step, if_pos (by omega)]⟩, rfl⟩ (Nat.le_refl _) (Nat.le_refl _)
def CS.atS (c : CS) (x : Int32) : Bool := decide (c.kk c.ka = 3) && decide (c.kv c.ka = x.toInt64)
theorem to_isAtSign (h : c.cur) (x : Int32) : mm_ l y_To_isAtSign w_To_isAtSign (rmh 1) [.ref 13, .int x] (W9 c m o) (qC m o (fun r c' => r = some (.int (bI (c.atS x))) ∧ c' = c)) := by
  obtain ⟨h1, h2⟩ := h
  refine mm_intro (by decide) (Nat.le_of_ble_eq_true rfl) i_To_isAtSign (fun X ok E => ?_)
  have d0 : (nI c.ka).toNatClampNeg = c.ka := nC rfl (by omega)
  have no : c.atS x = false → gg X (W9 c m o) 0 0 32 [] [] := by
    intro hn
    refine k_To_isAtSign_32 ok ?_
    refine k_To_isAtSign_33 ok E rfl ⟨_, ⟨by rw [hn]; rfl, rfl⟩, rfl⟩ (Nat.le_refl _) (Nat.le_refl _)
  refine k_To_isAtSign_0 ok rW_13 rF_To_0 rF_To_4 rW_14 (vin rfl (by omega) (by decide)) (fun z => no ?_) (fun z1 => ?_)
  · rw [d0] at z
    rw [CS.atS, decide_eq_false z]
    rfl
  rw [d0] at z1
  refine k_To_isAtSign_13 ok rW_13 rF_To_1 rF_To_4 rW_15 (vin rfl (by omega) (by decide)) (fun z => no ?_) (fun z2 => ?_)
  · rw [d0] at z
    rw [CS.atS, decide_eq_false z, Bool.and_false]
  rw [d0] at z2
  refine k_To_isAtSign_28 ok ?_
  refine k_To_isAtSign_33 ok E rfl ⟨_, ⟨by rw [CS.atS, decide_eq_true z1, decide_eq_true z2]; rfl, rfl⟩, rfl⟩ (Nat.le_refl _) (Nat.le_refl _)
def CS.atK (c : CS) (x : Int64) : Bool := decide (c.kk c.ka = 2) && decide (c.kv c.ka = x)
abbrev CS.d_take (c : CS) (b : Bool) : CS := bif b then c.d_step else c
theorem to_takeSign (h : c.cur) (x : Int32) : mm_ l y_To_takeSign w_To_takeSign (rmh 2) [.ref 13, .int x] (W9 c m o) (qC m o (fun r c' => r = some (.int (bI (c.atS x))) ∧ c' = c.d_take (c.atS x))) := by
  refine mm_intro (by decide) (Nat.le_of_ble_eq_true rfl) i_To_takeSign (fun X ok E => ?_)
  refine k_To_takeSign_0 ok rW_13 (to_isAtSign h x) (gF_h E.nR (by decide) (by decide)) (fun _ _ q => qC_len q) ?_
  rintro r M' ⟨c, ⟨rfl, rfl⟩, rfl⟩
  refine k_To_takeSign_5 ok E.nL (fun z => have z := bI_0 z; ?_) (fun z => have z := bI_1 z; ?_)
  · refine k_To_takeSign_14 ok E (bI_nar _) ⟨_, ⟨rfl, by rw [z]; rfl⟩, rfl⟩ (Nat.le_refl _) (Nat.le_refl _)
  · refine k_To_takeSign_10 ok rW_13 (to_step h) (gF_h E.nR (by decide) (by decide)) (fun _ _ q => qC_len q) ?_
    rintro r M' ⟨c2, ⟨rfl, rfl⟩, rfl⟩
    refine k_To_takeSign_14 ok E (bI_nar _) ⟨_, ⟨rfl, by rw [z]; rfl⟩, rfl⟩ (Nat.le_refl _) (Nat.le_refl _)
theorem to_takeKey (h : c.cur) (x : Int64) : mm_ l y_To_takeKey w_To_takeKey (rmh 2) [.ref 13, .long x] (W9 c m o) (qC m o (fun r c' => r = some (.int (bI (c.atK x))) ∧ c' = c.d_take (c.atK x))) := by
  obtain ⟨h1, h2⟩ := id h
  refine mm_intro (by decide) (Nat.le_of_ble_eq_true rfl) i_To_takeKey (fun X ok E => ?_)
  have d0 : (nI c.ka).toNatClampNeg = c.ka := nC rfl (by omega)
  have no : c.atK x = false → gg X (W9 c m o) 0 0 31 [(0, .ref 13)] [] := by
    intro hn
    refine k_To_takeKey_31 ok ?_
    refine k_To_takeKey_32 ok E.nL (fun _ => ?_) (fun z => absurd rfl z)
    refine k_To_takeKey_41 ok E rfl ⟨_, ⟨by rw [hn]; rfl, by rw [hn]; rfl⟩, rfl⟩ (Nat.le_refl _) (Nat.le_refl _)
  refine k_To_takeKey_0 ok rW_13 rF_To_0 rF_To_4 rW_14 (vin rfl (by omega) (by decide)) (fun z => no ?_) (fun z1 => ?_)
  · rw [d0] at z
    rw [CS.atK, decide_eq_false z]
    rfl
  rw [d0] at z1
  refine k_To_takeKey_13 ok rW_13 rF_To_1 rF_To_4 rW_15 (vin rfl (by omega) (by decide)) (fun z => no ?_) (fun z2 => ?_)
  · rw [d0] at z
    rw [CS.atK, decide_eq_false z, Bool.and_false]
  rw [d0] at z2
  have e9 : c.atK x = true := by rw [CS.atK, decide_eq_true z1, decide_eq_true z2]; rfl
  refine k_To_takeKey_27 ok ?_
  refine k_To_takeKey_32 ok E.nL (fun z => absurd z (by decide)) (fun _ => ?_)
  refine k_To_takeKey_37 ok rW_13 (to_step h) (gF_h E.nR (by decide) (by decide)) (fun _ _ q => qC_len q) ?_
  rintro r M' ⟨c2, ⟨rfl, rfl⟩, rfl⟩
  refine k_To_takeKey_41 ok E rfl ⟨_, ⟨by rw [e9]; rfl, by rw [e9]; rfl⟩, rfl⟩ (Nat.le_refl _) (Nat.le_refl _)
theorem step_cur (h : c.cur) : c.d_step.cur := by
  unfold CS.d_step
  split
  · exact ⟨by assumption, h.2⟩
  · exact h
theorem take_cur (b : Bool) (h : c.cur) : (c.d_take b).cur := by
  cases b
  · exact h
  · exact step_cur h
abbrev CS.d_tok (c : CS) (x : Int32) (v : Int64) (p : Int32) : CS := (((c.u_kk (upd c.kk c.kn x)).u_kv (vp_updL c.kv c.kn v)).u_kp (upd c.kp c.kn p)).u_kn (c.kn + 1)
theorem to_note (h : c.kn ≤ 160) (x : Int32) (v : Int64) (p : Int32) : mm_ l y_To_note w_To_note (rmh 1) [.ref 13, .int x, .long v, .int p] (W9 c m o) (qC m o (fun r c' => r = none ∧ c' = c.d_tok x v p)) := by
  refine mm_intro (by decide) (Nat.le_of_ble_eq_true rfl) i_To_note (fun X ok E => ?_)
  have d0 : (nI c.kn).toNatClampNeg = c.kn := nC rfl (by omega)
  refine k_To_note_0 ok rW_13 rF_To_3 (fun z => have z := (nLe rfl (nL 160) (by omega) (by omega) z); ?_) (fun z => have z := (nNle rfl (nL 160) (by omega) (by omega) z); ?_)
  · refine k_To_note_11 ok rW_13 rF_To_0 rF_To_3 rW_14 (vin rfl (by omega) (by decide)) sA_14 rF_To_1 rW_15 (by decide) (vin rfl (by omega) (by decide)) sA_15 rF_To_2 rW_16 (by decide) (by decide) (vin rfl (by omega) (by decide)) sA_16 (Nat.le_refl 5) (sF_To_3 (nA rfl (nL 1))) (sO_To_3 rfl) E ⟨_, ⟨rfl, by rw [d0]⟩, rfl⟩ (Nat.le_refl _) (Nat.le_refl _)
  · omega
abbrev CS.d_qcl (c : CS) : CS := ((((((((c.u_qv 0).u_qc 0).u_qd false).u_qo (-1)).u_qf false).u_ql 150).u_qe 0).u_qg 0)
theorem qu_clear : mm_ l y_Qu_clear w_Qu_clear (rmh 1) [.ref 17] (W9 c m o) (qC m o (fun r c' => r = none ∧ c' = c.d_qcl)) := by
  refine mm_intro (by decide) (Nat.le_of_ble_eq_true rfl) i_Qu_clear (fun X ok E => ?_)
  refine k_Qu_clear_0 ok rW_17 (Nat.le_refl 12) (sF_Qu_1 (v := 0) (by decide)) (sO_Qu_1 rfl) (sF_Qu_3 (v := 0) (by decide)) (sO_Qu_3 rfl) (sF_Qu_4 (v := false) rfl) (sO_Qu_4 rfl) sF_Qu_5 (sO_Qu_5 rfl) (sF_Qu_6 (v := false) rfl) (sO_Qu_6 rfl) sF_Qu_7 (sO_Qu_7 rfl) (sF_Qu_9 (v := 0) (by decide)) (sO_Qu_9 rfl) (sF_Qu_11 (v := 0) (by decide)) (sO_Qu_11 rfl) E ⟨_, ⟨rfl, rfl⟩, rfl⟩ (Nat.le_refl _) (Nat.le_refl _)
/-! ask of the empty text -/
abbrev CS.d_e1 (c : CS) : CS := ((c.u_ka 0).u_kn 0).d_tok 0 0 0
theorem to_readAll0 : mm_ l y_To_readAll w_To_readAll (rmh 2) [.ref 13, .ref 12, .int 0] (W9 c m o) (qC m o (fun r c' => r = none ∧ c' = c.d_e1)) := by
  refine mm_intro (by decide) (Nat.le_of_ble_eq_true rfl) i_To_readAll (fun X ok E => ?_)
  refine k_To_readAll_0 ok E.nL rW_13 (Nat.le_refl 5) (sF_To_4 (v := 0) (by decide)) (sO_To_4 rfl) (sF_To_3 (v := 0) (by decide)) (sO_To_3 rfl) ?_
  refine k_To_readAll_18 ok (fun z => absurd z (by decide)) (fun _ => ?_)
  refine k_To_readAll_26 ok (fun _ => ?_) (fun z => absurd (by decide) z)
  refine k_To_readAll_62 ok rW_13 (to_note (by exact Nat.zero_le _) 0 0 0) (gF_h E.nR (by decide) (by decide)) (fun _ _ q => qC_len q) ?_
  rintro r M' ⟨c2, ⟨rfl, rfl⟩, rfl⟩
  refine k_To_readAll_70 ok E ⟨_, ⟨rfl, rfl⟩, rfl⟩ (Nat.le_refl _) (Nat.le_refl _)
theorem pa_readQuery0 (h : c.cur) (hk : ∀ x, c.atK x = false) : mm_ l y_Pa_readQuery w_Pa_readQuery (rmh 3) [.ref 34] (W9 c m o) (qC m o (fun r c' => r = some (.int (bI false)) ∧ c' = c.d_qcl)) := by
  refine mm_intro (by decide) (Nat.le_of_ble_eq_true rfl) i_Pa_readQuery (fun X ok E => ?_)
  refine k_Pa_readQuery_0 ok rW_34 rF_Pa_1 rW_17 qu_clear (gF_h E.nR (by decide) (by decide)) (fun _ _ q => qC_len q) ?_
  rintro r M' ⟨c2, ⟨rfl, rfl⟩, rfl⟩
  have e9 : ∀ x, c.d_qcl.atK x = false := hk
  refine k_Pa_readQuery_7 ok rW_34 rF_Pa_0 rW_13 (to_takeKey (by exact h) _) (gF_h E.nR (by decide) (by decide)) (fun _ _ q => qC_len q) ?_
  rintro r M' ⟨c2, ⟨rfl, rfl⟩, rfl⟩
  rw [e9]
  refine k_Pa_readQuery_17 ok (fun _ => ?_) (fun z => absurd rfl z)
  refine k_Pa_readQuery_64 ok ?_
  refine k_Pa_readQuery_65 ok E rfl ⟨_, ⟨rfl, rfl⟩, rfl⟩ (Nat.le_refl _) (Nat.le_refl _)
abbrev CS.d_ask0 (c : CS) : CS := (c.d_e1.u_ln 0).d_qcl.u_fa ((c.d_e1.u_ln 0).d_qcl.kp (c.d_e1.u_ln 0).d_qcl.ka)
theorem ts_ask0 (htr : l.stackTraces = false) (hl : c.ln = 0) : mx_ l y_TS_ask w_TS_ask (rmc 8 1 6) [.ref 0] (W9 c m o) IAE (fun M' => M' = W9 c.d_ask0 m o) := by
  refine mx_intro (by decide) (Nat.le_of_ble_eq_true rfl) (fun X ok E => ?_)
  refine k_TS_ask_0 ok rW_0 rF_TS_2 rF_TS_1 rF_TS_7 rW_13 (by rw [hl]; exact to_readAll0) (gF_c E.nR (by decide) (by decide) (by decide) (by decide)) (fun _ _ q => qC_len q) ?_
  rintro r M' ⟨c2, ⟨rfl, rfl⟩, rfl⟩
  refine k_TS_ask_15 ok rW_0 (Nat.le_refl 9) (sF_TS_7 (v := 0) (by decide)) (sO_TS_7 rfl) rF_TS_4 rW_34 (by decide) (pa_readQuery0 (by exact ⟨Nat.zero_lt_one, Nat.le_of_ble_eq_true rfl⟩) (fun x => rfl)) (gF_c E.nR (by decide) (by decide) (by decide) (by decide)) (fun _ _ q => qC_len q) ?_
  rintro r M' ⟨c2, ⟨rfl, rfl⟩, rfl⟩
  refine k_TS_ask_27 ok E.nL (fun _ => ?_) (fun z => absurd rfl z)
  refine k_TS_ask_37 ok rW_0 rF_TS_2 rW_13 (to_place (by exact ⟨Nat.zero_lt_one, Nat.le_of_ble_eq_true rfl⟩)) (gF_c E.nR (by decide) (by decide) (by decide) (by decide)) (fun _ _ q => qC_len q) ?_
  rintro r M' ⟨c2, ⟨rfl, rfl⟩, rfl⟩
  refine k_TS_ask_44 ok rW_0 (Nat.le_refl 9) sF_TS_8 (sO_TS_8 rfl) (fun z => absurd rfl z) (fun _ => ?_)
  refine k_TS_ask_51 ok E htr (by decide) (by decide) (by decide) (by decide) rfl rfl
end CTo
