/-! THE REFERENCE: ask of the empty text -/
section RA0
variable {l : Launch} {c : CS} {m : MS} {o : Nat → Int64}
theorem mo_next0 (h : m.ln = 0) (he : m.en = 0) : mm_ l y_Mo_next w_Mo_next (rmh 3) [.ref 58] (W9 c m o) (qM c o (fun r m' => r = none ∧ m' = ((m.u_bh m.en).u_sa m.en).u_kd 0)) := by
  refine mm_intro (by decide) (Nat.le_of_ble_eq_true rfl) i_Mo_next (fun X ok E => ?_)
  have e1 : (m.u_bh m.en).ln = m.ln := rfl
  have e2 : (((m.u_bh m.en).u_sa m.en).u_kd 0).ln = m.ln := rfl
  refine k_Mo_next_0 ok E.nL rW_58 rF_Mo_18 (Nat.le_refl 59) (sF_Mo_19 rfl) (sO_Mo_19 rfl) ?_
  refine k_Mo_next_13 ok rW_58 rF_Mo_13 (fun z => have z := (nLe rfl rfl (by omega) (by omega) z); ?_) (fun z => have z := (nNle rfl rfl (by omega) (by omega) z); ?_)
  · refine k_Mo_next_38 ok rW_58 (Nat.le_refl 59) (sF_Mo_17 rfl) (sO_Mo_17 rfl) (sF_Mo_15 (v := 0) (by decide)) (sO_Mo_15 rfl) rF_Mo_13 (fun z => have z := (nNe rfl rfl (by omega) (by omega) z); ?_) (fun z => have z := (nEq rfl rfl (by omega) (by omega) z); ?_)
    · omega
    · refine k_Mo_next_56 ok E ⟨_, ⟨rfl, rfl⟩, rfl⟩ (Nat.le_refl _) (Nat.le_refl _)
  · omega
theorem mo_isKey0 (h : m.kd = 0) (x : Int32) : mm_ l y_Mo_isKey w_Mo_isKey (rmh 1) [.ref 58, .int x] (W9 c m o) (qM c o (fun r m' => r = some (.int (bI false)) ∧ m' = m)) := by
  refine mm_intro (by decide) (Nat.le_of_ble_eq_true rfl) i_Mo_isKey (fun X ok E => ?_)
  refine k_Mo_isKey_0 ok rW_58 rF_Mo_15 (fun z => have z := (nEq rfl (nL 1) (by omega) (by omega) z); ?_) (fun z => have z := (nNe rfl (nL 1) (by omega) (by omega) z); ?_)
  · omega
  · refine k_Mo_isKey_8 ok E ⟨_, ⟨rfl, rfl⟩, rfl⟩ (Nat.le_refl _) (Nat.le_refl _)
theorem mo_stop0 (h : m.kd = 0) (hw : m.wr = -1) : mm_ l y_Mo_stop w_Mo_stop (rmh 1) [.ref 58] (W9 c m o) (qM c o (fun r m' => r = none ∧ m' = m.u_wr (nI m.bh))) := by
  refine mm_intro (by decide) (Nat.le_of_ble_eq_true rfl) i_Mo_stop (fun X ok E => ?_)
  refine k_Mo_stop_0 ok rW_58 rF_Mo_20 (fun z => absurd z (by rw [hw]; decide)) (fun _ => ?_)
  refine k_Mo_stop_7 ok rW_58 rF_Mo_15 (fun z => have z := (nNe rfl (nL 0) (by omega) (by omega) z); ?_) (fun z => have z := (nEq rfl (nL 0) (by omega) (by omega) z); ?_)
  · omega
  · refine k_Mo_stop_15 ok rW_58 rF_Mo_19 ?_
    refine k_Mo_stop_26 ok rW_58 (Nat.le_refl 59) sF_Mo_20 (sO_Mo_20 rfl) ?_
    refine k_Mo_stop_29 ok E ⟨_, ⟨rfl, rfl⟩, rfl⟩ (Nat.le_refl _) (Nat.le_refl _)
theorem mo_goOn0 (h : m.kd = 0) (hw : m.wr = -1) (hb : m.bh < 2 ^ 31) : mm_ l y_Mo_goOn w_Mo_goOn (rmh 2) [.ref 58, .int (bI false)] (W9 c m o) (qM c o (fun r m' => r = some (.int (bI false)) ∧ m' = m.u_wr (nI m.bh))) := by
  refine mm_intro (by decide) (Nat.le_of_ble_eq_true rfl) i_Mo_goOn (fun X ok E => ?_)
  refine k_Mo_goOn_0 ok (fun z => absurd rfl z) (fun _ => ?_)
  refine k_Mo_goOn_4 ok rW_58 (mo_stop0 h hw) (gF_h E.nR (by decide) (by decide)) (fun _ _ q => qM_len q) ?_
  rintro r M' ⟨m2, ⟨rfl, rfl⟩, rfl⟩
  refine k_Mo_goOn_8 ok rW_58 rF_Mo_20 (fun z => absurd z (nI_pos hb)) (fun _ => ?_)
  refine k_Mo_goOn_15 ok E ⟨_, ⟨rfl, rfl⟩, rfl⟩ (Nat.le_refl _) (Nat.le_refl _)
theorem mo_readQuery0 (h : m.kd = 0) (hw : m.wr = -1) (hb : m.bh < 2 ^ 31) : mm_ l y_Mo_readQuery w_Mo_readQuery (rmh 3) [.ref 58] (W9 c m o) (qM c o (fun r m' => r = none ∧ m' = m.u_wr (nI m.bh))) := by
  refine mm_intro (by decide) (Nat.le_of_ble_eq_true rfl) i_Mo_readQuery (fun X ok E => ?_)
  refine k_Mo_readQuery_0 ok rW_58 (mo_isKey0 h 0) (gF_h E.nR (by decide) (by decide)) (fun _ _ q => qM_len q) ?_
  rintro r M' ⟨m, ⟨rfl, rfl⟩, rfl⟩
  refine k_Mo_readQuery_6 ok rW_58 (mo_goOn0 h hw hb) (gF_h E.nR (by decide) (by decide)) (fun _ _ q => qM_len q) ?_
  rintro r M' ⟨m2, ⟨rfl, rfl⟩, rfl⟩
  refine k_Mo_readQuery_9 ok (fun z => absurd rfl z) (fun _ => ?_)
  refine k_Mo_readQuery_12 ok E ⟨_, ⟨rfl, rfl⟩, rfl⟩ (Nat.le_refl _) (Nat.le_refl _)
abbrev MS.d_ar (m : MS) : MS := ((((((((((((((m.u_nn 0).u_el 0).u_gr 0).u_dp 0).u_no 0).u_np 0).u_ne 0).u_nw 0).u_di false).u_ob (-1)).u_fl false).u_li 10000).u_en 0).u_wr (-1)).u_ss false
abbrev MS.d_nx0 (m : MS) : MS := ((m.u_bh m.en).u_sa m.en).u_kd 0
abbrev MS.d_rq0 (m : MS) : MS := m.u_wr (nI m.bh)
abbrev MS.d_ask0 (m : MS) : MS := ((m.d_ar.d_nx0.d_rq0.u_ln 0).u_fa m.d_ar.d_nx0.d_rq0.wr).u_cd 1
theorem mo_ask0 (h : m.ln = 0) : mm_ l y_Mo_ask w_Mo_ask (rmh 4) [.ref 58] (W9 c m o) (qM c o (fun r m' => r = some (.int 0) ∧ m' = m.d_ask0)) := by
  refine mm_intro (by decide) (Nat.le_of_ble_eq_true rfl) i_Mo_ask (fun X ok E => ?_)
  refine k_Mo_ask_0 ok rW_58 (Nat.le_refl 59) (sF_Mo_24 (v := 0) (by decide)) (sO_Mo_24 rfl) (sF_Mo_25 (v := 0) (by decide)) (sO_Mo_25 rfl) (sF_Mo_26 (v := 0) (by decide)) (sO_Mo_26 rfl) (sF_Mo_27 (v := 0) (by decide)) (sO_Mo_27 rfl) (sF_Mo_32 (v := 0) (by decide)) (sO_Mo_32 rfl) (sF_Mo_35 (v := 0) (by decide)) (sO_Mo_35 rfl) (sF_Mo_39 (v := 0) (by decide)) (sO_Mo_39 rfl) (sF_Mo_41 (v := 0) (by decide)) (sO_Mo_41 rfl) (sF_Mo_43 (v := false) rfl) (sO_Mo_43 rfl) sF_Mo_44 (sO_Mo_44 rfl) (sF_Mo_45 (v := false) rfl) (sO_Mo_45 rfl) sF_Mo_46 (sO_Mo_46 rfl) (sF_Mo_18 (v := 0) (by decide)) (sO_Mo_18 rfl) sF_Mo_20 (sO_Mo_20 rfl) (sF_Mo_21 (v := false) rfl) (sO_Mo_21 rfl) (mo_next0 (by exact h) (by rfl)) (gF_h E.nR (by decide) (by decide)) (fun _ _ q => qM_len q) ?_
  rintro r M' ⟨m2, ⟨rfl, rfl⟩, rfl⟩
  refine k_Mo_ask_81 ok rW_58 (mo_readQuery0 (by rfl) (by rfl) (by exact Nat.le_of_ble_eq_true rfl)) (gF_h E.nR (by decide) (by decide)) (fun _ _ q => qM_len q) ?_
  rintro r M' ⟨m2, ⟨rfl, rfl⟩, rfl⟩
  refine k_Mo_ask_85 ok rW_58 (Nat.le_refl 59) (sF_Mo_13 (v := 0) (by decide)) (sO_Mo_13 rfl) rF_Mo_20 sF_Mo_14 (sO_Mo_14 rfl) (fun _ => ?_) (fun z => absurd (show (0 : Int32) ≤ nI 0 from by decide) z)
  refine k_Mo_ask_110 ok ?_
  refine k_Mo_ask_111 ok rW_58 (mo_goodF 1) (gF_h E.nR (by decide) (by decide)) (fun _ _ q => qM_len q) ?_
  rintro r M' ⟨m2, ⟨rfl, rfl⟩, rfl⟩
  refine k_Mo_ask_115 ok (fun z => absurd rfl z) (fun _ => ?_)
  refine k_Mo_ask_118 ok E ⟨_, ⟨rfl, rfl⟩, rfl⟩ (Nat.le_refl _) (Nat.le_refl _)
end RA0
