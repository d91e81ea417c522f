/-! THE REFERENCE'S PARSER: the groups in one another, the query -/
section RP8
variable {l : Launch} {c : CS} {m : MS} {o : Nat → Int64}
theorem mo_readOn (h : BI m) (hw : m.wr < 0) (g : GI 4 m) : mm_ l y_Mo_readOn w_Mo_readOn (rmh 7) [.ref 58] (W9 c m o) (qM c o (fun r m' => r = none ∧ Fr m m' ∧ BI m' ∧ m.bh ≤ m'.bh ∧ m'.el = m.el ∧ (m'.wr < 0 → GI 0 m'))) := by
  obtain ⟨ht, hel, hnp, hno⟩ := id h
  have hno9 := GI_no ht hel g
  obtain ⟨⟨g1, g2, g3, g4⟩, g5, g6, g7⟩ := id g
  have hll := lvl_le m.gk m.dp
  refine mm_intro (by decide) (Nat.le_of_ble_eq_true rfl) i_Mo_readOn (fun X ok E => ?_)
  have key : ∀ w, w = 1 ∨ w = 2 → gg X (W9 c m o) 0 0 32 [(0, .ref 58)] [.int (nI w)] := by
    intro w hw12
    refine k_Mo_readOn_32 ok E.nL rW_58 (mo_next ht) (gF_h E.nR (by decide) (by decide)) (fun _ _ q => qM_len q) ?_
    rintro r M' ⟨m2, ⟨rfl, q1, q2, -⟩, rfl⟩
    obtain ⟨f1, f2, f3, f4, f5, f6, f7, f8, f9, f10, f11, f12, f13⟩ := q1.eqs
    have fb : m.bh ≤ m2.bh := q1.2.2.1
    refine k_Mo_readOn_37 ok rW_58 (mo_readStart ⟨q1.1, by omega, by omega, by omega⟩ (by rw [q2]; exact hw) (by omega) w (by omega) (by rw [if_neg (by omega), f5, f6]; exact ⟨g1, g3, g4⟩) (by rw [if_neg (by omega), f5, f6, f7, f8, f9]; exact g5) (by rw [if_neg (by omega), f4, f5, f6, f9]; omega) (TA_St q1 g7)) (gF_h E.nR (by decide) (by decide)) (fun _ _ q => qM_len q) ?_
    rintro r M' ⟨m3, ⟨rfl, w1, w2, w3, w4, w5⟩, rfl⟩
    refine k_Mo_readOn_42 ok ?_
    refine k_Mo_readOn_76 ok E ⟨_, ⟨rfl, q1.fr.trans w1, w2, Nat.le_trans fb w3, w4.trans f4, w5⟩, rfl⟩ (Nat.le_refl _) (Nat.le_refl _)
  have k18 : gg X (W9 c m o) 0 0 18 [(0, .ref 58)] [] := by
    refine k_Mo_readOn_18 ok rW_58 (mo_isKey ht _) (gF_h E.nR (by decide) (by decide)) (fun _ _ q => qM_len q) ?_
    rintro r M' ⟨m, ⟨b, rfl, rfl⟩, rfl⟩
    refine k_Mo_readOn_24 ok (fun z => ?_) (fun z => ?_)
    · refine k_Mo_readOn_31 ok ?_
      exact key 2 (Or.inr rfl)
    · refine k_Mo_readOn_27 ok ?_
      exact key 1 (Or.inl rfl)
  refine k_Mo_readOn_0 ok rW_58 (mo_isKey ht _) (gF_h E.nR (by decide) (by decide)) (fun _ _ q => qM_len q) ?_
  rintro r M' ⟨m, ⟨b1, rfl, rfl⟩, rfl⟩
  refine k_Mo_readOn_6 ok (fun z => ?_) (fun z => ?_)
  · exact k18
  refine k_Mo_readOn_9 ok rW_58 (mo_isKey ht _) (gF_h E.nR (by decide) (by decide)) (fun _ _ q => qM_len q) ?_
  rintro r M' ⟨m, ⟨b1, rfl, rfl⟩, rfl⟩
  refine k_Mo_readOn_15 ok (fun z => ?_) (fun z => ?_)
  · refine k_Mo_readOn_45 ok rW_58 (mo_isSign ht _) (gF_h E.nR (by decide) (by decide)) (fun _ _ q => qM_len q) ?_
    rintro r M' ⟨m, ⟨b1, rfl, rfl, -⟩, rfl⟩
    refine k_Mo_readOn_51 ok (fun z => ?_) (fun z => ?_)
    · refine k_Mo_readOn_76 ok E ⟨_, ⟨rfl, Fr.refl, h, Nat.le_refl _, rfl, fun _ => ⟨⟨g1, g2, g3, g4⟩, g5, by omega, g7⟩⟩, rfl⟩ (Nat.le_refl _) (Nat.le_refl _)
    · refine k_Mo_readOn_54 ok rW_58 (mo_emit (by omega) _ _) (gF_h E.nR (by decide) (by decide)) (fun _ _ q => qM_len q) ?_
      rintro r M' ⟨m2, ⟨rfl, rfl⟩, rfl⟩
      have e1 : (m.d_em 6 0).dp = m.dp := rfl
      have hg : hgt (m.d_em 6 0).oo (m.d_em 6 0).ar (m.d_em 6 0).no (lvl m.gk m.dp + 1) := hgt_em g5 (Or.inl ⟨Or.inr rfl, by omega, rfl⟩)
      refine k_Mo_readOn_61 ok rW_58 rF_Mo_42 rF_Mo_27 rW_76 (vin rfl (by omega) (by decide)) sA_76 (mo_readStart (by exact ⟨ht, hel, hnp, by show m.no + 1 ≤ 300; omega⟩) (by exact hw) (by exact g2) 3 (by decide) (by exact ⟨g1, g3, g4⟩) (by exact hg) (by show 2 * (m.no + 1) + 2 * lvl m.gk m.dp + 2 ≤ 3 * m.bh + 4 * m.el + m.dp; omega) (by exact g7)) (gF_h E.nR (by decide) (by decide)) (fun _ _ q => qM_len q) ?_
      rintro r M' ⟨m3, ⟨rfl, w1, w2, w3, w4, w5⟩, rfl⟩
      refine k_Mo_readOn_76 ok E ⟨_, ⟨rfl, by exact w1, w2, by exact w3, by exact w4, w5⟩, rfl⟩ (Nat.le_refl _) (Nat.le_refl _)
  · exact k18
/-- a group ends: the one around it goes on, or the first has ended -/
theorem mo_readClose (h : BI m) (hw : m.wr < 0) (g : GI 0 m) (hkd : m.kd = 4) : mm_ l y_Mo_readClose w_Mo_readClose (rmh 7) [.ref 58] (W9 c m o) (qM c o (fun r m' => r = none ∧ Fr m m' ∧ BI m' ∧ m.bh < m'.bh ∧ m'.el = m.el ∧ (m'.wr < 0 → (1 ≤ m'.dp ∧ GI 0 m') ∨ (m'.dp = 0 ∧ hgt m'.oo m'.ar m'.no 1 ∧ TA m')))) := by
  obtain ⟨ht, hel, hnp, hno⟩ := id h
  have hno9 := GI_no ht hel g
  obtain ⟨⟨g1, g2, g3, g4⟩, g5, g6, g7⟩ := id g
  obtain ⟨d, hd⟩ : ∃ d, m.dp = d + 1 := ⟨m.dp - 1, by omega⟩
  have hll := lvl_le m.gk d
  have hlv : lvl m.gk m.dp = lvl m.gk d + (if m.gk d = 3 then 2 else 1) := by rw [hd]; rfl
  rw [hlv] at g5 g6
  have hbe := ht.2.2.2.2.2.1 hkd
  refine mm_intro (by decide) (Nat.le_of_ble_eq_true rfl) i_Mo_readClose (fun X ok E => ?_)
  refine k_Mo_readClose_0 ok rW_58 (mo_next ht) (gF_h E.nR (by decide) (by decide)) (fun _ _ q => qM_len q) ?_
  rintro r M' ⟨m2, ⟨rfl, q1, q2, q3⟩, rfl⟩
  obtain ⟨f1, f2, f3, f4, f5, f6, f7, f8, f9, f10, f11, f12, f13⟩ := q1.eqs
  have d0 : (nI m2.dp - 1).toNatClampNeg = m2.dp - 1 := nC (nS rfl (nL 1) (by omega)) (by omega)
  have e0 : m2.dp - 1 = d := by omega
  have hb : m.bh < m2.bh := by omega
  refine k_Mo_readClose_4 ok rW_58 rF_Mo_27 (Nat.le_refl 59) (sF_Mo_27 (nS rfl (nL 1) (by omega))) (sO_Mo_27 rfl) rF_Mo_29 rW_67 (vin (nS rfl (nL 1) (by omega)) (by omega) (by decide)) (mo_emit (by show m2.no < 400; omega) _ _) (gF_h E.nR (by decide) (by decide)) (fun _ _ q => qM_len q) ?_
  rintro r M' ⟨m3, ⟨rfl, rfl⟩, rfl⟩
  rw [d0, e0]
  obtain ⟨a, ha⟩ : ∃ a, m2.gi d = a := ⟨_, rfl⟩
  have e9 : ((m2.u_dp d).gi d) = a := ha
  rw [e9]
  obtain ⟨m3, hm3⟩ : ∃ m3, m3 = (m2.u_dp d).d_em 3 a := ⟨_, rfl⟩
  have k1 : m3.tI := by rw [hm3]; exact q1.1
  have k2 : Fr m m3 := by rw [hm3]; exact q1.fr
  have k3 : m3.bh = m2.bh := by rw [hm3]
  have k4 : m3.el = m.el := by rw [hm3]; exact f4
  have k5 : m3.np = m.np := by rw [hm3]; exact f10
  have k6 : m3.ne = m.ne := by rw [hm3]; exact f11
  have k7 : m3.no = m.no + 1 := by rw [hm3]; show m2.no + 1 = _; omega
  have k8 : m3.dp = d := by rw [hm3]
  have k9 : m3.gk = m.gk := by rw [hm3]; exact f6
  have k10 : hgt m3.oo m3.ar m3.no (lvl m.gk d + (if m.gk d = 3 then 2 else 1)) := by
    rw [hm3]
    refine hgt_em (m := m2.u_dp d) (g := lvl m.gk d + (if m.gk d = 3 then 2 else 1)) ?_ (Or.inr (Or.inr (Or.inl ⟨rfl, by split <;> omega, rfl⟩)))
    show hgt m2.oo m2.ar m2.no _
    rw [f7, f8, f9]
    exact g5
  have k12 : TA m3 := by rw [hm3]; exact (TA_St q1 g7 : TA m2)
  have k11 : m3.wr < 0 := by rw [hm3]; show m2.wr < 0; rw [q2]; exact hw
  rw [← hm3]
  clear hm3
  have hno3 : m3.no < 398 := by omega
  have c0 : (nI m3.dp).toNatClampNeg = m3.dp := nC rfl (by omega)
  have KI' : 1 ≤ d → KI m3 := fun q => ⟨by omega, by omega, by rw [k9]; exact g3, by rw [k8, k9]; exact fun j q1 q2 => g4 j q1 (by omega)⟩
  -- a step that takes one list away, the last of this group
  have fin : ∀ x : Int32, x = 4 ∨ x = 5 → ¬ m.gk d = 3 → 1 ≤ d → (m3.d_em x 0).tI ∧ GI 0 (m3.d_em x 0) := by
    intro x hx hk3 hd1
    rw [if_neg hk3] at k10 g6
    refine ⟨k1, ⟨KI' hd1, ?_, ?_, k12⟩⟩
    · show hgt (m3.d_em x 0).oo (m3.d_em x 0).ar (m3.d_em x 0).no (lvl m3.gk m3.dp)
      rw [k9, k8]
      exact hgt_em k10 (Or.inr (Or.inr (Or.inr ⟨by rcases hx with rfl | rfl <;> decide, by omega, by omega⟩)))
    · show 2 * (m3.no + 1) + 2 * lvl m3.gk m3.dp + 0 ≤ 3 * m3.bh + 4 * m3.el + m3.dp
      rw [k9, k8]
      omega
  have out : ∀ m4 : MS, Fr m m4 → BI m4 → m.bh < m4.bh → m4.el = m.el → (m4.wr < 0 → (1 ≤ m4.dp ∧ GI 0 m4) ∨ (m4.dp = 0 ∧ hgt m4.oo m4.ar m4.no 1 ∧ TA m4)) → gg X (W9 c m4 o) 0 0 106 [] [] := by
    intro m4 w1 w2 w3 w4 w5
    refine k_Mo_readClose_106 ok E ⟨_, ⟨rfl, w1, w2, w3, w4, w5⟩, rfl⟩ (Nat.le_refl _) (Nat.le_refl _)
  have d1 : m.gk d = 1 → 1 ≤ d := fun q => by
    rcases Nat.eq_zero_or_pos d with e | e
    · rw [e, g3] at q
      exact absurd q (by decide)
    · exact e
  have d2 : m.gk d = 2 → 1 ≤ d := fun q => by
    rcases Nat.eq_zero_or_pos d with e | e
    · rw [e, g3] at q
      exact absurd q (by decide)
    · exact e
  have d3 : m.gk d = 3 → 1 ≤ d := fun q => by
    rcases Nat.eq_zero_or_pos d with e | e
    · rw [e, g3] at q
      exact absurd q (by decide)
    · exact e
  refine k_Mo_readClose_28 ok E.nL rW_58 rF_Mo_28 rF_Mo_27 rW_66 (vin rfl (by omega) (by decide)) (fun z => ?_) (fun z => ?_)
  · rw [c0, k8, k9] at z
    rw [c0, k8, k9]
    have zz1 := z
    refine k_Mo_readClose_52 ok (fun z => ?_) (fun z => ?_)
    · have zz2 := z
      refine k_Mo_readClose_66 ok (fun z => ?_) (fun z => ?_)
      · -- the first group
        have ed : d = 0 := by
          rcases Nat.eq_zero_or_pos d with e | e
          · exact e
          · rcases g4 d e (by omega) with q | q | q
            · exact absurd q zz1
            · exact absurd q zz2
            · exact absurd q z
        refine out m3 k2 ⟨k1, by omega, by omega, by omega⟩ (by omega) k4 (fun _ => Or.inr ⟨by omega, ?_, k12⟩)
        rw [if_neg z, ed] at k10
        exact k10
      · have hk3 : m.gk d = 3 := z
        have hd1 := d3 hk3
        rw [if_pos hk3] at k10 g6
        refine k_Mo_readClose_71 ok rW_58 (mo_emit (by omega) _ _) (gF_h E.nR (by decide) (by decide)) (fun _ _ q => qM_len q) ?_
        rintro r M' ⟨m5, ⟨rfl, rfl⟩, rfl⟩
        have t5 : (m3.d_em 7 0).tI := k1
        have h5 : hgt (m3.d_em 7 0).oo (m3.d_em 7 0).ar (m3.d_em 7 0).no (lvl m.gk d + 1) := hgt_em k10 (Or.inr (Or.inr (Or.inr ⟨by decide, by omega, by omega⟩)))
        refine k_Mo_readClose_78 ok rW_58 (mo_isKey t5 _) (gF_h E.nR (by decide) (by decide)) (fun _ _ q => qM_len q) ?_
        rintro r M' ⟨m6, ⟨b, rfl, rfl⟩, rfl⟩
        refine k_Mo_readClose_84 ok (fun z => ?_) (fun z => ?_)
        · -- join
          refine k_Mo_readClose_99 ok rW_58 (mo_emit (by show m3.no + 1 < 400; omega) _ _) (gF_h E.nR (by decide) (by decide)) (fun _ _ q => qM_len q) ?_
          rintro r M' ⟨m7, ⟨rfl, rfl⟩, rfl⟩
          refine out _ (by exact k2) ⟨by exact k1, by show m3.el ≤ 12; omega, by show m3.np + m3.ne ≤ m3.el; omega, by show m3.no + 1 + 1 ≤ 300; omega⟩ (by show m.bh < m3.bh; omega) (by exact k4) (fun _ => Or.inl ⟨by show 1 ≤ m3.dp; omega, by exact KI' hd1, ?_, ?_, by exact k12⟩)
          · show hgt ((m3.d_em 7 0).d_em 8 0).oo ((m3.d_em 7 0).d_em 8 0).ar ((m3.d_em 7 0).d_em 8 0).no (lvl m3.gk m3.dp)
            rw [k9, k8]
            exact hgt_em h5 (Or.inr (Or.inr (Or.inr ⟨by decide, by omega, by omega⟩)))
          · show 2 * (m3.no + 1 + 1) + 2 * lvl m3.gk m3.dp + 0 ≤ 3 * m3.bh + 4 * m3.el + m3.dp
            rw [k9, k8]
            omega
        · -- another group beside it
          refine k_Mo_readClose_87 ok rW_58 (mo_next t5) (gF_h E.nR (by decide) (by decide)) (fun _ _ q => qM_len q) ?_
          rintro r M' ⟨m7, ⟨rfl, w1, w2, -⟩, rfl⟩
          obtain ⟨y1, y2, y3, y4, y5, y6, y7, y8, y9, y10, y11, y12, y13⟩ := w1.eqs
          have y4 : m7.el = m3.el := y4
          have y5 : m7.dp = m3.dp := y5
          have y6 : m7.gk = m3.gk := y6
          have y9 : m7.no = m3.no + 1 := y9
          have y10 : m7.np = m3.np := y10
          have y11 : m7.ne = m3.ne := y11
          have yb : m3.bh ≤ m7.bh := w1.2.2.1
          refine k_Mo_readClose_91 ok rW_58 (mo_readStart ⟨w1.1, by omega, by omega, by omega⟩ (by rw [w2]; exact k11) (by omega) 3 (by decide) (by rw [if_neg (by decide), y5, y6]; exact ⟨by omega, (KI' hd1).2.2.1, (KI' hd1).2.2.2⟩) (by rw [if_pos rfl, y5, y6, y7, y8, k8, k9]; rw [y9]; exact h5) (by rw [if_pos rfl, y4, y5, y6, y9, k8, k9]; omega) (TA_St w1 (by exact k12))) (gF_h E.nR (by decide) (by decide)) (fun _ _ q => qM_len q) ?_
          rintro r M' ⟨m8, ⟨rfl, v1, v2, v3, v4, v5⟩, rfl⟩
          refine k_Mo_readClose_96 ok ?_
          exact out m8 ((Fr.trans (by exact k2) w1.fr).trans v1) v2 (by omega) (by omega) (fun z => Or.inl ⟨(v5 z).1.1, v5 z⟩)
    · have hk3 : ¬ m.gk d = 3 := by rw [z]; decide
      have hd1 := d2 z
      obtain ⟨p1, p2⟩ := fin 5 (Or.inr rfl) hk3 hd1
      refine k_Mo_readClose_57 ok rW_58 (mo_emit (by omega) _ _) (gF_h E.nR (by decide) (by decide)) (fun _ _ q => qM_len q) ?_
      rintro r M' ⟨m5, ⟨rfl, rfl⟩, rfl⟩
      refine k_Mo_readClose_63 ok ?_
      exact out _ (by exact k2) ⟨p1, by show m3.el ≤ 12; omega, by show m3.np + m3.ne ≤ m3.el; omega, by show m3.no + 1 ≤ 300; omega⟩ (by show m.bh < m3.bh; omega) (by exact k4) (fun _ => Or.inl ⟨by show 1 ≤ m3.dp; omega, p2⟩)
  · rw [c0, k8, k9] at z
    have hk3 : ¬ m.gk d = 3 := by rw [z]; decide
    have hd1 := d1 z
    obtain ⟨p1, p2⟩ := fin 4 (Or.inl rfl) hk3 hd1
    refine k_Mo_readClose_43 ok rW_58 (mo_emit (by omega) _ _) (gF_h E.nR (by decide) (by decide)) (fun _ _ q => qM_len q) ?_
    rintro r M' ⟨m5, ⟨rfl, rfl⟩, rfl⟩
    refine k_Mo_readClose_49 ok ?_
    exact out _ (by exact k2) ⟨p1, by show m3.el ≤ 12; omega, by show m3.np + m3.ne ≤ m3.el; omega, by show m3.no + 1 ≤ 300; omega⟩ (by show m.bh < m3.bh; omega) (by exact k4) (fun _ => Or.inl ⟨by show 1 ≤ m3.dp; omega, p2⟩)
end RP8
