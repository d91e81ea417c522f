/-! THE REFERENCE'S PARSER: all groups, the query -/
section RP9
variable {l : Launch} {c : CS} {m : MS} {o : Nat → Int64}
theorem GI_St {k : Nat} {m m' : MS} (h : St m m') (g : GI k m) : GI k m' := by
  obtain ⟨f1, f2, f3, f4, f5, f6, f7, f8, f9, f10, f11, f12, f13⟩ := h.eqs
  obtain ⟨⟨g1, g2, g3, g4⟩, g5, g6, g7⟩ := g
  have hb := h.2.2.1
  refine ⟨⟨by omega, by omega, by rw [f6]; exact g3, by rw [f5, f6]; exact g4⟩, by rw [f5, f6, f7, f8, f9]; exact g5, ?_, TA_St h g7⟩
  rw [f4, f5, f6, f9]
  omega
theorem BI_St {m m' : MS} (h : St m m') (b : BI m) : BI m' := by
  obtain ⟨f1, f2, f3, f4, f5, f6, f7, f8, f9, f10, f11, f12, f13⟩ := h.eqs
  obtain ⟨b1, b2, b3, b4⟩ := b
  exact ⟨h.1, by omega, by omega, by omega⟩
def GL (m : MS) : Prop := m.wr < 0 → (1 ≤ m.dp ∧ GI 0 m) ∨ (m.dp = 0 ∧ hgt m.oo m.ar m.no 1 ∧ TA m)
theorem mo_readGroups (h : BI m) (hw : m.wr < 0) (hd : m.dp = 0) (hn : m.no = 0) (hTA : TA m) : mm_ l y_Mo_readGroups w_Mo_readGroups (rmh 10) [.ref 58] (W9 c m o) (qM c o (fun r m' => r = none ∧ Fr m m' ∧ BI m' ∧ (m'.wr < 0 → hgt m'.oo m'.ar m'.no 1 ∧ TA m'))) := by
  refine mm_intro (by decide) (Nat.le_of_ble_eq_true rfl) i_Mo_readGroups (fun X ok E => ?_)
  have quit : ∀ m1, Fr m m1 → BI m1 → ¬ m1.wr < 0 → gg X (W9 c m1 o) 0 0 5 [(0, .ref 58)] [] := by
    intro m1 h1 h2 h3
    refine k_Mo_readGroups_5 ok rW_58 rF_Mo_20 (fun _ => ?_) (fun z => absurd (Int32.not_lt.mp h3) z)
    refine k_Mo_readGroups_125 ok E ⟨_, ⟨rfl, h1, h2, fun z => absurd z h3⟩, rfl⟩ (Nat.le_refl _) (Nat.le_refl _)
  have loop : ∀ N m1, (160 - m1.bh) + (13 - m1.el) ≤ N → Fr m m1 → BI m1 → GL m1 → gg X (W9 c m1 o) 0 0 5 [(0, .ref 58)] [] := by
    intro N
    induction N with
    | zero =>
      intro m1 hN h1 h2 h3
      have := h2.2.1
      omega
    | succ N ih =>
      intro m1 hN h1 h2 h3
      obtain ⟨b1, b2, b3, b4⟩ := id h2
      have hbh : m1.bh ≤ 160 := by
        obtain ⟨a1, a2, a3, -⟩ := b1
        omega
      by_cases hw1 : m1.wr < 0
      · rcases h3 hw1 with ⟨hd1, g⟩ | ⟨hd0, hg⟩
        · have hd4 := g.1.2.1
          -- behind an element
          have elt : ∀ (m2 : MS) (pc : Nat), pc = 44 ∨ pc = 104 → Fr m m2 → BI m2 → m1.bh ≤ m2.bh → (m2.wr < 0 → m2.el = m1.el + 1 ∧ GI (bif m2.hs then 4 else 0) m2) → gg X (W9 c m2 o) 0 0 pc [(0, .ref 58)] [] := by
            intro m2 pc hpc w1 w2 w3 w4
            have hbh2 : m2.bh ≤ 160 := by
              obtain ⟨⟨a1, a2, a3, -⟩, -⟩ := w2
              omega
            have more : (z : m2.wr < 0) → m2.hs = false → gg X (W9 c m2 o) 0 0 5 [(0, .ref 58)] [] := by
              intro z y
              obtain ⟨w5, w6⟩ := w4 z
              rw [y] at w6
              have := w2.2.1
              exact ih m2 (by omega) w1 w2 (fun _ => Or.inl ⟨w6.1.1, w6⟩)
            have on : (z : m2.wr < 0) → m2.hs = true → ∀ m3, Fr m2 m3 → BI m3 → m2.bh ≤ m3.bh → m3.el = m2.el → (m3.wr < 0 → GI 0 m3) → gg X (W9 c m3 o) 0 0 5 [(0, .ref 58)] [] := by
              intro z y m3 v1 v2 v3 v4 v5
              obtain ⟨w5, w6⟩ := w4 z
              have := v2.2.1
              have hbh3 : m3.bh ≤ 160 := by
                obtain ⟨⟨a1, a2, a3, -⟩, -⟩ := v2
                omega
              exact ih m3 (by omega) (w1.trans v1) v2 (fun z9 => Or.inl ⟨(v5 z9).1.1, v5 z9⟩)
            rcases hpc with rfl | rfl
            · by_cases zw : m2.wr < 0
              · refine k_Mo_readGroups_44 ok rW_58 rF_Mo_20 (fun z9 => absurd zw (Int32.not_lt.mpr z9)) (fun _ => ?_)
                refine k_Mo_readGroups_51 ok rW_58 rF_Mo_22 (fun z => have z := bI_0 z; ?_) (fun z => have z := bI_1 z; ?_)
                · exact more zw z
                · have y : m2.hs = true := z
                  obtain ⟨w5, w6⟩ := w4 zw
                  rw [y] at w6
                  refine k_Mo_readGroups_58 ok rW_58 (mo_readOn w2 zw w6) (gF_h E.nR (by decide) (by decide)) (fun _ _ q => qM_len q) ?_
                  rintro r M' ⟨m3, ⟨rfl, v1, v2, v3, v4, v5⟩, rfl⟩
                  refine k_Mo_readGroups_62 ok ?_
                  exact on zw y m3 v1 v2 v3 v4 v5
              · refine k_Mo_readGroups_44 ok rW_58 rF_Mo_20 (fun _ => quit m2 w1 w2 zw) (fun z9 => absurd (Int32.not_lt.mp zw) z9)
            · by_cases zw : m2.wr < 0
              · refine k_Mo_readGroups_104 ok rW_58 rF_Mo_20 (fun z9 => absurd zw (Int32.not_lt.mpr z9)) (fun _ => ?_)
                refine k_Mo_readGroups_111 ok rW_58 rF_Mo_22 (fun z => have z := bI_0 z; ?_) (fun z => have z := bI_1 z; ?_)
                · exact more zw z
                · have y : m2.hs = true := z
                  obtain ⟨w5, w6⟩ := w4 zw
                  rw [y] at w6
                  refine k_Mo_readGroups_118 ok rW_58 (mo_readOn w2 zw w6) (gF_h E.nR (by decide) (by decide)) (fun _ _ q => qM_len q) ?_
                  rintro r M' ⟨m3, ⟨rfl, v1, v2, v3, v4, v5⟩, rfl⟩
                  refine k_Mo_readGroups_122 ok ?_
                  exact on zw y m3 v1 v2 v3 v4 v5
              · refine k_Mo_readGroups_104 ok rW_58 rF_Mo_20 (fun _ => quit m2 w1 w2 zw) (fun z9 => absurd (Int32.not_lt.mp zw) z9)
          have mid : gg X (W9 c m1 o) 0 0 65 [(0, .ref 58)] [] := by
            refine k_Mo_readGroups_65 ok rW_58 (mo_isSign b1 _) (gF_h E.nR (by decide) (by decide)) (fun _ _ q => qM_len q) ?_
            rintro r M' ⟨m1, ⟨b, rfl, rfl, q⟩, rfl⟩
            refine k_Mo_readGroups_71 ok (fun z => have z := bI_0 z; ?_) (fun z => have z := bI_1 z; ?_)
            · refine k_Mo_readGroups_86 ok rW_58 (mo_isSign b1 _) (gF_h E.nR (by decide) (by decide)) (fun _ _ q => qM_len q) ?_
              rintro r M' ⟨m1, ⟨b9, rfl, rfl, -⟩, rfl⟩
              refine k_Mo_readGroups_93 ok rW_58 (mo_goOn b1 b9) (gF_h E.nR (by decide) (by decide)) (fun _ _ q => qM_len q) ?_
              rintro r M' ⟨m2, ⟨b', rfl, q1, q2, q3⟩, rfl⟩
              refine k_Mo_readGroups_96 ok (fun z => have z := bI_1 z; ?_) (fun z => have z := bI_0 z; ?_)
              · obtain ⟨-, y2, y3⟩ := q2 z
                obtain ⟨f1, f2, f3, f4, f5, f6, f7, f8, f9, f10, f11, f12, f13⟩ := q1.eqs
                have fb := q1.2.2.1
                refine k_Mo_readGroups_100 ok rW_58 (mo_readElement (BI_St q1 h2) y2 (GI_St q1 g)) (gF_h E.nR (by decide) (by decide)) (fun _ _ q => qM_len q) ?_
                rintro r M' ⟨m3, ⟨rfl, v1, v2, v3, v4⟩, rfl⟩
                exact elt m3 104 (Or.inr rfl) ((h1.trans q1.fr).trans v1) v2 (by omega) (fun z => ⟨by have := (v4 z).1; omega, (v4 z).2⟩)
              · refine k_Mo_readGroups_99 ok E ⟨_, ⟨rfl, h1.trans q1.fr, BI_St q1 h2, fun z9 => absurd z9 (q3 z)⟩, rfl⟩ (Nat.le_refl _) (Nat.le_refl _)
            · have hk := q z
              refine k_Mo_readGroups_74 ok rW_58 (Nat.le_refl 59) (sF_Mo_21 (v := false) rfl) (sO_Mo_21 rfl) (mo_readClose (by exact h2) (by exact hw1) (by exact g) (by exact hk)) (gF_h E.nR (by decide) (by decide)) (fun _ _ q => qM_len q) ?_
              rintro r M' ⟨m3, ⟨rfl, v1, v2, v3, v4, v5⟩, rfl⟩
              have v3 : m1.bh < m3.bh := v3
              have v4 : m3.el = m1.el := v4
              have hbh3 : m3.bh ≤ 160 := by
                obtain ⟨⟨a1, a2, a3, -⟩, -⟩ := v2
                omega
              refine k_Mo_readGroups_83 ok ?_
              exact ih m3 (by omega) (h1.trans (by exact v1)) v2 v5
          refine k_Mo_readGroups_5 ok rW_58 rF_Mo_20 (fun z9 => absurd hw1 (Int32.not_lt.mpr z9)) (fun _ => ?_)
          refine k_Mo_readGroups_12 ok rW_58 rF_Mo_27 (fun z => have z := (nLe rfl (nL 0) (by omega) (by omega) z); ?_) (fun z => have z := (nNle rfl (nL 0) (by omega) (by omega) z); ?_)
          · omega
          refine k_Mo_readGroups_19 ok rW_58 rF_Mo_21 (fun z => ?_) (fun z => ?_)
          · exact mid
          refine k_Mo_readGroups_26 ok rW_58 (mo_isSign b1 _) (gF_h E.nR (by decide) (by decide)) (fun _ _ q => qM_len q) ?_
          rintro r M' ⟨m1, ⟨b, rfl, rfl, -⟩, rfl⟩
          refine k_Mo_readGroups_32 ok (fun z => ?_) (fun z => ?_)
          · exact mid
          refine k_Mo_readGroups_35 ok rW_58 (Nat.le_refl 59) (sF_Mo_21 (v := false) rfl) (sO_Mo_21 rfl) (mo_readElement (by exact h2) (by exact hw1) (by exact g)) (gF_h E.nR (by decide) (by decide)) (fun _ _ q => qM_len q) ?_
          rintro r M' ⟨m3, ⟨rfl, v1, v2, v3, v4⟩, rfl⟩
          exact elt m3 44 (Or.inl rfl) (h1.trans (by exact v1)) v2 (by exact v3) (fun z => v4 z)
        · refine k_Mo_readGroups_5 ok rW_58 rF_Mo_20 (fun z9 => absurd hw1 (Int32.not_lt.mpr z9)) (fun _ => ?_)
          refine k_Mo_readGroups_12 ok rW_58 rF_Mo_27 (fun z => have z := (nLe rfl (nL 0) (by omega) (by omega) z); ?_) (fun z => have z := (nNle rfl (nL 0) (by omega) (by omega) z); ?_)
          · refine k_Mo_readGroups_125 ok E ⟨_, ⟨rfl, h1, h2, fun _ => hg⟩, rfl⟩ (Nat.le_refl _) (Nat.le_refl _)
          · omega
      · exact quit m1 h1 h2 hw1
  have h0 : hgt m.oo m.ar m.no 0 := by rw [hn]; rfl
  refine k_Mo_readGroups_0 ok rW_58 (mo_readStart h hw (by omega) 0 (by decide) hd (by rw [hd]; exact h0) (by rw [hd, hn]; show 0 + 0 + 0 ≤ _; omega) hTA) (gF_h E.nR (by decide) (by decide)) (fun _ _ q => qM_len q) ?_
  rintro r M' ⟨m2, ⟨rfl, w1, w2, w3, w4, w5⟩, rfl⟩
  exact loop _ m2 (Nat.le_refl _) w1 w2 (fun z => Or.inl ⟨(w5 z).1.1, w5 z⟩)
/-- the query: behind it the steps are good, the selected variables are variables -/
def QI (m : MS) : Prop := BI m ∧ m.nw ≤ 6 ∧ (m.wr < 0 → (hgt m.oo m.ar m.no 1 ∧ TA m) ∧ ∀ j, j < m.nw → ∃ v, v < 6 ∧ m.wa j = nI v)
def Fr3 (m m' : MS) : Prop := m'.1.1 = m.1.1 ∧ m'.1.2.1 = m.1.2.1 ∧ m'.2 = m.2
theorem Fr.r3 {m m' : MS} (h : Fr m m') : Fr3 m m' := ⟨h.1, h.2.1, h.2.2.1⟩
theorem Fr3.trans {m1 m2 m3 : MS} (h1 : Fr3 m1 m2) (h2 : Fr3 m2 m3) : Fr3 m1 m3 := ⟨h2.1.trans h1.1, h2.2.1.trans h1.2.1, h2.2.2.trans h1.2.2⟩
theorem mo_readQuery (h : BI m) (hw : m.wr < 0) (hd : m.dp = 0) (hn : m.no = 0) (h0 : m.nw = 0) (hne : m.ne = 0) : mm_ l y_Mo_readQuery w_Mo_readQuery (rmh 11) [.ref 58] (W9 c m o) (qM c o (fun r m' => r = none ∧ Fr3 m m' ∧ QI m')) := by
  refine mm_intro (by decide) (Nat.le_of_ble_eq_true rfl) i_Mo_readQuery (fun X ok E => ?_)
  have ht := h.1
  -- at a fault
  have flt : ∀ m1, Fr3 m m1 → BI m1 → m1.nw ≤ 6 → ¬ m1.wr < 0 → ∃ m', (none = (none : Option Value) ∧ Fr3 m m' ∧ QI m') ∧ W9 c m1 o = W9 c m' o := fun m1 q1 q2 q3 q4 => ⟨m1, ⟨rfl, q1, q2, q3, fun z => absurd z q4⟩, rfl⟩
  -- the end: nothing may follow
  have e210 : ∀ m1, Fr3 m m1 → QI m1 → gg X (W9 c m1 o) 0 0 210 [(0, .ref 58)] [] := by
    intro m1 q1 q2
    refine k_Mo_readQuery_210 ok rW_58 rF_Mo_15 (fun z => ?_) (fun z => ?_)
    · refine k_Mo_readQuery_221 ok E ⟨_, ⟨rfl, q1, q2⟩, rfl⟩ (Nat.le_refl _) (Nat.le_refl _)
    · refine k_Mo_readQuery_217 ok rW_58 (mo_stop q2.1.1) (gF_h E.nR (by decide) (by decide)) (fun _ _ q => qM_len q) ?_
      rintro r M' ⟨m2, ⟨rfl, w1, x, rfl⟩, rfl⟩
      refine k_Mo_readQuery_221 ok E (flt _ (by exact q1) (by exact q2.1) (by exact q2.2.1) w1) (Nat.le_refl _) (Nat.le_refl _)
  have stq : ∀ m1 m2, St m1 m2 → QI m1 → QI m2 := by
    intro m1 m2 q1 q2
    obtain ⟨f1, f2, f3, f4, f5, f6, f7, f8, f9, f10, f11, f12, f13⟩ := q1.eqs
    refine ⟨BI_St q1 q2.1, by rw [f13.1]; exact q2.2.1, fun z => ?_⟩
    obtain ⟨⟨y1, y2⟩, y3⟩ := q2.2.2 (q1.2.2.2.1 z)
    rw [f7, f8, f9, f12, f13.1]
    exact ⟨⟨y1, TA_St q1 y2⟩, y3⟩
  have e168 : ∀ m1, Fr3 m m1 → QI m1 → gg X (W9 c m1 o) 0 0 168 [(0, .ref 58)] [] := by
    intro m1 q1 q2
    refine k_Mo_readQuery_168 ok rW_58 (mo_isKey q2.1.1 _) (gF_h E.nR (by decide) (by decide)) (fun _ _ q => qM_len q) ?_
    rintro r M' ⟨m1, ⟨b, rfl, rfl⟩, rfl⟩
    refine k_Mo_readQuery_173 ok (fun z => ?_) (fun z => ?_)
    · exact e210 m1 q1 q2
    · refine k_Mo_readQuery_176 ok rW_58 (mo_next q2.1.1) (gF_h E.nR (by decide) (by decide)) (fun _ _ q => qM_len q) ?_
      rintro r M' ⟨m2, ⟨rfl, w1, w2, -⟩, rfl⟩
      have go : ∀ x (b : Bool), gg X (W9 c (m2.u_li x) o) 0 0 203 [(0, .ref 58)] [.int (bI b), .ref 58] := by
        intro x b
        refine k_Mo_readQuery_203 ok rW_58 (mo_goOn (by exact w1.1) b) (gF_h E.nR (by decide) (by decide)) (fun _ _ q => qM_len q) ?_
        rintro r M' ⟨m3, ⟨b', rfl, v1, v2, v3⟩, rfl⟩
        have hF : Fr3 m m3 := (q1.trans w1.fr.r3).trans (by exact v1.fr.r3)
        have hQ : QI m3 := stq _ _ v1 (by exact stq _ _ w1 q2)
        refine k_Mo_readQuery_206 ok (fun z => ?_) (fun z => ?_)
        · exact e210 m3 hF hQ
        · refine k_Mo_readQuery_209 ok E ⟨_, ⟨rfl, hF, hQ⟩, rfl⟩ (Nat.le_refl _) (Nat.le_refl _)
      refine k_Mo_readQuery_180 ok rW_58 rF_Mo_16 (Nat.le_refl 59) sF_Mo_46 (sO_Mo_46 rfl) rF_Mo_15 (fun z => ?_) (fun z => ?_)
      · refine k_Mo_readQuery_202 ok ?_
        exact go _ false
      · refine k_Mo_readQuery_198 ok ?_
        exact go _ true
  have e112 : ∀ m1, Fr3 m m1 → QI m1 → gg X (W9 c m1 o) 0 0 112 [(0, .ref 58)] [] := by
    intro m1 q1 q2
    refine k_Mo_readQuery_112 ok rW_58 rF_Mo_20 (fun z => ?_) (fun z => ?_)
    · refine k_Mo_readQuery_120 ok rW_58 (mo_isKey q2.1.1 _) (gF_h E.nR (by decide) (by decide)) (fun _ _ q => qM_len q) ?_
      rintro r M' ⟨m1, ⟨b, rfl, rfl⟩, rfl⟩
      refine k_Mo_readQuery_125 ok (fun z => ?_) (fun z => ?_)
      · exact e168 m1 q1 q2
      · refine k_Mo_readQuery_128 ok rW_58 (mo_next q2.1.1) (gF_h E.nR (by decide) (by decide)) (fun _ _ q => qM_len q) ?_
        rintro r M' ⟨m2, ⟨rfl, w1, w2, -⟩, rfl⟩
        refine k_Mo_readQuery_132 ok rW_58 (mo_readVariable w1.1) (gF_h E.nR (by decide) (by decide)) (fun _ _ q => qM_len q) ?_
        rintro r M' ⟨m3, ⟨x, rfl, v1, v2, v3⟩, rfl⟩
        have hF : Fr3 m m3 := (q1.trans w1.fr.r3).trans v2.fr.r3
        have hQ : QI m3 := stq _ _ v2 (stq _ _ w1 q2)
        have hQ2 : QI (m3.u_ob x) := by
          obtain ⟨⟨⟨a1, a2, a3, a4, a5, a6, a7, a8, a9⟩, y2, y3, y4⟩, y5, y6⟩ := hQ
          exact ⟨⟨⟨a1, a2, a3, a4, a5, a6, a7, a8, v1, a9.2⟩, y2, y3, y4⟩, y5, y6⟩
        refine k_Mo_readQuery_137 ok rW_58 (Nat.le_refl 59) sF_Mo_44 (sO_Mo_44 rfl) rF_Mo_20 (fun z => ?_) (fun z => ?_)
        · refine k_Mo_readQuery_148 ok rW_58 (mo_isKey (by exact hQ2.1.1) _) (gF_h E.nR (by decide) (by decide)) (fun _ _ q => qM_len q) ?_
          rintro r M' ⟨m4, ⟨b, rfl, rfl⟩, rfl⟩
          refine k_Mo_readQuery_154 ok rW_58 (Nat.le_refl 59) ⟨bI_nar _, by cases b <;> rfl⟩ (sF_Mo_45 rfl) (sO_Mo_45 rfl) (fun z => ?_) (fun z => ?_)
          · exact e168 _ (by exact hF) (by exact hQ2)
          · refine k_Mo_readQuery_164 ok rW_58 (mo_next (by exact hQ2.1.1)) (gF_h E.nR (by decide) (by decide)) (fun _ _ q => qM_len q) ?_
            rintro r M' ⟨m5, ⟨rfl, y1, y2, -⟩, rfl⟩
            exact e168 m5 (Fr3.trans (by exact hF) y1.fr.r3) (stq _ _ y1 (by exact hQ2))
        · refine k_Mo_readQuery_147 ok E ⟨_, ⟨rfl, by exact hF, hQ2⟩, rfl⟩ (Nat.le_refl _) (Nat.le_refl _)
    · refine k_Mo_readQuery_119 ok E (flt m1 q1 q2.1 q2.2.1 z) (Nat.le_refl _) (Nat.le_refl _)
  -- the selected ones
  have grp : ∀ m1, Fr3 m m1 → BI m1 → m1.dp = 0 → (m1.no = 0 ∧ m1.ne = 0) → m1.wr < 0 → m1.nw ≤ 6 → (∀ j, j < m1.nw → ∃ v, v < 6 ∧ m1.wa j = nI v) → gg X (W9 c m1 o) 0 0 108 [(0, .ref 58)] [] := by
    intro m1 q1 q2 q3 q4 q5 q6 q7
    refine k_Mo_readQuery_108 ok rW_58 (mo_readGroups q2 q5 q3 q4.1 (fun t ht => absurd ht (by rw [q4.2]; exact Nat.not_lt_zero t))) (gF_h E.nR (by decide) (by decide)) (fun _ _ q => qM_len q) ?_
    rintro r M' ⟨m2, ⟨rfl, w1, w2, w3⟩, rfl⟩
    exact e112 m2 (q1.trans w1.r3) ⟨w2, by rw [w1.2.2.2.2]; exact q6, fun z => ⟨w3 z, by rw [w1.2.2.2.1, w1.2.2.2.2]; exact q7⟩⟩
  have body : ∀ m1, Fr3 m m1 → BI m1 → m1.dp = 0 → (m1.no = 0 ∧ m1.ne = 0) → m1.wr < 0 → m1.nw ≤ 6 → (∀ j, j < m1.nw → ∃ v, v < 6 ∧ m1.wa j = nI v) → (m1.nw < 6 → ∀ m2 (b : Bool), Fr3 m m2 → BI m2 → m2.dp = 0 → (m2.no = 0 ∧ m2.ne = 0) → m2.wr < 0 → m2.nw = m1.nw + 1 → (∀ j, j < m2.nw → ∃ v, v < 6 ∧ m2.wa j = nI v) → gg X (W9 c m2 o) 0 0 35 [(0, .ref 58), (1, .int (bI b))] []) → ∀ b : Bool, gg X (W9 c m1 o) 0 0 35 [(0, .ref 58), (1, .int (bI b))] [] := by
    intro m1 q1 q2 q3 q4 q5 q6 q7 nx b
    refine k_Mo_readQuery_35 ok (fun z => ?_) (fun z => ?_)
    · exact grp m1 q1 q2 q3 q4 q5 q6 q7
    refine k_Mo_readQuery_39 ok rW_58 rF_Mo_41 (fun z => have z := (nNe rfl (nL 6) (by omega) (by omega) z); ?_) (fun z => have z := (nEq rfl (nL 6) (by omega) (by omega) z); ?_)
    · refine k_Mo_readQuery_52 ok rW_58 rF_Mo_20 (fun _ => ?_) (fun z => absurd q5 z)
      refine k_Mo_readQuery_60 ok rW_58 rF_Mo_40 rF_Mo_41 (mo_readVariable q2.1) (gF_h E.nR (by decide) (by decide)) (fun _ _ q => qM_len q) ?_
      rintro r M' ⟨m2, ⟨x, rfl, w1, w2, w3⟩, rfl⟩
      obtain ⟨f1, f2, f3, f4, f5, f6, f7, f8, f9, f10, f11, f12, f13⟩ := w2.eqs
      have d0 : (nI m1.nw).toNatClampNeg = m1.nw := nC rfl (by omega)
      have hB : BI m2 := BI_St w2 q2
      refine k_Mo_readQuery_72 ok rW_75 (vin rfl (by omega) (by decide)) sA_75 rW_58 rF_Mo_41 (Nat.le_refl 59) (sF_Mo_41 (nA rfl (nL 1))) (sO_Mo_41 rfl) rF_Mo_20 (fun z => ?_) (fun z => ?_)
      · have hz : m2.wr < 0 := z
        obtain ⟨v, hv, rfl⟩ := w3 hz
        rw [d0]
        have go : ∀ b : Bool, gg X (W9 c ((m2.u_wa (upd m2.wa m1.nw (nI v))).u_nw (m2.nw + 1)) o) 0 0 35 [(0, .ref 58), (1, .int (bI b))] [] := by
          intro b
          refine nx (by omega) _ b (by exact q1.trans w2.fr.r3) (by exact hB) (by exact f5.trans q3) (by exact ⟨f9.trans q4.1, f11.trans q4.2⟩) (by exact hz) (by show m2.nw + 1 = _; rw [f13.1]) ?_
          show ∀ j, j < m2.nw + 1 → ∃ v', v' < 6 ∧ upd m2.wa m1.nw (nI v) j = nI v'
          intro j hj
          unfold upd
          split
          · exact ⟨v, hv, rfl⟩
          · rw [f12]
            refine q7 j ?_
            rw [f13.1] at hj
            omega
        refine k_Mo_readQuery_91 ok rW_58 rF_Mo_15 (fun z => ?_) (fun z => ?_)
        · refine k_Mo_readQuery_103 ok ?_
          refine k_Mo_readQuery_104 ok E.nL ?_
          exact go false
        · refine k_Mo_readQuery_99 ok ?_
          refine k_Mo_readQuery_104 ok E.nL ?_
          exact go true
      · refine k_Mo_readQuery_90 ok E (flt _ (by exact q1.trans w2.fr.r3) (by exact hB) (by show m2.nw + 1 ≤ 6; rw [f13.1]; omega) (by exact z)) (Nat.le_refl _) (Nat.le_refl _)
    · refine k_Mo_readQuery_48 ok rW_58 (mo_stop q2.1) (gF_h E.nR (by decide) (by decide)) (fun _ _ q => qM_len q) ?_
      rintro r M' ⟨m2, ⟨rfl, w1, x, rfl⟩, rfl⟩
      refine k_Mo_readQuery_52 ok rW_58 rF_Mo_20 (fun z => absurd z w1) (fun _ => ?_)
      refine k_Mo_readQuery_59 ok E (flt _ (by exact q1) (by exact q2) (by exact q6) w1) (Nat.le_refl _) (Nat.le_refl _)
  have sel : ∀ r m1, m1.nw + r = 6 → Fr3 m m1 → BI m1 → m1.dp = 0 → (m1.no = 0 ∧ m1.ne = 0) → m1.wr < 0 → (∀ j, j < m1.nw → ∃ v, v < 6 ∧ m1.wa j = nI v) → ∀ b : Bool, gg X (W9 c m1 o) 0 0 35 [(0, .ref 58), (1, .int (bI b))] [] := by
    intro r
    induction r with
    | zero => exact fun m1 y q1 q2 q3 q4 q5 q7 => body m1 q1 q2 q3 q4 q5 (by omega) q7 (fun z => absurd z (by omega))
    | succ r ih => exact fun m1 y q1 q2 q3 q4 q5 q7 => body m1 q1 q2 q3 q4 q5 (by omega) q7 (fun _ m2 b w1 w2 w3 w4 w5 w6 w7 => ih m2 (by omega) w1 w2 w3 w4 w5 w7 b)
  have go33 : ∀ m1, St m m1 → m1.wr < 0 → ∀ b, gg X (W9 c (m1.u_di b) o) 0 0 33 [(0, .ref 58)] [] := by
    intro m1 q1 q2 b
    obtain ⟨f1, f2, f3, f4, f5, f6, f7, f8, f9, f10, f11, f12, f13⟩ := q1.eqs
    refine k_Mo_readQuery_33 ok E.nL ?_
    exact sel 6 _ (by show m1.nw + 6 = 6; rw [f13.1, h0]) (by exact q1.fr.r3) (by exact BI_St q1 h) (by exact f5.trans hd) (by exact ⟨f9.trans hn, f11.trans hne⟩) (by exact q2) (by show ∀ j, j < m1.nw → _; rw [f13.1, h0]; exact fun j hj => absurd hj (Nat.not_lt_zero j)) true
  refine k_Mo_readQuery_0 ok rW_58 (mo_isKey ht _) (gF_h E.nR (by decide) (by decide)) (fun _ _ q => qM_len q) ?_
  rintro r M' ⟨m, ⟨b, rfl, rfl⟩, rfl⟩
  refine k_Mo_readQuery_6 ok rW_58 (mo_goOn ht b) (gF_h E.nR (by decide) (by decide)) (fun _ _ q => qM_len q) ?_
  rintro r M' ⟨m1, ⟨b', rfl, q1, q2, q3⟩, rfl⟩
  obtain ⟨f1, f2, f3, f4, f5, f6, f7, f8, f9, f10, f11, f12, f13⟩ := q1.eqs
  refine k_Mo_readQuery_9 ok (fun z => have z := bI_1 z; ?_) (fun z => have z := bI_0 z; ?_)
  · have hz := (q2 z).2.1
    refine k_Mo_readQuery_13 ok rW_58 (mo_isKey q1.1 _) (gF_h E.nR (by decide) (by decide)) (fun _ _ q => qM_len q) ?_
    rintro r M' ⟨m1, ⟨b, rfl, rfl⟩, rfl⟩
    refine k_Mo_readQuery_19 ok rW_58 (Nat.le_refl 59) ⟨bI_nar _, by cases b <;> rfl⟩ (sF_Mo_43 rfl) (sO_Mo_43 rfl) (fun z => ?_) (fun z => ?_)
    · exact go33 m1 q1 hz _
    · refine k_Mo_readQuery_29 ok rW_58 (mo_next (by exact q1.1)) (gF_h E.nR (by decide) (by decide)) (fun _ _ q => qM_len q) ?_
      rintro r M' ⟨m2, ⟨rfl, w1, w2, -⟩, rfl⟩
      have q4 : St m m2 := St.trans (m2 := m1.u_di b) (by exact q1) w1
      exact go33 m2 q4 (by rw [w2]; exact hz) m2.di
  · refine k_Mo_readQuery_12 ok E (flt _ q1.fr.r3 (BI_St q1 h) (by rw [f13.1, h0]; decide) (q3 z)) (Nat.le_refl _) (Nat.le_refl _)
end RP9
