section RX9
variable {l : Launch} {c : CS} {m : MS} {o : Nat → Int64} {T : Tn3} {P : Nat → Int32} {k : Nat} {s : Vw}
/-- where the loop over the groups stands -/
def GX (T : Tn3) (P : Nat → Int32) (k : Nat) (F : Bool × Vw) (m : MS) : Prop := (m.wr < 0 → (1 ≤ m.dp ∧ GI 0 m ∧ GA T P k F m) ∨ (m.dp = 0 ∧ (hgt m.oo m.ar m.no 1 ∧ TA m) ∧ GZ T P k F m)) ∧ (¬ m.wr < 0 → GF P F m)
theorem rx_readGroups (h : BI m) (R : Rg T P k m s) (hd : m.dp = 0) (hn : m.no = 0) (hTA : TA m) : mm_ l y_Mo_readGroups w_Mo_readGroups (rmh 10) [.ref 58] (W9 c m o) (qM c o (fun r m' => r = none ∧ Fr m m' ∧ BI m' ∧ (m'.wr < 0 → hgt m'.oo m'.ar m'.no 1 ∧ TA m') ∧ Rr T P k m' (pGx T 4 s))) := by
  obtain ⟨F, hF⟩ : ∃ F, F = pGx T 4 s := ⟨_, rfl⟩
  rw [← hF]
  refine mm_intro (by decide) (Nat.le_of_ble_eq_true rfl) i_Mo_readGroups (fun X ok E => ?_)
  have quit : ∀ m1, Fr m m1 → BI m1 → GF P F m1 → gg X (W9 c m1 o) 0 0 5 [(0, .ref 58)] [] := by
    intro m1 h1 h2 h3
    have e : F = (false, F.2) := Prod.ext h3.2.1 rfl
    refine k_Mo_readGroups_5 ok rW_58 rF_Mo_20 (fun _ => ?_) (fun z => absurd (Int32.not_lt.mp h3.1) z)
    refine k_Mo_readGroups_125 ok E ⟨_, ⟨rfl, h1, h2, fun z => absurd z h3.1, Rr_f e h3.1 h3.2.2⟩, rfl⟩ (Nat.le_refl _) (Nat.le_refl _)
  have loop : ∀ N m1, (160 - m1.bh) + (13 - m1.el) ≤ N → Fr m m1 → BI m1 → GX T P k F m1 → gg X (W9 c m1 o) 0 0 5 [(0, .ref 58)] [] := by
    intro N
    induction N with
    | zero =>
      intro m1 hN h1 h2 h3
      have := h2.2.1
      omega
    | succ N ih =>
      intro m1 hN h1 h2 h3
      obtain ⟨b1, b2, b3, b4⟩ := id h2
      have hbh : m1.bh ≤ 160 := by
        obtain ⟨a1, a2, a3, -⟩ := b1
        omega
      by_cases hw1 : m1.wr < 0
      · rcases h3.1 hw1 with ⟨hd1, g, st, s1, hdp, hFI, hRR, R1, hpos⟩ | ⟨hd0, hg, -, s1, R1, hF1⟩
        · have hd4 := g.1.2.1
          have hes : m1.el = s1.2.2.2.1 := R1.2.2.2.2.1
          obtain ⟨t1, t2, -⟩ := R1.tok b1
          -- behind an element, which was read at s2
          have elt : ∀ (m2 m3 : MS) (s2 : Vw) (r9 : Nat) (pc : Nat), pc = 44 ∨ pc = 104 → Fr m m3 → BI m3 → m1.bh ≤ m3.bh → m2.el = m1.el → m2.el = s2.2.2.2.1 → m2.ss = false → m2.dp = st.length + 1 → FI m2 st → (m3.wr < 0 → m3.el = m2.el + 1 ∧ GI (bif m3.hs then 4 else 0) m3) → Elp T P k s2 m2 m3 → 12 ≤ r9 + (s2.2.2.2.1 + 1) → F = ctx T st (elk T st.length r9 (pE T (pGx T (3 - st.length)) s2)) → gg X (W9 c m3 o) 0 0 pc [(0, .ref 58)] [] := by
            intro m2 m3 s2 r9 pc hpc w1 w2 w3 x1 x2 x3 x4 x5 w4 hE hr hF2
            have hbh2 : m3.bh ≤ 160 := by
              obtain ⟨⟨a1, a2, a3, -⟩, -⟩ := w2
              omega
            obtain ⟨⟨⟨y1, y2⟩, y3, y4⟩, y5, y6⟩ := hE
            have hFI3 : FI m3 st := FI_congr st (st.length + 1) (Nat.lt_succ_self _) (fun i _ => ⟨by rw [y1], by rw [y3]⟩) x5
            have hRR2 : ∀ f, f ∈ st → 12 ≤ f.2.2 + (s2.2.2.2.1 + 1) := fun f hf => by
              have := hRR f hf
              omega
            by_cases hold : s2.2.2.2.1 < 12 ∧ hld T s2 = true
            · -- it holds groups
              obtain ⟨zw, zh, R3⟩ := y5 hold.1 hold.2
              obtain ⟨w5, w6⟩ := w4 zw
              rw [zh] at w6
              have hF3 : F = ctx T st (elk T st.length r9 (pE1 T (pGx T (3 - st.length)) (wE s2))) := by
                rw [hF2]
                unfold pE
                rw [if_pos hold.1]
              have on : ∀ m4, Fr m3 m4 → BI m4 → m3.bh ≤ m4.bh → m4.el = m3.el → (m4.wr < 0 → GI 0 m4 ∧ GA T P k F m4) → (¬ m4.wr < 0 → GF P F m4) → gg X (W9 c m4 o) 0 0 5 [(0, .ref 58)] [] := by
                intro m4 v1 v2 v3 v4 v5 v6
                have := v2.2.1
                have hbh3 : m4.bh ≤ 160 := by
                  obtain ⟨⟨a1, a2, a3, -⟩, -⟩ := v2
                  omega
                exact ih m4 (by omega) (w1.trans v1) v2 ⟨fun z9 => Or.inl ⟨(v5 z9).1.1.1, v5 z9⟩, v6⟩
              rcases hpc with rfl | rfl
              · refine k_Mo_readGroups_44 ok rW_58 rF_Mo_20 (fun z9 => absurd zw (Int32.not_lt.mpr z9)) (fun _ => ?_)
                refine k_Mo_readGroups_51 ok rW_58 rF_Mo_22 (fun z9 => absurd z9 (by rw [zh]; decide)) (fun _ => ?_)
                refine k_Mo_readGroups_58 ok rW_58 (rx_readOn w2 R3 w6 (y4.trans x4) hFI3 hRR2 hr hold.2 hF3) (gF_h E.nR (by decide) (by decide)) (fun _ _ q => qM_len q) ?_
                rintro r M' ⟨m4, ⟨rfl, v1, v2, v3, v4, v5, v6⟩, rfl⟩
                refine k_Mo_readGroups_62 ok ?_
                exact on m4 v1 v2 v3 v4 v5 v6
              · refine k_Mo_readGroups_104 ok rW_58 rF_Mo_20 (fun z9 => absurd zw (Int32.not_lt.mpr z9)) (fun _ => ?_)
                refine k_Mo_readGroups_111 ok rW_58 rF_Mo_22 (fun z9 => absurd z9 (by rw [zh]; decide)) (fun _ => ?_)
                refine k_Mo_readGroups_118 ok rW_58 (rx_readOn w2 R3 w6 (y4.trans x4) hFI3 hRR2 hr hold.2 hF3) (gF_h E.nR (by decide) (by decide)) (fun _ _ q => qM_len q) ?_
                rintro r M' ⟨m4, ⟨rfl, v1, v2, v3, v4, v5, v6⟩, rfl⟩
                refine k_Mo_readGroups_122 ok ?_
                exact on m4 v1 v2 v3 v4 v5 v6
            · obtain ⟨yR, yh⟩ := y6 (by
                by_cases q : s2.2.2.2.1 < 12
                · refine Or.inr ?_
                  cases e : hld T s2 with
                  | false => rfl
                  | true => exact absurd ⟨q, e⟩ hold
                · exact Or.inl q)
              have yR := yR (pGx T (3 - st.length))
              cases hp : (pE T (pGx T (3 - st.length)) s2).1 with
              | false =>
                obtain ⟨u1, u2⟩ := yR.2 hp
                have hgf : GF P F m3 := by
                  refine GF_mk u1 u2 ?_
                  rw [hF2, show pE T (pGx T (3 - st.length)) s2 = (false, (pE T (pGx T (3 - st.length)) s2).2) from Prod.ext hp rfl, elk_f, ctx_f]
                rcases hpc with rfl | rfl
                · refine k_Mo_readGroups_44 ok rW_58 rF_Mo_20 (fun _ => quit m3 w1 w2 hgf) (fun z9 => absurd (Int32.not_lt.mp u1) z9)
                · refine k_Mo_readGroups_104 ok rW_58 rF_Mo_20 (fun _ => quit m3 w1 w2 hgf) (fun z9 => absurd (Int32.not_lt.mp u1) z9)
              | true =>
                have R3 := yR.1 hp
                have zw : m3.wr < 0 := R3.2.2.2.2.2.1
                have zh := yh zw
                obtain ⟨w5, w6⟩ := w4 zw
                rw [zh] at w6
                obtain ⟨s3, hs3⟩ : ∃ s3, s3 = (pE T (pGx T (3 - st.length)) s2).2 := ⟨_, rfl⟩
                rw [← hs3] at R3
                have he3 : s3.2.2.2.1 = s2.2.2.2.1 + 1 := by
                  have : m3.el = s3.2.2.2.1 := R3.2.2.2.2.1
                  omega
                have more : gg X (W9 c m3 o) 0 0 5 [(0, .ref 58)] [] := by
                  have := w2.2.1
                  refine ih m3 (by omega) w1 w2 ⟨fun _ => Or.inl ⟨w6.1.1, w6, st, s3, y4.trans x4, hFI3, fun f hf => by have := hRR2 f hf; omega, R3, Or.inr ⟨by rw [y2]; exact x3, r9, by omega, ?_⟩⟩, fun z9 => absurd zw z9⟩
                  rw [hF2, show pE T (pGx T (3 - st.length)) s2 = (true, s3) from Prod.ext hp hs3.symm]
                rcases hpc with rfl | rfl
                · refine k_Mo_readGroups_44 ok rW_58 rF_Mo_20 (fun z9 => absurd zw (Int32.not_lt.mpr z9)) (fun _ => ?_)
                  refine k_Mo_readGroups_51 ok rW_58 rF_Mo_22 (fun _ => more) (fun z9 => absurd (by rw [zh]; rfl) z9)
                · refine k_Mo_readGroups_104 ok rW_58 rF_Mo_20 (fun z9 => absurd zw (Int32.not_lt.mpr z9)) (fun _ => ?_)
                  refine k_Mo_readGroups_111 ok rW_58 rF_Mo_22 (fun _ => more) (fun z9 => absurd (by rw [zh]; rfl) z9)
          -- at a closing sign, or behind an element
          have mid : (wS T s1 125 = true → F = ctx T st (true, wSt T s1)) → (wS T s1 125 = false → m1.ss = false ∧ ∃ r, 12 ≤ r + s1.2.2.2.1 ∧ F = ctx T st (elk T st.length r (true, s1))) → gg X (W9 c m1 o) 0 0 65 [(0, .ref 58)] [] := by
            intro hm1 hm2
            refine k_Mo_readGroups_65 ok rW_58 (mo_isSignF b1 _) (gF_h E.nR (by decide) (by decide)) (fun _ _ q => qM_len q) ?_
            rintro r M' ⟨m1, ⟨rfl, rfl⟩, rfl⟩
            rw [t2]
            refine k_Mo_readGroups_71 ok (fun z => have z := bI_0 z; ?_) (fun z => have z := bI_1 z; ?_)
            · obtain ⟨hss, r9, hr9, hF2⟩ := hm2 z
              have z125 := z
              refine k_Mo_readGroups_86 ok rW_58 (mo_isSignF b1 _) (gF_h E.nR (by decide) (by decide)) (fun _ _ q => qM_len q) ?_
              rintro r M' ⟨m1, ⟨rfl, rfl⟩, rfl⟩
              rw [t2]
              refine k_Mo_readGroups_93 ok rW_58 (rx_goOn b1 R1 (wS T s1 46)) (gF_h E.nR (by decide) (by decide)) (fun _ _ q => qM_len q) ?_
              rintro r M' ⟨m2, ⟨rfl, q1, qb, q2, q3⟩, rfl⟩
              refine k_Mo_readGroups_96 ok (fun z => have z := bI_1 z; ?_) (fun z => have z := bI_0 z; ?_)
              · obtain ⟨y2, y3, R2⟩ := q2 z
                obtain ⟨f1, f2, f3, f4, f5, f6, f7, f8, f9, f10, f11, f12, f13⟩ := q1.eqs
                have fb := q1.2.2.1
                refine k_Mo_readGroups_100 ok rW_58 (rx_readElement (BI_St q1 h2) R2 (GI_St q1 g)) (gF_h E.nR (by decide) (by decide)) (fun _ _ q => qM_len q) ?_
                rintro r M' ⟨m3, ⟨rfl, v1, v2, v3, v4, v5⟩, rfl⟩
                refine elt m2 m3 (wSt T s1) (r9 - 1) 104 (Or.inr rfl) ((h1.trans q1.fr).trans v1) v2 (by omega) f4 (by rw [f4]; exact hes) (by rw [qb.2]; exact hss) (by rw [f5]; exact hdp) (FI_congr st (st.length + 1) (Nat.lt_succ_self _) (fun i _ => ⟨by rw [qb.1], by rw [f6]⟩) hFI) v4 v5 (by show 12 ≤ r9 - 1 + (s1.2.2.2.1 + 1); omega) ?_
                rw [hF2]
                have e9 : elk T st.length r9 (true, s1) = (bif wS T s1 46 then pEl T (pGx T (3 - st.length)) r9 (wSt T s1) else wTs T s1 125) := rfl
                rw [e9, z]
                show ctx T st (pEl T (pGx T (3 - st.length)) r9 (wSt T s1)) = _
                rcases Nat.eq_zero_or_pos r9 with e | e
                · have e12 : pE T (pGx T (3 - st.length)) (wSt T s1) = (false, wSt T s1) := by
                    unfold pE
                    rw [if_neg (by show ¬ s1.2.2.2.1 < 12; omega)]
                  rw [e, e12, elk_f]
                  rfl
                · obtain ⟨u, hu⟩ : ∃ u, r9 = u + 1 := ⟨r9 - 1, by omega⟩
                  rw [hu, pEl_s]
                  rfl
              · have hgf : GF P F m2 := by
                  refine GF_mk (q3 z).1 (q3 z).2 ?_
                  rw [hF2]
                  have e9 : elk T st.length r9 (true, s1) = (bif wS T s1 46 then pEl T (pGx T (3 - st.length)) r9 (wSt T s1) else wTs T s1 125) := rfl
                  rw [e9, z]
                  show ctx T st (wTs T s1 125) = _
                  unfold wTs
                  rw [z125]
                  exact ctx_f _ _ _
                have e : F = (false, F.2) := Prod.ext hgf.2.1 rfl
                refine k_Mo_readGroups_99 ok E ⟨_, ⟨rfl, h1.trans q1.fr, BI_St q1 h2, fun z9 => absurd z9 (q3 z).1, Rr_f e hgf.1 hgf.2.2⟩, rfl⟩ (Nat.le_refl _) (Nat.le_refl _)
            · have hk : m1.kd = 4 := sg_kd (by rw [t2]; exact z)
              have hF2 := hm1 z
              have R9 : Rg T P k (m1.u_ss false) s1 := R1
              refine k_Mo_readGroups_74 ok rW_58 (Nat.le_refl 59) (sF_Mo_21 (v := false) rfl) (sO_Mo_21 rfl) (rx_readClose (by exact h2) R9 (by exact g) (by exact hk) rfl hdp (FI_congr (m := m1) st (st.length + 1) (Nat.lt_succ_self _) (fun i _ => ⟨rfl, rfl⟩) hFI) hRR hF2) (gF_h E.nR (by decide) (by decide)) (fun _ _ q => qM_len q) ?_
              rintro r M' ⟨m3, ⟨rfl, v1, v2, v3, v4, v5⟩, rfl⟩
              have v3 : m1.bh < m3.bh := v3
              have v4 : m3.el = m1.el := v4
              have hbh3 : m3.bh ≤ 160 := by
                obtain ⟨⟨a1, a2, a3, -⟩, -⟩ := v2
                omega
              refine k_Mo_readGroups_83 ok ?_
              exact ih m3 (by omega) (h1.trans (by exact v1)) v2 v5
          refine k_Mo_readGroups_5 ok rW_58 rF_Mo_20 (fun z9 => absurd hw1 (Int32.not_lt.mpr z9)) (fun _ => ?_)
          refine k_Mo_readGroups_12 ok rW_58 rF_Mo_27 (fun z => have z := (nLe rfl (nL 0) (by omega) (by omega) z); ?_) (fun z => have z := (nNle rfl (nL 0) (by omega) (by omega) z); ?_)
          · omega
          have elkB : ∀ r, wS T s1 125 = true → elk T st.length r (true, s1) = (true, wSt T s1) := by
            intro r z
            have e46 : wS T s1 46 = false := by
              unfold wS at z ⊢
              have z2 := Bool.and_eq_true_iff.mp z
              rw [of_decide_eq_true z2.2, decide_eq_true (of_decide_eq_true z2.1)]
              rfl
            show (bif wS T s1 46 then _ else wTs T s1 125) = _
            rw [e46]
            show wTs T s1 125 = _
            unfold wTs
            rw [z]
            rfl
          rcases hpos with ⟨hss, hF2⟩ | ⟨hss, r9, hr9, hF2⟩
          · have hF3 : F = ctx T st (bif wS T s1 125 then (true, wSt T s1) else pEl T (pGx T (3 - st.length)) 12 s1) := hF2
            refine k_Mo_readGroups_19 ok rW_58 rF_Mo_21 (fun z9 => absurd z9 (by rw [hss]; decide)) (fun _ => ?_)
            refine k_Mo_readGroups_26 ok rW_58 (mo_isSignF b1 _) (gF_h E.nR (by decide) (by decide)) (fun _ _ q => qM_len q) ?_
            rintro r M' ⟨m1, ⟨rfl, rfl⟩, rfl⟩
            rw [t2]
            cases z : wS T s1 125 with
            | true =>
              refine k_Mo_readGroups_32 ok (fun _ => mid (fun _ => by rw [hF3, z]; rfl) (fun w => by rw [z] at w; cases w)) (fun z9 => absurd z9 (by decide))
            | false =>
              refine k_Mo_readGroups_32 ok (fun z9 => absurd rfl z9) (fun _ => ?_)
              have R9 : Rg T P k (m1.u_ss false) s1 := R1
              refine k_Mo_readGroups_35 ok rW_58 (Nat.le_refl 59) (sF_Mo_21 (v := false) rfl) (sO_Mo_21 rfl) (rx_readElement (by exact h2) R9 (by exact g)) (gF_h E.nR (by decide) (by decide)) (fun _ _ q => qM_len q) ?_
              rintro r M' ⟨m3, ⟨rfl, v1, v2, v3, v4, v5⟩, rfl⟩
              refine elt (m1.u_ss false) m3 s1 11 44 (Or.inl rfl) (h1.trans (by exact v1)) v2 (by exact v3) rfl hes rfl hdp (FI_congr (m := m1) st (st.length + 1) (Nat.lt_succ_self _) (fun i _ => ⟨rfl, rfl⟩) hFI) v4 v5 (by omega) ?_
              rw [hF3, z]
              rfl
          · refine k_Mo_readGroups_19 ok rW_58 rF_Mo_21 (fun _ => mid (fun z => by rw [hF2, elkB r9 z]) (fun _ => ⟨hss, r9, hr9, hF2⟩)) (fun z9 => absurd (by rw [hss]; rfl) z9)
        · refine k_Mo_readGroups_5 ok rW_58 rF_Mo_20 (fun z9 => absurd hw1 (Int32.not_lt.mpr z9)) (fun _ => ?_)
          refine k_Mo_readGroups_12 ok rW_58 rF_Mo_27 (fun z => have z := (nLe rfl (nL 0) (by omega) (by omega) z); ?_) (fun z => have z := (nNle rfl (nL 0) (by omega) (by omega) z); ?_)
          · refine k_Mo_readGroups_125 ok E ⟨_, ⟨rfl, h1, h2, fun _ => hg, Rr_t hF1 R1⟩, rfl⟩ (Nat.le_refl _) (Nat.le_refl _)
          · omega
      · exact quit m1 h1 h2 (h3.2 hw1)
  have h0 : hgt m.oo m.ar m.no 0 := by rw [hn]; rfl
  refine k_Mo_readGroups_0 ok rW_58 (rx_readStart h R (by omega) 0 (by decide) 0 (fun e => by omega) hd (by rw [hd]; exact h0) (by rw [hd, hn]; show 0 + 0 + 0 ≤ _; omega) hTA) (gF_h E.nR (by decide) (by decide)) (fun _ _ q => qM_len q) ?_
  rintro r M' ⟨m2, ⟨rfl, w1, w2, w3, w4, w5, w6, w7, w8⟩, rfl⟩
  refine loop _ m2 (Nat.le_refl _) w1 w2 ⟨fun z => Or.inl ⟨(w5 z).1.1, w5 z, ?_⟩, fun z => ?_⟩
  · obtain ⟨u1, -, -, u4, u5, u6, u7, -⟩ := w7 z
    refine ⟨[], _, by show m2.dp = 0 + 1; omega, trivial, fun f hf => absurd hf (List.not_mem_nil), u4, Or.inl ⟨u5, ?_⟩⟩
    rw [hF]
    show (bif wS T s 123 then _ else _) = _
    rw [u1]
    rfl
  · obtain ⟨u1, u2⟩ := w8 z
    refine GF_mk z u1 ?_
    rw [hF]
    show (bif wS T s 123 then _ else _) = _
    cases e : wS T s 123 with
    | true => exact absurd (u2 e (by omega)).1 (by decide)
    | false => rfl
end RX9
