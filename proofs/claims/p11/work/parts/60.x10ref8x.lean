section RX8
variable {l : Launch} {c : CS} {m : MS} {o : Nat → Int64} {T : Tn3} {P : Nat → Int32} {k : Nat} {s : Vw}
theorem rx_readOn (h : BI m) (R : Rg T P k m s) (g : GI 4 m) {st : List (Nat × Nat × Nat)} {r9 : Nat} {F : Bool × Vw} (hdp : m.dp = st.length + 1) (hFI : FI m st) (hRR : ∀ f, f ∈ st → 12 ≤ f.2.2 + s.2.2.2.1) (hr : 12 ≤ r9 + s.2.2.2.1) (hh : hld T s = true) (hF : F = ctx T st (elk T st.length r9 (pE1 T (pGx T (3 - st.length)) s))) : mm_ l y_Mo_readOn w_Mo_readOn (rmh 7) [.ref 58] (W9 c m o) (qM c o (fun r m' => r = none ∧ Fr m m' ∧ BI m' ∧ m.bh ≤ m'.bh ∧ m'.el = m.el ∧ (m'.wr < 0 → GI 0 m' ∧ GA T P k F m') ∧ (¬ m'.wr < 0 → GF P F m'))) := by
  have hw := R.2.2.2.2.2.1
  obtain ⟨ht, hel, hnp, hno⟩ := id h
  obtain ⟨t1, t2, -⟩ := R.tok ht
  have tk6 := t1 _ _ kO6
  have tk7 := t1 _ _ kO7
  have nf : wK T s 7379548711597244416 = false := by
    cases e : wK T s 7379548711597244416 with
    | false => rfl
    | true => rw [hld_f5 e] at hh; cases hh
  have hno9 := GI_no ht hel g
  obtain ⟨⟨g1, g2, g3, g4⟩, g5, g6, g7⟩ := id g
  have hll := lvl_le m.gk m.dp
  refine mm_intro (by decide) (Nat.le_of_ble_eq_true rfl) i_Mo_readOn (fun X ok E => ?_)
  have key : ∀ w, w = 1 ∨ w = 2 → F = ctx T st (elk T st.length r9 (pGx T (3 - st.length) (wSt T s))) → gg X (W9 c m o) 0 0 32 [(0, .ref 58)] [.int (nI w)] := by
    intro w hw12 hF2
    refine k_Mo_readOn_32 ok E.nL rW_58 (rx_next ht R) (gF_h E.nR (by decide) (by decide)) (fun _ _ q => qM_len q) ?_
    rintro r M' ⟨m2, ⟨rfl, q1, qb, -, R2⟩, rfl⟩
    obtain ⟨f1, f2, f3, f4, f5, f6, f7, f8, f9, f10, f11, f12, f13⟩ := q1.eqs
    have fb : m.bh ≤ m2.bh := q1.2.2.1
    refine k_Mo_readOn_37 ok rW_58 (rx_readStart ⟨q1.1, by omega, by omega, by omega⟩ R2 (by omega) w (by omega) 0 (fun e => by omega) (by rw [if_neg (by omega), f5, f6]; exact ⟨g1, g3, g4⟩) (by rw [if_neg (by omega), f5, f6, f7, f8, f9]; exact g5) (by rw [if_neg (by omega), f4, f5, f6, f9]; omega) (TA_St q1 g7)) (gF_h E.nR (by decide) (by decide)) (fun _ _ q => qM_len q) ?_
    rintro r M' ⟨m3, ⟨rfl, w1, w2, w3, w4, w5, w6, w7, w8⟩, rfl⟩
    have nw3 : ¬ w = 3 := by omega
    have yes : m3.wr < 0 → GI 0 m3 ∧ GA T P k F m3 := by
      intro z
      obtain ⟨v1, v2, -, v4, v5, v6, v7, -⟩ := w7 z
      refine ⟨w5 z, (w, 0, r9) :: st, _, by show m3.dp = st.length + 1 + 1; omega, ⟨by rw [show st.length + 1 = m2.dp by omega]; exact v7, by omega, fun e => absurd e nw3, ?_⟩, ?_, v4, Or.inl ⟨v5, ?_⟩⟩
      · refine FI_congr st m2.dp (by omega) (fun i hi => ?_) hFI
        obtain ⟨e1, e2⟩ := w6 i hi
        exact ⟨by rw [e1, qb.1], by rw [e2, f6]⟩
      · intro f hf
        rcases List.mem_cons.mp hf with rfl | hf
        · exact hr
        · exact hRR f hf
      · rw [hF2, pGx_t T st.length _ v1 (by omega)]
        show _ = ctx T st (elk T st.length r9 (unk T st.length w 0 _))
        rw [unk_n T _ w 0 _ nw3]
        rfl
    have no : ¬ m3.wr < 0 → GF P F m3 := by
      intro z
      obtain ⟨v1, v2⟩ := w8 z
      refine GF_mk z v1 ?_
      rw [hF2, pGx_f T st.length _ (fun y1 y2 => absurd (v2 y1 (by omega)).1 nw3), elk_f, ctx_f]
    refine k_Mo_readOn_42 ok ?_
    refine k_Mo_readOn_76 ok E ⟨_, ⟨rfl, q1.fr.trans w1, w2, Nat.le_trans fb w3, w4.trans f4, yes, no⟩, rfl⟩ (Nat.le_refl _) (Nat.le_refl _)
  have k18 : (m.ky 6 = true ∨ m.ky 7 = true) → gg X (W9 c m o) 0 0 18 [(0, .ref 58)] [] := by
    intro h67
    refine k_Mo_readOn_18 ok rW_58 (mo_isKeyF ht _) (gF_h E.nR (by decide) (by decide)) (fun _ _ q => qM_len q) ?_
    rintro r M' ⟨m, ⟨rfl, rfl⟩, rfl⟩
    refine k_Mo_readOn_24 ok (fun z => have z := bI_0 z; ?_) (fun z => have z := bI_1 z; ?_)
    · have e7 : m.ky 7 = true := by
        rcases h67 with e | e
        · rw [z] at e
          cases e
        · exact e
      refine k_Mo_readOn_31 ok ?_
      refine key 2 (Or.inr rfl) ?_
      rw [hF]
      unfold pE1
      rw [nf, ← tk6, ← tk7, z, e7]
      rfl
    · refine k_Mo_readOn_27 ok ?_
      refine key 1 (Or.inl rfl) ?_
      rw [hF]
      unfold pE1
      rw [nf, ← tk6, z]
      rfl
  refine k_Mo_readOn_0 ok rW_58 (mo_isKeyF ht _) (gF_h E.nR (by decide) (by decide)) (fun _ _ q => qM_len q) ?_
  rintro r M' ⟨m, ⟨rfl, rfl⟩, rfl⟩
  refine k_Mo_readOn_6 ok (fun z => have z := bI_1 z; ?_) (fun z => have z := bI_0 z; ?_)
  · exact k18 (Or.inl z)
  have y6 := z
  refine k_Mo_readOn_9 ok rW_58 (mo_isKeyF ht _) (gF_h E.nR (by decide) (by decide)) (fun _ _ q => qM_len q) ?_
  rintro r M' ⟨m, ⟨rfl, rfl⟩, rfl⟩
  refine k_Mo_readOn_15 ok (fun z => have z := bI_0 z; ?_) (fun z => have z := bI_1 z; ?_)
  · have y7 := z
    have hs : wS T s 123 = true := by
      unfold hld at hh
      rw [← tk6, ← tk7, y6, y7] at hh
      exact hh
    refine k_Mo_readOn_45 ok rW_58 (mo_isSignF ht _) (gF_h E.nR (by decide) (by decide)) (fun _ _ q => qM_len q) ?_
    rintro r M' ⟨m, ⟨rfl, rfl⟩, rfl⟩
    rw [t2, hs]
    refine k_Mo_readOn_51 ok (fun z => absurd z (by decide)) (fun _ => ?_)
    refine k_Mo_readOn_54 ok rW_58 (mo_emit (by omega) _ _) (gF_h E.nR (by decide) (by decide)) (fun _ _ q => qM_len q) ?_
    rintro r M' ⟨m2, ⟨rfl, rfl⟩, rfl⟩
    have e1 : (m.d_em 6 0).dp = m.dp := rfl
    have d0 : (nI m.dp).toNatClampNeg = m.dp := nC rfl (by omega)
    have hg : hgt (m.d_em 6 0).oo (m.d_em 6 0).ar (m.d_em 6 0).no (lvl m.gk m.dp + 1) := hgt_em g5 (Or.inl ⟨Or.inr rfl, by omega, rfl⟩)
    obtain ⟨m4, hm4⟩ : ∃ m4, m4 = (m.d_em 6 0).u_bs (upd (m.d_em 6 0).bs m.dp 0) := ⟨_, rfl⟩
    have e4 : (m.d_em 6 0).u_bs (upd (m.d_em 6 0).bs (nI (m.d_em 6 0).dp).toNatClampNeg 0) = m4 := by rw [hm4, e1, d0]
    have c1 : BI m4 := by rw [hm4]; exact ⟨ht, hel, hnp, by show m.no + 1 ≤ 300; omega⟩
    have c2 : Rg T P k m4 s := by rw [hm4]; exact R
    have c3 : m4.dp = m.dp := by rw [hm4]
    have c4 : m4.bs m4.dp = nI (12 - 12) := by rw [c3, hm4]; exact if_pos rfl
    have c5 : m4.gk = m.gk := by rw [hm4]
    have c6 : hgt m4.oo m4.ar m4.no (lvl m.gk m.dp + 1) := by rw [hm4]; exact hg
    have c7 : m4.no = m.no + 1 ∧ m4.bh = m.bh ∧ m4.el = m.el := by rw [hm4]; exact ⟨rfl, rfl, rfl⟩
    have c8 : TA m4 := by rw [hm4]; exact g7
    have c9 : Fr m m4 := by rw [hm4]; exact ⟨rfl, rfl, rfl, rfl, rfl⟩
    have c10 : ∀ i, i < m.dp → m4.bs i = m.bs i := fun i hi => by rw [hm4]; exact if_neg (by omega)
    refine k_Mo_readOn_61 ok rW_58 rF_Mo_42 rF_Mo_27 rW_76 (vin rfl (by omega) (by decide)) sA_76 (by rw [e4]; exact rx_readStart c1 c2 (by omega) 3 (by decide) 12 (fun _ => ⟨Nat.le_refl _, c4⟩) (by rw [if_neg (by decide), c3, c5]; exact ⟨g1, g3, g4⟩) (by rw [if_pos rfl, c3, c5]; exact c6) (by rw [if_pos rfl, c3, c5, c7.1, c7.2.1, c7.2.2]; omega) c8) (gF_h E.nR (by decide) (by decide)) (fun _ _ q => qM_len q) ?_
    rintro r M' ⟨m3, ⟨rfl, w1, w2, w3, w4, w5, w6, w7, w8⟩, rfl⟩
    have hF2 : F = ctx T st (elk T st.length r9 (pUn T (pGx T (3 - st.length)) 12 s)) := by
      rw [hF]
      unfold pE1
      rw [nf, ← tk6, ← tk7, y6, y7, hs]
      rfl
    have yes : m3.wr < 0 → GI 0 m3 ∧ GA T P k F m3 := by
      intro z
      obtain ⟨v1, v2, -, v4, v5, v6, v7, v8⟩ := w7 z
      rw [c3] at v2 v6 v7 v8
      refine ⟨w5 z, (3, 11, r9) :: st, _, by show m3.dp = st.length + 1 + 1; omega, ⟨by rw [show st.length + 1 = m.dp by omega]; exact v7, Or.inr (Or.inr rfl), fun _ => ⟨by show 11 ≤ 12; decide, by rw [show st.length + 1 = m.dp by omega]; exact v8 rfl⟩, ?_⟩, ?_, v4, Or.inl ⟨v5, ?_⟩⟩
      · refine FI_congr st m.dp (by omega) (fun i hi => ?_) hFI
        obtain ⟨e1, e2⟩ := w6 i (by omega)
        exact ⟨by rw [e1, c10 i hi], by rw [e2, c5]⟩
      · intro f hf
        rcases List.mem_cons.mp hf with rfl | hf
        · exact hr
        · exact hRR f hf
      · rw [hF2, pUn_s, pGx_t T st.length _ v1 (by omega)]
        rfl
    have no : ¬ m3.wr < 0 → GF P F m3 := by
      intro z
      obtain ⟨v1, v2⟩ := w8 z
      refine GF_mk z v1 ?_
      rw [hF2, pUn_s, pGx_f T st.length _ (fun y1 y2 => absurd (v2 y1 (by omega)).2 (by decide)), unk_f, elk_f, ctx_f]
    refine k_Mo_readOn_76 ok E ⟨_, ⟨rfl, c9.trans w1, w2, by rw [← c7.2.1]; exact w3, w4.trans c7.2.2, yes, no⟩, rfl⟩ (Nat.le_refl _) (Nat.le_refl _)
  · exact k18 (Or.inr z)
/-- a group ends: the one around it goes on, or the first has ended -/
theorem rx_readClose (h : BI m) (R : Rg T P k m s) (g : GI 0 m) (hkd : m.kd = 4) {st : List (Nat × Nat × Nat)} {F : Bool × Vw} (hss : m.ss = false) (hdp : m.dp = st.length + 1) (hFI : FI m st) (hRR : ∀ f, f ∈ st → 12 ≤ f.2.2 + s.2.2.2.1) (hF : F = ctx T st (true, wSt T s)) : mm_ l y_Mo_readClose w_Mo_readClose (rmh 7) [.ref 58] (W9 c m o) (qM c o (fun r m' => r = none ∧ Fr m m' ∧ BI m' ∧ m.bh < m'.bh ∧ m'.el = m.el ∧ (m'.wr < 0 → (1 ≤ m'.dp ∧ GI 0 m' ∧ GA T P k F m') ∨ (m'.dp = 0 ∧ (hgt m'.oo m'.ar m'.no 1 ∧ TA m') ∧ GZ T P k F m')) ∧ (¬ m'.wr < 0 → GF P F m'))) := by
  have hw := R.2.2.2.2.2.1
  obtain ⟨ht, hel, hnp, hno⟩ := id h
  have hno9 := GI_no ht hel g
  obtain ⟨⟨g1, g2, g3, g4⟩, g5, g6, g7⟩ := id g
  obtain ⟨d, hd⟩ : ∃ d, m.dp = d + 1 := ⟨m.dp - 1, by omega⟩
  have hll := lvl_le m.gk d
  have hlv : lvl m.gk m.dp = lvl m.gk d + (if m.gk d = 3 then 2 else 1) := by rw [hd]; rfl
  rw [hlv] at g5 g6
  have hbe := ht.2.2.2.2.2.1 hkd
  refine mm_intro (by decide) (Nat.le_of_ble_eq_true rfl) i_Mo_readClose (fun X ok E => ?_)
  refine k_Mo_readClose_0 ok rW_58 (rx_next ht R) (gF_h E.nR (by decide) (by decide)) (fun _ _ q => qM_len q) ?_
  rintro r M' ⟨m2, ⟨rfl, q1, qb, q3, R2⟩, rfl⟩
  obtain ⟨f1, f2, f3, f4, f5, f6, f7, f8, f9, f10, f11, f12, f13⟩ := q1.eqs
  have d0 : (nI m2.dp - 1).toNatClampNeg = m2.dp - 1 := nC (nS rfl (nL 1) (by omega)) (by omega)
  have e0 : m2.dp - 1 = d := by omega
  have hb : m.bh < m2.bh := by omega
  refine k_Mo_readClose_4 ok rW_58 rF_Mo_27 (Nat.le_refl 59) (sF_Mo_27 (nS rfl (nL 1) (by omega))) (sO_Mo_27 rfl) rF_Mo_29 rW_67 (vin (nS rfl (nL 1) (by omega)) (by omega) (by decide)) (mo_emit (by show m2.no < 400; omega) _ _) (gF_h E.nR (by decide) (by decide)) (fun _ _ q => qM_len q) ?_
  rintro r M' ⟨m3, ⟨rfl, rfl⟩, rfl⟩
  rw [d0, e0]
  obtain ⟨a, ha⟩ : ∃ a, m2.gi d = a := ⟨_, rfl⟩
  have e9 : ((m2.u_dp d).gi d) = a := ha
  rw [e9]
  obtain ⟨m3, hm3⟩ : ∃ m3, m3 = (m2.u_dp d).d_em 3 a := ⟨_, rfl⟩
  have k1 : m3.tI := by rw [hm3]; exact q1.1
  have k2 : Fr m m3 := by rw [hm3]; exact q1.fr
  have k3 : m3.bh = m2.bh := by rw [hm3]
  have k4 : m3.el = m.el := by rw [hm3]; exact f4
  have k5 : m3.np = m.np := by rw [hm3]; exact f10
  have k6 : m3.ne = m.ne := by rw [hm3]; exact f11
  have k7 : m3.no = m.no + 1 := by rw [hm3]; show m2.no + 1 = _; omega
  have k8 : m3.dp = d := by rw [hm3]
  have k9 : m3.gk = m.gk := by rw [hm3]; exact f6
  have k10 : hgt m3.oo m3.ar m3.no (lvl m.gk d + (if m.gk d = 3 then 2 else 1)) := by
    rw [hm3]
    refine hgt_em (m := m2.u_dp d) (g := lvl m.gk d + (if m.gk d = 3 then 2 else 1)) ?_ (Or.inr (Or.inr (Or.inl ⟨rfl, by split <;> omega, rfl⟩)))
    show hgt m2.oo m2.ar m2.no _
    rw [f7, f8, f9]
    exact g5
  have k12 : TA m3 := by rw [hm3]; exact (TA_St q1 g7 : TA m2)
  have R3 : Rg T P k m3 (wSt T s) := by rw [hm3]; exact R2
  have k11 : m3.wr < 0 := R3.2.2.2.2.2.1
  have k13 : m3.bs = m.bs := by rw [hm3]; exact qb.1
  have k14 : m3.ss = false := by rw [hm3]; show m2.ss = false; rw [qb.2]; exact hss
  rw [← hm3]
  clear hm3
  have hno3 : m3.no < 398 := by omega
  have c0 : (nI m3.dp).toNatClampNeg = m3.dp := nC rfl (by omega)
  have KI' : 1 ≤ d → KI m3 := fun q => ⟨by omega, by omega, by rw [k9]; exact g3, by rw [k8, k9]; exact fun j q1 q2 => g4 j q1 (by omega)⟩
  -- a step that takes one list away, the last of this group
  have fin : ∀ x : Int32, x = 4 ∨ x = 5 → ¬ m.gk d = 3 → 1 ≤ d → (m3.d_em x 0).tI ∧ GI 0 (m3.d_em x 0) := by
    intro x hx hk3 hd1
    rw [if_neg hk3] at k10 g6
    refine ⟨k1, ⟨KI' hd1, ?_, ?_, k12⟩⟩
    · show hgt (m3.d_em x 0).oo (m3.d_em x 0).ar (m3.d_em x 0).no (lvl m3.gk m3.dp)
      rw [k9, k8]
      exact hgt_em k10 (Or.inr (Or.inr (Or.inr ⟨by rcases hx with rfl | rfl <;> decide, by omega, by omega⟩)))
    · show 2 * (m3.no + 1) + 2 * lvl m3.gk m3.dp + 0 ≤ 3 * m3.bh + 4 * m3.el + m3.dp
      rw [k9, k8]
      omega
  have out : ∀ m4 : MS, Fr m m4 → BI m4 → m.bh < m4.bh → m4.el = m.el → (m4.wr < 0 → (1 ≤ m4.dp ∧ GI 0 m4 ∧ GA T P k F m4) ∨ (m4.dp = 0 ∧ (hgt m4.oo m4.ar m4.no 1 ∧ TA m4) ∧ GZ T P k F m4)) → (¬ m4.wr < 0 → GF P F m4) → gg X (W9 c m4 o) 0 0 106 [] [] := by
    intro m4 w1 w2 w3 w4 w5 w6
    refine k_Mo_readClose_106 ok E ⟨_, ⟨rfl, w1, w2, w3, w4, w5, w6⟩, rfl⟩ (Nat.le_refl _) (Nat.le_refl _)
  -- the group around, behind the element that held this one
  have back : ∀ m4 : MS, m4.bs = m3.bs → m4.gk = m3.gk → m4.dp = m3.dp → m4.ss = m3.ss → Rg T P k m4 (wSt T s) → ∀ f st2, st = f :: st2 → F = ctx T st2 (elk T st2.length f.2.2 (true, wSt T s)) → GA T P k F m4 := by
    intro m4 e1 e2 e3 e4 R4 f st2 hst hF2
    subst hst
    refine ⟨st2, wSt T s, by rw [e3, k8]; have : m.dp = st2.length + 1 + 1 := hdp; omega, ?_, fun g hg => hRR g (List.mem_cons_of_mem _ hg), R4, Or.inr ⟨by rw [e4]; exact k14, f.2.2, hRR f (List.mem_cons_self ..), hF2⟩⟩
    exact FI_congr st2 (st2.length + 1) (Nat.lt_succ_self _) (fun i _ => ⟨by rw [e1, k13], by rw [e2, k9]⟩) hFI.2.2.2
  -- what stands around, if anything does
  have cse : d = 0 ∧ st = [] ∨ ∃ f st2, st = f :: st2 ∧ d = st2.length + 1 ∧ m.gk d = nI f.1 ∧ (f.1 = 1 ∨ f.1 = 2 ∨ f.1 = 3) ∧ (f.1 = 3 → f.2.1 ≤ 12 ∧ m.bs d = nI (12 - f.2.1)) := by
    cases st with
    | nil =>
      have : m.dp = 0 + 1 := hdp
      exact Or.inl ⟨by omega, rfl⟩
    | cons f st2 =>
      have e : m.dp = st2.length + 1 + 1 := hdp
      have e2 : d = st2.length + 1 := by omega
      refine Or.inr ⟨f, st2, rfl, e2, ?_⟩
      rw [e2]
      exact ⟨hFI.1, hFI.2.1, hFI.2.2.1⟩
  have d1 : m.gk d = 1 → 1 ≤ d := fun q => by
    rcases Nat.eq_zero_or_pos d with e | e
    · rw [e, g3] at q
      exact absurd q (by decide)
    · exact e
  have d2 : m.gk d = 2 → 1 ≤ d := fun q => by
    rcases Nat.eq_zero_or_pos d with e | e
    · rw [e, g3] at q
      exact absurd q (by decide)
    · exact e
  have d3 : m.gk d = 3 → 1 ≤ d := fun q => by
    rcases Nat.eq_zero_or_pos d with e | e
    · rw [e, g3] at q
      exact absurd q (by decide)
    · exact e
  have bk : ¬ m.gk d = 3 → 1 ≤ d → ∀ m4 : MS, m4.bs = m3.bs → m4.gk = m3.gk → m4.dp = m3.dp → m4.ss = m3.ss → Rg T P k m4 (wSt T s) → GA T P k F m4 := by
    intro n3 hd1 m4 e1 e2 e3 e4 R4
    rcases cse with ⟨e, -⟩ | ⟨f, st2, hst, hd2, hgf, -, -⟩
    · omega
    · refine back m4 e1 e2 e3 e4 R4 f st2 hst ?_
      have nf3 : ¬ f.1 = 3 := fun e => n3 (by rw [hgf, e]; rfl)
      rw [hF, hst]
      show ctx T st2 (elk T st2.length f.2.2 (unk T st2.length f.1 f.2.1 _)) = _
      rw [unk_n _ _ _ _ _ nf3]
  refine k_Mo_readClose_28 ok E.nL rW_58 rF_Mo_28 rF_Mo_27 rW_66 (vin rfl (by omega) (by decide)) (fun z => ?_) (fun z => ?_)
  · rw [c0, k8, k9] at z
    rw [c0, k8, k9]
    have zz1 := z
    refine k_Mo_readClose_52 ok (fun z => ?_) (fun z => ?_)
    · have zz2 := z
      refine k_Mo_readClose_66 ok (fun z => ?_) (fun z => ?_)
      · -- the first group
        have ed : d = 0 := by
          rcases Nat.eq_zero_or_pos d with e | e
          · exact e
          · rcases g4 d e (by omega) with q | q | q
            · exact absurd q zz1
            · exact absurd q zz2
            · exact absurd q z
        refine out m3 k2 ⟨k1, by omega, by omega, by omega⟩ (by omega) k4 (fun _ => Or.inr ⟨by omega, ⟨?_, k12⟩, by omega, _, R3, ?_⟩) (fun z => absurd k11 z)
        · rw [if_neg z, ed] at k10
          exact k10
        · rcases cse with ⟨-, e⟩ | ⟨f, st2, -, e, -⟩
          · rw [hF, e]
            rfl
          · omega
      · have hk3 : m.gk d = 3 := z
        have hd1 := d3 hk3
        rw [if_pos hk3] at k10 g6
        refine k_Mo_readClose_71 ok rW_58 (mo_emit (by omega) _ _) (gF_h E.nR (by decide) (by decide)) (fun _ _ q => qM_len q) ?_
        rintro r M' ⟨m5, ⟨rfl, rfl⟩, rfl⟩
        have t5 : (m3.d_em 7 0).tI := k1
        have h5 : hgt (m3.d_em 7 0).oo (m3.d_em 7 0).ar (m3.d_em 7 0).no (lvl m.gk d + 1) := hgt_em k10 (Or.inr (Or.inr (Or.inr ⟨by decide, by omega, by omega⟩)))
        refine k_Mo_readClose_78 ok rW_58 (mo_isKeyF t5 _) (gF_h E.nR (by decide) (by decide)) (fun _ _ q => qM_len q) ?_
        rintro r M' ⟨m6, ⟨rfl, rfl⟩, rfl⟩
        have R5 : Rg T P k (m3.d_em 7 0) (wSt T s) := R3
        rw [(R5.tok t5).1 _ _ kO8]
        obtain ⟨f, st2, hst, hd2, hgf, hf123, hf3⟩ : ∃ f st2, st = f :: st2 ∧ d = st2.length + 1 ∧ m.gk d = nI f.1 ∧ (f.1 = 1 ∨ f.1 = 2 ∨ f.1 = 3) ∧ (f.1 = 3 → f.2.1 ≤ 12 ∧ m.bs d = nI (12 - f.2.1)) := by
          rcases cse with ⟨e, -⟩ | e
          · omega
          · exact e
        have hw3 : f.1 = 3 := by
          rw [hgf] at hk3
          exact nEq rfl (nL 3) (by omega) (by decide) hk3
        obtain ⟨hu1, hu2⟩ := hf3 hw3
        have hF2 : F = ctx T st2 (elk T st2.length f.2.2 (bif wK T (wSt T s) 8461816677183520768 then pUn T (pGx T (3 - st2.length)) f.2.1 (wSt T (wSt T s)) else (true, wSt T s))) := by
          rw [hF, hst]
          show ctx T st2 (elk T st2.length f.2.2 (unk T st2.length f.1 f.2.1 _)) = _
          unfold unk
          rw [if_pos hw3]
          rfl
        refine k_Mo_readClose_84 ok (fun z => have z := bI_0 z; ?_) (fun z => have z := bI_1 z; ?_)
        · -- join
          have z9 := z
          refine k_Mo_readClose_99 ok rW_58 (mo_emit (by show m3.no + 1 < 400; omega) _ _) (gF_h E.nR (by decide) (by decide)) (fun _ _ q => qM_len q) ?_
          rintro r M' ⟨m7, ⟨rfl, rfl⟩, rfl⟩
          refine out _ (by exact k2) ⟨by exact k1, by show m3.el ≤ 12; omega, by show m3.np + m3.ne ≤ m3.el; omega, by show m3.no + 1 + 1 ≤ 300; omega⟩ (by show m.bh < m3.bh; omega) (by exact k4) (fun _ => Or.inl ⟨by show 1 ≤ m3.dp; omega, ⟨by exact KI' hd1, ?_, ?_, by exact k12⟩, back _ rfl rfl rfl rfl (by exact R3) f st2 hst (by rw [hF2, z9]; rfl)⟩) (fun z => absurd (by exact k11) z)
          · show hgt ((m3.d_em 7 0).d_em 8 0).oo ((m3.d_em 7 0).d_em 8 0).ar ((m3.d_em 7 0).d_em 8 0).no (lvl m3.gk m3.dp)
            rw [k9, k8]
            exact hgt_em h5 (Or.inr (Or.inr (Or.inr ⟨by decide, by omega, by omega⟩)))
          · show 2 * (m3.no + 1 + 1) + 2 * lvl m3.gk m3.dp + 0 ≤ 3 * m3.bh + 4 * m3.el + m3.dp
            rw [k9, k8]
            omega
        · -- another group beside it
          rw [z] at hF2
          refine k_Mo_readClose_87 ok rW_58 (rx_next t5 R5) (gF_h E.nR (by decide) (by decide)) (fun _ _ q => qM_len q) ?_
          rintro r M' ⟨m7, ⟨rfl, w1, wb, -, R7⟩, rfl⟩
          obtain ⟨y1, y2, y3, y4, y5, y6, y7, y8, y9, y10, y11, y12, y13⟩ := w1.eqs
          have y4 : m7.el = m3.el := y4
          have y5 : m7.dp = m3.dp := y5
          have y6 : m7.gk = m3.gk := y6
          have y9 : m7.no = m3.no + 1 := y9
          have y10 : m7.np = m3.np := y10
          have y11 : m7.ne = m3.ne := y11
          have yb : m3.bh ≤ m7.bh := w1.2.2.1
          refine k_Mo_readClose_91 ok rW_58 (rx_readStart ⟨w1.1, by omega, by omega, by omega⟩ R7 (by omega) 3 (by decide) f.2.1 (fun _ => ⟨hu1, by rw [y5, k8, wb.1]; show m3.bs d = _; rw [k13]; exact hu2⟩) (by rw [if_neg (by decide), y5, y6]; exact ⟨by omega, (KI' hd1).2.2.1, (KI' hd1).2.2.2⟩) (by rw [if_pos rfl, y5, y6, y7, y8, k8, k9]; rw [y9]; exact h5) (by rw [if_pos rfl, y4, y5, y6, y9, k8, k9]; omega) (TA_St w1 (by exact k12))) (gF_h E.nR (by decide) (by decide)) (fun _ _ q => qM_len q) ?_
          rintro r M' ⟨m8, ⟨rfl, v1, v2, v3, v4, v5, v6, v7, v8⟩, rfl⟩
          have hF3 : F = ctx T st2 (elk T st2.length f.2.2 (pUn T (pGx T (3 - st2.length)) f.2.1 (wSt T (wSt T s)))) := hF2
          refine k_Mo_readClose_96 ok ?_
          refine out m8 ((Fr.trans (by exact k2) w1.fr).trans v1) v2 (by omega) (by omega) (fun z => Or.inl ⟨(v5 z).1.1, v5 z, ?_⟩) (fun z => ?_)
          · obtain ⟨u1, u2, u3, u4, u5, u6, u7, u8⟩ := v7 z
            have u3 := u3 rfl
            obtain ⟨u, hu⟩ : ∃ u, f.2.1 = u + 1 := ⟨f.2.1 - 1, by omega⟩
            have ed : st2.length + 1 = m7.dp := by omega
            refine ⟨(3, u, f.2.2) :: st2, _, by show m8.dp = st2.length + 1 + 1; omega, ⟨by rw [ed]; exact u7, Or.inr (Or.inr rfl), fun _ => ⟨by show u ≤ 12; omega, ?_⟩, ?_⟩, ?_, u4, Or.inl ⟨u5, ?_⟩⟩
            · rw [ed, u8 rfl, hu]
              rfl
            · refine FI_congr st2 m7.dp (by omega) (fun i hi => ?_) (hst ▸ hFI : FI m (f :: st2)).2.2.2
              obtain ⟨e1, e2⟩ := v6 i hi
              exact ⟨by rw [e1, wb.1]; show m3.bs i = _; rw [k13], by rw [e2, y6, k9]⟩
            · intro g hg
              rcases List.mem_cons.mp hg with rfl | hg
              · exact hRR f (by rw [hst]; exact List.mem_cons_self ..)
              · exact hRR g (by rw [hst]; exact List.mem_cons_of_mem _ hg)
            · rw [hF3, hu, pUn_s, pGx_t T st2.length _ u1 (by omega)]
              rfl
          · obtain ⟨u1, u2⟩ := v8 z
            refine GF_mk z u1 ?_
            rw [hF3]
            rcases Nat.eq_zero_or_pos f.2.1 with e | e
            · rw [e]
              show ctx T st2 (elk T st2.length f.2.2 (false, _)) = _
              rw [elk_f, ctx_f]
            · obtain ⟨u, hu⟩ : ∃ u, f.2.1 = u + 1 := ⟨f.2.1 - 1, by omega⟩
              rw [hu, pUn_s, pGx_f T st2.length _ (fun y1 y2 => absurd (u2 y1 (by omega)).2 (by omega)), unk_f, elk_f, ctx_f]
    · have hk3 : ¬ m.gk d = 3 := by rw [z]; decide
      have hd1 := d2 z
      obtain ⟨p1, p2⟩ := fin 5 (Or.inr rfl) hk3 hd1
      refine k_Mo_readClose_57 ok rW_58 (mo_emit (by omega) _ _) (gF_h E.nR (by decide) (by decide)) (fun _ _ q => qM_len q) ?_
      rintro r M' ⟨m5, ⟨rfl, rfl⟩, rfl⟩
      refine k_Mo_readClose_63 ok ?_
      exact out _ (by exact k2) ⟨p1, by show m3.el ≤ 12; omega, by show m3.np + m3.ne ≤ m3.el; omega, by show m3.no + 1 ≤ 300; omega⟩ (by show m.bh < m3.bh; omega) (by exact k4) (fun _ => Or.inl ⟨by show 1 ≤ m3.dp; omega, p2, bk hk3 hd1 _ rfl rfl rfl rfl (by exact R3)⟩) (fun z => absurd (by exact k11) z)
  · rw [c0, k8, k9] at z
    have hk3 : ¬ m.gk d = 3 := by rw [z]; decide
    have hd1 := d1 z
    obtain ⟨p1, p2⟩ := fin 4 (Or.inl rfl) hk3 hd1
    refine k_Mo_readClose_43 ok rW_58 (mo_emit (by omega) _ _) (gF_h E.nR (by decide) (by decide)) (fun _ _ q => qM_len q) ?_
    rintro r M' ⟨m5, ⟨rfl, rfl⟩, rfl⟩
    refine k_Mo_readClose_49 ok ?_
    exact out _ (by exact k2) ⟨p1, by show m3.el ≤ 12; omega, by show m3.np + m3.ne ≤ m3.el; omega, by show m3.no + 1 ≤ 300; omega⟩ (by show m.bh < m3.bh; omega) (by exact k4) (fun _ => Or.inl ⟨by show 1 ≤ m3.dp; omega, p2, bk hk3 hd1 _ rfl rfl rfl rfl (by exact R3)⟩) (fun z => absurd (by exact k11) z)
end RX8
