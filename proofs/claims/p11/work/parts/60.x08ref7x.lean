/-! THE REFERENCE'S PARSER, exactly: groups -/
def pGx (T : Tn3) : Nat → Vw → Bool × Vw
  | 0, s => (false, s)
  | lv + 1, s => bif wS T s 123 then pG1 T (pGx T lv) (wSt T (wG s)) else (false, s)
section RX7
variable {l : Launch} {c : CS} {m : MS} {o : Nat → Int64} {T : Tn3} {P : Nat → Int32} {k : Nat} {s : Vw}
theorem rx_readStart (h : BI m) (R : Rg T P k m s) (hd : m.dp ≤ 4) (w : Nat) (hw3 : w ≤ 3) (u : Nat) (hu : w = 3 → u ≤ 12 ∧ m.bs m.dp = nI (12 - u)) (hk : if w = 0 then m.dp = 0 else 1 ≤ m.dp ∧ m.gk 0 = 0 ∧ ∀ d, 1 ≤ d → d < m.dp → m.gk d = 1 ∨ m.gk d = 2 ∨ m.gk d = 3)
    (hg : hgt m.oo m.ar m.no (lvl m.gk m.dp + (if w = 3 then 1 else 0))) (hn : 2 * m.no + 2 * lvl m.gk m.dp + (if w = 3 then 2 else 0) ≤ 3 * m.bh + 4 * m.el + m.dp) (hTA : TA m) :
    mm_ l y_Mo_readStart w_Mo_readStart (rmh 6) [.ref 58, .int (nI w)] (W9 c m o) (qM c o (fun r m' => r = none ∧ Fr m m' ∧ BI m' ∧ m.bh ≤ m'.bh ∧ m'.el = m.el ∧ (m'.wr < 0 → GI 0 m') ∧ (∀ i, i < m.dp → m'.bs i = m.bs i ∧ m'.gk i = m.gk i) ∧ (m'.wr < 0 → wS T s 123 = true ∧ m.dp < 4 ∧ (w = 3 → 0 < u) ∧ Rg T P k m' (wSt T (wG s)) ∧ m'.ss = true ∧ m'.dp = m.dp + 1 ∧ m'.gk m.dp = nI w ∧ (w = 3 → m'.bs m.dp = nI (12 - (u - 1)))) ∧ (¬ m'.wr < 0 → m'.wr = P s.1 ∧ (wS T s 123 = true → m.dp < 4 → w = 3 ∧ u = 0)))) := by
  have hw := R.2.2.2.2.2.1
  obtain ⟨ht, hel, hnp, hno⟩ := h
  obtain ⟨a1, a2, a3, a4, a5, a6, -⟩ := id ht
  obtain ⟨-, t2, -⟩ := R.tok ht
  have hll := lvl_le m.gk m.dp
  have hno9 : m.no ≤ 290 := by
    have h9 := hn
    split at h9 <;> omega
  refine mm_intro (by decide) (Nat.le_of_ble_eq_true rfl) i_Mo_readStart (fun X ok E => ?_)
  have go : ∀ b : Bool, (b = true → m.kd = 4 ∧ m.dp < 4 ∧ wS T s 123 = true ∧ (w = 3 → 0 < u)) → (b = false → wS T s 123 = true → m.dp < 4 → w = 3 ∧ u = 0) → gg X (W9 c m o) 0 0 52 [(0, .ref 58), (1, .int (nI w))] [.int (bI b), .ref 58] := by
    intro b hb hb2
    refine k_Mo_readStart_52 ok rW_58 (rx_goOn ht R b) (gF_h E.nR (by decide) (by decide)) (fun _ _ q => qM_len q) ?_
    rintro r M' ⟨m2, ⟨rfl, q1, qb, q2, q3⟩, rfl⟩
    obtain ⟨f1, f2, f3, f4, f5, f6, f7, f8, f9, f10, f11, f12, f13⟩ := q1.eqs
    refine k_Mo_readStart_55 ok (fun z => have z := bI_1 z; ?_) (fun z => have z := bI_0 z; ?_)
    · obtain ⟨w2, w3, R2⟩ := q2 z
      obtain ⟨k1, k2, kS, kU⟩ := hb z
      have k3 := a6 k1
      have d0 : (nI m2.dp).toNatClampNeg = m2.dp := nC rfl (by omega)
      have hno2 : m2.no < 400 := by rw [f9]; omega
      refine k_Mo_readStart_59 ok rW_58 rF_Mo_42 rF_Mo_27 rW_76 (vin rfl (by omega) (by decide)) (vin rfl (by omega) (by decide)) sA_76 rF_Mo_28 rW_66 (by decide) (vin rfl (by omega) (by decide)) sA_66 rF_Mo_29 rF_Mo_26 rW_67 (by decide) (by decide) (vin rfl (by omega) (by decide)) sA_67 (Nat.le_refl 59) (sF_Mo_26 (nA rfl (nL 1))) (sO_Mo_26 rfl) (sF_Mo_27 (nA rfl (nL 1))) (sO_Mo_27 rfl) (mo_emit (by exact hno2) 1 0) (gF_h E.nR (by decide) (by decide)) (fun _ _ q => qM_len q) ?_
      rintro r M' ⟨m3, ⟨rfl, rfl⟩, rfl⟩
      rw [d0]
      refine k_Mo_readStart_121 ok rW_58 (Nat.le_refl 59) (sF_Mo_21 (v := true) rfl) (sO_Mo_21 rfl) E ⟨_, ⟨rfl, by exact q1.fr, ⟨by exact q1.1, by show m2.el ≤ 12; omega, by show m2.np + m2.ne ≤ m2.el; omega, by show m2.no + 1 ≤ 300; omega⟩, by exact q1.2.2.1, by exact f4, fun _ => ?_, ?_, fun _ => ⟨kS, k2, kU, by exact R2, by rfl, by show m2.dp + 1 = _; omega, ?_, ?_⟩, fun z9 => absurd (by exact w2) z9⟩, rfl⟩ (Nat.le_refl _) (Nat.le_refl _)
      · have eL : lvl (upd m2.gk m2.dp (nI w)) (m2.dp + 1) = lvl m.gk m.dp + (if w = 3 then 2 else 1) := by
          rw [lvl_up, f6, f5]
          by_cases h3 : w = 3
          · rw [h3]
            rfl
          · rw [if_neg h3, if_neg (fun e => h3 (nEq rfl (nL 3) (by omega) (by decide) e))]
        refine ⟨⟨by show 1 ≤ m2.dp + 1; omega, by show m2.dp + 1 ≤ 4; omega, ?_, ?_⟩, ?_, ?_, by exact (TA_St q1 hTA : TA m2)⟩
        · show upd m2.gk m2.dp (nI w) 0 = 0
          unfold upd
          by_cases h0 : w = 0
          · rw [if_pos h0] at hk
            rw [if_pos (by omega), h0]
            rfl
          · rw [if_neg h0] at hk
            rw [if_neg (by omega), f6]
            exact hk.2.1
        · show ∀ d, 1 ≤ d → d < m2.dp + 1 → upd m2.gk m2.dp (nI w) d = 1 ∨ upd m2.gk m2.dp (nI w) d = 2 ∨ upd m2.gk m2.dp (nI w) d = 3
          intro d hd1 hd2
          unfold upd
          by_cases h0 : w = 0
          · rw [if_pos h0] at hk
            omega
          · rw [if_neg h0] at hk
            split
            · have : w = 1 ∨ w = 2 ∨ w = 3 := by omega
              rcases this with rfl | rfl | rfl
              · exact Or.inl rfl
              · exact Or.inr (Or.inl rfl)
              · exact Or.inr (Or.inr rfl)
            · rw [f6]
              exact hk.2.2 d hd1 (by omega)
        · show hgt (m2.d_em 1 0).oo (m2.d_em 1 0).ar (m2.d_em 1 0).no (lvl (upd m2.gk m2.dp (nI w)) (m2.dp + 1))
          rw [eL]
          refine hgt_em (g := lvl m.gk m.dp + (if w = 3 then 1 else 0)) (by rw [f7, f8, f9]; exact hg) (Or.inl ⟨Or.inl rfl, ?_, ?_⟩)
          · split <;> omega
          · split <;> omega
        · show 2 * (m2.no + 1) + 2 * lvl (upd m2.gk m2.dp (nI w)) (m2.dp + 1) + 0 ≤ 3 * m2.bh + 4 * m2.el + (m2.dp + 1)
          rw [eL]
          split at hn <;> split <;> omega
      · intro i hi
        show upd m2.bs m2.dp _ i = m.bs i ∧ upd m2.gk m2.dp (nI w) i = m.gk i
        unfold upd
        rw [if_neg (by omega), if_neg (by omega), qb.1, f6]
        exact ⟨rfl, rfl⟩
      · show upd m2.gk m2.dp (nI w) m.dp = nI w
        rw [f5]
        exact if_pos rfl
      · intro e3
        show upd m2.bs m2.dp (m2.bs m2.dp + 1) m.dp = _
        rw [f5, qb.1]
        unfold upd
        rw [if_pos rfl, (hu e3).2, nI_1]
        have := kU e3
        have := (hu e3).1
        rw [show 12 - u + 1 = 12 - (u - 1) by omega]
    · refine k_Mo_readStart_58 ok E ⟨_, ⟨rfl, q1.fr, ⟨q1.1, by omega, by omega, by omega⟩, q1.2.2.1, f4, fun z9 => absurd z9 (q3 z).1, fun i _ => ⟨by rw [qb.1], by rw [f6]⟩, fun z9 => absurd z9 (q3 z).1, fun _ => ⟨(q3 z).2, hb2 z⟩⟩, rfl⟩ (Nat.le_refl _) (Nat.le_refl _)
  have no : (wS T s 123 = true → m.dp < 4 → w = 3 ∧ u = 0) → gg X (W9 c m o) 0 0 51 [(0, .ref 58), (1, .int (nI w))] [.ref 58] := by
    intro h9
    refine k_Mo_readStart_51 ok ?_
    exact go false (fun z => nomatch z) (fun _ => h9)
  have st : ∀ b : Bool, (b = true → w = 3 ∧ u = 0) → (b = false → w = 3 → 0 < u) → gg X (W9 c m o) 0 0 24 [(0, .ref 58), (1, .int (nI w))] [.int (bI b)] := by
    intro b hb hb2
    refine k_Mo_readStart_24 ok E.nL rW_58 (mo_isSignF ht _) (gF_h E.nR (by decide) (by decide)) (fun _ _ q => qM_len q) ?_
    rintro r M' ⟨m3, ⟨rfl, rfl⟩, rfl⟩
    rw [t2]
    refine k_Mo_readStart_32 ok (fun z => have z := bI_0 z; ?_) (fun z => have z := bI_1 z; ?_)
    · have z1 := z
      exact no (fun w9 => by rw [z1] at w9; cases w9)
    have z1 := z
    refine k_Mo_readStart_35 ok rW_58 rF_Mo_27 (fun z => have z := (nLe (nL 4) rfl (by omega) (by omega) z); ?_) (fun z => have z := (nNle (nL 4) rfl (by omega) (by omega) z); ?_)
    · exact no (fun _ w9 => absurd w9 (by omega))
    have z4 : m3.dp < 4 := by omega
    refine k_Mo_readStart_43 ok (fun z => have z := bI_1 z; ?_) (fun z => have z := bI_0 z; ?_)
    · exact no (fun _ _ => hb z)
    · refine k_Mo_readStart_47 ok ?_
      exact go true (fun _ => ⟨sg_kd (by rw [t2]; exact z1), z4, z1, hb2 z⟩) (fun z => nomatch z)
  refine k_Mo_readStart_0 ok (fun z => have z := (nNe rfl (nL 3) (by omega) (by omega) z); ?_) (fun z => have z := (nEq rfl (nL 3) (by omega) (by omega) z); ?_)
  · refine k_Mo_readStart_23 ok ?_
    exact st false (fun z => nomatch z) (fun _ w9 => absurd w9 z)
  · have z3 : w = 3 := z
    have d0 : (nI m.dp).toNatClampNeg = m.dp := nC rfl (by omega)
    obtain ⟨u1, u2⟩ := hu z3
    refine k_Mo_readStart_5 ok rW_58 rF_Mo_42 rF_Mo_27 rW_76 (vin rfl (by omega) (by decide)) (fun z => ?_) (fun z => ?_)
    · rw [d0, u2] at z
      refine k_Mo_readStart_23 ok ?_
      refine st false (fun z => nomatch z) (fun _ _ => ?_)
      rcases Nat.eq_zero_or_pos u with e | e
      · rw [e] at z
        exact absurd rfl z
      · exact e
    · rw [d0, u2] at z
      refine k_Mo_readStart_19 ok ?_
      refine st true (fun _ => ⟨z3, ?_⟩) (fun z => nomatch z)
      have := nEq rfl (nL 12) (by omega) (by decide) z
      omega
end RX7
section RX7b
variable {l : Launch} {c : CS} {m : MS} {o : Nat → Int64} {T : Tn3} {P : Nat → Int32} {k : Nat} {s : Vw}
def pP (T : Tn3) : Nat → Bool × Vw → Bool × Vw
  | 0, x => x
  | r + 1, x => bif x.1 then pP T r (pSide T x.2) else x
theorem pP_f {x : Bool × Vw} (h : x.1 = false) : ∀ r, pP T r x = x
  | 0 => rfl
  | r + 1 => by
    unfold pP
    rw [h]
    rfl
theorem pP_t {x : Bool × Vw} (h : x.1 = true) (r : Nat) : pP T (r + 1) x = pP T r (pSide T x.2) := by
  show (bif x.1 then _ else _) = _
  rw [h]
  rfl
theorem pPat_P (s : Vw) : pPat T s = pP T 3 (true, s) := by
  rw [pP_t rfl]
  show pPat T s = pP T 2 (pSide T s)
  unfold pPat
  cases h1 : (pSide T s).1 with
  | false =>
    rw [pP_f h1]
    exact Prod.ext h1.symm rfl
  | true =>
    rw [pP_t h1]
    cases h2 : (pSide T (pSide T s).2).1 with
    | false =>
      rw [pP_f h2]
      exact Prod.ext h2.symm rfl
    | true =>
      rw [pP_t h2]
      rfl
/-- an element that holds groups begins here -/
def hld (T : Tn3) (s : Vw) : Bool := wK T s 8030046131791487340 || wK T s 7883954073408372736 || wS T s 123
theorem hld_f5 (h : wK T s 7379548711597244416 = true) : hld T s = false := by
  obtain ⟨h1, h2⟩ := wK_kd h
  unfold hld wK wS
  rw [h2, h1]
  rfl
theorem pE_5 (G : Vw → Bool × Vw) (he : s.2.2.2.1 < 12) (h : wK T s 7379548711597244416 = true) : pE T G s = pTest T (wSt T (wE s)) := by
  unfold pE pE1
  rw [if_pos he, show wK T (wE s) 7379548711597244416 = true from h]
  rfl
theorem pE_p (G : Vw → Bool × Vw) (he : s.2.2.2.1 < 12) (h : wK T s 7379548711597244416 = false) (hh : hld T s = false) : pE T G s = pPat T (wE s) := by
  have h2 : (wK T s 8030046131791487340 = false ∧ wK T s 7883954073408372736 = false) ∧ wS T s 123 = false := by
    unfold hld at hh
    have w := Bool.or_eq_false_iff.mp hh
    exact ⟨Bool.or_eq_false_iff.mp w.1, w.2⟩
  unfold pE pE1
  rw [if_pos he, show wK T (wE s) 7379548711597244416 = false from h, show wK T (wE s) 8030046131791487340 = false from h2.1.1, show wK T (wE s) 7883954073408372736 = false from h2.1.2, show wS T (wE s) 123 = false from h2.2]
  rfl
/-- what readElement leaves -/
def Elp (T : Tn3) (P : Nat → Int32) (k : Nat) (s : Vw) (m m' : MS) : Prop := (Bq m m' ∧ m'.gk = m.gk ∧ m'.dp = m.dp) ∧ (s.2.2.2.1 < 12 → hld T s = true → m'.wr < 0 ∧ m'.hs = true ∧ Rg T P k m' (wE s)) ∧ ((¬ s.2.2.2.1 < 12 ∨ hld T s = false) → (∀ G, Rr T P k m' (pE T G s)) ∧ (m'.wr < 0 → m'.hs = false))
theorem rx_readElement (h : BI m) (R : Rg T P k m s) (g : GI 0 m) : mm_ l y_Mo_readElement w_Mo_readElement (rmh 9) [.ref 58] (W9 c m o) (qM c o (fun r m' => r = none ∧ Fr m m' ∧ BI m' ∧ m.bh ≤ m'.bh ∧ (m'.wr < 0 → m'.el = m.el + 1 ∧ GI (bif m'.hs then 4 else 0) m') ∧ Elp T P k s m m')) := by
  have hw := R.2.2.2.2.2.1
  have hes : m.el = s.2.2.2.1 := R.2.2.2.2.1
  obtain ⟨ht, hel, hnp, hno⟩ := id h
  obtain ⟨t1, t2, t3, t4, -, -, -, -⟩ := R.tok ht
  have tk5 := t1 _ _ kO5
  have tk6 := t1 _ _ kO6
  have tk7 := t1 _ _ kO7
  have thl : hld T s = (m.ky 6 || m.ky 7 || m.sg 123) := by
    unfold hld
    rw [tk6, tk7, t2]
  have hno9 := GI_no ht hel g
  obtain ⟨⟨g1, g2, g3, g4⟩, g5, g6, g7⟩ := id g
  have hll := lvl_le m.gk m.dp
  refine mm_intro (by decide) (Nat.le_of_ble_eq_true rfl) i_Mo_readElement (fun X ok E => ?_)
  have RE : ∀ b n, Rg T P k (((m.u_el (m.el + 1)).u_hs b).u_np n) (wE s) := fun b n => by
    obtain ⟨r1, r2, r3, r4, r5, r6⟩ := R
    exact ⟨r1, r2, r3, r4, by show m.el + 1 = s.2.2.2.1 + 1; rw [r5], r6⟩
  have bad : (¬ s.2.2.2.1 < 12 ∨ hld T s = false) → (∀ G, ∃ s1 : Vw, pE T G s = (false, s1) ∧ s1.1 = s.1) → gg X (W9 c m o) 0 0 69 [(0, .ref 58)] [] := by
    intro hor hG
    refine k_Mo_readElement_69 ok rW_58 (rx_stop ht R) (gF_h E.nR (by decide) (by decide)) (fun _ _ q => qM_len q) ?_
    rintro r M' ⟨m2, ⟨rfl, q1, qp, x, rfl⟩, rfl⟩
    have el9 : Elp T P k s m (m.u_wr x) := by
      refine ⟨⟨⟨rfl, rfl⟩, rfl, rfl⟩, fun w1 w2 => ?_, fun _ => ⟨fun G => ?_, fun z => absurd z q1⟩⟩
      · rcases hor with w | w
        · exact absurd w1 w
        · rw [w] at w2
          cases w2
      · obtain ⟨s1, e1, e2⟩ := hG G
        exact Rr_f e1 q1 (by rw [e2]; exact qp)
    refine k_Mo_readElement_73 ok E ⟨_, ⟨rfl, by exact Fr.refl (m := m), by exact h, by exact Nat.le_refl _, fun z => absurd z q1, el9⟩, rfl⟩ (Nat.le_refl _) (Nat.le_refl _)
  -- the element's own text
  have pat : ∀ b, b = false → m.el < 12 → hld T s = false → wK T s 7379548711597244416 = false → gg X (W9 c ((m.u_el (m.el + 1)).u_hs b) o) 0 0 154 [(0, .ref 58)] [] := by
    rintro b hb0 he hh0 hk50
    have hpE : ∀ G, pE T G s = pP T 3 (true, wE s) := fun G => (pE_p G (by omega) hk50 hh0).trans (pPat_P _)
    refine k_Mo_readElement_154 ok E.nL rW_58 rF_Mo_35 (Nat.le_refl 59) (sF_Mo_35 (nA rfl (nL 1))) (sO_Mo_35 rfl) ?_
    have m1t : (((m.u_el (m.el + 1)).u_hs b).u_np (m.np + 1)).tI := ht
    have loop : ∀ r i m2 x, i + r = 3 → Sp (((m.u_el (m.el + 1)).u_hs b).u_np (m.np + 1)) m2 → Bq m m2 → Rr T P k m2 x → (∀ G, pE T G s = pP T r x) → gg X (W9 c m2 o) 0 0 173 [(0, .ref 58), (2, .int (nI (3 * m.np))), (3, .int (nI i))] [] := by
      have fin : ∀ m2 x, Sp (((m.u_el (m.el + 1)).u_hs b).u_np (m.np + 1)) m2 → Bq m m2 → Rr T P k m2 x → (∀ G, pE T G s = x) → gg X (W9 c m2 o) 0 0 198 [(0, .ref 58), (2, .int (nI (3 * m.np)))] [] := by
        intro m2 x q1 b2 R2 hx
        obtain ⟨f1, f2, f3, f4, f5, f6, f7, f8, f9, f10, f11, f12, f13⟩ := q1.1.eqs
        have f4 : m2.el = m.el + 1 := f4
        have f5 : m2.dp = m.dp := f5
        have f6 : m2.gk = m.gk := f6
        have f7 : m2.oo = m.oo := f7
        have f8 : m2.ar = m.ar := f8
        have f9 : m2.no = m.no := f9
        have f10 : m2.np = m.np + 1 := f10
        have f11 : m2.ne = m.ne := f11
        have fb : m.bh ≤ m2.bh := q1.1.2.2.1
        have fh : m2.hs = false := by
          have f14 : m2.hs = b := f13.2
          rw [f14, hb0]
        have el9 : Elp T P k s m m2 := ⟨⟨b2, f6, f5⟩, fun _ w => (by rw [hh0] at w; cases w), fun _ => ⟨fun G => by rw [hx G]; exact R2, fun _ => fh⟩⟩
        refine k_Mo_readElement_198 ok rW_58 (mo_emit (by omega) _ _) (gF_h E.nR (by decide) (by decide)) (fun _ _ q => qM_len q) ?_
        rintro r M' ⟨m3, ⟨rfl, rfl⟩, rfl⟩
        refine k_Mo_readElement_204 ok E ⟨_, ⟨rfl, by exact q1.1.fr, ⟨by exact q1.1.1, by show m2.el ≤ 12; omega, by show m2.np + m2.ne ≤ m2.el; omega, by show m2.no + 1 ≤ 300; omega⟩, by exact fb, fun _ => ⟨by exact f4, ⟨by show 1 ≤ m2.dp; omega, by show m2.dp ≤ 4; omega, by show m2.gk 0 = 0; rw [f6]; exact g3, by show ∀ d, 1 ≤ d → d < m2.dp → _; rw [f5]; show ∀ d, 1 ≤ d → d < m.dp → m2.gk d = 1 ∨ m2.gk d = 2 ∨ m2.gk d = 3; rw [f6]; exact g4⟩, ?_, ?_, by exact (TA_Sp q1 (by exact g7) : TA m2)⟩, by exact el9⟩, rfl⟩ (Nat.le_refl _) (Nat.le_refl _)
        · show hgt (m2.d_em 2 (nI (3 * m.np))).oo (m2.d_em 2 (nI (3 * m.np))).ar (m2.d_em 2 (nI (3 * m.np))).no (lvl m2.gk m2.dp)
          rw [f6, f5]
          exact hgt_em (by rw [f7, f8, f9]; exact g5) (Or.inr (Or.inl ⟨rfl, by omega, by omega, rfl, m.np, by omega, rfl⟩))
        · show 2 * (m2.no + 1) + 2 * lvl m2.gk m2.dp + (bif m2.hs then 4 else 0) ≤ 3 * m2.bh + 4 * m2.el + m2.dp
          have f14 : m2.hs = b := f13.2
          rw [f14, hb0, f6, f5, f9, f4]
          show 2 * (m.no + 1) + 2 * lvl m.gk m.dp + 0 ≤ _
          omega
      intro r
      induction r with
      | zero =>
        intro i m2 x hi q1 b2 R2 hx
        refine k_Mo_readElement_173 ok (fun z => have z := (nLe (nL 3) rfl (by omega) (by omega) z); ?_) (fun z => have z := (nNle (nL 3) rfl (by omega) (by omega) z); ?_)
        · exact fin m2 x q1 b2 R2 hx
        · omega
      | succ r ih =>
        intro i m2 x hi q1 b2 R2 hx
        refine k_Mo_readElement_173 ok (fun z => have z := (nLe (nL 3) rfl (by omega) (by omega) z); ?_) (fun z => have z := (nNle (nL 3) rfl (by omega) (by omega) z); ?_)
        · omega
        cases hx1 : x.1 with
        | false =>
          refine k_Mo_readElement_178 ok rW_58 rF_Mo_20 (fun _ => fin m2 x q1 b2 R2 (fun G => by rw [hx G, pP_f hx1])) (fun z => absurd (Int32.not_lt.mp (R2.2 hx1).1) z)
        | true =>
          have R3 := R2.1 hx1
          have hw2 : m2.wr < 0 := R3.2.2.2.2.2.1
          refine k_Mo_readElement_178 ok rW_58 rF_Mo_20 (fun z => absurd hw2 (Int32.not_lt.mpr z)) (fun _ => ?_)
          refine k_Mo_readElement_185 ok rW_58 (by rw [nI_add]; exact rx_readSide q1.1.1 R3 _ (by omega)) (gF_h E.nR (by decide) (by decide)) (fun _ _ q => qM_len q) ?_
          rintro r M' ⟨m3, ⟨rfl, q2, -, b3, R4⟩, rfl⟩
          refine k_Mo_readElement_192 ok E.nL ?_
          rw [nI_1]
          exact ih (i + 1) m3 _ (by omega) ⟨q1.1.trans q2.1, q2.2.1.trans q1.2.1, fun p hp => by have w := q2.2.2 p (by omega); rw [w.1, w.2]; exact q1.2.2 p hp⟩ (b2.trans b3) R4 (fun G => by rw [hx G, pP_t hx1])
    refine cast (congrArg (fun y => gg X (W9 c (((m.u_el (m.el + 1)).u_hs b).u_np (m.np + 1)) o) 0 0 173 [(0, .ref 58), (2, .int y), (3, .int (nI 0))] []) (nM (nL 3) rfl).symm) (loop 3 0 _ (true, wE s) rfl ⟨Sw.refl m1t, rfl, fun _ _ => ⟨rfl, rfl⟩⟩ ⟨rfl, rfl⟩ ⟨fun _ => RE _ _, fun z => (nomatch z)⟩ hpE)
  have rest : ∀ b, b = (m.ky 6 || m.ky 7 || m.sg 123) → m.el < 12 → (m.ky 5 = true ∨ (m.ky 6 || m.ky 7 || m.sg 123) = true ∨ m.kd = 3 ∨ m.tz = true) → gg X (W9 c (m.u_el (m.el + 1)) o) 0 0 117 [(0, .ref 58)] [.int (bI b), .ref 58] := by
    intro b hb he hcan
    have m1t : ((m.u_el (m.el + 1)).u_hs b).tI := ht
    have lv : ∀ m2, St ((m.u_el (m.el + 1)).u_hs b) m2 → GI (bif m2.hs then 4 else 0) m2 := by
      intro m2 q1
      obtain ⟨f1, f2, f3, f4, f5, f6, f7, f8, f9, f10, f11, f12, f13⟩ := q1.eqs
      have f4 : m2.el = m.el + 1 := f4
      have f5 : m2.dp = m.dp := f5
      have f6 : m2.gk = m.gk := f6
      have f7 : m2.oo = m.oo := f7
      have f8 : m2.ar = m.ar := f8
      have f9 : m2.no = m.no := f9
      have fb : m.bh ≤ m2.bh := q1.2.2.1
      refine ⟨⟨by omega, by omega, by rw [f6]; exact g3, by rw [f5, f6]; exact g4⟩, by rw [f5, f6, f7, f8, f9]; exact g5, ?_, TA_St q1 g7⟩
      rw [f4, f5, f6, f9]
      have : (bif m2.hs then 4 else 0) ≤ 4 := by cases m2.hs <;> decide
      omega
    refine k_Mo_readElement_117 ok rW_58 (Nat.le_refl 59) ⟨bI_nar _, by cases b <;> rfl⟩ (sF_Mo_22 rfl) (sO_Mo_22 rfl) (mo_isKeyF m1t _) (gF_h E.nR (by decide) (by decide)) (fun _ _ q => qM_len q) ?_
    rintro r M' ⟨m2, ⟨rfl, rfl⟩, rfl⟩
    have e5 : ((m.u_el (m.el + 1)).u_hs b).ky 5 = wK T s 7379548711597244416 := tk5
    rw [e5]
    refine k_Mo_readElement_125 ok (fun z => have z := bI_0 z; ?_) (fun z => have z := bI_1 z; ?_)
    · have hk50 := z
      have e39 : ((m.u_el (m.el + 1)).u_hs b).kd ≤ 5 := ht.2.2.2.2.1
      refine k_Mo_readElement_139 ok rW_58 rF_Mo_15 (fun z => have z := (nEq rfl (nL 3) (by omega) (by omega) z); ?_) (fun z => have z := (nNe rfl (nL 3) (by omega) (by omega) z); ?_)
      · exact pat b (hb.trans (no_hold (Or.inl z))) he (by rw [thl]; exact no_hold (Or.inl z)) hk50
      · refine k_Mo_readElement_147 ok rW_58 (mo_isTermF m1t) (gF_h E.nR (by decide) (by decide)) (fun _ _ q => qM_len q) ?_
        rintro r M' ⟨m2, ⟨rfl, rfl⟩, rfl⟩
        have zk3 : ¬ m.kd = 3 := z
        refine k_Mo_readElement_151 ok (fun z => have z := bI_0 z; ?_) (fun z => have z := bI_1 z; ?_)
        · have hbt : b = true := by
            rw [hb]
            rcases hcan with w | w | w | w
            · rw [tk5, hk50] at w
              cases w
            · exact w
            · exact absurd w zk3
            · have z9 : m.tz = false := z
              rw [z9] at w
              cases w
          have el9 : Elp T P k s m ((m.u_el (m.el + 1)).u_hs b) := by
            refine ⟨⟨⟨rfl, rfl⟩, rfl, rfl⟩, fun _ _ => ⟨hw, hbt, RE b m.np⟩, fun w => ?_⟩
            exfalso
            rcases w with w | w
            · omega
            · rw [thl, ← hb, hbt] at w
              cases w
          refine k_Mo_readElement_204 ok E ⟨_, ⟨rfl, by exact Fr.refl (m := m), ⟨by exact ht, by show m.el + 1 ≤ 12; omega, by show m.np + m.ne ≤ m.el + 1; omega, by exact hno⟩, by exact Nat.le_refl _, fun _ => ⟨rfl, lv _ (St.refl m1t)⟩, by exact el9⟩, rfl⟩ (Nat.le_refl _) (Nat.le_refl _)
        · exact pat b (hb.trans (no_hold (Or.inr z))) he (by rw [thl]; exact no_hold (Or.inr z)) hk50
    · refine k_Mo_readElement_128 ok rW_58 (rx_next m1t (RE b m.np)) (gF_h E.nR (by decide) (by decide)) (fun _ _ q => qM_len q) ?_
      rintro r M' ⟨m2, ⟨rfl, q1, qb, -, R2⟩, rfl⟩
      have hk51 : wK T s 7379548711597244416 = true := z
      have hh0 := hld_f5 hk51
      have hb0 : b = false := by rw [hb, ← thl]; exact hh0
      obtain ⟨f1, f2, f3, f4, f5, f6, f7, f8, f9, f10, f11, f12, f13⟩ := q1.eqs
      have f4 : m2.el = m.el + 1 := f4
      have f5 : m2.dp = m.dp := f5
      have f9 : m2.no = m.no := f9
      have f10 : m2.np = m.np := f10
      have f11 : m2.ne = m.ne := f11
      refine k_Mo_readElement_132 ok rW_58 (rx_readTest q1.1 R2 (by omega) (by omega) (by omega)) (gF_h E.nR (by decide) (by decide)) (fun _ _ q => qM_len q) ?_
      rintro r M' ⟨m3, ⟨rfl, q2, qT, qb2, R3⟩, rfl⟩
      have q3 : Sw (((m.u_el (m.el + 1)).u_hs b).u_ne (m.ne + 1)) m3 := by
        have q4 : Sw (((m.u_el (m.el + 1)).u_hs b).u_ne (m2.ne + 1)) (m2.u_ne (m2.ne + 1)) := by
          obtain ⟨w1, w2, w3, w4, -⟩ := q1
          refine ⟨w1, ?_, w3, w4⟩
          have h2 : (m2.1.1, m2.1.2.1, m2.2, m2.el, m2.dp, m2.gk, m2.oo, m2.ar, m2.no, m2.np, m2.wa, m2.nw, m2.hs) = (m.1.1, m.1.2.1, m.2, m.el + 1, m.dp, m.gk, m.oo, m.ar, m.no, m.np, m.wa, m.nw, b) := by
            simp only [Prod.mk.injEq]
            exact ⟨f1, f2, f3, f4, f5, f6, f7, f8, f9, f10, f12, f13.1, f13.2⟩
          exact congrArg (fun t => (t.1, t.2.1, t.2.2.1, t.2.2.2.1, t.2.2.2.2.1, t.2.2.2.2.2.1, t.2.2.2.2.2.2.1, t.2.2.2.2.2.2.2.1, t.2.2.2.2.2.2.2.2.1, t.2.2.2.2.2.2.2.2.2.1, m2.ne + 1, t.2.2.2.2.2.2.2.2.2.2.1, t.2.2.2.2.2.2.2.2.2.2.2.1, t.2.2.2.2.2.2.2.2.2.2.2.2)) h2
        have q5 := q4.trans q2.1
        rw [f11] at q5
        exact q5
      obtain ⟨e1, e2, e3, e4, e5, e6, e7, e8, e9, e10, e11, e12, e13⟩ := q3.eqs
      have e4 : m3.el = m.el + 1 := e4
      have e5 : m3.dp = m.dp := e5
      have e6 : m3.gk = m.gk := e6
      have e7 : m3.oo = m.oo := e7
      have e8 : m3.ar = m.ar := e8
      have e9 : m3.no = m.no := e9
      have e10 : m3.np = m.np := e10
      have e11 : m3.ne = m.ne + 1 := e11
      have eb : m.bh ≤ m3.bh := q3.2.2.1
      have el9 : Elp T P k s m m3 := by
        refine ⟨⟨Bq.trans (m2 := m2) qb qb2, e6, e5⟩, fun _ w => (by rw [hh0] at w; cases w), fun _ => ⟨fun G => ?_, fun _ => ?_⟩⟩
        · rw [pE_5 G (by omega) hk51]
          exact R3
        · have e14 : m3.hs = b := e13.2
          rw [e14, hb0]
      refine k_Mo_readElement_136 ok ?_
      refine k_Mo_readElement_204 ok E ⟨_, ⟨rfl, by exact q3.fr, ⟨by exact q3.1, by omega, by omega, by omega⟩, by exact eb, fun zw => ⟨e4, ⟨by omega, by omega, by rw [e6]; exact g3, by rw [e5, e6]; exact g4⟩, by rw [e5, e6, e7, e8, e9]; exact g5, ?_, ?_⟩, by exact el9⟩, rfl⟩ (Nat.le_refl _) (Nat.le_refl _)
      rotate_left
      · intro t ht
        by_cases e : t = m2.ne
        · rw [e]
          exact qT zw
        · have ta : TA (m2.u_ne m2.ne) := TA_St q1 g7
          have tt : TT m2 t := ta t (by show t < m2.ne; omega)
          exact q2.tt (m1 := m2.u_ne (m2.ne + 1)) e (by exact tt)
      rw [e4, e5, e6, e9]
      have : (bif m3.hs then 4 else 0) ≤ 4 := by cases m3.hs <;> decide
      omega
  have can : (m.ky 5 = true ∨ (m.ky 6 || m.ky 7 || m.sg 123) = true ∨ m.kd = 3 ∨ m.tz = true) → gg X (W9 c m o) 0 0 50 [(0, .ref 58)] [] := by
    intro hcan
    refine k_Mo_readElement_50 ok ?_
    refine k_Mo_readElement_55 ok E.nL (fun z => absurd z (by decide)) (fun _ => ?_)
    refine k_Mo_readElement_60 ok rW_58 rF_Mo_25 (fun z => have z := (nNe rfl (nL 12) (by omega) (by omega) z); ?_) (fun z => have z := (nEq rfl (nL 12) (by omega) (by omega) z); ?_)
    · have he : m.el < 12 := by omega
      have m1t : (m.u_el (m.el + 1)).tI := ht
      refine k_Mo_readElement_74 ok rW_58 rF_Mo_25 (Nat.le_refl 59) (sF_Mo_25 (nA rfl (nL 1))) (sO_Mo_25 rfl) (mo_isKeyF m1t _) (gF_h E.nR (by decide) (by decide)) (fun _ _ q => qM_len q) ?_
      rintro r M' ⟨m2, ⟨rfl, rfl⟩, rfl⟩
      have yes : (m.ky 6 || m.ky 7 || m.sg 123) = true → gg X (W9 c (m.u_el (m.el + 1)) o) 0 0 112 [(0, .ref 58)] [.ref 58] := by
        intro q
        refine k_Mo_readElement_112 ok ?_
        exact rest true q.symm he hcan
      refine k_Mo_readElement_91 ok (fun z => have z := bI_1 z; ?_) (fun z => have z := bI_0 z; ?_)
      · have z6 : m.ky 6 = true := z
        exact yes (by rw [z6]; rfl)
      have z6 : m.ky 6 = false := z
      refine k_Mo_readElement_94 ok rW_58 (mo_isKeyF m1t _) (gF_h E.nR (by decide) (by decide)) (fun _ _ q => qM_len q) ?_
      rintro r M' ⟨m2, ⟨rfl, rfl⟩, rfl⟩
      refine k_Mo_readElement_100 ok (fun z => have z := bI_1 z; ?_) (fun z => have z := bI_0 z; ?_)
      · have z7 : m.ky 7 = true := z
        exact yes (by rw [z6, z7]; rfl)
      have z7 : m.ky 7 = false := z
      refine k_Mo_readElement_103 ok rW_58 (mo_isSignF m1t _) (gF_h E.nR (by decide) (by decide)) (fun _ _ q => qM_len q) ?_
      rintro r M' ⟨m2, ⟨rfl, rfl⟩, rfl⟩
      refine k_Mo_readElement_109 ok (fun z => have z := bI_0 z; ?_) (fun z => have z := bI_1 z; ?_)
      · have z8 : m.sg 123 = false := z
        refine k_Mo_readElement_116 ok ?_
        exact rest false (by rw [z6, z7, z8]; rfl) he hcan
      · have z8 : m.sg 123 = true := z
        exact yes (by rw [z6, z7, z8]; rfl)
    · refine bad (Or.inl (by omega)) (fun G => ⟨s, ?_, rfl⟩)
      unfold pE
      rw [if_neg (by omega)]
  refine k_Mo_readElement_0 ok rW_58 (mo_isKeyF ht _) (gF_h E.nR (by decide) (by decide)) (fun _ _ q => qM_len q) ?_
  rintro r M' ⟨m, ⟨rfl, rfl⟩, rfl⟩
  refine k_Mo_readElement_5 ok (fun z => have z := bI_1 z; ?_) (fun z => have z := bI_0 z; ?_)
  · exact can (Or.inl z)
  have y5 := z
  refine k_Mo_readElement_8 ok rW_58 (mo_isKeyF ht _) (gF_h E.nR (by decide) (by decide)) (fun _ _ q => qM_len q) ?_
  rintro r M' ⟨m, ⟨rfl, rfl⟩, rfl⟩
  refine k_Mo_readElement_14 ok (fun z => have z := bI_1 z; ?_) (fun z => have z := bI_0 z; ?_)
  · exact can (Or.inr (Or.inl (by rw [z]; rfl)))
  have y6 := z
  refine k_Mo_readElement_17 ok rW_58 (mo_isKeyF ht _) (gF_h E.nR (by decide) (by decide)) (fun _ _ q => qM_len q) ?_
  rintro r M' ⟨m, ⟨rfl, rfl⟩, rfl⟩
  refine k_Mo_readElement_23 ok (fun z => have z := bI_1 z; ?_) (fun z => have z := bI_0 z; ?_)
  · exact can (Or.inr (Or.inl (by rw [y6, z]; rfl)))
  have y7 := z
  refine k_Mo_readElement_26 ok rW_58 (mo_isSignF ht _) (gF_h E.nR (by decide) (by decide)) (fun _ _ q => qM_len q) ?_
  rintro r M' ⟨m, ⟨rfl, rfl⟩, rfl⟩
  refine k_Mo_readElement_32 ok (fun z => have z := bI_1 z; ?_) (fun z => have z := bI_0 z; ?_)
  · exact can (Or.inr (Or.inl (by rw [y6, y7, z]; rfl)))
  have y8 := z
  have k5 : m.kd ≤ 5 := ht.2.2.2.2.1
  refine k_Mo_readElement_35 ok rW_58 rF_Mo_15 (fun z => have z := (nEq rfl (nL 3) (by omega) (by omega) z); ?_) (fun z => have z := (nNe rfl (nL 3) (by omega) (by omega) z); ?_)
  · exact can (Or.inr (Or.inr (Or.inl z)))
  have y3 : ¬ m.kd = 3 := z
  refine k_Mo_readElement_43 ok rW_58 (mo_isTermF ht) (gF_h E.nR (by decide) (by decide)) (fun _ _ q => qM_len q) ?_
  rintro r M' ⟨m, ⟨rfl, rfl⟩, rfl⟩
  refine k_Mo_readElement_47 ok (fun z => have z := bI_0 z; ?_) (fun z => have z := bI_1 z; ?_)
  · have yz := z
    have hh0 : hld T s = false := by rw [thl, y6, y7, y8]; rfl
    refine k_Mo_readElement_54 ok ?_
    refine k_Mo_readElement_55 ok E.nL (fun _ => ?_) (fun z => absurd rfl z)
    refine bad (Or.inr hh0) (fun G => ?_)
    by_cases h12 : s.2.2.2.1 < 12
    · refine ⟨wE s, ?_, rfl⟩
      rw [pE_p G h12 (by rw [← tk5]; exact y5) hh0]
      have n4 : ¬ wKd T (wE s) = 4 := fun w9 => by
        have w8 : wKd T s = 4 := w9
        rw [t3, decide_eq_true w8] at yz
        cases yz
      have n5 : ¬ wKd T (wE s) = 5 := fun w9 => y3 (t4.mpr w9)
      have e : pSide T (wE s) = (false, wE s) := by
        unfold pSide pVar
        rw [if_neg n4, if_neg n5]
      unfold pPat
      rw [e]
      rfl
    · refine ⟨s, ?_, rfl⟩
      unfold pE
      rw [if_neg h12]
  · exact can (Or.inr (Or.inr (Or.inr z)))
end RX7b
