/-! THE REFERENCE'S PARSER: groups; the lists that the made steps will leave -/
section RP7
variable {l : Launch} {c : CS} {m : MS} {o : Nat → Int64}
/-- a step over g lists leaves h -/
def opR (x a : Int32) (g h : Nat) : Prop := ((x = 1 ∨ x = 6) ∧ g < 9 ∧ h = g + 1) ∨ (x = 2 ∧ 1 ≤ g ∧ g < 9 ∧ h = g ∧ ∃ j, j < 20 ∧ a = nI (3 * j)) ∨ (x = 3 ∧ 1 ≤ g ∧ h = g) ∨ ((x = 4 ∨ x = 5 ∨ x = 8 ∨ x = 7) ∧ 2 ≤ g ∧ h + 1 = g)
/-- the first n steps can be done, and leave h lists -/
def hgt (f a : Nat → Int32) : Nat → Nat → Prop
  | 0, h => h = 0
  | n + 1, h => ∃ g, hgt f a n g ∧ opR (f n) (a n) g h
theorem hgt_congr {f a f2 a2 : Nat → Int32} : ∀ n h, (∀ j, j < n → f2 j = f j ∧ a2 j = a j) → hgt f a n h → hgt f2 a2 n h
  | 0, _, _, q => q
  | n + 1, h, e, ⟨g, q1, q2⟩ => ⟨g, hgt_congr n g (fun j hj => e j (by omega)) q1, by rw [(e n (by omega)).1, (e n (by omega)).2]; exact q2⟩
theorem hgt_em {x a : Int32} {g h : Nat} (q : hgt m.oo m.ar m.no g) (r : opR x a g h) : hgt (m.d_em x a).oo (m.d_em x a).ar (m.d_em x a).no h := by
  refine ⟨g, hgt_congr m.no g (fun j hj => ?_) q, ?_⟩
  · exact ⟨if_neg (by omega), if_neg (by omega)⟩
  · have e1 : (m.d_em x a).oo m.no = x := if_pos rfl
    have e2 : (m.d_em x a).ar m.no = a := if_pos rfl
    rw [e1, e2]
    exact r
def lvl (f : Nat → Int32) : Nat → Nat
  | 0 => 0
  | d + 1 => lvl f d + (if f d = 3 then 2 else 1)
theorem lvl_congr {f g : Nat → Int32} : ∀ d, (∀ j, j < d → g j = f j) → lvl g d = lvl f d
  | 0, _ => rfl
  | d + 1, e => by
    unfold lvl
    rw [lvl_congr d (fun j hj => e j (by omega)), e d (by omega)]
theorem lvl_le (f : Nat → Int32) : ∀ d, d ≤ lvl f d ∧ lvl f d ≤ 2 * d
  | 0 => ⟨Nat.le_refl _, Nat.le_refl _⟩
  | d + 1 => by
    have := lvl_le f d
    unfold lvl
    split <;> omega
theorem lvl_up (f : Nat → Int32) (d : Nat) (x : Int32) : lvl (upd f d x) (d + 1) = lvl f d + (if x = 3 then 2 else 1) := by
  have e : upd f d x d = x := if_pos rfl
  show lvl (upd f d x) d + (if upd f d x d = 3 then 2 else 1) = _
  rw [e, lvl_congr (f := f) (g := upd f d x) d (fun j hj => if_neg (by omega))]
theorem Sw.eqs {m m' : MS} (h : Sw m m') : m'.1.1 = m.1.1 ∧ m'.1.2.1 = m.1.2.1 ∧ m'.2 = m.2 ∧ m'.el = m.el ∧ m'.dp = m.dp ∧ m'.gk = m.gk ∧ m'.oo = m.oo ∧ m'.ar = m.ar ∧ m'.no = m.no ∧ m'.np = m.np ∧ m'.ne = m.ne ∧ m'.wa = m.wa ∧ m'.nw = m.nw ∧ m'.hs = m.hs := by
  have h2 : (m'.1.1, m'.1.2.1, m'.2, m'.el, m'.dp, m'.gk, m'.oo, m'.ar, m'.no, m'.np, m'.ne, m'.wa, m'.nw, m'.hs) = (m.1.1, m.1.2.1, m.2, m.el, m.dp, m.gk, m.oo, m.ar, m.no, m.np, m.ne, m.wa, m.nw, m.hs) := h.2.1
  simp only [Prod.mk.injEq] at h2
  exact h2
theorem St.eqs {m m' : MS} (h : St m m') : m'.1.1 = m.1.1 ∧ m'.1.2.1 = m.1.2.1 ∧ m'.2 = m.2 ∧ m'.el = m.el ∧ m'.dp = m.dp ∧ m'.gk = m.gk ∧ m'.oo = m.oo ∧ m'.ar = m.ar ∧ m'.no = m.no ∧ m'.np = m.np ∧ m'.ne = m.ne ∧ m'.wa = m.wa ∧ m'.nw = m.nw ∧ m'.hs = m.hs := h.w.eqs
/-- what no reading of groups changes -/
def Fr (m m' : MS) : Prop := m'.1.1 = m.1.1 ∧ m'.1.2.1 = m.1.2.1 ∧ m'.2 = m.2 ∧ m'.wa = m.wa ∧ m'.nw = m.nw
theorem Fr.refl : Fr m m := ⟨rfl, rfl, rfl, rfl, rfl⟩
theorem Fr.trans {m1 m2 m3 : MS} (h1 : Fr m1 m2) (h2 : Fr m2 m3) : Fr m1 m3 := ⟨h2.1.trans h1.1, h2.2.1.trans h1.2.1, h2.2.2.1.trans h1.2.2.1, h2.2.2.2.1.trans h1.2.2.2.1, h2.2.2.2.2.trans h1.2.2.2.2⟩
theorem Sw.fr {m m' : MS} (h : Sw m m') : Fr m m' := by
  obtain ⟨e1, e2, e3, -, -, -, -, -, -, -, -, e4, e5, -⟩ := h.eqs
  exact ⟨e1, e2, e3, e4, e5⟩
theorem St.fr {m m' : MS} (h : St m m') : Fr m m' := h.w.fr
/-- every test that was read can be tried -/
def TA (m : MS) : Prop := ∀ t, t < m.ne → TT m t
theorem TA_St {m m' : MS} (h : St m m') (q : TA m) : TA m' := by
  obtain ⟨e1, e2, e3⟩ := h.sides
  have e4 : m'.ne = m.ne := h.eqs.2.2.2.2.2.2.2.2.2.2.1
  intro t ht
  unfold TT S1
  rw [e1, e2, e3]
  exact q t (by omega)
/-- sides of a pattern were read -/
def Sp (m m' : MS) : Prop := Sw m m' ∧ m'.ts = m.ts ∧ ∀ p, 60 ≤ p → m'.sd p = m.sd p ∧ m'.te p = m.te p
theorem TA_Sp {m m' : MS} (h : Sp m m') (q : TA m) : TA m' := by
  have e4 : m'.ne = m.ne := h.1.eqs.2.2.2.2.2.2.2.2.2.2.1
  intro t ht
  have e1 := h.2.2 (60 + 2 * t) (by omega)
  have e2 := h.2.2 (60 + 2 * t + 1) (by omega)
  unfold TT S1
  rw [h.2.1, e1.1, e1.2, e2.1, e2.2]
  exact q t (by omega)
/-- kinds of the groups that stand around -/
def KI (m : MS) : Prop := 1 ≤ m.dp ∧ m.dp ≤ 4 ∧ m.gk 0 = 0 ∧ ∀ d, 1 ≤ d → d < m.dp → m.gk d = 1 ∨ m.gk d = 2 ∨ m.gk d = 3
/-- at the end of a piece of groups, k steps are owed -/
def GI (k : Nat) (m : MS) : Prop := KI m ∧ hgt m.oo m.ar m.no (lvl m.gk m.dp) ∧ 2 * m.no + 2 * lvl m.gk m.dp + k ≤ 3 * m.bh + 4 * m.el + m.dp ∧ TA m
/-- whatever was read -/
def BI (m : MS) : Prop := m.tI ∧ m.el ≤ 12 ∧ m.np + m.ne ≤ m.el ∧ m.no ≤ 300
theorem GI_no {k : Nat} (h : m.tI) (he : m.el ≤ 12) (g : GI k m) : m.no ≤ 270 := by
  obtain ⟨a1, a2, a3, -⟩ := h
  have := g.1.2.1
  have := g.2.2.1
  omega
theorem mo_readStart (h : BI m) (hw : m.wr < 0) (hd : m.dp ≤ 4) (w : Nat) (hw3 : w ≤ 3) (hk : if w = 0 then m.dp = 0 else 1 ≤ m.dp ∧ m.gk 0 = 0 ∧ ∀ d, 1 ≤ d → d < m.dp → m.gk d = 1 ∨ m.gk d = 2 ∨ m.gk d = 3)
    (hg : hgt m.oo m.ar m.no (lvl m.gk m.dp + (if w = 3 then 1 else 0))) (hn : 2 * m.no + 2 * lvl m.gk m.dp + (if w = 3 then 2 else 0) ≤ 3 * m.bh + 4 * m.el + m.dp) (hTA : TA m) :
    mm_ l y_Mo_readStart w_Mo_readStart (rmh 6) [.ref 58, .int (nI w)] (W9 c m o) (qM c o (fun r m' => r = none ∧ Fr m m' ∧ BI m' ∧ m.bh ≤ m'.bh ∧ m'.el = m.el ∧ (m'.wr < 0 → GI 0 m'))) := by
  obtain ⟨ht, hel, hnp, hno⟩ := h
  obtain ⟨a1, a2, a3, a4, a5, a6, -⟩ := id ht
  have hll := lvl_le m.gk m.dp
  have hno9 : m.no ≤ 290 := by
    have h9 := hn
    split at h9 <;> omega
  refine mm_intro (by decide) (Nat.le_of_ble_eq_true rfl) i_Mo_readStart (fun X ok E => ?_)
  have go : ∀ b : Bool, (b = true → m.kd = 4 ∧ m.dp < 4) → gg X (W9 c m o) 0 0 52 [(0, .ref 58), (1, .int (nI w))] [.int (bI b), .ref 58] := by
    intro b hb
    refine k_Mo_readStart_52 ok rW_58 (mo_goOn ht b) (gF_h E.nR (by decide) (by decide)) (fun _ _ q => qM_len q) ?_
    rintro r M' ⟨m2, ⟨b', rfl, q1, q2, q3⟩, rfl⟩
    obtain ⟨f1, f2, f3, f4, f5, f6, f7, f8, f9, f10, f11, f12, f13⟩ := q1.eqs
    refine k_Mo_readStart_55 ok (fun z => have z := bI_1 z; ?_) (fun z => have z := bI_0 z; ?_)
    · obtain ⟨w1, w2, w3⟩ := q2 z
      obtain ⟨k1, k2⟩ := hb w1
      have k3 := a6 k1
      have d0 : (nI m2.dp).toNatClampNeg = m2.dp := nC rfl (by omega)
      have hno2 : m2.no < 400 := by rw [f9]; omega
      refine k_Mo_readStart_59 ok rW_58 rF_Mo_42 rF_Mo_27 rW_76 (vin rfl (by omega) (by decide)) (vin rfl (by omega) (by decide)) sA_76 rF_Mo_28 rW_66 (by decide) (vin rfl (by omega) (by decide)) sA_66 rF_Mo_29 rF_Mo_26 rW_67 (by decide) (by decide) (vin rfl (by omega) (by decide)) sA_67 (Nat.le_refl 59) (sF_Mo_26 (nA rfl (nL 1))) (sO_Mo_26 rfl) (sF_Mo_27 (nA rfl (nL 1))) (sO_Mo_27 rfl) (mo_emit (by exact hno2) 1 0) (gF_h E.nR (by decide) (by decide)) (fun _ _ q => qM_len q) ?_
      rintro r M' ⟨m3, ⟨rfl, rfl⟩, rfl⟩
      rw [d0]
      refine k_Mo_readStart_121 ok rW_58 (Nat.le_refl 59) (sF_Mo_21 (v := true) rfl) (sO_Mo_21 rfl) E ⟨_, ⟨rfl, by exact q1.fr, ⟨by exact q1.1, by show m2.el ≤ 12; omega, by show m2.np + m2.ne ≤ m2.el; omega, by show m2.no + 1 ≤ 300; omega⟩, by exact q1.2.2.1, by exact f4, fun _ => ?_⟩, rfl⟩ (Nat.le_refl _) (Nat.le_refl _)
      have eL : lvl (upd m2.gk m2.dp (nI w)) (m2.dp + 1) = lvl m.gk m.dp + (if w = 3 then 2 else 1) := by
        rw [lvl_up, f6, f5]
        by_cases h3 : w = 3
        · rw [h3]
          rfl
        · rw [if_neg h3, if_neg (fun e => h3 (nEq rfl (nL 3) (by omega) (by decide) e))]
      refine ⟨⟨by show 1 ≤ m2.dp + 1; omega, by show m2.dp + 1 ≤ 4; omega, ?_, ?_⟩, ?_, ?_, by exact (TA_St q1 hTA : TA m2)⟩
      · show upd m2.gk m2.dp (nI w) 0 = 0
        unfold upd
        by_cases h0 : w = 0
        · rw [if_pos h0] at hk
          rw [if_pos (by omega), h0]
          rfl
        · rw [if_neg h0] at hk
          rw [if_neg (by omega), f6]
          exact hk.2.1
      · show ∀ d, 1 ≤ d → d < m2.dp + 1 → upd m2.gk m2.dp (nI w) d = 1 ∨ upd m2.gk m2.dp (nI w) d = 2 ∨ upd m2.gk m2.dp (nI w) d = 3
        intro d hd1 hd2
        unfold upd
        by_cases h0 : w = 0
        · rw [if_pos h0] at hk
          omega
        · rw [if_neg h0] at hk
          split
          · have : w = 1 ∨ w = 2 ∨ w = 3 := by omega
            rcases this with rfl | rfl | rfl
            · exact Or.inl rfl
            · exact Or.inr (Or.inl rfl)
            · exact Or.inr (Or.inr rfl)
          · rw [f6]
            exact hk.2.2 d hd1 (by omega)
      · show hgt (m2.d_em 1 0).oo (m2.d_em 1 0).ar (m2.d_em 1 0).no (lvl (upd m2.gk m2.dp (nI w)) (m2.dp + 1))
        rw [eL]
        refine hgt_em (g := lvl m.gk m.dp + (if w = 3 then 1 else 0)) (by rw [f7, f8, f9]; exact hg) (Or.inl ⟨Or.inl rfl, ?_, ?_⟩)
        · split <;> omega
        · split <;> omega
      · show 2 * (m2.no + 1) + 2 * lvl (upd m2.gk m2.dp (nI w)) (m2.dp + 1) + 0 ≤ 3 * m2.bh + 4 * m2.el + (m2.dp + 1)
        rw [eL]
        split at hn <;> split <;> omega
    · refine k_Mo_readStart_58 ok E ⟨_, ⟨rfl, q1.fr, ⟨q1.1, by omega, by omega, by omega⟩, q1.2.2.1, f4, fun z9 => absurd z9 (q3 z)⟩, rfl⟩ (Nat.le_refl _) (Nat.le_refl _)
  have no : gg X (W9 c m o) 0 0 51 [(0, .ref 58), (1, .int (nI w))] [.ref 58] := by
    refine k_Mo_readStart_51 ok ?_
    exact go false (fun z => nomatch z)
  have st : ∀ b : Bool, gg X (W9 c m o) 0 0 24 [(0, .ref 58), (1, .int (nI w))] [.int (bI b)] := by
    intro b
    refine k_Mo_readStart_24 ok E.nL rW_58 (mo_isSign ht _) (gF_h E.nR (by decide) (by decide)) (fun _ _ q => qM_len q) ?_
    rintro r M' ⟨m3, ⟨b2, rfl, rfl, q⟩, rfl⟩
    refine k_Mo_readStart_32 ok (fun z => have z := bI_0 z; ?_) (fun z => have z := bI_1 z; ?_)
    · exact no
    have hb2 := q z
    refine k_Mo_readStart_35 ok rW_58 rF_Mo_27 (fun z => have z := (nLe (nL 4) rfl (by omega) (by omega) z); ?_) (fun z => have z := (nNle (nL 4) rfl (by omega) (by omega) z); ?_)
    · exact no
    refine k_Mo_readStart_43 ok (fun z => ?_) (fun z => ?_)
    · exact no
    · refine k_Mo_readStart_47 ok ?_
      exact go true (fun _ => ⟨hb2, by omega⟩)
  refine k_Mo_readStart_0 ok (fun z => ?_) (fun z => ?_)
  · refine k_Mo_readStart_23 ok ?_
    exact st false
  · refine k_Mo_readStart_5 ok rW_58 rF_Mo_42 rF_Mo_27 rW_76 (vin rfl (by omega) (by decide)) (fun z => ?_) (fun z => ?_)
    · refine k_Mo_readStart_23 ok ?_
      exact st false
    · refine k_Mo_readStart_19 ok ?_
      exact st true
/-- an element: a pattern or a test is read whole; what holds groups is left for readOn, with four steps' worth -/
theorem mo_readElement (h : BI m) (hw : m.wr < 0) (g : GI 0 m) : mm_ l y_Mo_readElement w_Mo_readElement (rmh 9) [.ref 58] (W9 c m o) (qM c o (fun r m' => r = none ∧ Fr m m' ∧ BI m' ∧ m.bh ≤ m'.bh ∧ (m'.wr < 0 → m'.el = m.el + 1 ∧ GI (bif m'.hs then 4 else 0) m'))) := by
  obtain ⟨ht, hel, hnp, hno⟩ := id h
  have hno9 := GI_no ht hel g
  obtain ⟨⟨g1, g2, g3, g4⟩, g5, g6, g7⟩ := id g
  have hll := lvl_le m.gk m.dp
  refine mm_intro (by decide) (Nat.le_of_ble_eq_true rfl) i_Mo_readElement (fun X ok E => ?_)
  have bad : gg X (W9 c m o) 0 0 69 [(0, .ref 58)] [] := by
    refine k_Mo_readElement_69 ok rW_58 (mo_stop ht) (gF_h E.nR (by decide) (by decide)) (fun _ _ q => qM_len q) ?_
    rintro r M' ⟨m2, ⟨rfl, q1, x, rfl⟩, rfl⟩
    refine k_Mo_readElement_73 ok E ⟨_, ⟨rfl, by exact Fr.refl (m := m), by exact h, by exact Nat.le_refl _, fun z => absurd z q1⟩, rfl⟩ (Nat.le_refl _) (Nat.le_refl _)
  -- the element's own text
  have pat : ∀ b, b = false → m.el < 12 → gg X (W9 c ((m.u_el (m.el + 1)).u_hs b) o) 0 0 154 [(0, .ref 58)] [] := by
    rintro b hb0 he
    refine k_Mo_readElement_154 ok E.nL rW_58 rF_Mo_35 (Nat.le_refl 59) (sF_Mo_35 (nA rfl (nL 1))) (sO_Mo_35 rfl) ?_
    have m1t : (((m.u_el (m.el + 1)).u_hs b).u_np (m.np + 1)).tI := ht
    have loop : ∀ r i m2, i + r = 3 → Sp (((m.u_el (m.el + 1)).u_hs b).u_np (m.np + 1)) m2 → gg X (W9 c m2 o) 0 0 173 [(0, .ref 58), (2, .int (nI (3 * m.np))), (3, .int (nI i))] [] := by
      have fin : ∀ m2, Sp (((m.u_el (m.el + 1)).u_hs b).u_np (m.np + 1)) m2 → gg X (W9 c m2 o) 0 0 198 [(0, .ref 58), (2, .int (nI (3 * m.np)))] [] := by
        intro m2 q1
        obtain ⟨f1, f2, f3, f4, f5, f6, f7, f8, f9, f10, f11, f12, f13⟩ := q1.1.eqs
        have f4 : m2.el = m.el + 1 := f4
        have f5 : m2.dp = m.dp := f5
        have f6 : m2.gk = m.gk := f6
        have f7 : m2.oo = m.oo := f7
        have f8 : m2.ar = m.ar := f8
        have f9 : m2.no = m.no := f9
        have f10 : m2.np = m.np + 1 := f10
        have f11 : m2.ne = m.ne := f11
        have fb : m.bh ≤ m2.bh := q1.1.2.2.1
        refine k_Mo_readElement_198 ok rW_58 (mo_emit (by omega) _ _) (gF_h E.nR (by decide) (by decide)) (fun _ _ q => qM_len q) ?_
        rintro r M' ⟨m3, ⟨rfl, rfl⟩, rfl⟩
        refine k_Mo_readElement_204 ok E ⟨_, ⟨rfl, by exact q1.1.fr, ⟨by exact q1.1.1, by show m2.el ≤ 12; omega, by show m2.np + m2.ne ≤ m2.el; omega, by show m2.no + 1 ≤ 300; omega⟩, by exact fb, fun _ => ⟨by exact f4, ⟨by show 1 ≤ m2.dp; omega, by show m2.dp ≤ 4; omega, by show m2.gk 0 = 0; rw [f6]; exact g3, by show ∀ d, 1 ≤ d → d < m2.dp → _; rw [f5]; show ∀ d, 1 ≤ d → d < m.dp → m2.gk d = 1 ∨ m2.gk d = 2 ∨ m2.gk d = 3; rw [f6]; exact g4⟩, ?_, ?_, by exact (TA_Sp q1 (by exact g7) : TA m2)⟩⟩, rfl⟩ (Nat.le_refl _) (Nat.le_refl _)
        · show hgt (m2.d_em 2 (nI (3 * m.np))).oo (m2.d_em 2 (nI (3 * m.np))).ar (m2.d_em 2 (nI (3 * m.np))).no (lvl m2.gk m2.dp)
          rw [f6, f5]
          exact hgt_em (by rw [f7, f8, f9]; exact g5) (Or.inr (Or.inl ⟨rfl, by omega, by omega, rfl, m.np, by omega, rfl⟩))
        · show 2 * (m2.no + 1) + 2 * lvl m2.gk m2.dp + (bif m2.hs then 4 else 0) ≤ 3 * m2.bh + 4 * m2.el + m2.dp
          have f14 : m2.hs = b := f13.2
          rw [f14, hb0, f6, f5, f9, f4]
          show 2 * (m.no + 1) + 2 * lvl m.gk m.dp + 0 ≤ _
          omega
      intro r
      induction r with
      | zero =>
        intro i m2 hi q1
        refine k_Mo_readElement_173 ok (fun z => have z := (nLe (nL 3) rfl (by omega) (by omega) z); ?_) (fun z => have z := (nNle (nL 3) rfl (by omega) (by omega) z); ?_)
        · exact fin m2 q1
        · omega
      | succ r ih =>
        intro i m2 hi q1
        refine k_Mo_readElement_173 ok (fun z => have z := (nLe (nL 3) rfl (by omega) (by omega) z); ?_) (fun z => have z := (nNle (nL 3) rfl (by omega) (by omega) z); ?_)
        · omega
        refine k_Mo_readElement_178 ok rW_58 rF_Mo_20 (fun z => ?_) (fun z => ?_)
        · exact fin m2 q1
        · refine k_Mo_readElement_185 ok rW_58 (by rw [nI_add]; exact mo_readSide q1.1.1 _ (by omega)) (gF_h E.nR (by decide) (by decide)) (fun _ _ q => qM_len q) ?_
          rintro r M' ⟨m3, ⟨rfl, q2, -⟩, rfl⟩
          refine k_Mo_readElement_192 ok E.nL ?_
          rw [nI_1]
          exact ih (i + 1) m3 (by omega) ⟨q1.1.trans q2.1, q2.2.1.trans q1.2.1, fun p hp => by have w := q2.2.2 p (by omega); rw [w.1, w.2]; exact q1.2.2 p hp⟩
    refine cast (congrArg (fun y => gg X (W9 c (((m.u_el (m.el + 1)).u_hs b).u_np (m.np + 1)) o) 0 0 173 [(0, .ref 58), (2, .int y), (3, .int (nI 0))] []) (nM (nL 3) rfl).symm) (loop 3 0 _ rfl ⟨Sw.refl m1t, rfl, fun _ _ => ⟨rfl, rfl⟩⟩)
  have rest : ∀ b, b = (m.ky 6 || m.ky 7 || m.sg 123) → m.el < 12 → gg X (W9 c (m.u_el (m.el + 1)) o) 0 0 117 [(0, .ref 58)] [.int (bI b), .ref 58] := by
    intro b hb he
    have m1t : ((m.u_el (m.el + 1)).u_hs b).tI := ht
    have lv : ∀ m2, St ((m.u_el (m.el + 1)).u_hs b) m2 → GI (bif m2.hs then 4 else 0) m2 := by
      intro m2 q1
      obtain ⟨f1, f2, f3, f4, f5, f6, f7, f8, f9, f10, f11, f12, f13⟩ := q1.eqs
      have f4 : m2.el = m.el + 1 := f4
      have f5 : m2.dp = m.dp := f5
      have f6 : m2.gk = m.gk := f6
      have f7 : m2.oo = m.oo := f7
      have f8 : m2.ar = m.ar := f8
      have f9 : m2.no = m.no := f9
      have fb : m.bh ≤ m2.bh := q1.2.2.1
      refine ⟨⟨by omega, by omega, by rw [f6]; exact g3, by rw [f5, f6]; exact g4⟩, by rw [f5, f6, f7, f8, f9]; exact g5, ?_, TA_St q1 g7⟩
      rw [f4, f5, f6, f9]
      have : (bif m2.hs then 4 else 0) ≤ 4 := by cases m2.hs <;> decide
      omega
    refine k_Mo_readElement_117 ok rW_58 (Nat.le_refl 59) ⟨bI_nar _, by cases b <;> rfl⟩ (sF_Mo_22 rfl) (sO_Mo_22 rfl) (mo_isKey m1t _) (gF_h E.nR (by decide) (by decide)) (fun _ _ q => qM_len q) ?_
    rintro r M' ⟨m2, ⟨b5, rfl, rfl⟩, rfl⟩
    refine k_Mo_readElement_125 ok (fun z => ?_) (fun z => ?_)
    · have e39 : ((m.u_el (m.el + 1)).u_hs b).kd ≤ 5 := ht.2.2.2.2.1
      refine k_Mo_readElement_139 ok rW_58 rF_Mo_15 (fun z => have z := (nEq rfl (nL 3) (by omega) (by omega) z); ?_) (fun z => have z := (nNe rfl (nL 3) (by omega) (by omega) z); ?_)
      · exact pat b (hb.trans (no_hold (Or.inl z))) he
      · refine k_Mo_readElement_147 ok rW_58 (mo_isTermF m1t) (gF_h E.nR (by decide) (by decide)) (fun _ _ q => qM_len q) ?_
        rintro r M' ⟨m2, ⟨rfl, rfl⟩, rfl⟩
        refine k_Mo_readElement_151 ok (fun z => have z := bI_0 z; ?_) (fun z => have z := bI_1 z; ?_)
        · refine k_Mo_readElement_204 ok E ⟨_, ⟨rfl, by exact Fr.refl (m := m), ⟨by exact ht, by show m.el + 1 ≤ 12; omega, by show m.np + m.ne ≤ m.el + 1; omega, by exact hno⟩, by exact Nat.le_refl _, fun _ => ⟨rfl, lv _ (St.refl m1t)⟩⟩, rfl⟩ (Nat.le_refl _) (Nat.le_refl _)
        · exact pat b (hb.trans (no_hold (Or.inr z))) he
    · refine k_Mo_readElement_128 ok rW_58 (mo_next m1t) (gF_h E.nR (by decide) (by decide)) (fun _ _ q => qM_len q) ?_
      rintro r M' ⟨m2, ⟨rfl, q1, -, -⟩, rfl⟩
      obtain ⟨f1, f2, f3, f4, f5, f6, f7, f8, f9, f10, f11, f12, f13⟩ := q1.eqs
      have f4 : m2.el = m.el + 1 := f4
      have f5 : m2.dp = m.dp := f5
      have f9 : m2.no = m.no := f9
      have f10 : m2.np = m.np := f10
      have f11 : m2.ne = m.ne := f11
      refine k_Mo_readElement_132 ok rW_58 (mo_readTest q1.1 (by omega) (by omega) (by omega)) (gF_h E.nR (by decide) (by decide)) (fun _ _ q => qM_len q) ?_
      rintro r M' ⟨m3, ⟨rfl, q2, qT⟩, rfl⟩
      have q3 : Sw (((m.u_el (m.el + 1)).u_hs b).u_ne (m.ne + 1)) m3 := by
        have q4 : Sw (((m.u_el (m.el + 1)).u_hs b).u_ne (m2.ne + 1)) (m2.u_ne (m2.ne + 1)) := by
          obtain ⟨w1, w2, w3, w4, -⟩ := q1
          refine ⟨w1, ?_, w3, w4⟩
          have h2 : (m2.1.1, m2.1.2.1, m2.2, m2.el, m2.dp, m2.gk, m2.oo, m2.ar, m2.no, m2.np, m2.wa, m2.nw, m2.hs) = (m.1.1, m.1.2.1, m.2, m.el + 1, m.dp, m.gk, m.oo, m.ar, m.no, m.np, m.wa, m.nw, b) := by
            simp only [Prod.mk.injEq]
            exact ⟨f1, f2, f3, f4, f5, f6, f7, f8, f9, f10, f12, f13.1, f13.2⟩
          exact congrArg (fun t => (t.1, t.2.1, t.2.2.1, t.2.2.2.1, t.2.2.2.2.1, t.2.2.2.2.2.1, t.2.2.2.2.2.2.1, t.2.2.2.2.2.2.2.1, t.2.2.2.2.2.2.2.2.1, t.2.2.2.2.2.2.2.2.2.1, m2.ne + 1, t.2.2.2.2.2.2.2.2.2.2.1, t.2.2.2.2.2.2.2.2.2.2.2.1, t.2.2.2.2.2.2.2.2.2.2.2.2)) h2
        have q5 := q4.trans q2.1
        rw [f11] at q5
        exact q5
      obtain ⟨e1, e2, e3, e4, e5, e6, e7, e8, e9, e10, e11, e12, e13⟩ := q3.eqs
      have e4 : m3.el = m.el + 1 := e4
      have e5 : m3.dp = m.dp := e5
      have e6 : m3.gk = m.gk := e6
      have e7 : m3.oo = m.oo := e7
      have e8 : m3.ar = m.ar := e8
      have e9 : m3.no = m.no := e9
      have e10 : m3.np = m.np := e10
      have e11 : m3.ne = m.ne + 1 := e11
      have eb : m.bh ≤ m3.bh := q3.2.2.1
      refine k_Mo_readElement_136 ok ?_
      refine k_Mo_readElement_204 ok E ⟨_, ⟨rfl, by exact q3.fr, ⟨by exact q3.1, by omega, by omega, by omega⟩, by exact eb, fun zw => ⟨e4, ⟨by omega, by omega, by rw [e6]; exact g3, by rw [e5, e6]; exact g4⟩, by rw [e5, e6, e7, e8, e9]; exact g5, ?_, ?_⟩⟩, rfl⟩ (Nat.le_refl _) (Nat.le_refl _)
      rotate_left
      · intro t ht
        by_cases e : t = m2.ne
        · rw [e]
          exact qT zw
        · have ta : TA (m2.u_ne m2.ne) := TA_St q1 g7
          have tt : TT m2 t := ta t (by show t < m2.ne; omega)
          exact q2.tt (m1 := m2.u_ne (m2.ne + 1)) e (by exact tt)
      rw [e4, e5, e6, e9]
      have : (bif m3.hs then 4 else 0) ≤ 4 := by cases m3.hs <;> decide
      omega
  have can : gg X (W9 c m o) 0 0 50 [(0, .ref 58)] [] := by
    refine k_Mo_readElement_50 ok ?_
    refine k_Mo_readElement_55 ok E.nL (fun z => absurd z (by decide)) (fun _ => ?_)
    refine k_Mo_readElement_60 ok rW_58 rF_Mo_25 (fun z => have z := (nNe rfl (nL 12) (by omega) (by omega) z); ?_) (fun z => have z := (nEq rfl (nL 12) (by omega) (by omega) z); ?_)
    · have he : m.el < 12 := by omega
      have m1t : (m.u_el (m.el + 1)).tI := ht
      refine k_Mo_readElement_74 ok rW_58 rF_Mo_25 (Nat.le_refl 59) (sF_Mo_25 (nA rfl (nL 1))) (sO_Mo_25 rfl) (mo_isKeyF m1t _) (gF_h E.nR (by decide) (by decide)) (fun _ _ q => qM_len q) ?_
      rintro r M' ⟨m2, ⟨rfl, rfl⟩, rfl⟩
      have yes : (m.ky 6 || m.ky 7 || m.sg 123) = true → gg X (W9 c (m.u_el (m.el + 1)) o) 0 0 112 [(0, .ref 58)] [.ref 58] := by
        intro q
        refine k_Mo_readElement_112 ok ?_
        exact rest true q.symm he
      refine k_Mo_readElement_91 ok (fun z => have z := bI_1 z; ?_) (fun z => have z := bI_0 z; ?_)
      · have z6 : m.ky 6 = true := z
        exact yes (by rw [z6]; rfl)
      have z6 : m.ky 6 = false := z
      refine k_Mo_readElement_94 ok rW_58 (mo_isKeyF m1t _) (gF_h E.nR (by decide) (by decide)) (fun _ _ q => qM_len q) ?_
      rintro r M' ⟨m2, ⟨rfl, rfl⟩, rfl⟩
      refine k_Mo_readElement_100 ok (fun z => have z := bI_1 z; ?_) (fun z => have z := bI_0 z; ?_)
      · have z7 : m.ky 7 = true := z
        exact yes (by rw [z6, z7]; rfl)
      have z7 : m.ky 7 = false := z
      refine k_Mo_readElement_103 ok rW_58 (mo_isSignF m1t _) (gF_h E.nR (by decide) (by decide)) (fun _ _ q => qM_len q) ?_
      rintro r M' ⟨m2, ⟨rfl, rfl⟩, rfl⟩
      refine k_Mo_readElement_109 ok (fun z => have z := bI_0 z; ?_) (fun z => have z := bI_1 z; ?_)
      · have z8 : m.sg 123 = false := z
        refine k_Mo_readElement_116 ok ?_
        exact rest false (by rw [z6, z7, z8]; rfl) he
      · have z8 : m.sg 123 = true := z
        exact yes (by rw [z6, z7, z8]; rfl)
    · exact bad
  refine k_Mo_readElement_0 ok rW_58 (mo_isKey ht _) (gF_h E.nR (by decide) (by decide)) (fun _ _ q => qM_len q) ?_
  rintro r M' ⟨m, ⟨b1, rfl, rfl⟩, rfl⟩
  refine k_Mo_readElement_5 ok (fun z => ?_) (fun z => ?_)
  · exact can
  refine k_Mo_readElement_8 ok rW_58 (mo_isKey ht _) (gF_h E.nR (by decide) (by decide)) (fun _ _ q => qM_len q) ?_
  rintro r M' ⟨m, ⟨b2, rfl, rfl⟩, rfl⟩
  refine k_Mo_readElement_14 ok (fun z => ?_) (fun z => ?_)
  · exact can
  refine k_Mo_readElement_17 ok rW_58 (mo_isKey ht _) (gF_h E.nR (by decide) (by decide)) (fun _ _ q => qM_len q) ?_
  rintro r M' ⟨m, ⟨b3, rfl, rfl⟩, rfl⟩
  refine k_Mo_readElement_23 ok (fun z => ?_) (fun z => ?_)
  · exact can
  refine k_Mo_readElement_26 ok rW_58 (mo_isSign ht _) (gF_h E.nR (by decide) (by decide)) (fun _ _ q => qM_len q) ?_
  rintro r M' ⟨m, ⟨b4, rfl, rfl, -⟩, rfl⟩
  refine k_Mo_readElement_32 ok (fun z => ?_) (fun z => ?_)
  · exact can
  refine k_Mo_readElement_35 ok rW_58 rF_Mo_15 (fun z => ?_) (fun z => ?_)
  · exact can
  refine k_Mo_readElement_43 ok rW_58 (mo_isTerm ht) (gF_h E.nR (by decide) (by decide)) (fun _ _ q => qM_len q) ?_
  rintro r M' ⟨m, ⟨b5, rfl, rfl⟩, rfl⟩
  refine k_Mo_readElement_47 ok (fun z => ?_) (fun z => ?_)
  · refine k_Mo_readElement_54 ok ?_
    refine k_Mo_readElement_55 ok E.nL (fun _ => bad) (fun z => absurd rfl z)
  · exact can
end RP7
