/-! THE REFERENCE'S PARSER: variables, sides, tests -/
section RP6
variable {l : Launch} {c : CS} {m : MS} {o : Nat → Int64}
/-- a side of a test: a term where it is no variable -/
def S1 (m : MS) (p : Nat) : Prop := m.sd p = -1 → ¬ m.te p = 0
def TT (m : MS) (t : Nat) : Prop := m.ts t = 98 ∨ (S1 m (60 + 2 * t) ∧ S1 m (60 + 2 * t + 1))
theorem St.sides {m m' : MS} (h : St m m') : m'.sd = m.sd ∧ m'.te = m.te ∧ m'.ts = m.ts := by
  have h2 : (m'.sd, m'.te, m'.ts) = (m.sd, m.te, m.ts) := h.2.2.2.2
  simp only [Prod.mk.injEq] at h2
  exact h2
/-- side i was read -/
def Sd (i : Nat) (m m' : MS) : Prop := Sw m m' ∧ m'.ts = m.ts ∧ ∀ p, p ≠ i → m'.sd p = m.sd p ∧ m'.te p = m.te p
theorem Sd.st {i : Nat} {m1 m2 m3 : MS} (h1 : Sd i m1 m2) (h2 : St m2 m3) : Sd i m1 m3 := by
  obtain ⟨e1, e2, e3⟩ := h2.sides
  exact ⟨h1.1.trans h2.w, e3.trans h1.2.1, fun p hp => by rw [e1, e2]; exact h1.2.2 p hp⟩
/-- test n was read -/
def Sx (n : Nat) (m m' : MS) : Prop := Sw m m' ∧ (∀ t, t ≠ n → m'.ts t = m.ts t) ∧ ∀ p, p ≠ 60 + 2 * n → p ≠ 60 + 2 * n + 1 → m'.sd p = m.sd p ∧ m'.te p = m.te p
theorem Sx.st {n : Nat} {m1 m2 m3 : MS} (h1 : Sx n m1 m2) (h2 : St m2 m3) : Sx n m1 m3 := by
  obtain ⟨e1, e2, e3⟩ := h2.sides
  exact ⟨h1.1.trans h2.w, fun t ht => by rw [e3]; exact h1.2.1 t ht, fun p hp hp2 => by rw [e1, e2]; exact h1.2.2 p hp hp2⟩
theorem Sx.sd {n i : Nat} {m1 m2 m3 : MS} (h1 : Sx n m1 m2) (h2 : Sd i m2 m3) (hi : i = 60 + 2 * n ∨ i = 60 + 2 * n + 1) : Sx n m1 m3 := by
  refine ⟨h1.1.trans h2.1, fun t ht => by rw [h2.2.1]; exact h1.2.1 t ht, fun p hp hp2 => ?_⟩
  have q := h2.2.2 p (by omega)
  rw [q.1, q.2]
  exact h1.2.2 p hp hp2
theorem Sx.ts {n : Nat} {m1 m2 : MS} (h1 : Sx n m1 m2) (x : Int32) : Sx n m1 (m2.u_ts (upd m2.ts n x)) :=
  ⟨h1.1, fun t ht => by show upd m2.ts n x t = _; unfold upd; rw [if_neg ht]; exact h1.2.1 t ht, h1.2.2⟩
theorem Sx.tt {n t : Nat} {m1 m2 : MS} (h : Sx n m1 m2) (ht : t ≠ n) (q : TT m1 t) : TT m2 t := by
  have e1 := h.2.1 t ht
  have e2 := h.2.2 (60 + 2 * t) (by omega) (by omega)
  have e3 := h.2.2 (60 + 2 * t + 1) (by omega) (by omega)
  unfold TT S1
  rw [e1, e2.1, e2.2, e3.1, e3.2]
  exact q
theorem sd_Sw {m0 m : MS} (h : Sw m0 m) (i : Nat) (x : Int32) (hx : okv x) : Sw m0 (m.u_sd (upd m.sd i x)) := by
  obtain ⟨⟨a1, a2, a3, a4, a5, a6, a7, a8, a9⟩, h2, h3, h4⟩ := h
  refine ⟨⟨a1, a2, a3, a4, a5, a6, a7, fun j => ?_, a9⟩, h2, h3, h4⟩
  show okv (upd m.sd i x j)
  unfold upd
  split
  · exact hx
  · exact a8 j
theorem okv_m1 : okv (-1) := Or.inl rfl
theorem okv_n {i : Nat} (h : i < 6) : okv (nI i) := Or.inr ⟨i, h, rfl⟩
theorem mo_readVariable (h : m.tI) : mm_ l y_Mo_readVariable w_Mo_readVariable (rmh 6) [.ref 58] (W9 c m o) (qM c o (fun r m' => ∃ x, r = some (.int x) ∧ okv x ∧ St m m' ∧ (m'.wr < 0 → ∃ v, v < 6 ∧ x = nI v))) := by
  obtain ⟨a1, a2, a3, a4, a5, a6, a7, -⟩ := id h
  refine mm_intro (by decide) (Nat.le_of_ble_eq_true rfl) i_Mo_readVariable (fun X ok E => ?_)
  have fin : ∀ m1 x, St m m1 → okv x → gg X (W9 c m1 o) 0 0 83 [(0, .ref 58), (1, .int x)] [] := by
    intro m1 x h1 hx
    have go : ∀ b : Bool, (b = true → ¬ x < 0) → gg X (W9 c m1 o) 0 0 101 [(0, .ref 58), (1, .int x)] [.int (bI b), .ref 58] := by
      intro b hb
      refine k_Mo_readVariable_101 ok rW_58 (mo_goOn h1.1 b) (gF_h E.nR (by decide) (by decide)) (fun _ _ q => qM_len q) ?_
      rintro r M' ⟨m2, ⟨b', rfl, q1, q2, q3⟩, rfl⟩
      refine k_Mo_readVariable_104 ok (fun z => have z := bI_0 z; ?_) (fun z => have z := bI_1 z; ?_)
      · refine k_Mo_readVariable_111 ok ?_
        refine k_Mo_readVariable_112 ok E ⟨_, ⟨_, rfl, okv_m1, h1.trans q1, fun z9 => absurd z9 (q3 z)⟩, rfl⟩ (Nat.le_refl _) (Nat.le_refl _)
      · refine k_Mo_readVariable_107 ok ?_
        refine k_Mo_readVariable_112 ok E ⟨_, ⟨_, rfl, hx, h1.trans q1, fun _ => ?_⟩, rfl⟩ (Nat.le_refl _) (Nat.le_refl _)
        rcases hx with rfl | hx
        · exact absurd (by decide) (hb (q2 z).1)
        · exact hx
    have no : gg X (W9 c m1 o) 0 0 100 [(0, .ref 58), (1, .int x)] [.ref 58] := by
      refine k_Mo_readVariable_100 ok ?_
      exact go false (fun z => nomatch z)
    refine k_Mo_readVariable_83 ok rW_58 rF_Mo_15 (fun z => ?_) (fun z => ?_)
    · exact no
    · refine k_Mo_readVariable_92 ok (fun z => ?_) (fun z => ?_)
      · exact no
      · refine k_Mo_readVariable_96 ok ?_
        exact go true (fun _ => by assumption)
  refine k_Mo_readVariable_0 ok E.nL ?_
  have loop : ∀ r i x, i + r = m.nn → okv x → gg X (W9 c m o) 0 0 4 [(0, .ref 58), (1, .int x), (2, .int (nI i))] [] := by
    intro r
    induction r with
    | zero =>
      intro i x hi hx
      refine k_Mo_readVariable_4 ok rW_58 rF_Mo_24 (fun z => have z := (nLe rfl rfl (by omega) (by omega) z); ?_) (fun z => have z := (nNle rfl rfl (by omega) (by omega) z); ?_)
      · refine k_Mo_readVariable_34 ok rW_58 rF_Mo_15 (fun z => ?_) (fun z => ?_)
        · exact fin m x (St.refl h) hx
        · refine k_Mo_readVariable_42 ok (fun z => ?_) (fun z => ?_)
          · exact fin m x (St.refl h) hx
          · refine k_Mo_readVariable_46 ok rW_58 rF_Mo_24 (fun z => have z := (nLe (nL 6) rfl (by omega) (by omega) z); ?_) (fun z => have z := (nNle (nL 6) rfl (by omega) (by omega) z); ?_)
            · exact fin m x (St.refl h) hx
            · refine k_Mo_readVariable_55 ok E.nL rW_58 rF_Mo_23 rF_Mo_24 rF_Mo_16 rW_65 (vin rfl (by omega) (by decide)) sA_65 (Nat.le_refl 59) (sF_Mo_24 (nA rfl (nL 1))) (sO_Mo_24 rfl) ?_
              obtain ⟨a1, a2, a3, a4, a5, a6, a7, a8, a9⟩ := h
              exact fin _ _ ⟨⟨a1, a2, a3, a4, a5, a6, by show m.nn + 1 ≤ 6; omega, a8, a9⟩, rfl, Nat.le_refl _, id, rfl⟩ (okv_n (by omega))
      · omega
    | succ r ih =>
      intro i x hi hx
      have nx : ∀ x, okv x → gg X (W9 c m o) 0 0 28 [(0, .ref 58), (1, .int x), (2, .int (nI i))] [] := by
        intro x hx
        refine k_Mo_readVariable_28 ok E.nL ?_
        rw [nI_1]
        exact ih (i + 1) x (by omega) hx
      refine k_Mo_readVariable_4 ok rW_58 rF_Mo_24 (fun z => have z := (nLe rfl rfl (by omega) (by omega) z); ?_) (fun z => have z := (nNle rfl rfl (by omega) (by omega) z); ?_)
      · omega
      refine k_Mo_readVariable_12 ok rW_58 rF_Mo_23 rW_65 (vin rfl (by omega) (by decide)) rF_Mo_16 (fun z => ?_) (fun z => ?_)
      · exact nx x hx
      · refine k_Mo_readVariable_26 ok E.nL ?_
        exact nx _ (okv_n (by omega))
  exact loop m.nn 0 _ (by omega) okv_m1
theorem tz_kd (h : m.tz = true) : m.kd = 2 ∨ m.kd = 1 := by
  unfold MS.tz at h
  rcases Bool.or_eq_true_iff.mp h with h | h
  · exact Or.inl (of_decide_eq_true h)
  · exact Or.inr (of_decide_eq_true (Bool.and_eq_true_iff.mp h).1)
theorem neg1 (x : Int64) (h : (-1) - x = 0) : x = -1 := by
  have e : x = (-1) - ((-1) - x) := by rw [Int64.sub_eq_add_neg (-1) ((-1) - x), Int64.neg_sub, Int64.add_comm, Int64.sub_add_cancel]
  rw [e, h]
  decide
theorem mo_readSide (h : m.tI) (i : Nat) (hi : i < 120) : mm_ l y_Mo_readSide w_Mo_readSide (rmh 7) [.ref 58, .int (nI i)] (W9 c m o) (qM c o (fun r m' => r = none ∧ Sd i m m' ∧ (m'.wr < 0 → S1 m' i))) := by
  refine mm_intro (by decide) (Nat.le_of_ble_eq_true rfl) i_Mo_readSide (fun X ok E => ?_)
  have ci : (nI i).toNatClampNeg = i := nC rfl (by omega)
  have h5 : m.kd ≤ 5 := h.2.2.2.2.1
  have h1 : Sd i m (m.u_sd (upd m.sd i (-1))) := ⟨sd_Sw (Sw.refl h) i _ okv_m1, rfl, fun p hp => ⟨if_neg hp, rfl⟩⟩
  refine k_Mo_readSide_0 ok rW_58 rF_Mo_33 rW_70 (vin rfl (by omega) (by decide)) sA_70 rF_Mo_15 (fun z => have z := (nNe rfl (nL 3) (by omega) (by omega) z); ?_) (fun z => have z := (nEq rfl (nL 3) (by omega) (by omega) z); ?_)
  · rw [ci]
    have go : ∀ v, (m.tz = true → ¬ v = 0) → gg X (W9 c (m.u_sd (upd m.sd i (-1))) o) 0 0 56 [(0, .ref 58)] [.long v, .int (nI i), .ref 71] := by
      intro v hv
      obtain ⟨g, hg⟩ : ∃ g, g = vp_updL m.te i v := ⟨_, rfl⟩
      have h2 : Sd i m ((m.u_sd (upd m.sd i (-1))).u_te g) := ⟨h1.1, rfl, fun p hp => ⟨if_neg hp, by show g p = _; rw [hg]; exact if_neg hp⟩⟩
      have h3 : (m.u_sd (upd m.sd i (-1))).u_te (vp_updL (m.u_sd (upd m.sd i (-1))).te (nI i).toNatClampNeg v) = (m.u_sd (upd m.sd i (-1))).u_te g := by rw [ci, hg]
      refine k_Mo_readSide_56 ok rW_71 (vin rfl (by omega) (by decide)) sA_71 rW_58 (by rw [h3]; exact mo_isTermF h2.1.1) (gF_h E.nR (by decide) (by decide)) (fun _ _ q => qM_len q) ?_
      rintro r M' ⟨m2, ⟨rfl, rfl⟩, rfl⟩
      refine k_Mo_readSide_62 ok rW_58 (mo_goOn h2.1.1 _) (gF_h E.nR (by decide) (by decide)) (fun _ _ q => qM_len q) ?_
      rintro r M' ⟨m2, ⟨b', rfl, q1, q2, q3⟩, rfl⟩
      obtain ⟨e1, e2, e3⟩ := q1.sides
      refine k_Mo_readSide_65 ok E.nL ?_
      refine k_Mo_readSide_66 ok E ⟨_, ⟨rfl, h2.st q1, fun zz _ => ?_⟩, rfl⟩ (Nat.le_refl _) (Nat.le_refl _)
      rw [e2]
      show ¬ g i = 0
      rw [hg, show vp_updL m.te i v i = v from if_pos rfl]
      refine hv ?_
      cases b' with
      | true => exact (q2 rfl).1
      | false => exact absurd zz (q3 rfl)
    have hk3 : ¬ m.kd = 3 := z
    have ek : (m.u_sd (upd m.sd i (-1))).kd = m.kd := rfl
    refine k_Mo_readSide_28 ok rW_58 rF_Mo_34 rF_Mo_15 (fun z => have z := (nNe rfl (nL 2) (by omega) (by omega) z); ?_) (fun z => have z := (nEq rfl (nL 2) (by omega) (by omega) z); ?_)
    · refine k_Mo_readSide_52 ok rW_58 rF_Mo_16 ?_
      refine go _ (fun q => ?_)
      rcases tz_kd q with q | q
      · exact absurd q z
      · exact h.2.2.2.2.2.2.2.2.2.1 q
    · refine k_Mo_readSide_41 ok rW_58 rF_Mo_16 ?_
      exact go _ (fun _ q => h.2.2.2.2.2.2.2.2.2.2 z (neg1 _ q))
  · rw [ci]
    refine k_Mo_readSide_15 ok rW_58 rF_Mo_33 (mo_readVariable h1.1.1) (gF_h E.nR (by decide) (by decide)) (fun _ _ q => qM_len q) ?_
    rintro r M' ⟨m2, ⟨x, rfl, q1, q2, q3⟩, rfl⟩
    have h2 := h1.st q2
    refine k_Mo_readSide_24 ok rW_70 (vin rfl (by omega) (by decide)) sA_70 ?_
    rw [ci]
    refine k_Mo_readSide_66 ok E ⟨_, ⟨rfl, ⟨sd_Sw h2.1 i x q1, h2.2.1, fun p hp => ⟨(if_neg hp : upd m2.sd i x p = _).trans (h2.2.2 p hp).1, (h2.2.2 p hp).2⟩⟩, fun zz e => ?_⟩, rfl⟩ (Nat.le_refl _) (Nat.le_refl _)
    exfalso
    obtain ⟨v, hv, rfl⟩ := q3 zz
    have e : upd m2.sd i (nI v) i = -1 := e
    rw [show upd m2.sd i (nI v) i = nI v from if_pos rfl] at e
    exact absurd (e ▸ nI_pos' (by omega) : (0 : Int32) ≤ -1) (by decide)
abbrev MS.d_em (m : MS) (x a : Int32) : MS := ((m.u_oo (upd m.oo m.no x)).u_ar (upd m.ar m.no a)).u_no (m.no + 1)
theorem mo_emit (h : m.no < 400) (x a : Int32) : mm_ l y_Mo_emit w_Mo_emit (rmh 1) [.ref 58, .int x, .int a] (W9 c m o) (qM c o (fun r m' => r = none ∧ m' = m.d_em x a)) := by
  refine mm_intro (by decide) (Nat.le_of_ble_eq_true rfl) i_Mo_emit (fun X ok E => ?_)
  have d0 : (nI m.no).toNatClampNeg = m.no := nC rfl (by omega)
  refine k_Mo_emit_0 ok rW_58 rF_Mo_30 rF_Mo_32 rW_68 (vin rfl (by omega) (by decide)) sA_68 rF_Mo_31 rW_69 (by decide) (vin rfl (by omega) (by decide)) sA_69 (Nat.le_refl 59) (sF_Mo_32 (nA rfl (nL 1))) (sO_Mo_32 rfl) E ⟨_, ⟨rfl, by rw [d0]⟩, rfl⟩ (Nat.le_refl _) (Nat.le_refl _)
theorem mo_readTest (h : m.tI) (ht : m.ne < 14) (hd : 1 ≤ m.dp) (hd4 : m.dp ≤ 4) : mm_ l y_Mo_readTest w_Mo_readTest (rmh 8) [.ref 58] (W9 c m o) (qM c o (fun r m' => r = none ∧ Sx m.ne (m.u_ne (m.ne + 1)) m' ∧ (m'.wr < 0 → TT m' m.ne))) := by
  refine mm_intro (by decide) (Nat.le_of_ble_eq_true rfl) i_Mo_readTest (fun X ok E => ?_)
  obtain ⟨t, ht9⟩ : ∃ t, m.ne = t := ⟨_, rfl⟩
  have ct : (nI m.ne).toNatClampNeg = m.ne := nC rfl (by omega)
  have h0 : ∀ g f, Sx m.ne (m.u_ne (m.ne + 1)) (((m.u_ne (m.ne + 1)).u_tg g).u_tn f) := fun g f => ⟨Sw.refl (m := m.u_ne (m.ne + 1)) h, fun _ _ => rfl, fun _ _ _ => ⟨rfl, rfl⟩⟩
  refine k_Mo_readTest_0 ok E.nL rW_58 rF_Mo_39 (Nat.le_refl 59) (sF_Mo_39 (nA rfl (nL 1))) (sO_Mo_39 rfl) rF_Mo_36 rF_Mo_29 rF_Mo_27 rW_67 (vin (nS rfl (nL 1) (by omega)) (by omega) (by decide)) rW_72 (vin rfl (by omega) (by decide)) sA_72 rF_Mo_38 rW_74 (by decide) (vin rfl (by omega) (by decide)) (sA_74 (upB _ _ false)) ?_
  have B : ∀ m1, Sx m.ne (m.u_ne (m.ne + 1)) m1 → gg X (W9 c m1 o) 0 0 138 [(0, .ref 58), (1, .int (nI m.ne))] [] := by
    intro m1 h1
    refine k_Mo_readTest_138 ok rW_58 (by rw [nA (nL 60) (nM (nL 2) rfl)]; exact mo_readSide h1.1.1 _ (by omega)) (gF_h E.nR (by decide) (by decide)) (fun _ _ q => qM_len q) ?_
    rintro r M' ⟨m2, ⟨rfl, q1, qS⟩, rfl⟩
    have h2 := h1.sd q1 (Or.inl rfl)
    refine k_Mo_readTest_148 ok rW_58 rF_Mo_20 (fun z => ?_) (fun z => ?_)
    · have s1 := qS z
      have h3 : ∀ y, Sx m.ne (m.u_ne (m.ne + 1)) (m2.u_ts (upd m2.ts m.ne y)) := fun y => h2.ts y
      have go : ∀ y (b : Bool), gg X (W9 c (m2.u_ts (upd m2.ts m.ne y)) o) 0 0 209 [(0, .ref 58), (1, .int (nI m.ne))] [.int (bI b), .ref 58] := by
        intro y b
        refine k_Mo_readTest_209 ok rW_58 (mo_goOn (h3 y).1.1 b) (gF_h E.nR (by decide) (by decide)) (fun _ _ q => qM_len q) ?_
        rintro r M' ⟨m3, ⟨b', rfl, w1, w2, w3⟩, rfl⟩
        have h4 := (h3 y).st w1
        obtain ⟨e1, e2, e3⟩ := w1.sides
        refine k_Mo_readTest_212 ok (fun z => have z := bI_1 z; ?_) (fun z => have z := bI_0 z; ?_)
        · refine k_Mo_readTest_216 ok rW_58 (by rw [nA (nA (nL 60) (nM (nL 2) rfl)) (nL 1)]; exact mo_readSide h4.1.1 _ (by omega)) (gF_h E.nR (by decide) (by decide)) (fun _ _ q => qM_len q) ?_
          rintro r M' ⟨m4, ⟨rfl, w4, w5⟩, rfl⟩
          refine k_Mo_readTest_228 ok E ⟨_, ⟨rfl, h4.sd w4 (Or.inr rfl), fun zz => Or.inr ⟨?_, w5 zz⟩⟩, rfl⟩ (Nat.le_refl _) (Nat.le_refl _)
          have w6 := w4.2.2 (60 + 2 * m.ne) (by omega)
          unfold S1
          rw [w6.1, w6.2, e1, e2]
          exact s1
        · refine k_Mo_readTest_215 ok E ⟨_, ⟨rfl, h4, fun zz => absurd zz (w3 z)⟩, rfl⟩ (Nat.le_refl _) (Nat.le_refl _)
      have yes : ∀ y, gg X (W9 c (m2.u_ts (upd m2.ts m.ne y)) o) 0 0 204 [(0, .ref 58), (1, .int (nI m.ne))] [.ref 58] := by
        intro y
        refine k_Mo_readTest_204 ok ?_
        exact go y true
      obtain ⟨y, hy⟩ : ∃ y, y = (m2.tk).toInt32 := ⟨_, rfl⟩
      have e9 : m2.u_ts (upd m2.ts (nI m.ne).toNatClampNeg (m2.tk).toInt32) = m2.u_ts (upd m2.ts m.ne y) := by rw [ct, hy]
      refine k_Mo_readTest_156 ok rW_58 rF_Mo_37 rF_Mo_16 rW_73 (vin rfl (by omega) (by decide)) sA_73 (by rw [e9]; exact mo_isSign (h3 y).1.1 _) (gF_h E.nR (by decide) (by decide)) (fun _ _ q => qM_len q) ?_
      rintro r M' ⟨m3, ⟨b, rfl, rfl, -⟩, rfl⟩
      refine k_Mo_readTest_174 ok (fun z => ?_) (fun z => ?_)
      · exact yes _
      refine k_Mo_readTest_177 ok rW_58 (mo_isSign (h3 _).1.1 _) (gF_h E.nR (by decide) (by decide)) (fun _ _ q => qM_len q) ?_
      rintro r M' ⟨m3, ⟨b, rfl, rfl, -⟩, rfl⟩
      refine k_Mo_readTest_183 ok (fun z => ?_) (fun z => ?_)
      · exact yes _
      refine k_Mo_readTest_186 ok rW_58 (mo_isSign (h3 _).1.1 _) (gF_h E.nR (by decide) (by decide)) (fun _ _ q => qM_len q) ?_
      rintro r M' ⟨m3, ⟨b, rfl, rfl, -⟩, rfl⟩
      refine k_Mo_readTest_192 ok (fun z => ?_) (fun z => ?_)
      · exact yes _
      refine k_Mo_readTest_195 ok rW_58 (mo_isSign (h3 _).1.1 _) (gF_h E.nR (by decide) (by decide)) (fun _ _ q => qM_len q) ?_
      rintro r M' ⟨m3, ⟨b, rfl, rfl, -⟩, rfl⟩
      refine k_Mo_readTest_201 ok (fun z => ?_) (fun z => ?_)
      · refine k_Mo_readTest_208 ok ?_
        exact go _ false
      · exact yes _
    · refine k_Mo_readTest_155 ok E ⟨_, ⟨rfl, h2, fun zz => absurd zz z⟩, rfl⟩ (Nat.le_refl _) (Nat.le_refl _)
  have A : ∀ m1, Sx m.ne (m.u_ne (m.ne + 1)) m1 → gg X (W9 c m1 o) 0 0 101 [(0, .ref 58), (1, .int (nI m.ne))] [] := by
    intro m1 h1
    refine k_Mo_readTest_101 ok rW_58 (mo_isKey h1.1.1 _) (gF_h E.nR (by decide) (by decide)) (fun _ _ q => qM_len q) ?_
    rintro r M' ⟨m1, ⟨b, rfl, rfl⟩, rfl⟩
    refine k_Mo_readTest_107 ok (fun z => ?_) (fun z => ?_)
    · exact B m1 h1
    · refine k_Mo_readTest_110 ok rW_58 (mo_next h1.1.1) (gF_h E.nR (by decide) (by decide)) (fun _ _ q => qM_len q) ?_
      rintro r M' ⟨m2, ⟨rfl, q1, -, -⟩, rfl⟩
      have h2 := h1.st q1
      have h3 : Sx m.ne (m.u_ne (m.ne + 1)) (m2.u_ts (upd m2.ts m.ne 98)) := h2.ts 98
      have e9 : m2.u_ts (upd m2.ts (nI m.ne).toNatClampNeg 98) = m2.u_ts (upd m2.ts m.ne 98) := by rw [ct]
      refine k_Mo_readTest_114 ok rW_58 rF_Mo_37 rW_73 (vin rfl (by omega) (by decide)) sA_73 rF_Mo_33 (by rw [e9]; exact mo_readVariable h3.1.1) (gF_h E.nR (by decide) (by decide)) (fun _ _ q => qM_len q) ?_
      rintro r M' ⟨m3, ⟨x, rfl, w1, w2, w3⟩, rfl⟩
      have h4 := h3.st w2
      obtain ⟨e1, e2, e3⟩ := w2.sides
      have e5 : (60 + 2 * nI m.ne).toNatClampNeg = 60 + 2 * m.ne := nC (nA (nL 60) (nM (nL 2) rfl)) (by omega)
      refine k_Mo_readTest_136 ok rW_70 (vin (nA (nL 60) (nM (nL 2) rfl)) (by omega) (by decide)) sA_70 E ⟨_, ⟨rfl, by rw [e5]; exact ⟨sd_Sw h4.1 _ _ w1, h4.2.1, fun p hp hp2 => ⟨(if_neg hp : upd m3.sd _ x p = _).trans (h4.2.2 p hp hp2).1, (h4.2.2 p hp hp2).2⟩⟩, fun _ => Or.inl (by show m3.ts m.ne = 98; rw [e3]; exact if_pos rfl)⟩, rfl⟩ (Nat.le_refl _) (Nat.le_refl _)
  have body : ∀ i m1, i ≤ 4 → Sx m.ne (m.u_ne (m.ne + 1)) m1 → (i < 4 → ∀ m3, Sx m.ne (m.u_ne (m.ne + 1)) m3 → gg X (W9 c m3 o) 0 0 41 [(0, .ref 58), (1, .int (nI m.ne)), (2, .int (nI (i + 1)))] []) → gg X (W9 c m1 o) 0 0 41 [(0, .ref 58), (1, .int (nI m.ne)), (2, .int (nI i))] [] := by
    intro i m1 hi h1 ih
    refine k_Mo_readTest_41 ok rW_58 (mo_isKey h1.1.1 _) (gF_h E.nR (by decide) (by decide)) (fun _ _ q => qM_len q) ?_
    rintro r M' ⟨m1, ⟨b, rfl, rfl⟩, rfl⟩
    refine k_Mo_readTest_47 ok (fun z => ?_) (fun z => ?_)
    · exact A m1 h1
    refine k_Mo_readTest_50 ok rW_58 rF_Mo_20 (fun z => ?_) (fun z => ?_)
    · exact A m1 h1
    have nt : ∀ b : Bool, gg X (W9 c m1 o) 0 0 76 [(0, .ref 58), (1, .int (nI m.ne)), (2, .int (nI i))] [.int (bI b), .int (nI m.ne), .ref 74] := by
      intro b
      have h2 : ∀ g, Sx m.ne (m.u_ne (m.ne + 1)) (m1.u_tn g) := fun g => h1
      have go : ∀ (b2 : Bool) g, (b2 = true → i < 4) → gg X (W9 c (m1.u_tn g) o) 0 0 88 [(0, .ref 58), (1, .int (nI m.ne)), (2, .int (nI i))] [.int (bI b2), .ref 58] := by
        intro b2 g hb2
        refine k_Mo_readTest_88 ok rW_58 (mo_goOn (h2 g).1.1 b2) (gF_h E.nR (by decide) (by decide)) (fun _ _ q => qM_len q) ?_
        rintro r M' ⟨m3, ⟨b', rfl, w1, w2, w3⟩, rfl⟩
        refine k_Mo_readTest_91 ok (fun z => have z := bI_1 z; ?_) (fun z => have z := bI_0 z; ?_)
        · refine k_Mo_readTest_95 ok E.nL ?_
          rw [nI_1]
          exact ih (hb2 (w2 z).1) m3 ((h2 g).st w1)
        · refine k_Mo_readTest_94 ok E ⟨_, ⟨rfl, (h2 g).st w1, fun zz => absurd zz (w3 z)⟩, rfl⟩ (Nat.le_refl _) (Nat.le_refl _)
      refine k_Mo_readTest_76 ok rW_74 (vin rfl (by omega) (by decide)) (sA_74 (upB _ _ _)) (fun z => have z := (nLe (nL 4) rfl (by omega) (by omega) z); ?_) (fun z => have z := (nNle (nL 4) rfl (by omega) (by omega) z); ?_)
      · refine k_Mo_readTest_87 ok ?_
        exact go false _ (fun z => nomatch z)
      · refine k_Mo_readTest_83 ok ?_
        exact go true _ (fun _ => by omega)
    refine k_Mo_readTest_57 ok rW_58 rF_Mo_38 rW_74 (vin rfl (by omega) (by decide)) (fun z => ?_) (fun z => ?_)
    · refine k_Mo_readTest_75 ok ?_
      exact nt false
    · refine k_Mo_readTest_71 ok ?_
      exact nt true
  have loop : ∀ r i m1, i + r = 4 → Sx m.ne (m.u_ne (m.ne + 1)) m1 → gg X (W9 c m1 o) 0 0 41 [(0, .ref 58), (1, .int (nI m.ne)), (2, .int (nI i))] [] := by
    intro r
    induction r with
    | zero => exact fun i m1 hi h1 => body i m1 (by omega) h1 (fun z => absurd z (by omega))
    | succ r ih => exact fun i m1 hi h1 => body i m1 (by omega) h1 (fun _ m3 h3 => ih (i + 1) m3 (by omega) h3)
  exact loop 4 0 _ rfl (h0 _ _)
end RP6
