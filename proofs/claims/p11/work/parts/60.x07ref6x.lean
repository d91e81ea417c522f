/-! THE REFERENCE'S PARSER, exactly: goOn, variables, sides, tests -/
/-- the reference reads where the class's view is -/
def Rg (T : Tn3) (P : Nat → Int32) (k : Nat) (m : MS) (s : Vw) : Prop := TK m.tx m.ln T P k ∧ s.1 ≤ k ∧ At m s.1 ∧ (s.2.2.1 = m.nn ∧ ∀ i, i < m.nn → s.2.1 i = hD (m.nm i) ∧ wl (m.nm i)) ∧ m.el = s.2.2.2.1 ∧ (m.wr < 0 ∧ m.wr = -1)
/-- and this is how far the class's reading came -/
def Rr (T : Tn3) (P : Nat → Int32) (k : Nat) (m : MS) (x : Bool × Vw) : Prop := (x.1 = true → Rg T P k m x.2) ∧ (x.1 = false → ¬ m.wr < 0 ∧ m.wr = P x.2.1)
def Bq (m m' : MS) : Prop := m'.bs = m.bs ∧ m'.ss = m.ss
section RX6
variable {l : Launch} {c : CS} {m : MS} {o : Nat → Int64} {T : Tn3} {P : Nat → Int32} {k : Nat} {s : Vw}
theorem Bq.refl : Bq m m := ⟨rfl, rfl⟩
theorem Bq.trans {m1 m2 m3 : MS} (h1 : Bq m1 m2) (h2 : Bq m2 m3) : Bq m1 m3 := ⟨h2.1.trans h1.1, h2.2.trans h1.2⟩
theorem Rg.tok (ht : m.tI) (R : Rg T P k m s) : Tok m T s P := R.2.2.1.tok ht.1 R.1 R.2.1
theorem NX.bq {m m' : MS} (h : NX m m') : Bq m m' := by
  obtain ⟨t, rfl, -⟩ := h
  exact ⟨rfl, rfl⟩
theorem Rg.nx {m' : MS} (R : Rg T P k m s) (q : NX m m') : Rg T P k m' (wSt T s) := by
  obtain ⟨r1, r2, r3, r4, r5, r6⟩ := R
  obtain ⟨a1, a2⟩ := r3.st r1 r2 q
  obtain ⟨t, rfl, -⟩ := q
  exact ⟨r1, a2, a1, r4, r5, r6⟩
theorem Rr_t {x : Bool × Vw} (e : x = (true, s)) (R : Rg T P k m s) : Rr T P k m x := by
  rw [e]
  exact ⟨fun _ => R, fun z => (nomatch z)⟩
theorem Rr_f {x : Bool × Vw} (e : x = (false, s)) (h1 : ¬ m.wr < 0) (h2 : m.wr = P s.1) : Rr T P k m x := by
  rw [e]
  exact ⟨fun z => (nomatch z), fun _ => ⟨h1, h2⟩⟩
theorem rx_next (h : m.tI) (R : Rg T P k m s) : mm_ l y_Mo_next w_Mo_next (rmh 4) [.ref 58] (W9 c m o) (qM c o (fun r m' => r = none ∧ St m m' ∧ Bq m m' ∧ m'.bh = m.en ∧ Rg T P k m' (wSt T s))) := by
  refine mm_imp (mo_next3 h) ?_
  rintro r M' ⟨m', ⟨q1, q2, q3, q4, q5⟩, e⟩
  exact ⟨m', ⟨q1, q2, q5.bq, q4, R.nx q5⟩, e⟩
theorem rx_stop (h : m.tI) (R : Rg T P k m s) : mm_ l y_Mo_stop w_Mo_stop (rmh 1) [.ref 58] (W9 c m o) (qM c o (fun r m' => r = none ∧ ¬ m'.wr < 0 ∧ m'.wr = P s.1 ∧ ∃ x, m' = m.u_wr x)) := by
  refine mm_imp (mo_stop3 h) ?_
  rintro r M' ⟨m', ⟨q1, q2, x, rfl, q3, q4⟩, e⟩
  exact ⟨_, ⟨q1, q2, by rw [(R.tok h).2.2.2.2.2.2.2]; exact q3 R.2.2.2.2.2.1, x, rfl⟩, e⟩
theorem rx_goOn (h : m.tI) (R : Rg T P k m s) (b : Bool) : mm_ l y_Mo_goOn w_Mo_goOn (rmh 5) [.ref 58, .int (bI b)] (W9 c m o) (qM c o (fun r m' => r = some (.int (bI b)) ∧ St m m' ∧ Bq m m' ∧ (b = true → m'.wr < 0 ∧ m'.bh = m.en ∧ Rg T P k m' (wSt T s)) ∧ (b = false → ¬ m'.wr < 0 ∧ m'.wr = P s.1))) := by
  have hw := R.2.2.2.2.2.1
  refine mm_imp (mo_goOn3 h b) ?_
  rintro r M' ⟨m', ⟨b', q1, q2, q3, q4⟩, e⟩
  cases b' with
  | true =>
    obtain ⟨rfl, w1, w2, w3, w4⟩ := q3 rfl
    exact ⟨m', ⟨q1, q2, w4.bq, fun _ => ⟨w1, w2, R.nx w4⟩, fun z => (nomatch z)⟩, e⟩
  | false =>
    obtain ⟨w1, x, rfl, w2, w3⟩ := q4 rfl
    obtain ⟨rfl, rfl⟩ := w2 hw
    exact ⟨_, ⟨q1, q2, ⟨rfl, rfl⟩, fun z => (nomatch z), fun _ => ⟨w1, by rw [(R.tok h).2.2.2.2.2.2.2]⟩⟩, e⟩
theorem qF_iff (q : Nat → Int64) (x : Int64) : ∀ r i, qF q x r i = true ↔ ∃ j, i ≤ j ∧ j < i + r ∧ q j = x
  | 0, i => ⟨fun z => (nomatch z), fun ⟨j, h1, h2, _⟩ => absurd h2 (by omega)⟩
  | r + 1, i => by
    unfold qF
    by_cases h : q i = x
    · rw [if_pos h]
      exact ⟨fun _ => ⟨i, Nat.le_refl _, by omega, h⟩, fun _ => rfl⟩
    · rw [if_neg h, qF_iff q x r (i + 1)]
      constructor
      · rintro ⟨j, h1, h2, h3⟩
        exact ⟨j, by omega, by omega, h3⟩
      · rintro ⟨j, h1, h2, h3⟩
        by_cases e : j = i
        · rw [e] at h3
          exact absurd h3 h
        · exact ⟨j, by omega, by omega, h3⟩
theorem rx_readVariable (h : m.tI) (R : Rg T P k m s) : mm_ l y_Mo_readVariable w_Mo_readVariable (rmh 6) [.ref 58] (W9 c m o) (qM c o (fun r m' => ∃ x, r = some (.int x) ∧ okv x ∧ St m m' ∧ Bq m m' ∧ (m'.wr < 0 → ∃ v, v < 6 ∧ x = nI v) ∧ Rr T P k m' (pVar T s))) := by
  obtain ⟨a1, a2, a3, a4, a5, a6, a7, -⟩ := id h
  obtain ⟨-, -, -, t4, -, -, t7, -⟩ := R.tok h
  obtain ⟨r1, r2, r3, ⟨r4, r4b⟩, r5, r6⟩ := id R
  refine mm_intro (by decide) (Nat.le_of_ble_eq_true rfl) i_Mo_readVariable (fun X ok E => ?_)
  have fin : ∀ m1 x s1, St m m1 → Bq m m1 → m1.kd = m.kd → Rg T P k m1 s1 → okv x → (m.kd = 3 → ¬ x < 0 → pVar T s = (true, wSt T s1)) → ((¬ m.kd = 3 ∨ x < 0) → pVar T s = (false, s1)) → gg X (W9 c m1 o) 0 0 83 [(0, .ref 58), (1, .int x)] [] := by
    intro m1 x s1 h1 hb1 hk1 R1 hx y1 y2
    have go : ∀ b : Bool, (b = true → ¬ x < 0) → (b = true → pVar T s = (true, wSt T s1)) → (b = false → pVar T s = (false, s1)) → gg X (W9 c m1 o) 0 0 101 [(0, .ref 58), (1, .int x)] [.int (bI b), .ref 58] := by
      intro b hb v1 v2
      refine k_Mo_readVariable_101 ok rW_58 (rx_goOn h1.1 R1 b) (gF_h E.nR (by decide) (by decide)) (fun _ _ q => qM_len q) ?_
      rintro r M' ⟨m2, ⟨rfl, q1, qb, q2, q3⟩, rfl⟩
      refine k_Mo_readVariable_104 ok (fun z => have z := bI_0 z; ?_) (fun z => have z := bI_1 z; ?_)
      · refine k_Mo_readVariable_111 ok ?_
        refine k_Mo_readVariable_112 ok E ⟨_, ⟨_, rfl, okv_m1, h1.trans q1, hb1.trans qb, fun z9 => absurd z9 (q3 z).1, Rr_f (v2 z) (q3 z).1 (q3 z).2⟩, rfl⟩ (Nat.le_refl _) (Nat.le_refl _)
      · refine k_Mo_readVariable_107 ok ?_
        refine k_Mo_readVariable_112 ok E ⟨_, ⟨_, rfl, hx, h1.trans q1, hb1.trans qb, fun _ => ?_, Rr_t (v1 z) (q2 z).2.2⟩, rfl⟩ (Nat.le_refl _) (Nat.le_refl _)
        rcases hx with rfl | hx
        · exact absurd (by decide) (hb z)
        · exact hx
    have no : (¬ m.kd = 3 ∨ x < 0) → gg X (W9 c m1 o) 0 0 100 [(0, .ref 58), (1, .int x)] [.ref 58] := by
      intro w
      refine k_Mo_readVariable_100 ok ?_
      exact go false (fun z => nomatch z) (fun z => nomatch z) (fun _ => y2 w)
    have k5 : m1.kd ≤ 5 := h1.1.2.2.2.2.1
    refine k_Mo_readVariable_83 ok rW_58 rF_Mo_15 (fun z => have z := (nNe rfl (nL 3) (by omega) (by omega) z); ?_) (fun z => have z := (nEq rfl (nL 3) (by omega) (by omega) z); ?_)
    · exact no (Or.inl (by rw [← hk1]; exact z))
    · have z3 : m.kd = 3 := by rw [← hk1]; exact z
      refine k_Mo_readVariable_92 ok (fun z => ?_) (fun z => ?_)
      · exact no (Or.inr z)
      · refine k_Mo_readVariable_96 ok ?_
        exact go true (fun _ => by assumption) (fun _ => y1 z3 (by assumption)) (fun z => nomatch z)
  -- whether the name is there
  have hyes : m.kd = 3 → (∃ j, j < m.nn ∧ m.nm j = m.tk) → pVar T s = (true, wSt T s) := by
    rintro e3 ⟨j, j1, j2⟩
    have e : qF s.2.1 (wVl T s) s.2.2.1 0 = true := (qF_iff _ _ _ _).mpr ⟨j, Nat.zero_le _, by omega, by rw [(r4b j j1).1, j2, (t7 e3).2]⟩
    unfold pVar
    rw [if_pos (t4.mp e3), if_pos e]
  have hno : m.kd = 3 → (∀ j, j < m.nn → ¬ m.nm j = m.tk) → qF s.2.1 (wVl T s) s.2.2.1 0 = false := by
    intro e3 w
    cases e : qF s.2.1 (wVl T s) s.2.2.1 0 with
    | false => rfl
    | true =>
      exfalso
      obtain ⟨j, -, j1, j2⟩ := (qF_iff _ _ _ _).mp e
      have j3 : j < m.nn := by omega
      obtain ⟨w1, w2⟩ := r4b j j3
      rw [w1, (t7 e3).2] at j2
      exact w j j3 (wl_inj w2 (t7 e3).1 j2)
  have hnk : ¬ m.kd = 3 → pVar T s = (false, s) := by
    intro q
    unfold pVar
    rw [if_neg (fun w => q (t4.mpr w))]
  refine k_Mo_readVariable_0 ok E.nL ?_
  have loop : ∀ r i x, i + r = m.nn → okv x → (x < 0 → ∀ j, j < i → ¬ m.nm j = m.tk) → (¬ x < 0 → ∃ j, j < m.nn ∧ m.nm j = m.tk) → gg X (W9 c m o) 0 0 4 [(0, .ref 58), (1, .int x), (2, .int (nI i))] [] := by
    intro r
    induction r with
    | zero =>
      intro i x hi hx w1 w2
      refine k_Mo_readVariable_4 ok rW_58 rF_Mo_24 (fun z => have z := (nLe rfl rfl (by omega) (by omega) z); ?_) (fun z => have z := (nNle rfl rfl (by omega) (by omega) z); ?_)
      · refine k_Mo_readVariable_34 ok rW_58 rF_Mo_15 (fun z => have z := (nNe rfl (nL 3) (by omega) (by omega) z); ?_) (fun z => have z := (nEq rfl (nL 3) (by omega) (by omega) z); ?_)
        · exact fin m x s (St.refl h) Bq.refl rfl R hx (fun e3 => absurd e3 z) (fun _ => hnk z)
        · have z3 : m.kd = 3 := z
          refine k_Mo_readVariable_42 ok (fun z => ?_) (fun z => ?_)
          · exact fin m x s (St.refl h) Bq.refl rfl R hx (fun e3 q => hyes e3 (w2 q)) (fun q => by rcases q with q | q; exact absurd z3 q; exact absurd q (Int32.not_lt.mpr z))
          · have zx : x < 0 := Int32.not_le.mp z
            have hq := hno z3 (fun j hj => w1 zx j (by omega))
            refine k_Mo_readVariable_46 ok rW_58 rF_Mo_24 (fun z => have z := (nLe (nL 6) rfl (by omega) (by omega) z); ?_) (fun z => have z := (nNle (nL 6) rfl (by omega) (by omega) z); ?_)
            · refine fin m x s (St.refl h) Bq.refl rfl R hx (fun _ q => absurd zx q) (fun _ => ?_)
              unfold pVar
              rw [if_pos (t4.mp z3), hq, if_neg (by decide), if_neg (by omega)]
            · refine k_Mo_readVariable_55 ok E.nL rW_58 rF_Mo_23 rF_Mo_24 rF_Mo_16 rW_65 (vin rfl (by omega) (by decide)) sA_65 (Nat.le_refl 59) (sF_Mo_24 (nA rfl (nL 1))) (sO_Mo_24 rfl) ?_
              have d0 : (nI m.nn).toNatClampNeg = m.nn := nC rfl (by omega)
              obtain ⟨b1, b2, b3, b4, b5, b6, b7, b8, b9⟩ := h
              refine fin _ _ (s.1, vp_updL s.2.1 s.2.2.1 (wVl T s), s.2.2.1 + 1, s.2.2.2) ⟨⟨b1, b2, b3, b4, b5, b6, by show m.nn + 1 ≤ 6; omega, b8, b9⟩, rfl, Nat.le_refl _, id, rfl⟩ ⟨rfl, rfl⟩ rfl ⟨r1, r2, r3, ⟨by show s.2.2.1 + 1 = m.nn + 1; rw [r4], ?_⟩, r5, r6⟩ (okv_n (by omega)) (fun _ _ => ?_) (fun q => ?_)
              · show ∀ i, i < m.nn + 1 → vp_updL s.2.1 s.2.2.1 (wVl T s) i = hD (vp_updL m.nm (nI m.nn).toNatClampNeg m.tk i) ∧ wl (vp_updL m.nm (nI m.nn).toNatClampNeg m.tk i)
                intro i hi9
                rw [d0, r4]
                unfold vp_updL
                by_cases e : i = m.nn
                · rw [if_pos e, if_pos e]
                  exact ⟨(t7 z3).2, (t7 z3).1⟩
                · rw [if_neg e, if_neg e]
                  exact r4b i (by omega)
              · unfold pVar
                rw [if_pos (t4.mp z3), hq, if_neg (by decide), if_pos (by omega)]
              · rcases q with q | q
                · exact absurd z3 q
                · exact absurd q (nI_pos (by omega))
      · omega
    | succ r ih =>
      intro i x hi hx w1 w2
      have ci : (nI i).toNatClampNeg = i := nC rfl (by omega)
      refine k_Mo_readVariable_4 ok rW_58 rF_Mo_24 (fun z => have z := (nLe rfl rfl (by omega) (by omega) z); ?_) (fun z => have z := (nNle rfl rfl (by omega) (by omega) z); ?_)
      · omega
      refine k_Mo_readVariable_12 ok rW_58 rF_Mo_23 rW_65 (vin rfl (by omega) (by decide)) rF_Mo_16 (fun z => ?_) (fun z => ?_)
      · rw [ci] at z
        refine k_Mo_readVariable_28 ok E.nL ?_
        rw [nI_1]
        refine ih (i + 1) x (by omega) hx (fun q j hj => ?_) w2
        by_cases e : j = i
        · rw [e]
          exact z
        · exact w1 q j (by omega)
      · rw [ci] at z
        refine k_Mo_readVariable_26 ok E.nL ?_
        refine k_Mo_readVariable_28 ok E.nL ?_
        rw [nI_1]
        exact ih (i + 1) _ (by omega) (okv_n (by omega)) (fun q => absurd q (nI_pos (by omega))) (fun _ => ⟨i, by omega, z⟩)
  exact loop m.nn 0 _ (by omega) okv_m1 (fun _ j hj => absurd hj (Nat.not_lt_zero j)) (fun q => absurd (by decide) q)
end RX6
section RX6b
variable {l : Launch} {c : CS} {m : MS} {o : Nat → Int64} {T : Tn3} {P : Nat → Int32} {k : Nat} {s : Vw}
theorem rx_readSide (h : m.tI) (R : Rg T P k m s) (i : Nat) (hi : i < 120) : mm_ l y_Mo_readSide w_Mo_readSide (rmh 7) [.ref 58, .int (nI i)] (W9 c m o) (qM c o (fun r m' => r = none ∧ Sd i m m' ∧ (m'.wr < 0 → S1 m' i) ∧ Bq m m' ∧ Rr T P k m' (pSide T s))) := by
  obtain ⟨-, -, t3, t4, -, -, -, -⟩ := R.tok h
  refine mm_intro (by decide) (Nat.le_of_ble_eq_true rfl) i_Mo_readSide (fun X ok E => ?_)
  have ci : (nI i).toNatClampNeg = i := nC rfl (by omega)
  have h5 : m.kd ≤ 5 := h.2.2.2.2.1
  have h1 : Sd i m (m.u_sd (upd m.sd i (-1))) := ⟨sd_Sw (Sw.refl h) i _ okv_m1, rfl, fun p hp => ⟨if_neg hp, rfl⟩⟩
  refine k_Mo_readSide_0 ok rW_58 rF_Mo_33 rW_70 (vin rfl (by omega) (by decide)) sA_70 rF_Mo_15 (fun z => have z := (nNe rfl (nL 3) (by omega) (by omega) z); ?_) (fun z => have z := (nEq rfl (nL 3) (by omega) (by omega) z); ?_)
  · rw [ci]
    have hk3 : ¬ m.kd = 3 := z
    have hps : pSide T s = (m.tz, bif m.tz then wSt T s else s) := by
      unfold pSide
      rw [t3]
      by_cases q : wKd T s = 4
      · rw [if_pos q, decide_eq_true q]
        rfl
      · rw [if_neg q, decide_eq_false q]
        unfold pVar
        rw [if_neg (fun w => hk3 (t4.mpr w))]
        rfl
    have go : ∀ v, (m.tz = true → ¬ v = 0) → gg X (W9 c (m.u_sd (upd m.sd i (-1))) o) 0 0 56 [(0, .ref 58)] [.long v, .int (nI i), .ref 71] := by
      intro v hv
      obtain ⟨g, hg⟩ : ∃ g, g = vp_updL m.te i v := ⟨_, rfl⟩
      have h2 : Sd i m ((m.u_sd (upd m.sd i (-1))).u_te g) := ⟨h1.1, rfl, fun p hp => ⟨if_neg hp, by show g p = _; rw [hg]; exact if_neg hp⟩⟩
      have R2 : Rg T P k ((m.u_sd (upd m.sd i (-1))).u_te g) s := R
      have h3 : (m.u_sd (upd m.sd i (-1))).u_te (vp_updL (m.u_sd (upd m.sd i (-1))).te (nI i).toNatClampNeg v) = (m.u_sd (upd m.sd i (-1))).u_te g := by rw [ci, hg]
      refine k_Mo_readSide_56 ok rW_71 (vin rfl (by omega) (by decide)) sA_71 rW_58 (by rw [h3]; exact mo_isTermF h2.1.1) (gF_h E.nR (by decide) (by decide)) (fun _ _ q => qM_len q) ?_
      rintro r M' ⟨m2, ⟨rfl, rfl⟩, rfl⟩
      refine k_Mo_readSide_62 ok rW_58 (rx_goOn h2.1.1 R2 _) (gF_h E.nR (by decide) (by decide)) (fun _ _ q => qM_len q) ?_
      rintro r M' ⟨m2, ⟨rfl, q1, qb, q2, q3⟩, rfl⟩
      obtain ⟨e1, e2, e3⟩ := q1.sides
      have ez : ((m.u_sd (upd m.sd i (-1))).u_te g).tz = m.tz := rfl
      rw [ez] at q2 q3
      refine k_Mo_readSide_65 ok E.nL ?_
      refine k_Mo_readSide_66 ok E ⟨_, ⟨rfl, h2.st q1, fun zz _ => ?_, qb, ?_⟩, rfl⟩ (Nat.le_refl _) (Nat.le_refl _)
      · rw [e2]
        show ¬ g i = 0
        rw [hg, show vp_updL m.te i v i = v from if_pos rfl]
        refine hv ?_
        cases hz : m.tz with
        | true => rfl
        | false => exact absurd zz (q3 hz).1
      · cases hz : m.tz with
        | true =>
          rw [hz] at hps
          exact Rr_t hps (q2 hz).2.2
        | false =>
          rw [hz] at hps
          exact Rr_f hps (q3 hz).1 (q3 hz).2
    have ek : (m.u_sd (upd m.sd i (-1))).kd = m.kd := rfl
    refine k_Mo_readSide_28 ok rW_58 rF_Mo_34 rF_Mo_15 (fun z => have z := (nNe rfl (nL 2) (by omega) (by omega) z); ?_) (fun z => have z := (nEq rfl (nL 2) (by omega) (by omega) z); ?_)
    · refine k_Mo_readSide_52 ok rW_58 rF_Mo_16 ?_
      refine go _ (fun q => ?_)
      rcases tz_kd q with q | q
      · exact absurd q z
      · exact h.2.2.2.2.2.2.2.2.2.1 q
    · refine k_Mo_readSide_41 ok rW_58 rF_Mo_16 ?_
      exact go _ (fun _ q => h.2.2.2.2.2.2.2.2.2.2 z (neg1 _ q))
  · rw [ci]
    have hk3 : m.kd = 3 := z
    have hps : pSide T s = pVar T s := by
      unfold pSide
      rw [if_neg]
      rw [t4.mp hk3]
      decide
    have R1 : Rg T P k (m.u_sd (upd m.sd i (-1))) s := R
    refine k_Mo_readSide_15 ok rW_58 rF_Mo_33 (rx_readVariable h1.1.1 R1) (gF_h E.nR (by decide) (by decide)) (fun _ _ q => qM_len q) ?_
    rintro r M' ⟨m2, ⟨x, rfl, q1, q2, qb, q3, q4⟩, rfl⟩
    have h2 := h1.st q2
    refine k_Mo_readSide_24 ok rW_70 (vin rfl (by omega) (by decide)) sA_70 ?_
    rw [ci]
    refine k_Mo_readSide_66 ok E ⟨_, ⟨rfl, ⟨sd_Sw h2.1 i x q1, h2.2.1, fun p hp => ⟨(if_neg hp : upd m2.sd i x p = _).trans (h2.2.2 p hp).1, (h2.2.2 p hp).2⟩⟩, fun zz e => ?_, by exact qb, by rw [hps]; exact q4⟩, rfl⟩ (Nat.le_refl _) (Nat.le_refl _)
    exfalso
    obtain ⟨v, hv, rfl⟩ := q3 zz
    have e : upd m2.sd i (nI v) i = -1 := e
    rw [show upd m2.sd i (nI v) i = nI v from if_pos rfl] at e
    exact absurd (e ▸ nI_pos' (by omega) : (0 : Int32) ≤ -1) (by decide)
theorem pSide_key (h : wKd T s = 2) : pSide T s = (false, s) := by
  unfold pSide pVar
  rw [if_neg (by rw [h]; decide), if_neg (by rw [h]; decide)]
theorem wK_kd {w : Int64} (h : wK T s w = true) : wKd T s = 2 ∧ wVl T s = w := by
  unfold wK at h
  have h2 := Bool.and_eq_true_iff.mp h
  exact ⟨of_decide_eq_true h2.1, of_decide_eq_true h2.2⟩
/-- a fifth 'not' -/
theorem pNots_5 (h : wK T s 7957706609935777792 = true) : (bif wK T s 7093017055116394496 then pVar T (wSt T s) else pCmp T s) = (false, s) := by
  obtain ⟨h1, h2⟩ := wK_kd h
  have e : wK T s 7093017055116394496 = false := by
    unfold wK
    rw [h2, decide_eq_true h1]
    rfl
  rw [e]
  show pCmp T s = (false, s)
  unfold pCmp
  rw [pSide_key h1]
  rfl
theorem rx_readTest (h : m.tI) (R : Rg T P k m s) (ht : m.ne < 14) (hd : 1 ≤ m.dp) (hd4 : m.dp ≤ 4) : mm_ l y_Mo_readTest w_Mo_readTest (rmh 8) [.ref 58] (W9 c m o) (qM c o (fun r m' => r = none ∧ Sx m.ne (m.u_ne (m.ne + 1)) m' ∧ (m'.wr < 0 → TT m' m.ne) ∧ Bq m m' ∧ Rr T P k m' (pTest T s))) := by
  refine mm_intro (by decide) (Nat.le_of_ble_eq_true rfl) i_Mo_readTest (fun X ok E => ?_)
  obtain ⟨t, ht9⟩ : ∃ t, m.ne = t := ⟨_, rfl⟩
  have ct : (nI m.ne).toNatClampNeg = m.ne := nC rfl (by omega)
  have h0 : ∀ g f, Sx m.ne (m.u_ne (m.ne + 1)) (((m.u_ne (m.ne + 1)).u_tg g).u_tn f) := fun g f => ⟨Sw.refl (m := m.u_ne (m.ne + 1)) h, fun _ _ => rfl, fun _ _ _ => ⟨rfl, rfl⟩⟩
  refine k_Mo_readTest_0 ok E.nL rW_58 rF_Mo_39 (Nat.le_refl 59) (sF_Mo_39 (nA rfl (nL 1))) (sO_Mo_39 rfl) rF_Mo_36 rF_Mo_29 rF_Mo_27 rW_67 (vin (nS rfl (nL 1) (by omega)) (by omega) (by decide)) rW_72 (vin rfl (by omega) (by decide)) sA_72 rF_Mo_38 rW_74 (by decide) (vin rfl (by omega) (by decide)) (sA_74 (upB _ _ false)) ?_
  have B : ∀ m1 s1, Sx m.ne (m.u_ne (m.ne + 1)) m1 → Bq m m1 → Rg T P k m1 s1 → pTest T s = pCmp T s1 → gg X (W9 c m1 o) 0 0 138 [(0, .ref 58), (1, .int (nI m.ne))] [] := by
    intro m1 s1 h1 b1 R1 he
    unfold pCmp at he
    refine k_Mo_readTest_138 ok rW_58 (by rw [nA (nL 60) (nM (nL 2) rfl)]; exact rx_readSide h1.1.1 R1 _ (by omega)) (gF_h E.nR (by decide) (by decide)) (fun _ _ q => qM_len q) ?_
    rintro r M' ⟨m2, ⟨rfl, q1, qS, qb, qR⟩, rfl⟩
    have h2 := h1.sd q1 (Or.inl rfl)
    cases hp1 : (pSide T s1).1 with
    | false =>
      rw [hp1] at he
      obtain ⟨w1, w2⟩ := qR.2 hp1
      refine k_Mo_readTest_148 ok rW_58 rF_Mo_20 (fun z9 => absurd z9 w1) (fun _ => ?_)
      refine k_Mo_readTest_155 ok E ⟨_, ⟨rfl, h2, fun zz => absurd zz w1, b1.trans qb, Rr_f he w1 w2⟩, rfl⟩ (Nat.le_refl _) (Nat.le_refl _)
    | true =>
      rw [hp1] at he
      have R2 := qR.1 hp1
      obtain ⟨-, t2, -⟩ := R2.tok h2.1.1
      have z : m2.wr < 0 := R2.2.2.2.2.2.1
      obtain ⟨s2, hs2⟩ : ∃ s2, s2 = (pSide T s1).2 := ⟨_, rfl⟩
      rw [← hs2] at he R2 t2
      have he : pTest T s = (bif wCm T s2 then pSide T (wSt T s2) else (false, s2)) := he
      refine k_Mo_readTest_148 ok rW_58 rF_Mo_20 (fun _ => ?_) (fun z9 => absurd z z9)
      have s1' := qS z
      have h3 : ∀ y, Sx m.ne (m.u_ne (m.ne + 1)) (m2.u_ts (upd m2.ts m.ne y)) := fun y => h2.ts y
      have R3 : ∀ y, Rg T P k (m2.u_ts (upd m2.ts m.ne y)) s2 := fun y => R2
      have go : ∀ y (b : Bool), wCm T s2 = b → gg X (W9 c (m2.u_ts (upd m2.ts m.ne y)) o) 0 0 209 [(0, .ref 58), (1, .int (nI m.ne))] [.int (bI b), .ref 58] := by
        intro y b hb
        rw [hb] at he
        refine k_Mo_readTest_209 ok rW_58 (rx_goOn (h3 y).1.1 (R3 y) b) (gF_h E.nR (by decide) (by decide)) (fun _ _ q => qM_len q) ?_
        rintro r M' ⟨m3, ⟨rfl, w1, wb, w2, w3⟩, rfl⟩
        have h4 := (h3 y).st w1
        obtain ⟨e1, e2, e3⟩ := w1.sides
        have wb2 : Bq m2 m3 := wb
        refine k_Mo_readTest_212 ok (fun z => have z := bI_1 z; ?_) (fun z => have z := bI_0 z; ?_)
        · rw [z] at he
          obtain ⟨-, -, R4⟩ := w2 z
          refine k_Mo_readTest_216 ok rW_58 (by rw [nA (nA (nL 60) (nM (nL 2) rfl)) (nL 1)]; exact rx_readSide h4.1.1 R4 _ (by omega)) (gF_h E.nR (by decide) (by decide)) (fun _ _ q => qM_len q) ?_
          rintro r M' ⟨m4, ⟨rfl, w4, w5, wb4, w6⟩, rfl⟩
          refine k_Mo_readTest_228 ok E ⟨_, ⟨rfl, h4.sd w4 (Or.inr rfl), fun zz => Or.inr ⟨?_, w5 zz⟩, ((b1.trans qb).trans wb2).trans wb4, by rw [he]; exact w6⟩, rfl⟩ (Nat.le_refl _) (Nat.le_refl _)
          have w6 := w4.2.2 (60 + 2 * m.ne) (by omega)
          unfold S1
          rw [w6.1, w6.2, e1, e2]
          exact s1'
        · rw [z] at he
          refine k_Mo_readTest_215 ok E ⟨_, ⟨rfl, h4, fun zz => absurd zz (w3 z).1, (b1.trans qb).trans wb2, Rr_f he (w3 z).1 (w3 z).2⟩, rfl⟩ (Nat.le_refl _) (Nat.le_refl _)
      have yes : ∀ y, wCm T s2 = true → gg X (W9 c (m2.u_ts (upd m2.ts m.ne y)) o) 0 0 204 [(0, .ref 58), (1, .int (nI m.ne))] [.ref 58] := by
        intro y hb
        refine k_Mo_readTest_204 ok ?_
        exact go y true hb
      obtain ⟨y, hy⟩ : ∃ y, y = (m2.tk).toInt32 := ⟨_, rfl⟩
      have e9 : m2.u_ts (upd m2.ts (nI m.ne).toNatClampNeg (m2.tk).toInt32) = m2.u_ts (upd m2.ts m.ne y) := by rw [ct, hy]
      have sgw : ∀ x, (m2.u_ts (upd m2.ts m.ne y)).sg x = wS T s2 x := t2
      refine k_Mo_readTest_156 ok rW_58 rF_Mo_37 rF_Mo_16 rW_73 (vin rfl (by omega) (by decide)) sA_73 (by rw [e9]; exact mo_isSignF (h3 y).1.1 _) (gF_h E.nR (by decide) (by decide)) (fun _ _ q => qM_len q) ?_
      rintro r M' ⟨m3, ⟨rfl, rfl⟩, rfl⟩
      rw [sgw]
      refine k_Mo_readTest_174 ok (fun z => have z := bI_1 z; ?_) (fun z => have z := bI_0 z; ?_)
      · refine yes _ ?_
        unfold wCm
        rw [z]
        rfl
      have n1 := z
      refine k_Mo_readTest_177 ok rW_58 (mo_isSignF (h3 _).1.1 _) (gF_h E.nR (by decide) (by decide)) (fun _ _ q => qM_len q) ?_
      rintro r M' ⟨m3, ⟨rfl, rfl⟩, rfl⟩
      rw [sgw]
      refine k_Mo_readTest_183 ok (fun z => have z := bI_1 z; ?_) (fun z => have z := bI_0 z; ?_)
      · refine yes _ ?_
        unfold wCm
        rw [z]
        cases wS T s2 61 <;> cases wS T s2 33 <;> cases wS T s2 62 <;> rfl
      have n2 := z
      refine k_Mo_readTest_186 ok rW_58 (mo_isSignF (h3 _).1.1 _) (gF_h E.nR (by decide) (by decide)) (fun _ _ q => qM_len q) ?_
      rintro r M' ⟨m3, ⟨rfl, rfl⟩, rfl⟩
      rw [sgw]
      refine k_Mo_readTest_192 ok (fun z => have z := bI_1 z; ?_) (fun z => have z := bI_0 z; ?_)
      · refine yes _ ?_
        unfold wCm
        rw [z]
        cases wS T s2 61 <;> cases wS T s2 33 <;> cases wS T s2 60 <;> rfl
      have n3 := z
      refine k_Mo_readTest_195 ok rW_58 (mo_isSignF (h3 _).1.1 _) (gF_h E.nR (by decide) (by decide)) (fun _ _ q => qM_len q) ?_
      rintro r M' ⟨m3, ⟨rfl, rfl⟩, rfl⟩
      rw [sgw]
      refine k_Mo_readTest_201 ok (fun z => have z := bI_0 z; ?_) (fun z => have z := bI_1 z; ?_)
      · have n4 := z
        refine k_Mo_readTest_208 ok ?_
        refine go _ false ?_
        unfold wCm
        rw [n1, n2, n3, n4]
        rfl
      · refine yes _ ?_
        unfold wCm
        rw [z]
        cases wS T s2 61 <;> cases wS T s2 60 <;> cases wS T s2 62 <;> rfl
  have A : ∀ m1 s1, Sx m.ne (m.u_ne (m.ne + 1)) m1 → Bq m m1 → Rg T P k m1 s1 → pTest T s = (bif wK T s1 7093017055116394496 then pVar T (wSt T s1) else pCmp T s1) → gg X (W9 c m1 o) 0 0 101 [(0, .ref 58), (1, .int (nI m.ne))] [] := by
    intro m1 s1 h1 b1 R1 he
    refine k_Mo_readTest_101 ok rW_58 (mo_isKeyF h1.1.1 _) (gF_h E.nR (by decide) (by decide)) (fun _ _ q => qM_len q) ?_
    rintro r M' ⟨m1, ⟨rfl, rfl⟩, rfl⟩
    rw [(R1.tok h1.1.1).1 _ _ kO10]
    refine k_Mo_readTest_107 ok (fun z => have z := bI_0 z; ?_) (fun z => have z := bI_1 z; ?_)
    · rw [z] at he
      exact B m1 s1 h1 b1 R1 he
    · rw [z] at he
      have he : pTest T s = pVar T (wSt T s1) := he
      refine k_Mo_readTest_110 ok rW_58 (rx_next h1.1.1 R1) (gF_h E.nR (by decide) (by decide)) (fun _ _ q => qM_len q) ?_
      rintro r M' ⟨m2, ⟨rfl, q1, qb, -, R2⟩, rfl⟩
      have h2 := h1.st q1
      have h3 : Sx m.ne (m.u_ne (m.ne + 1)) (m2.u_ts (upd m2.ts m.ne 98)) := h2.ts 98
      have R3 : Rg T P k (m2.u_ts (upd m2.ts m.ne 98)) (wSt T s1) := R2
      have e9 : m2.u_ts (upd m2.ts (nI m.ne).toNatClampNeg 98) = m2.u_ts (upd m2.ts m.ne 98) := by rw [ct]
      refine k_Mo_readTest_114 ok rW_58 rF_Mo_37 rW_73 (vin rfl (by omega) (by decide)) sA_73 rF_Mo_33 (by rw [e9]; exact rx_readVariable h3.1.1 R3) (gF_h E.nR (by decide) (by decide)) (fun _ _ q => qM_len q) ?_
      rintro r M' ⟨m3, ⟨x, rfl, w1, w2, wb, w3, w4⟩, rfl⟩
      have h4 := h3.st w2
      obtain ⟨e1, e2, e3⟩ := w2.sides
      have wb2 : Bq m2 m3 := wb
      have wb3 : Bq m m3 := (b1.trans qb).trans wb2
      have w5 : Rr T P k m3 (pTest T s) := by rw [he]; exact w4
      have e5 : (60 + 2 * nI m.ne).toNatClampNeg = 60 + 2 * m.ne := nC (nA (nL 60) (nM (nL 2) rfl)) (by omega)
      refine k_Mo_readTest_136 ok rW_70 (vin (nA (nL 60) (nM (nL 2) rfl)) (by omega) (by decide)) sA_70 E ⟨_, ⟨rfl, by rw [e5]; exact ⟨sd_Sw h4.1 _ _ w1, h4.2.1, fun p hp hp2 => ⟨(if_neg hp : upd m3.sd _ x p = _).trans (h4.2.2 p hp hp2).1, (h4.2.2 p hp hp2).2⟩⟩, fun _ => Or.inl (by show m3.ts m.ne = 98; rw [e3]; exact if_pos rfl), by exact wb3, by exact w5⟩, rfl⟩ (Nat.le_refl _) (Nat.le_refl _)
  have body : ∀ i rr m1 s1, i + rr = 4 → Sx m.ne (m.u_ne (m.ne + 1)) m1 → Bq m m1 → Rg T P k m1 s1 → pNots T 4 s = pNots T rr s1 → (∀ r2 m3 s3, r2 + 1 = rr → Sx m.ne (m.u_ne (m.ne + 1)) m3 → Bq m m3 → Rg T P k m3 s3 → pNots T 4 s = pNots T r2 s3 → gg X (W9 c m3 o) 0 0 41 [(0, .ref 58), (1, .int (nI m.ne)), (2, .int (nI (i + 1)))] []) → gg X (W9 c m1 o) 0 0 41 [(0, .ref 58), (1, .int (nI m.ne)), (2, .int (nI i))] [] := by
    intro i rr m1 s1 hi h1 b1 R1 he ih
    have hw1 : m1.wr < 0 := R1.2.2.2.2.2.1
    have he2 : pTest T s = (bif wK T (pNots T 4 s) 7093017055116394496 then pVar T (wSt T (pNots T 4 s)) else pCmp T (pNots T 4 s)) := rfl
    refine k_Mo_readTest_41 ok rW_58 (mo_isKeyF h1.1.1 _) (gF_h E.nR (by decide) (by decide)) (fun _ _ q => qM_len q) ?_
    rintro r M' ⟨m1, ⟨rfl, rfl⟩, rfl⟩
    rw [(R1.tok h1.1.1).1 _ _ kO9]
    refine k_Mo_readTest_47 ok (fun z => have z := bI_0 z; ?_) (fun z => have z := bI_1 z; ?_)
    · have e : pNots T rr s1 = s1 := by
        cases rr with
        | zero => rfl
        | succ rr =>
          show (bif wK T s1 7957706609935777792 then _ else s1) = s1
          rw [z]
          rfl
      rw [he, e] at he2
      exact A m1 s1 h1 b1 R1 he2
    have z9 := z
    refine k_Mo_readTest_50 ok rW_58 rF_Mo_20 (fun z => absurd hw1 (Int32.not_lt.mpr z)) (fun _ => ?_)
    have nt : ∀ b : Bool, gg X (W9 c m1 o) 0 0 76 [(0, .ref 58), (1, .int (nI m.ne)), (2, .int (nI i))] [.int (bI b), .int (nI m.ne), .ref 74] := by
      intro b
      have h2 : ∀ g, Sx m.ne (m.u_ne (m.ne + 1)) (m1.u_tn g) := fun g => h1
      have R2 : ∀ g, Rg T P k (m1.u_tn g) s1 := fun g => R1
      have go : ∀ (b2 : Bool) g, (b2 = true → i < 4) → (b2 = false → ¬ i < 4) → gg X (W9 c (m1.u_tn g) o) 0 0 88 [(0, .ref 58), (1, .int (nI m.ne)), (2, .int (nI i))] [.int (bI b2), .ref 58] := by
        intro b2 g hb2 hb3
        refine k_Mo_readTest_88 ok rW_58 (rx_goOn (h2 g).1.1 (R2 g) b2) (gF_h E.nR (by decide) (by decide)) (fun _ _ q => qM_len q) ?_
        rintro r M' ⟨m3, ⟨rfl, w1, wb, w2, w3⟩, rfl⟩
        have wb2 : Bq m1 m3 := wb
        refine k_Mo_readTest_91 ok (fun z => have z := bI_1 z; ?_) (fun z => have z := bI_0 z; ?_)
        · refine k_Mo_readTest_95 ok E.nL ?_
          rw [nI_1]
          obtain ⟨r2, hr2⟩ : ∃ r2, r2 + 1 = rr := ⟨rr - 1, by have := hb2 z; omega⟩
          refine ih r2 m3 (wSt T s1) hr2 ((h2 g).st w1) (b1.trans wb2) (w2 z).2.2 ?_
          rw [he, ← hr2]
          show (bif wK T s1 7957706609935777792 then _ else s1) = _
          rw [z9]
          rfl
        · have hr0 : rr = 0 := by
            have := hb3 z
            omega
          have e : pNots T 4 s = s1 := by
            rw [he, hr0]
            rfl
          rw [e, pNots_5 z9] at he2
          refine k_Mo_readTest_94 ok E ⟨_, ⟨rfl, (h2 g).st w1, fun zz => absurd zz (w3 z).1, b1.trans wb2, Rr_f he2 (w3 z).1 (w3 z).2⟩, rfl⟩ (Nat.le_refl _) (Nat.le_refl _)
      refine k_Mo_readTest_76 ok rW_74 (vin rfl (by omega) (by decide)) (sA_74 (upB _ _ _)) (fun z => have z := (nLe (nL 4) rfl (by omega) (by omega) z); ?_) (fun z => have z := (nNle (nL 4) rfl (by omega) (by omega) z); ?_)
      · refine k_Mo_readTest_87 ok ?_
        exact go false _ (fun z => nomatch z) (fun _ => by omega)
      · refine k_Mo_readTest_83 ok ?_
        exact go true _ (fun _ => by omega) (fun z => nomatch z)
    refine k_Mo_readTest_57 ok rW_58 rF_Mo_38 rW_74 (vin rfl (by omega) (by decide)) (fun z => ?_) (fun z => ?_)
    · refine k_Mo_readTest_75 ok ?_
      exact nt false
    · refine k_Mo_readTest_71 ok ?_
      exact nt true
  have loop : ∀ r i m1 s1, i + r = 4 → Sx m.ne (m.u_ne (m.ne + 1)) m1 → Bq m m1 → Rg T P k m1 s1 → pNots T 4 s = pNots T r s1 → gg X (W9 c m1 o) 0 0 41 [(0, .ref 58), (1, .int (nI m.ne)), (2, .int (nI i))] [] := by
    intro r
    induction r with
    | zero => exact fun i m1 s1 hi h1 b1 R1 he => body i 0 m1 s1 hi h1 b1 R1 he (fun r2 m3 s3 w => absurd w (by omega))
    | succ r ih => exact fun i m1 s1 hi h1 b1 R1 he => body i (r + 1) m1 s1 hi h1 b1 R1 he (fun r2 m3 s3 w h3 b3 R3 he3 => ih (i + 1) m3 s3 (by omega) h3 b3 R3 (by rw [he3, show r2 = r by omega]))
  exact loop 4 0 _ s rfl (h0 _ _) ⟨rfl, rfl⟩ (by exact R) rfl
end RX6b
