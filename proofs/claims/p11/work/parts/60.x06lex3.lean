/-! BOTH SIDES AT ONE TOKEN (no machine in it) -/
def wl (w : Int64) : Prop := 0 < w ∧ un w % 256 ≠ 0
theorem wl_inj {x y : Int64} (hx : wl x) (hy : wl y) (h : hD x = hD y) : x = y := by
  obtain ⟨j, a1, -⟩ := hD_up hx.1 hx.2
  obtain ⟨k, b1, -⟩ := hD_up hy.1 hy.2
  rw [h] at a1
  exact un_inj (pow_inj hx.2 hy.2 (a1.symm.trans b1))
theorem wl_tH {w : Int64} (h : wl w) : tH (hD w) = false := by
  obtain ⟨j, -, b⟩ := hD_up h.1 h.2
  unfold tH
  by_cases q : hD w ≤ 0
  · rw [if_pos q]
  · rw [if_neg q, if_pos]
    have q1 : 0 < hD w := Int64.not_le.mp q
    rw [Int64.lt_iff_toInt_lt] at q1 ⊢
    have e0 : (0 : Int64).toInt = 0 := by decide
    have e1 : (10000 : Int64).toInt = 10000 := by decide
    have e2 : (hD w).toInt = (hD w).toBitVec.toInt := rfl
    have l9 := (hD w).toBitVec.isLt
    unfold un at b
    rw [e2, BitVec.toInt_eq_toNat_cond] at q1 ⊢
    split at q1
    · next z => rw [if_pos z]; omega
    · omega
theorem lv_wl (tx : Nat → Int32) (p k : Nat) (h0 : 0 < k) (h : k ≤ 8) (hl : ∀ i, p ≤ i → i < p + k → tL (tx i) = true) : wl (lv tx p k) := by
  refine ⟨lv_pos tx p k h0 h hl, ?_⟩
  have := ((lv_un tx p k h hl).2 h0).2.1
  omega
/-- which word is which on the class's side -/
def kOK (x : Int32) (w : Int64) : Prop := wl (keyOf x) ∧ hD (keyOf x) = w ∧ kG w = true
theorem kO0 : kOK 0 8315171469725532160 := ⟨⟨by decide, by decide⟩, by decide, by decide⟩
theorem kO1 : kOK 1 7235441220169655156 := ⟨⟨by decide, by decide⟩, by decide, by decide⟩
theorem kO2 : kOK 2 8030591472422092800 := ⟨⟨by decide, by decide⟩, by decide, by decide⟩
theorem kO3 : kOK 3 7234315245479526400 := ⟨⟨by decide, by decide⟩, by decide, by decide⟩
theorem kO4 : kOK 4 7811895328335986688 := ⟨⟨by decide, by decide⟩, by decide, by decide⟩
theorem kO5 : kOK 5 7379548711597244416 := ⟨⟨by decide, by decide⟩, by decide, by decide⟩
theorem kO6 : kOK 6 8030046131791487340 := ⟨⟨by decide, by decide⟩, by decide, by decide⟩
theorem kO7 : kOK 7 7883954073408372736 := ⟨⟨by decide, by decide⟩, by decide, by decide⟩
theorem kO8 : kOK 8 8461816677183520768 := ⟨⟨by decide, by decide⟩, by decide, by decide⟩
theorem kO9 : kOK 9 7957706609935777792 := ⟨⟨by decide, by decide⟩, by decide, by decide⟩
theorem kO10 : kOK 10 7093017055116394496 := ⟨⟨by decide, by decide⟩, by decide, by decide⟩
theorem ky_d {m : MS} {x : Int32} {w : Int64} (h : kOK x w) (h1 : m.kd = 1) (h2 : wl m.tk) : m.ky x = decide (hD m.tk = w) := by
  unfold MS.ky
  rw [decide_eq_true h1, Bool.true_and]
  by_cases q : m.tk = keyOf x
  · rw [decide_eq_true q, decide_eq_true]
    rw [q, h.2.1]
  · rw [decide_eq_false q, decide_eq_false]
    exact fun e => q (wl_inj h2 h.1 (e.trans h.2.1.symm))
theorem ite_or (P : Prop) [Decidable P] (b : Bool) : (if P then true else b) = (decide P || b) := by
  by_cases h : P
  · rw [if_pos h, decide_eq_true h]
    rfl
  · rw [if_neg h, decide_eq_false h]
    rfl
theorem bif_or (a b : Bool) : (bif a then true else b) = (a || b) := by
  cases a <;> rfl
theorem aK_kG {m : MS} (h1 : m.kd = 1) (h2 : wl m.tk) : m.aK 11 0 false = kG (hD m.tk) := by
  have e0 : m.ky (nI 0) = _ := ky_d kO0 h1 h2
  have e1 : m.ky (nI 1) = _ := ky_d kO1 h1 h2
  have e2 : m.ky (nI 2) = _ := ky_d kO2 h1 h2
  have e3 : m.ky (nI 3) = _ := ky_d kO3 h1 h2
  have e4 : m.ky (nI 4) = _ := ky_d kO4 h1 h2
  have e5 : m.ky (nI 5) = _ := ky_d kO5 h1 h2
  have e6 : m.ky (nI 6) = _ := ky_d kO6 h1 h2
  have e7 : m.ky (nI 7) = _ := ky_d kO7 h1 h2
  have e8 : m.ky (nI 8) = _ := ky_d kO8 h1 h2
  have e9 : m.ky (nI 9) = _ := ky_d kO9 h1 h2
  have e10 : m.ky (nI 10) = _ := ky_d kO10 h1 h2
  show (bif m.ky (nI 10) then true else bif m.ky (nI 9) then true else bif m.ky (nI 8) then true else bif m.ky (nI 7) then true else bif m.ky (nI 6) then true else bif m.ky (nI 5) then true else bif m.ky (nI 4) then true else bif m.ky (nI 3) then true else bif m.ky (nI 2) then true else bif m.ky (nI 1) then true else bif m.ky (nI 0) then true else false) = _
  unfold kG
  rw [e0, e1, e2, e3, e4, e5, e6, e7, e8, e9, e10]
  simp only [ite_or, bif_or]
  ac_rfl
/-- the class's tokens of a text -/
def TK (tx : Nat → Int32) (ln : Nat) (T : Tn3) (P : Nat → Int32) (k : Nat) : Prop := T.2.2 = k + 1 ∧ k ≤ 160 ∧ (∀ j, j < k → (PE tx ln j).1 < ln ∧ T.1 j = cK tx ln (PE tx ln j).1 ∧ T.2.1 j = cV tx ln (PE tx ln j).1 ∧ P j = nI (PE tx ln j).1) ∧ (PE tx ln k).1 = ln ∧ T.1 k = 0 ∧ T.2.1 k = 0 ∧ P k = nI (PE tx ln k).2
theorem TA3.tk {tx : Nat → Int32} {ln k : Nat} {c : CS} (h : TA3 tx ln c k) : TK tx ln (tkn c.d_qcl) c.kp k := h
/-- the reference is at the j-th token -/
def At (m : MS) (j : Nat) : Prop := m.sa = (PE m.tx m.ln j).1 ∧ m.bh = (PE m.tx m.ln j).2 ∧ (if (PE m.tx m.ln j).1 < m.ln then m.en = te_ m.tx m.ln (PE m.tx m.ln j).1 ∧ m.kd = rK m.tx m.ln (PE m.tx m.ln j).1 ∧ (dG (m.tx (PE m.tx m.ln j).1) = false → m.tk = rV m.tx m.ln (PE m.tx m.ln j).1) else m.en = (PE m.tx m.ln j).2 ∧ m.kd = 0)
theorem PE_sk (tx : Nat → Int32) (ln : Nat) : ∀ j, (PE tx ln j).1 = sk_ tx ln (PE tx ln j).2
  | 0 => rfl
  | j + 1 => by
    unfold PE
    split
    · rfl
    · exact PE_sk tx ln j
theorem NX.at {m m' : MS} {x : Nat × Nat} (h : NX m m') (hx : x = (sk_ m.tx m.ln m.en, m.en)) : m'.sa = x.1 ∧ m'.bh = x.2 ∧ (if x.1 < m.ln then m'.en = te_ m.tx m.ln x.1 ∧ m'.kd = rK m.tx m.ln x.1 ∧ (dG (m.tx x.1) = false → m'.tk = rV m.tx m.ln x.1) else m'.en = x.2 ∧ m'.kd = 0) := by
  obtain ⟨t, rfl, ht⟩ := h
  subst hx
  refine ⟨rfl, rfl, ?_⟩
  by_cases q : sk_ m.tx m.ln m.en < m.ln
  · rw [if_pos q]
    refine ⟨if_pos q, if_pos q, fun hd => ht q hd⟩
  · rw [if_neg q]
    exact ⟨if_neg q, if_neg q⟩
theorem NX.fr {m m' : MS} (h : NX m m') : m'.tx = m.tx ∧ m'.ln = m.ln := by
  obtain ⟨t, rfl, -⟩ := h
  exact ⟨rfl, rfl⟩
theorem At.nx {m m' : MS} {j : Nat} (h : At m j) (q : NX m m') : At m' (j + 1) := by
  obtain ⟨h1, h2, h3⟩ := h
  obtain ⟨f1, f2⟩ := q.fr
  have e : PE m.tx m.ln (j + 1) = (sk_ m.tx m.ln m.en, m.en) := by
    have e0 : PE m.tx m.ln (j + 1) = if (PE m.tx m.ln j).1 < m.ln then (sk_ m.tx m.ln (te_ m.tx m.ln (PE m.tx m.ln j).1), te_ m.tx m.ln (PE m.tx m.ln j).1) else PE m.tx m.ln j := rfl
    rw [e0]
    by_cases z : (PE m.tx m.ln j).1 < m.ln
    · rw [if_pos z]
      rw [if_pos z] at h3
      rw [← h3.1]
    · rw [if_neg z]
      rw [if_neg z] at h3
      rw [h3.1, ← PE_sk]
  unfold At
  rw [f1, f2]
  exact q.at e
theorem At.first {m m' : MS} (h : m.en = 0) (q : NX m m') : At m' 0 := by
  obtain ⟨f1, f2⟩ := q.fr
  unfold At
  rw [f1, f2]
  refine q.at ?_
  rw [h]
  rfl
/-- the clipped step -/
theorem At.st {m m' : MS} {T : Tn3} {P : Nat → Int32} {k : Nat} {s : Vw} (hT : TK m.tx m.ln T P k) (hj : s.1 ≤ k) (h : At m s.1) (q : NX m m') : At m' (wSt T s).1 ∧ (wSt T s).1 ≤ k := by
  have h2 := h.nx q
  unfold wSt
  rw [hT.1]
  by_cases z : s.1 + 1 < k + 1
  · rw [if_pos z]
    exact ⟨h2, by show s.1 + 1 ≤ k; omega⟩
  · rw [if_neg z]
    refine ⟨?_, hj⟩
    have e : s.1 = k := by omega
    have e9 : PE m.tx m.ln (s.1 + 1) = PE m.tx m.ln s.1 := by
      show (if (PE m.tx m.ln s.1).1 < m.ln then _ else PE m.tx m.ln s.1) = _
      rw [if_neg]
      rw [e, hT.2.2.2.1]
      exact Nat.lt_irrefl _
    obtain ⟨f1, f2⟩ := q.fr
    show At m' s.1
    unfold At at h2 ⊢
    rw [f1, f2] at h2 ⊢
    rw [e9] at h2
    exact h2
theorem nv_n (tx : Nat → Int32) : ∀ r p n, n < 10000 → r ≤ 160 → (∀ e, lxD tx r p = e → n * 10 ^ (e - p) < 10000 ∧ (n + 1) * 10 ^ (e - p) ≤ 10000) → ∃ n', n' < 10000 ∧ nv_ tx r p (nI n) = nI n'
  | 0, p, n, h, _, _ => ⟨n, h, rfl⟩
  | r + 1, p, n, h, hr, h2 => by
    unfold nv_
    by_cases q : dG (tx p) = true
    · rw [if_pos q]
      have e : lxD tx (r + 1) p = lxD tx r (p + 1) := by
        show (if dG (tx p) = true then _ else _) = _
        rw [if_pos q]
      have h4 := h2 (lxD tx r (p + 1)) e
      obtain ⟨g1, g2⟩ := lxD_le tx r (p + 1)
      have e5 : lxD tx r (p + 1) - p = lxD tx r (p + 1) - (p + 1) + 1 := by omega
      rw [e5, Nat.pow_succ, Nat.mul_comm _ 10, ← Nat.mul_assoc, ← Nat.mul_assoc] at h4
      have hp : 0 < 10 ^ (lxD tx r (p + 1) - (p + 1)) := Nat.pow_pos (by decide)
      have h10 : (n + 1) * 10 ≤ 10000 := by
        have := Nat.le_mul_of_pos_right ((n + 1) * 10) hp
        omega
      obtain ⟨d, d1, d2, ed⟩ := rI_nat (a := 48) (b := 57) (by decide) (by decide) q
      have e6 : nI n * 10 + (tx p - 48) = nI (n * 10 + (d - 48)) := by
        rw [ed]
        exact nA (nM rfl (nL 10)) (nS rfl (nL 48) (by omega))
      rw [e6]
      refine nv_n tx r (p + 1) (n * 10 + (d - 48)) (by omega) (by omega) (fun e9 h9 => ?_)
      rw [← h9]
      have m1 : (n * 10 + (d - 48) + 1) * 10 ^ (lxD tx r (p + 1) - (p + 1)) ≤ (n + 1) * 10 * 10 ^ (lxD tx r (p + 1) - (p + 1)) := Nat.mul_le_mul_right _ (by omega)
      refine ⟨?_, by omega⟩
      have m2 : (n * 10 + (d - 48)) * 10 ^ (lxD tx r (p + 1) - (p + 1)) < (n * 10 + (d - 48) + 1) * 10 ^ (lxD tx r (p + 1) - (p + 1)) := Nat.mul_lt_mul_of_pos_right (Nat.lt_succ_self _) hp
      omega
    · rw [if_neg q]
      exact ⟨n, h, rfl⟩
theorem num_tH (tx : Nat → Int32) (r p : Nat) (hr : r ≤ 160) (h : lxD tx r p - p ≤ 4) : tH (nv_ tx r p 0 + 1).toInt64 = true := by
  obtain ⟨n, hn, e⟩ := nv_n tx r p 0 (by decide) hr (fun e9 h9 => by
    rw [← h9, Nat.zero_mul, Nat.zero_add, Nat.one_mul]
    exact ⟨by decide, Nat.pow_le_pow_right (n := 10) (by decide) h⟩)
  have e0 : nv_ tx r p 0 = nI n := e
  rw [e0, nI_1, nI_l (by omega)]
  unfold tH
  have e1 : (lN (n + 1)).toInt = ((n + 1 : Nat) : Int) := lN_toInt (by omega)
  have z1 : (0 : Int64).toInt = 0 := by decide
  have z2 : (10000 : Int64).toInt = 10000 := by decide
  rw [if_neg, if_neg]
  · rw [Int64.lt_iff_toInt_lt, e1, z2]
    omega
  · rw [Int64.le_iff_toInt_le, e1, z1]
    omega
/-- both sides at one token: all that the two parsers ask -/
def Tok (m : MS) (T : Tn3) (s : Vw) (P : Nat → Int32) : Prop := (∀ x w, kOK x w → m.ky x = wK T s w) ∧ (∀ x, m.sg x = wS T s x) ∧ m.tz = decide (wKd T s = 4) ∧ (m.kd = 3 ↔ wKd T s = 5) ∧ (m.kd = 2 ↔ (wKd T s = 4 ∧ tH (wVl T s) = true)) ∧ (m.kd = 0 ↔ wKd T s = 0) ∧ (m.kd = 3 → wl m.tk ∧ wVl T s = hD m.tk) ∧ P s.1 = nI m.pl
/-- a kind at which nothing can be read -/
theorem Tok_no {m : MS} {T : Tn3} {s : Vw} {P : Nat → Int32} (h5 : (m.kd = 5 ∧ wKd T s = 1) ∨ (m.kd = 0 ∧ wKd T s = 0)) (hp : P s.1 = nI m.pl) : Tok m T s P := by
  have key : ∀ (a : Nat) (b : Int32), ((a = 5 ∧ b = 1) ∨ (a = 0 ∧ b = 0)) → (¬ a = 1 ∧ ¬ a = 4 ∧ ¬ a = 2 ∧ ¬ a = 3) ∧ (¬ b = 2 ∧ ¬ b = 3 ∧ ¬ b = 4 ∧ ¬ b = 5) ∧ (a = 0 ↔ b = 0) := by
    rintro a b (⟨rfl, rfl⟩ | ⟨rfl, rfl⟩) <;> decide
  obtain ⟨⟨a1, a4, a2, a3⟩, ⟨b2, b3, b4, b5⟩, z⟩ := key _ _ h5
  refine ⟨fun x w _ => ?_, fun x => ?_, ?_, ⟨fun q => absurd q a3, fun q => absurd q b5⟩, ⟨fun q => absurd q a2, fun q => absurd q.1 b4⟩, z, fun q => absurd q a3, hp⟩
  · unfold MS.ky wK
    rw [decide_eq_false a1, decide_eq_false b2]
    rfl
  · unfold MS.sg wS
    rw [decide_eq_false a4, decide_eq_false b3]
    rfl
  · unfold MS.tz
    rw [decide_eq_false a1, decide_eq_false a2, decide_eq_false b4]
    rfl
theorem ky_n {m : MS} {x : Int32} (h : ¬ m.kd = 1) : m.ky x = false := by
  unfold MS.ky
  rw [decide_eq_false h]
  rfl
theorem sg_n {m : MS} {x : Int32} (h : ¬ m.kd = 4) : m.sg x = false := by
  unfold MS.sg
  rw [decide_eq_false h]
  rfl
theorem wK_n {T : Tn3} {s : Vw} {w : Int64} (h : ¬ wKd T s = 2) : wK T s w = false := by
  unfold wK
  rw [decide_eq_false h]
  rfl
theorem wS_n {T : Tn3} {s : Vw} {x : Int32} (h : ¬ wKd T s = 3) : wS T s x = false := by
  unfold wS
  rw [decide_eq_false h]
  rfl
theorem tz_n {m : MS} (h1 : ¬ m.kd = 1) (h2 : ¬ m.kd = 2) : m.tz = false := by
  unfold MS.tz
  rw [decide_eq_false h1, decide_eq_false h2]
  rfl
theorem At.tok {m : MS} {T : Tn3} {P : Nat → Int32} {k : Nat} {s : Vw} (hl : m.ln ≤ 160) (hT : TK m.tx m.ln T P k) (hj : s.1 ≤ k) (h : At m s.1) : Tok m T s P := by
  obtain ⟨h1, h2, h3⟩ := h
  obtain ⟨t1, t2, t3, t4, t5, t6, t7⟩ := hT
  by_cases hk : s.1 = k
  · have hp : (PE m.tx m.ln s.1).1 = m.ln := by rw [hk]; exact t4
    rw [hp, if_neg (Nat.lt_irrefl _)] at h3
    refine Tok_no (Or.inr ⟨h3.2, by show T.1 s.1 = 0; rw [hk]; exact t5⟩) ?_
    unfold MS.pl
    rw [if_pos h3.2, h2, hk]
    exact t7
  · obtain ⟨u1, u2, u3, u4⟩ := t3 s.1 (by omega)
    obtain ⟨p, hp⟩ : ∃ p, p = (PE m.tx m.ln s.1).1 := ⟨_, rfl⟩
    rw [← hp] at h1 h3 u1 u2 u3 u4
    rw [if_pos u1] at h3
    obtain ⟨h4, h5, h6⟩ := h3
    obtain ⟨te1, te2⟩ := te_le m.tx m.ln p u1
    have k1 : wKd T s = cK m.tx m.ln p := u2
    have k2 : wVl T s = cV m.tx m.ln p := u3
    have hpl : m.kd ≠ 0 → P s.1 = nI m.pl := by
      intro q
      unfold MS.pl
      rw [if_neg q, h1]
      exact u4
    by_cases a1 : tL (m.tx p) = true
    · have hdf : dG (m.tx p) = false := by
        cases e : dG (m.tx p) with
        | false => rfl
        | true => exact absurd e (dG_no a1)
      have ht := h6 hdf
      have hte : te_ m.tx m.ln p = lxL m.tx (m.ln - p) p := by
        unfold te_
        rw [if_pos a1]
      unfold rV at ht
      rw [if_pos a1] at ht
      unfold rK at h5
      rw [if_pos a1] at h5
      unfold cK at k1
      rw [if_pos a1] at k1
      unfold cV at k2
      rw [if_pos a1] at k2
      by_cases a2 : te_ m.tx m.ln p - p ≤ 8
      · rw [if_neg (by omega)] at h5
        rw [if_pos a2] at k1 k2
        have hall : ∀ i, p ≤ i → i < te_ m.tx m.ln p → tL (m.tx i) = true := fun i i1 i2 => lxL_at m.tx (m.ln - p) p i i1 (by rw [← hte]; exact i2)
        rw [pk_hD m.tx p (te_ m.tx m.ln p) te1 (by omega) hall] at k1 k2
        rw [show min 8 (te_ m.tx m.ln p - p) = te_ m.tx m.ln p - p by omega] at ht
        rw [← ht] at k1 k2
        have hw : wl m.tk := by
          rw [ht]
          exact lv_wl m.tx p _ (by omega) a2 (fun i i1 i2 => hall i i1 (by omega))
        have hkd : wKd T s = 2 ∨ wKd T s = 4 := by
          rw [k1]
          split
          · exact Or.inl rfl
          · exact Or.inr rfl
        have nb : ¬ wKd T s = 3 ∧ ¬ wKd T s = 5 ∧ ¬ wKd T s = 0 := by
          rcases hkd with e | e <;> rw [e] <;> decide
        refine ⟨fun x w hx => ?_, fun x => ?_, ?_, ⟨fun q => absurd (h5.symm.trans q) (by decide), fun q => absurd q nb.2.1⟩, ⟨fun q => absurd (h5.symm.trans q) (by decide), fun q => ?_⟩, ⟨fun q => absurd (h5.symm.trans q) (by decide), fun q => absurd q nb.2.2⟩, fun q => absurd (h5.symm.trans q) (by decide), hpl (by rw [h5]; decide)⟩
        · rw [ky_d hx h5 hw]
          unfold wK
          rw [k2]
          by_cases q : hD m.tk = w
          · rw [q] at k1
            rw [if_pos hx.2.2] at k1
            rw [decide_eq_true q, decide_eq_true k1]
            rfl
          · rw [decide_eq_false q, Bool.and_false]
        · rw [sg_n (m := m) (x := x) (by rw [h5]; decide), wS_n (T := T) (s := s) (x := x) nb.1]
        · unfold MS.tz
          rw [decide_eq_false (by rw [h5]; decide), decide_eq_true h5, aK_kG h5 hw, k1]
          cases kG (hD m.tk) <;> rfl
        · exfalso
          rw [k2, wl_tH hw] at q
          exact absurd q.2 (by decide)
      · rw [if_pos (by omega)] at h5
        rw [if_neg a2] at k1
        exact Tok_no (Or.inl ⟨h5, k1⟩) (hpl (by rw [h5]; decide))
    · by_cases a2 : dG (m.tx p) = true
      · have hte : te_ m.tx m.ln p = lxD m.tx (m.ln - p) p := by
          unfold te_
          rw [if_neg a1, if_pos a2]
        unfold rK at h5
        rw [if_neg a1, if_pos a2] at h5
        unfold cK at k1
        rw [if_neg a1, if_pos a2] at k1
        unfold cV at k2
        rw [if_neg a1, if_pos a2] at k2
        by_cases a3 : 4 < te_ m.tx m.ln p - p
        · rw [if_pos a3] at h5 k1
          exact Tok_no (Or.inl ⟨h5, k1⟩) (hpl (by rw [h5]; decide))
        · rw [if_neg a3] at h5 k1
          have hh : tH (wVl T s) = true := by
            rw [k2]
            exact num_tH m.tx (m.ln - p) p (by omega) (by rw [← hte]; omega)
          refine ⟨fun x w _ => ?_, fun x => ?_, ?_, ⟨fun q => absurd (h5.symm.trans q) (by decide), fun q => absurd (k1.symm.trans q) (by decide)⟩, ⟨fun _ => ⟨k1, hh⟩, fun _ => h5⟩, ⟨fun q => absurd (h5.symm.trans q) (by decide), fun q => absurd (k1.symm.trans q) (by decide)⟩, fun q => absurd (h5.symm.trans q) (by decide), hpl (by rw [h5]; decide)⟩
          · rw [ky_n (m := m) (x := x) (by rw [h5]; decide), wK_n (T := T) (s := s) (w := w) (by rw [k1]; decide)]
          · rw [sg_n (m := m) (x := x) (by rw [h5]; decide), wS_n (T := T) (s := s) (x := x) (by rw [k1]; decide)]
          · unfold MS.tz
            rw [decide_eq_true h5, decide_eq_true k1]
            rfl
      · have hdf : dG (m.tx p) = false := by
          cases e : dG (m.tx p) with
          | false => rfl
          | true => exact absurd e a2
        have ht := h6 hdf
        unfold rV at ht
        rw [if_neg a1] at ht
        unfold rK at h5
        rw [if_neg a1, if_neg a2] at h5
        unfold cK at k1
        rw [if_neg a1, if_neg a2] at k1
        unfold cV at k2
        rw [if_neg a1, if_neg a2] at k2
        by_cases a3 : m.tx p = 63
        · rw [if_pos a3] at ht h5 k1 k2
          have hte : te_ m.tx m.ln p = lxL m.tx (m.ln - (p + 1)) (p + 1) := by
            unfold te_
            rw [if_neg a1, if_neg a2, if_pos a3]
          by_cases a4 : te_ m.tx m.ln p - p - 1 < 1
          · rw [if_pos a4] at h5 k1
            exact Tok_no (Or.inl ⟨h5, k1⟩) (hpl (by rw [h5]; decide))
          · rw [if_neg a4] at h5 k1
            by_cases a5 : 8 < te_ m.tx m.ln p - p - 1
            · rw [if_pos a5] at h5 k1
              exact Tok_no (Or.inl ⟨h5, k1⟩) (hpl (by rw [h5]; decide))
            · rw [if_neg a5] at h5 k1
              have hall : ∀ i, p + 1 ≤ i → i < te_ m.tx m.ln p → tL (m.tx i) = true := fun i i1 i2 => lxL_at m.tx (m.ln - (p + 1)) (p + 1) i i1 (by rw [← hte]; exact i2)
              rw [pk_hD m.tx (p + 1) (te_ m.tx m.ln p) (by omega) (by omega) hall] at k2
              rw [show min 8 (te_ m.tx m.ln p - p - 1) = te_ m.tx m.ln p - (p + 1) by omega] at ht
              rw [← ht] at k2
              have hw : wl m.tk := by
                rw [ht]
                exact lv_wl m.tx (p + 1) _ (by omega) (by omega) (fun i i1 i2 => hall i i1 (by omega))
              refine ⟨fun x w _ => ?_, fun x => ?_, ?_, ⟨fun _ => k1, fun _ => h5⟩, ⟨fun q => absurd (h5.symm.trans q) (by decide), fun q => absurd (k1.symm.trans q.1) (by decide)⟩, ⟨fun q => absurd (h5.symm.trans q) (by decide), fun q => absurd (k1.symm.trans q) (by decide)⟩, fun _ => ⟨hw, k2⟩, hpl (by rw [h5]; decide)⟩
              · rw [ky_n (m := m) (x := x) (by rw [h5]; decide), wK_n (T := T) (s := s) (w := w) (by rw [k1]; decide)]
              · rw [sg_n (m := m) (x := x) (by rw [h5]; decide), wS_n (T := T) (s := s) (x := x) (by rw [k1]; decide)]
              · rw [tz_n (m := m) (by rw [h5]; decide) (by rw [h5]; decide), k1]
                rfl
        · rw [if_neg a3] at ht h5 k1 k2
          by_cases a4 : sG (m.tx p) = true
          · rw [if_pos a4] at h5 k1
            refine ⟨fun x w _ => ?_, fun x => ?_, ?_, ⟨fun q => absurd (h5.symm.trans q) (by decide), fun q => absurd (k1.symm.trans q) (by decide)⟩, ⟨fun q => absurd (h5.symm.trans q) (by decide), fun q => absurd (k1.symm.trans q.1) (by decide)⟩, ⟨fun q => absurd (h5.symm.trans q) (by decide), fun q => absurd (k1.symm.trans q) (by decide)⟩, fun q => absurd (h5.symm.trans q) (by decide), hpl (by rw [h5]; decide)⟩
            · rw [ky_n (m := m) (x := x) (by rw [h5]; decide), wK_n (T := T) (s := s) (w := w) (by rw [k1]; decide)]
            · unfold MS.sg wS
              rw [decide_eq_true h5, decide_eq_true k1, ht, k2]
            · rw [tz_n (m := m) (by rw [h5]; decide) (by rw [h5]; decide), k1]
              rfl
          · rw [if_neg a4] at h5 k1
            exact Tok_no (Or.inl ⟨h5, k1⟩) (hpl (by rw [h5]; decide))
