/-! THE REFERENCE'S PARSER: it stays within its arrays -/
section RP
variable {l : Launch} {c : CS} {m : MS} {o : Nat → Int64}
/-- a variable's number, or -1 -/
def okv (x : Int32) : Prop := x = -1 ∨ ∃ v, v < 6 ∧ x = nI v
def MS.tI (m : MS) : Prop := m.ln ≤ 160 ∧ m.en ≤ m.ln ∧ m.bh ≤ m.en ∧ m.sa ≤ m.ln ∧ m.kd ≤ 5 ∧ (m.kd = 4 → m.bh < m.en) ∧ m.nn ≤ 6 ∧ (∀ j, okv (m.sd j)) ∧ okv m.ob ∧ (m.kd = 1 → ¬ m.tk = 0) ∧ (m.kd = 2 → ¬ m.tk = -1)
abbrev MS.kp (m : MS) := (m.1.1, m.1.2.1, m.2, m.el, m.dp, m.gk, m.oo, m.ar, m.no, m.np, m.ne, m.wa, m.nw, m.hs)
/-- a piece of reading: what it leaves as it was -/
def Sw (m m' : MS) : Prop := m'.tI ∧ m'.kp = m.kp ∧ m.bh ≤ m'.bh ∧ (m'.wr < 0 → m.wr < 0)
abbrev MS.kq (m : MS) := (m.sd, m.te, m.ts)
/-- and the sides of patterns and tests too -/
def St (m m' : MS) : Prop := m'.tI ∧ m'.kp = m.kp ∧ m.bh ≤ m'.bh ∧ (m'.wr < 0 → m.wr < 0) ∧ m'.kq = m.kq
theorem St.w {m m' : MS} (h : St m m') : Sw m m' := ⟨h.1, h.2.1, h.2.2.1, h.2.2.2.1⟩
theorem Sw.refl {m : MS} (h : m.tI) : Sw m m := ⟨h, rfl, Nat.le_refl _, id⟩
theorem Sw.trans {m1 m2 m3 : MS} (h1 : Sw m1 m2) (h2 : Sw m2 m3) : Sw m1 m3 := ⟨h2.1, h2.2.1.trans h1.2.1, Nat.le_trans h1.2.2.1 h2.2.2.1, fun z => h1.2.2.2 (h2.2.2.2 z)⟩
theorem St.refl (h : m.tI) : St m m := ⟨h, rfl, Nat.le_refl _, id, rfl⟩
theorem St.trans {m1 m2 m3 : MS} (h1 : St m1 m2) (h2 : St m2 m3) : St m1 m3 := ⟨h2.1, h2.2.1.trans h1.2.1, Nat.le_trans h1.2.2.1 h2.2.2.1, fun z => h1.2.2.2.1 (h2.2.2.2.1 z), h2.2.2.2.2.trans h1.2.2.2.2⟩
theorem mo_isLetter (x : Int32) : mm_ l y_Mo_isLetter w_Mo_isLetter (rmh 2) [.int x] (W9 c m o) (qM c o (fun r m' => r = some (.int (bI (rI x 97 122))) ∧ m' = m)) := by
  refine mm_intro (by decide) (Nat.le_of_ble_eq_true rfl) i_Mo_isLetter (fun X ok E => ?_)
  refine k_Mo_isLetter_0 ok (mo_in _ _ _) (gF_h E.nR (by decide) (by decide)) (fun _ _ q => qM_len q) ?_
  rintro r M' ⟨m, ⟨rfl, rfl⟩, rfl⟩
  refine k_Mo_isLetter_8 ok E (bI_nar _) ⟨_, ⟨rfl, rfl⟩, rfl⟩ (Nat.le_refl _) (Nat.le_refl _)
theorem mo_isFigure (x : Int32) : mm_ l y_Mo_isFigure w_Mo_isFigure (rmh 2) [.int x] (W9 c m o) (qM c o (fun r m' => r = some (.int (bI (rI x 48 57))) ∧ m' = m)) := by
  refine mm_intro (by decide) (Nat.le_of_ble_eq_true rfl) i_Mo_isFigure (fun X ok E => ?_)
  refine k_Mo_isFigure_0 ok (mo_in _ _ _) (gF_h E.nR (by decide) (by decide)) (fun _ _ q => qM_len q) ?_
  rintro r M' ⟨m, ⟨rfl, rfl⟩, rfl⟩
  refine k_Mo_isFigure_8 ok E (bI_nar _) ⟨_, ⟨rfl, rfl⟩, rfl⟩ (Nat.le_refl _) (Nat.le_refl _)
theorem or_letter (a : Int64) (x : Int32) (h : rI x 97 122 = true) : ¬ (a ||| x.toInt64) = 0 := by
  obtain ⟨d, h1, h2, rfl⟩ := rI_nat (a := 97) (b := 122) (by decide) (by decide) h
  intro q
  have q2 := congrArg Int64.toBitVec q
  have q3 : a.toBitVec ||| (nI d).toInt64.toBitVec = 0#64 := q2
  rw [nI_l (by omega)] at q3
  have q4 : (lN d).toBitVec = 0#64 := by
    apply BitVec.eq_of_getLsbD_eq
    intro i hi
    have := congrArg (fun b : BitVec 64 => b.getLsbD i) q3
    simp only [BitVec.getLsbD_or, BitVec.getLsbD_zero, Bool.or_eq_false_iff] at this
    rw [this.2, BitVec.getLsbD_zero]
  have q5 : lN d = lN 0 := Int64.toBitVec.inj q4
  have := (lN_eq (by omega) (by decide)).mp q5
  omega
theorem mo_letters (fr : Nat) (hl : m.ln ≤ 160) (hf : fr ≤ m.ln) : mm_ l y_Mo_letters w_Mo_letters (rmh 3) [.ref 58, .int (nI fr)] (W9 c m o) (qM c o (fun r m' => ∃ e t, r = some (.int (nI e)) ∧ m' = m.u_tk t ∧ fr ≤ e ∧ e ≤ m.ln ∧ (fr < e → ¬ t = 0) ∧ (fr < m.ln → rI (m.tx fr) 97 122 = true → fr < e))) := by
  refine mm_intro (by decide) (Nat.le_of_ble_eq_true rfl) i_Mo_letters (fun X ok E => ?_)
  refine k_Mo_letters_0 ok E.nL rW_58 (Nat.le_refl 59) sF_Mo_16 (sO_Mo_16 rfl) ?_
  have loop : ∀ r i t, i + r = m.ln → fr ≤ i → (fr < i → ¬ t = 0) → gg X (W9 c (m.u_tk t) o) 0 0 7 [(0, .ref 58), (1, .int (nI fr)), (2, .int (nI i))] [] := by
    intro r
    induction r with
    | zero =>
      intro i t h1 h2 h3
      have e1 : (m.u_tk t).ln = m.ln := rfl
      refine k_Mo_letters_7 ok rW_58 rF_Mo_13 (fun z => have z := (nLe rfl rfl (by omega) (by omega) z); ?_) (fun z => have z := (nNle rfl rfl (by omega) (by omega) z); ?_)
      · refine k_Mo_letters_60 ok E ⟨_, ⟨i, t, rfl, rfl, h2, by omega, h3, fun _ _ => by omega⟩, rfl⟩ (Nat.le_refl _) (Nat.le_refl _)
      · omega
    | succ r ih =>
      intro i t h1 h2 h3
      have e1 : (m.u_tk t).ln = m.ln := rfl
      have ci : (nI i).toNatClampNeg = i := nC rfl (by omega)
      refine k_Mo_letters_7 ok rW_58 rF_Mo_13 (fun z => have z := (nLe rfl rfl (by omega) (by omega) z); ?_) (fun z => have z := (nNle rfl rfl (by omega) (by omega) z); ?_)
      · omega
      refine k_Mo_letters_15 ok rW_58 rF_Mo_12 rW_64 (vin rfl (by omega) (by decide)) (mo_isLetter _) (gF_h E.nR (by decide) (by decide)) (fun _ _ q => qM_len q) ?_
      rintro r M' ⟨m2, ⟨rfl, rfl⟩, rfl⟩
      have go : ∀ t, ¬ t = 0 → gg X (W9 c (m.u_tk t) o) 0 0 54 [(0, .ref 58), (1, .int (nI fr)), (2, .int (nI i))] [] := by
        intro t ht
        refine k_Mo_letters_54 ok E.nL ?_
        rw [nI_1]
        exact ih (i + 1) t (by omega) (by omega) (fun _ => ht)
      refine k_Mo_letters_24 ok (fun z => have z := bI_0 z; ?_) (fun z => have z := bI_1 z; ?_)
      · rw [ci] at z
        refine k_Mo_letters_60 ok E ⟨_, ⟨i, t, rfl, rfl, h2, by omega, h3, fun _ q => ?_⟩, rfl⟩ (Nat.le_refl _) (Nat.le_refl _)
        by_cases e : fr = i
        · rw [e] at q
          have z : rI (m.tx i) 97 122 = false := z
          rw [z] at q
          cases q
        · omega
      · rw [ci] at z
        have hz : rI (m.tx i) 97 122 = true := z
        refine k_Mo_letters_27 ok (fun z => have z := (nLe (nL 8) (nS rfl rfl (by omega)) (by omega) (by omega) z); ?_) (fun z => have z := (nNle (nL 8) (nS rfl rfl (by omega)) (by omega) (by omega) z); ?_)
        · exact go _ (h3 (by omega))
        · refine k_Mo_letters_35 ok rW_58 rF_Mo_16 rF_Mo_12 rW_64 (vin rfl (by omega) (by decide)) (Nat.le_refl 59) sF_Mo_16 (sO_Mo_16 rfl) ?_
          refine go _ ?_
          rw [ci]
          exact or_letter _ _ hz
  exact loop (m.ln - fr) fr 0 (by omega) (Nat.le_refl _) (fun z => absurd z (Nat.lt_irrefl _))
abbrev MS.d_nx (m : MS) (s k e : Nat) (t : Int64) : MS := ((((m.u_bh m.en).u_sa s).u_kd k).u_en e).u_tk t
theorem nx_mk (h : m.tI) (s k e : Nat) (t : Int64) (h1 : m.en ≤ e) (h2 : e ≤ m.ln) (h3 : s ≤ m.ln) (h4 : k ≤ 5) (h5 : k = 4 → m.en < e) (h6 : (k = 1 → ¬ t = 0) ∧ (k = 2 → ¬ t = -1)) : St m (m.d_nx s k e t) ∧ (m.d_nx s k e t).wr = m.wr ∧ (m.d_nx s k e t).bh = m.en := by
  obtain ⟨a1, a2, a3, a4, a5, a6, a7, a8, a9⟩ := h
  exact ⟨⟨⟨a1, h2, h1, h3, h4, h5, a7, a8, a9.1, h6⟩, rfl, a3, id, rfl⟩, rfl, rfl⟩
abbrev MS.d_b0 (m : MS) : MS := ((m.u_bh 0).u_sa 0).u_kd 0
theorem nx_mkG (h : m.d_b0.tI) (s k e : Nat) (t : Int64) (h1 : m.en ≤ e) (h2 : e ≤ m.ln) (h3 : s ≤ m.ln) (h4 : k ≤ 5) (h5 : k = 4 → m.en < e) (h6 : (k = 1 → ¬ t = 0) ∧ (k = 2 → ¬ t = -1)) : St m.d_b0 (m.d_nx s k e t) ∧ (m.d_nx s k e t).wr = m.wr ∧ (m.d_nx s k e t).bh = m.en := nx_mk (m := m.d_b0) h s k e t h1 h2 h3 h4 h5 h6
theorem mo_nextG (h : m.d_b0.tI) : mm_ l y_Mo_next w_Mo_next (rmh 4) [.ref 58] (W9 c m o) (qM c o (fun r m' => r = none ∧ St m.d_b0 m' ∧ m'.wr = m.wr ∧ m'.bh = m.en)) := by
  have a1 : m.ln ≤ 160 := h.1
  have a2 : m.en ≤ m.ln := h.2.1
  refine mm_intro (by decide) (Nat.le_of_ble_eq_true rfl) i_Mo_next (fun X ok E => ?_)
  have tail : ∀ i, m.en ≤ i → i ≤ m.ln → gg X (W9 c (m.u_bh m.en) o) 0 0 38 [(0, .ref 58), (1, .int (nI i))] [] := by
    intro i h1 h2
    have e1 : (((m.u_bh m.en).u_sa i).u_kd 0).ln = m.ln := rfl
    have e0 : (m.u_bh m.en).ln = m.ln := rfl
    have c1 : (nI i).toNatClampNeg = i := nC rfl (by omega)
    refine k_Mo_next_38 ok rW_58 (Nat.le_refl 59) (sF_Mo_17 rfl) (sO_Mo_17 rfl) (sF_Mo_15 (v := 0) (by decide)) (sO_Mo_15 rfl) rF_Mo_13 (fun z => have z := (nNe rfl rfl (by omega) (by omega) z); ?_) (fun z => have z := (nEq rfl rfl (by omega) (by omega) z); ?_)
    · skip
      refine k_Mo_next_57 ok E.nL rW_58 rF_Mo_12 rW_64 (vin rfl (by omega) (by decide)) (Nat.le_refl 59) (sF_Mo_18 (nA rfl (nL 1))) (sO_Mo_18 rfl) (mo_isLetter _) (gF_h E.nR (by decide) (by decide)) (fun _ _ q => qM_len q) ?_
      rintro r M' ⟨m2, ⟨rfl, rfl⟩, rfl⟩
      rw [c1]
      have e2 : ((((m.u_bh m.en).u_sa i).u_kd 0).u_en (i + 1)).ln = m.ln := rfl
      refine k_Mo_next_75 ok (fun z => have z := bI_0 z; ?_) (fun z => have z := bI_1 z; ?_)
      · refine k_Mo_next_110 ok (mo_isFigure _) (gF_h E.nR (by decide) (by decide)) (fun _ _ q => qM_len q) ?_
        rintro r M' ⟨m2, ⟨rfl, rfl⟩, rfl⟩
        refine k_Mo_next_114 ok (fun z => have z := bI_0 z; ?_) (fun z => have z := bI_1 z; ?_)
        · refine k_Mo_next_212 ok (fun z => ?_) (fun z => ?_)
          · -- a sign, or none
            have sg : ∀ k, k = 4 ∨ k = 5 → gg X (W9 c (m.d_nx i 0 (i + 1) (m.tx i).toInt64) o) 0 0 312 [(0, .ref 58)] [.int (nI k), .ref 58] := by
              intro k hk
              refine k_Mo_next_312 ok rW_58 (Nat.le_refl 59) (sF_Mo_15 rfl) (sO_Mo_15 rfl) ?_
              refine k_Mo_next_315 ok E ⟨_, ⟨rfl, nx_mkG h i k (i + 1) (m.tx i).toInt64 (by omega) (by omega) h2 (by omega) (fun _ => by omega) ⟨fun _ => by omega, fun _ => by omega⟩⟩, rfl⟩ (Nat.le_refl _) (Nat.le_refl _)
            have s4 : gg X (W9 c (m.d_nx i 0 (i + 1) (m.tx i).toInt64) o) 0 0 307 [(0, .ref 58)] [.ref 58] := by
              refine k_Mo_next_307 ok ?_
              exact sg 4 (Or.inl rfl)
            refine k_Mo_next_258 ok rW_58 (Nat.le_refl 59) sF_Mo_16 (sO_Mo_16 rfl) (fun z => ?_) (fun z => ?_)
            · exact s4
            refine k_Mo_next_271 ok (fun z => ?_) (fun z => ?_)
            · exact s4
            refine k_Mo_next_277 ok (fun z => ?_) (fun z => ?_)
            · exact s4
            refine k_Mo_next_283 ok (fun z => ?_) (fun z => ?_)
            · exact s4
            refine k_Mo_next_289 ok (fun z => ?_) (fun z => ?_)
            · exact s4
            refine k_Mo_next_295 ok (fun z => ?_) (fun z => ?_)
            · exact s4
            refine k_Mo_next_301 ok (fun z => ?_) (fun z => ?_)
            · refine k_Mo_next_311 ok ?_
              exact sg 5 (Or.inr rfl)
            · exact s4
          · -- a variable
            refine k_Mo_next_218 ok rW_58 (by rw [nI_1]; exact mo_letters (i + 1) a1 (by omega)) (gF_h E.nR (by decide) (by decide)) (fun _ _ q => qM_len q) ?_
            rintro r M' ⟨m2, ⟨e, t, rfl, rfl, q1, q2, -⟩, rfl⟩
            refine k_Mo_next_226 ok rW_58 (Nat.le_refl 59) (sF_Mo_18 rfl) (sO_Mo_18 rfl) (mo_in _ _ _) (gF_h E.nR (by decide) (by decide)) (fun _ _ q => qM_len q) ?_
            rintro r M' ⟨m2, ⟨rfl, rfl⟩, rfl⟩
            have sg : ∀ k, k = 3 ∨ k = 5 → gg X (W9 c (m.d_nx i 0 e t) o) 0 0 252 [(0, .ref 58)] [.int (nI k), .ref 58] := by
              intro k hk
              refine k_Mo_next_252 ok rW_58 (Nat.le_refl 59) (sF_Mo_15 rfl) (sO_Mo_15 rfl) ?_
              refine k_Mo_next_315 ok E ⟨_, ⟨rfl, nx_mkG h i k e t (by omega) (by omega) h2 (by omega) (fun z => by omega) ⟨fun _ => by omega, fun _ => by omega⟩⟩, rfl⟩ (Nat.le_refl _) (Nat.le_refl _)
            refine k_Mo_next_244 ok (fun z => have z := bI_0 z; ?_) (fun z => have z := bI_1 z; ?_)
            · refine k_Mo_next_251 ok ?_
              exact sg 5 (Or.inr rfl)
            · refine k_Mo_next_247 ok ?_
              exact sg 3 (Or.inl rfl)
        · -- a number
          refine k_Mo_next_117 ok rW_58 (Nat.le_refl 59) sF_Mo_16 (sO_Mo_16 rfl) ?_
          have nl : ∀ r j t, j + r = m.ln → i ≤ j → (∃ n, n < 10 ^ (min (j - i) 4) ∧ t = lN n) → gg X (W9 c (m.d_nx i 0 (i + 1) t) o) 0 0 122 [(0, .ref 58), (1, .int (nI j))] [] := by
            intro r
            have fin : ∀ j t, i ≤ j → j ≤ m.ln → (∃ n, n < 10 ^ (min (j - i) 4) ∧ t = lN n) → gg X (W9 c (m.d_nx i 0 (i + 1) t) o) 0 0 182 [(0, .ref 58), (1, .int (nI j))] [] := by
              intro j t q1 q2 q3
              have tn : ¬ t = -1 := by
                obtain ⟨n, hn, rfl⟩ := q3
                have h4 : 10 ^ (min (j - i) 4) ≤ 10 ^ 4 := Nat.pow_le_pow_right (by decide) (Nat.min_le_right _ _)
                intro e
                have h5 := congrArg Int64.toInt e
                rw [lN_toInt (by omega)] at h5
                have h6 : (-1 : Int64).toInt = -1 := by decide
                omega
              have sg : ∀ k, k = 2 ∨ k = 5 → gg X (W9 c (m.d_nx i 0 j t) o) 0 0 206 [(0, .ref 58)] [.int (nI k), .ref 58] := by
                intro k hk
                refine k_Mo_next_206 ok rW_58 (Nat.le_refl 59) (sF_Mo_15 rfl) (sO_Mo_15 rfl) ?_
                refine k_Mo_next_315 ok E ⟨_, ⟨rfl, nx_mkG h i k j t (by omega) q2 h2 (by omega) (fun z => by omega) ⟨fun _ => by omega, fun _ => tn⟩⟩, rfl⟩ (Nat.le_refl _) (Nat.le_refl _)
              refine k_Mo_next_182 ok rW_58 (Nat.le_refl 59) (sF_Mo_18 rfl) (sO_Mo_18 rfl) rF_Mo_17 (fun z => ?_) (fun z => ?_)
              · refine k_Mo_next_205 ok ?_
                exact sg 2 (Or.inl rfl)
              · refine k_Mo_next_201 ok ?_
                exact sg 5 (Or.inr rfl)
            induction r with
            | zero =>
              intro j t q1 q2 q3
              have e3 : (m.d_nx i 0 (i + 1) t).ln = m.ln := rfl
              refine k_Mo_next_122 ok rW_58 rF_Mo_13 (fun z => have z := (nLe rfl rfl (by omega) (by omega) z); ?_) (fun z => have z := (nNle rfl rfl (by omega) (by omega) z); ?_)
              · exact fin j t q2 (by omega) q3
              · omega
            | succ r ih =>
              intro j t q1 q2 q3
              have e3 : (m.d_nx i 0 (i + 1) t).ln = m.ln := rfl
              have e4 : (m.d_nx i 0 (i + 1) t).sa = i := rfl
              have cj : (nI j).toNatClampNeg = j := nC rfl (by omega)
              have go : ∀ t, (∃ n, n < 10 ^ (min (j + 1 - i) 4) ∧ t = lN n) → gg X (W9 c (m.d_nx i 0 (i + 1) t) o) 0 0 176 [(0, .ref 58), (1, .int (nI j))] [] := by
                intro t ht
                refine k_Mo_next_176 ok E.nL ?_
                rw [nI_1]
                exact ih (j + 1) t (by omega) (by omega) ht
              refine k_Mo_next_122 ok rW_58 rF_Mo_13 (fun z => have z := (nLe rfl rfl (by omega) (by omega) z); ?_) (fun z => have z := (nNle rfl rfl (by omega) (by omega) z); ?_)
              · omega
              refine k_Mo_next_130 ok rW_58 rF_Mo_12 rW_64 (vin rfl (by omega) (by decide)) (mo_isFigure _) (gF_h E.nR (by decide) (by decide)) (fun _ _ q => qM_len q) ?_
              rintro r M' ⟨m2, ⟨rfl, rfl⟩, rfl⟩
              rw [cj]
              refine k_Mo_next_139 ok (fun z => have z := bI_0 z; ?_) (fun z => have z := bI_1 z; ?_)
              · exact fin j t q2 (by omega) q3
              have hd : rI (m.tx j) 48 57 = true := z
              obtain ⟨d, hd1, hd2, ed⟩ := rI_nat (a := 48) (b := 57) (by decide) (by decide) hd
              obtain ⟨n, hn, rfl⟩ := q3
              refine k_Mo_next_142 ok rW_58 rF_Mo_17 (fun z => have z := (nLe (nL 4) (nS rfl rfl (by omega)) (by omega) (by omega) z); ?_) (fun z => have z := (nNle (nL 4) (nS rfl rfl (by omega)) (by omega) (by omega) z); ?_)
              · refine go _ ⟨n, ?_, rfl⟩
                rw [show min (j + 1 - i) 4 = min (j - i) 4 by omega]
                exact hn
              · refine k_Mo_next_152 ok rW_58 rF_Mo_16 rF_Mo_12 rW_64 (vin rfl (by omega) (by decide)) (Nat.le_refl 59) sF_Mo_16 (sO_Mo_16 rfl) ?_
                rw [cj]
                have e5 : (m.d_nx i 0 (i + 1) (lN n)).tx j = nI d := ed
                rw [e5]
                have hp : min (j - i) 4 = j - i := by omega
                have hp1 : min (j + 1 - i) 4 = (j - i) + 1 := by omega
                rw [hp] at hn
                have h10 : 10 ^ (j - i) ≤ 10 ^ 3 := Nat.pow_le_pow_right (by decide) (by omega)
                have e6 : 10 * (m.d_nx i 0 (i + 1) (lN n)).tk + (nI d).toInt64 - 48 = lN (10 * n + d - 48) := by
                  show lN 10 * lN n + (nI d).toInt64 - lN 48 = _
                  rw [nI_l (by omega), lN_mul, lN_add, lN_sub (by omega)]
                rw [e6]
                refine go _ ⟨10 * n + d - 48, ?_, rfl⟩
                rw [hp1, Nat.pow_succ]
                omega
          exact nl (m.ln - i) i 0 (by omega) (Nat.le_refl _) ⟨0, by rw [Nat.sub_self]; decide, rfl⟩
      · -- a word
        have hlet : rI (m.tx i) 97 122 = true := z
        refine k_Mo_next_78 ok rW_58 (mo_letters i (by exact a1) (by exact h2)) (gF_h E.nR (by decide) (by decide)) (fun _ _ q => qM_len q) ?_
        rintro r M' ⟨m2, ⟨e, t, rfl, rfl, q1, q2, q3, q4⟩, rfl⟩
        have hlt : i < e := q4 (by show i < m.ln; omega) hlet
        have sg : ∀ k, k = 1 ∨ k = 5 → gg X (W9 c (m.d_nx i 0 e t) o) 0 0 104 [(0, .ref 58)] [.int (nI k), .ref 58] := by
          intro k hk
          refine k_Mo_next_104 ok rW_58 (Nat.le_refl 59) (sF_Mo_15 rfl) (sO_Mo_15 rfl) ?_
          refine k_Mo_next_315 ok E ⟨_, ⟨rfl, nx_mkG h i k e t (by omega) q2 h2 (by omega) (fun z => by omega) ⟨fun _ => q3 hlt, fun _ => by omega⟩⟩, rfl⟩ (Nat.le_refl _) (Nat.le_refl _)
        refine k_Mo_next_84 ok rW_58 (Nat.le_refl 59) (sF_Mo_18 rfl) (sO_Mo_18 rfl) (fun z => ?_) (fun z => ?_)
        · refine k_Mo_next_103 ok ?_
          exact sg 1 (Or.inl rfl)
        · refine k_Mo_next_99 ok ?_
          exact sg 5 (Or.inr rfl)
    · refine k_Mo_next_56 ok E ⟨_, ⟨rfl, nx_mkG h i 0 m.en m.tk (Nat.le_refl _) a2 h2 (by decide) (fun z => (nomatch z)) ⟨fun z => (nomatch z), fun z => (nomatch z)⟩⟩, rfl⟩ (Nat.le_refl _) (Nat.le_refl _)
  refine k_Mo_next_0 ok E.nL rW_58 rF_Mo_18 (Nat.le_refl 59) (sF_Mo_19 rfl) (sO_Mo_19 rfl) ?_
  have loop : ∀ r i, i + r = m.ln → m.en ≤ i → gg X (W9 c (m.u_bh m.en) o) 0 0 13 [(0, .ref 58), (1, .int (nI i))] [] := by
    intro r
    induction r with
    | zero =>
      intro i h1 h2
      have e1 : (m.u_bh m.en).ln = m.ln := rfl
      refine k_Mo_next_13 ok rW_58 rF_Mo_13 (fun z => have z := (nLe rfl rfl (by omega) (by omega) z); ?_) (fun z => have z := (nNle rfl rfl (by omega) (by omega) z); ?_)
      · exact tail i h2 (by omega)
      · omega
    | succ r ih =>
      intro i h1 h2
      have e1 : (m.u_bh m.en).ln = m.ln := rfl
      refine k_Mo_next_13 ok rW_58 rF_Mo_13 (fun z => have z := (nLe rfl rfl (by omega) (by omega) z); ?_) (fun z => have z := (nNle rfl rfl (by omega) (by omega) z); ?_)
      · omega
      refine k_Mo_next_21 ok rW_58 rF_Mo_12 rW_64 (vin rfl (by omega) (by decide)) (fun z => ?_) (fun z => ?_)
      · exact tail i h2 (by omega)
      refine k_Mo_next_32 ok E.nL ?_
      rw [nI_1]
      exact ih (i + 1) (by omega) (by omega)
  exact loop (m.ln - m.en) m.en (by omega) (Nat.le_refl _)
theorem mo_next (h : m.tI) : mm_ l y_Mo_next w_Mo_next (rmh 4) [.ref 58] (W9 c m o) (qM c o (fun r m' => r = none ∧ St m m' ∧ m'.wr = m.wr ∧ m'.bh = m.en)) := by
  obtain ⟨a1, a2, a3, a4, a5, a6, a7, a8, a9, -⟩ := h
  refine mm_imp (mo_nextG ⟨a1, a2, Nat.zero_le _, Nat.zero_le _, Nat.zero_le _, fun z => (nomatch z), a7, a8, a9, fun z => (nomatch z), fun z => (nomatch z)⟩) ?_
  rintro r M' ⟨m', ⟨q1, ⟨w1, w2, w3, w4, w5⟩, q3, q4⟩, e⟩
  exact ⟨m', ⟨q1, ⟨w1, w2, by rw [q4]; exact a3, w4, w5⟩, q3, q4⟩, e⟩
theorem mo_stop (h : m.tI) : mm_ l y_Mo_stop w_Mo_stop (rmh 1) [.ref 58] (W9 c m o) (qM c o (fun r m' => r = none ∧ ¬ m'.wr < 0 ∧ ∃ x, m' = m.u_wr x)) := by
  obtain ⟨a1, a2, a3, a4, a5, -⟩ := id h
  refine mm_intro (by decide) (Nat.le_of_ble_eq_true rfl) i_Mo_stop (fun X ok E => ?_)
  have fin : ∀ j, j ≤ 160 → gg X (W9 c m o) 0 0 26 [(0, .ref 58)] [.int (nI j), .ref 58] := by
    intro j hj
    refine k_Mo_stop_26 ok rW_58 (Nat.le_refl 59) sF_Mo_20 (sO_Mo_20 rfl) ?_
    refine k_Mo_stop_29 ok E ⟨_, ⟨rfl, by exact nI_pos (by omega), _, rfl⟩, rfl⟩ (Nat.le_refl _) (Nat.le_refl _)
  refine k_Mo_stop_0 ok rW_58 rF_Mo_20 (fun z => ?_) (fun z => ?_)
  · refine k_Mo_stop_29 ok E ⟨_, ⟨rfl, Int32.not_lt.mpr z, m.wr, rfl⟩, rfl⟩ (Nat.le_refl _) (Nat.le_refl _)
  · refine k_Mo_stop_7 ok rW_58 rF_Mo_15 (fun z => have z := (nNe rfl (nL 0) (by omega) (by omega) z); ?_) (fun z => have z := (nEq rfl (nL 0) (by omega) (by omega) z); ?_)
    · refine k_Mo_stop_22 ok rW_58 rF_Mo_17 ?_
      exact fin m.sa (by omega)
    · refine k_Mo_stop_15 ok rW_58 rF_Mo_19 ?_
      exact fin m.bh (by omega)
theorem wr_St (h : m.tI) (x : Int32) (hx : ¬ x < 0) : St m (m.u_wr x) := ⟨h, rfl, Nat.le_refl _, fun z => absurd z hx, rfl⟩
/-- goOn: it goes on, or the place of the fault is known -/
theorem mo_goOn (h : m.tI) (b : Bool) : mm_ l y_Mo_goOn w_Mo_goOn (rmh 5) [.ref 58, .int (bI b)] (W9 c m o) (qM c o (fun r m' => ∃ b', r = some (.int (bI b')) ∧ St m m' ∧ (b' = true → b = true ∧ m'.wr < 0 ∧ m'.bh = m.en) ∧ (b' = false → ¬ m'.wr < 0))) := by
  refine mm_intro (by decide) (Nat.le_of_ble_eq_true rfl) i_Mo_goOn (fun X ok E => ?_)
  refine k_Mo_goOn_0 ok (fun z => have z := bI_1 z; ?_) (fun z => have z := bI_0 z; ?_)
  · subst z
    refine k_Mo_goOn_8 ok rW_58 rF_Mo_20 (fun z => ?_) (fun z => ?_)
    · refine k_Mo_goOn_17 ok rW_58 (mo_next h) (gF_h E.nR (by decide) (by decide)) (fun _ _ q => qM_len q) ?_
      rintro r M' ⟨m2, ⟨rfl, q1, q2, q3⟩, rfl⟩
      refine k_Mo_goOn_21 ok E ⟨_, ⟨true, rfl, q1, fun _ => ⟨rfl, by rw [q2]; exact z, q3⟩, fun z => (nomatch z)⟩, rfl⟩ (Nat.le_refl _) (Nat.le_refl _)
    · refine k_Mo_goOn_15 ok E ⟨_, ⟨false, rfl, St.refl h, fun z => (nomatch z), fun _ => z⟩, rfl⟩ (Nat.le_refl _) (Nat.le_refl _)
  · subst z
    refine k_Mo_goOn_4 ok rW_58 (mo_stop h) (gF_h E.nR (by decide) (by decide)) (fun _ _ q => qM_len q) ?_
    rintro r M' ⟨m2, ⟨rfl, q1, x, rfl⟩, rfl⟩
    refine k_Mo_goOn_8 ok rW_58 rF_Mo_20 (fun z => absurd z q1) (fun _ => ?_)
    refine k_Mo_goOn_15 ok E ⟨_, ⟨false, rfl, wr_St h x q1, fun z => (nomatch z), fun _ => q1⟩, rfl⟩ (Nat.le_refl _) (Nat.le_refl _)
def keyOf (x : Int32) : Int64 := if x = 0 then 126879447475060 else if x = 1 then 7235441220169655156 else if x = 2 then 478660552050 else if x = 3 then 1684370275 else if x = 4 then 465625246068 else if x = 5 then 112602977166706 else if x = 6 then 8030046131791487340 else if x = 7 then 469920281971 else if x = 8 then 504363577198 else if x = 9 then 7237492 else 422776761956
def MS.ky (m : MS) (x : Int32) : Bool := decide (m.kd = 1) && decide (m.tk = keyOf x)
theorem mo_isKeyF (h : m.tI) (x : Int32) : mm_ l y_Mo_isKey w_Mo_isKey (rmh 1) [.ref 58, .int x] (W9 c m o) (qM c o (fun r m' => r = some (.int (bI (m.ky x))) ∧ m' = m)) := by
  obtain ⟨a1, a2, a3, a4, a5, -⟩ := id h
  refine mm_intro (by decide) (Nat.le_of_ble_eq_true rfl) i_Mo_isKey (fun X ok E => ?_)
  refine k_Mo_isKey_0 ok rW_58 rF_Mo_15 (fun z => have z := (nEq rfl (nL 1) (by omega) (by omega) z); ?_) (fun z => have z := (nNe rfl (nL 1) (by omega) (by omega) z); ?_)
  · have z1 : m.kd = 1 := z
    have fin : ∀ w, keyOf x = w → gg X (W9 c m o) 0 0 126 [(0, .ref 58)] [.long w] := by
      rintro w rfl
      refine k_Mo_isKey_126 ok E.nL rW_58 rF_Mo_16 (fun z => ?_) (fun z => ?_)
      · refine k_Mo_isKey_140 ok ?_
        refine k_Mo_isKey_141 ok E rfl ⟨_, ⟨by rw [MS.ky, decide_eq_false z, Bool.and_false]; rfl, rfl⟩, rfl⟩ (Nat.le_refl _) (Nat.le_refl _)
      · refine k_Mo_isKey_136 ok ?_
        refine k_Mo_isKey_141 ok E rfl ⟨_, ⟨by rw [MS.ky, decide_eq_true z, decide_eq_true z1]; rfl, rfl⟩, rfl⟩ (Nat.le_refl _) (Nat.le_refl _)
    refine k_Mo_isKey_10 ok (fun z10 => ?_) (fun z10 => ?_)
    · refine k_Mo_isKey_20 ok (fun z20 => ?_) (fun z20 => ?_)
      · refine k_Mo_isKey_31 ok (fun z31 => ?_) (fun z31 => ?_)
        · refine k_Mo_isKey_42 ok (fun z42 => ?_) (fun z42 => ?_)
          · refine k_Mo_isKey_53 ok (fun z53 => ?_) (fun z53 => ?_)
            · refine k_Mo_isKey_64 ok (fun z64 => ?_) (fun z64 => ?_)
              · refine k_Mo_isKey_75 ok (fun z75 => ?_) (fun z75 => ?_)
                · refine k_Mo_isKey_87 ok (fun z87 => ?_) (fun z87 => ?_)
                  · refine k_Mo_isKey_99 ok (fun z99 => ?_) (fun z99 => ?_)
                    · refine k_Mo_isKey_111 ok (fun z111 => ?_) (fun z111 => ?_)
                      · refine k_Mo_isKey_123 ok ?_
                        exact fin _ (by unfold keyOf; first | (subst x; rfl) | (simp only [*, if_false]; done))
                      · refine k_Mo_isKey_117 ok ?_
                        exact fin _ (by unfold keyOf; first | (subst x; rfl) | (simp only [*, if_false]; done))
                    · refine k_Mo_isKey_105 ok ?_
                      exact fin _ (by unfold keyOf; first | (subst x; rfl) | (simp only [*, if_false]; done))
                  · refine k_Mo_isKey_93 ok ?_
                    exact fin _ (by unfold keyOf; first | (subst x; rfl) | (simp only [*, if_false]; done))
                · refine k_Mo_isKey_81 ok ?_
                  exact fin _ (by unfold keyOf; first | (subst x; rfl) | (simp only [*, if_false]; done))
              · refine k_Mo_isKey_69 ok ?_
                exact fin _ (by unfold keyOf; first | (subst x; rfl) | (simp only [*, if_false]; done))
            · refine k_Mo_isKey_58 ok ?_
              exact fin _ (by unfold keyOf; first | (subst x; rfl) | (simp only [*, if_false]; done))
          · refine k_Mo_isKey_47 ok ?_
            exact fin _ (by unfold keyOf; first | (subst x; rfl) | (simp only [*, if_false]; done))
        · refine k_Mo_isKey_36 ok ?_
          exact fin _ (by unfold keyOf; first | (subst x; rfl) | (simp only [*, if_false]; done))
      · refine k_Mo_isKey_25 ok ?_
        exact fin _ (by unfold keyOf; first | (subst x; rfl) | (simp only [*, if_false]; done))
    · refine k_Mo_isKey_14 ok ?_
      exact fin _ (by unfold keyOf; first | (subst x; rfl) | (simp only [*, if_false]; done))
  · refine k_Mo_isKey_8 ok E ⟨_, ⟨by rw [MS.ky, decide_eq_false z]; rfl, rfl⟩, rfl⟩ (Nat.le_refl _) (Nat.le_refl _)
theorem mo_isKey (h : m.tI) (x : Int32) : mm_ l y_Mo_isKey w_Mo_isKey (rmh 1) [.ref 58, .int x] (W9 c m o) (qM c o (fun r m' => ∃ b, r = some (.int (bI b)) ∧ m' = m)) := mm_imp (mo_isKeyF h x) (fun r M' ⟨m', q, e⟩ => ⟨m', ⟨_, q⟩, e⟩)
def MS.sg (m : MS) (x : Int32) : Bool := decide (m.kd = 4) && decide (m.tk = x.toInt64)
theorem mo_isSignF (h : m.tI) (x : Int32) : mm_ l y_Mo_isSign w_Mo_isSign (rmh 1) [.ref 58, .int x] (W9 c m o) (qM c o (fun r m' => r = some (.int (bI (m.sg x))) ∧ m' = m)) := by
  obtain ⟨a1, a2, a3, a4, a5, -⟩ := id h
  refine mm_intro (by decide) (Nat.le_of_ble_eq_true rfl) i_Mo_isSign (fun X ok E => ?_)
  have no : m.sg x = false → gg X (W9 c m o) 0 0 22 [] [] := by
    intro hn
    refine k_Mo_isSign_22 ok ?_
    refine k_Mo_isSign_23 ok E rfl ⟨_, ⟨by rw [hn]; rfl, rfl⟩, rfl⟩ (Nat.le_refl _) (Nat.le_refl _)
  refine k_Mo_isSign_0 ok rW_58 rF_Mo_15 (fun z => have z := (nNe rfl (nL 4) (by omega) (by omega) z); ?_) (fun z => have z := (nEq rfl (nL 4) (by omega) (by omega) z); ?_)
  · exact no (by rw [MS.sg, decide_eq_false z]; rfl)
  · have z1 : m.kd = 4 := z
    refine k_Mo_isSign_8 ok rW_58 rF_Mo_16 (fun z => ?_) (fun z => ?_)
    · exact no (by rw [MS.sg, decide_eq_false z, Bool.and_false])
    · refine k_Mo_isSign_18 ok ?_
      refine k_Mo_isSign_23 ok E rfl ⟨_, ⟨by rw [MS.sg, decide_eq_true z, decide_eq_true z1]; rfl, rfl⟩, rfl⟩ (Nat.le_refl _) (Nat.le_refl _)
theorem sg_kd {x : Int32} (h : m.sg x = true) : m.kd = 4 := by
  unfold MS.sg at h
  exact of_decide_eq_true (Bool.and_eq_true_iff.mp h).1
theorem ky_kd {x : Int32} (h : m.ky x = true) : m.kd = 1 := by
  unfold MS.ky at h
  exact of_decide_eq_true (Bool.and_eq_true_iff.mp h).1
theorem mo_isSign (h : m.tI) (x : Int32) : mm_ l y_Mo_isSign w_Mo_isSign (rmh 1) [.ref 58, .int x] (W9 c m o) (qM c o (fun r m' => ∃ b, r = some (.int (bI b)) ∧ m' = m ∧ (b = true → m.kd = 4))) := mm_imp (mo_isSignF h x) (fun r M' ⟨m', q, e⟩ => ⟨m', ⟨_, q.1, q.2, fun z => sg_kd z⟩, e⟩)
def MS.aK (m : MS) : Nat → Nat → Bool → Bool
  | 0, _, b => b
  | r + 1, i, b => MS.aK m r (i + 1) (bif m.ky (nI i) then true else b)
theorem aK_f : ∀ r i b, m.aK r i b = false → b = false ∧ ∀ j, i ≤ j → j < i + r → m.ky (nI j) = false
  | 0, _, _, h => ⟨h, fun j h1 h2 => absurd h2 (by omega)⟩
  | r + 1, i, b, h => by
    obtain ⟨h1, h2⟩ := aK_f r (i + 1) _ h
    cases hk : m.ky (nI i) with
    | true =>
      rw [hk] at h1
      cases h1
    | false =>
      rw [hk] at h1
      refine ⟨h1, fun j q1 q2 => ?_⟩
      by_cases e : j = i
      · rw [e]
        exact hk
      · exact h2 j (by omega) (by omega)
def MS.tz (m : MS) : Bool := decide (m.kd = 2) || (decide (m.kd = 1) && !m.aK 11 0 false)
theorem mo_isTermF (h : m.tI) : mm_ l y_Mo_isTerm w_Mo_isTerm (rmh 2) [.ref 58] (W9 c m o) (qM c o (fun r m' => r = some (.int (bI m.tz)) ∧ m' = m)) := by
  obtain ⟨a1, a2, a3, a4, a5, -⟩ := id h
  refine mm_intro (by decide) (Nat.le_of_ble_eq_true rfl) i_Mo_isTerm (fun X ok E => ?_)
  refine k_Mo_isTerm_0 ok rW_58 rF_Mo_15 (fun z => have z := (nNe rfl (nL 2) (by omega) (by omega) z); ?_) (fun z => have z := (nEq rfl (nL 2) (by omega) (by omega) z); ?_)
  · have z2 : decide (m.kd = 2) = false := decide_eq_false z
    have no : (decide (m.kd = 1) && !m.aK 11 0 false) = false → gg X (W9 c m o) 0 0 52 [] [] := by
      intro hn
      refine k_Mo_isTerm_52 ok ?_
      refine k_Mo_isTerm_53 ok E rfl ⟨_, ⟨by rw [MS.tz, z2, hn]; rfl, rfl⟩, rfl⟩ (Nat.le_refl _) (Nat.le_refl _)
    refine k_Mo_isTerm_10 ok E.nL ?_
    have loop : ∀ r i (b : Bool), i + r = 11 → m.aK r i b = m.aK 11 0 false → gg X (W9 c m o) 0 0 14 [(0, .ref 58), (1, .int (bI b)), (2, .int (nI i))] [] := by
      intro r
      induction r with
      | zero =>
        intro i b hi hb
        have hb : b = m.aK 11 0 false := hb
        refine k_Mo_isTerm_14 ok (fun z => have z := (nLe (nL 11) rfl (by omega) (by omega) z); ?_) (fun z => have z := (nNle (nL 11) rfl (by omega) (by omega) z); ?_)
        · refine k_Mo_isTerm_36 ok rW_58 rF_Mo_15 (fun z => have z := (nNe rfl (nL 1) (by omega) (by omega) z); ?_) (fun z => have z := (nEq rfl (nL 1) (by omega) (by omega) z); ?_)
          · exact no (by rw [decide_eq_false z]; rfl)
          · have z1 : m.kd = 1 := z
            refine k_Mo_isTerm_44 ok (fun z => have z := bI_1 z; ?_) (fun z => have z := bI_0 z; ?_)
            · exact no (by rw [← hb, z]; cases decide (m.kd = 1) <;> rfl)
            · refine k_Mo_isTerm_48 ok ?_
              refine k_Mo_isTerm_53 ok E rfl ⟨_, ⟨by rw [MS.tz, ← hb, z, decide_eq_true z1, Bool.or_comm]; rfl, rfl⟩, rfl⟩ (Nat.le_refl _) (Nat.le_refl _)
        · omega
      | succ r ih =>
        intro i b hi hb
        have nx : ∀ b2, b2 = (bif m.ky (nI i) then true else b) → gg X (W9 c m o) 0 0 30 [(0, .ref 58), (1, .int (bI b2)), (2, .int (nI i))] [] := by
          intro b2 e2
          refine k_Mo_isTerm_30 ok E.nL ?_
          rw [nI_1]
          exact ih (i + 1) b2 (by omega) (by rw [e2]; exact hb)
        refine k_Mo_isTerm_14 ok (fun z => have z := (nLe (nL 11) rfl (by omega) (by omega) z); ?_) (fun z => have z := (nNle (nL 11) rfl (by omega) (by omega) z); ?_)
        · omega
        refine k_Mo_isTerm_20 ok rW_58 (mo_isKeyF h _) (gF_h E.nR (by decide) (by decide)) (fun _ _ q => qM_len q) ?_
        rintro r M' ⟨m, ⟨rfl, rfl⟩, rfl⟩
        refine k_Mo_isTerm_25 ok (fun z => have z := bI_0 z; ?_) (fun z => have z := bI_1 z; ?_)
        · exact nx b (by rw [z]; rfl)
        · refine k_Mo_isTerm_28 ok E.nL ?_
          exact nx true (by rw [z]; rfl)
    exact loop 11 0 false rfl rfl
  · refine k_Mo_isTerm_8 ok E ⟨_, ⟨by rw [MS.tz, decide_eq_true z]; rfl, rfl⟩, rfl⟩ (Nat.le_refl _) (Nat.le_refl _)
theorem mo_isTerm (h : m.tI) : mm_ l y_Mo_isTerm w_Mo_isTerm (rmh 2) [.ref 58] (W9 c m o) (qM c o (fun r m' => ∃ b, r = some (.int (bI b)) ∧ m' = m)) := mm_imp (mo_isTermF h) (fun r M' ⟨m', q, e⟩ => ⟨m', ⟨_, q⟩, e⟩)
/-- a pattern begins here: so nothing that holds groups does -/
theorem no_hold (h : m.kd = 3 ∨ m.tz = true) : (m.ky 6 || m.ky 7 || m.sg 123) = false := by
  have key : ∀ x, m.kd ≠ 1 → m.ky x = false := fun x q => by rw [MS.ky, decide_eq_false q]; rfl
  have sgn : ∀ x, m.kd ≠ 4 → m.sg x = false := fun x q => by rw [MS.sg, decide_eq_false q]; rfl
  rcases h with h | h
  · rw [key 6 (by omega), key 7 (by omega), sgn 123 (by omega)]
    rfl
  · unfold MS.tz at h
    rcases Bool.or_eq_true_iff.mp h with h | h
    · have h := of_decide_eq_true h
      rw [key 6 (by omega), key 7 (by omega), sgn 123 (by omega)]
      rfl
    · obtain ⟨h1, h2⟩ := Bool.and_eq_true_iff.mp h
      have h1 := of_decide_eq_true h1
      have h2 : m.aK 11 0 false = false := by
        cases q : m.aK 11 0 false
        · rfl
        · rw [q] at h2
          cases h2
      obtain ⟨-, h3⟩ := aK_f 11 0 false h2
      have e6 : m.ky 6 = false := h3 6 (by decide) (by decide)
      have e7 : m.ky 7 = false := h3 7 (by decide) (by decide)
      rw [e6, e7, sgn 123 (by omega)]
      rfl
end RP
