/-! THE REFERENCE'S TOKENS, exactly -/
def rK (tx : Nat → Int32) (ln s : Nat) : Nat := if tL (tx s) = true then (if 8 < te_ tx ln s - s then 5 else 1) else if dG (tx s) = true then (if 4 < te_ tx ln s - s then 5 else 2) else if tx s = 63 then (if te_ tx ln s - s - 1 < 1 then 5 else if 8 < te_ tx ln s - s - 1 then 5 else 3) else if sG (tx s) = true then 4 else 5
def rV (tx : Nat → Int32) (ln s : Nat) : Int64 := if tL (tx s) = true then lv tx s (min 8 (te_ tx ln s - s)) else if tx s = 63 then lv tx (s + 1) (min 8 (te_ tx ln s - s - 1)) else (tx s).toInt64
/-- what next leaves -/
def NX (m m' : MS) : Prop := ∃ t, m' = m.d_nx (sk_ m.tx m.ln m.en) (if sk_ m.tx m.ln m.en < m.ln then rK m.tx m.ln (sk_ m.tx m.ln m.en) else 0) (if sk_ m.tx m.ln m.en < m.ln then te_ m.tx m.ln (sk_ m.tx m.ln m.en) else m.en) t ∧ (sk_ m.tx m.ln m.en < m.ln → dG (m.tx (sk_ m.tx m.ln m.en)) = false → t = rV m.tx m.ln (sk_ m.tx m.ln m.en))
theorem NX_mk {m : MS} {i k e : Nat} {t : Int64} (hi : sk_ m.tx m.ln m.en = i) (h : i < m.ln) (hk : rK m.tx m.ln i = k) (he : te_ m.tx m.ln i = e) (ht : dG (m.tx i) = false → rV m.tx m.ln i = t) : NX m (m.d_nx i k e t) := by
  refine ⟨t, ?_, fun _ hd => ?_⟩
  · rw [hi, if_pos h, if_pos h, hk, he]
  · rw [hi]
    rw [hi] at hd
    exact (ht hd).symm
theorem NX_end {m : MS} {i : Nat} (hi : sk_ m.tx m.ln m.en = i) (h : ¬ i < m.ln) : NX m (m.d_nx i 0 m.en m.tk) := by
  refine ⟨m.tk, ?_, fun q => ?_⟩
  · rw [hi, if_neg h, if_neg h]
  · rw [hi] at q
    exact absurd q h
theorem tL_rI (x : Int32) : tL x = rI x 97 122 := rfl
theorem dG_no {x : Int32} (h : tL x = true) : ¬ dG x = true := by
  intro q
  have h1 := tL_un h
  unfold dG rI at q
  split at q
  · cases q
  · next q1 =>
    split at q
    · cases q
    · next q2 =>
      unfold tL at h
      split at h
      · cases h
      · next h2 =>
        rw [Int32.lt_iff_toInt_lt] at q1 q2 h2
        have e57 : (57 : Int32).toInt = 57 := by decide
        have e97 : (97 : Int32).toInt = 97 := by decide
        omega
section RX5
variable {l : Launch} {c : CS} {m : MS} {o : Nat → Int64}
theorem mo_letters3 (fr : Nat) (hl : m.ln ≤ 160) (hf : fr ≤ m.ln) : mm_ l y_Mo_letters w_Mo_letters (rmh 3) [.ref 58, .int (nI fr)] (W9 c m o) (qM c o (fun r m' => r = some (.int (nI (lxL m.tx (m.ln - fr) fr))) ∧ m' = m.u_tk (lv m.tx fr (min 8 (lxL m.tx (m.ln - fr) fr - fr))))) := by
  refine mm_intro (by decide) (Nat.le_of_ble_eq_true rfl) i_Mo_letters (fun X ok E => ?_)
  refine k_Mo_letters_0 ok E.nL rW_58 (Nat.le_refl 59) sF_Mo_16 (sO_Mo_16 rfl) ?_
  have fin : ∀ i t, lxL m.tx (m.ln - fr) fr = i → t = lv m.tx fr (min 8 (i - fr)) → gg X (W9 c (m.u_tk t) o) 0 0 60 [(2, .int (nI i))] [] := by
    intro i t e1 e2
    refine k_Mo_letters_60 ok E ⟨m.u_tk t, ⟨by rw [e1], by rw [e1, ← e2]⟩, rfl⟩ (Nat.le_refl _) (Nat.le_refl _)
  have loop : ∀ r i t, i + r = m.ln → fr ≤ i → t = lv m.tx fr (min 8 (i - fr)) → lxL m.tx (m.ln - fr) fr = lxL m.tx r i → gg X (W9 c (m.u_tk t) o) 0 0 7 [(0, .ref 58), (1, .int (nI fr)), (2, .int (nI i))] [] := by
    intro r
    induction r with
    | zero =>
      intro i t h1 h2 h3 h4
      have e1 : (m.u_tk t).ln = m.ln := rfl
      refine k_Mo_letters_7 ok rW_58 rF_Mo_13 (fun z => have z := (nLe rfl rfl (by omega) (by omega) z); ?_) (fun z => have z := (nNle rfl rfl (by omega) (by omega) z); ?_)
      · exact fin i t h4 h3
      · omega
    | succ r ih =>
      intro i t h1 h2 h3 h4
      have e1 : (m.u_tk t).ln = m.ln := rfl
      have ci : (nI i).toNatClampNeg = i := nC rfl (by omega)
      refine k_Mo_letters_7 ok rW_58 rF_Mo_13 (fun z => have z := (nLe rfl rfl (by omega) (by omega) z); ?_) (fun z => have z := (nNle rfl rfl (by omega) (by omega) z); ?_)
      · omega
      refine k_Mo_letters_15 ok rW_58 rF_Mo_12 rW_64 (vin rfl (by omega) (by decide)) (mo_isLetter _) (gF_h E.nR (by decide) (by decide)) (fun _ _ q => qM_len q) ?_
      rintro r M' ⟨m2, ⟨rfl, rfl⟩, rfl⟩
      have go : ∀ t, tL (m.tx i) = true → t = lv m.tx fr (min 8 (i + 1 - fr)) → gg X (W9 c (m.u_tk t) o) 0 0 54 [(0, .ref 58), (1, .int (nI fr)), (2, .int (nI i))] [] := by
        intro t hz ht
        have e2 : lxL m.tx (r + 1) i = lxL m.tx r (i + 1) := by
          show (if tL (m.tx i) = true then _ else _) = _
          rw [if_pos hz]
        refine k_Mo_letters_54 ok E.nL ?_
        rw [nI_1]
        exact ih (i + 1) t (by omega) (by omega) ht (h4.trans e2)
      refine k_Mo_letters_24 ok (fun z => have z := bI_0 z; ?_) (fun z => have z := bI_1 z; ?_)
      · rw [ci] at z
        have hz : tL (m.tx i) = false := z
        have e2 : lxL m.tx (r + 1) i = i := by
          show (if tL (m.tx i) = true then _ else _) = _
          rw [hz]
          rfl
        exact fin i t (h4.trans e2) h3
      · rw [ci] at z
        have hz : tL (m.tx i) = true := z
        refine k_Mo_letters_27 ok (fun z => have z := (nLe (nL 8) (nS rfl rfl (by omega)) (by omega) (by omega) z); ?_) (fun z => have z := (nNle (nL 8) (nS rfl rfl (by omega)) (by omega) (by omega) z); ?_)
        · refine go _ hz ?_
          have e5 : min 8 (i + 1 - fr) = min 8 (i - fr) := by omega
          rw [e5]
          exact h3
        · refine k_Mo_letters_35 ok rW_58 rF_Mo_16 rF_Mo_12 rW_64 (vin rfl (by omega) (by decide)) (Nat.le_refl 59) sF_Mo_16 (sO_Mo_16 rfl) ?_
          refine go _ hz ?_
          have e5 : min 8 (i + 1 - fr) = i - fr + 1 := by omega
          have e6 : min 8 (i - fr) = i - fr := by omega
          have e7 : fr + (i - fr) = i := by omega
          rw [ci, e5]
          show s8 t ||| (m.tx i).toInt64 = s8 (lv m.tx fr (i - fr)) ||| (m.tx (fr + (i - fr))).toInt64
          rw [h3, e6, e7]
  exact loop (m.ln - fr) fr 0 (by omega) (Nat.le_refl _) (by rw [Nat.sub_self]; rfl) rfl
theorem nx_mk3 (h : m.d_b0.tI) (s k e : Nat) (t : Int64) (h1 : m.en ≤ e) (h2 : e ≤ m.ln) (h3 : s ≤ m.ln) (h4 : k ≤ 5) (h5 : k = 4 → m.en < e) (h6 : (k = 1 → ¬ t = 0) ∧ (k = 2 → ¬ t = -1)) (h7 : NX m (m.d_nx s k e t)) : St m.d_b0 (m.d_nx s k e t) ∧ (m.d_nx s k e t).wr = m.wr ∧ (m.d_nx s k e t).bh = m.en ∧ NX m (m.d_nx s k e t) := by
  obtain ⟨a, b, d⟩ := nx_mkG h s k e t h1 h2 h3 h4 h5 h6
  exact ⟨a, b, d, h7⟩
theorem mo_nextG3 (h : m.d_b0.tI) : mm_ l y_Mo_next w_Mo_next (rmh 4) [.ref 58] (W9 c m o) (qM c o (fun r m' => r = none ∧ St m.d_b0 m' ∧ m'.wr = m.wr ∧ m'.bh = m.en ∧ NX m m')) := by
  have a1 : m.ln ≤ 160 := h.1
  have a2 : m.en ≤ m.ln := h.2.1
  refine mm_intro (by decide) (Nat.le_of_ble_eq_true rfl) i_Mo_next (fun X ok E => ?_)
  have tail : ∀ i, m.en ≤ i → i ≤ m.ln → sk_ m.tx m.ln m.en = i → gg X (W9 c (m.u_bh m.en) o) 0 0 38 [(0, .ref 58), (1, .int (nI i))] [] := by
    intro i h1 h2 hsk
    have e1 : (((m.u_bh m.en).u_sa i).u_kd 0).ln = m.ln := rfl
    have e0 : (m.u_bh m.en).ln = m.ln := rfl
    have c1 : (nI i).toNatClampNeg = i := nC rfl (by omega)
    refine k_Mo_next_38 ok rW_58 (Nat.le_refl 59) (sF_Mo_17 rfl) (sO_Mo_17 rfl) (sF_Mo_15 (v := 0) (by decide)) (sO_Mo_15 rfl) rF_Mo_13 (fun z => have z := (nNe rfl rfl (by omega) (by omega) z); ?_) (fun z => have z := (nEq rfl rfl (by omega) (by omega) z); ?_)
    · skip
      have hlt : i < m.ln := by
        have z9 : ¬ i = (((m.u_bh m.en).u_sa i).u_kd 0).ln := z
        omega
      obtain ⟨te1, te2⟩ := te_le m.tx m.ln i hlt
      refine k_Mo_next_57 ok E.nL rW_58 rF_Mo_12 rW_64 (vin rfl (by omega) (by decide)) (Nat.le_refl 59) (sF_Mo_18 (nA rfl (nL 1))) (sO_Mo_18 rfl) (mo_isLetter _) (gF_h E.nR (by decide) (by decide)) (fun _ _ q => qM_len q) ?_
      rintro r M' ⟨m2, ⟨rfl, rfl⟩, rfl⟩
      rw [c1]
      have e2 : ((((m.u_bh m.en).u_sa i).u_kd 0).u_en (i + 1)).ln = m.ln := rfl
      refine k_Mo_next_75 ok (fun z => have z := bI_0 z; ?_) (fun z => have z := bI_1 z; ?_)
      · have hnl : ¬ tL (m.tx i) = true := by
          have z9 : tL (m.tx i) = false := z
          rw [z9]
          exact (by decide)
        refine k_Mo_next_110 ok (mo_isFigure _) (gF_h E.nR (by decide) (by decide)) (fun _ _ q => qM_len q) ?_
        rintro r M' ⟨m2, ⟨rfl, rfl⟩, rfl⟩
        refine k_Mo_next_114 ok (fun z => have z := bI_0 z; ?_) (fun z => have z := bI_1 z; ?_)
        · have hnd : ¬ dG (m.tx i) = true := by
            have z9 : dG (m.tx i) = false := z
            rw [z9]
            exact (by decide)
          refine k_Mo_next_212 ok (fun z => ?_) (fun z => ?_)
          · -- a sign, or none
            have z63 : ¬ m.tx i = 63 := z
            have hte : te_ m.tx m.ln i = i + 1 := by
              unfold te_
              rw [if_neg hnl, if_neg hnd, if_neg z63]
            have hrv : rV m.tx m.ln i = (m.tx i).toInt64 := by
              unfold rV
              rw [if_neg hnl, if_neg z63]
            have hrk : rK m.tx m.ln i = if sG (m.tx i) = true then 4 else 5 := by
              unfold rK
              rw [if_neg hnl, if_neg hnd, if_neg z63]
            have sg : ∀ k, (k = 4 ∨ k = 5) → rK m.tx m.ln i = k → gg X (W9 c (m.d_nx i 0 (i + 1) (m.tx i).toInt64) o) 0 0 312 [(0, .ref 58)] [.int (nI k), .ref 58] := by
              intro k hk hrk9
              refine k_Mo_next_312 ok rW_58 (Nat.le_refl 59) (sF_Mo_15 rfl) (sO_Mo_15 rfl) ?_
              refine k_Mo_next_315 ok E ⟨_, ⟨rfl, nx_mk3 h i k (i + 1) (m.tx i).toInt64 (by omega) (by omega) h2 (by omega) (fun _ => by omega) ⟨fun _ => by omega, fun _ => by omega⟩ (NX_mk hsk hlt hrk9 hte (fun _ => hrv))⟩, rfl⟩ (Nat.le_refl _) (Nat.le_refl _)
            have s4 : sG (m.tx i) = true → gg X (W9 c (m.d_nx i 0 (i + 1) (m.tx i).toInt64) o) 0 0 307 [(0, .ref 58)] [.ref 58] := by
              intro hs
              refine k_Mo_next_307 ok ?_
              exact sg 4 (Or.inl rfl) (by rw [hrk, if_pos hs])
            refine k_Mo_next_258 ok rW_58 (Nat.le_refl 59) sF_Mo_16 (sO_Mo_16 rfl) (fun z => ?_) (fun z => ?_)
            · exact s4 (by rw [show m.tx i = 123 from z]; rfl)
            have n123 : ¬ m.tx i = 123 := z
            refine k_Mo_next_271 ok (fun z => ?_) (fun z => ?_)
            · exact s4 (by rw [show m.tx i = 125 from z]; rfl)
            have n125 : ¬ m.tx i = 125 := z
            refine k_Mo_next_277 ok (fun z => ?_) (fun z => ?_)
            · exact s4 (by rw [show m.tx i = 46 from z]; rfl)
            have n46 : ¬ m.tx i = 46 := z
            refine k_Mo_next_283 ok (fun z => ?_) (fun z => ?_)
            · exact s4 (by rw [show m.tx i = 61 from z]; rfl)
            have n61 : ¬ m.tx i = 61 := z
            refine k_Mo_next_289 ok (fun z => ?_) (fun z => ?_)
            · exact s4 (by rw [show m.tx i = 60 from z]; rfl)
            have n60 : ¬ m.tx i = 60 := z
            refine k_Mo_next_295 ok (fun z => ?_) (fun z => ?_)
            · exact s4 (by rw [show m.tx i = 62 from z]; rfl)
            have n62 : ¬ m.tx i = 62 := z
            refine k_Mo_next_301 ok (fun z => ?_) (fun z => ?_)
            · have n33 : ¬ m.tx i = 33 := z
              refine k_Mo_next_311 ok ?_
              refine sg 5 (Or.inr rfl) ?_
              have hno : sG (m.tx i) = false := by
                unfold sG
                rw [if_neg n123, if_neg n125, if_neg n46, if_neg n61, if_neg n60, if_neg n62, if_neg n33]
              rw [hrk, hno]
              rfl
            · exact s4 (by rw [show m.tx i = 33 from z]; rfl)
          · -- a variable
            have z63 : m.tx i = 63 := z
            have hte : te_ m.tx m.ln i = lxL m.tx (m.ln - (i + 1)) (i + 1) := by
              unfold te_
              rw [if_neg hnl, if_neg hnd, if_pos z63]
            have hrv : rV m.tx m.ln i = lv m.tx (i + 1) (min 8 (te_ m.tx m.ln i - i - 1)) := by
              unfold rV
              rw [if_neg hnl, if_pos z63]
            have hrk : rK m.tx m.ln i = if te_ m.tx m.ln i - i - 1 < 1 then 5 else if 8 < te_ m.tx m.ln i - i - 1 then 5 else 3 := by
              unfold rK
              rw [if_neg hnl, if_neg hnd, if_pos z63]
            refine k_Mo_next_218 ok rW_58 (by rw [nI_1]; exact mo_letters3 (i + 1) a1 (by omega)) (gF_h E.nR (by decide) (by decide)) (fun _ _ q => qM_len q) ?_
            rintro r M' ⟨m2, ⟨rfl, rfl⟩, rfl⟩
            have e3 : lxL ((((m.u_bh m.en).u_sa i).u_kd 0).u_en (i + 1)).tx (((((m.u_bh m.en).u_sa i).u_kd 0).u_en (i + 1)).ln - (i + 1)) (i + 1) = te_ m.tx m.ln i := hte.symm
            rw [e3]
            have e4 : te_ m.tx m.ln i - (i + 1) = te_ m.tx m.ln i - i - 1 := by omega
            rw [e4]
            obtain ⟨e, he⟩ : ∃ e, e = te_ m.tx m.ln i := ⟨_, rfl⟩
            obtain ⟨t, ht⟩ : ∃ t, t = lv m.tx (i + 1) (min 8 (te_ m.tx m.ln i - i - 1)) := ⟨_, rfl⟩
            have e5 : lv ((((m.u_bh m.en).u_sa i).u_kd 0).u_en (i + 1)).tx (i + 1) (min 8 (te_ m.tx m.ln i - i - 1)) = t := ht.symm
            rw [e5, ← he]
            rw [← he] at hrk te1 te2
            refine k_Mo_next_226 ok rW_58 (Nat.le_refl 59) (sF_Mo_18 rfl) (sO_Mo_18 rfl) (mo_in _ _ _) (gF_h E.nR (by decide) (by decide)) (fun _ _ q => qM_len q) ?_
            rintro r M' ⟨m2, ⟨rfl, rfl⟩, rfl⟩
            have sg : ∀ k, (k = 3 ∨ k = 5) → rK m.tx m.ln i = k → gg X (W9 c (m.d_nx i 0 e t) o) 0 0 252 [(0, .ref 58)] [.int (nI k), .ref 58] := by
              intro k hk hrk9
              refine k_Mo_next_252 ok rW_58 (Nat.le_refl 59) (sF_Mo_15 rfl) (sO_Mo_15 rfl) ?_
              refine k_Mo_next_315 ok E ⟨_, ⟨rfl, nx_mk3 h i k e t (by omega) (by omega) h2 (by omega) (fun z => by omega) ⟨fun _ => by omega, fun _ => by omega⟩ (NX_mk hsk hlt hrk9 he.symm (fun _ => hrv.trans ht.symm))⟩, rfl⟩ (Nat.le_refl _) (Nat.le_refl _)
            have e6 : nI e - nI i - 1 = nI (e - i - 1) := nS (nS rfl rfl (by omega)) (nL 1) (by omega)
            refine k_Mo_next_244 ok (fun z => have z := bI_0 z; ?_) (fun z => have z := bI_1 z; ?_)
            · refine k_Mo_next_251 ok ?_
              refine sg 5 (Or.inr rfl) ?_
              have z9 : rI (nI e - nI i - 1) 1 8 = false := z
              rw [e6] at z9
              rw [hrk]
              by_cases h9 : e - i - 1 < 1
              · rw [if_pos h9]
              · rw [if_neg h9]
                by_cases h10 : 8 < e - i - 1
                · rw [if_pos h10]
                · exfalso
                  have w9 : ∀ v, ¬ v < 1 → ¬ 8 < v → ¬ rI (nI v) 1 8 = false := by
                    intro v w1 w2
                    have : v = 1 ∨ v = 2 ∨ v = 3 ∨ v = 4 ∨ v = 5 ∨ v = 6 ∨ v = 7 ∨ v = 8 := by omega
                    rcases this with rfl | rfl | rfl | rfl | rfl | rfl | rfl | rfl <;> decide
                  exact w9 _ h9 h10 z9
            · refine k_Mo_next_247 ok ?_
              refine sg 3 (Or.inl rfl) ?_
              have z9 : rI (nI e - nI i - 1) 1 8 = true := z
              rw [e6] at z9
              obtain ⟨j, j1, j2, j3⟩ := rI_nat (a := 1) (b := 8) (by decide) (by decide) z9
              have j4 : e - i - 1 = j := nEq rfl rfl (by omega) (by omega) j3
              rw [hrk, if_neg (by omega), if_neg (by omega)]
        · -- a number
          have hd0 : dG (m.tx i) = true := z
          have hte : te_ m.tx m.ln i = lxD m.tx (m.ln - i) i := by
            unfold te_
            rw [if_neg hnl, if_pos hd0]
          have hrk : rK m.tx m.ln i = if 4 < te_ m.tx m.ln i - i then 5 else 2 := by
            unfold rK
            rw [if_neg hnl, if_pos hd0]
          have hnodg : ∀ t : Int64, dG (m.tx i) = false → rV m.tx m.ln i = t := by
            intro t q
            rw [hd0] at q
            cases q
          refine k_Mo_next_117 ok rW_58 (Nat.le_refl 59) sF_Mo_16 (sO_Mo_16 rfl) ?_
          have nl : ∀ r j t, j + r = m.ln → i ≤ j → (∃ n, n < 10 ^ (min (j - i) 4) ∧ t = lN n) → lxD m.tx r j = te_ m.tx m.ln i → gg X (W9 c (m.d_nx i 0 (i + 1) t) o) 0 0 122 [(0, .ref 58), (1, .int (nI j))] [] := by
            intro r
            have fin : ∀ j t, i ≤ j → j ≤ m.ln → (∃ n, n < 10 ^ (min (j - i) 4) ∧ t = lN n) → te_ m.tx m.ln i = j → gg X (W9 c (m.d_nx i 0 (i + 1) t) o) 0 0 182 [(0, .ref 58), (1, .int (nI j))] [] := by
              intro j t q1 q2 q3 q4
              have tn : ¬ t = -1 := by
                obtain ⟨n, hn, rfl⟩ := q3
                have h4 : 10 ^ (min (j - i) 4) ≤ 10 ^ 4 := Nat.pow_le_pow_right (by decide) (Nat.min_le_right _ _)
                intro e
                have h5 := congrArg Int64.toInt e
                rw [lN_toInt (by omega)] at h5
                have h6 : (-1 : Int64).toInt = -1 := by decide
                omega
              have sg : ∀ k, (k = 2 ∨ k = 5) → rK m.tx m.ln i = k → gg X (W9 c (m.d_nx i 0 j t) o) 0 0 206 [(0, .ref 58)] [.int (nI k), .ref 58] := by
                intro k hk hrk9
                refine k_Mo_next_206 ok rW_58 (Nat.le_refl 59) (sF_Mo_15 rfl) (sO_Mo_15 rfl) ?_
                refine k_Mo_next_315 ok E ⟨_, ⟨rfl, nx_mk3 h i k j t (by omega) q2 h2 (by omega) (fun z => by omega) ⟨fun _ => by omega, fun _ => tn⟩ (NX_mk hsk hlt hrk9 q4 (hnodg t))⟩, rfl⟩ (Nat.le_refl _) (Nat.le_refl _)
              have e4 : (m.d_nx i 0 (i + 1) t).sa = i := rfl
              have e5 : nI j - nI i = nI (j - i) := nS rfl rfl (by omega)
              rw [q4] at hrk
              refine k_Mo_next_182 ok rW_58 (Nat.le_refl 59) (sF_Mo_18 rfl) (sO_Mo_18 rfl) rF_Mo_17 (fun z => have z := (nLe (nS rfl rfl (by omega)) (nL 4) (by omega) (by omega) z); ?_) (fun z => have z := (nNle (nS rfl rfl (by omega)) (nL 4) (by omega) (by omega) z); ?_)
              · refine k_Mo_next_205 ok ?_
                exact sg 2 (Or.inl rfl) (by rw [hrk, if_neg (by omega)])
              · refine k_Mo_next_201 ok ?_
                exact sg 5 (Or.inr rfl) (by rw [hrk, if_pos (by omega)])
            induction r with
            | zero =>
              intro j t q1 q2 q3 q4
              have e3 : (m.d_nx i 0 (i + 1) t).ln = m.ln := rfl
              refine k_Mo_next_122 ok rW_58 rF_Mo_13 (fun z => have z := (nLe rfl rfl (by omega) (by omega) z); ?_) (fun z => have z := (nNle rfl rfl (by omega) (by omega) z); ?_)
              · exact fin j t q2 (by omega) q3 q4.symm
              · omega
            | succ r ih =>
              intro j t q1 q2 q3 q4
              have e3 : (m.d_nx i 0 (i + 1) t).ln = m.ln := rfl
              have e4 : (m.d_nx i 0 (i + 1) t).sa = i := rfl
              have cj : (nI j).toNatClampNeg = j := nC rfl (by omega)
              have go : ∀ t, (∃ n, n < 10 ^ (min (j + 1 - i) 4) ∧ t = lN n) → dG (m.tx j) = true → gg X (W9 c (m.d_nx i 0 (i + 1) t) o) 0 0 176 [(0, .ref 58), (1, .int (nI j))] [] := by
                intro t ht hd
                have e9 : lxD m.tx (r + 1) j = lxD m.tx r (j + 1) := by
                  show (if dG (m.tx j) = true then _ else _) = _
                  rw [if_pos hd]
                refine k_Mo_next_176 ok E.nL ?_
                rw [nI_1]
                exact ih (j + 1) t (by omega) (by omega) ht (e9.symm.trans q4)
              refine k_Mo_next_122 ok rW_58 rF_Mo_13 (fun z => have z := (nLe rfl rfl (by omega) (by omega) z); ?_) (fun z => have z := (nNle rfl rfl (by omega) (by omega) z); ?_)
              · omega
              refine k_Mo_next_130 ok rW_58 rF_Mo_12 rW_64 (vin rfl (by omega) (by decide)) (mo_isFigure _) (gF_h E.nR (by decide) (by decide)) (fun _ _ q => qM_len q) ?_
              rintro r M' ⟨m2, ⟨rfl, rfl⟩, rfl⟩
              rw [cj]
              refine k_Mo_next_139 ok (fun z => have z := bI_0 z; ?_) (fun z => have z := bI_1 z; ?_)
              · have z9 : dG (m.tx j) = false := z
                have e9 : lxD m.tx (r + 1) j = j := by
                  show (if dG (m.tx j) = true then _ else _) = _
                  rw [z9]
                  rfl
                exact fin j t q2 (by omega) q3 (q4.symm.trans e9)
              have hd : rI (m.tx j) 48 57 = true := z
              obtain ⟨d, hd1, hd2, ed⟩ := rI_nat (a := 48) (b := 57) (by decide) (by decide) hd
              obtain ⟨n, hn, rfl⟩ := q3
              refine k_Mo_next_142 ok rW_58 rF_Mo_17 (fun z => have z := (nLe (nL 4) (nS rfl rfl (by omega)) (by omega) (by omega) z); ?_) (fun z => have z := (nNle (nL 4) (nS rfl rfl (by omega)) (by omega) (by omega) z); ?_)
              · refine go _ ⟨n, ?_, rfl⟩ hd
                rw [show min (j + 1 - i) 4 = min (j - i) 4 by omega]
                exact hn
              · refine k_Mo_next_152 ok rW_58 rF_Mo_16 rF_Mo_12 rW_64 (vin rfl (by omega) (by decide)) (Nat.le_refl 59) sF_Mo_16 (sO_Mo_16 rfl) ?_
                rw [cj]
                have e5 : (m.d_nx i 0 (i + 1) (lN n)).tx j = nI d := ed
                rw [e5]
                have hp : min (j - i) 4 = j - i := by omega
                have hp1 : min (j + 1 - i) 4 = (j - i) + 1 := by omega
                rw [hp] at hn
                have h10 : 10 ^ (j - i) ≤ 10 ^ 3 := Nat.pow_le_pow_right (by decide) (by omega)
                have e6 : 10 * (m.d_nx i 0 (i + 1) (lN n)).tk + (nI d).toInt64 - 48 = lN (10 * n + d - 48) := by
                  show lN 10 * lN n + (nI d).toInt64 - lN 48 = _
                  rw [nI_l (by omega), lN_mul, lN_add, lN_sub (by omega)]
                rw [e6]
                refine go _ ⟨10 * n + d - 48, ?_, rfl⟩ hd
                rw [hp1, Nat.pow_succ]
                omega
          exact nl (m.ln - i) i 0 (by omega) (Nat.le_refl _) ⟨0, by rw [Nat.sub_self]; decide, rfl⟩ hte.symm
      · -- a word
        have hlet : tL (m.tx i) = true := z
        have hte : te_ m.tx m.ln i = lxL m.tx (m.ln - i) i := by
          unfold te_
          rw [if_pos hlet]
        have hrv : rV m.tx m.ln i = lv m.tx i (min 8 (te_ m.tx m.ln i - i)) := by
          unfold rV
          rw [if_pos hlet]
        have hrk : rK m.tx m.ln i = if 8 < te_ m.tx m.ln i - i then 5 else 1 := by
          unfold rK
          rw [if_pos hlet]
        refine k_Mo_next_78 ok rW_58 (mo_letters3 i (by exact a1) (by exact h2)) (gF_h E.nR (by decide) (by decide)) (fun _ _ q => qM_len q) ?_
        rintro r M' ⟨m2, ⟨rfl, rfl⟩, rfl⟩
        have e3 : lxL ((((m.u_bh m.en).u_sa i).u_kd 0).u_en (i + 1)).tx (((((m.u_bh m.en).u_sa i).u_kd 0).u_en (i + 1)).ln - i) i = te_ m.tx m.ln i := hte.symm
        rw [e3]
        obtain ⟨e, he⟩ : ∃ e, e = te_ m.tx m.ln i := ⟨_, rfl⟩
        obtain ⟨t, ht⟩ : ∃ t, t = lv m.tx i (min 8 (te_ m.tx m.ln i - i)) := ⟨_, rfl⟩
        have e5 : lv ((((m.u_bh m.en).u_sa i).u_kd 0).u_en (i + 1)).tx i (min 8 (te_ m.tx m.ln i - i)) = t := ht.symm
        rw [e5, ← he]
        have ht0 : e - i ≤ 8 → ¬ t = 0 := by
          intro h8 h9
          have w := lv_pos m.tx i (e - i) (by omega) h8 (fun p w1 w2 => lxL_at m.tx (m.ln - i) i p w1 (by rw [← hte]; omega))
          have e7 : min 8 (te_ m.tx m.ln i - i) = e - i := by omega
          rw [e7] at ht
          rw [← ht, h9] at w
          revert w
          decide
        rw [← he] at hrk te1 te2
        have sg : ∀ k, (k = 1 ∧ e - i ≤ 8 ∨ k = 5) → rK m.tx m.ln i = k → gg X (W9 c (m.d_nx i 0 e t) o) 0 0 104 [(0, .ref 58)] [.int (nI k), .ref 58] := by
          intro k hk hrk9
          refine k_Mo_next_104 ok rW_58 (Nat.le_refl 59) (sF_Mo_15 rfl) (sO_Mo_15 rfl) ?_
          refine k_Mo_next_315 ok E ⟨_, ⟨rfl, nx_mk3 h i k e t (by omega) te2 h2 (by omega) (fun z => by omega) ⟨fun _ => ht0 (by omega), fun _ => by omega⟩ (NX_mk hsk hlt hrk9 he.symm (fun _ => hrv.trans ht.symm))⟩, rfl⟩ (Nat.le_refl _) (Nat.le_refl _)
        have e8 : nI e - nI i = nI (e - i) := nS rfl rfl (by omega)
        refine k_Mo_next_84 ok rW_58 (Nat.le_refl 59) (sF_Mo_18 rfl) (sO_Mo_18 rfl) (fun z => have z := (nLe (nS rfl rfl (by omega)) (nL 8) (by omega) (by omega) z); ?_) (fun z => have z := (nNle (nS rfl rfl (by omega)) (nL 8) (by omega) (by omega) z); ?_)
        · refine k_Mo_next_103 ok ?_
          exact sg 1 (Or.inl ⟨rfl, by omega⟩) (by rw [hrk, if_neg (by omega)])
        · refine k_Mo_next_99 ok ?_
          exact sg 5 (Or.inr rfl) (by rw [hrk, if_pos (by omega)])
    · have hge : ¬ i < m.ln := by
        have z9 : i = (((m.u_bh m.en).u_sa i).u_kd 0).ln := z
        omega
      refine k_Mo_next_56 ok E ⟨_, ⟨rfl, nx_mk3 h i 0 m.en m.tk (Nat.le_refl _) a2 h2 (by decide) (fun z => (nomatch z)) ⟨fun z => (nomatch z), fun z => (nomatch z)⟩ (NX_end hsk hge)⟩, rfl⟩ (Nat.le_refl _) (Nat.le_refl _)
  refine k_Mo_next_0 ok E.nL rW_58 rF_Mo_18 (Nat.le_refl 59) (sF_Mo_19 rfl) (sO_Mo_19 rfl) ?_
  have loop : ∀ r i, i + r = m.ln → m.en ≤ i → sk_ m.tx m.ln m.en = sk_ m.tx m.ln i → gg X (W9 c (m.u_bh m.en) o) 0 0 13 [(0, .ref 58), (1, .int (nI i))] [] := by
    intro r
    induction r with
    | zero =>
      intro i h1 h2 h3
      have e1 : (m.u_bh m.en).ln = m.ln := rfl
      have ei : i = m.ln := by omega
      have h4 : sk_ m.tx m.ln i = i := by rw [ei]; exact sk_end _ _
      refine k_Mo_next_13 ok rW_58 rF_Mo_13 (fun z => have z := (nLe rfl rfl (by omega) (by omega) z); ?_) (fun z => have z := (nNle rfl rfl (by omega) (by omega) z); ?_)
      · exact tail i h2 (by omega) (h3.trans h4)
      · omega
    | succ r ih =>
      intro i h1 h2 h3
      have e1 : (m.u_bh m.en).ln = m.ln := rfl
      have ci : (nI i).toNatClampNeg = i := nC rfl (by omega)
      refine k_Mo_next_13 ok rW_58 rF_Mo_13 (fun z => have z := (nLe rfl rfl (by omega) (by omega) z); ?_) (fun z => have z := (nNle rfl rfl (by omega) (by omega) z); ?_)
      · omega
      refine k_Mo_next_21 ok rW_58 rF_Mo_12 rW_64 (vin rfl (by omega) (by decide)) (fun z => ?_) (fun z => ?_)
      · rw [ci] at z
        exact tail i h2 (by omega) (h3.trans (sk_no m.tx m.ln i (by omega) z))
      rw [ci] at z
      refine k_Mo_next_32 ok E.nL ?_
      rw [nI_1]
      exact ih (i + 1) (by omega) (by omega) (h3.trans (sk_sp m.tx m.ln i (by omega) z))
  exact loop (m.ln - m.en) m.en (by omega) (Nat.le_refl _) rfl
theorem mo_next3 (h : m.tI) : mm_ l y_Mo_next w_Mo_next (rmh 4) [.ref 58] (W9 c m o) (qM c o (fun r m' => r = none ∧ St m m' ∧ m'.wr = m.wr ∧ m'.bh = m.en ∧ NX m m')) := by
  obtain ⟨a1, a2, a3, a4, a5, a6, a7, a8, a9, -⟩ := h
  refine mm_imp (mo_nextG3 ⟨a1, a2, Nat.zero_le _, Nat.zero_le _, Nat.zero_le _, fun z => (nomatch z), a7, a8, a9, fun z => (nomatch z), fun z => (nomatch z)⟩) ?_
  rintro r M' ⟨m', ⟨q1, ⟨w1, w2, w3, w4, w5⟩, q3, q4, q5⟩, e⟩
  exact ⟨m', ⟨q1, ⟨w1, w2, by rw [q4]; exact a3, w4, w5⟩, q3, q4, q5⟩, e⟩
/-- the place that a stop here notes -/
def MS.pl (m : MS) : Nat := if m.kd = 0 then m.bh else m.sa
theorem mo_stop3 (h : m.tI) : mm_ l y_Mo_stop w_Mo_stop (rmh 1) [.ref 58] (W9 c m o) (qM c o (fun r m' => r = none ∧ ¬ m'.wr < 0 ∧ ∃ x, m' = m.u_wr x ∧ (m.wr < 0 → x = nI m.pl) ∧ (¬ m.wr < 0 → x = m.wr))) := by
  obtain ⟨a1, a2, a3, a4, a5, -⟩ := id h
  refine mm_intro (by decide) (Nat.le_of_ble_eq_true rfl) i_Mo_stop (fun X ok E => ?_)
  refine k_Mo_stop_0 ok rW_58 rF_Mo_20 (fun z => ?_) (fun z => ?_)
  · have hz : ¬ m.wr < 0 := Int32.not_lt.mpr z
    refine k_Mo_stop_29 ok E ⟨_, ⟨rfl, hz, m.wr, rfl, fun q => absurd q hz, fun _ => rfl⟩, rfl⟩ (Nat.le_refl _) (Nat.le_refl _)
  · have hw : m.wr < 0 := Int32.not_le.mp z
    have fin : ∀ j, j ≤ 160 → m.pl = j → gg X (W9 c m o) 0 0 26 [(0, .ref 58)] [.int (nI j), .ref 58] := by
      intro j hj hp
      refine k_Mo_stop_26 ok rW_58 (Nat.le_refl 59) sF_Mo_20 (sO_Mo_20 rfl) ?_
      refine k_Mo_stop_29 ok E ⟨_, ⟨rfl, by exact nI_pos (by omega), _, rfl, fun _ => by rw [hp], fun q => absurd hw q⟩, rfl⟩ (Nat.le_refl _) (Nat.le_refl _)
    refine k_Mo_stop_7 ok rW_58 rF_Mo_15 (fun z => have z := (nNe rfl (nL 0) (by omega) (by omega) z); ?_) (fun z => have z := (nEq rfl (nL 0) (by omega) (by omega) z); ?_)
    · refine k_Mo_stop_22 ok rW_58 rF_Mo_17 ?_
      exact fin m.sa (by omega) (if_neg z)
    · refine k_Mo_stop_15 ok rW_58 rF_Mo_19 ?_
      exact fin m.bh (by omega) (if_pos z)
/-- goOn: one token further, or the place -/
theorem mo_goOn3 (h : m.tI) (b : Bool) : mm_ l y_Mo_goOn w_Mo_goOn (rmh 5) [.ref 58, .int (bI b)] (W9 c m o) (qM c o (fun r m' => ∃ b', r = some (.int (bI b')) ∧ St m m' ∧ (b' = true → b = true ∧ m'.wr < 0 ∧ m'.bh = m.en ∧ m'.wr = m.wr ∧ NX m m') ∧ (b' = false → ¬ m'.wr < 0 ∧ ∃ x, m' = m.u_wr x ∧ (m.wr < 0 → b = false ∧ x = nI m.pl) ∧ (¬ m.wr < 0 → x = m.wr)))) := by
  refine mm_intro (by decide) (Nat.le_of_ble_eq_true rfl) i_Mo_goOn (fun X ok E => ?_)
  refine k_Mo_goOn_0 ok (fun z => have z := bI_1 z; ?_) (fun z => have z := bI_0 z; ?_)
  · subst z
    refine k_Mo_goOn_8 ok rW_58 rF_Mo_20 (fun z => ?_) (fun z => ?_)
    · refine k_Mo_goOn_17 ok rW_58 (mo_next3 h) (gF_h E.nR (by decide) (by decide)) (fun _ _ q => qM_len q) ?_
      rintro r M' ⟨m2, ⟨rfl, q1, q2, q3, q4⟩, rfl⟩
      refine k_Mo_goOn_21 ok E ⟨_, ⟨true, rfl, q1, fun _ => ⟨rfl, by rw [q2]; exact z, q3, q2, q4⟩, fun z => (nomatch z)⟩, rfl⟩ (Nat.le_refl _) (Nat.le_refl _)
    · refine k_Mo_goOn_15 ok E ⟨_, ⟨false, rfl, St.refl h, fun z => (nomatch z), fun _ => ⟨z, m.wr, rfl, fun q => absurd q z, fun _ => rfl⟩⟩, rfl⟩ (Nat.le_refl _) (Nat.le_refl _)
  · subst z
    refine k_Mo_goOn_4 ok rW_58 (mo_stop3 h) (gF_h E.nR (by decide) (by decide)) (fun _ _ q => qM_len q) ?_
    rintro r M' ⟨m2, ⟨rfl, q1, x, rfl, q2, q3⟩, rfl⟩
    refine k_Mo_goOn_8 ok rW_58 rF_Mo_20 (fun z => absurd z q1) (fun _ => ?_)
    refine k_Mo_goOn_15 ok E ⟨_, ⟨false, rfl, wr_St h x q1, fun z => (nomatch z), fun _ => ⟨q1, x, rfl, fun q => ⟨rfl, q2 q⟩, q3⟩⟩, rfl⟩ (Nat.le_refl _) (Nat.le_refl _)
end RX5
