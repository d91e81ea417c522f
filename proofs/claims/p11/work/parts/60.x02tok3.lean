/-! THE CLASS'S TOKENS, exactly -/
section CT3
variable {l : Launch} {c : CS} {m : MS} {o : Nat → Int64}
theorem te_dig (x : Int32) : mm_ l y_Te_isDigit w_Te_isDigit (rmh 1) [.int x] (W9 c m o) (qC m o (fun r c' => r = some (.int (bI (dG x))) ∧ c' = c)) := by
  refine mm_intro (by decide) (Nat.le_of_ble_eq_true rfl) i_Te_isDigit (fun X ok E => ?_)
  have no : dG x = false → gg X (W9 c m o) 0 0 16 [] [] := by
    intro h
    refine k_Te_isDigit_16 ok ?_
    refine k_Te_isDigit_17 ok E rfl ⟨_, ⟨by rw [h]; rfl, rfl⟩, rfl⟩ (Nat.le_refl _) (Nat.le_refl _)
  refine k_Te_isDigit_0 ok (fun z => no (by rw [dG, rI, if_pos z])) (fun z1 => ?_)
  refine k_Te_isDigit_6 ok (fun z => no (by rw [dG, rI, if_neg z1, if_pos z])) (fun z2 => ?_)
  refine k_Te_isDigit_12 ok ?_
  refine k_Te_isDigit_17 ok E rfl ⟨_, ⟨by rw [dG, rI, if_neg z1, if_neg z2]; rfl, rfl⟩, rfl⟩ (Nat.le_refl _) (Nat.le_refl _)
theorem to_sign2 (x : Int32) : mm_ l y_To_isSign w_To_isSign (rmh 1) [.int x] (W9 c m o) (qC m o (fun r c' => r = some (.int (bI (sG x))) ∧ c' = c)) := by
  refine mm_intro (by decide) (Nat.le_of_ble_eq_true rfl) i_To_isSign (fun X ok E => ?_)
  have fin : ∀ b : Bool, sG x = b → gg X (W9 c m o) 0 0 47 [] [.int (bI b)] := by
    intro b h
    refine k_To_isSign_47 ok E (bI_nar _) ⟨_, ⟨by rw [h], rfl⟩, rfl⟩ (Nat.le_refl _) (Nat.le_refl _)
  refine k_To_isSign_0 ok (fun z0 => ?_) (fun z0 => ?_)
  · refine k_To_isSign_42 ok ?_
    first | exact fin true (by simp [sG, *]) | exact fin false (by simp [sG, *])
  · refine k_To_isSign_6 ok (fun z6 => ?_) (fun z6 => ?_)
    · refine k_To_isSign_42 ok ?_
      first | exact fin true (by simp [sG, *]) | exact fin false (by simp [sG, *])
    · refine k_To_isSign_12 ok (fun z12 => ?_) (fun z12 => ?_)
      · refine k_To_isSign_42 ok ?_
        first | exact fin true (by simp [sG, *]) | exact fin false (by simp [sG, *])
      · refine k_To_isSign_18 ok (fun z18 => ?_) (fun z18 => ?_)
        · refine k_To_isSign_42 ok ?_
          first | exact fin true (by simp [sG, *]) | exact fin false (by simp [sG, *])
        · refine k_To_isSign_24 ok (fun z24 => ?_) (fun z24 => ?_)
          · refine k_To_isSign_42 ok ?_
            first | exact fin true (by simp [sG, *]) | exact fin false (by simp [sG, *])
          · refine k_To_isSign_30 ok (fun z30 => ?_) (fun z30 => ?_)
            · refine k_To_isSign_42 ok ?_
              first | exact fin true (by simp [sG, *]) | exact fin false (by simp [sG, *])
            · refine k_To_isSign_36 ok (fun z36 => ?_) (fun z36 => ?_)
              · refine k_To_isSign_46 ok ?_
                first | exact fin true (by simp [sG, *]) | exact fin false (by simp [sG, *])
              · refine k_To_isSign_42 ok ?_
                first | exact fin true (by simp [sG, *]) | exact fin false (by simp [sG, *])
theorem to_key2 (x : Int64) : mm_ l y_To_isKey w_To_isKey (rmh 1) [.long x] (W9 c m o) (qC m o (fun r c' => r = some (.int (bI (kG x))) ∧ c' = c)) := by
  refine mm_intro (by decide) (Nat.le_of_ble_eq_true rfl) i_To_isKey (fun X ok E => ?_)
  have fin : ∀ b : Bool, kG x = b → gg X (W9 c m o) 0 0 93 [] [.int (bI b)] := by
    intro b h
    refine k_To_isKey_93 ok E (bI_nar _) ⟨_, ⟨by rw [h], rfl⟩, rfl⟩ (Nat.le_refl _) (Nat.le_refl _)
  refine k_To_isKey_0 ok (fun z0 => ?_) (fun z0 => ?_)
  · refine k_To_isKey_88 ok ?_
    first | exact fin true (by simp [kG, *]) | exact fin false (by simp [kG, *])
  · refine k_To_isKey_8 ok (fun z8 => ?_) (fun z8 => ?_)
    · refine k_To_isKey_88 ok ?_
      first | exact fin true (by simp [kG, *]) | exact fin false (by simp [kG, *])
    · refine k_To_isKey_16 ok (fun z16 => ?_) (fun z16 => ?_)
      · refine k_To_isKey_88 ok ?_
        first | exact fin true (by simp [kG, *]) | exact fin false (by simp [kG, *])
      · refine k_To_isKey_24 ok (fun z24 => ?_) (fun z24 => ?_)
        · refine k_To_isKey_88 ok ?_
          first | exact fin true (by simp [kG, *]) | exact fin false (by simp [kG, *])
        · refine k_To_isKey_32 ok (fun z32 => ?_) (fun z32 => ?_)
          · refine k_To_isKey_88 ok ?_
            first | exact fin true (by simp [kG, *]) | exact fin false (by simp [kG, *])
          · refine k_To_isKey_40 ok (fun z40 => ?_) (fun z40 => ?_)
            · refine k_To_isKey_88 ok ?_
              first | exact fin true (by simp [kG, *]) | exact fin false (by simp [kG, *])
            · refine k_To_isKey_48 ok (fun z48 => ?_) (fun z48 => ?_)
              · refine k_To_isKey_88 ok ?_
                first | exact fin true (by simp [kG, *]) | exact fin false (by simp [kG, *])
              · refine k_To_isKey_56 ok (fun z56 => ?_) (fun z56 => ?_)
                · refine k_To_isKey_88 ok ?_
                  first | exact fin true (by simp [kG, *]) | exact fin false (by simp [kG, *])
                · refine k_To_isKey_64 ok (fun z64 => ?_) (fun z64 => ?_)
                  · refine k_To_isKey_88 ok ?_
                    first | exact fin true (by simp [kG, *]) | exact fin false (by simp [kG, *])
                  · refine k_To_isKey_72 ok (fun z72 => ?_) (fun z72 => ?_)
                    · refine k_To_isKey_88 ok ?_
                      first | exact fin true (by simp [kG, *]) | exact fin false (by simp [kG, *])
                    · refine k_To_isKey_80 ok (fun z80 => ?_) (fun z80 => ?_)
                      · refine k_To_isKey_92 ok ?_
                        first | exact fin true (by simp [kG, *]) | exact fin false (by simp [kG, *])
                      · refine k_To_isKey_88 ok ?_
                        first | exact fin true (by simp [kG, *]) | exact fin false (by simp [kG, *])
theorem to_eol2 (n f : Nat) (hn : n ≤ 160) (hf : f ≤ n) : mm_ l y_To_endOfLetters w_To_endOfLetters (rmh 2) [.ref 12, .int (nI n), .int (nI f)] (W9 c m o) (qC m o (fun r c' => r = some (.int (nI (lxL c.tx (n - f) f))) ∧ c' = c)) := by
  refine mm_intro (by decide) (Nat.le_of_ble_eq_true rfl) i_To_endOfLetters (fun X ok E => ?_)
  refine k_To_endOfLetters_0 ok E.nL ?_
  have L1 : ∀ r i, i + r = n → f ≤ i → lxL c.tx r i = lxL c.tx (n - f) f → gg X (W9 c m o) 0 0 2 [(0, .ref 12), (1, .int (nI n)), (3, .int (nI i))] [] := by
    intro r
    induction r with
    | zero =>
      intro i hi hf h
      refine k_To_endOfLetters_2 ok (fun z => have z := (nLe rfl rfl (by omega) (by omega) z); ?_) (fun z => have z := (nNle rfl rfl (by omega) (by omega) z); ?_)
      · refine k_To_endOfLetters_22 ok E ⟨_, ⟨by rw [← h]; rfl, rfl⟩, rfl⟩ (Nat.le_refl _) (Nat.le_refl _)
      · omega
    | succ r ih =>
      intro i hi hf h
      have ci : (nI i).toNatClampNeg = i := nC rfl (by omega)
      refine k_To_endOfLetters_2 ok (fun z => have z := (nLe rfl rfl (by omega) (by omega) z); ?_) (fun z => have z := (nNle rfl rfl (by omega) (by omega) z); ?_)
      · omega
      refine k_To_endOfLetters_7 ok rW_12 (vin rfl (by omega) (by decide)) (te_isLetter _) (gF_h E.nR (by decide) (by decide)) (fun _ _ q => qC_len q) ?_
      rintro r M' ⟨c, ⟨rfl, rfl⟩, rfl⟩
      refine k_To_endOfLetters_13 ok (fun z => have z := bI_0 z; ?_) (fun z => have z := bI_1 z; ?_)
      · rw [ci] at z
        have e : lxL c.tx (r + 1) i = i := by
          show (if tL (c.tx i) = true then _ else _) = _
          rw [z]
          rfl
        refine k_To_endOfLetters_22 ok E ⟨_, ⟨by rw [← h, e], rfl⟩, rfl⟩ (Nat.le_refl _) (Nat.le_refl _)
      · rw [ci] at z
        have e : lxL c.tx (r + 1) i = lxL c.tx r (i + 1) := by
          show (if tL (c.tx i) = true then _ else _) = _
          rw [z]
          rfl
        refine k_To_endOfLetters_16 ok E.nL ?_
        rw [nI_1]
        exact ih (i + 1) (by omega) (by omega) (by rw [← h, e])
  exact L1 (n - f) f (by omega) (Nat.le_refl _) rfl
theorem to_packed2 (f e : Nat) (hf : f ≤ 161) (he : e ≤ 160) : mm_ l y_To_packed w_To_packed (rmh 1) [.ref 12, .int (nI f), .int (nI e)] (W9 c m o) (qC m o (fun r c' => r = some (.long (pk c.tx f e 8)) ∧ c' = c)) := by
  refine mm_intro (by decide) (Nat.le_of_ble_eq_true rfl) i_To_packed (fun X ok E => ?_)
  refine k_To_packed_0 ok E.nL ?_
  have L1 : ∀ r k, k + r = 8 → gg X (W9 c m o) 0 0 5 [(0, .ref 12), (1, .int (nI f)), (2, .int (nI e)), (3, .long (pk c.tx f e k)), (5, .int (nI (f + k)))] [] := by
    intro r
    induction r with
    | zero =>
      intro k hk
      refine k_To_packed_5 ok (fun z => have z := (nLe (nA rfl (nL 8)) rfl (by omega) (by omega) z); ?_) (fun z => have z := (nNle (nA rfl (nL 8)) rfl (by omega) (by omega) z); ?_)
      · have e8 : k = 8 := by omega
        subst e8
        refine k_To_packed_41 ok E ⟨_, ⟨rfl, rfl⟩, rfl⟩ (Nat.le_refl _) (Nat.le_refl _)
      · omega
    | succ r ih =>
      intro k hk
      have ci : (nI (f + k)).toNatClampNeg = f + k := nC rfl (by omega)
      have nx : ∀ a : Int32, (if f + k < e then (c.tx (f + k)).toInt64 else 0) = a.toInt64 → gg X (W9 c m o) 0 0 32 [(0, .ref 12), (1, .int (nI f)), (2, .int (nI e)), (5, .int (nI (f + k)))] [.int a, .long (pk c.tx f e k <<< ((8 : Int32).toInt64 &&& 63))] := by
        intro a ha
        refine k_To_packed_32 ok E.nL ?_
        have e1 : pk c.tx f e k <<< ((8 : Int32).toInt64 &&& 63) ||| a.toInt64 = pk c.tx f e (k + 1) := by
          show _ = s8 (pk c.tx f e k) ||| (if f + k < e then _ else _)
          rw [ha]
          rfl
        rw [e1, nI_1]
        exact ih (k + 1) (by omega)
      refine k_To_packed_5 ok (fun z => have z := (nLe (nA rfl (nL 8)) rfl (by omega) (by omega) z); ?_) (fun z => have z := (nNle (nA rfl (nL 8)) rfl (by omega) (by omega) z); ?_)
      · omega
      refine k_To_packed_14 ok (fun z => have z := (nLe rfl rfl (by omega) (by omega) z); ?_) (fun z => have z := (nNle rfl rfl (by omega) (by omega) z); ?_)
      · refine k_To_packed_31 ok ?_
        exact nx 0 (by rw [if_neg (by omega)]; rfl)
      · refine k_To_packed_24 ok rW_12 (vin rfl (by omega) (by decide)) ?_
        rw [ci]
        exact nx _ (if_pos (by omega))
  exact L1 8 0 rfl
theorem to_readWord2 (h : c.kn ≤ 160) (n f : Nat) (hn : n ≤ 160) (hf : f < n) (hl : tL (c.tx f) = true) : mm_ l y_To_readWord w_To_readWord (rmh 3) [.ref 13, .ref 12, .int (nI n), .int (nI f)] (W9 c m o) (qC m o (fun r c' => r = some (.int (nI (te_ c.tx n f))) ∧ c' = c.d_tok (cK c.tx n f) (cV c.tx n f) (nI f))) := by
  obtain ⟨t1, t2⟩ := te_le c.tx n f hf
  have et : te_ c.tx n f = lxL c.tx (n - f) f := by
    unfold te_
    rw [if_pos hl]
  refine mm_intro (by decide) (Nat.le_of_ble_eq_true rfl) i_To_readWord (fun X ok E => ?_)
  refine k_To_readWord_0 ok (to_eol2 n f hn (by omega)) (gF_h E.nR (by decide) (by decide)) (fun _ _ q => qC_len q) ?_
  rintro r M' ⟨c, ⟨rfl, rfl⟩, rfl⟩
  rw [← et]
  refine k_To_readWord_6 ok E.nL (to_packed2 f (te_ c.tx n f) (by omega) (by omega)) (gF_h E.nR (by decide) (by decide)) (fun _ _ q => qC_len q) ?_
  rintro r M' ⟨c, ⟨rfl, rfl⟩, rfl⟩
  refine k_To_readWord_15 ok E.nL (fun z => have z := (nLe (nS rfl rfl (by omega)) (nL 8) (by omega) (by omega) z); ?_) (fun z => have z := (nNle (nS rfl rfl (by omega)) (nL 8) (by omega) (by omega) z); ?_)
  · have hv : cV c.tx n f = pk c.tx f (te_ c.tx n f) 8 := by
      unfold cV
      rw [if_pos hl, if_pos z]
    have hk : cK c.tx n f = if kG (pk c.tx f (te_ c.tx n f) 8) = true then 2 else 4 := by
      unfold cK
      rw [if_pos hl, if_pos z]
    have k50 : ∀ x, cK c.tx n f = x → gg X (W9 c m o) 0 0 50 [(0, .ref 13), (3, .int (nI f)), (4, .int (nI (te_ c.tx n f))), (5, .long (pk c.tx f (te_ c.tx n f) 8))] [.int x, .ref 13] := by
      intro x hx
      refine k_To_readWord_50 ok rW_13 (to_note h _ _ _) (gF_h E.nR (by decide) (by decide)) (fun _ _ q => qC_len q) ?_
      rintro r M' ⟨c2, ⟨rfl, rfl⟩, rfl⟩
      refine k_To_readWord_56 ok E ⟨_, ⟨rfl, by rw [hx, hv]⟩, rfl⟩ (Nat.le_refl _) (Nat.le_refl _)
    refine k_To_readWord_36 ok (to_key2 _) (gF_h E.nR (by decide) (by decide)) (fun _ _ q => qC_len q) ?_
    rintro r M' ⟨c, ⟨rfl, rfl⟩, rfl⟩
    refine k_To_readWord_42 ok (fun z => have z := bI_0 z; ?_) (fun z => have z := bI_1 z; ?_)
    · refine k_To_readWord_49 ok ?_
      exact k50 4 (by rw [hk, z]; rfl)
    · refine k_To_readWord_45 ok ?_
      exact k50 2 (by rw [hk, z]; rfl)
  · have hv : cV c.tx n f = 0 := by
      unfold cV
      rw [if_pos hl, if_neg (by omega)]
    have hk : cK c.tx n f = 1 := by
      unfold cK
      rw [if_pos hl, if_neg (by omega)]
    refine k_To_readWord_26 ok rW_13 (to_note h _ _ _) (gF_h E.nR (by decide) (by decide)) (fun _ _ q => qC_len q) ?_
    rintro r M' ⟨c2, ⟨rfl, rfl⟩, rfl⟩
    refine k_To_readWord_33 ok ?_
    refine k_To_readWord_56 ok E ⟨_, ⟨rfl, by rw [hk, hv]⟩, rfl⟩ (Nat.le_refl _) (Nat.le_refl _)
theorem to_readVariable2 (h : c.kn ≤ 160) (n f : Nat) (hn : n ≤ 160) (hf : f < n) (hl : ¬ tL (c.tx f) = true) (hd : ¬ dG (c.tx f) = true) (hq : c.tx f = 63) : mm_ l y_To_readVariable w_To_readVariable (rmh 3) [.ref 13, .ref 12, .int (nI n), .int (nI f)] (W9 c m o) (qC m o (fun r c' => r = some (.int (nI (te_ c.tx n f))) ∧ c' = c.d_tok (cK c.tx n f) (cV c.tx n f) (nI f))) := by
  obtain ⟨t1, t2⟩ := te_le c.tx n f hf
  have et : te_ c.tx n f = lxL c.tx (n - (f + 1)) (f + 1) := by
    unfold te_
    rw [if_neg hl, if_neg hd, if_pos hq]
  have hv : cV c.tx n f = pk c.tx (f + 1) (te_ c.tx n f) 8 := by
    unfold cV
    rw [if_neg hl, if_neg hd, if_pos hq]
  have hk : cK c.tx n f = if te_ c.tx n f - f - 1 < 1 then 1 else if 8 < te_ c.tx n f - f - 1 then 1 else 5 := by
    unfold cK
    rw [if_neg hl, if_neg hd, if_pos hq]
  refine mm_intro (by decide) (Nat.le_of_ble_eq_true rfl) i_To_readVariable (fun X ok E => ?_)
  have e1 : nI f + 1 = nI (f + 1) := nI_1 f
  refine k_To_readVariable_0 ok (by rw [e1]; exact to_eol2 n (f + 1) hn (by omega)) (gF_h E.nR (by decide) (by decide)) (fun _ _ q => qC_len q) ?_
  rintro r M' ⟨c, ⟨rfl, rfl⟩, rfl⟩
  rw [← et]
  have k49 : ∀ x, cK c.tx n f = x → gg X (W9 c m o) 0 0 49 [(0, .ref 13), (1, .ref 12), (3, .int (nI f)), (4, .int (nI (te_ c.tx n f)))] [.int x, .ref 13] := by
    intro x hx
    refine k_To_readVariable_49 ok (by rw [e1]; exact to_packed2 (f + 1) (te_ c.tx n f) (by omega) (by omega)) (gF_h E.nR (by decide) (by decide)) (fun _ _ q => qC_len q) ?_
    rintro r M' ⟨c, ⟨rfl, rfl⟩, rfl⟩
    refine k_To_readVariable_58 ok rW_13 (to_note h _ _ _) (gF_h E.nR (by decide) (by decide)) (fun _ _ q => qC_len q) ?_
    rintro r M' ⟨c2, ⟨rfl, rfl⟩, rfl⟩
    refine k_To_readVariable_62 ok E ⟨_, ⟨rfl, by rw [hx, hv]⟩, rfl⟩ (Nat.le_refl _) (Nat.le_refl _)
  have k36 : ∀ b : Bool, (cK c.tx n f = if b = true then 5 else 1) → gg X (W9 c m o) 0 0 36 [(0, .ref 13), (1, .ref 12), (3, .int (nI f)), (4, .int (nI (te_ c.tx n f)))] [.int (bI b)] := by
    intro b hb
    refine k_To_readVariable_36 ok E.nL (fun z => have z := bI_0 z; ?_) (fun z => have z := bI_1 z; ?_)
    · refine k_To_readVariable_48 ok ?_
      exact k49 1 (by rw [hb, z]; rfl)
    · refine k_To_readVariable_44 ok ?_
      exact k49 5 (by rw [hb, z]; rfl)
  have k35 : cK c.tx n f = 1 → gg X (W9 c m o) 0 0 35 [(0, .ref 13), (1, .ref 12), (3, .int (nI f)), (4, .int (nI (te_ c.tx n f)))] [] := by
    intro hx
    refine k_To_readVariable_35 ok ?_
    exact k36 false hx
  refine k_To_readVariable_8 ok E.nL (fun z => have z := (nLt (nS (nS rfl rfl (by omega)) (nL 1) (by omega)) (nL 1) (by omega) (by omega) z); ?_) (fun z => have z := (nNlt (nS (nS rfl rfl (by omega)) (nL 1) (by omega)) (nL 1) (by omega) (by omega) z); ?_)
  · exact k35 (by rw [hk, if_pos (by omega)])
  have e5 : nI (te_ c.tx n f) - nI f - 1 = nI (te_ c.tx n f - f - 1) := nS (nS rfl rfl (by omega)) (nL 1) (by omega)
  rw [e5]
  refine k_To_readVariable_24 ok (fun z => have z := (nLt (nL 8) rfl (by omega) (by omega) z); ?_) (fun z => have z := (nNlt (nL 8) rfl (by omega) (by omega) z); ?_)
  · exact k35 (by rw [hk, if_neg (by omega), if_pos z])
  · refine k_To_readVariable_31 ok ?_
    exact k36 true (by rw [hk, if_neg (by omega), if_neg (by omega)]; rfl)
theorem to_readNumber2 (h : c.kn ≤ 160) (n f : Nat) (hn : n ≤ 160) (hf : f < n) (hl : ¬ tL (c.tx f) = true) (hd : dG (c.tx f) = true) : mm_ l y_To_readNumber w_To_readNumber (rmh 3) [.ref 13, .ref 12, .int (nI n), .int (nI f)] (W9 c m o) (qC m o (fun r c' => r = some (.int (nI (te_ c.tx n f))) ∧ c' = c.d_tok (cK c.tx n f) (cV c.tx n f) (nI f))) := by
  obtain ⟨t1, t2⟩ := te_le c.tx n f hf
  have et : te_ c.tx n f = lxD c.tx (n - f) f := by
    unfold te_
    rw [if_neg hl, if_pos hd]
  have hv : cV c.tx n f = (nv_ c.tx (n - f) f 0 + 1).toInt64 := by
    unfold cV
    rw [if_neg hl, if_pos hd]
  have hk : cK c.tx n f = if 4 < te_ c.tx n f - f then 1 else 4 := by
    unfold cK
    rw [if_neg hl, if_pos hd]
  refine mm_intro (by decide) (Nat.le_of_ble_eq_true rfl) i_To_readNumber (fun X ok E => ?_)
  refine k_To_readNumber_0 ok E.nL ?_
  have fin : ∀ v, v = nv_ c.tx (n - f) f 0 → gg X (W9 c m o) 0 0 43 [(0, .ref 13), (3, .int (nI f)), (4, .int (nI (te_ c.tx n f))), (5, .int v)] [] := by
    intro v hv9
    have k57 : ∀ x, cK c.tx n f = x → gg X (W9 c m o) 0 0 57 [(0, .ref 13), (3, .int (nI f)), (4, .int (nI (te_ c.tx n f))), (5, .int v)] [.int x, .ref 13] := by
      intro x hx
      refine k_To_readNumber_57 ok rW_13 (to_note h _ _ _) (gF_h E.nR (by decide) (by decide)) (fun _ _ q => qC_len q) ?_
      rintro r M' ⟨c2, ⟨rfl, rfl⟩, rfl⟩
      refine k_To_readNumber_66 ok E ⟨_, ⟨rfl, by rw [hx, hv, hv9]⟩, rfl⟩ (Nat.le_refl _) (Nat.le_refl _)
    refine k_To_readNumber_43 ok (fun z => have z := (nLt (nL 4) (nS rfl rfl (by omega)) (by omega) (by omega) z); ?_) (fun z => have z := (nNlt (nL 4) (nS rfl rfl (by omega)) (by omega) (by omega) z); ?_)
    · refine k_To_readNumber_56 ok ?_
      exact k57 1 (by rw [hk, if_pos z])
    · refine k_To_readNumber_52 ok ?_
      exact k57 4 (by rw [hk, if_neg (by omega)])
  have L1 : ∀ r i v, i + r = n → f ≤ i → lxD c.tx r i = te_ c.tx n f → nv_ c.tx r i v = nv_ c.tx (n - f) f 0 → gg X (W9 c m o) 0 0 6 [(0, .ref 13), (1, .ref 12), (2, .int (nI n)), (3, .int (nI f)), (4, .int (nI i)), (5, .int v)] [] := by
    intro r
    induction r with
    | zero =>
      intro i v hi hf h1 h2
      have e1 : te_ c.tx n f = i := h1.symm
      refine k_To_readNumber_6 ok (fun z => have z := (nLe rfl rfl (by omega) (by omega) z); ?_) (fun z => have z := (nNle rfl rfl (by omega) (by omega) z); ?_)
      · rw [← e1]
        exact fin v h2
      · omega
    | succ r ih =>
      intro i v hi hf h1 h2
      have ci : (nI i).toNatClampNeg = i := nC rfl (by omega)
      refine k_To_readNumber_6 ok (fun z => have z := (nLe rfl rfl (by omega) (by omega) z); ?_) (fun z => have z := (nNle rfl rfl (by omega) (by omega) z); ?_)
      · omega
      refine k_To_readNumber_12 ok rW_12 (vin rfl (by omega) (by decide)) (te_dig _) (gF_h E.nR (by decide) (by decide)) (fun _ _ q => qC_len q) ?_
      rintro r M' ⟨c, ⟨rfl, rfl⟩, rfl⟩
      refine k_To_readNumber_19 ok (fun z => have z := bI_0 z; ?_) (fun z => have z := bI_1 z; ?_)
      · rw [ci] at z
        have e1 : lxD c.tx (r + 1) i = i := by
          show (if dG (c.tx i) = true then _ else _) = _
          rw [z]
          rfl
        have e2 : nv_ c.tx (r + 1) i v = v := by
          show (if dG (c.tx i) = true then _ else _) = _
          rw [z]
          rfl
        rw [e1] at h1
        rw [h1]
        exact fin v (by rw [← h2, e2])
      · rw [ci] at z
        have e1 : lxD c.tx (r + 1) i = lxD c.tx r (i + 1) := by
          show (if dG (c.tx i) = true then _ else _) = _
          rw [z]
          rfl
        have e2 : nv_ c.tx (r + 1) i v = nv_ c.tx r (i + 1) (v * 10 + (c.tx i - 48)) := by
          show (if dG (c.tx i) = true then _ else _) = _
          rw [z]
          rfl
        refine k_To_readNumber_22 ok E.nL rW_12 (vin rfl (by omega) (by decide)) ?_
        rw [nI_1, ci]
        exact ih (i + 1) _ (by omega) (by omega) (by rw [← h1, e1]) (by rw [← h2, e2])
  exact L1 (n - f) f 0 (by omega) (Nat.le_refl _) et.symm rfl
theorem to_readToken2 (h : c.kn ≤ 160) (n f : Nat) (hn : n ≤ 160) (hf : f < n) : mm_ l y_To_readToken w_To_readToken (rmh 4) [.ref 13, .ref 12, .int (nI n), .int (nI f)] (W9 c m o) (qC m o (fun r c' => r = some (.int (nI (te_ c.tx n f))) ∧ c' = c.d_tok (cK c.tx n f) (cV c.tx n f) (nI f))) := by
  have ci : (nI f).toNatClampNeg = f := nC rfl (by omega)
  refine mm_intro (by decide) (Nat.le_of_ble_eq_true rfl) i_To_readToken (fun X ok E => ?_)
  refine k_To_readToken_0 ok E.nL rW_12 (vin rfl (by omega) (by decide)) (te_isLetter _) (gF_h E.nR (by decide) (by decide)) (fun _ _ q => qC_len q) ?_
  rintro r M' ⟨c, ⟨rfl, rfl⟩, rfl⟩
  rw [ci]
  refine k_To_readToken_10 ok (fun z => have z := bI_0 z; ?_) (fun z => have z := bI_1 z; ?_)
  · have hl : ¬ tL (c.tx f) = true := by rw [z]; exact (by decide)
    refine k_To_readToken_21 ok (te_dig _) (gF_h E.nR (by decide) (by decide)) (fun _ _ q => qC_len q) ?_
    rintro r M' ⟨c, ⟨rfl, rfl⟩, rfl⟩
    refine k_To_readToken_26 ok (fun z => have z := bI_0 z; ?_) (fun z => have z := bI_1 z; ?_)
    · have hd : ¬ dG (c.tx f) = true := by rw [z]; exact (by decide)
      refine k_To_readToken_37 ok (fun z => ?_) (fun z => ?_)
      · have et : te_ c.tx n f = f + 1 := by
          unfold te_
          rw [if_neg hl, if_neg hd, if_neg z]
        have hv : cV c.tx n f = (c.tx f).toInt64 := by
          unfold cV
          rw [if_neg hl, if_neg hd, if_neg z]
        have hk : cK c.tx n f = if sG (c.tx f) = true then 3 else 1 := by
          unfold cK
          rw [if_neg hl, if_neg hd, if_neg z]
        refine k_To_readToken_52 ok (to_sign2 _) (gF_h E.nR (by decide) (by decide)) (fun _ _ q => qC_len q) ?_
        rintro r M' ⟨c, ⟨rfl, rfl⟩, rfl⟩
        have k66 : ∀ x, cK c.tx n f = x → gg X (W9 c m o) 0 0 66 [(0, .ref 13), (3, .int (nI f)), (4, .int (c.tx f))] [.int x, .ref 13] := by
          intro x hx
          refine k_To_readToken_66 ok rW_13 (to_note h _ _ _) (gF_h E.nR (by decide) (by decide)) (fun _ _ q => qC_len q) ?_
          rintro r M' ⟨c2, ⟨rfl, rfl⟩, rfl⟩
          refine k_To_readToken_73 ok E ⟨_, ⟨by rw [nI_1, et], by rw [hx, hv]⟩, rfl⟩ (Nat.le_refl _) (Nat.le_refl _)
        refine k_To_readToken_58 ok (fun z => have z := bI_0 z; ?_) (fun z => have z := bI_1 z; ?_)
        · refine k_To_readToken_65 ok ?_
          exact k66 1 (by rw [hk, z]; rfl)
        · refine k_To_readToken_61 ok ?_
          exact k66 3 (by rw [hk, z]; rfl)
      · refine k_To_readToken_44 ok rW_13 (to_readVariable2 h n f hn hf hl hd z) (gF_h E.nR (by decide) (by decide)) (fun _ _ q => qC_len q) ?_
        rintro r M' ⟨c2, ⟨rfl, rfl⟩, rfl⟩
        refine k_To_readToken_51 ok E ⟨_, ⟨rfl, rfl⟩, rfl⟩ (Nat.le_refl _) (Nat.le_refl _)
    · refine k_To_readToken_29 ok rW_13 (to_readNumber2 h n f hn hf hl z) (gF_h E.nR (by decide) (by decide)) (fun _ _ q => qC_len q) ?_
      rintro r M' ⟨c2, ⟨rfl, rfl⟩, rfl⟩
      refine k_To_readToken_36 ok E ⟨_, ⟨rfl, rfl⟩, rfl⟩ (Nat.le_refl _) (Nat.le_refl _)
  · refine k_To_readToken_13 ok rW_13 (to_readWord2 h n f hn hf z) (gF_h E.nR (by decide) (by decide)) (fun _ _ q => qC_len q) ?_
    rintro r M' ⟨c2, ⟨rfl, rfl⟩, rfl⟩
    refine k_To_readToken_20 ok E ⟨_, ⟨rfl, rfl⟩, rfl⟩ (Nat.le_refl _) (Nat.le_refl _)
/-- so far j tokens -/
def TJ (tx : Nat → Int32) (ln : Nat) (c : CS) (j : Nat) : Prop := ∀ t, t < j → (PE tx ln t).1 < ln ∧ c.kk t = cK tx ln (PE tx ln t).1 ∧ c.kv t = cV tx ln (PE tx ln t).1 ∧ c.kp t = nI (PE tx ln t).1
theorem Tk.tx {c1 c2 : CS} (h : Tk c1 c2) : c2.tx = c1.tx := congrArg (fun g : CS1 => CS.tx ((c1.1.1, (g, c1.1.2.2)), c1.2)) h.2.1
theorem TJ_tok {tx : Nat → Int32} {ln j : Nat} {c : CS} (h : TJ tx ln c j) (hj : c.kn = j) (x : Int32) (v : Int64) (p : Int32) : TJ tx ln (c.d_tok x v p) j ∧ (c.d_tok x v p).kk j = x ∧ (c.d_tok x v p).kv j = v ∧ (c.d_tok x v p).kp j = p := by
  refine ⟨fun t ht => ?_, ?_, ?_, ?_⟩
  · have e1 : (c.d_tok x v p).kk t = c.kk t := by
      show upd c.kk c.kn x t = _
      unfold upd
      rw [if_neg (by omega)]
    have e2 : (c.d_tok x v p).kv t = c.kv t := by
      show vp_updL c.kv c.kn v t = _
      unfold vp_updL
      rw [if_neg (by omega)]
    have e3 : (c.d_tok x v p).kp t = c.kp t := by
      show upd c.kp c.kn p t = _
      unfold upd
      rw [if_neg (by omega)]
    rw [e1, e2, e3]
    exact h t ht
  · show upd c.kk c.kn x j = x
    unfold upd
    rw [if_pos hj.symm]
  · show vp_updL c.kv c.kn v j = v
    unfold vp_updL
    rw [if_pos hj.symm]
  · show upd c.kp c.kn p j = p
    unfold upd
    rw [if_pos hj.symm]
theorem to_readAll3 (n : Nat) (hn : n ≤ 160) : mm_ l y_To_readAll w_To_readAll (rmh 5) [.ref 13, .ref 12, .int (nI n)] (W9 c m o) (qC m o (fun r c' => r = none ∧ Tk c c' ∧ c'.ka = 0 ∧ ∃ k, TA3 c.tx n c' k)) := by
  refine mm_intro (by decide) (Nat.le_of_ble_eq_true rfl) i_To_readAll (fun X ok E => ?_)
  refine k_To_readAll_0 ok E.nL rW_13 (Nat.le_refl 5) (sF_To_4 (v := 0) (by decide)) (sO_To_4 rfl) (sF_To_3 (v := 0) (by decide)) (sO_To_3 rfl) ?_
  have fin : ∀ c1 j e, Tk c c1 → c1.ka = 0 → c1.kn = j → j ≤ 160 → TJ c.tx n c1 j → PE c.tx n j = (n, e) → gg X (W9 c1 m o) 0 0 62 [(0, .ref 13), (4, .int (nI e))] [] := by
    intro c1 j e q1 q2 q3 q4 q5 q6
    obtain ⟨w1, w2, w3, w4⟩ := TJ_tok q5 q3 0 0 (nI e)
    refine k_To_readAll_62 ok rW_13 (to_note (by omega) _ _ _) (gF_h E.nR (by decide) (by decide)) (fun _ _ q => qC_len q) ?_
    rintro r M' ⟨c2, ⟨rfl, rfl⟩, rfl⟩
    refine k_To_readAll_70 ok E ⟨c1.d_tok 0 0 (nI e), ⟨rfl, q1.trans ⟨rfl, rfl, rfl⟩, q2, j, by show c1.kn + 1 = j + 1; rw [q3], q4, w1, by rw [q6], w2, w3, by rw [w4, q6]⟩, rfl⟩ (Nat.le_refl _) (Nat.le_refl _)
  have L1 : ∀ r i c1 p e j, i + r = 160 → p ≤ n → (i ≤ p ∨ p = n) → Tk c c1 → c1.ka = 0 → c1.kn = j → j ≤ i → TJ c.tx n c1 j → PE c.tx n j = (sk_ c.tx n p, e) → gg X (W9 c1 m o) 0 0 18 [(0, .ref 13), (1, .ref 12), (2, .int (nI n)), (3, .int (nI p)), (4, .int (nI e)), (5, .int (nI i))] [] := by
    intro r
    induction r with
    | zero =>
      intro i c1 p e j hi hp hip q1 q2 q3 q4 q5 q6
      have ep : p = n := by omega
      subst ep
      rw [sk_end] at q6
      refine k_To_readAll_18 ok (fun z => have z := (nLe (nL 160) rfl (by omega) (by omega) z); ?_) (fun z => have z := (nNle (nL 160) rfl (by omega) (by omega) z); ?_)
      · exact fin c1 j e q1 q2 q3 (by omega) q5 q6
      · omega
    | succ r ih =>
      intro i c1 p e j hi hp hip q1 q2 q3 q4 q5 q6
      have ci : (nI p).toNatClampNeg = p := nC rfl (by omega)
      have ex := q1.tx
      refine k_To_readAll_18 ok (fun z => have z := (nLe (nL 160) rfl (by omega) (by omega) z); ?_) (fun z => have z := (nNle (nL 160) rfl (by omega) (by omega) z); ?_)
      · omega
      refine k_To_readAll_26 ok (fun z => have z := (nLe rfl rfl (by omega) (by omega) z); ?_) (fun z => have z := (nNle rfl rfl (by omega) (by omega) z); ?_)
      · have ep : p = n := by omega
        subst ep
        rw [sk_end] at q6
        exact fin c1 j e q1 q2 q3 (by omega) q5 q6
      refine k_To_readAll_31 ok rW_12 (vin rfl (by omega) (by decide)) (fun z => ?_) (fun z => ?_)
      · rw [ci, ex] at z
        have es := sk_no c.tx n p (by omega) z
        rw [es] at q6
        obtain ⟨t1, t2⟩ := te_le c.tx n p (by omega)
        refine k_To_readAll_45 ok rW_13 (to_readToken2 (by omega) n p hn (by omega)) (gF_h E.nR (by decide) (by decide)) (fun _ _ q => qC_len q) ?_
        rintro r M' ⟨c2, ⟨rfl, rfl⟩, rfl⟩
        rw [ex]
        obtain ⟨w1, w2, w3, w4⟩ := TJ_tok q5 q3 (cK c.tx n p) (cV c.tx n p) (nI p)
        have e1 : (PE c.tx n j).1 = p := by rw [q6]
        refine k_To_readAll_52 ok E.nL ?_
        refine k_To_readAll_56 ok E.nL ?_
        rw [nI_1]
        refine ih (i + 1) _ (te_ c.tx n p) (te_ c.tx n p) (j + 1) (by omega) t2 (by omega) (q1.trans ⟨rfl, rfl, rfl⟩) q2 (by show c1.kn + 1 = j + 1; rw [q3]) (by omega) (fun t ht => ?_) ?_
        · by_cases q9 : t = j
          · subst q9
            rw [e1, w2, w3, w4]
            exact ⟨by omega, rfl, rfl, rfl⟩
          · exact w1 t (by omega)
        · show (if (PE c.tx n j).1 < n then _ else _) = _
          rw [e1, if_pos (by omega)]
      · rw [ci, ex] at z
        have es := sk_sp c.tx n p (by omega) z
        rw [es] at q6
        refine k_To_readAll_39 ok E.nL ?_
        refine k_To_readAll_56 ok E.nL ?_
        rw [nI_1, nI_1]
        exact ih (i + 1) c1 (p + 1) e j (by omega) (by omega) (by omega) q1 q2 q3 (by omega) q5 q6
  exact L1 160 0 _ 0 0 0 rfl (Nat.zero_le _) (Or.inl (Nat.le_refl _)) (by exact Tk.refl (c := c)) rfl rfl (Nat.le_refl _) (fun t ht => absurd ht (Nat.not_lt_zero _)) rfl
end CT3
