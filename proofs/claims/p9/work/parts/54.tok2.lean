/-! THE CLASS: its tokens, on every text -/
section CTk
variable {l : Launch} {c : CS} {m : MS} {o : Nat → Int64}
/-- all but the tokens is as it was -/
def Tk (c c' : CS) : Prop := c'.1.1 = c.1.1 ∧ c'.1.2.1 = c.1.2.1 ∧ c'.2 = c.2
theorem Tk.refl : Tk c c := ⟨rfl, rfl, rfl⟩
theorem Tk.trans {c1 c2 c3 : CS} (h1 : Tk c1 c2) (h2 : Tk c2 c3) : Tk c1 c3 := ⟨h2.1.trans h1.1, h2.2.1.trans h1.2.1, h2.2.2.trans h1.2.2⟩
theorem te_isLetter (x : Int32) : mm_ l y_Te_isLetter w_Te_isLetter (rmh 1) [.int x] (W9 c m o) (qC m o (fun r c' => r = some (.int (bI (tL x))) ∧ c' = c)) := mm_imp (m_Te_isLetter x) (fun r M' h => ⟨_, ⟨h.1, rfl⟩, h.2⟩)
theorem te_isDigit (x : Int32) : mm_ l y_Te_isDigit w_Te_isDigit (rmh 1) [.int x] (W9 c m o) (qC m o (fun r c' => ∃ b, r = some (.int (bI b)) ∧ c' = c)) := by
  refine mm_intro (by decide) (Nat.le_of_ble_eq_true rfl) i_Te_isDigit (fun X ok E => ?_)
  have fin : ∀ b : Bool, gg X (W9 c m o) 0 0 17 [] [.int (bI b)] := by
    intro b
    refine k_Te_isDigit_17 ok E (bI_nar _) ⟨_, ⟨b, rfl, rfl⟩, rfl⟩ (Nat.le_refl _) (Nat.le_refl _)
  refine k_Te_isDigit_0 ok (fun z0 => ?_) (fun z0 => ?_)
  · refine k_Te_isDigit_16 ok ?_
    first | exact fin true | exact fin false
  · refine k_Te_isDigit_6 ok (fun z6 => ?_) (fun z6 => ?_)
    · refine k_Te_isDigit_16 ok ?_
      first | exact fin true | exact fin false
    · refine k_Te_isDigit_12 ok ?_
      first | exact fin true | exact fin false
theorem to_isSign (x : Int32) : mm_ l y_To_isSign w_To_isSign (rmh 1) [.int x] (W9 c m o) (qC m o (fun r c' => ∃ b, r = some (.int (bI b)) ∧ c' = c)) := by
  refine mm_intro (by decide) (Nat.le_of_ble_eq_true rfl) i_To_isSign (fun X ok E => ?_)
  have fin : ∀ b : Bool, gg X (W9 c m o) 0 0 47 [] [.int (bI b)] := by
    intro b
    refine k_To_isSign_47 ok E (bI_nar _) ⟨_, ⟨b, rfl, rfl⟩, rfl⟩ (Nat.le_refl _) (Nat.le_refl _)
  refine k_To_isSign_0 ok (fun z0 => ?_) (fun z0 => ?_)
  · refine k_To_isSign_42 ok ?_
    first | exact fin true | exact fin false
  · refine k_To_isSign_6 ok (fun z6 => ?_) (fun z6 => ?_)
    · refine k_To_isSign_42 ok ?_
      first | exact fin true | exact fin false
    · refine k_To_isSign_12 ok (fun z12 => ?_) (fun z12 => ?_)
      · refine k_To_isSign_42 ok ?_
        first | exact fin true | exact fin false
      · refine k_To_isSign_18 ok (fun z18 => ?_) (fun z18 => ?_)
        · refine k_To_isSign_42 ok ?_
          first | exact fin true | exact fin false
        · refine k_To_isSign_24 ok (fun z24 => ?_) (fun z24 => ?_)
          · refine k_To_isSign_42 ok ?_
            first | exact fin true | exact fin false
          · refine k_To_isSign_30 ok (fun z30 => ?_) (fun z30 => ?_)
            · refine k_To_isSign_42 ok ?_
              first | exact fin true | exact fin false
            · refine k_To_isSign_36 ok (fun z36 => ?_) (fun z36 => ?_)
              · refine k_To_isSign_46 ok ?_
                first | exact fin true | exact fin false
              · refine k_To_isSign_42 ok ?_
                first | exact fin true | exact fin false
theorem to_isKey (x : Int64) : mm_ l y_To_isKey w_To_isKey (rmh 1) [.long x] (W9 c m o) (qC m o (fun r c' => ∃ b, r = some (.int (bI b)) ∧ c' = c)) := by
  refine mm_intro (by decide) (Nat.le_of_ble_eq_true rfl) i_To_isKey (fun X ok E => ?_)
  have fin : ∀ b : Bool, gg X (W9 c m o) 0 0 93 [] [.int (bI b)] := by
    intro b
    refine k_To_isKey_93 ok E (bI_nar _) ⟨_, ⟨b, rfl, rfl⟩, rfl⟩ (Nat.le_refl _) (Nat.le_refl _)
  refine k_To_isKey_0 ok (fun z0 => ?_) (fun z0 => ?_)
  · refine k_To_isKey_88 ok ?_
    first | exact fin true | exact fin false
  · refine k_To_isKey_8 ok (fun z8 => ?_) (fun z8 => ?_)
    · refine k_To_isKey_88 ok ?_
      first | exact fin true | exact fin false
    · refine k_To_isKey_16 ok (fun z16 => ?_) (fun z16 => ?_)
      · refine k_To_isKey_88 ok ?_
        first | exact fin true | exact fin false
      · refine k_To_isKey_24 ok (fun z24 => ?_) (fun z24 => ?_)
        · refine k_To_isKey_88 ok ?_
          first | exact fin true | exact fin false
        · refine k_To_isKey_32 ok (fun z32 => ?_) (fun z32 => ?_)
          · refine k_To_isKey_88 ok ?_
            first | exact fin true | exact fin false
          · refine k_To_isKey_40 ok (fun z40 => ?_) (fun z40 => ?_)
            · refine k_To_isKey_88 ok ?_
              first | exact fin true | exact fin false
            · refine k_To_isKey_48 ok (fun z48 => ?_) (fun z48 => ?_)
              · refine k_To_isKey_88 ok ?_
                first | exact fin true | exact fin false
              · refine k_To_isKey_56 ok (fun z56 => ?_) (fun z56 => ?_)
                · refine k_To_isKey_88 ok ?_
                  first | exact fin true | exact fin false
                · refine k_To_isKey_64 ok (fun z64 => ?_) (fun z64 => ?_)
                  · refine k_To_isKey_88 ok ?_
                    first | exact fin true | exact fin false
                  · refine k_To_isKey_72 ok (fun z72 => ?_) (fun z72 => ?_)
                    · refine k_To_isKey_88 ok ?_
                      first | exact fin true | exact fin false
                    · refine k_To_isKey_80 ok (fun z80 => ?_) (fun z80 => ?_)
                      · refine k_To_isKey_92 ok ?_
                        first | exact fin true | exact fin false
                      · refine k_To_isKey_88 ok ?_
                        first | exact fin true | exact fin false
theorem to_eol (n f : Nat) (hn : n ≤ 160) (hf : f ≤ n) : mm_ l y_To_endOfLetters w_To_endOfLetters (rmh 2) [.ref 12, .int (nI n), .int (nI f)] (W9 c m o) (qC m o (fun r c' => ∃ e, r = some (.int (nI e)) ∧ c' = c ∧ f ≤ e ∧ e ≤ n)) := by
  refine mm_intro (by decide) (Nat.le_of_ble_eq_true rfl) i_To_endOfLetters (fun X ok E => ?_)
  refine k_To_endOfLetters_0 ok E.nL ?_
  have L1 : ∀ r i, i + r = n → f ≤ i → gg X (W9 c m o) 0 0 2 [(0, .ref 12), (1, .int (nI n)), (3, .int (nI i))] [] := by
    intro r
    induction r with
    | zero =>
      intro i hi hf
      refine k_To_endOfLetters_2 ok (fun z => have z := (nLe rfl rfl (by omega) (by omega) z); ?_) (fun z => have z := (nNle rfl rfl (by omega) (by omega) z); ?_)
      · refine k_To_endOfLetters_22 ok E ⟨_, ⟨i, rfl, rfl, hf, by omega⟩, rfl⟩ (Nat.le_refl _) (Nat.le_refl _)
      · omega
    | succ r ih =>
      intro i hi hf
      refine k_To_endOfLetters_2 ok (fun z => have z := (nLe rfl rfl (by omega) (by omega) z); ?_) (fun z => have z := (nNle rfl rfl (by omega) (by omega) z); ?_)
      · omega
      refine k_To_endOfLetters_7 ok rW_12 (vin rfl (by omega) (by decide)) (te_isLetter _) (gF_h E.nR (by decide) (by decide)) (fun _ _ q => qC_len q) ?_
      rintro r M' ⟨c, ⟨rfl, rfl⟩, rfl⟩
      refine k_To_endOfLetters_13 ok (fun z => ?_) (fun z => ?_)
      · refine k_To_endOfLetters_22 ok E ⟨_, ⟨i, rfl, rfl, hf, by omega⟩, rfl⟩ (Nat.le_refl _) (Nat.le_refl _)
      · refine k_To_endOfLetters_16 ok E.nL ?_
        rw [nI_1]
        exact ih (i + 1) (by omega) (by omega)
  exact L1 (n - f) f (by omega) (Nat.le_refl _)
theorem to_packed (f e : Nat) (hf : f ≤ 161) (he : e ≤ 160) : mm_ l y_To_packed w_To_packed (rmh 1) [.ref 12, .int (nI f), .int (nI e)] (W9 c m o) (qC m o (fun r c' => ∃ v, r = some (.long v) ∧ c' = c)) := by
  refine mm_intro (by decide) (Nat.le_of_ble_eq_true rfl) i_To_packed (fun X ok E => ?_)
  refine k_To_packed_0 ok E.nL ?_
  have L1 : ∀ r i v, i + r = f + 8 → gg X (W9 c m o) 0 0 5 [(0, .ref 12), (1, .int (nI f)), (2, .int (nI e)), (3, .long v), (5, .int (nI i))] [] := by
    intro r
    induction r with
    | zero =>
      intro i v hi
      refine k_To_packed_5 ok (fun z => have z := (nLe (nA rfl (nL 8)) rfl (by omega) (by omega) z); ?_) (fun z => have z := (nNle (nA rfl (nL 8)) rfl (by omega) (by omega) z); ?_)
      · refine k_To_packed_41 ok E ⟨_, ⟨v, rfl, rfl⟩, rfl⟩ (Nat.le_refl _) (Nat.le_refl _)
      · omega
    | succ r ih =>
      intro i v hi
      have nx : ∀ a v, gg X (W9 c m o) 0 0 32 [(0, .ref 12), (1, .int (nI f)), (2, .int (nI e)), (5, .int (nI i))] [.int a, .long v] := by
        intro a v
        refine k_To_packed_32 ok E.nL ?_
        rw [nI_1]
        exact ih (i + 1) _ (by omega)
      refine k_To_packed_5 ok (fun z => have z := (nLe (nA rfl (nL 8)) rfl (by omega) (by omega) z); ?_) (fun z => have z := (nNle (nA rfl (nL 8)) rfl (by omega) (by omega) z); ?_)
      · omega
      refine k_To_packed_14 ok (fun z => have z := (nLe rfl rfl (by omega) (by omega) z); ?_) (fun z => have z := (nNle rfl rfl (by omega) (by omega) z); ?_)
      · refine k_To_packed_31 ok ?_
        exact nx _ _
      · refine k_To_packed_24 ok rW_12 (vin rfl (by omega) (by decide)) ?_
        exact nx _ _
  exact L1 8 f 0 rfl
/-- a token was noted -/
def Tn (c c' : CS) : Prop := Tk c c' ∧ c'.kn = c.kn + 1 ∧ c'.ka = c.ka
theorem to_noteN (h : c.kn ≤ 160) (x : Int32) (v : Int64) (p : Int32) : mm_ l y_To_note w_To_note (rmh 1) [.ref 13, .int x, .long v, .int p] (W9 c m o) (qC m o (fun r c' => r = none ∧ Tn c c')) := mm_imp (to_note h x v p) (fun r M' ⟨c', q, e⟩ => ⟨c', ⟨q.1, by rw [q.2]; exact ⟨⟨rfl, rfl, rfl⟩, rfl, rfl⟩⟩, e⟩)
theorem to_readWord (h : c.kn ≤ 160) (n f : Nat) (hn : n ≤ 160) (hf : f ≤ n) : mm_ l y_To_readWord w_To_readWord (rmh 3) [.ref 13, .ref 12, .int (nI n), .int (nI f)] (W9 c m o) (qC m o (fun r c' => ∃ e, r = some (.int (nI e)) ∧ e ≤ n ∧ Tn c c')) := by
  refine mm_intro (by decide) (Nat.le_of_ble_eq_true rfl) i_To_readWord (fun X ok E => ?_)
  refine k_To_readWord_0 ok (to_eol n f hn hf) (gF_h E.nR (by decide) (by decide)) (fun _ _ q => qC_len q) ?_
  rintro r M' ⟨c, ⟨e, rfl, rfl, he1, he2⟩, rfl⟩
  refine k_To_readWord_6 ok E.nL (to_packed f e (by omega) (by omega)) (gF_h E.nR (by decide) (by decide)) (fun _ _ q => qC_len q) ?_
  rintro r M' ⟨c, ⟨v, rfl, rfl⟩, rfl⟩
  have fin : ∀ c2, Tn c c2 → gg X (W9 c2 m o) 0 0 56 [(4, .int (nI e))] [] := by
    intro c2 q
    refine k_To_readWord_56 ok E ⟨_, ⟨e, rfl, he2, q⟩, rfl⟩ (Nat.le_refl _) (Nat.le_refl _)
  have k50 : ∀ x, gg X (W9 c m o) 0 0 50 [(0, .ref 13), (3, .int (nI f)), (4, .int (nI e)), (5, .long v)] [.int x, .ref 13] := by
    intro x
    refine k_To_readWord_50 ok rW_13 (to_noteN h _ _ _) (gF_h E.nR (by decide) (by decide)) (fun _ _ q => qC_len q) ?_
    rintro r M' ⟨c2, ⟨rfl, q⟩, rfl⟩
    exact fin c2 q
  refine k_To_readWord_15 ok E.nL (fun z => ?_) (fun z => ?_)
  · refine k_To_readWord_36 ok (to_isKey _) (gF_h E.nR (by decide) (by decide)) (fun _ _ q => qC_len q) ?_
    rintro r M' ⟨c, ⟨b, rfl, rfl⟩, rfl⟩
    refine k_To_readWord_42 ok (fun z => ?_) (fun z => ?_)
    · refine k_To_readWord_49 ok ?_
      exact k50 _
    · refine k_To_readWord_45 ok ?_
      exact k50 _
  · refine k_To_readWord_26 ok rW_13 (to_noteN h _ _ _) (gF_h E.nR (by decide) (by decide)) (fun _ _ q => qC_len q) ?_
    rintro r M' ⟨c2, ⟨rfl, q⟩, rfl⟩
    refine k_To_readWord_33 ok ?_
    exact fin c2 q
theorem to_readVariable (h : c.kn ≤ 160) (n f : Nat) (hn : n ≤ 160) (hf : f < n) : mm_ l y_To_readVariable w_To_readVariable (rmh 3) [.ref 13, .ref 12, .int (nI n), .int (nI f)] (W9 c m o) (qC m o (fun r c' => ∃ e, r = some (.int (nI e)) ∧ e ≤ n ∧ Tn c c')) := by
  refine mm_intro (by decide) (Nat.le_of_ble_eq_true rfl) i_To_readVariable (fun X ok E => ?_)
  have e1 : nI f + 1 = nI (f + 1) := nI_1 f
  refine k_To_readVariable_0 ok (by rw [e1]; exact to_eol n (f + 1) hn (by omega)) (gF_h E.nR (by decide) (by decide)) (fun _ _ q => qC_len q) ?_
  rintro r M' ⟨c, ⟨e, rfl, rfl, he1, he2⟩, rfl⟩
  have k49 : ∀ x, gg X (W9 c m o) 0 0 49 [(0, .ref 13), (1, .ref 12), (3, .int (nI f)), (4, .int (nI e))] [.int x, .ref 13] := by
    intro x
    refine k_To_readVariable_49 ok (by rw [e1]; exact to_packed (f + 1) e (by omega) (by omega)) (gF_h E.nR (by decide) (by decide)) (fun _ _ q => qC_len q) ?_
    rintro r M' ⟨c, ⟨v, rfl, rfl⟩, rfl⟩
    refine k_To_readVariable_58 ok rW_13 (to_noteN h _ _ _) (gF_h E.nR (by decide) (by decide)) (fun _ _ q => qC_len q) ?_
    rintro r M' ⟨c2, ⟨rfl, q⟩, rfl⟩
    refine k_To_readVariable_62 ok E ⟨_, ⟨e, rfl, he2, q⟩, rfl⟩ (Nat.le_refl _) (Nat.le_refl _)
  have k36 : ∀ b : Bool, gg X (W9 c m o) 0 0 36 [(0, .ref 13), (1, .ref 12), (3, .int (nI f)), (4, .int (nI e))] [.int (bI b)] := by
    intro b
    refine k_To_readVariable_36 ok E.nL (fun z => ?_) (fun z => ?_)
    · refine k_To_readVariable_48 ok ?_
      exact k49 _
    · refine k_To_readVariable_44 ok ?_
      exact k49 _
  have k35 : gg X (W9 c m o) 0 0 35 [(0, .ref 13), (1, .ref 12), (3, .int (nI f)), (4, .int (nI e))] [] := by
    refine k_To_readVariable_35 ok ?_
    exact k36 false
  refine k_To_readVariable_8 ok E.nL (fun z => ?_) (fun z => ?_)
  · exact k35
  refine k_To_readVariable_24 ok (fun z => ?_) (fun z => ?_)
  · exact k35
  · refine k_To_readVariable_31 ok ?_
    exact k36 true
theorem to_readNumber (h : c.kn ≤ 160) (n f : Nat) (hn : n ≤ 160) (hf : f ≤ n) : mm_ l y_To_readNumber w_To_readNumber (rmh 3) [.ref 13, .ref 12, .int (nI n), .int (nI f)] (W9 c m o) (qC m o (fun r c' => ∃ e, r = some (.int (nI e)) ∧ e ≤ n ∧ Tn c c')) := by
  refine mm_intro (by decide) (Nat.le_of_ble_eq_true rfl) i_To_readNumber (fun X ok E => ?_)
  refine k_To_readNumber_0 ok E.nL ?_
  have fin : ∀ e v, e ≤ n → gg X (W9 c m o) 0 0 43 [(0, .ref 13), (3, .int (nI f)), (4, .int (nI e)), (5, .int v)] [] := by
    intro e v he
    have k57 : ∀ x, gg X (W9 c m o) 0 0 57 [(0, .ref 13), (3, .int (nI f)), (4, .int (nI e)), (5, .int v)] [.int x, .ref 13] := by
      intro x
      refine k_To_readNumber_57 ok rW_13 (to_noteN h _ _ _) (gF_h E.nR (by decide) (by decide)) (fun _ _ q => qC_len q) ?_
      rintro r M' ⟨c2, ⟨rfl, q⟩, rfl⟩
      refine k_To_readNumber_66 ok E ⟨_, ⟨e, rfl, he, q⟩, rfl⟩ (Nat.le_refl _) (Nat.le_refl _)
    refine k_To_readNumber_43 ok (fun z => ?_) (fun z => ?_)
    · refine k_To_readNumber_56 ok ?_
      exact k57 _
    · refine k_To_readNumber_52 ok ?_
      exact k57 _
  have L1 : ∀ r i v, i + r = n → gg X (W9 c m o) 0 0 6 [(0, .ref 13), (1, .ref 12), (2, .int (nI n)), (3, .int (nI f)), (4, .int (nI i)), (5, .int v)] [] := by
    intro r
    induction r with
    | zero =>
      intro i v hi
      refine k_To_readNumber_6 ok (fun z => have z := (nLe rfl rfl (by omega) (by omega) z); ?_) (fun z => have z := (nNle rfl rfl (by omega) (by omega) z); ?_)
      · exact fin i v (by omega)
      · omega
    | succ r ih =>
      intro i v hi
      refine k_To_readNumber_6 ok (fun z => have z := (nLe rfl rfl (by omega) (by omega) z); ?_) (fun z => have z := (nNle rfl rfl (by omega) (by omega) z); ?_)
      · omega
      refine k_To_readNumber_12 ok rW_12 (vin rfl (by omega) (by decide)) (te_isDigit _) (gF_h E.nR (by decide) (by decide)) (fun _ _ q => qC_len q) ?_
      rintro r M' ⟨c, ⟨b, rfl, rfl⟩, rfl⟩
      refine k_To_readNumber_19 ok (fun z => ?_) (fun z => ?_)
      · exact fin i v (by omega)
      · refine k_To_readNumber_22 ok E.nL rW_12 (vin rfl (by omega) (by decide)) ?_
        rw [nI_1]
        exact ih (i + 1) _ (by omega)
  exact L1 (n - f) f 0 (by omega)
theorem to_readToken (h : c.kn ≤ 160) (n f : Nat) (hn : n ≤ 160) (hf : f < n) : mm_ l y_To_readToken w_To_readToken (rmh 4) [.ref 13, .ref 12, .int (nI n), .int (nI f)] (W9 c m o) (qC m o (fun r c' => ∃ e, r = some (.int (nI e)) ∧ e ≤ n ∧ Tn c c')) := by
  refine mm_intro (by decide) (Nat.le_of_ble_eq_true rfl) i_To_readToken (fun X ok E => ?_)
  refine k_To_readToken_0 ok E.nL rW_12 (vin rfl (by omega) (by decide)) (te_isLetter _) (gF_h E.nR (by decide) (by decide)) (fun _ _ q => qC_len q) ?_
  rintro r M' ⟨c, ⟨rfl, rfl⟩, rfl⟩
  refine k_To_readToken_10 ok (fun z => ?_) (fun z => ?_)
  · refine k_To_readToken_21 ok (te_isDigit _) (gF_h E.nR (by decide) (by decide)) (fun _ _ q => qC_len q) ?_
    rintro r M' ⟨c, ⟨b, rfl, rfl⟩, rfl⟩
    refine k_To_readToken_26 ok (fun z => ?_) (fun z => ?_)
    · refine k_To_readToken_37 ok (fun z => ?_) (fun z => ?_)
      · refine k_To_readToken_52 ok (to_isSign _) (gF_h E.nR (by decide) (by decide)) (fun _ _ q => qC_len q) ?_
        rintro r M' ⟨c, ⟨b2, rfl, rfl⟩, rfl⟩
        have k66 : ∀ x y, gg X (W9 c m o) 0 0 66 [(0, .ref 13), (3, .int (nI f)), (4, .int y)] [.int x, .ref 13] := by
          intro x y
          refine k_To_readToken_66 ok rW_13 (to_noteN h _ _ _) (gF_h E.nR (by decide) (by decide)) (fun _ _ q => qC_len q) ?_
          rintro r M' ⟨c2, ⟨rfl, q⟩, rfl⟩
          refine k_To_readToken_73 ok E ⟨_, ⟨f + 1, by rw [nI_1], by omega, q⟩, rfl⟩ (Nat.le_refl _) (Nat.le_refl _)
        refine k_To_readToken_58 ok (fun z => ?_) (fun z => ?_)
        · refine k_To_readToken_65 ok ?_
          exact k66 _ _
        · refine k_To_readToken_61 ok ?_
          exact k66 _ _
      · refine k_To_readToken_44 ok rW_13 (to_readVariable h n f hn hf) (gF_h E.nR (by decide) (by decide)) (fun _ _ q => qC_len q) ?_
        rintro r M' ⟨c2, ⟨e, rfl, he, q⟩, rfl⟩
        refine k_To_readToken_51 ok E ⟨_, ⟨e, rfl, he, q⟩, rfl⟩ (Nat.le_refl _) (Nat.le_refl _)
    · refine k_To_readToken_29 ok rW_13 (to_readNumber h n f hn (by omega)) (gF_h E.nR (by decide) (by decide)) (fun _ _ q => qC_len q) ?_
      rintro r M' ⟨c2, ⟨e, rfl, he, q⟩, rfl⟩
      refine k_To_readToken_36 ok E ⟨_, ⟨e, rfl, he, q⟩, rfl⟩ (Nat.le_refl _) (Nat.le_refl _)
  · refine k_To_readToken_13 ok rW_13 (to_readWord h n f hn (by omega)) (gF_h E.nR (by decide) (by decide)) (fun _ _ q => qC_len q) ?_
    rintro r M' ⟨c2, ⟨e, rfl, he, q⟩, rfl⟩
    refine k_To_readToken_20 ok E ⟨_, ⟨e, rfl, he, q⟩, rfl⟩ (Nat.le_refl _) (Nat.le_refl _)
/-- all tokens were read: the cursor stands on the first -/
theorem to_readAll (n : Nat) (hn : n ≤ 160) : mm_ l y_To_readAll w_To_readAll (rmh 5) [.ref 13, .ref 12, .int (nI n)] (W9 c m o) (qC m o (fun r c' => r = none ∧ Tk c c' ∧ c'.cur ∧ c'.ka = 0)) := by
  refine mm_intro (by decide) (Nat.le_of_ble_eq_true rfl) i_To_readAll (fun X ok E => ?_)
  refine k_To_readAll_0 ok E.nL rW_13 (Nat.le_refl 5) (sF_To_4 (v := 0) (by decide)) (sO_To_4 rfl) (sF_To_3 (v := 0) (by decide)) (sO_To_3 rfl) ?_
  have fin : ∀ c1 x, Tk c c1 → c1.kn ≤ 160 → c1.ka = 0 → gg X (W9 c1 m o) 0 0 62 [(0, .ref 13), (4, .int x)] [] := by
    intro c1 x q1 q2 q3
    refine k_To_readAll_62 ok rW_13 (to_noteN q2 _ _ _) (gF_h E.nR (by decide) (by decide)) (fun _ _ q => qC_len q) ?_
    rintro r M' ⟨c2, ⟨rfl, w1, w2, w3⟩, rfl⟩
    refine k_To_readAll_70 ok E ⟨_, ⟨rfl, q1.trans w1, ⟨by omega, by omega⟩, by omega⟩, rfl⟩ (Nat.le_refl _) (Nat.le_refl _)
  have L1 : ∀ r i c1 p x, i + r = 160 → p ≤ n → Tk c c1 → c1.kn ≤ i → c1.ka = 0 → gg X (W9 c1 m o) 0 0 18 [(0, .ref 13), (1, .ref 12), (2, .int (nI n)), (3, .int (nI p)), (4, .int x), (5, .int (nI i))] [] := by
    intro r
    induction r with
    | zero =>
      intro i c1 p x hi hp q1 q2 q3
      refine k_To_readAll_18 ok (fun z => have z := (nLe (nL 160) rfl (by omega) (by omega) z); ?_) (fun z => have z := (nNle (nL 160) rfl (by omega) (by omega) z); ?_)
      · exact fin c1 x q1 (by omega) q3
      · omega
    | succ r ih =>
      intro i c1 p x hi hp q1 q2 q3
      have nx : ∀ c2 p x, p ≤ n → Tk c c2 → c2.kn ≤ i + 1 → c2.ka = 0 → gg X (W9 c2 m o) 0 0 56 [(0, .ref 13), (1, .ref 12), (2, .int (nI n)), (3, .int (nI p)), (4, .int x), (5, .int (nI i))] [] := by
        intro c2 p x w0 w1 w2 w3
        refine k_To_readAll_56 ok E.nL ?_
        rw [nI_1]
        exact ih (i + 1) c2 p x (by omega) w0 w1 w2 w3
      refine k_To_readAll_18 ok (fun z => have z := (nLe (nL 160) rfl (by omega) (by omega) z); ?_) (fun z => have z := (nNle (nL 160) rfl (by omega) (by omega) z); ?_)
      · omega
      refine k_To_readAll_26 ok (fun z => have z := (nLe rfl rfl (by omega) (by omega) z); ?_) (fun z => have z := (nNle rfl rfl (by omega) (by omega) z); ?_)
      · exact fin c1 x q1 (by omega) q3
      refine k_To_readAll_31 ok rW_12 (vin rfl (by omega) (by decide)) (fun z => ?_) (fun z => ?_)
      · refine k_To_readAll_45 ok rW_13 (to_readToken (by omega) n p hn (by omega)) (gF_h E.nR (by decide) (by decide)) (fun _ _ q => qC_len q) ?_
        rintro r M' ⟨c2, ⟨e, rfl, he, w1, w2, w3⟩, rfl⟩
        refine k_To_readAll_52 ok E.nL ?_
        exact nx c2 e _ he (q1.trans w1) (by omega) (by omega)
      · refine k_To_readAll_39 ok E.nL ?_
        rw [nI_1]
        exact nx c1 (p + 1) x (by omega) q1 (by omega) q3
  exact L1 160 0 _ 0 0 rfl (Nat.zero_le _) (by exact Tk.refl (c := c)) (Nat.le_refl 0) rfl
end CTk
