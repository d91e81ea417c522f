/-! THE CLASS HAS ROOM FOR ALL GROUPS (no machine in it): each element brings twelve at most -/
section GRP
variable {T : Tn3}
theorem eg_var (s : Vw) : (pVar T s).2.2.2.2 = s.2.2.2 := by
  unfold pVar
  split
  · split
    · rfl
    · split <;> rfl
  · rfl
theorem eg_side (s : Vw) : (pSide T s).2.2.2.2 = s.2.2.2 := by
  unfold pSide
  split
  · rfl
  · exact eg_var s
theorem eg_tk (s : Vw) (x : Int64) : (wTk T s x).2.2.2.2 = s.2.2.2 := by
  unfold wTk
  cases wK T s x <;> rfl
theorem eg_ts (s : Vw) (x : Int32) : (wTs T s x).2.2.2.2 = s.2.2.2 := by
  unfold wTs
  cases wS T s x <;> rfl
theorem eg_pat (s : Vw) : (pPat T s).2.2.2.2 = s.2.2.2 := by
  unfold pPat
  cases (pSide T s).1 with
  | false => exact eg_side s
  | true =>
    show (bif (pSide T (pSide T s).2).1 then _ else _ : Bool × Vw).2.2.2.2 = _
    cases (pSide T (pSide T s).2).1 with
    | false => exact (eg_side _).trans (eg_side s)
    | true => exact (eg_side _).trans ((eg_side _).trans (eg_side s))
theorem eg_nots : ∀ r (s : Vw), (pNots T r s).2.2.2 = s.2.2.2
  | 0, _ => rfl
  | r + 1, s => by
    unfold pNots
    cases wK T s 7957706609935777792 with
    | false => rfl
    | true => exact eg_nots r (wSt T s)
theorem eg_cmp (s : Vw) : (pCmp T s).2.2.2.2 = s.2.2.2 := by
  unfold pCmp
  cases (pSide T s).1 with
  | false => exact eg_side s
  | true =>
    show (bif wCm T (pSide T s).2 then _ else _ : Bool × Vw).2.2.2.2 = _
    cases wCm T (pSide T s).2 with
    | false => exact eg_side s
    | true => exact (eg_side _).trans (eg_side s)
theorem eg_test (s : Vw) : (pTest T s).2.2.2.2 = s.2.2.2 := by
  unfold pTest
  cases wK T (pNots T 4 s) 7093017055116394496 with
  | false => exact (eg_cmp _).trans (eg_nots 4 s)
  | true => exact (eg_var _).trans (eg_nots 4 s)
theorem eg_sl : ∀ r i (s : Vw), (pSl T r i s).2.2.2.2 = s.2.2.2
  | 0, _, _ => rfl
  | r + 1, i, s => by
    unfold pSl
    split
    · cases (pVar T s).1 with
      | false => exact eg_var s
      | true => exact (eg_sl r (i + 1) _).trans (eg_var s)
    · rfl
def gOK (R : Nat) (s : Vw) : Prop := s.2.2.2.2 + R ≤ 1 + 12 * s.2.2.2.1 ∧ s.2.2.2.1 ≤ 12
theorem gOK.mono {R R2 : Nat} {s : Vw} (h : gOK R s) (h2 : R2 ≤ R) : gOK R2 s := ⟨Nat.le_trans (Nat.add_le_add_left h2 _) h.1, h.2⟩
theorem gOK.eg {R : Nat} {s s2 : Vw} (h : gOK R s) (e : s2.2.2.2 = s.2.2.2) : gOK R s2 := by
  unfold gOK
  rw [e]
  exact h
/-- two ways to read a group, the same where there is room -/
def sam (G G2 : Vw → Bool × Vw) : Prop := ∀ s R, gOK (R + 1) s → G s = G2 s ∧ ((G2 s).1 = true → gOK R (G2 s).2)
variable {G G2 : Vw → Bool × Vw}
theorem sam_un (h : sam G G2) : ∀ u s R, gOK (R + u) s → pUn T G u s = pUn T G2 u s ∧ ((pUn T G2 u s).1 = true → gOK R (pUn T G2 u s).2)
  | 0, s, R, _ => ⟨rfl, fun z => (nomatch z)⟩
  | u + 1, s, R, q => by
    obtain ⟨e1, e2⟩ := h s (R + u) q
    unfold pUn
    rw [e1]
    cases hg : (G2 s).1 with
    | false => exact ⟨rfl, fun z => (nomatch z)⟩
    | true =>
      have e3 := e2 hg
      show (bif wK T (G2 s).2 8461816677183520768 then pUn T G u (wSt T (G2 s).2) else (true, (G2 s).2)) = (bif wK T (G2 s).2 8461816677183520768 then pUn T G2 u (wSt T (G2 s).2) else (true, (G2 s).2)) ∧ ((bif wK T (G2 s).2 8461816677183520768 then pUn T G2 u (wSt T (G2 s).2) else (true, (G2 s).2)).1 = true → gOK R (bif wK T (G2 s).2 8461816677183520768 then pUn T G2 u (wSt T (G2 s).2) else (true, (G2 s).2)).2)
      cases wK T (G2 s).2 8461816677183520768 with
      | false => exact ⟨rfl, fun _ => e3.mono (Nat.le_add_right _ _)⟩
      | true => exact sam_un h u (wSt T (G2 s).2) R e3
theorem sam_e (h : sam G G2) (s : Vw) (R : Nat) (q : gOK R s) : pE T G s = pE T G2 s ∧ ((pE T G2 s).1 = true → gOK R (pE T G2 s).2) := by
  unfold pE
  by_cases he : s.2.2.2.1 < 12
  · rw [if_pos he, if_pos he]
    have q2 : gOK (R + 12) (wE s) := by
      obtain ⟨q1, -⟩ := q
      exact ⟨by show s.2.2.2.2 + (R + 12) ≤ 1 + 12 * (s.2.2.2.1 + 1); omega, by show s.2.2.2.1 + 1 ≤ 12; omega⟩
    have q3 : gOK R (wE s) := q2.mono (Nat.le_add_right _ _)
    have hg : ∀ s2 : Vw, s2.2.2.2 = (wE s).2.2.2 → G s2 = G2 s2 ∧ ((G2 s2).1 = true → gOK R (G2 s2).2) := by
      intro s2 e
      obtain ⟨e1, e2⟩ := h s2 (R + 11) (q2.eg e)
      exact ⟨e1, fun z => (e2 z).mono (Nat.le_add_right _ _)⟩
    unfold pE1
    cases wK T (wE s) 7379548711597244416 with
    | true => exact ⟨rfl, fun _ => q3.eg (eg_test _)⟩
    | false =>
      show (bif wK T (wE s) 8030046131791487340 then G (wSt T (wE s)) else _) = (bif wK T (wE s) 8030046131791487340 then G2 (wSt T (wE s)) else _) ∧ ((bif wK T (wE s) 8030046131791487340 then G2 (wSt T (wE s)) else _).1 = true → gOK R (bif wK T (wE s) 8030046131791487340 then G2 (wSt T (wE s)) else _).2)
      cases wK T (wE s) 8030046131791487340 with
      | true => exact hg _ rfl
      | false =>
        show (bif wK T (wE s) 7883954073408372736 then G (wSt T (wE s)) else _) = (bif wK T (wE s) 7883954073408372736 then G2 (wSt T (wE s)) else _) ∧ ((bif wK T (wE s) 7883954073408372736 then G2 (wSt T (wE s)) else _).1 = true → gOK R (bif wK T (wE s) 7883954073408372736 then G2 (wSt T (wE s)) else _).2)
        cases wK T (wE s) 7883954073408372736 with
        | true => exact hg _ rfl
        | false =>
          show (bif wS T (wE s) 123 then pUn T G 12 (wE s) else pPat T (wE s)) = (bif wS T (wE s) 123 then pUn T G2 12 (wE s) else pPat T (wE s)) ∧ ((bif wS T (wE s) 123 then pUn T G2 12 (wE s) else pPat T (wE s)).1 = true → gOK R (bif wS T (wE s) 123 then pUn T G2 12 (wE s) else pPat T (wE s)).2)
          cases wS T (wE s) 123 with
          | true => exact sam_un h 12 (wE s) R q2
          | false => exact ⟨rfl, fun _ => q3.eg (eg_pat _)⟩
  · rw [if_neg he, if_neg he]
    exact ⟨rfl, fun z => (nomatch z)⟩
theorem sam_el (h : sam G G2) : ∀ r s R, gOK R s → pEl T G r s = pEl T G2 r s ∧ ((pEl T G2 r s).1 = true → gOK R (pEl T G2 r s).2)
  | 0, s, R, _ => ⟨rfl, fun z => (nomatch z)⟩
  | r + 1, s, R, q => by
    obtain ⟨e1, e2⟩ := sam_e (T := T) h s R q
    unfold pEl
    rw [e1]
    cases hg : (pE T G2 s).1 with
    | false => exact ⟨rfl, fun z => (nomatch z)⟩
    | true =>
      have e3 := e2 hg
      show (bif wS T (pE T G2 s).2 46 then pEl T G r (wSt T (pE T G2 s).2) else wTs T (pE T G2 s).2 125) = (bif wS T (pE T G2 s).2 46 then pEl T G2 r (wSt T (pE T G2 s).2) else wTs T (pE T G2 s).2 125) ∧ ((bif wS T (pE T G2 s).2 46 then pEl T G2 r (wSt T (pE T G2 s).2) else wTs T (pE T G2 s).2 125).1 = true → gOK R (bif wS T (pE T G2 s).2 46 then pEl T G2 r (wSt T (pE T G2 s).2) else wTs T (pE T G2 s).2 125).2)
      cases wS T (pE T G2 s).2 46 with
      | false => exact ⟨rfl, fun _ => e3.eg (eg_ts _ _)⟩
      | true => exact sam_el h r (wSt T (pE T G2 s).2) R e3
theorem sam_g : ∀ lv, sam (pG T lv) (pGx T lv)
  | 0 => fun s R _ => ⟨rfl, fun z => (nomatch z)⟩
  | lv + 1 => fun s R q => by
    have hr : s.2.2.2.2 < 145 := by
      obtain ⟨q1, q2⟩ := q
      omega
    have q2 : gOK R (wSt T (wG s)) := by
      obtain ⟨q1, q2⟩ := q
      exact ⟨by show s.2.2.2.2 + 1 + R ≤ 1 + 12 * s.2.2.2.1; omega, q2⟩
    unfold pG pGx
    rw [if_pos hr]
    cases wS T s 123 with
    | false => exact ⟨rfl, fun z => (nomatch z)⟩
    | true =>
      show pG1 T (pG T lv) (wSt T (wG s)) = pG1 T (pGx T lv) (wSt T (wG s)) ∧ ((pG1 T (pGx T lv) (wSt T (wG s))).1 = true → gOK R (pG1 T (pGx T lv) (wSt T (wG s))).2)
      unfold pG1
      cases wS T (wSt T (wG s)) 125 with
      | true => exact ⟨rfl, fun _ => q2⟩
      | false => exact sam_el (sam_g lv) 12 (wSt T (wG s)) R q2
theorem pQ_x (s : Vw) (h : s.2.2.2 = (0, 0)) : pQ T s = pQx T s := by
  unfold pQ pQx
  cases h1 : (wTk T s 8315171469725532160).1 with
  | false => rw [pAnd_f h1, pAnd_f h1]
  | true =>
    rw [pAnd_t h1, pAnd_t h1]
    have e1 := eg_tk (T := T) s 8315171469725532160
    obtain ⟨s1, hs1⟩ : ∃ s1, s1 = (wTk T s 8315171469725532160).2 := ⟨_, rfl⟩
    rw [← hs1] at e1 ⊢
    show pAnd (pSel T s1) _ = pAnd (pSel T s1) (pQ2 T)
    cases h2 : (pSel T s1).1 with
    | false => rw [pAnd_f h2, pAnd_f h2]
    | true =>
      rw [pAnd_t h2, pAnd_t h2]
      have e2 : (pSel T s1).2.2.2.2 = s1.2.2.2 := (eg_sl 6 0 _).trans (eg_tk _ _)
      have e3 : gOK (0 + 1) (pSel T s1).2 := by
        unfold gOK
        rw [e2, e1, h]
        exact ⟨by decide, by decide⟩
      show pAnd (pG T 4 (pSel T s1).2) _ = pAnd (pGx T 4 (pSel T s1).2) _
      rw [(sam_g (T := T) 4 _ 0 e3).1]
      rfl
end GRP
