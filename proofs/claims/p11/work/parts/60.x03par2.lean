/-! THE CLASS'S PARSER, exactly: what it answers, and where it leaves the cursor -/
/-- cursor, names, how many names, elements, groups -/
abbrev Vw : Type := Nat × (Nat → Int64) × Nat × Nat × Nat
/-- the tokens: kinds, values, how many -/
abbrev Tn3 : Type := (Nat → Int32) × (Nat → Int64) × Nat
def vw (c : CS) : Vw := (c.ka, c.qn, c.qv, c.qe, c.qg)
def tkn (c : CS) : Tn3 := (c.kk, c.kv, c.kn)
def wKd (T : Tn3) (s : Vw) : Int32 := T.1 s.1
def wVl (T : Tn3) (s : Vw) : Int64 := T.2.1 s.1
def wSt (T : Tn3) (s : Vw) : Vw := (if s.1 + 1 < T.2.2 then s.1 + 1 else s.1, s.2)
def wS (T : Tn3) (s : Vw) (x : Int32) : Bool := decide (wKd T s = 3) && decide (wVl T s = x.toInt64)
def wK (T : Tn3) (s : Vw) (x : Int64) : Bool := decide (wKd T s = 2) && decide (wVl T s = x)
def wTk (T : Tn3) (s : Vw) (x : Int64) : Bool × Vw := bif wK T s x then (true, wSt T s) else (false, s)
def wTs (T : Tn3) (s : Vw) (x : Int32) : Bool × Vw := bif wS T s x then (true, wSt T s) else (false, s)
/-- the name is there already -/
def qF (q : Nat → Int64) (x : Int64) : Nat → Nat → Bool
  | 0, _ => false
  | r + 1, i => if q i = x then true else qF q x r (i + 1)
def pVar (T : Tn3) (s : Vw) : Bool × Vw :=
  if wKd T s = 5 then
    if qF s.2.1 (wVl T s) s.2.2.1 0 = true then (true, wSt T s)
    else if s.2.2.1 < 6 then (true, wSt T (s.1, vp_updL s.2.1 s.2.2.1 (wVl T s), s.2.2.1 + 1, s.2.2.2)) else (false, s)
  else (false, s)
def pSide (T : Tn3) (s : Vw) : Bool × Vw := if wKd T s = 4 then (true, wSt T s) else pVar T s
def pPat (T : Tn3) (s : Vw) : Bool × Vw := bif (pSide T s).1 then (bif (pSide T (pSide T s).2).1 then pSide T (pSide T (pSide T s).2).2 else (false, (pSide T (pSide T s).2).2)) else (false, (pSide T s).2)
def pNots (T : Tn3) : Nat → Vw → Vw
  | 0, s => s
  | r + 1, s => bif wK T s 7957706609935777792 then pNots T r (wSt T s) else s
def wCm (T : Tn3) (s : Vw) : Bool := wS T s 61 || wS T s 33 || wS T s 60 || wS T s 62
def pCmp (T : Tn3) (s : Vw) : Bool × Vw := bif (pSide T s).1 then (bif wCm T (pSide T s).2 then pSide T (wSt T (pSide T s).2) else (false, (pSide T s).2)) else (false, (pSide T s).2)
def pTest (T : Tn3) (s : Vw) : Bool × Vw := bif wK T (pNots T 4 s) 7093017055116394496 then pVar T (wSt T (pNots T 4 s)) else pCmp T (pNots T 4 s)
def pUn (T : Tn3) (G : Vw → Bool × Vw) : Nat → Vw → Bool × Vw
  | 0, s => (false, s)
  | r + 1, s => bif (G s).1 then (bif wK T (G s).2 8461816677183520768 then pUn T G r (wSt T (G s).2) else (true, (G s).2)) else (false, (G s).2)
def wE (s : Vw) : Vw := (s.1, s.2.1, s.2.2.1, s.2.2.2.1 + 1, s.2.2.2.2)
def wG (s : Vw) : Vw := (s.1, s.2.1, s.2.2.1, s.2.2.2.1, s.2.2.2.2 + 1)
def pE1 (T : Tn3) (G : Vw → Bool × Vw) (s : Vw) : Bool × Vw :=
  bif wK T s 7379548711597244416 then pTest T (wSt T s)
  else bif wK T s 8030046131791487340 then G (wSt T s)
  else bif wK T s 7883954073408372736 then G (wSt T s)
  else bif wS T s 123 then pUn T G 12 s else pPat T s
def pE (T : Tn3) (G : Vw → Bool × Vw) (s : Vw) : Bool × Vw := if s.2.2.2.1 < 12 then pE1 T G (wE s) else (false, s)
def pEl (T : Tn3) (G : Vw → Bool × Vw) : Nat → Vw → Bool × Vw
  | 0, s => (false, s)
  | r + 1, s => bif (pE T G s).1 then (bif wS T (pE T G s).2 46 then pEl T G r (wSt T (pE T G s).2) else wTs T (pE T G s).2 125) else (false, (pE T G s).2)
def pG1 (T : Tn3) (G : Vw → Bool × Vw) (s : Vw) : Bool × Vw := bif wS T s 125 then (true, wSt T s) else pEl T G 12 s
def pG (T : Tn3) : Nat → Vw → Bool × Vw
  | 0, s => (false, s)
  | lv + 1, s => bif wS T s 123 then (if s.2.2.2.2 < 145 then pG1 T (pG T lv) (wSt T (wG s)) else (false, s)) else (false, s)
def pSl (T : Tn3) : Nat → Nat → Vw → Bool × Vw
  | 0, i, s => (decide (0 < i), s)
  | r + 1, i, s => if wKd T s = 5 then (bif (pVar T s).1 then pSl T r (i + 1) (pVar T s).2 else (false, (pVar T s).2)) else (decide (0 < i), s)
def pSel (T : Tn3) (s : Vw) : Bool × Vw := pSl T 6 0 (wTk T s 7235441220169655156).2
def pOrd (T : Tn3) (s : Vw) : Bool × Vw := bif wK T s 8030591472422092800 then (bif (pVar T (wSt T s)).1 then (true, (wTk T (pVar T (wSt T s)).2 7234315245479526400).2) else (false, (pVar T (wSt T s)).2)) else (true, s)
def pLim (T : Tn3) (s : Vw) : Bool × Vw := bif wK T s 7811895328335986688 then (if wKd T (wSt T s) = 4 then (bif tH (wVl T (wSt T s)) then (true, wSt T (wSt T s)) else (false, wSt T s)) else (false, wSt T s)) else (true, s)
/-- one after the other -/
def pAnd (x : Bool × Vw) (f : Vw → Bool × Vw) : Bool × Vw := bif x.1 then f x.2 else (false, x.2)
def pQ (T : Tn3) (s : Vw) : Bool × Vw := pAnd (wTk T s 8315171469725532160) (fun s => pAnd (pSel T s) (fun s => pAnd (pG T 4 s) (fun s => pAnd (pOrd T s) (fun s => pAnd (pLim T s) (fun s => (decide (wKd T s = 0), s))))))
section CP2
variable {l : Launch} {c c2 : CS} {m : MS} {o : Nat → Int64} {s : Vw}
def Pf (c c' : CS) (s : Vw) : Prop := Pz c c' ∧ (tkn c' = tkn c ∧ c'.kp = c.kp) ∧ vw c' = s
theorem Pf.refl (h : QIc c) : Pf c c (vw c) := ⟨Pz.refl h, ⟨rfl, rfl⟩, rfl⟩
theorem Pf.qi (q : Pf c c2 s) : QIc c2 := q.1.2
theorem Pf.kd (q : Pf c c2 s) : c2.kk c2.ka = wKd (tkn c) s := by
  rw [← q.2.1.1, ← q.2.2]
  rfl
theorem Pf.vl (q : Pf c c2 s) : c2.kv c2.ka = wVl (tkn c) s := by
  rw [← q.2.1.1, ← q.2.2]
  rfl
theorem Pf.atS (q : Pf c c2 s) (x : Int32) : c2.atS x = wS (tkn c) s x := by
  rw [← q.2.1.1, ← q.2.2]
  rfl
theorem Pf.atK (q : Pf c c2 s) (x : Int64) : c2.atK x = wK (tkn c) s x := by
  rw [← q.2.1.1, ← q.2.2]
  rfl
theorem Pf.st (q : Pf c c2 s) : Pf c c2.d_step (wSt (tkn c) s) := by
  refine ⟨q.1.trans (step_Pz q.qi), ⟨?_, ?_⟩, ?_⟩
  · rw [← q.2.1.1]
    unfold CS.d_step
    split <;> rfl
  · rw [← q.2.1.2]
    unfold CS.d_step
    split <;> rfl
  · rw [← q.2.1.1, ← q.2.2]
    unfold CS.d_step wSt
    by_cases h : c2.ka + 1 < c2.kn
    · rw [if_pos h]
      show _ = ((if c2.ka + 1 < c2.kn then _ else _), _)
      rw [if_pos h]
      try rfl
    · rw [if_neg h]
      show _ = ((if c2.ka + 1 < c2.kn then _ else _), _)
      rw [if_neg h]
      try rfl
/-- what a reading method leaves: its answer, and the view -/
def pF (c : CS) (x : Bool × Vw) : Option Value → CS → Prop := fun r c' => r = some (.int (bI x.1)) ∧ Pf c c' x.2
theorem pF_mk {x : Bool × Vw} {b : Bool} {s : Vw} {c' : CS} (e : x = (b, s)) (h : Pf c c' s) : pF c x (some (.int (bI b))) c' := by
  rw [e]
  exact ⟨rfl, h⟩
theorem pF_f {x : Bool × Vw} {s : Vw} {c' : CS} (e : x = (false, s)) (h : Pf c c' s) : pF c x (some (.int 0)) c' := pF_mk e h
theorem pF_t {x : Bool × Vw} {s : Vw} {c' : CS} (e : x = (true, s)) (h : Pf c c' s) : pF c x (some (.int 1)) c' := pF_mk e h
/-- the view does not see it -/
theorem Pf.up {c3 : CS} (q : Pf c c2 s) (h1 : Pz c2 c3) (h2 : tkn c3 = tkn c2 ∧ c3.kp = c2.kp ∧ vw c3 = vw c2) : Pf c c3 s := ⟨q.1.trans h1, ⟨h2.1.trans q.2.1.1, h2.2.1.trans q.2.1.2⟩, h2.2.2.trans q.2.2⟩
theorem pf_step (q : Pf c c2 s) : mm_ l y_To_step w_To_step (rmh 1) [.ref 13] (W9 c2 m o) (qC m o (fun r c' => r = none ∧ Pf c c' (wSt (tkn c) s))) := mm_imp (to_step q.qi.1) (fun r M' ⟨c', w, e⟩ => ⟨c', ⟨w.1, by rw [w.2]; exact q.st⟩, e⟩)
theorem pf_takeKey (q : Pf c c2 s) (x : Int64) : mm_ l y_To_takeKey w_To_takeKey (rmh 2) [.ref 13, .long x] (W9 c2 m o) (qC m o (pF c (wTk (tkn c) s x))) := mm_imp (to_takeKey q.qi.1 x) (fun r M' ⟨c', w, e⟩ => ⟨c', by
  obtain ⟨w1, w2⟩ := w
  rw [q.atK] at w1 w2
  unfold wTk
  cases hb : wK (tkn c) s x <;> rw [hb] at w1 w2
  · exact ⟨w1, by rw [w2]; exact q⟩
  · exact ⟨w1, by rw [w2]; exact q.st⟩, e⟩)
theorem pf_takeSign (q : Pf c c2 s) (x : Int32) : mm_ l y_To_takeSign w_To_takeSign (rmh 2) [.ref 13, .int x] (W9 c2 m o) (qC m o (pF c (wTs (tkn c) s x))) := mm_imp (to_takeSign q.qi.1 x) (fun r M' ⟨c', w, e⟩ => ⟨c', by
  obtain ⟨w1, w2⟩ := w
  rw [q.atS] at w1 w2
  unfold wTs
  cases hb : wS (tkn c) s x <;> rw [hb] at w1 w2
  · exact ⟨w1, by rw [w2]; exact q⟩
  · exact ⟨w1, by rw [w2]; exact q.st⟩, e⟩)
theorem pf_atSign (q : Pf c c2 s) (x : Int32) : mm_ l y_To_isAtSign w_To_isAtSign (rmh 1) [.ref 13, .int x] (W9 c2 m o) (qC m o (fun r c' => r = some (.int (bI (wS (tkn c) s x))) ∧ c' = c2)) := mm_imp (to_isAtSign q.qi.1 x) (fun r M' ⟨c', w, e⟩ => ⟨c', ⟨by rw [w.1, q.atS], w.2⟩, e⟩)
theorem pf_kind (q : Pf c c2 s) : mm_ l y_To_kind w_To_kind (rmh 1) [.ref 13] (W9 c2 m o) (qC m o (fun r c' => r = some (.int (wKd (tkn c) s)) ∧ c' = c2)) := mm_imp (to_kind q.qi.1) (fun r M' ⟨c', w, e⟩ => ⟨c', ⟨by rw [w.1, q.kd], w.2⟩, e⟩)
theorem pf_value (q : Pf c c2 s) : mm_ l y_To_value w_To_value (rmh 1) [.ref 13] (W9 c2 m o) (qC m o (fun r c' => r = some (.long (wVl (tkn c) s)) ∧ c' = c2)) := mm_imp (to_value q.qi.1) (fun r M' ⟨c', w, e⟩ => ⟨c', ⟨by rw [w.1, q.vl], w.2⟩, e⟩)
/-- the number of a name: it is there, or it is put, or there is no room -/
theorem qu_variable2 (h : QIc c) (x : Int64) : mm_ l y_Qu_variable w_Qu_variable (rmh 1) [.ref 17, .long x] (W9 c m o) (qC m o (fun r c' => (qF c.qn x c.qv 0 = true → ∃ v, v < 6 ∧ r = some (.int (nI v)) ∧ c' = c) ∧ (qF c.qn x c.qv 0 = false → c.qv < 6 → r = some (.int (nI c.qv)) ∧ c' = (c.u_qn (vp_updL c.qn c.qv x)).u_qv (c.qv + 1)) ∧ (qF c.qn x c.qv 0 = false → ¬ c.qv < 6 → r = some (.int (-1)) ∧ c' = c))) := by
  obtain ⟨h1, h2, h3, h4, h5, h6⟩ := id h
  refine mm_intro (by decide) (Nat.le_of_ble_eq_true rfl) i_Qu_variable (fun X ok E => ?_)
  refine k_Qu_variable_0 ok E.nL ?_
  have L1 : ∀ r i, i + r = c.qv → qF c.qn x r i = qF c.qn x c.qv 0 → gg X (W9 c m o) 0 0 2 [(0, .ref 17), (1, .long x), (3, .int (nI i))] [] := by
    intro r
    induction r with
    | zero =>
      intro i hi hq
      have hf : qF c.qn x c.qv 0 = false := hq.symm
      have ci : (nI c.qv).toNatClampNeg = c.qv := nC rfl (by omega)
      refine k_Qu_variable_2 ok rW_17 rF_Qu_1 (fun z => have z := (nLe rfl rfl (by omega) (by omega) z); ?_) (fun z => have z := (nNle rfl rfl (by omega) (by omega) z); ?_)
      · refine k_Qu_variable_29 ok rW_17 rF_Qu_1 (fun z => have z := (nLt rfl (nL 6) (by omega) (by omega) z); ?_) (fun z => have z := (nNlt rfl (nL 6) (by omega) (by omega) z); ?_)
        · refine k_Qu_variable_40 ok rW_17 rF_Qu_0 rF_Qu_1 rW_18 (vin rfl (by omega) (by decide)) sA_18 (Nat.le_refl 12) (sF_Qu_1 (nA rfl (nL 1))) (sO_Qu_1 rfl) E ⟨_, ⟨fun w => (by rw [hf] at w; cases w), fun _ _ => ⟨by rw [p1m1], by rw [ci]⟩, fun _ w => absurd z w⟩, rfl⟩ (Nat.le_refl _) (Nat.le_refl _)
        · refine k_Qu_variable_38 ok E ⟨_, ⟨fun w => (by rw [hf] at w; cases w), fun _ w => (by omega), fun _ _ => ⟨rfl, rfl⟩⟩, rfl⟩ (Nat.le_refl _) (Nat.le_refl _)
      · omega
    | succ r ih =>
      intro i hi hq
      have ci : (nI i).toNatClampNeg = i := nC rfl (by omega)
      refine k_Qu_variable_2 ok rW_17 rF_Qu_1 (fun z => have z := (nLe rfl rfl (by omega) (by omega) z); ?_) (fun z => have z := (nNle rfl rfl (by omega) (by omega) z); ?_)
      · omega
      refine k_Qu_variable_10 ok rW_17 rF_Qu_0 rW_18 (vin rfl (by omega) (by decide)) (fun z => ?_) (fun z => ?_)
      · rw [ci] at z
        have e : qF c.qn x (r + 1) i = qF c.qn x r (i + 1) := by
          show (if c.qn i = x then _ else _) = _
          rw [if_neg z]
        refine k_Qu_variable_23 ok E.nL ?_
        rw [nI_1]
        exact ih (i + 1) (by omega) (by rw [← hq, e])
      · rw [ci] at z
        have hf : qF c.qn x c.qv 0 = true := by
          rw [← hq]
          show (if c.qn i = x then _ else _) = _
          rw [if_pos z]
        refine k_Qu_variable_21 ok E ⟨_, ⟨fun _ => ⟨i, by omega, rfl, rfl⟩, fun w => (by rw [hf] at w; cases w), fun w => (by rw [hf] at w; cases w)⟩, rfl⟩ (Nat.le_refl _) (Nat.le_refl _)
  exact L1 c.qv 0 (by omega) rfl
theorem qu_newElement2 (h : QIc c) (x : Int32) : mm_ l y_Qu_newElement w_Qu_newElement (rmh 1) [.ref 17, .int x] (W9 c m o) (qC m o (fun r c' => (c.qe < 12 → r = some (.int (nI c.qe)) ∧ Pz c c' ∧ tkn c' = tkn c ∧ c'.kp = c.kp ∧ vw c' = wE (vw c)) ∧ (¬ c.qe < 12 → r = some (.int (-1)) ∧ c' = c))) := by
  obtain ⟨h1, h2, h3, h4, h5, h6⟩ := id h
  refine mm_intro (by decide) (Nat.le_of_ble_eq_true rfl) i_Qu_newElement (fun X ok E => ?_)
  refine k_Qu_newElement_0 ok rW_17 rF_Qu_9 (fun z => have z := (nLt rfl (nL 12) (by omega) (by omega) z); ?_) (fun z => have z := (nNlt rfl (nL 12) (by omega) (by omega) z); ?_)
  · refine k_Qu_newElement_11 ok rW_17 rF_Qu_8 rF_Qu_9 rW_20 (vin rfl (by omega) (by decide)) (qx_at h z) (rE (i := c.qe) z) (Nat.le_refl 7) (eF1 _ _) (eS1 z) (by omega) (Nat.le_refl 12) (sF_Qu_9 (nA rfl (nL 1))) (sO_Qu_9 rfl) E ⟨_, ⟨fun _ => by exact ⟨by rw [p1m1], ⟨⟨rfl, rfl, rfl⟩, h1, h2, h3, by show c.qe + 1 ≤ 12; omega, h5, h6⟩, rfl, rfl, rfl⟩, fun w => absurd z w⟩, rfl⟩ (Nat.le_refl _) (Nat.le_refl _)
  · refine k_Qu_newElement_9 ok E ⟨_, ⟨fun w => (by omega), fun _ => ⟨rfl, rfl⟩⟩, rfl⟩ (Nat.le_refl _) (Nat.le_refl _)
theorem qu_newGroup2 (h : QIc c) (x : Int32) : mm_ l y_Qu_newGroup w_Qu_newGroup (rmh 1) [.ref 17, .int x] (W9 c m o) (qC m o (fun r c' => (c.qg < 145 → r = some (.int (nI c.qg)) ∧ Pz c c' ∧ tkn c' = tkn c ∧ c'.kp = c.kp ∧ vw c' = wG (vw c)) ∧ (¬ c.qg < 145 → r = some (.int (-1)) ∧ c' = c))) := by
  obtain ⟨h1, h2, h3, h4, h5, h6⟩ := id h
  refine mm_intro (by decide) (Nat.le_of_ble_eq_true rfl) i_Qu_newGroup (fun X ok E => ?_)
  refine k_Qu_newGroup_0 ok rW_17 rF_Qu_11 (fun z => have z := (nLt rfl (nL 145) (by omega) (by omega) z); ?_) (fun z => have z := (nNlt rfl (nL 145) (by omega) (by omega) z); ?_)
  · refine k_Qu_newGroup_12 ok rW_17 rF_Qu_10 rF_Qu_11 rW_21 (vin rfl (by omega) (by decide)) sA_21 (Nat.le_refl 12) (sF_Qu_11 (nA rfl (nL 1))) (sO_Qu_11 rfl) E ⟨_, ⟨fun _ => by exact ⟨by rw [p1m1], ⟨⟨rfl, rfl, rfl⟩, h1, h2, h3, h4, by show c.qg + 1 ≤ 145; omega, h6⟩, rfl, rfl, rfl⟩, fun w => absurd z w⟩, rfl⟩ (Nat.le_refl _) (Nat.le_refl _)
  · refine k_Qu_newGroup_10 ok E ⟨_, ⟨fun w => (by omega), fun _ => ⟨rfl, rfl⟩⟩, rfl⟩ (Nat.le_refl _) (Nat.le_refl _)
theorem pf_var (q : Pf c c2 s) : mm_ l y_Pa_readVariable w_Pa_readVariable (rmh 2) [.ref 34] (W9 c2 m o) (qC m o (pF c (pVar (tkn c) s))) := by
  have hqn : c2.qn = s.2.1 := by rw [← q.2.2]; rfl
  have hqv : c2.qv = s.2.2.1 := by rw [← q.2.2]; rfl
  have h6 := q.qi.2.1
  refine mm_intro (by decide) (Nat.le_of_ble_eq_true rfl) i_Pa_readVariable (fun X ok E => ?_)
  refine k_Pa_readVariable_0 ok rW_34 rF_Pa_0 rW_13 (pf_kind q) (gF_h E.nR (by decide) (by decide)) (fun _ _ q => qC_len q) ?_
  rintro r M' ⟨c2, ⟨rfl, rfl⟩, rfl⟩
  refine k_Pa_readVariable_7 ok (fun z => ?_) (fun z => ?_)
  · refine k_Pa_readVariable_13 ok rW_34 rF_Pa_1 rF_Pa_0 rW_13 (pf_value q) (gF_h E.nR (by decide) (by decide)) (fun _ _ q => qC_len q) ?_
    rintro r M' ⟨c2, ⟨rfl, rfl⟩, rfl⟩
    refine k_Pa_readVariable_24 ok rW_17 (qu_variable2 q.qi _) (gF_h E.nR (by decide) (by decide)) (fun _ _ q => qC_len q) ?_
    rintro r M' ⟨c3, ⟨w1, w2, w3⟩, rfl⟩
    rw [hqn, hqv] at w1 w2 w3
    have go : ∀ (c3 : CS) (s3 : Vw) (v : Nat), v < 7 → Pf c c3 s3 → pVar (tkn c) s = (true, wSt (tkn c) s3) → gg X (W9 c3 m o) 0 0 27 [(0, .ref 34)] [.int (nI v)] := by
      intro c3 s3 v hv q3 e
      have hne : ¬ nI v = -1 := by
        have h9 : ∀ v, v < 7 → ¬ nI v = -1 := by decide
        exact h9 v hv
      refine k_Pa_readVariable_27 ok E.nL (fun _ => ?_) (fun w => absurd w hne)
      refine k_Pa_readVariable_35 ok rW_34 (Nat.le_refl 3) sF_Pa_2 (sO_Pa_2 rfl) rF_Pa_0 rW_13 (by decide) (pf_step (q3.up (by exact ⟨⟨rfl, rfl, rfl⟩, q3.qi⟩) ⟨rfl, rfl, rfl⟩)) (gF_h E.nR (by decide) (by decide)) (fun _ _ q => qC_len q) ?_
      rintro r M' ⟨c4, ⟨rfl, q4⟩, rfl⟩
      refine k_Pa_readVariable_50 ok E ⟨_, pF_t e q4, rfl⟩ (Nat.le_refl _) (Nat.le_refl _)
    cases hf : qF s.2.1 (wVl (tkn c) s) s.2.2.1 0 with
    | true =>
      obtain ⟨v, hv, rfl, rfl⟩ := w1 hf
      exact go c3 s v (by omega) q (by unfold pVar; rw [if_pos z, if_pos hf])
    | false =>
      by_cases hl : s.2.2.1 < 6
      · obtain ⟨rfl, rfl⟩ := w2 hf hl
        refine go _ (s.1, vp_updL s.2.1 s.2.2.1 (wVl (tkn c) s), s.2.2.1 + 1, s.2.2.2) s.2.2.1 (by omega) ⟨q.1.trans ⟨⟨rfl, rfl, rfl⟩, ?_⟩, q.2.1, ?_⟩ ?_
        · obtain ⟨h1, h2, h3, h4, h5, h6⟩ := q.qi
          exact ⟨h1, by show s.2.2.1 + 1 ≤ 6; omega, h3, h4, h5, h6⟩
        · rw [← q.2.2]
          rfl
        · unfold pVar
          rw [if_pos z, hf, if_neg (by decide), if_pos hl]
      · obtain ⟨rfl, rfl⟩ := w3 hf hl
        refine k_Pa_readVariable_27 ok E.nL (fun w => absurd rfl w) (fun _ => ?_)
        refine k_Pa_readVariable_33 ok E ⟨_, pF_f (by unfold pVar; rw [if_pos z, hf, if_neg (by decide), if_neg hl]) q, rfl⟩ (Nat.le_refl _) (Nat.le_refl _)
  · refine k_Pa_readVariable_11 ok E ⟨_, pF_f (by unfold pVar; rw [if_neg z]) q, rfl⟩ (Nat.le_refl _) (Nat.le_refl _)
theorem pf_side (q : Pf c c2 s) : mm_ l y_Pa_readSide w_Pa_readSide (rmh 3) [.ref 34] (W9 c2 m o) (qC m o (pF c (pSide (tkn c) s))) := by
  refine mm_intro (by decide) (Nat.le_of_ble_eq_true rfl) i_Pa_readSide (fun X ok E => ?_)
  refine k_Pa_readSide_0 ok rW_34 rF_Pa_0 rW_13 (pf_kind q) (gF_h E.nR (by decide) (by decide)) (fun _ _ q => qC_len q) ?_
  rintro r M' ⟨c2, ⟨rfl, rfl⟩, rfl⟩
  refine k_Pa_readSide_7 ok (fun z => ?_) (fun z => ?_)
  · refine k_Pa_readSide_16 ok rW_34 rF_Pa_0 rW_13 (pf_value q) (gF_h E.nR (by decide) (by decide)) (fun _ _ q => qC_len q) ?_
    rintro r M' ⟨c2, ⟨rfl, rfl⟩, rfl⟩
    refine k_Pa_readSide_24 ok rW_34 (Nat.le_refl 3) sF_Pa_2 (sO_Pa_2 rfl) rF_Pa_0 rW_13 (by decide) (pf_step (q.up (by exact ⟨⟨rfl, rfl, rfl⟩, q.qi⟩) ⟨rfl, rfl, rfl⟩)) (gF_h E.nR (by decide) (by decide)) (fun _ _ q => qC_len q) ?_
    rintro r M' ⟨c3, ⟨rfl, q3⟩, rfl⟩
    refine k_Pa_readSide_34 ok E ⟨_, pF_t (by unfold pSide; rw [if_pos z]) q3, rfl⟩ (Nat.le_refl _) (Nat.le_refl _)
  · refine k_Pa_readSide_11 ok rW_34 (pf_var q) (gF_h E.nR (by decide) (by decide)) (fun _ _ q => qC_len q) ?_
    rintro r M' ⟨c3, ⟨rfl, q3⟩, rfl⟩
    refine k_Pa_readSide_15 ok E (bI_nar _) ⟨_, by unfold pSide; rw [if_neg z]; exact ⟨rfl, q3⟩, rfl⟩ (Nat.le_refl _) (Nat.le_refl _)
theorem pf_cmpAt (q : Pf c c2 s) : mm_ l y_Pa_isAtComparison w_Pa_isAtComparison (rmh 2) [.ref 34] (W9 c2 m o) (qC m o (fun r c' => r = some (.int (bI (wCm (tkn c) s))) ∧ c' = c2)) := by
  refine mm_intro (by decide) (Nat.le_of_ble_eq_true rfl) i_Pa_isAtComparison (fun X ok E => ?_)
  have fin : ∀ b : Bool, wCm (tkn c) s = b → gg X (W9 c2 m o) 0 0 53 [] [.int (bI b)] := by
    intro b h
    refine k_Pa_isAtComparison_53 ok E (bI_nar _) ⟨_, ⟨by rw [h], rfl⟩, rfl⟩ (Nat.le_refl _) (Nat.le_refl _)
  refine k_Pa_isAtComparison_0 ok rW_34 rF_Pa_0 rW_13 (pf_atSign q _) (gF_h E.nR (by decide) (by decide)) (fun _ _ q => qC_len q) ?_
  rintro r M' ⟨c2, ⟨rfl, rfl⟩, rfl⟩
  refine k_Pa_isAtComparison_9 ok (fun z9 => have z9 := bI_1 z9; ?_) (fun z9 => have z9 := bI_0 z9; ?_)
  · refine k_Pa_isAtComparison_48 ok ?_
    first | exact fin true (by simp [wCm, *]) | exact fin false (by simp [wCm, *])
  · refine k_Pa_isAtComparison_12 ok rW_34 rF_Pa_0 rW_13 (pf_atSign q _) (gF_h E.nR (by decide) (by decide)) (fun _ _ q => qC_len q) ?_
    rintro r M' ⟨c2, ⟨rfl, rfl⟩, rfl⟩
    refine k_Pa_isAtComparison_21 ok (fun z21 => have z21 := bI_1 z21; ?_) (fun z21 => have z21 := bI_0 z21; ?_)
    · refine k_Pa_isAtComparison_48 ok ?_
      first | exact fin true (by simp [wCm, *]) | exact fin false (by simp [wCm, *])
    · refine k_Pa_isAtComparison_24 ok rW_34 rF_Pa_0 rW_13 (pf_atSign q _) (gF_h E.nR (by decide) (by decide)) (fun _ _ q => qC_len q) ?_
      rintro r M' ⟨c2, ⟨rfl, rfl⟩, rfl⟩
      refine k_Pa_isAtComparison_33 ok (fun z33 => have z33 := bI_1 z33; ?_) (fun z33 => have z33 := bI_0 z33; ?_)
      · refine k_Pa_isAtComparison_48 ok ?_
        first | exact fin true (by simp [wCm, *]) | exact fin false (by simp [wCm, *])
      · refine k_Pa_isAtComparison_36 ok rW_34 rF_Pa_0 rW_13 (pf_atSign q _) (gF_h E.nR (by decide) (by decide)) (fun _ _ q => qC_len q) ?_
        rintro r M' ⟨c2, ⟨rfl, rfl⟩, rfl⟩
        refine k_Pa_isAtComparison_45 ok (fun z45 => have z45 := bI_0 z45; ?_) (fun z45 => have z45 := bI_1 z45; ?_)
        · refine k_Pa_isAtComparison_52 ok ?_
          first | exact fin true (by simp [wCm, *]) | exact fin false (by simp [wCm, *])
        · refine k_Pa_isAtComparison_48 ok ?_
          first | exact fin true (by simp [wCm, *]) | exact fin false (by simp [wCm, *])
theorem pf_pat (q : Pf c c2 s) {i : Nat} (hi : i < 12) : mm_ l y_Pa_readPattern w_Pa_readPattern (rmh 4) [.ref 34, .ref (22 + i)] (W9 c2 m o) (qC m o (pF c (pPat (tkn c) s))) := by
  refine mm_intro (by decide) (Nat.le_of_ble_eq_true rfl) i_Pa_readPattern (fun X ok E => ?_)
  refine k_Pa_readPattern_0 ok rW_34 (pf_side q) (gF_h E.nR (by decide) (by decide)) (fun _ _ q => qC_len q) ?_
  rintro r M' ⟨c3, ⟨rfl, q3⟩, rfl⟩
  refine k_Pa_readPattern_4 ok (fun z => have z := bI_1 z; ?_) (fun z => have z := bI_0 z; ?_)
  · refine k_Pa_readPattern_9 ok rW_34 rF_Pa_2 (rE hi) (Nat.le_refl 7) (eF2 _ _) (eS2 hi) (by omega) (pf_side (q3.up (by exact ⟨⟨rfl, rfl, rfl⟩, q3.qi⟩) ⟨rfl, rfl, rfl⟩)) (gF_h E.nR (by decide) (by decide)) (fun _ _ q => qC_len q) ?_
    rintro r M' ⟨c4, ⟨rfl, q4⟩, rfl⟩
    have z1 := z
    refine k_Pa_readPattern_21 ok (fun z => have z := bI_1 z; ?_) (fun z => have z := bI_0 z; ?_)
    · refine k_Pa_readPattern_26 ok rW_34 rF_Pa_2 (rE hi) (Nat.le_refl 7) (eF3 _ _) (eS3 hi) (by omega) (pf_side (q4.up (by exact ⟨⟨rfl, rfl, rfl⟩, q4.qi⟩) ⟨rfl, rfl, rfl⟩)) (gF_h E.nR (by decide) (by decide)) (fun _ _ q => qC_len q) ?_
      rintro r M' ⟨c5, ⟨rfl, q5⟩, rfl⟩
      have e : pPat (tkn c) s = pSide (tkn c) (pSide (tkn c) (pSide (tkn c) s).2).2 := by
        unfold pPat
        rw [z1, z]
        rfl
      refine k_Pa_readPattern_38 ok (fun z => have z := bI_1 z; ?_) (fun z => have z := bI_0 z; ?_)
      · refine k_Pa_readPattern_43 ok rW_34 rF_Pa_2 (rE hi) (Nat.le_refl 7) (eF4 _ _) (eS4 hi) E ⟨_, by rw [e]; exact ⟨by rw [z]; rfl, q5.up (by exact ⟨⟨rfl, rfl, rfl⟩, q5.qi⟩) ⟨rfl, rfl, rfl⟩⟩, rfl⟩ (Nat.le_refl _) (Nat.le_refl _)
      · refine k_Pa_readPattern_41 ok E ⟨_, by rw [e]; exact ⟨by rw [z]; rfl, q5⟩, rfl⟩ (Nat.le_refl _) (Nat.le_refl _)
    · refine k_Pa_readPattern_24 ok E ⟨_, pF_f (by unfold pPat; rw [z1, z]; rfl) q4, rfl⟩ (Nat.le_refl _) (Nat.le_refl _)
  · refine k_Pa_readPattern_7 ok E ⟨_, pF_f (by unfold pPat; rw [z]; rfl) q3, rfl⟩ (Nat.le_refl _) (Nat.le_refl _)
theorem pf_nots (q : Pf c c2 s) {i : Nat} (hi : i < 12) : mm_ l y_Pa_readNots w_Pa_readNots (rmh 3) [.ref 34, .ref (22 + i)] (W9 c2 m o) (qC m o (fun r c' => r = none ∧ Pf c c' (pNots (tkn c) 4 s))) := by
  refine mm_intro (by decide) (Nat.le_of_ble_eq_true rfl) i_Pa_readNots (fun X ok E => ?_)
  refine k_Pa_readNots_0 ok E.nL (rE hi) (Nat.le_refl 7) (eF6 _ _) (eS6 hi) ?_
  have L1 : ∀ r j c1 s1, j + r = 4 → Pf c c1 s1 → pNots (tkn c) r s1 = pNots (tkn c) 4 s → gg X (W9 c1 m o) 0 0 7 [(0, .ref 34), (1, .ref (22 + i)), (2, .int (nI j))] [] := by
    intro r
    induction r with
    | zero =>
      intro j c1 s1 hj q1 he
      refine k_Pa_readNots_7 ok (fun z => have z := (nLe (nL 4) rfl (by omega) (by omega) z); ?_) (fun z => have z := (nNle (nL 4) rfl (by omega) (by omega) z); ?_)
      · refine k_Pa_readNots_47 ok E ⟨_, ⟨rfl, by rw [← he]; exact q1⟩, rfl⟩ (Nat.le_refl _) (Nat.le_refl _)
      · omega
    | succ r ih =>
      intro j c1 s1 hj q1 he
      refine k_Pa_readNots_7 ok (fun z => have z := (nLe (nL 4) rfl (by omega) (by omega) z); ?_) (fun z => have z := (nNle (nL 4) rfl (by omega) (by omega) z); ?_)
      · omega
      refine k_Pa_readNots_12 ok rW_34 rF_Pa_0 rW_13 (pf_takeKey q1 _) (gF_h E.nR (by decide) (by decide)) (fun _ _ q => qC_len q) ?_
      rintro r M' ⟨c3, ⟨rfl, q3⟩, rfl⟩
      cases hb : wK (tkn c) s1 7957706609935777792 with
      | false =>
        have e1 : wTk (tkn c) s1 7957706609935777792 = (false, s1) := by
          unfold wTk
          rw [hb]
          rfl
        rw [e1] at q3 ⊢
        refine k_Pa_readNots_22 ok (fun _ => ?_) (fun w => absurd rfl w)
        refine k_Pa_readNots_47 ok E ⟨_, ⟨rfl, by rw [← he]; unfold pNots; rw [hb]; exact q3⟩, rfl⟩ (Nat.le_refl _) (Nat.le_refl _)
      | true =>
        have e1 : wTk (tkn c) s1 7957706609935777792 = (true, wSt (tkn c) s1) := by
          unfold wTk
          rw [hb]
          rfl
        have e2 : pNots (tkn c) (r + 1) s1 = pNots (tkn c) r (wSt (tkn c) s1) := by
          show (bif wK (tkn c) s1 7957706609935777792 then _ else _) = _
          rw [hb]
          rfl
        rw [e1] at q3 ⊢
        have nx : ∀ s : Int32, narrow .boolean (.int s) = .int s ∧ fits .boolean (.int s) = true → gg X (W9 c3 m o) 0 0 38 [(0, .ref 34), (1, .ref (22 + i)), (2, .int (nI j))] [.int s, .ref (22 + i)] := by
          intro s hs
          refine k_Pa_readNots_38 ok E.nL (rE hi) (Nat.le_refl 7) hs (eF6 _ _) (eS6 hi) ?_
          rw [nI_1]
          exact ih (j + 1) _ _ (by omega) (q3.up (by exact ⟨⟨rfl, rfl, rfl⟩, q3.qi⟩) ⟨rfl, rfl, rfl⟩) (by rw [← he, e2])
        refine k_Pa_readNots_22 ok (fun w => absurd w (by show ¬ bI true = 0; decide)) (fun _ => ?_)
        refine k_Pa_readNots_25 ok (rE hi) rfl (fun z => ?_) (fun z => ?_)
        · refine k_Pa_readNots_37 ok ?_
          exact nx 0 ⟨rfl, rfl⟩
        · refine k_Pa_readNots_33 ok ?_
          exact nx 1 ⟨rfl, rfl⟩
  exact L1 4 0 _ s rfl (q.up (by exact ⟨⟨rfl, rfl, rfl⟩, q.qi⟩) ⟨rfl, rfl, rfl⟩) rfl
theorem pf_bound (q : Pf c c2 s) {i : Nat} (hi : i < 12) : mm_ l y_Pa_readBound w_Pa_readBound (rmh 3) [.ref 34, .ref (22 + i)] (W9 c2 m o) (qC m o (pF c (pVar (tkn c) s))) := by
  refine mm_intro (by decide) (Nat.le_of_ble_eq_true rfl) i_Pa_readBound (fun X ok E => ?_)
  refine k_Pa_readBound_0 ok rW_34 (pf_var q) (gF_h E.nR (by decide) (by decide)) (fun _ _ q => qC_len q) ?_
  rintro r M' ⟨c3, ⟨rfl, q3⟩, rfl⟩
  refine k_Pa_readBound_4 ok E.nL rW_34 rF_Pa_2 (rE hi) (Nat.le_refl 7) (eF2 _ _) (eS2 hi) (eF5 _ _) (eS5 hi) E (bI_nar _) ⟨_, by exact ⟨rfl, q3.up (by exact ⟨⟨rfl, rfl, rfl⟩, q3.qi⟩) ⟨rfl, rfl, rfl⟩⟩, rfl⟩ (Nat.le_refl _) (Nat.le_refl _)
theorem pf_cmp (q : Pf c c2 s) {i : Nat} (hi : i < 12) : mm_ l y_Pa_readComparison w_Pa_readComparison (rmh 4) [.ref 34, .ref (22 + i)] (W9 c2 m o) (qC m o (pF c (pCmp (tkn c) s))) := by
  refine mm_intro (by decide) (Nat.le_of_ble_eq_true rfl) i_Pa_readComparison (fun X ok E => ?_)
  refine k_Pa_readComparison_0 ok rW_34 (pf_side q) (gF_h E.nR (by decide) (by decide)) (fun _ _ q => qC_len q) ?_
  rintro r M' ⟨c3, ⟨rfl, q3⟩, rfl⟩
  refine k_Pa_readComparison_4 ok (fun z => have z := bI_1 z; ?_) (fun z => have z := bI_0 z; ?_)
  · have z1 := z
    refine k_Pa_readComparison_9 ok rW_34 rF_Pa_2 (rE hi) (Nat.le_refl 7) (eF2 _ _) (eS2 hi) (by omega) (pf_cmpAt (q3.up (by exact ⟨⟨rfl, rfl, rfl⟩, q3.qi⟩) ⟨rfl, rfl, rfl⟩)) (gF_h E.nR (by decide) (by decide)) (fun _ _ q => qC_len q) ?_
    rintro r M' ⟨c4, ⟨rfl, rfl⟩, rfl⟩
    have q4 := q3.up (c3 := c3.u_e1 (eU c3.e1 i c3.ps)) (by exact ⟨⟨rfl, rfl, rfl⟩, q3.qi⟩) ⟨rfl, rfl, rfl⟩
    refine k_Pa_readComparison_21 ok (fun z => have z := bI_1 z; ?_) (fun z => have z := bI_0 z; ?_)
    · refine k_Pa_readComparison_26 ok rW_34 rF_Pa_0 rW_13 (pf_value q4) (gF_h E.nR (by decide) (by decide)) (fun _ _ q => qC_len q) ?_
      rintro r M' ⟨c4, ⟨rfl, rfl⟩, rfl⟩
      refine k_Pa_readComparison_34 ok (rE hi) (Nat.le_refl 7) (eF5 _ _) (eS5 hi) rW_34 (by omega) rF_Pa_0 rW_13 (by omega) (pf_step (q4.up (by exact ⟨⟨rfl, rfl, rfl⟩, q4.qi⟩) ⟨rfl, rfl, rfl⟩)) (gF_h E.nR (by decide) (by decide)) (fun _ _ q => qC_len q) ?_
      rintro r M' ⟨c5, ⟨rfl, q5⟩, rfl⟩
      refine k_Pa_readComparison_45 ok rW_34 (pf_side q5) (gF_h E.nR (by decide) (by decide)) (fun _ _ q => qC_len q) ?_
      rintro r M' ⟨c6, ⟨rfl, q6⟩, rfl⟩
      have e : pCmp (tkn c) s = pSide (tkn c) (wSt (tkn c) (pSide (tkn c) s).2) := by
        unfold pCmp
        rw [z1, z]
        rfl
      refine k_Pa_readComparison_49 ok E.nL rW_34 rF_Pa_2 (rE hi) (Nat.le_refl 7) (eF3 _ _) (eS3 hi) E (bI_nar _) ⟨_, by rw [e]; exact ⟨rfl, q6.up (by exact ⟨⟨rfl, rfl, rfl⟩, q6.qi⟩) ⟨rfl, rfl, rfl⟩⟩, rfl⟩ (Nat.le_refl _) (Nat.le_refl _)
    · refine k_Pa_readComparison_24 ok E ⟨_, pF_f (by unfold pCmp; rw [z1, z]; rfl) q4, rfl⟩ (Nat.le_refl _) (Nat.le_refl _)
  · refine k_Pa_readComparison_7 ok E ⟨_, pF_f (by unfold pCmp; rw [z]; rfl) q3, rfl⟩ (Nat.le_refl _) (Nat.le_refl _)
theorem wTk_f {T : Tn3} {s : Vw} {x : Int64} (h : wK T s x = false) : wTk T s x = (false, s) := by
  unfold wTk
  rw [h]
  rfl
theorem wTk_t {T : Tn3} {s : Vw} {x : Int64} (h : wK T s x = true) : wTk T s x = (true, wSt T s) := by
  unfold wTk
  rw [h]
  rfl
theorem wTs_f {T : Tn3} {s : Vw} {x : Int32} (h : wS T s x = false) : wTs T s x = (false, s) := by
  unfold wTs
  rw [h]
  rfl
theorem wTs_t {T : Tn3} {s : Vw} {x : Int32} (h : wS T s x = true) : wTs T s x = (true, wSt T s) := by
  unfold wTs
  rw [h]
  rfl
theorem b1n : ¬ bI true = 0 := by decide
theorem n_m1 {v : Nat} (h : v < 145) : ¬ nI v = -1 := by
  have h9 : ∀ v, v < 145 → ¬ nI v = -1 := by decide
  exact h9 v h
theorem pf_grp_4 (q : Pf c c2 s) (x : Int32) : mm_ l y_Pa_readGroup w_Pa_readGroup (rmh 3) [.ref 34, .int x, .int (nI 4)] (W9 c2 m o) (qC m o (pF c (pG (tkn c) 0 s))) := by
  refine mm_intro (by decide) (Nat.le_of_ble_eq_true rfl) i_Pa_readGroup (fun X ok E => ?_)
  refine k_Pa_readGroup_0 ok rW_34 rF_Pa_0 rW_13 (pf_atSign q _) (gF_h E.nR (by decide) (by decide)) (fun _ _ q => qC_len q) ?_
  rintro r M' ⟨c2, ⟨rfl, rfl⟩, rfl⟩
  have no : gg X (W9 c2 m o) 0 0 17 [] [] := by
    refine k_Pa_readGroup_17 ok E ⟨_, pF_f rfl q, rfl⟩ (Nat.le_refl _) (Nat.le_refl _)
  refine k_Pa_readGroup_9 ok (fun z => ?_) (fun z => ?_)
  · exact no
  refine k_Pa_readGroup_12 ok (fun z => have z := (nLt rfl (nL 4) (by omega) (by omega) z); ?_) (fun z => have z := (nNlt rfl (nL 4) (by omega) (by omega) z); ?_)
  · omega
  · exact no
theorem pf_uni_4 (q : Pf c c2 s) (x : Int32) : mm_ l y_Pa_readUnion w_Pa_readUnion (rmh 4) [.ref 34, .int x, .int (nI 4)] (W9 c2 m o) (qC m o (pF c (pUn (tkn c) (pG (tkn c) 0) 12 s))) := by
  refine mm_intro (by decide) (Nat.le_of_ble_eq_true rfl) i_Pa_readUnion (fun X ok E => ?_)
  refine k_Pa_readUnion_0 ok E.nL ?_
  have L1 : ∀ r j c1 s1, j + r = 12 → Pf c c1 s1 → pUn (tkn c) (pG (tkn c) 0) 12 s = pUn (tkn c) (pG (tkn c) 0) r s1 → gg X (W9 c1 m o) 0 0 2 [(0, .ref 34), (1, .int x), (2, .int (nI 4)), (3, .int (nI j))] [] := by
    intro r
    induction r with
    | zero =>
      intro j c1 s1 hj q1 he
      refine k_Pa_readUnion_2 ok (fun z => have z := (nLe (nL 12) rfl (by omega) (by omega) z); ?_) (fun z => have z := (nNle (nL 12) rfl (by omega) (by omega) z); ?_)
      · refine k_Pa_readUnion_40 ok E ⟨_, pF_f he q1, rfl⟩ (Nat.le_refl _) (Nat.le_refl _)
      · omega
    | succ r ih =>
      intro j c1 s1 hj q1 he
      have e0 : pUn (tkn c) (pG (tkn c) 0) (r + 1) s1 = (bif (pG (tkn c) 0 s1).1 then (bif wK (tkn c) (pG (tkn c) 0 s1).2 8461816677183520768 then pUn (tkn c) (pG (tkn c) 0) r (wSt (tkn c) (pG (tkn c) 0 s1).2) else (true, (pG (tkn c) 0 s1).2)) else (false, (pG (tkn c) 0 s1).2)) := rfl
      rw [e0] at he
      refine k_Pa_readUnion_2 ok (fun z => have z := (nLe (nL 12) rfl (by omega) (by omega) z); ?_) (fun z => have z := (nNle (nL 12) rfl (by omega) (by omega) z); ?_)
      · omega
      refine k_Pa_readUnion_8 ok rW_34 (pf_grp_4 q1 _) (gF_h E.nR (by decide) (by decide)) (fun _ _ q => qC_len q) ?_
      rintro r M' ⟨c3, ⟨rfl, q3⟩, rfl⟩
      refine k_Pa_readUnion_14 ok (fun z => have z := bI_1 z; ?_) (fun z => have z := bI_0 z; ?_)
      · rw [z] at he
        refine k_Pa_readUnion_19 ok rW_34 rF_Pa_0 rW_13 (pf_takeKey q3 _) (gF_h E.nR (by decide) (by decide)) (fun _ _ q => qC_len q) ?_
        rintro r M' ⟨c4, ⟨rfl, q4⟩, rfl⟩
        cases hb : wK (tkn c) (pG (tkn c) 0 s1).2 8461816677183520768 with
        | false =>
          rw [wTk_f hb] at q4 ⊢
          rw [hb] at he
          refine k_Pa_readUnion_29 ok (fun w => absurd rfl w) (fun _ => ?_)
          refine k_Pa_readUnion_32 ok E ⟨_, pF_t he q4, rfl⟩ (Nat.le_refl _) (Nat.le_refl _)
        | true =>
          rw [wTk_t hb] at q4 ⊢
          rw [hb] at he
          refine k_Pa_readUnion_29 ok (fun _ => ?_) (fun w => absurd w b1n)
          refine k_Pa_readUnion_34 ok E.nL ?_
          rw [nI_1]
          exact ih (j + 1) c4 _ (by omega) q4 he
      · rw [z] at he
        refine k_Pa_readUnion_17 ok E ⟨_, pF_f he q3, rfl⟩ (Nat.le_refl _) (Nat.le_refl _)
  exact L1 12 0 c2 s rfl q rfl
theorem pf_el_3 (q : Pf c c2 s) (x : Int32) : mm_ l y_Pa_readElement w_Pa_readElement (rmh 5) [.ref 34, .int x, .int (nI 3)] (W9 c2 m o) (qC m o (pF c (pE (tkn c) (pG (tkn c) 0) s))) := by
  have hqe : c2.qe = s.2.2.2.1 := by rw [← q.2.2]; rfl
  have e1 : nI 3 + 1 = nI 4 := rfl
  refine mm_intro (by decide) (Nat.le_of_ble_eq_true rfl) i_Pa_readElement (fun X ok E => ?_)
  refine k_Pa_readElement_0 ok rW_34 rF_Pa_1 rW_17 (qu_newElement2 q.qi _) (gF_h E.nR (by decide) (by decide)) (fun _ _ q => qC_len q) ?_
  rintro r M' ⟨c3, ⟨w1, w2⟩, rfl⟩
  by_cases h12 : c2.qe < 12
  · obtain ⟨rfl, a1, a2, a3, a4⟩ := w1 h12
    have q3 : Pf c c3 (wE s) := ⟨q.1.trans a1, ⟨a2.trans q.2.1.1, a3.trans q.2.1.2⟩, by rw [a4, q.2.2]⟩
    have he : pE (tkn c) (pG (tkn c) 0) s = (bif wK (tkn c) (wE s) 7379548711597244416 then pTest (tkn c) (wSt (tkn c) (wE s)) else bif wK (tkn c) (wE s) 8030046131791487340 then pG (tkn c) 0 (wSt (tkn c) (wE s)) else bif wK (tkn c) (wE s) 7883954073408372736 then pG (tkn c) 0 (wSt (tkn c) (wE s)) else bif wS (tkn c) (wE s) 123 then pUn (tkn c) (pG (tkn c) 0) 12 (wE s) else pPat (tkn c) (wE s)) := by
      unfold pE
      rw [if_pos (by omega)]
      rfl
    refine k_Pa_readElement_8 ok E.nL (fun _ => ?_) (fun w => absurd w (n_m1 (by omega)))
    refine k_Pa_readElement_16 ok E.nL rW_34 rF_Pa_1 rW_17 rF_Qu_8 rW_20 (vin rfl (by omega) (by decide)) (qx_at q3.qi h12) rF_Pa_0 rW_13 (pf_takeKey q3 _) (gF_h E.nR (by decide) (by decide)) (fun _ _ q => qC_len q) ?_
    rintro r M' ⟨c4, ⟨rfl, q4⟩, rfl⟩
    cases k1 : wK (tkn c) (wE s) 7379548711597244416 with
    | true =>
      rw [wTk_t k1] at q4 ⊢
      rw [k1] at he
      have q4 : Pf c c4 (wSt (tkn c) (wE s)) := q4
      refine k_Pa_readElement_37 ok (fun w => absurd w b1n) (fun _ => ?_)
      have q4b : ∀ v, Pf c (c4.u_eK (eU c4.eK c2.qe v)) _ := fun v => q4.up (by exact ⟨⟨rfl, rfl, rfl⟩, q4.qi⟩) ⟨rfl, rfl, rfl⟩
      refine k_Pa_readElement_40 ok (rE h12) (Nat.le_refl 7) (eF0 _ _) (eS0 h12) rW_34 (by omega) (pf_nots (q4b _) h12) (gF_h E.nR (by decide) (by decide)) (fun _ _ q => qC_len q) ?_
      rintro r M' ⟨c5, ⟨rfl, q5⟩, rfl⟩
      refine k_Pa_readElement_52 ok rW_34 rF_Pa_0 rW_13 (pf_takeKey q5 _) (gF_h E.nR (by decide) (by decide)) (fun _ _ q => qC_len q) ?_
      rintro r M' ⟨c6, ⟨rfl, q6⟩, rfl⟩
      have he2 : pE (tkn c) (pG (tkn c) 0) s = (bif wK (tkn c) (pNots (tkn c) 4 (wSt (tkn c) (wE s))) 7093017055116394496 then pVar (tkn c) (wSt (tkn c) (pNots (tkn c) 4 (wSt (tkn c) (wE s)))) else pCmp (tkn c) (pNots (tkn c) 4 (wSt (tkn c) (wE s)))) := by
        rw [he, cond_true]
        unfold pTest
        rfl
      cases k5 : wK (tkn c) (pNots (tkn c) 4 (wSt (tkn c) (wE s))) 7093017055116394496 with
      | true =>
        rw [wTk_t k5] at q6 ⊢
        rw [k5] at he2
        refine k_Pa_readElement_62 ok (fun w => absurd w b1n) (fun _ => ?_)
        refine k_Pa_readElement_65 ok rW_34 (pf_bound q6 h12) (gF_h E.nR (by decide) (by decide)) (fun _ _ q => qC_len q) ?_
        rintro r M' ⟨c7, ⟨rfl, q7⟩, rfl⟩
        refine k_Pa_readElement_71 ok ?_
        refine k_Pa_readElement_80 ok E (bI_nar _) ⟨_, by rw [he2]; exact ⟨rfl, q7⟩, rfl⟩ (Nat.le_refl _) (Nat.le_refl _)
      | false =>
        rw [wTk_f k5] at q6 ⊢
        rw [k5] at he2
        refine k_Pa_readElement_62 ok (fun _ => ?_) (fun w => absurd rfl w)
        refine k_Pa_readElement_74 ok rW_34 (pf_cmp q6 h12) (gF_h E.nR (by decide) (by decide)) (fun _ _ q => qC_len q) ?_
        rintro r M' ⟨c7, ⟨rfl, q7⟩, rfl⟩
        refine k_Pa_readElement_80 ok E (bI_nar _) ⟨_, by rw [he2]; exact ⟨rfl, q7⟩, rfl⟩ (Nat.le_refl _) (Nat.le_refl _)
    | false =>
      rw [wTk_f k1] at q4 ⊢
      rw [k1] at he
      refine k_Pa_readElement_37 ok (fun _ => ?_) (fun w => absurd rfl w)
      refine k_Pa_readElement_81 ok rW_34 rF_Pa_0 rW_13 (pf_takeKey q4 _) (gF_h E.nR (by decide) (by decide)) (fun _ _ q => qC_len q) ?_
      rintro r M' ⟨c5, ⟨rfl, q5⟩, rfl⟩
      cases k2 : wK (tkn c) (wE s) 8030046131791487340 with
      | true =>
        rw [wTk_t k2] at q5 ⊢
        rw [k2] at he
        refine k_Pa_readElement_91 ok (fun w => absurd w b1n) (fun _ => ?_)
        have q5b : ∀ v, Pf c (c5.u_eK (eU c5.eK c2.qe v)) _ := fun v => q5.up (by exact ⟨⟨rfl, rfl, rfl⟩, q5.qi⟩) ⟨rfl, rfl, rfl⟩
        refine k_Pa_readElement_94 ok (rE h12) (Nat.le_refl 7) (eF0 _ _) (eS0 h12) rW_34 (by omega) (by rw [e1]; exact pf_grp_4 (q5b _) _) (gF_h E.nR (by decide) (by decide)) (fun _ _ q => qC_len q) ?_
        rintro r M' ⟨c7, ⟨rfl, q7⟩, rfl⟩
        refine k_Pa_readElement_108 ok E (bI_nar _) ⟨_, by rw [he]; exact ⟨rfl, q7⟩, rfl⟩ (Nat.le_refl _) (Nat.le_refl _)
      | false =>
        rw [wTk_f k2] at q5 ⊢
        rw [k2] at he
        refine k_Pa_readElement_91 ok (fun _ => ?_) (fun w => absurd rfl w)
        refine k_Pa_readElement_109 ok rW_34 rF_Pa_0 rW_13 (pf_takeKey q5 _) (gF_h E.nR (by decide) (by decide)) (fun _ _ q => qC_len q) ?_
        rintro r M' ⟨c6, ⟨rfl, q6⟩, rfl⟩
        cases k3 : wK (tkn c) (wE s) 7883954073408372736 with
        | true =>
          rw [wTk_t k3] at q6 ⊢
          rw [k3] at he
          refine k_Pa_readElement_119 ok (fun w => absurd w b1n) (fun _ => ?_)
          have q6b : ∀ v, Pf c (c6.u_eK (eU c6.eK c2.qe v)) _ := fun v => q6.up (by exact ⟨⟨rfl, rfl, rfl⟩, q6.qi⟩) ⟨rfl, rfl, rfl⟩
          refine k_Pa_readElement_122 ok (rE h12) (Nat.le_refl 7) (eF0 _ _) (eS0 h12) rW_34 (by omega) (by rw [e1]; exact pf_grp_4 (q6b _) _) (gF_h E.nR (by decide) (by decide)) (fun _ _ q => qC_len q) ?_
          rintro r M' ⟨c7, ⟨rfl, q7⟩, rfl⟩
          refine k_Pa_readElement_136 ok E (bI_nar _) ⟨_, by rw [he]; exact ⟨rfl, q7⟩, rfl⟩ (Nat.le_refl _) (Nat.le_refl _)
        | false =>
          rw [wTk_f k3] at q6 ⊢
          rw [k3] at he
          refine k_Pa_readElement_119 ok (fun _ => ?_) (fun w => absurd rfl w)
          refine k_Pa_readElement_137 ok rW_34 rF_Pa_0 rW_13 (pf_atSign q6 _) (gF_h E.nR (by decide) (by decide)) (fun _ _ q => qC_len q) ?_
          rintro r M' ⟨c6, ⟨rfl, rfl⟩, rfl⟩
          refine k_Pa_readElement_146 ok (fun z => have z := bI_0 z; ?_) (fun z => have z := bI_1 z; ?_)
          · rw [z] at he
            have q6b : ∀ v, Pf c (c6.u_eK (eU c6.eK c2.qe v)) _ := fun v => q6.up (by exact ⟨⟨rfl, rfl, rfl⟩, q6.qi⟩) ⟨rfl, rfl, rfl⟩
            refine k_Pa_readElement_164 ok (rE h12) (Nat.le_refl 7) (eF0 _ _) (eS0 h12) rW_34 (by omega) (pf_pat (q6b _) h12) (gF_h E.nR (by decide) (by decide)) (fun _ _ q => qC_len q) ?_
            rintro r M' ⟨c7, ⟨rfl, q7⟩, rfl⟩
            refine k_Pa_readElement_176 ok E (bI_nar _) ⟨_, by rw [he]; exact ⟨rfl, q7⟩, rfl⟩ (Nat.le_refl _) (Nat.le_refl _)
          · rw [z] at he
            have q6b : ∀ v, Pf c (c6.u_eK (eU c6.eK c2.qe v)) _ := fun v => q6.up (by exact ⟨⟨rfl, rfl, rfl⟩, q6.qi⟩) ⟨rfl, rfl, rfl⟩
            refine k_Pa_readElement_149 ok (rE h12) (Nat.le_refl 7) (eF0 _ _) (eS0 h12) rW_34 (by omega) (by rw [e1]; exact pf_uni_4 (q6b _) _) (gF_h E.nR (by decide) (by decide)) (fun _ _ q => qC_len q) ?_
            rintro r M' ⟨c7, ⟨rfl, q7⟩, rfl⟩
            refine k_Pa_readElement_163 ok E (bI_nar _) ⟨_, by rw [he]; exact ⟨rfl, q7⟩, rfl⟩ (Nat.le_refl _) (Nat.le_refl _)
  · obtain ⟨rfl, rfl⟩ := w2 h12
    refine k_Pa_readElement_8 ok E.nL (fun w => absurd rfl w) (fun _ => ?_)
    refine k_Pa_readElement_14 ok E ⟨_, pF_f (by unfold pE; rw [if_neg (by omega)]) q, rfl⟩ (Nat.le_refl _) (Nat.le_refl _)
theorem pf_grp_3 (q : Pf c c2 s) (x : Int32) : mm_ l y_Pa_readGroup w_Pa_readGroup (rmh 6) [.ref 34, .int x, .int (nI 3)] (W9 c2 m o) (qC m o (pF c (pG (tkn c) 1 s))) := by
  have hqg : c2.qg = s.2.2.2.2 := by rw [← q.2.2]; rfl
  have he : pG (tkn c) 1 s = (bif wS (tkn c) s 123 then (if s.2.2.2.2 < 145 then (bif wS (tkn c) (wSt (tkn c) (wG s)) 125 then (true, wSt (tkn c) (wSt (tkn c) (wG s))) else pEl (tkn c) (pG (tkn c) 0) 12 (wSt (tkn c) (wG s))) else (false, s)) else (false, s)) := rfl
  refine mm_intro (by decide) (Nat.le_of_ble_eq_true rfl) i_Pa_readGroup (fun X ok E => ?_)
  refine k_Pa_readGroup_0 ok rW_34 rF_Pa_0 rW_13 (pf_atSign q _) (gF_h E.nR (by decide) (by decide)) (fun _ _ q => qC_len q) ?_
  rintro r M' ⟨c2, ⟨rfl, rfl⟩, rfl⟩
  refine k_Pa_readGroup_9 ok (fun z => have z := bI_0 z; ?_) (fun z => have z := bI_1 z; ?_)
  · rw [z] at he
    refine k_Pa_readGroup_17 ok E ⟨_, pF_f he q, rfl⟩ (Nat.le_refl _) (Nat.le_refl _)
  rw [z] at he
  refine k_Pa_readGroup_12 ok (fun _ => ?_) (fun w => absurd (by decide) w)
  refine k_Pa_readGroup_19 ok rW_34 rF_Pa_1 rW_17 (qu_newGroup2 q.qi _) (gF_h E.nR (by decide) (by decide)) (fun _ _ q => qC_len q) ?_
  rintro r M' ⟨c3, ⟨w1, w2⟩, rfl⟩
  by_cases hg : c2.qg < 145
  · obtain ⟨rfl, a1, a2, a3, a4⟩ := w1 hg
    have q3 : Pf c c3 (wG s) := ⟨q.1.trans a1, ⟨a2.trans q.2.1.1, a3.trans q.2.1.2⟩, by rw [a4, q.2.2]⟩
    have he2 : pG (tkn c) 1 s = (bif wS (tkn c) (wSt (tkn c) (wG s)) 125 then (true, wSt (tkn c) (wSt (tkn c) (wG s))) else pEl (tkn c) (pG (tkn c) 0) 12 (wSt (tkn c) (wG s))) := by
      rw [he]
      show (if s.2.2.2.2 < 145 then _ else _) = _
      rw [if_pos (by omega)]
    refine k_Pa_readGroup_27 ok E.nL (fun _ => ?_) (fun w => absurd w (n_m1 hg))
    refine k_Pa_readGroup_35 ok rW_34 rF_Pa_0 rW_13 (pf_step q3) (gF_h E.nR (by decide) (by decide)) (fun _ _ q => qC_len q) ?_
    rintro r M' ⟨c4, ⟨rfl, q4⟩, rfl⟩
    refine k_Pa_readGroup_42 ok rW_34 rF_Pa_0 rW_13 (pf_takeSign q4 _) (gF_h E.nR (by decide) (by decide)) (fun _ _ q => qC_len q) ?_
    rintro r M' ⟨c5, ⟨rfl, q5⟩, rfl⟩
    cases k1 : wS (tkn c) (wSt (tkn c) (wG s)) 125 with
    | true =>
      rw [wTs_t k1] at q5 ⊢
      rw [k1] at he2
      refine k_Pa_readGroup_51 ok (fun w => absurd w b1n) (fun _ => ?_)
      refine k_Pa_readGroup_54 ok E ⟨_, pF_t he2 q5, rfl⟩ (Nat.le_refl _) (Nat.le_refl _)
    | false =>
      rw [wTs_f k1] at q5 ⊢
      rw [k1] at he2
      refine k_Pa_readGroup_51 ok (fun _ => ?_) (fun w => absurd rfl w)
      refine k_Pa_readGroup_56 ok E.nL ?_
      have L1 : ∀ r j c1 s1, j + r = 12 → Pf c c1 s1 → pG (tkn c) 1 s = pEl (tkn c) (pG (tkn c) 0) r s1 → gg X (W9 c1 m o) 0 0 59 [(0, .ref 34), (2, .int (nI 3)), (3, .int (nI c2.qg)), (4, .int (nI j))] [] := by
        intro r
        induction r with
        | zero =>
          intro j c1 s1 hj q1 he3
          refine k_Pa_readGroup_59 ok (fun z => have z := (nLe (nL 12) rfl (by omega) (by omega) z); ?_) (fun z => have z := (nNle (nL 12) rfl (by omega) (by omega) z); ?_)
          · refine k_Pa_readGroup_105 ok E ⟨_, pF_f he3 q1, rfl⟩ (Nat.le_refl _) (Nat.le_refl _)
          · omega
        | succ r ih =>
          intro j c1 s1 hj q1 he3
          have e0 : pEl (tkn c) (pG (tkn c) 0) (r + 1) s1 = (bif (pE (tkn c) (pG (tkn c) 0) s1).1 then (bif wS (tkn c) (pE (tkn c) (pG (tkn c) 0) s1).2 46 then pEl (tkn c) (pG (tkn c) 0) r (wSt (tkn c) (pE (tkn c) (pG (tkn c) 0) s1).2) else wTs (tkn c) (pE (tkn c) (pG (tkn c) 0) s1).2 125) else (false, (pE (tkn c) (pG (tkn c) 0) s1).2)) := rfl
          rw [e0] at he3
          refine k_Pa_readGroup_59 ok (fun z => have z := (nLe (nL 12) rfl (by omega) (by omega) z); ?_) (fun z => have z := (nNle (nL 12) rfl (by omega) (by omega) z); ?_)
          · omega
          refine k_Pa_readGroup_66 ok rW_34 (pf_el_3 q1 _) (gF_h E.nR (by decide) (by decide)) (fun _ _ q => qC_len q) ?_
          rintro r M' ⟨c6, ⟨rfl, q6⟩, rfl⟩
          refine k_Pa_readGroup_72 ok (fun z => have z := bI_1 z; ?_) (fun z => have z := bI_0 z; ?_)
          · rw [z] at he3
            refine k_Pa_readGroup_77 ok rW_34 rF_Pa_0 rW_13 (pf_takeSign q6 _) (gF_h E.nR (by decide) (by decide)) (fun _ _ q => qC_len q) ?_
            rintro r M' ⟨c7, ⟨rfl, q7⟩, rfl⟩
            cases k2 : wS (tkn c) (pE (tkn c) (pG (tkn c) 0) s1).2 46 with
            | true =>
              rw [wTs_t k2] at q7 ⊢
              rw [k2] at he3
              refine k_Pa_readGroup_86 ok (fun _ => ?_) (fun w => absurd w b1n)
              refine k_Pa_readGroup_99 ok E.nL ?_
              rw [nI_1]
              exact ih (j + 1) c7 _ (by omega) q7 he3
            | false =>
              rw [wTs_f k2] at q7 ⊢
              rw [k2] at he3
              refine k_Pa_readGroup_86 ok (fun w => absurd rfl w) (fun _ => ?_)
              refine k_Pa_readGroup_89 ok rW_34 rF_Pa_0 rW_13 (pf_takeSign q7 _) (gF_h E.nR (by decide) (by decide)) (fun _ _ q => qC_len q) ?_
              rintro r M' ⟨c8, ⟨rfl, q8⟩, rfl⟩
              refine k_Pa_readGroup_98 ok E (bI_nar _) ⟨_, by rw [he3]; exact ⟨rfl, q8⟩, rfl⟩ (Nat.le_refl _) (Nat.le_refl _)
          · rw [z] at he3
            refine k_Pa_readGroup_75 ok E ⟨_, pF_f he3 q6, rfl⟩ (Nat.le_refl _) (Nat.le_refl _)
      exact L1 12 0 c5 _ rfl q5 he2
  · obtain ⟨rfl, rfl⟩ := w2 hg
    refine k_Pa_readGroup_27 ok E.nL (fun w => absurd rfl w) (fun _ => ?_)
    refine k_Pa_readGroup_33 ok E ⟨_, pF_f (by rw [he]; show (if s.2.2.2.2 < 145 then _ else _) = _; rw [if_neg (by omega)]) q, rfl⟩ (Nat.le_refl _) (Nat.le_refl _)
theorem pf_uni_3 (q : Pf c c2 s) (x : Int32) : mm_ l y_Pa_readUnion w_Pa_readUnion (rmh 7) [.ref 34, .int x, .int (nI 3)] (W9 c2 m o) (qC m o (pF c (pUn (tkn c) (pG (tkn c) 1) 12 s))) := by
  refine mm_intro (by decide) (Nat.le_of_ble_eq_true rfl) i_Pa_readUnion (fun X ok E => ?_)
  refine k_Pa_readUnion_0 ok E.nL ?_
  have L1 : ∀ r j c1 s1, j + r = 12 → Pf c c1 s1 → pUn (tkn c) (pG (tkn c) 1) 12 s = pUn (tkn c) (pG (tkn c) 1) r s1 → gg X (W9 c1 m o) 0 0 2 [(0, .ref 34), (1, .int x), (2, .int (nI 3)), (3, .int (nI j))] [] := by
    intro r
    induction r with
    | zero =>
      intro j c1 s1 hj q1 he
      refine k_Pa_readUnion_2 ok (fun z => have z := (nLe (nL 12) rfl (by omega) (by omega) z); ?_) (fun z => have z := (nNle (nL 12) rfl (by omega) (by omega) z); ?_)
      · refine k_Pa_readUnion_40 ok E ⟨_, pF_f he q1, rfl⟩ (Nat.le_refl _) (Nat.le_refl _)
      · omega
    | succ r ih =>
      intro j c1 s1 hj q1 he
      have e0 : pUn (tkn c) (pG (tkn c) 1) (r + 1) s1 = (bif (pG (tkn c) 1 s1).1 then (bif wK (tkn c) (pG (tkn c) 1 s1).2 8461816677183520768 then pUn (tkn c) (pG (tkn c) 1) r (wSt (tkn c) (pG (tkn c) 1 s1).2) else (true, (pG (tkn c) 1 s1).2)) else (false, (pG (tkn c) 1 s1).2)) := rfl
      rw [e0] at he
      refine k_Pa_readUnion_2 ok (fun z => have z := (nLe (nL 12) rfl (by omega) (by omega) z); ?_) (fun z => have z := (nNle (nL 12) rfl (by omega) (by omega) z); ?_)
      · omega
      refine k_Pa_readUnion_8 ok rW_34 (pf_grp_3 q1 _) (gF_h E.nR (by decide) (by decide)) (fun _ _ q => qC_len q) ?_
      rintro r M' ⟨c3, ⟨rfl, q3⟩, rfl⟩
      refine k_Pa_readUnion_14 ok (fun z => have z := bI_1 z; ?_) (fun z => have z := bI_0 z; ?_)
      · rw [z] at he
        refine k_Pa_readUnion_19 ok rW_34 rF_Pa_0 rW_13 (pf_takeKey q3 _) (gF_h E.nR (by decide) (by decide)) (fun _ _ q => qC_len q) ?_
        rintro r M' ⟨c4, ⟨rfl, q4⟩, rfl⟩
        cases hb : wK (tkn c) (pG (tkn c) 1 s1).2 8461816677183520768 with
        | false =>
          rw [wTk_f hb] at q4 ⊢
          rw [hb] at he
          refine k_Pa_readUnion_29 ok (fun w => absurd rfl w) (fun _ => ?_)
          refine k_Pa_readUnion_32 ok E ⟨_, pF_t he q4, rfl⟩ (Nat.le_refl _) (Nat.le_refl _)
        | true =>
          rw [wTk_t hb] at q4 ⊢
          rw [hb] at he
          refine k_Pa_readUnion_29 ok (fun _ => ?_) (fun w => absurd w b1n)
          refine k_Pa_readUnion_34 ok E.nL ?_
          rw [nI_1]
          exact ih (j + 1) c4 _ (by omega) q4 he
      · rw [z] at he
        refine k_Pa_readUnion_17 ok E ⟨_, pF_f he q3, rfl⟩ (Nat.le_refl _) (Nat.le_refl _)
  exact L1 12 0 c2 s rfl q rfl
theorem pf_el_2 (q : Pf c c2 s) (x : Int32) : mm_ l y_Pa_readElement w_Pa_readElement (rmh 8) [.ref 34, .int x, .int (nI 2)] (W9 c2 m o) (qC m o (pF c (pE (tkn c) (pG (tkn c) 1) s))) := by
  have hqe : c2.qe = s.2.2.2.1 := by rw [← q.2.2]; rfl
  have e1 : nI 2 + 1 = nI 3 := rfl
  refine mm_intro (by decide) (Nat.le_of_ble_eq_true rfl) i_Pa_readElement (fun X ok E => ?_)
  refine k_Pa_readElement_0 ok rW_34 rF_Pa_1 rW_17 (qu_newElement2 q.qi _) (gF_h E.nR (by decide) (by decide)) (fun _ _ q => qC_len q) ?_
  rintro r M' ⟨c3, ⟨w1, w2⟩, rfl⟩
  by_cases h12 : c2.qe < 12
  · obtain ⟨rfl, a1, a2, a3, a4⟩ := w1 h12
    have q3 : Pf c c3 (wE s) := ⟨q.1.trans a1, ⟨a2.trans q.2.1.1, a3.trans q.2.1.2⟩, by rw [a4, q.2.2]⟩
    have he : pE (tkn c) (pG (tkn c) 1) s = (bif wK (tkn c) (wE s) 7379548711597244416 then pTest (tkn c) (wSt (tkn c) (wE s)) else bif wK (tkn c) (wE s) 8030046131791487340 then pG (tkn c) 1 (wSt (tkn c) (wE s)) else bif wK (tkn c) (wE s) 7883954073408372736 then pG (tkn c) 1 (wSt (tkn c) (wE s)) else bif wS (tkn c) (wE s) 123 then pUn (tkn c) (pG (tkn c) 1) 12 (wE s) else pPat (tkn c) (wE s)) := by
      unfold pE
      rw [if_pos (by omega)]
      rfl
    refine k_Pa_readElement_8 ok E.nL (fun _ => ?_) (fun w => absurd w (n_m1 (by omega)))
    refine k_Pa_readElement_16 ok E.nL rW_34 rF_Pa_1 rW_17 rF_Qu_8 rW_20 (vin rfl (by omega) (by decide)) (qx_at q3.qi h12) rF_Pa_0 rW_13 (pf_takeKey q3 _) (gF_h E.nR (by decide) (by decide)) (fun _ _ q => qC_len q) ?_
    rintro r M' ⟨c4, ⟨rfl, q4⟩, rfl⟩
    cases k1 : wK (tkn c) (wE s) 7379548711597244416 with
    | true =>
      rw [wTk_t k1] at q4 ⊢
      rw [k1] at he
      have q4 : Pf c c4 (wSt (tkn c) (wE s)) := q4
      refine k_Pa_readElement_37 ok (fun w => absurd w b1n) (fun _ => ?_)
      have q4b : ∀ v, Pf c (c4.u_eK (eU c4.eK c2.qe v)) _ := fun v => q4.up (by exact ⟨⟨rfl, rfl, rfl⟩, q4.qi⟩) ⟨rfl, rfl, rfl⟩
      refine k_Pa_readElement_40 ok (rE h12) (Nat.le_refl 7) (eF0 _ _) (eS0 h12) rW_34 (by omega) (pf_nots (q4b _) h12) (gF_h E.nR (by decide) (by decide)) (fun _ _ q => qC_len q) ?_
      rintro r M' ⟨c5, ⟨rfl, q5⟩, rfl⟩
      refine k_Pa_readElement_52 ok rW_34 rF_Pa_0 rW_13 (pf_takeKey q5 _) (gF_h E.nR (by decide) (by decide)) (fun _ _ q => qC_len q) ?_
      rintro r M' ⟨c6, ⟨rfl, q6⟩, rfl⟩
      have he2 : pE (tkn c) (pG (tkn c) 1) s = (bif wK (tkn c) (pNots (tkn c) 4 (wSt (tkn c) (wE s))) 7093017055116394496 then pVar (tkn c) (wSt (tkn c) (pNots (tkn c) 4 (wSt (tkn c) (wE s)))) else pCmp (tkn c) (pNots (tkn c) 4 (wSt (tkn c) (wE s)))) := by
        rw [he, cond_true]
        unfold pTest
        rfl
      cases k5 : wK (tkn c) (pNots (tkn c) 4 (wSt (tkn c) (wE s))) 7093017055116394496 with
      | true =>
        rw [wTk_t k5] at q6 ⊢
        rw [k5] at he2
        refine k_Pa_readElement_62 ok (fun w => absurd w b1n) (fun _ => ?_)
        refine k_Pa_readElement_65 ok rW_34 (pf_bound q6 h12) (gF_h E.nR (by decide) (by decide)) (fun _ _ q => qC_len q) ?_
        rintro r M' ⟨c7, ⟨rfl, q7⟩, rfl⟩
        refine k_Pa_readElement_71 ok ?_
        refine k_Pa_readElement_80 ok E (bI_nar _) ⟨_, by rw [he2]; exact ⟨rfl, q7⟩, rfl⟩ (Nat.le_refl _) (Nat.le_refl _)
      | false =>
        rw [wTk_f k5] at q6 ⊢
        rw [k5] at he2
        refine k_Pa_readElement_62 ok (fun _ => ?_) (fun w => absurd rfl w)
        refine k_Pa_readElement_74 ok rW_34 (pf_cmp q6 h12) (gF_h E.nR (by decide) (by decide)) (fun _ _ q => qC_len q) ?_
        rintro r M' ⟨c7, ⟨rfl, q7⟩, rfl⟩
        refine k_Pa_readElement_80 ok E (bI_nar _) ⟨_, by rw [he2]; exact ⟨rfl, q7⟩, rfl⟩ (Nat.le_refl _) (Nat.le_refl _)
    | false =>
      rw [wTk_f k1] at q4 ⊢
      rw [k1] at he
      refine k_Pa_readElement_37 ok (fun _ => ?_) (fun w => absurd rfl w)
      refine k_Pa_readElement_81 ok rW_34 rF_Pa_0 rW_13 (pf_takeKey q4 _) (gF_h E.nR (by decide) (by decide)) (fun _ _ q => qC_len q) ?_
      rintro r M' ⟨c5, ⟨rfl, q5⟩, rfl⟩
      cases k2 : wK (tkn c) (wE s) 8030046131791487340 with
      | true =>
        rw [wTk_t k2] at q5 ⊢
        rw [k2] at he
        refine k_Pa_readElement_91 ok (fun w => absurd w b1n) (fun _ => ?_)
        have q5b : ∀ v, Pf c (c5.u_eK (eU c5.eK c2.qe v)) _ := fun v => q5.up (by exact ⟨⟨rfl, rfl, rfl⟩, q5.qi⟩) ⟨rfl, rfl, rfl⟩
        refine k_Pa_readElement_94 ok (rE h12) (Nat.le_refl 7) (eF0 _ _) (eS0 h12) rW_34 (by omega) (by rw [e1]; exact pf_grp_3 (q5b _) _) (gF_h E.nR (by decide) (by decide)) (fun _ _ q => qC_len q) ?_
        rintro r M' ⟨c7, ⟨rfl, q7⟩, rfl⟩
        refine k_Pa_readElement_108 ok E (bI_nar _) ⟨_, by rw [he]; exact ⟨rfl, q7⟩, rfl⟩ (Nat.le_refl _) (Nat.le_refl _)
      | false =>
        rw [wTk_f k2] at q5 ⊢
        rw [k2] at he
        refine k_Pa_readElement_91 ok (fun _ => ?_) (fun w => absurd rfl w)
        refine k_Pa_readElement_109 ok rW_34 rF_Pa_0 rW_13 (pf_takeKey q5 _) (gF_h E.nR (by decide) (by decide)) (fun _ _ q => qC_len q) ?_
        rintro r M' ⟨c6, ⟨rfl, q6⟩, rfl⟩
        cases k3 : wK (tkn c) (wE s) 7883954073408372736 with
        | true =>
          rw [wTk_t k3] at q6 ⊢
          rw [k3] at he
          refine k_Pa_readElement_119 ok (fun w => absurd w b1n) (fun _ => ?_)
          have q6b : ∀ v, Pf c (c6.u_eK (eU c6.eK c2.qe v)) _ := fun v => q6.up (by exact ⟨⟨rfl, rfl, rfl⟩, q6.qi⟩) ⟨rfl, rfl, rfl⟩
          refine k_Pa_readElement_122 ok (rE h12) (Nat.le_refl 7) (eF0 _ _) (eS0 h12) rW_34 (by omega) (by rw [e1]; exact pf_grp_3 (q6b _) _) (gF_h E.nR (by decide) (by decide)) (fun _ _ q => qC_len q) ?_
          rintro r M' ⟨c7, ⟨rfl, q7⟩, rfl⟩
          refine k_Pa_readElement_136 ok E (bI_nar _) ⟨_, by rw [he]; exact ⟨rfl, q7⟩, rfl⟩ (Nat.le_refl _) (Nat.le_refl _)
        | false =>
          rw [wTk_f k3] at q6 ⊢
          rw [k3] at he
          refine k_Pa_readElement_119 ok (fun _ => ?_) (fun w => absurd rfl w)
          refine k_Pa_readElement_137 ok rW_34 rF_Pa_0 rW_13 (pf_atSign q6 _) (gF_h E.nR (by decide) (by decide)) (fun _ _ q => qC_len q) ?_
          rintro r M' ⟨c6, ⟨rfl, rfl⟩, rfl⟩
          refine k_Pa_readElement_146 ok (fun z => have z := bI_0 z; ?_) (fun z => have z := bI_1 z; ?_)
          · rw [z] at he
            have q6b : ∀ v, Pf c (c6.u_eK (eU c6.eK c2.qe v)) _ := fun v => q6.up (by exact ⟨⟨rfl, rfl, rfl⟩, q6.qi⟩) ⟨rfl, rfl, rfl⟩
            refine k_Pa_readElement_164 ok (rE h12) (Nat.le_refl 7) (eF0 _ _) (eS0 h12) rW_34 (by omega) (pf_pat (q6b _) h12) (gF_h E.nR (by decide) (by decide)) (fun _ _ q => qC_len q) ?_
            rintro r M' ⟨c7, ⟨rfl, q7⟩, rfl⟩
            refine k_Pa_readElement_176 ok E (bI_nar _) ⟨_, by rw [he]; exact ⟨rfl, q7⟩, rfl⟩ (Nat.le_refl _) (Nat.le_refl _)
          · rw [z] at he
            have q6b : ∀ v, Pf c (c6.u_eK (eU c6.eK c2.qe v)) _ := fun v => q6.up (by exact ⟨⟨rfl, rfl, rfl⟩, q6.qi⟩) ⟨rfl, rfl, rfl⟩
            refine k_Pa_readElement_149 ok (rE h12) (Nat.le_refl 7) (eF0 _ _) (eS0 h12) rW_34 (by omega) (by rw [e1]; exact pf_uni_3 (q6b _) _) (gF_h E.nR (by decide) (by decide)) (fun _ _ q => qC_len q) ?_
            rintro r M' ⟨c7, ⟨rfl, q7⟩, rfl⟩
            refine k_Pa_readElement_163 ok E (bI_nar _) ⟨_, by rw [he]; exact ⟨rfl, q7⟩, rfl⟩ (Nat.le_refl _) (Nat.le_refl _)
  · obtain ⟨rfl, rfl⟩ := w2 h12
    refine k_Pa_readElement_8 ok E.nL (fun w => absurd rfl w) (fun _ => ?_)
    refine k_Pa_readElement_14 ok E ⟨_, pF_f (by unfold pE; rw [if_neg (by omega)]) q, rfl⟩ (Nat.le_refl _) (Nat.le_refl _)
theorem pf_grp_2 (q : Pf c c2 s) (x : Int32) : mm_ l y_Pa_readGroup w_Pa_readGroup (rmh 9) [.ref 34, .int x, .int (nI 2)] (W9 c2 m o) (qC m o (pF c (pG (tkn c) 2 s))) := by
  have hqg : c2.qg = s.2.2.2.2 := by rw [← q.2.2]; rfl
  have he : pG (tkn c) 2 s = (bif wS (tkn c) s 123 then (if s.2.2.2.2 < 145 then (bif wS (tkn c) (wSt (tkn c) (wG s)) 125 then (true, wSt (tkn c) (wSt (tkn c) (wG s))) else pEl (tkn c) (pG (tkn c) 1) 12 (wSt (tkn c) (wG s))) else (false, s)) else (false, s)) := rfl
  refine mm_intro (by decide) (Nat.le_of_ble_eq_true rfl) i_Pa_readGroup (fun X ok E => ?_)
  refine k_Pa_readGroup_0 ok rW_34 rF_Pa_0 rW_13 (pf_atSign q _) (gF_h E.nR (by decide) (by decide)) (fun _ _ q => qC_len q) ?_
  rintro r M' ⟨c2, ⟨rfl, rfl⟩, rfl⟩
  refine k_Pa_readGroup_9 ok (fun z => have z := bI_0 z; ?_) (fun z => have z := bI_1 z; ?_)
  · rw [z] at he
    refine k_Pa_readGroup_17 ok E ⟨_, pF_f he q, rfl⟩ (Nat.le_refl _) (Nat.le_refl _)
  rw [z] at he
  refine k_Pa_readGroup_12 ok (fun _ => ?_) (fun w => absurd (by decide) w)
  refine k_Pa_readGroup_19 ok rW_34 rF_Pa_1 rW_17 (qu_newGroup2 q.qi _) (gF_h E.nR (by decide) (by decide)) (fun _ _ q => qC_len q) ?_
  rintro r M' ⟨c3, ⟨w1, w2⟩, rfl⟩
  by_cases hg : c2.qg < 145
  · obtain ⟨rfl, a1, a2, a3, a4⟩ := w1 hg
    have q3 : Pf c c3 (wG s) := ⟨q.1.trans a1, ⟨a2.trans q.2.1.1, a3.trans q.2.1.2⟩, by rw [a4, q.2.2]⟩
    have he2 : pG (tkn c) 2 s = (bif wS (tkn c) (wSt (tkn c) (wG s)) 125 then (true, wSt (tkn c) (wSt (tkn c) (wG s))) else pEl (tkn c) (pG (tkn c) 1) 12 (wSt (tkn c) (wG s))) := by
      rw [he]
      show (if s.2.2.2.2 < 145 then _ else _) = _
      rw [if_pos (by omega)]
    refine k_Pa_readGroup_27 ok E.nL (fun _ => ?_) (fun w => absurd w (n_m1 hg))
    refine k_Pa_readGroup_35 ok rW_34 rF_Pa_0 rW_13 (pf_step q3) (gF_h E.nR (by decide) (by decide)) (fun _ _ q => qC_len q) ?_
    rintro r M' ⟨c4, ⟨rfl, q4⟩, rfl⟩
    refine k_Pa_readGroup_42 ok rW_34 rF_Pa_0 rW_13 (pf_takeSign q4 _) (gF_h E.nR (by decide) (by decide)) (fun _ _ q => qC_len q) ?_
    rintro r M' ⟨c5, ⟨rfl, q5⟩, rfl⟩
    cases k1 : wS (tkn c) (wSt (tkn c) (wG s)) 125 with
    | true =>
      rw [wTs_t k1] at q5 ⊢
      rw [k1] at he2
      refine k_Pa_readGroup_51 ok (fun w => absurd w b1n) (fun _ => ?_)
      refine k_Pa_readGroup_54 ok E ⟨_, pF_t he2 q5, rfl⟩ (Nat.le_refl _) (Nat.le_refl _)
    | false =>
      rw [wTs_f k1] at q5 ⊢
      rw [k1] at he2
      refine k_Pa_readGroup_51 ok (fun _ => ?_) (fun w => absurd rfl w)
      refine k_Pa_readGroup_56 ok E.nL ?_
      have L1 : ∀ r j c1 s1, j + r = 12 → Pf c c1 s1 → pG (tkn c) 2 s = pEl (tkn c) (pG (tkn c) 1) r s1 → gg X (W9 c1 m o) 0 0 59 [(0, .ref 34), (2, .int (nI 2)), (3, .int (nI c2.qg)), (4, .int (nI j))] [] := by
        intro r
        induction r with
        | zero =>
          intro j c1 s1 hj q1 he3
          refine k_Pa_readGroup_59 ok (fun z => have z := (nLe (nL 12) rfl (by omega) (by omega) z); ?_) (fun z => have z := (nNle (nL 12) rfl (by omega) (by omega) z); ?_)
          · refine k_Pa_readGroup_105 ok E ⟨_, pF_f he3 q1, rfl⟩ (Nat.le_refl _) (Nat.le_refl _)
          · omega
        | succ r ih =>
          intro j c1 s1 hj q1 he3
          have e0 : pEl (tkn c) (pG (tkn c) 1) (r + 1) s1 = (bif (pE (tkn c) (pG (tkn c) 1) s1).1 then (bif wS (tkn c) (pE (tkn c) (pG (tkn c) 1) s1).2 46 then pEl (tkn c) (pG (tkn c) 1) r (wSt (tkn c) (pE (tkn c) (pG (tkn c) 1) s1).2) else wTs (tkn c) (pE (tkn c) (pG (tkn c) 1) s1).2 125) else (false, (pE (tkn c) (pG (tkn c) 1) s1).2)) := rfl
          rw [e0] at he3
          refine k_Pa_readGroup_59 ok (fun z => have z := (nLe (nL 12) rfl (by omega) (by omega) z); ?_) (fun z => have z := (nNle (nL 12) rfl (by omega) (by omega) z); ?_)
          · omega
          refine k_Pa_readGroup_66 ok rW_34 (pf_el_2 q1 _) (gF_h E.nR (by decide) (by decide)) (fun _ _ q => qC_len q) ?_
          rintro r M' ⟨c6, ⟨rfl, q6⟩, rfl⟩
          refine k_Pa_readGroup_72 ok (fun z => have z := bI_1 z; ?_) (fun z => have z := bI_0 z; ?_)
          · rw [z] at he3
            refine k_Pa_readGroup_77 ok rW_34 rF_Pa_0 rW_13 (pf_takeSign q6 _) (gF_h E.nR (by decide) (by decide)) (fun _ _ q => qC_len q) ?_
            rintro r M' ⟨c7, ⟨rfl, q7⟩, rfl⟩
            cases k2 : wS (tkn c) (pE (tkn c) (pG (tkn c) 1) s1).2 46 with
            | true =>
              rw [wTs_t k2] at q7 ⊢
              rw [k2] at he3
              refine k_Pa_readGroup_86 ok (fun _ => ?_) (fun w => absurd w b1n)
              refine k_Pa_readGroup_99 ok E.nL ?_
              rw [nI_1]
              exact ih (j + 1) c7 _ (by omega) q7 he3
            | false =>
              rw [wTs_f k2] at q7 ⊢
              rw [k2] at he3
              refine k_Pa_readGroup_86 ok (fun w => absurd rfl w) (fun _ => ?_)
              refine k_Pa_readGroup_89 ok rW_34 rF_Pa_0 rW_13 (pf_takeSign q7 _) (gF_h E.nR (by decide) (by decide)) (fun _ _ q => qC_len q) ?_
              rintro r M' ⟨c8, ⟨rfl, q8⟩, rfl⟩
              refine k_Pa_readGroup_98 ok E (bI_nar _) ⟨_, by rw [he3]; exact ⟨rfl, q8⟩, rfl⟩ (Nat.le_refl _) (Nat.le_refl _)
          · rw [z] at he3
            refine k_Pa_readGroup_75 ok E ⟨_, pF_f he3 q6, rfl⟩ (Nat.le_refl _) (Nat.le_refl _)
      exact L1 12 0 c5 _ rfl q5 he2
  · obtain ⟨rfl, rfl⟩ := w2 hg
    refine k_Pa_readGroup_27 ok E.nL (fun w => absurd rfl w) (fun _ => ?_)
    refine k_Pa_readGroup_33 ok E ⟨_, pF_f (by rw [he]; show (if s.2.2.2.2 < 145 then _ else _) = _; rw [if_neg (by omega)]) q, rfl⟩ (Nat.le_refl _) (Nat.le_refl _)
theorem pf_uni_2 (q : Pf c c2 s) (x : Int32) : mm_ l y_Pa_readUnion w_Pa_readUnion (rmh 10) [.ref 34, .int x, .int (nI 2)] (W9 c2 m o) (qC m o (pF c (pUn (tkn c) (pG (tkn c) 2) 12 s))) := by
  refine mm_intro (by decide) (Nat.le_of_ble_eq_true rfl) i_Pa_readUnion (fun X ok E => ?_)
  refine k_Pa_readUnion_0 ok E.nL ?_
  have L1 : ∀ r j c1 s1, j + r = 12 → Pf c c1 s1 → pUn (tkn c) (pG (tkn c) 2) 12 s = pUn (tkn c) (pG (tkn c) 2) r s1 → gg X (W9 c1 m o) 0 0 2 [(0, .ref 34), (1, .int x), (2, .int (nI 2)), (3, .int (nI j))] [] := by
    intro r
    induction r with
    | zero =>
      intro j c1 s1 hj q1 he
      refine k_Pa_readUnion_2 ok (fun z => have z := (nLe (nL 12) rfl (by omega) (by omega) z); ?_) (fun z => have z := (nNle (nL 12) rfl (by omega) (by omega) z); ?_)
      · refine k_Pa_readUnion_40 ok E ⟨_, pF_f he q1, rfl⟩ (Nat.le_refl _) (Nat.le_refl _)
      · omega
    | succ r ih =>
      intro j c1 s1 hj q1 he
      have e0 : pUn (tkn c) (pG (tkn c) 2) (r + 1) s1 = (bif (pG (tkn c) 2 s1).1 then (bif wK (tkn c) (pG (tkn c) 2 s1).2 8461816677183520768 then pUn (tkn c) (pG (tkn c) 2) r (wSt (tkn c) (pG (tkn c) 2 s1).2) else (true, (pG (tkn c) 2 s1).2)) else (false, (pG (tkn c) 2 s1).2)) := rfl
      rw [e0] at he
      refine k_Pa_readUnion_2 ok (fun z => have z := (nLe (nL 12) rfl (by omega) (by omega) z); ?_) (fun z => have z := (nNle (nL 12) rfl (by omega) (by omega) z); ?_)
      · omega
      refine k_Pa_readUnion_8 ok rW_34 (pf_grp_2 q1 _) (gF_h E.nR (by decide) (by decide)) (fun _ _ q => qC_len q) ?_
      rintro r M' ⟨c3, ⟨rfl, q3⟩, rfl⟩
      refine k_Pa_readUnion_14 ok (fun z => have z := bI_1 z; ?_) (fun z => have z := bI_0 z; ?_)
      · rw [z] at he
        refine k_Pa_readUnion_19 ok rW_34 rF_Pa_0 rW_13 (pf_takeKey q3 _) (gF_h E.nR (by decide) (by decide)) (fun _ _ q => qC_len q) ?_
        rintro r M' ⟨c4, ⟨rfl, q4⟩, rfl⟩
        cases hb : wK (tkn c) (pG (tkn c) 2 s1).2 8461816677183520768 with
        | false =>
          rw [wTk_f hb] at q4 ⊢
          rw [hb] at he
          refine k_Pa_readUnion_29 ok (fun w => absurd rfl w) (fun _ => ?_)
          refine k_Pa_readUnion_32 ok E ⟨_, pF_t he q4, rfl⟩ (Nat.le_refl _) (Nat.le_refl _)
        | true =>
          rw [wTk_t hb] at q4 ⊢
          rw [hb] at he
          refine k_Pa_readUnion_29 ok (fun _ => ?_) (fun w => absurd w b1n)
          refine k_Pa_readUnion_34 ok E.nL ?_
          rw [nI_1]
          exact ih (j + 1) c4 _ (by omega) q4 he
      · rw [z] at he
        refine k_Pa_readUnion_17 ok E ⟨_, pF_f he q3, rfl⟩ (Nat.le_refl _) (Nat.le_refl _)
  exact L1 12 0 c2 s rfl q rfl
theorem pf_el_1 (q : Pf c c2 s) (x : Int32) : mm_ l y_Pa_readElement w_Pa_readElement (rmh 11) [.ref 34, .int x, .int (nI 1)] (W9 c2 m o) (qC m o (pF c (pE (tkn c) (pG (tkn c) 2) s))) := by
  have hqe : c2.qe = s.2.2.2.1 := by rw [← q.2.2]; rfl
  have e1 : nI 1 + 1 = nI 2 := rfl
  refine mm_intro (by decide) (Nat.le_of_ble_eq_true rfl) i_Pa_readElement (fun X ok E => ?_)
  refine k_Pa_readElement_0 ok rW_34 rF_Pa_1 rW_17 (qu_newElement2 q.qi _) (gF_h E.nR (by decide) (by decide)) (fun _ _ q => qC_len q) ?_
  rintro r M' ⟨c3, ⟨w1, w2⟩, rfl⟩
  by_cases h12 : c2.qe < 12
  · obtain ⟨rfl, a1, a2, a3, a4⟩ := w1 h12
    have q3 : Pf c c3 (wE s) := ⟨q.1.trans a1, ⟨a2.trans q.2.1.1, a3.trans q.2.1.2⟩, by rw [a4, q.2.2]⟩
    have he : pE (tkn c) (pG (tkn c) 2) s = (bif wK (tkn c) (wE s) 7379548711597244416 then pTest (tkn c) (wSt (tkn c) (wE s)) else bif wK (tkn c) (wE s) 8030046131791487340 then pG (tkn c) 2 (wSt (tkn c) (wE s)) else bif wK (tkn c) (wE s) 7883954073408372736 then pG (tkn c) 2 (wSt (tkn c) (wE s)) else bif wS (tkn c) (wE s) 123 then pUn (tkn c) (pG (tkn c) 2) 12 (wE s) else pPat (tkn c) (wE s)) := by
      unfold pE
      rw [if_pos (by omega)]
      rfl
    refine k_Pa_readElement_8 ok E.nL (fun _ => ?_) (fun w => absurd w (n_m1 (by omega)))
    refine k_Pa_readElement_16 ok E.nL rW_34 rF_Pa_1 rW_17 rF_Qu_8 rW_20 (vin rfl (by omega) (by decide)) (qx_at q3.qi h12) rF_Pa_0 rW_13 (pf_takeKey q3 _) (gF_h E.nR (by decide) (by decide)) (fun _ _ q => qC_len q) ?_
    rintro r M' ⟨c4, ⟨rfl, q4⟩, rfl⟩
    cases k1 : wK (tkn c) (wE s) 7379548711597244416 with
    | true =>
      rw [wTk_t k1] at q4 ⊢
      rw [k1] at he
      have q4 : Pf c c4 (wSt (tkn c) (wE s)) := q4
      refine k_Pa_readElement_37 ok (fun w => absurd w b1n) (fun _ => ?_)
      have q4b : ∀ v, Pf c (c4.u_eK (eU c4.eK c2.qe v)) _ := fun v => q4.up (by exact ⟨⟨rfl, rfl, rfl⟩, q4.qi⟩) ⟨rfl, rfl, rfl⟩
      refine k_Pa_readElement_40 ok (rE h12) (Nat.le_refl 7) (eF0 _ _) (eS0 h12) rW_34 (by omega) (pf_nots (q4b _) h12) (gF_h E.nR (by decide) (by decide)) (fun _ _ q => qC_len q) ?_
      rintro r M' ⟨c5, ⟨rfl, q5⟩, rfl⟩
      refine k_Pa_readElement_52 ok rW_34 rF_Pa_0 rW_13 (pf_takeKey q5 _) (gF_h E.nR (by decide) (by decide)) (fun _ _ q => qC_len q) ?_
      rintro r M' ⟨c6, ⟨rfl, q6⟩, rfl⟩
      have he2 : pE (tkn c) (pG (tkn c) 2) s = (bif wK (tkn c) (pNots (tkn c) 4 (wSt (tkn c) (wE s))) 7093017055116394496 then pVar (tkn c) (wSt (tkn c) (pNots (tkn c) 4 (wSt (tkn c) (wE s)))) else pCmp (tkn c) (pNots (tkn c) 4 (wSt (tkn c) (wE s)))) := by
        rw [he, cond_true]
        unfold pTest
        rfl
      cases k5 : wK (tkn c) (pNots (tkn c) 4 (wSt (tkn c) (wE s))) 7093017055116394496 with
      | true =>
        rw [wTk_t k5] at q6 ⊢
        rw [k5] at he2
        refine k_Pa_readElement_62 ok (fun w => absurd w b1n) (fun _ => ?_)
        refine k_Pa_readElement_65 ok rW_34 (pf_bound q6 h12) (gF_h E.nR (by decide) (by decide)) (fun _ _ q => qC_len q) ?_
        rintro r M' ⟨c7, ⟨rfl, q7⟩, rfl⟩
        refine k_Pa_readElement_71 ok ?_
        refine k_Pa_readElement_80 ok E (bI_nar _) ⟨_, by rw [he2]; exact ⟨rfl, q7⟩, rfl⟩ (Nat.le_refl _) (Nat.le_refl _)
      | false =>
        rw [wTk_f k5] at q6 ⊢
        rw [k5] at he2
        refine k_Pa_readElement_62 ok (fun _ => ?_) (fun w => absurd rfl w)
        refine k_Pa_readElement_74 ok rW_34 (pf_cmp q6 h12) (gF_h E.nR (by decide) (by decide)) (fun _ _ q => qC_len q) ?_
        rintro r M' ⟨c7, ⟨rfl, q7⟩, rfl⟩
        refine k_Pa_readElement_80 ok E (bI_nar _) ⟨_, by rw [he2]; exact ⟨rfl, q7⟩, rfl⟩ (Nat.le_refl _) (Nat.le_refl _)
    | false =>
      rw [wTk_f k1] at q4 ⊢
      rw [k1] at he
      refine k_Pa_readElement_37 ok (fun _ => ?_) (fun w => absurd rfl w)
      refine k_Pa_readElement_81 ok rW_34 rF_Pa_0 rW_13 (pf_takeKey q4 _) (gF_h E.nR (by decide) (by decide)) (fun _ _ q => qC_len q) ?_
      rintro r M' ⟨c5, ⟨rfl, q5⟩, rfl⟩
      cases k2 : wK (tkn c) (wE s) 8030046131791487340 with
      | true =>
        rw [wTk_t k2] at q5 ⊢
        rw [k2] at he
        refine k_Pa_readElement_91 ok (fun w => absurd w b1n) (fun _ => ?_)
        have q5b : ∀ v, Pf c (c5.u_eK (eU c5.eK c2.qe v)) _ := fun v => q5.up (by exact ⟨⟨rfl, rfl, rfl⟩, q5.qi⟩) ⟨rfl, rfl, rfl⟩
        refine k_Pa_readElement_94 ok (rE h12) (Nat.le_refl 7) (eF0 _ _) (eS0 h12) rW_34 (by omega) (by rw [e1]; exact pf_grp_2 (q5b _) _) (gF_h E.nR (by decide) (by decide)) (fun _ _ q => qC_len q) ?_
        rintro r M' ⟨c7, ⟨rfl, q7⟩, rfl⟩
        refine k_Pa_readElement_108 ok E (bI_nar _) ⟨_, by rw [he]; exact ⟨rfl, q7⟩, rfl⟩ (Nat.le_refl _) (Nat.le_refl _)
      | false =>
        rw [wTk_f k2] at q5 ⊢
        rw [k2] at he
        refine k_Pa_readElement_91 ok (fun _ => ?_) (fun w => absurd rfl w)
        refine k_Pa_readElement_109 ok rW_34 rF_Pa_0 rW_13 (pf_takeKey q5 _) (gF_h E.nR (by decide) (by decide)) (fun _ _ q => qC_len q) ?_
        rintro r M' ⟨c6, ⟨rfl, q6⟩, rfl⟩
        cases k3 : wK (tkn c) (wE s) 7883954073408372736 with
        | true =>
          rw [wTk_t k3] at q6 ⊢
          rw [k3] at he
          refine k_Pa_readElement_119 ok (fun w => absurd w b1n) (fun _ => ?_)
          have q6b : ∀ v, Pf c (c6.u_eK (eU c6.eK c2.qe v)) _ := fun v => q6.up (by exact ⟨⟨rfl, rfl, rfl⟩, q6.qi⟩) ⟨rfl, rfl, rfl⟩
          refine k_Pa_readElement_122 ok (rE h12) (Nat.le_refl 7) (eF0 _ _) (eS0 h12) rW_34 (by omega) (by rw [e1]; exact pf_grp_2 (q6b _) _) (gF_h E.nR (by decide) (by decide)) (fun _ _ q => qC_len q) ?_
          rintro r M' ⟨c7, ⟨rfl, q7⟩, rfl⟩
          refine k_Pa_readElement_136 ok E (bI_nar _) ⟨_, by rw [he]; exact ⟨rfl, q7⟩, rfl⟩ (Nat.le_refl _) (Nat.le_refl _)
        | false =>
          rw [wTk_f k3] at q6 ⊢
          rw [k3] at he
          refine k_Pa_readElement_119 ok (fun _ => ?_) (fun w => absurd rfl w)
          refine k_Pa_readElement_137 ok rW_34 rF_Pa_0 rW_13 (pf_atSign q6 _) (gF_h E.nR (by decide) (by decide)) (fun _ _ q => qC_len q) ?_
          rintro r M' ⟨c6, ⟨rfl, rfl⟩, rfl⟩
          refine k_Pa_readElement_146 ok (fun z => have z := bI_0 z; ?_) (fun z => have z := bI_1 z; ?_)
          · rw [z] at he
            have q6b : ∀ v, Pf c (c6.u_eK (eU c6.eK c2.qe v)) _ := fun v => q6.up (by exact ⟨⟨rfl, rfl, rfl⟩, q6.qi⟩) ⟨rfl, rfl, rfl⟩
            refine k_Pa_readElement_164 ok (rE h12) (Nat.le_refl 7) (eF0 _ _) (eS0 h12) rW_34 (by omega) (pf_pat (q6b _) h12) (gF_h E.nR (by decide) (by decide)) (fun _ _ q => qC_len q) ?_
            rintro r M' ⟨c7, ⟨rfl, q7⟩, rfl⟩
            refine k_Pa_readElement_176 ok E (bI_nar _) ⟨_, by rw [he]; exact ⟨rfl, q7⟩, rfl⟩ (Nat.le_refl _) (Nat.le_refl _)
          · rw [z] at he
            have q6b : ∀ v, Pf c (c6.u_eK (eU c6.eK c2.qe v)) _ := fun v => q6.up (by exact ⟨⟨rfl, rfl, rfl⟩, q6.qi⟩) ⟨rfl, rfl, rfl⟩
            refine k_Pa_readElement_149 ok (rE h12) (Nat.le_refl 7) (eF0 _ _) (eS0 h12) rW_34 (by omega) (by rw [e1]; exact pf_uni_2 (q6b _) _) (gF_h E.nR (by decide) (by decide)) (fun _ _ q => qC_len q) ?_
            rintro r M' ⟨c7, ⟨rfl, q7⟩, rfl⟩
            refine k_Pa_readElement_163 ok E (bI_nar _) ⟨_, by rw [he]; exact ⟨rfl, q7⟩, rfl⟩ (Nat.le_refl _) (Nat.le_refl _)
  · obtain ⟨rfl, rfl⟩ := w2 h12
    refine k_Pa_readElement_8 ok E.nL (fun w => absurd rfl w) (fun _ => ?_)
    refine k_Pa_readElement_14 ok E ⟨_, pF_f (by unfold pE; rw [if_neg (by omega)]) q, rfl⟩ (Nat.le_refl _) (Nat.le_refl _)
theorem pf_grp_1 (q : Pf c c2 s) (x : Int32) : mm_ l y_Pa_readGroup w_Pa_readGroup (rmh 12) [.ref 34, .int x, .int (nI 1)] (W9 c2 m o) (qC m o (pF c (pG (tkn c) 3 s))) := by
  have hqg : c2.qg = s.2.2.2.2 := by rw [← q.2.2]; rfl
  have he : pG (tkn c) 3 s = (bif wS (tkn c) s 123 then (if s.2.2.2.2 < 145 then (bif wS (tkn c) (wSt (tkn c) (wG s)) 125 then (true, wSt (tkn c) (wSt (tkn c) (wG s))) else pEl (tkn c) (pG (tkn c) 2) 12 (wSt (tkn c) (wG s))) else (false, s)) else (false, s)) := rfl
  refine mm_intro (by decide) (Nat.le_of_ble_eq_true rfl) i_Pa_readGroup (fun X ok E => ?_)
  refine k_Pa_readGroup_0 ok rW_34 rF_Pa_0 rW_13 (pf_atSign q _) (gF_h E.nR (by decide) (by decide)) (fun _ _ q => qC_len q) ?_
  rintro r M' ⟨c2, ⟨rfl, rfl⟩, rfl⟩
  refine k_Pa_readGroup_9 ok (fun z => have z := bI_0 z; ?_) (fun z => have z := bI_1 z; ?_)
  · rw [z] at he
    refine k_Pa_readGroup_17 ok E ⟨_, pF_f he q, rfl⟩ (Nat.le_refl _) (Nat.le_refl _)
  rw [z] at he
  refine k_Pa_readGroup_12 ok (fun _ => ?_) (fun w => absurd (by decide) w)
  refine k_Pa_readGroup_19 ok rW_34 rF_Pa_1 rW_17 (qu_newGroup2 q.qi _) (gF_h E.nR (by decide) (by decide)) (fun _ _ q => qC_len q) ?_
  rintro r M' ⟨c3, ⟨w1, w2⟩, rfl⟩
  by_cases hg : c2.qg < 145
  · obtain ⟨rfl, a1, a2, a3, a4⟩ := w1 hg
    have q3 : Pf c c3 (wG s) := ⟨q.1.trans a1, ⟨a2.trans q.2.1.1, a3.trans q.2.1.2⟩, by rw [a4, q.2.2]⟩
    have he2 : pG (tkn c) 3 s = (bif wS (tkn c) (wSt (tkn c) (wG s)) 125 then (true, wSt (tkn c) (wSt (tkn c) (wG s))) else pEl (tkn c) (pG (tkn c) 2) 12 (wSt (tkn c) (wG s))) := by
      rw [he]
      show (if s.2.2.2.2 < 145 then _ else _) = _
      rw [if_pos (by omega)]
    refine k_Pa_readGroup_27 ok E.nL (fun _ => ?_) (fun w => absurd w (n_m1 hg))
    refine k_Pa_readGroup_35 ok rW_34 rF_Pa_0 rW_13 (pf_step q3) (gF_h E.nR (by decide) (by decide)) (fun _ _ q => qC_len q) ?_
    rintro r M' ⟨c4, ⟨rfl, q4⟩, rfl⟩
    refine k_Pa_readGroup_42 ok rW_34 rF_Pa_0 rW_13 (pf_takeSign q4 _) (gF_h E.nR (by decide) (by decide)) (fun _ _ q => qC_len q) ?_
    rintro r M' ⟨c5, ⟨rfl, q5⟩, rfl⟩
    cases k1 : wS (tkn c) (wSt (tkn c) (wG s)) 125 with
    | true =>
      rw [wTs_t k1] at q5 ⊢
      rw [k1] at he2
      refine k_Pa_readGroup_51 ok (fun w => absurd w b1n) (fun _ => ?_)
      refine k_Pa_readGroup_54 ok E ⟨_, pF_t he2 q5, rfl⟩ (Nat.le_refl _) (Nat.le_refl _)
    | false =>
      rw [wTs_f k1] at q5 ⊢
      rw [k1] at he2
      refine k_Pa_readGroup_51 ok (fun _ => ?_) (fun w => absurd rfl w)
      refine k_Pa_readGroup_56 ok E.nL ?_
      have L1 : ∀ r j c1 s1, j + r = 12 → Pf c c1 s1 → pG (tkn c) 3 s = pEl (tkn c) (pG (tkn c) 2) r s1 → gg X (W9 c1 m o) 0 0 59 [(0, .ref 34), (2, .int (nI 1)), (3, .int (nI c2.qg)), (4, .int (nI j))] [] := by
        intro r
        induction r with
        | zero =>
          intro j c1 s1 hj q1 he3
          refine k_Pa_readGroup_59 ok (fun z => have z := (nLe (nL 12) rfl (by omega) (by omega) z); ?_) (fun z => have z := (nNle (nL 12) rfl (by omega) (by omega) z); ?_)
          · refine k_Pa_readGroup_105 ok E ⟨_, pF_f he3 q1, rfl⟩ (Nat.le_refl _) (Nat.le_refl _)
          · omega
        | succ r ih =>
          intro j c1 s1 hj q1 he3
          have e0 : pEl (tkn c) (pG (tkn c) 2) (r + 1) s1 = (bif (pE (tkn c) (pG (tkn c) 2) s1).1 then (bif wS (tkn c) (pE (tkn c) (pG (tkn c) 2) s1).2 46 then pEl (tkn c) (pG (tkn c) 2) r (wSt (tkn c) (pE (tkn c) (pG (tkn c) 2) s1).2) else wTs (tkn c) (pE (tkn c) (pG (tkn c) 2) s1).2 125) else (false, (pE (tkn c) (pG (tkn c) 2) s1).2)) := rfl
          rw [e0] at he3
          refine k_Pa_readGroup_59 ok (fun z => have z := (nLe (nL 12) rfl (by omega) (by omega) z); ?_) (fun z => have z := (nNle (nL 12) rfl (by omega) (by omega) z); ?_)
          · omega
          refine k_Pa_readGroup_66 ok rW_34 (pf_el_1 q1 _) (gF_h E.nR (by decide) (by decide)) (fun _ _ q => qC_len q) ?_
          rintro r M' ⟨c6, ⟨rfl, q6⟩, rfl⟩
          refine k_Pa_readGroup_72 ok (fun z => have z := bI_1 z; ?_) (fun z => have z := bI_0 z; ?_)
          · rw [z] at he3
            refine k_Pa_readGroup_77 ok rW_34 rF_Pa_0 rW_13 (pf_takeSign q6 _) (gF_h E.nR (by decide) (by decide)) (fun _ _ q => qC_len q) ?_
            rintro r M' ⟨c7, ⟨rfl, q7⟩, rfl⟩
            cases k2 : wS (tkn c) (pE (tkn c) (pG (tkn c) 2) s1).2 46 with
            | true =>
              rw [wTs_t k2] at q7 ⊢
              rw [k2] at he3
              refine k_Pa_readGroup_86 ok (fun _ => ?_) (fun w => absurd w b1n)
              refine k_Pa_readGroup_99 ok E.nL ?_
              rw [nI_1]
              exact ih (j + 1) c7 _ (by omega) q7 he3
            | false =>
              rw [wTs_f k2] at q7 ⊢
              rw [k2] at he3
              refine k_Pa_readGroup_86 ok (fun w => absurd rfl w) (fun _ => ?_)
              refine k_Pa_readGroup_89 ok rW_34 rF_Pa_0 rW_13 (pf_takeSign q7 _) (gF_h E.nR (by decide) (by decide)) (fun _ _ q => qC_len q) ?_
              rintro r M' ⟨c8, ⟨rfl, q8⟩, rfl⟩
              refine k_Pa_readGroup_98 ok E (bI_nar _) ⟨_, by rw [he3]; exact ⟨rfl, q8⟩, rfl⟩ (Nat.le_refl _) (Nat.le_refl _)
          · rw [z] at he3
            refine k_Pa_readGroup_75 ok E ⟨_, pF_f he3 q6, rfl⟩ (Nat.le_refl _) (Nat.le_refl _)
      exact L1 12 0 c5 _ rfl q5 he2
  · obtain ⟨rfl, rfl⟩ := w2 hg
    refine k_Pa_readGroup_27 ok E.nL (fun w => absurd rfl w) (fun _ => ?_)
    refine k_Pa_readGroup_33 ok E ⟨_, pF_f (by rw [he]; show (if s.2.2.2.2 < 145 then _ else _) = _; rw [if_neg (by omega)]) q, rfl⟩ (Nat.le_refl _) (Nat.le_refl _)
theorem pf_uni_1 (q : Pf c c2 s) (x : Int32) : mm_ l y_Pa_readUnion w_Pa_readUnion (rmh 13) [.ref 34, .int x, .int (nI 1)] (W9 c2 m o) (qC m o (pF c (pUn (tkn c) (pG (tkn c) 3) 12 s))) := by
  refine mm_intro (by decide) (Nat.le_of_ble_eq_true rfl) i_Pa_readUnion (fun X ok E => ?_)
  refine k_Pa_readUnion_0 ok E.nL ?_
  have L1 : ∀ r j c1 s1, j + r = 12 → Pf c c1 s1 → pUn (tkn c) (pG (tkn c) 3) 12 s = pUn (tkn c) (pG (tkn c) 3) r s1 → gg X (W9 c1 m o) 0 0 2 [(0, .ref 34), (1, .int x), (2, .int (nI 1)), (3, .int (nI j))] [] := by
    intro r
    induction r with
    | zero =>
      intro j c1 s1 hj q1 he
      refine k_Pa_readUnion_2 ok (fun z => have z := (nLe (nL 12) rfl (by omega) (by omega) z); ?_) (fun z => have z := (nNle (nL 12) rfl (by omega) (by omega) z); ?_)
      · refine k_Pa_readUnion_40 ok E ⟨_, pF_f he q1, rfl⟩ (Nat.le_refl _) (Nat.le_refl _)
      · omega
    | succ r ih =>
      intro j c1 s1 hj q1 he
      have e0 : pUn (tkn c) (pG (tkn c) 3) (r + 1) s1 = (bif (pG (tkn c) 3 s1).1 then (bif wK (tkn c) (pG (tkn c) 3 s1).2 8461816677183520768 then pUn (tkn c) (pG (tkn c) 3) r (wSt (tkn c) (pG (tkn c) 3 s1).2) else (true, (pG (tkn c) 3 s1).2)) else (false, (pG (tkn c) 3 s1).2)) := rfl
      rw [e0] at he
      refine k_Pa_readUnion_2 ok (fun z => have z := (nLe (nL 12) rfl (by omega) (by omega) z); ?_) (fun z => have z := (nNle (nL 12) rfl (by omega) (by omega) z); ?_)
      · omega
      refine k_Pa_readUnion_8 ok rW_34 (pf_grp_1 q1 _) (gF_h E.nR (by decide) (by decide)) (fun _ _ q => qC_len q) ?_
      rintro r M' ⟨c3, ⟨rfl, q3⟩, rfl⟩
      refine k_Pa_readUnion_14 ok (fun z => have z := bI_1 z; ?_) (fun z => have z := bI_0 z; ?_)
      · rw [z] at he
        refine k_Pa_readUnion_19 ok rW_34 rF_Pa_0 rW_13 (pf_takeKey q3 _) (gF_h E.nR (by decide) (by decide)) (fun _ _ q => qC_len q) ?_
        rintro r M' ⟨c4, ⟨rfl, q4⟩, rfl⟩
        cases hb : wK (tkn c) (pG (tkn c) 3 s1).2 8461816677183520768 with
        | false =>
          rw [wTk_f hb] at q4 ⊢
          rw [hb] at he
          refine k_Pa_readUnion_29 ok (fun w => absurd rfl w) (fun _ => ?_)
          refine k_Pa_readUnion_32 ok E ⟨_, pF_t he q4, rfl⟩ (Nat.le_refl _) (Nat.le_refl _)
        | true =>
          rw [wTk_t hb] at q4 ⊢
          rw [hb] at he
          refine k_Pa_readUnion_29 ok (fun _ => ?_) (fun w => absurd w b1n)
          refine k_Pa_readUnion_34 ok E.nL ?_
          rw [nI_1]
          exact ih (j + 1) c4 _ (by omega) q4 he
      · rw [z] at he
        refine k_Pa_readUnion_17 ok E ⟨_, pF_f he q3, rfl⟩ (Nat.le_refl _) (Nat.le_refl _)
  exact L1 12 0 c2 s rfl q rfl
theorem pf_el_0 (q : Pf c c2 s) (x : Int32) : mm_ l y_Pa_readElement w_Pa_readElement (rmh 14) [.ref 34, .int x, .int (nI 0)] (W9 c2 m o) (qC m o (pF c (pE (tkn c) (pG (tkn c) 3) s))) := by
  have hqe : c2.qe = s.2.2.2.1 := by rw [← q.2.2]; rfl
  have e1 : nI 0 + 1 = nI 1 := rfl
  refine mm_intro (by decide) (Nat.le_of_ble_eq_true rfl) i_Pa_readElement (fun X ok E => ?_)
  refine k_Pa_readElement_0 ok rW_34 rF_Pa_1 rW_17 (qu_newElement2 q.qi _) (gF_h E.nR (by decide) (by decide)) (fun _ _ q => qC_len q) ?_
  rintro r M' ⟨c3, ⟨w1, w2⟩, rfl⟩
  by_cases h12 : c2.qe < 12
  · obtain ⟨rfl, a1, a2, a3, a4⟩ := w1 h12
    have q3 : Pf c c3 (wE s) := ⟨q.1.trans a1, ⟨a2.trans q.2.1.1, a3.trans q.2.1.2⟩, by rw [a4, q.2.2]⟩
    have he : pE (tkn c) (pG (tkn c) 3) s = (bif wK (tkn c) (wE s) 7379548711597244416 then pTest (tkn c) (wSt (tkn c) (wE s)) else bif wK (tkn c) (wE s) 8030046131791487340 then pG (tkn c) 3 (wSt (tkn c) (wE s)) else bif wK (tkn c) (wE s) 7883954073408372736 then pG (tkn c) 3 (wSt (tkn c) (wE s)) else bif wS (tkn c) (wE s) 123 then pUn (tkn c) (pG (tkn c) 3) 12 (wE s) else pPat (tkn c) (wE s)) := by
      unfold pE
      rw [if_pos (by omega)]
      rfl
    refine k_Pa_readElement_8 ok E.nL (fun _ => ?_) (fun w => absurd w (n_m1 (by omega)))
    refine k_Pa_readElement_16 ok E.nL rW_34 rF_Pa_1 rW_17 rF_Qu_8 rW_20 (vin rfl (by omega) (by decide)) (qx_at q3.qi h12) rF_Pa_0 rW_13 (pf_takeKey q3 _) (gF_h E.nR (by decide) (by decide)) (fun _ _ q => qC_len q) ?_
    rintro r M' ⟨c4, ⟨rfl, q4⟩, rfl⟩
    cases k1 : wK (tkn c) (wE s) 7379548711597244416 with
    | true =>
      rw [wTk_t k1] at q4 ⊢
      rw [k1] at he
      have q4 : Pf c c4 (wSt (tkn c) (wE s)) := q4
      refine k_Pa_readElement_37 ok (fun w => absurd w b1n) (fun _ => ?_)
      have q4b : ∀ v, Pf c (c4.u_eK (eU c4.eK c2.qe v)) _ := fun v => q4.up (by exact ⟨⟨rfl, rfl, rfl⟩, q4.qi⟩) ⟨rfl, rfl, rfl⟩
      refine k_Pa_readElement_40 ok (rE h12) (Nat.le_refl 7) (eF0 _ _) (eS0 h12) rW_34 (by omega) (pf_nots (q4b _) h12) (gF_h E.nR (by decide) (by decide)) (fun _ _ q => qC_len q) ?_
      rintro r M' ⟨c5, ⟨rfl, q5⟩, rfl⟩
      refine k_Pa_readElement_52 ok rW_34 rF_Pa_0 rW_13 (pf_takeKey q5 _) (gF_h E.nR (by decide) (by decide)) (fun _ _ q => qC_len q) ?_
      rintro r M' ⟨c6, ⟨rfl, q6⟩, rfl⟩
      have he2 : pE (tkn c) (pG (tkn c) 3) s = (bif wK (tkn c) (pNots (tkn c) 4 (wSt (tkn c) (wE s))) 7093017055116394496 then pVar (tkn c) (wSt (tkn c) (pNots (tkn c) 4 (wSt (tkn c) (wE s)))) else pCmp (tkn c) (pNots (tkn c) 4 (wSt (tkn c) (wE s)))) := by
        rw [he, cond_true]
        unfold pTest
        rfl
      cases k5 : wK (tkn c) (pNots (tkn c) 4 (wSt (tkn c) (wE s))) 7093017055116394496 with
      | true =>
        rw [wTk_t k5] at q6 ⊢
        rw [k5] at he2
        refine k_Pa_readElement_62 ok (fun w => absurd w b1n) (fun _ => ?_)
        refine k_Pa_readElement_65 ok rW_34 (pf_bound q6 h12) (gF_h E.nR (by decide) (by decide)) (fun _ _ q => qC_len q) ?_
        rintro r M' ⟨c7, ⟨rfl, q7⟩, rfl⟩
        refine k_Pa_readElement_71 ok ?_
        refine k_Pa_readElement_80 ok E (bI_nar _) ⟨_, by rw [he2]; exact ⟨rfl, q7⟩, rfl⟩ (Nat.le_refl _) (Nat.le_refl _)
      | false =>
        rw [wTk_f k5] at q6 ⊢
        rw [k5] at he2
        refine k_Pa_readElement_62 ok (fun _ => ?_) (fun w => absurd rfl w)
        refine k_Pa_readElement_74 ok rW_34 (pf_cmp q6 h12) (gF_h E.nR (by decide) (by decide)) (fun _ _ q => qC_len q) ?_
        rintro r M' ⟨c7, ⟨rfl, q7⟩, rfl⟩
        refine k_Pa_readElement_80 ok E (bI_nar _) ⟨_, by rw [he2]; exact ⟨rfl, q7⟩, rfl⟩ (Nat.le_refl _) (Nat.le_refl _)
    | false =>
      rw [wTk_f k1] at q4 ⊢
      rw [k1] at he
      refine k_Pa_readElement_37 ok (fun _ => ?_) (fun w => absurd rfl w)
      refine k_Pa_readElement_81 ok rW_34 rF_Pa_0 rW_13 (pf_takeKey q4 _) (gF_h E.nR (by decide) (by decide)) (fun _ _ q => qC_len q) ?_
      rintro r M' ⟨c5, ⟨rfl, q5⟩, rfl⟩
      cases k2 : wK (tkn c) (wE s) 8030046131791487340 with
      | true =>
        rw [wTk_t k2] at q5 ⊢
        rw [k2] at he
        refine k_Pa_readElement_91 ok (fun w => absurd w b1n) (fun _ => ?_)
        have q5b : ∀ v, Pf c (c5.u_eK (eU c5.eK c2.qe v)) _ := fun v => q5.up (by exact ⟨⟨rfl, rfl, rfl⟩, q5.qi⟩) ⟨rfl, rfl, rfl⟩
        refine k_Pa_readElement_94 ok (rE h12) (Nat.le_refl 7) (eF0 _ _) (eS0 h12) rW_34 (by omega) (by rw [e1]; exact pf_grp_1 (q5b _) _) (gF_h E.nR (by decide) (by decide)) (fun _ _ q => qC_len q) ?_
        rintro r M' ⟨c7, ⟨rfl, q7⟩, rfl⟩
        refine k_Pa_readElement_108 ok E (bI_nar _) ⟨_, by rw [he]; exact ⟨rfl, q7⟩, rfl⟩ (Nat.le_refl _) (Nat.le_refl _)
      | false =>
        rw [wTk_f k2] at q5 ⊢
        rw [k2] at he
        refine k_Pa_readElement_91 ok (fun _ => ?_) (fun w => absurd rfl w)
        refine k_Pa_readElement_109 ok rW_34 rF_Pa_0 rW_13 (pf_takeKey q5 _) (gF_h E.nR (by decide) (by decide)) (fun _ _ q => qC_len q) ?_
        rintro r M' ⟨c6, ⟨rfl, q6⟩, rfl⟩
        cases k3 : wK (tkn c) (wE s) 7883954073408372736 with
        | true =>
          rw [wTk_t k3] at q6 ⊢
          rw [k3] at he
          refine k_Pa_readElement_119 ok (fun w => absurd w b1n) (fun _ => ?_)
          have q6b : ∀ v, Pf c (c6.u_eK (eU c6.eK c2.qe v)) _ := fun v => q6.up (by exact ⟨⟨rfl, rfl, rfl⟩, q6.qi⟩) ⟨rfl, rfl, rfl⟩
          refine k_Pa_readElement_122 ok (rE h12) (Nat.le_refl 7) (eF0 _ _) (eS0 h12) rW_34 (by omega) (by rw [e1]; exact pf_grp_1 (q6b _) _) (gF_h E.nR (by decide) (by decide)) (fun _ _ q => qC_len q) ?_
          rintro r M' ⟨c7, ⟨rfl, q7⟩, rfl⟩
          refine k_Pa_readElement_136 ok E (bI_nar _) ⟨_, by rw [he]; exact ⟨rfl, q7⟩, rfl⟩ (Nat.le_refl _) (Nat.le_refl _)
        | false =>
          rw [wTk_f k3] at q6 ⊢
          rw [k3] at he
          refine k_Pa_readElement_119 ok (fun _ => ?_) (fun w => absurd rfl w)
          refine k_Pa_readElement_137 ok rW_34 rF_Pa_0 rW_13 (pf_atSign q6 _) (gF_h E.nR (by decide) (by decide)) (fun _ _ q => qC_len q) ?_
          rintro r M' ⟨c6, ⟨rfl, rfl⟩, rfl⟩
          refine k_Pa_readElement_146 ok (fun z => have z := bI_0 z; ?_) (fun z => have z := bI_1 z; ?_)
          · rw [z] at he
            have q6b : ∀ v, Pf c (c6.u_eK (eU c6.eK c2.qe v)) _ := fun v => q6.up (by exact ⟨⟨rfl, rfl, rfl⟩, q6.qi⟩) ⟨rfl, rfl, rfl⟩
            refine k_Pa_readElement_164 ok (rE h12) (Nat.le_refl 7) (eF0 _ _) (eS0 h12) rW_34 (by omega) (pf_pat (q6b _) h12) (gF_h E.nR (by decide) (by decide)) (fun _ _ q => qC_len q) ?_
            rintro r M' ⟨c7, ⟨rfl, q7⟩, rfl⟩
            refine k_Pa_readElement_176 ok E (bI_nar _) ⟨_, by rw [he]; exact ⟨rfl, q7⟩, rfl⟩ (Nat.le_refl _) (Nat.le_refl _)
          · rw [z] at he
            have q6b : ∀ v, Pf c (c6.u_eK (eU c6.eK c2.qe v)) _ := fun v => q6.up (by exact ⟨⟨rfl, rfl, rfl⟩, q6.qi⟩) ⟨rfl, rfl, rfl⟩
            refine k_Pa_readElement_149 ok (rE h12) (Nat.le_refl 7) (eF0 _ _) (eS0 h12) rW_34 (by omega) (by rw [e1]; exact pf_uni_1 (q6b _) _) (gF_h E.nR (by decide) (by decide)) (fun _ _ q => qC_len q) ?_
            rintro r M' ⟨c7, ⟨rfl, q7⟩, rfl⟩
            refine k_Pa_readElement_163 ok E (bI_nar _) ⟨_, by rw [he]; exact ⟨rfl, q7⟩, rfl⟩ (Nat.le_refl _) (Nat.le_refl _)
  · obtain ⟨rfl, rfl⟩ := w2 h12
    refine k_Pa_readElement_8 ok E.nL (fun w => absurd rfl w) (fun _ => ?_)
    refine k_Pa_readElement_14 ok E ⟨_, pF_f (by unfold pE; rw [if_neg (by omega)]) q, rfl⟩ (Nat.le_refl _) (Nat.le_refl _)
theorem pf_grp_0 (q : Pf c c2 s) (x : Int32) : mm_ l y_Pa_readGroup w_Pa_readGroup (rmh 15) [.ref 34, .int x, .int (nI 0)] (W9 c2 m o) (qC m o (pF c (pG (tkn c) 4 s))) := by
  have hqg : c2.qg = s.2.2.2.2 := by rw [← q.2.2]; rfl
  have he : pG (tkn c) 4 s = (bif wS (tkn c) s 123 then (if s.2.2.2.2 < 145 then (bif wS (tkn c) (wSt (tkn c) (wG s)) 125 then (true, wSt (tkn c) (wSt (tkn c) (wG s))) else pEl (tkn c) (pG (tkn c) 3) 12 (wSt (tkn c) (wG s))) else (false, s)) else (false, s)) := rfl
  refine mm_intro (by decide) (Nat.le_of_ble_eq_true rfl) i_Pa_readGroup (fun X ok E => ?_)
  refine k_Pa_readGroup_0 ok rW_34 rF_Pa_0 rW_13 (pf_atSign q _) (gF_h E.nR (by decide) (by decide)) (fun _ _ q => qC_len q) ?_
  rintro r M' ⟨c2, ⟨rfl, rfl⟩, rfl⟩
  refine k_Pa_readGroup_9 ok (fun z => have z := bI_0 z; ?_) (fun z => have z := bI_1 z; ?_)
  · rw [z] at he
    refine k_Pa_readGroup_17 ok E ⟨_, pF_f he q, rfl⟩ (Nat.le_refl _) (Nat.le_refl _)
  rw [z] at he
  refine k_Pa_readGroup_12 ok (fun _ => ?_) (fun w => absurd (by decide) w)
  refine k_Pa_readGroup_19 ok rW_34 rF_Pa_1 rW_17 (qu_newGroup2 q.qi _) (gF_h E.nR (by decide) (by decide)) (fun _ _ q => qC_len q) ?_
  rintro r M' ⟨c3, ⟨w1, w2⟩, rfl⟩
  by_cases hg : c2.qg < 145
  · obtain ⟨rfl, a1, a2, a3, a4⟩ := w1 hg
    have q3 : Pf c c3 (wG s) := ⟨q.1.trans a1, ⟨a2.trans q.2.1.1, a3.trans q.2.1.2⟩, by rw [a4, q.2.2]⟩
    have he2 : pG (tkn c) 4 s = (bif wS (tkn c) (wSt (tkn c) (wG s)) 125 then (true, wSt (tkn c) (wSt (tkn c) (wG s))) else pEl (tkn c) (pG (tkn c) 3) 12 (wSt (tkn c) (wG s))) := by
      rw [he]
      show (if s.2.2.2.2 < 145 then _ else _) = _
      rw [if_pos (by omega)]
    refine k_Pa_readGroup_27 ok E.nL (fun _ => ?_) (fun w => absurd w (n_m1 hg))
    refine k_Pa_readGroup_35 ok rW_34 rF_Pa_0 rW_13 (pf_step q3) (gF_h E.nR (by decide) (by decide)) (fun _ _ q => qC_len q) ?_
    rintro r M' ⟨c4, ⟨rfl, q4⟩, rfl⟩
    refine k_Pa_readGroup_42 ok rW_34 rF_Pa_0 rW_13 (pf_takeSign q4 _) (gF_h E.nR (by decide) (by decide)) (fun _ _ q => qC_len q) ?_
    rintro r M' ⟨c5, ⟨rfl, q5⟩, rfl⟩
    cases k1 : wS (tkn c) (wSt (tkn c) (wG s)) 125 with
    | true =>
      rw [wTs_t k1] at q5 ⊢
      rw [k1] at he2
      refine k_Pa_readGroup_51 ok (fun w => absurd w b1n) (fun _ => ?_)
      refine k_Pa_readGroup_54 ok E ⟨_, pF_t he2 q5, rfl⟩ (Nat.le_refl _) (Nat.le_refl _)
    | false =>
      rw [wTs_f k1] at q5 ⊢
      rw [k1] at he2
      refine k_Pa_readGroup_51 ok (fun _ => ?_) (fun w => absurd rfl w)
      refine k_Pa_readGroup_56 ok E.nL ?_
      have L1 : ∀ r j c1 s1, j + r = 12 → Pf c c1 s1 → pG (tkn c) 4 s = pEl (tkn c) (pG (tkn c) 3) r s1 → gg X (W9 c1 m o) 0 0 59 [(0, .ref 34), (2, .int (nI 0)), (3, .int (nI c2.qg)), (4, .int (nI j))] [] := by
        intro r
        induction r with
        | zero =>
          intro j c1 s1 hj q1 he3
          refine k_Pa_readGroup_59 ok (fun z => have z := (nLe (nL 12) rfl (by omega) (by omega) z); ?_) (fun z => have z := (nNle (nL 12) rfl (by omega) (by omega) z); ?_)
          · refine k_Pa_readGroup_105 ok E ⟨_, pF_f he3 q1, rfl⟩ (Nat.le_refl _) (Nat.le_refl _)
          · omega
        | succ r ih =>
          intro j c1 s1 hj q1 he3
          have e0 : pEl (tkn c) (pG (tkn c) 3) (r + 1) s1 = (bif (pE (tkn c) (pG (tkn c) 3) s1).1 then (bif wS (tkn c) (pE (tkn c) (pG (tkn c) 3) s1).2 46 then pEl (tkn c) (pG (tkn c) 3) r (wSt (tkn c) (pE (tkn c) (pG (tkn c) 3) s1).2) else wTs (tkn c) (pE (tkn c) (pG (tkn c) 3) s1).2 125) else (false, (pE (tkn c) (pG (tkn c) 3) s1).2)) := rfl
          rw [e0] at he3
          refine k_Pa_readGroup_59 ok (fun z => have z := (nLe (nL 12) rfl (by omega) (by omega) z); ?_) (fun z => have z := (nNle (nL 12) rfl (by omega) (by omega) z); ?_)
          · omega
          refine k_Pa_readGroup_66 ok rW_34 (pf_el_0 q1 _) (gF_h E.nR (by decide) (by decide)) (fun _ _ q => qC_len q) ?_
          rintro r M' ⟨c6, ⟨rfl, q6⟩, rfl⟩
          refine k_Pa_readGroup_72 ok (fun z => have z := bI_1 z; ?_) (fun z => have z := bI_0 z; ?_)
          · rw [z] at he3
            refine k_Pa_readGroup_77 ok rW_34 rF_Pa_0 rW_13 (pf_takeSign q6 _) (gF_h E.nR (by decide) (by decide)) (fun _ _ q => qC_len q) ?_
            rintro r M' ⟨c7, ⟨rfl, q7⟩, rfl⟩
            cases k2 : wS (tkn c) (pE (tkn c) (pG (tkn c) 3) s1).2 46 with
            | true =>
              rw [wTs_t k2] at q7 ⊢
              rw [k2] at he3
              refine k_Pa_readGroup_86 ok (fun _ => ?_) (fun w => absurd w b1n)
              refine k_Pa_readGroup_99 ok E.nL ?_
              rw [nI_1]
              exact ih (j + 1) c7 _ (by omega) q7 he3
            | false =>
              rw [wTs_f k2] at q7 ⊢
              rw [k2] at he3
              refine k_Pa_readGroup_86 ok (fun w => absurd rfl w) (fun _ => ?_)
              refine k_Pa_readGroup_89 ok rW_34 rF_Pa_0 rW_13 (pf_takeSign q7 _) (gF_h E.nR (by decide) (by decide)) (fun _ _ q => qC_len q) ?_
              rintro r M' ⟨c8, ⟨rfl, q8⟩, rfl⟩
              refine k_Pa_readGroup_98 ok E (bI_nar _) ⟨_, by rw [he3]; exact ⟨rfl, q8⟩, rfl⟩ (Nat.le_refl _) (Nat.le_refl _)
          · rw [z] at he3
            refine k_Pa_readGroup_75 ok E ⟨_, pF_f he3 q6, rfl⟩ (Nat.le_refl _) (Nat.le_refl _)
      exact L1 12 0 c5 _ rfl q5 he2
  · obtain ⟨rfl, rfl⟩ := w2 hg
    refine k_Pa_readGroup_27 ok E.nL (fun w => absurd rfl w) (fun _ => ?_)
    refine k_Pa_readGroup_33 ok E ⟨_, pF_f (by rw [he]; show (if s.2.2.2.2 < 145 then _ else _) = _; rw [if_neg (by omega)]) q, rfl⟩ (Nat.le_refl _) (Nat.le_refl _)
theorem take_qc (c : CS) (b : Bool) : (c.d_take b).qc = c.qc := by
  cases b
  · rfl
  · show c.d_step.qc = c.qc
    unfold CS.d_step
    split <;> rfl
theorem pf_takeKeyQ (q : Pf c c2 s) (x : Int64) : mm_ l y_To_takeKey w_To_takeKey (rmh 2) [.ref 13, .long x] (W9 c2 m o) (qC m o (fun r c' => pF c (wTk (tkn c) s x) r c' ∧ c'.qc = c2.qc)) := mm_imp (to_takeKey q.qi.1 x) (fun r M' ⟨c', w, e⟩ => ⟨c', by
  obtain ⟨w1, w2⟩ := w
  refine ⟨?_, by rw [w2, take_qc]⟩
  rw [q.atK] at w1 w2
  unfold wTk
  cases hb : wK (tkn c) s x <;> rw [hb] at w1 w2
  · exact ⟨w1, by rw [w2]; exact q⟩
  · exact ⟨w1, by rw [w2]; exact q.st⟩, e⟩)
theorem pf_ord (q : Pf c c2 s) : mm_ l y_Pa_readOrder w_Pa_readOrder (rmh 3) [.ref 34] (W9 c2 m o) (qC m o (pF c (pOrd (tkn c) s))) := by
  have he : pOrd (tkn c) s = (bif wK (tkn c) s 8030591472422092800 then (bif (pVar (tkn c) (wSt (tkn c) s)).1 then (true, (wTk (tkn c) (pVar (tkn c) (wSt (tkn c) s)).2 7234315245479526400).2) else (false, (pVar (tkn c) (wSt (tkn c) s)).2)) else (true, s)) := rfl
  refine mm_intro (by decide) (Nat.le_of_ble_eq_true rfl) i_Pa_readOrder (fun X ok E => ?_)
  refine k_Pa_readOrder_0 ok rW_34 rF_Pa_0 rW_13 (pf_takeKey q _) (gF_h E.nR (by decide) (by decide)) (fun _ _ q => qC_len q) ?_
  rintro r M' ⟨c3, ⟨rfl, q3⟩, rfl⟩
  cases k1 : wK (tkn c) s 8030591472422092800 with
  | false =>
    rw [wTk_f k1] at q3 ⊢
    rw [k1] at he
    refine k_Pa_readOrder_10 ok (fun w => absurd rfl w) (fun _ => ?_)
    refine k_Pa_readOrder_13 ok E ⟨_, pF_t he q3, rfl⟩ (Nat.le_refl _) (Nat.le_refl _)
  | true =>
    rw [wTk_t k1] at q3 ⊢
    rw [k1] at he
    refine k_Pa_readOrder_10 ok (fun _ => ?_) (fun w => absurd w b1n)
    refine k_Pa_readOrder_15 ok rW_34 (pf_var q3) (gF_h E.nR (by decide) (by decide)) (fun _ _ q => qC_len q) ?_
    rintro r M' ⟨c4, ⟨rfl, q4⟩, rfl⟩
    refine k_Pa_readOrder_19 ok (fun z => have z := bI_1 z; ?_) (fun z => have z := bI_0 z; ?_)
    · rw [z] at he
      have q4b : ∀ v, Pf c (c4.u_qo v) _ := fun v => q4.up (by exact ⟨⟨rfl, rfl, rfl⟩, q4.qi⟩) ⟨rfl, rfl, rfl⟩
      refine k_Pa_readOrder_24 ok rW_34 rF_Pa_1 rF_Pa_2 rW_17 (Nat.le_refl 12) sF_Qu_5 (sO_Qu_5 rfl) (by decide) rF_Pa_0 rW_13 (by decide) (pf_takeKey (q4b _) _) (gF_h E.nR (by decide) (by decide)) (fun _ _ q => qC_len q) ?_
      rintro r M' ⟨c5, ⟨rfl, q5⟩, rfl⟩
      refine k_Pa_readOrder_54 ok rW_17 (Nat.le_refl 12) (by cases (wTk (tkn c) (pVar (tkn c) (wSt (tkn c) s)).2 7234315245479526400).1 <;> exact ⟨rfl, rfl⟩) (sF_Qu_6 rfl) (sO_Qu_6 rfl) E ⟨_, pF_t he (by exact q5.up (by exact ⟨⟨rfl, rfl, rfl⟩, q5.qi⟩) ⟨rfl, rfl, rfl⟩), rfl⟩ (Nat.le_refl _) (Nat.le_refl _)
    · rw [z] at he
      refine k_Pa_readOrder_22 ok E ⟨_, pF_f he q4, rfl⟩ (Nat.le_refl _) (Nat.le_refl _)
theorem pf_lim (q : Pf c c2 s) : mm_ l y_Pa_readLimit w_Pa_readLimit (rmh 3) [.ref 34] (W9 c2 m o) (qC m o (pF c (pLim (tkn c) s))) := by
  have he : pLim (tkn c) s = (bif wK (tkn c) s 7811895328335986688 then (if wKd (tkn c) (wSt (tkn c) s) = 4 then (bif tH (wVl (tkn c) (wSt (tkn c) s)) then (true, wSt (tkn c) (wSt (tkn c) s)) else (false, wSt (tkn c) s)) else (false, wSt (tkn c) s)) else (true, s)) := rfl
  refine mm_intro (by decide) (Nat.le_of_ble_eq_true rfl) i_Pa_readLimit (fun X ok E => ?_)
  refine k_Pa_readLimit_0 ok rW_34 rF_Pa_0 rW_13 (pf_takeKey q _) (gF_h E.nR (by decide) (by decide)) (fun _ _ q => qC_len q) ?_
  rintro r M' ⟨c3, ⟨rfl, q3⟩, rfl⟩
  cases k1 : wK (tkn c) s 7811895328335986688 with
  | false =>
    rw [wTk_f k1] at q3 ⊢
    rw [k1] at he
    refine k_Pa_readLimit_10 ok (fun w => absurd rfl w) (fun _ => ?_)
    refine k_Pa_readLimit_13 ok E ⟨_, pF_t he q3, rfl⟩ (Nat.le_refl _) (Nat.le_refl _)
  | true =>
    rw [wTk_t k1] at q3 ⊢
    rw [k1] at he
    have he2 : pLim (tkn c) s = (if wKd (tkn c) (wSt (tkn c) s) = 4 then (bif tH (wVl (tkn c) (wSt (tkn c) s)) then (true, wSt (tkn c) (wSt (tkn c) s)) else (false, wSt (tkn c) s)) else (false, wSt (tkn c) s)) := he
    refine k_Pa_readLimit_10 ok (fun _ => ?_) (fun w => absurd w b1n)
    refine k_Pa_readLimit_15 ok rW_34 rF_Pa_0 rW_13 (pf_value q3) (gF_h E.nR (by decide) (by decide)) (fun _ _ q => qC_len q) ?_
    rintro r M' ⟨c3, ⟨rfl, rfl⟩, rfl⟩
    refine k_Pa_readLimit_22 ok E.nL rW_34 rF_Pa_0 rW_13 (pf_kind q3) (gF_h E.nR (by decide) (by decide)) (fun _ _ q => qC_len q) ?_
    rintro r M' ⟨c3, ⟨rfl, rfl⟩, rfl⟩
    refine k_Pa_readLimit_30 ok (fun z => ?_) (fun z => ?_)
    · rw [if_neg z] at he2
      refine k_Pa_readLimit_41 ok E ⟨_, pF_f he2 q3, rfl⟩ (Nat.le_refl _) (Nat.le_refl _)
    rw [if_pos z] at he2
    refine k_Pa_readLimit_34 ok (te_isHeldNumber _) (gF_h E.nR (by decide) (by decide)) (fun _ _ q => qC_len q) ?_
    rintro r M' ⟨c3, ⟨rfl, rfl⟩, rfl⟩
    refine k_Pa_readLimit_38 ok (fun z => have z := bI_1 z; ?_) (fun z => have z := bI_0 z; ?_)
    · rw [z] at he2
      have q3b : ∀ v, Pf c (c3.u_ql v) _ := fun v => q3.up (by exact ⟨⟨rfl, rfl, rfl⟩, q3.qi⟩) ⟨rfl, rfl, rfl⟩
      refine k_Pa_readLimit_43 ok rW_34 rF_Pa_1 rW_17 (Nat.le_refl 12) sF_Qu_7 (sO_Qu_7 rfl) (by decide) rF_Pa_0 rW_13 (by decide) (pf_step (q3b _)) (gF_h E.nR (by decide) (by decide)) (fun _ _ q => qC_len q) ?_
      rintro r M' ⟨c4, ⟨rfl, q4⟩, rfl⟩
      refine k_Pa_readLimit_61 ok E ⟨_, pF_t he2 q4, rfl⟩ (Nat.le_refl _) (Nat.le_refl _)
    · rw [z] at he2
      refine k_Pa_readLimit_41 ok E ⟨_, pF_f he2 q3, rfl⟩ (Nat.le_refl _) (Nat.le_refl _)
theorem pf_sel (q : Pf c c2 s) (h0 : c2.qc = 0) : mm_ l y_Pa_readSelected w_Pa_readSelected (rmh 3) [.ref 34] (W9 c2 m o) (qC m o (pF c (pSel (tkn c) s))) := by
  refine mm_intro (by decide) (Nat.le_of_ble_eq_true rfl) i_Pa_readSelected (fun X ok E => ?_)
  have fin : ∀ c1 s1 j, j ≤ 6 → c1.qc = j → Pf c c1 s1 → pSel (tkn c) s = (decide (0 < j), s1) → gg X (W9 c1 m o) 0 0 79 [(0, .ref 34)] [] := by
    intro c1 s1 j hj hc q1 he
    have k94 : ∀ b : Bool, decide (0 < j) = b → gg X (W9 c1 m o) 0 0 94 [] [.int (bI b)] := by
      intro b hb
      refine k_Pa_readSelected_94 ok E (bI_nar _) ⟨_, pF_mk (by rw [he, hb]) q1, rfl⟩ (Nat.le_refl _) (Nat.le_refl _)
    refine k_Pa_readSelected_79 ok rW_34 rF_Pa_1 rW_17 rF_Qu_3 (fun z => have z := (nLe rfl (nL 0) (by omega) (by omega) z); ?_) (fun z => have z := (nNle rfl (nL 0) (by omega) (by omega) z); ?_)
    · refine k_Pa_readSelected_93 ok ?_
      exact k94 false (decide_eq_false (by omega))
    · refine k_Pa_readSelected_89 ok ?_
      exact k94 true (decide_eq_true (by omega))
  refine k_Pa_readSelected_0 ok rW_34 rF_Pa_1 rF_Pa_0 rW_13 (pf_takeKeyQ q _) (gF_h E.nR (by decide) (by decide)) (fun _ _ q => qC_len q) ?_
  rintro r M' ⟨c3, ⟨⟨rfl, q3⟩, h9⟩, rfl⟩
  have h3 : c3.qc = 0 := h9.trans h0
  refine k_Pa_readSelected_14 ok E.nL rW_17 (Nat.le_refl 12) (by cases (wTk (tkn c) s 7235441220169655156).1 <;> exact ⟨rfl, rfl⟩) (sF_Qu_4 rfl) (sO_Qu_4 rfl) ?_
  have L1 : ∀ r j c1 s1, j + r = 6 → c1.qc = j → Pf c c1 s1 → pSel (tkn c) s = pSl (tkn c) r j s1 → gg X (W9 c1 m o) 0 0 19 [(0, .ref 34), (1, .int (nI j))] [] := by
    intro r
    induction r with
    | zero =>
      intro j c1 s1 hj hc q1 he
      refine k_Pa_readSelected_19 ok (fun z => have z := (nLe (nL 6) rfl (by omega) (by omega) z); ?_) (fun z => have z := (nNle (nL 6) rfl (by omega) (by omega) z); ?_)
      · exact fin c1 s1 j (by omega) hc q1 he
      · omega
    | succ r ih =>
      intro j c1 s1 hj hc q1 he
      have e0 : pSl (tkn c) (r + 1) j s1 = (if wKd (tkn c) s1 = 5 then (bif (pVar (tkn c) s1).1 then pSl (tkn c) r (j + 1) (pVar (tkn c) s1).2 else (false, (pVar (tkn c) s1).2)) else (decide (0 < j), s1)) := rfl
      rw [e0] at he
      refine k_Pa_readSelected_19 ok (fun z => have z := (nLe (nL 6) rfl (by omega) (by omega) z); ?_) (fun z => have z := (nNle (nL 6) rfl (by omega) (by omega) z); ?_)
      · omega
      refine k_Pa_readSelected_25 ok rW_34 rF_Pa_0 rW_13 (pf_kind q1) (gF_h E.nR (by decide) (by decide)) (fun _ _ q => qC_len q) ?_
      rintro r M' ⟨c1, ⟨rfl, rfl⟩, rfl⟩
      refine k_Pa_readSelected_32 ok (fun z => ?_) (fun z => ?_)
      · rw [if_neg z] at he
        exact fin c1 s1 j (by omega) hc q1 he
      rw [if_pos z] at he
      refine k_Pa_readSelected_36 ok rW_34 (pf_var q1) (gF_h E.nR (by decide) (by decide)) (fun _ _ q => qC_len q) ?_
      rintro r M' ⟨c4, ⟨rfl, q4⟩, rfl⟩
      refine k_Pa_readSelected_40 ok (fun z => have z := bI_1 z; ?_) (fun z => have z := bI_0 z; ?_)
      · rw [z] at he
        refine k_Pa_readSelected_45 ok E.nL rW_34 rF_Pa_1 rW_17 rF_Qu_2 rF_Pa_2 rW_19 (vin rfl (by omega) (by decide)) sA_19 (Nat.le_refl 12) (sF_Qu_3 (nA rfl (nL 1))) (sO_Qu_3 rfl) ?_
        rw [nI_1]
        exact ih (j + 1) _ _ (by omega) rfl (q4.up (by exact ⟨⟨rfl, rfl, rfl⟩, q4.qi.1, q4.qi.2.1, by show j + 1 ≤ 6; omega, q4.qi.2.2.2⟩) ⟨rfl, rfl, rfl⟩) he
      · rw [z] at he
        refine k_Pa_readSelected_43 ok E ⟨_, pF_f he q4, rfl⟩ (Nat.le_refl _) (Nat.le_refl _)
  exact L1 6 0 _ _ rfl h3 (q3.up (by exact ⟨⟨rfl, rfl, rfl⟩, q3.qi⟩) ⟨rfl, rfl, rfl⟩) rfl
theorem pAnd_f {x : Bool × Vw} {f : Vw → Bool × Vw} (h : x.1 = false) : pAnd x f = (false, x.2) := by
  unfold pAnd
  rw [h]
  rfl
theorem pAnd_t {x : Bool × Vw} {f : Vw → Bool × Vw} (h : x.1 = true) : pAnd x f = f x.2 := by
  unfold pAnd
  rw [h]
  rfl
theorem pf_query (hc : c.cur) (hx : ∀ i, i < 12 → c.qx i = some (22 + i)) : mm_ l y_Pa_readQuery w_Pa_readQuery (rmh 16) [.ref 34] (W9 c m o) (qC m o (pF c.d_qcl (pQ (tkn c.d_qcl) (vw c.d_qcl)))) := by
  have q0 : Pf c.d_qcl c.d_qcl (vw c.d_qcl) := Pf.refl ⟨hc, Nat.zero_le _, Nat.zero_le _, Nat.zero_le _, Nat.zero_le _, hx⟩
  have hz : c.d_qcl.qc = 0 := rfl
  obtain ⟨c9, h9⟩ : ∃ c9, c9 = c.d_qcl := ⟨_, rfl⟩
  have he : pQ (tkn c9) (vw c9) = pAnd (wTk (tkn c9) (vw c9) 8315171469725532160) (fun s => pAnd (pSel (tkn c9) s) (fun s => pAnd (pG (tkn c9) 4 s) (fun s => pAnd (pOrd (tkn c9) s) (fun s => pAnd (pLim (tkn c9) s) (fun s => (decide (wKd (tkn c9) s = 0), s)))))) := rfl
  refine mm_intro (by decide) (Nat.le_of_ble_eq_true rfl) i_Pa_readQuery (fun X ok E => ?_)
  refine k_Pa_readQuery_0 ok rW_34 rF_Pa_1 rW_17 qu_clear (gF_h E.nR (by decide) (by decide)) (fun _ _ q => qC_len q) ?_
  rintro r M' ⟨c2, ⟨rfl, rfl⟩, rfl⟩
  rw [← h9] at q0 hz E ⊢
  have k65 : ∀ c1 s1 (b : Bool), Pf c9 c1 s1 → pQ (tkn c9) (vw c9) = (b, s1) → gg X (W9 c1 m o) 0 0 65 [] [.int (bI b)] := by
    intro c1 s1 b q e
    refine k_Pa_readQuery_65 ok E (bI_nar _) ⟨_, pF_mk e q, rfl⟩ (Nat.le_refl _) (Nat.le_refl _)
  have no : ∀ c1 s1, Pf c9 c1 s1 → pQ (tkn c9) (vw c9) = (false, s1) → gg X (W9 c1 m o) 0 0 64 [] [] := by
    intro c1 s1 q e
    refine k_Pa_readQuery_64 ok ?_
    exact k65 c1 s1 false q e
  refine k_Pa_readQuery_7 ok rW_34 rF_Pa_0 rW_13 (pf_takeKeyQ q0 _) (gF_h E.nR (by decide) (by decide)) (fun _ _ q => qC_len q) ?_
  rintro r M' ⟨c2, ⟨⟨rfl, q2⟩, hc2⟩, rfl⟩
  refine k_Pa_readQuery_17 ok (fun z => have z := bI_0 z; ?_) (fun z => have z := bI_1 z; ?_)
  · exact no c2 _ q2 (by rw [he, pAnd_f z])
  rw [pAnd_t z] at he
  refine k_Pa_readQuery_20 ok rW_34 (pf_sel q2 (hc2.trans hz)) (gF_h E.nR (by decide) (by decide)) (fun _ _ q => qC_len q) ?_
  rintro r M' ⟨c3, ⟨rfl, q3⟩, rfl⟩
  refine k_Pa_readQuery_24 ok (fun z => have z := bI_0 z; ?_) (fun z => have z := bI_1 z; ?_)
  · exact no c3 _ q3 (by rw [he, pAnd_f z])
  rw [pAnd_t z] at he
  refine k_Pa_readQuery_27 ok rW_34 (pf_grp_0 q3 _) (gF_h E.nR (by decide) (by decide)) (fun _ _ q => qC_len q) ?_
  rintro r M' ⟨c4, ⟨rfl, q4⟩, rfl⟩
  refine k_Pa_readQuery_33 ok (fun z => have z := bI_0 z; ?_) (fun z => have z := bI_1 z; ?_)
  · exact no c4 _ q4 (by rw [he, pAnd_f z])
  rw [pAnd_t z] at he
  refine k_Pa_readQuery_36 ok rW_34 (pf_ord q4) (gF_h E.nR (by decide) (by decide)) (fun _ _ q => qC_len q) ?_
  rintro r M' ⟨c5, ⟨rfl, q5⟩, rfl⟩
  refine k_Pa_readQuery_40 ok (fun z => have z := bI_0 z; ?_) (fun z => have z := bI_1 z; ?_)
  · exact no c5 _ q5 (by rw [he, pAnd_f z])
  rw [pAnd_t z] at he
  refine k_Pa_readQuery_43 ok rW_34 (pf_lim q5) (gF_h E.nR (by decide) (by decide)) (fun _ _ q => qC_len q) ?_
  rintro r M' ⟨c6, ⟨rfl, q6⟩, rfl⟩
  refine k_Pa_readQuery_47 ok (fun z => have z := bI_0 z; ?_) (fun z => have z := bI_1 z; ?_)
  · exact no c6 _ q6 (by rw [he, pAnd_f z])
  rw [pAnd_t z] at he
  refine k_Pa_readQuery_50 ok rW_34 rF_Pa_0 rW_13 (pf_kind q6) (gF_h E.nR (by decide) (by decide)) (fun _ _ q => qC_len q) ?_
  rintro r M' ⟨c6, ⟨rfl, rfl⟩, rfl⟩
  refine k_Pa_readQuery_57 ok (fun z => ?_) (fun z => ?_)
  · exact no c6 _ q6 (by rw [he, decide_eq_false z])
  refine k_Pa_readQuery_60 ok ?_
  exact k65 c6 _ true q6 (by rw [he, decide_eq_true z])
end CP2
