section RX9b
variable {l : Launch} {c : CS} {m : MS} {o : Nat → Int64} {T : Tn3} {P : Nat → Int32} {k : Nat} {s : Vw}
def pQ5 (T : Tn3) (s : Vw) : Bool × Vw := (decide (wKd T s = 0), s)
def pQ4 (T : Tn3) (s : Vw) : Bool × Vw := pAnd (pLim T s) (pQ5 T)
def pQ3 (T : Tn3) (s : Vw) : Bool × Vw := pAnd (pOrd T s) (pQ4 T)
def pQ2 (T : Tn3) (s : Vw) : Bool × Vw := pAnd (pGx T 4 s) (pQ3 T)
def pQ1 (T : Tn3) (s : Vw) : Bool × Vw := pAnd (pSel T s) (pQ2 T)
def pQx (T : Tn3) (s : Vw) : Bool × Vw := pAnd (wTk T s 8315171469725532160) (pQ1 T)
theorem pAnd_1 {x : Bool × Vw} {f : Vw → Bool × Vw} {s : Vw} (h : x = (true, s)) : pAnd x f = f s := by
  rw [h]
  rfl
theorem pAnd_0 {x : Bool × Vw} {f : Vw → Bool × Vw} {s : Vw} (h : x = (false, s)) : pAnd x f = (false, s) := by
  rw [h]
  rfl
theorem pSl_end (r i : Nat) (h0 : 0 < i) (h : ¬ wKd T s = 5) : pSl T r i s = (true, s) := by
  cases r with
  | zero =>
    show (decide (0 < i), s) = _
    rw [decide_eq_true h0]
  | succ r =>
    show (if wKd T s = 5 then _ else (decide (0 < i), s)) = _
    rw [if_neg h, decide_eq_true h0]
theorem pVar_no (h : ¬ wKd T s = 5) : pVar T s = (false, s) := by
  unfold pVar
  rw [if_neg h]
theorem rx_readQuery (h : BI m) (R : Rg T P k m s) (hd : m.dp = 0) (hn : m.no = 0) (h0 : m.nw = 0) (hne : m.ne = 0) : mm_ l y_Mo_readQuery w_Mo_readQuery (rmh 11) [.ref 58] (W9 c m o) (qM c o (fun r m' => r = none ∧ Fr3 m m' ∧ QI m' ∧ Rr T P k m' (pQx T s))) := by
  have hw := R.2.2.2.2.2.1
  obtain ⟨F, hF⟩ : ∃ F, F = pQx T s := ⟨_, rfl⟩
  rw [← hF]
  refine mm_intro (by decide) (Nat.le_of_ble_eq_true rfl) i_Mo_readQuery (fun X ok E => ?_)
  have ht := h.1
  -- at a fault
  have flt : ∀ (m1 : MS) (s1 : Vw), Fr3 m m1 → BI m1 → m1.nw ≤ 6 → ¬ m1.wr < 0 → m1.wr = P s1.1 → F = (false, s1) → ∃ m', (none = (none : Option Value) ∧ Fr3 m m' ∧ QI m' ∧ Rr T P k m' F) ∧ W9 c m1 o = W9 c m' o := fun m1 s1 q1 q2 q3 q4 q5 q6 => ⟨m1, ⟨rfl, q1, ⟨q2, q3, fun z => absurd z q4⟩, Rr_f q6 q4 q5⟩, rfl⟩
  -- the end: nothing may follow
  have e210 : ∀ m1 s1, Fr3 m m1 → QI m1 → Rg T P k m1 s1 → F = pQ5 T s1 → gg X (W9 c m1 o) 0 0 210 [(0, .ref 58)] [] := by
    intro m1 s1 q1 q2 R1 hF1
    obtain ⟨-, -, -, -, -, t6, -, -⟩ := R1.tok q2.1.1
    have k5 : m1.kd ≤ 5 := q2.1.1.2.2.2.2.1
    refine k_Mo_readQuery_210 ok rW_58 rF_Mo_15 (fun z => have z := (nEq rfl (nL 0) (by omega) (by omega) z); ?_) (fun z => have z := (nNe rfl (nL 0) (by omega) (by omega) z); ?_)
    · refine k_Mo_readQuery_221 ok E ⟨_, ⟨rfl, q1, q2, Rr_t (by rw [hF1, pQ5, decide_eq_true (t6.mp z)]) R1⟩, rfl⟩ (Nat.le_refl _) (Nat.le_refl _)
    · have hz : ¬ m1.kd = 0 := z
      refine k_Mo_readQuery_217 ok rW_58 (rx_stop q2.1.1 R1) (gF_h E.nR (by decide) (by decide)) (fun _ _ q => qM_len q) ?_
      rintro r M' ⟨m2, ⟨rfl, w1, w2, x, rfl⟩, rfl⟩
      refine k_Mo_readQuery_221 ok E (flt _ s1 (by exact q1) (by exact q2.1) (by exact q2.2.1) w1 w2 (by rw [hF1, pQ5, decide_eq_false (fun w => hz (t6.mpr w))])) (Nat.le_refl _) (Nat.le_refl _)
  have stq : ∀ m1 m2, St m1 m2 → QI m1 → QI m2 := by
    intro m1 m2 q1 q2
    obtain ⟨f1, f2, f3, f4, f5, f6, f7, f8, f9, f10, f11, f12, f13⟩ := q1.eqs
    refine ⟨BI_St q1 q2.1, by rw [f13.1]; exact q2.2.1, fun z => ?_⟩
    obtain ⟨⟨y1, y2⟩, y3⟩ := q2.2.2 (q1.2.2.2.1 z)
    rw [f7, f8, f9, f12, f13.1]
    exact ⟨⟨y1, TA_St q1 y2⟩, y3⟩
  have e168 : ∀ m1 s1, Fr3 m m1 → QI m1 → Rg T P k m1 s1 → F = pQ4 T s1 → gg X (W9 c m1 o) 0 0 168 [(0, .ref 58)] [] := by
    intro m1 s1 q1 q2 R1 hF1
    unfold pQ4 at hF1
    refine k_Mo_readQuery_168 ok rW_58 (mo_isKeyF q2.1.1 _) (gF_h E.nR (by decide) (by decide)) (fun _ _ q => qM_len q) ?_
    rintro r M' ⟨m1, ⟨rfl, rfl⟩, rfl⟩
    rw [(R1.tok q2.1.1).1 _ _ kO4]
    refine k_Mo_readQuery_173 ok (fun z => have z := bI_0 z; ?_) (fun z => have z := bI_1 z; ?_)
    · refine e210 m1 s1 q1 q2 R1 ?_
      rw [hF1]
      refine pAnd_1 ?_
      unfold pLim
      rw [z]
      rfl
    · have zk := z
      refine k_Mo_readQuery_176 ok rW_58 (rx_next q2.1.1 R1) (gF_h E.nR (by decide) (by decide)) (fun _ _ q => qM_len q) ?_
      rintro r M' ⟨m2, ⟨rfl, w1, wb, -, R2⟩, rfl⟩
      obtain ⟨-, -, -, -, t5, -, -, -⟩ := R2.tok w1.1
      have hL : pLim T s1 = (if wKd T (wSt T s1) = 4 then (bif tH (wVl T (wSt T s1)) then (true, wSt T (wSt T s1)) else (false, wSt T s1)) else (false, wSt T s1)) := by
        unfold pLim
        rw [zk]
        rfl
      have go : ∀ x (b : Bool), (b = true → m2.kd = 2) → (b = false → ¬ m2.kd = 2) → gg X (W9 c (m2.u_li x) o) 0 0 203 [(0, .ref 58)] [.int (bI b), .ref 58] := by
        intro x b hb1 hb2
        have R3 : Rg T P k (m2.u_li x) (wSt T s1) := R2
        refine k_Mo_readQuery_203 ok rW_58 (rx_goOn (by exact w1.1) R3 b) (gF_h E.nR (by decide) (by decide)) (fun _ _ q => qM_len q) ?_
        rintro r M' ⟨m3, ⟨rfl, v1, vb, v2, v3⟩, rfl⟩
        have hF : Fr3 m m3 := (q1.trans w1.fr.r3).trans (by exact v1.fr.r3)
        have hQ : QI m3 := stq _ _ v1 (by exact stq _ _ w1 q2)
        refine k_Mo_readQuery_206 ok (fun z => have z := bI_1 z; ?_) (fun z => have z := bI_0 z; ?_)
        · obtain ⟨y1, y2⟩ := t5.mp (hb1 z)
          refine e210 m3 _ hF hQ (v2 z).2.2 ?_
          rw [hF1]
          refine pAnd_1 ?_
          rw [hL, if_pos y1, y2]
          rfl
        · refine k_Mo_readQuery_209 ok E (flt m3 (wSt T s1) hF hQ.1 hQ.2.1 (v3 z).1 (v3 z).2 ?_) (Nat.le_refl _) (Nat.le_refl _)
          rw [hF1]
          refine pAnd_0 ?_
          rw [hL]
          by_cases y1 : wKd T (wSt T s1) = 4
          · rw [if_pos y1]
            cases y2 : tH (wVl T (wSt T s1)) with
            | true => exact absurd (t5.mpr ⟨y1, y2⟩) (hb2 z)
            | false => rfl
          · rw [if_neg y1]
      have k5 : m2.kd ≤ 5 := w1.1.2.2.2.2.1
      have e5 : ∀ x, (m2.u_li x).kd = m2.kd := fun _ => rfl
      refine k_Mo_readQuery_180 ok rW_58 rF_Mo_16 (Nat.le_refl 59) sF_Mo_46 (sO_Mo_46 rfl) rF_Mo_15 (fun z => have z := (nNe rfl (nL 2) (by omega) (by omega) z); ?_) (fun z => have z := (nEq rfl (nL 2) (by omega) (by omega) z); ?_)
      · refine k_Mo_readQuery_202 ok ?_
        exact go _ false (fun z => nomatch z) (fun _ => by exact z)
      · refine k_Mo_readQuery_198 ok ?_
        exact go _ true (fun _ => by exact z) (fun z => nomatch z)
  have e112 : ∀ m1 x, Fr3 m m1 → QI m1 → Rr T P k m1 x → F = pAnd x (pQ3 T) → gg X (W9 c m1 o) 0 0 112 [(0, .ref 58)] [] := by
    intro m1 x q1 q2 Rx hFx
    cases hx : x.1 with
    | false =>
      obtain ⟨y1, y2⟩ := Rx.2 hx
      refine k_Mo_readQuery_112 ok rW_58 rF_Mo_20 (fun z => absurd z y1) (fun _ => ?_)
      refine k_Mo_readQuery_119 ok E (flt m1 x.2 q1 q2.1 q2.2.1 y1 y2 (by rw [hFx]; exact pAnd_f hx)) (Nat.le_refl _) (Nat.le_refl _)
    | true =>
      have R1 := Rx.1 hx
      obtain ⟨s1, hs1⟩ : ∃ s1, s1 = x.2 := ⟨_, rfl⟩
      rw [← hs1] at R1
      have hF1 : F = pAnd (pOrd T s1) (pQ4 T) := by
        rw [hFx, pAnd_t hx, ← hs1]
        rfl
      have hw1 : m1.wr < 0 := R1.2.2.2.2.2.1
      refine k_Mo_readQuery_112 ok rW_58 rF_Mo_20 (fun _ => ?_) (fun z => absurd hw1 z)
      refine k_Mo_readQuery_120 ok rW_58 (mo_isKeyF q2.1.1 _) (gF_h E.nR (by decide) (by decide)) (fun _ _ q => qM_len q) ?_
      rintro r M' ⟨m1, ⟨rfl, rfl⟩, rfl⟩
      rw [(R1.tok q2.1.1).1 _ _ kO2]
      refine k_Mo_readQuery_125 ok (fun z => have z := bI_0 z; ?_) (fun z => have z := bI_1 z; ?_)
      · refine e168 m1 s1 q1 q2 R1 ?_
        rw [hF1]
        refine pAnd_1 ?_
        unfold pOrd
        rw [z]
        rfl
      · have hO : pOrd T s1 = (bif (pVar T (wSt T s1)).1 then (true, (wTk T (pVar T (wSt T s1)).2 7234315245479526400).2) else (false, (pVar T (wSt T s1)).2)) := by
          unfold pOrd
          rw [z]
          rfl
        refine k_Mo_readQuery_128 ok rW_58 (rx_next q2.1.1 R1) (gF_h E.nR (by decide) (by decide)) (fun _ _ q => qM_len q) ?_
        rintro r M' ⟨m2, ⟨rfl, w1, wb, -, R2⟩, rfl⟩
        refine k_Mo_readQuery_132 ok rW_58 (rx_readVariable w1.1 R2) (gF_h E.nR (by decide) (by decide)) (fun _ _ q => qM_len q) ?_
        rintro r M' ⟨m3, ⟨x, rfl, v1, v2, vb, v3, v4⟩, rfl⟩
        have hF : Fr3 m m3 := (q1.trans w1.fr.r3).trans v2.fr.r3
        have hQ : QI m3 := stq _ _ v2 (stq _ _ w1 q2)
        have hQ2 : QI (m3.u_ob x) := by
          obtain ⟨⟨⟨a1, a2, a3, a4, a5, a6, a7, a8, a9⟩, y2, y3, y4⟩, y5, y6⟩ := hQ
          exact ⟨⟨⟨a1, a2, a3, a4, a5, a6, a7, a8, v1, a9.2⟩, y2, y3, y4⟩, y5, y6⟩
        cases hp : (pVar T (wSt T s1)).1 with
        | false =>
          obtain ⟨y1, y2⟩ := v4.2 hp
          rw [hp] at hO
          refine k_Mo_readQuery_137 ok rW_58 (Nat.le_refl 59) sF_Mo_44 (sO_Mo_44 rfl) rF_Mo_20 (fun z => absurd z y1) (fun _ => ?_)
          refine k_Mo_readQuery_147 ok E (flt _ (pVar T (wSt T s1)).2 (by exact hF) hQ2.1 hQ2.2.1 (by exact y1) (by exact y2) (by rw [hF1]; exact pAnd_0 hO)) (Nat.le_refl _) (Nat.le_refl _)
        | true =>
          have R3 := v4.1 hp
          rw [hp] at hO
          obtain ⟨s3, hs3⟩ : ∃ s3, s3 = (pVar T (wSt T s1)).2 := ⟨_, rfl⟩
          rw [← hs3] at R3 hO
          have hO2 : pOrd T s1 = (true, (wTk T s3 7234315245479526400).2) := hO
          have R4 : Rg T P k (m3.u_ob x) s3 := R3
          have y1 : m3.wr < 0 := R3.2.2.2.2.2.1
          refine k_Mo_readQuery_137 ok rW_58 (Nat.le_refl 59) sF_Mo_44 (sO_Mo_44 rfl) rF_Mo_20 (fun _ => ?_) (fun z => absurd y1 z)
          refine k_Mo_readQuery_148 ok rW_58 (mo_isKeyF (by exact hQ2.1.1) _) (gF_h E.nR (by decide) (by decide)) (fun _ _ q => qM_len q) ?_
          rintro r M' ⟨m4, ⟨rfl, rfl⟩, rfl⟩
          rw [(R4.tok hQ2.1.1).1 _ _ kO3]
          obtain ⟨b, hb⟩ : ∃ b, b = wK T s3 7234315245479526400 := ⟨_, rfl⟩
          rw [← hb]
          refine k_Mo_readQuery_154 ok rW_58 (Nat.le_refl 59) ⟨bI_nar _, by cases b <;> rfl⟩ (sF_Mo_45 rfl) (sO_Mo_45 rfl) (fun z => have z := bI_0 z; ?_) (fun z => have z := bI_1 z; ?_)
          · refine e168 _ s3 (by exact hF) (by exact hQ2) (by exact R4) ?_
            rw [hF1]
            refine pAnd_1 ?_
            rw [hO2]
            unfold wTk
            rw [← hb, z]
            rfl
          · have R5 : Rg T P k ((m3.u_ob x).u_fl b) s3 := R4
            refine k_Mo_readQuery_164 ok rW_58 (rx_next (by exact hQ2.1.1) R5) (gF_h E.nR (by decide) (by decide)) (fun _ _ q => qM_len q) ?_
            rintro r M' ⟨m5, ⟨rfl, y1, yb, -, R6⟩, rfl⟩
            refine e168 m5 _ (Fr3.trans (by exact hF) y1.fr.r3) (stq _ _ y1 (by exact hQ2)) R6 ?_
            rw [hF1]
            refine pAnd_1 ?_
            rw [hO2]
            unfold wTk
            rw [← hb, z]
            rfl
  -- the selected ones
  have grp : ∀ m1 s1, Fr3 m m1 → BI m1 → m1.dp = 0 → (m1.no = 0 ∧ m1.ne = 0) → Rg T P k m1 s1 → m1.nw ≤ 6 → (∀ j, j < m1.nw → ∃ v, v < 6 ∧ m1.wa j = nI v) → F = pQ2 T s1 → gg X (W9 c m1 o) 0 0 108 [(0, .ref 58)] [] := by
    intro m1 s1 q1 q2 q3 q4 R1 q6 q7 hF1
    refine k_Mo_readQuery_108 ok rW_58 (rx_readGroups q2 R1 q3 q4.1 (fun t ht => absurd ht (by rw [q4.2]; exact Nat.not_lt_zero t))) (gF_h E.nR (by decide) (by decide)) (fun _ _ q => qM_len q) ?_
    rintro r M' ⟨m2, ⟨rfl, w1, w2, w3, w4⟩, rfl⟩
    exact e112 m2 _ (q1.trans w1.r3) ⟨w2, by rw [w1.2.2.2.2]; exact q6, fun z => ⟨w3 z, by rw [w1.2.2.2.1, w1.2.2.2.2]; exact q7⟩⟩ w4 hF1
  have body : ∀ rr m1 s1, m1.nw + rr = 6 → Fr3 m m1 → BI m1 → m1.dp = 0 → (m1.no = 0 ∧ m1.ne = 0) → Rg T P k m1 s1 → (∀ j, j < m1.nw → ∃ v, v < 6 ∧ m1.wa j = nI v) → F = pAnd (pSl T rr m1.nw s1) (pQ2 T) → (∀ r2 m2 s2 (b : Bool), r2 + 1 = rr → Fr3 m m2 → BI m2 → m2.dp = 0 → (m2.no = 0 ∧ m2.ne = 0) → Rg T P k m2 s2 → m2.nw = m1.nw + 1 → (∀ j, j < m2.nw → ∃ v, v < 6 ∧ m2.wa j = nI v) → F = pAnd (pSl T r2 m2.nw s2) (pQ2 T) → (b = true → m2.kd = 3) → (b = false → ¬ m2.kd = 3) → gg X (W9 c m2 o) 0 0 35 [(0, .ref 58), (1, .int (bI b))] []) → ∀ b : Bool, (b = true → m1.nw = 0 ∨ m1.kd = 3) → (b = false → 0 < m1.nw ∧ ¬ m1.kd = 3) → gg X (W9 c m1 o) 0 0 35 [(0, .ref 58), (1, .int (bI b))] [] := by
    intro rr m1 s1 q0 q1 q2 q3 q4 R1 q7 hF1 nx b hb1 hb2
    obtain ⟨-, -, -, t4, -, -, -, -⟩ := R1.tok q2.1
    have q5 : m1.wr < 0 := R1.2.2.2.2.2.1
    refine k_Mo_readQuery_35 ok (fun z => have z := bI_0 z; ?_) (fun z => have z := bI_1 z; ?_)
    · obtain ⟨y1, y2⟩ := hb2 z
      exact grp m1 s1 q1 q2 q3 q4 R1 (by omega) q7 (by rw [hF1]; exact pAnd_1 (pSl_end rr m1.nw y1 (fun w => y2 (t4.mpr w))))
    have hb3 := hb1 z
    refine k_Mo_readQuery_39 ok rW_58 rF_Mo_41 (fun z => have z := (nNe rfl (nL 6) (by omega) (by omega) z); ?_) (fun z => have z := (nEq rfl (nL 6) (by omega) (by omega) z); ?_)
    · obtain ⟨r2, hr2⟩ : ∃ r2, rr = r2 + 1 := ⟨rr - 1, by omega⟩
      have hF2 : F = pAnd (bif (pVar T s1).1 then pSl T r2 (m1.nw + 1) (pVar T s1).2 else (false, (pVar T s1).2)) (pQ2 T) := by
        rw [hF1, hr2]
        congr 1
        show (if wKd T s1 = 5 then _ else (decide (0 < m1.nw), s1)) = _
        by_cases y : wKd T s1 = 5
        · rw [if_pos y]
        · have e0 : m1.nw = 0 := by
            rcases hb3 with e | e
            · exact e
            · exact absurd (t4.mp e) y
          rw [if_neg y, pVar_no y, e0]
          rfl
      refine k_Mo_readQuery_52 ok rW_58 rF_Mo_20 (fun _ => ?_) (fun z => absurd q5 z)
      refine k_Mo_readQuery_60 ok rW_58 rF_Mo_40 rF_Mo_41 (rx_readVariable q2.1 R1) (gF_h E.nR (by decide) (by decide)) (fun _ _ q => qM_len q) ?_
      rintro r M' ⟨m2, ⟨x, rfl, w1, w2, wb, w3, w4⟩, rfl⟩
      obtain ⟨f1, f2, f3, f4, f5, f6, f7, f8, f9, f10, f11, f12, f13⟩ := w2.eqs
      have d0 : (nI m1.nw).toNatClampNeg = m1.nw := nC rfl (by omega)
      have hB : BI m2 := BI_St w2 q2
      cases hp : (pVar T s1).1 with
      | true =>
        rw [hp] at hF2
        have R2 := w4.1 hp
        have hz : m2.wr < 0 := R2.2.2.2.2.2.1
        obtain ⟨s2, hs2⟩ : ∃ s2, s2 = (pVar T s1).2 := ⟨_, rfl⟩
        rw [← hs2] at R2 hF2
        have hF3 : F = pAnd (pSl T r2 (m1.nw + 1) s2) (pQ2 T) := hF2
        obtain ⟨v, hv, rfl⟩ := w3 hz
        refine k_Mo_readQuery_72 ok rW_75 (vin rfl (by omega) (by decide)) sA_75 rW_58 rF_Mo_41 (Nat.le_refl 59) (sF_Mo_41 (nA rfl (nL 1))) (sO_Mo_41 rfl) rF_Mo_20 (fun _ => ?_) (fun z => absurd (by exact hz) z)
        rw [d0]
        have go : ∀ b : Bool, (b = true → m2.kd = 3) → (b = false → ¬ m2.kd = 3) → gg X (W9 c ((m2.u_wa (upd m2.wa m1.nw (nI v))).u_nw (m2.nw + 1)) o) 0 0 35 [(0, .ref 58), (1, .int (bI b))] [] := by
          intro b hb4 hb5
          have e13 : m2.nw = m1.nw := f13.1
          refine nx r2 _ s2 b hr2.symm (by exact q1.trans w2.fr.r3) (by exact hB) (by exact f5.trans q3) (by exact ⟨f9.trans q4.1, f11.trans q4.2⟩) (by exact R2) (by show m2.nw + 1 = _; rw [e13]) ?_ (by show F = pAnd (pSl T r2 (m2.nw + 1) s2) (pQ2 T); rw [e13]; exact hF3) hb4 hb5
          show ∀ j, j < m2.nw + 1 → ∃ v', v' < 6 ∧ upd m2.wa m1.nw (nI v) j = nI v'
          intro j hj
          unfold upd
          split
          · exact ⟨v, hv, rfl⟩
          · rw [f12]
            refine q7 j ?_
            rw [e13] at hj
            omega
        have k5 : ((m2.u_wa (upd m2.wa m1.nw (nI v))).u_nw (m2.nw + 1)).kd ≤ 5 := hB.1.2.2.2.2.1
        refine k_Mo_readQuery_91 ok rW_58 rF_Mo_15 (fun z => have z := (nNe rfl (nL 3) (by omega) (by omega) z); ?_) (fun z => have z := (nEq rfl (nL 3) (by omega) (by omega) z); ?_)
        · refine k_Mo_readQuery_103 ok ?_
          refine k_Mo_readQuery_104 ok E.nL ?_
          exact go false (fun z => nomatch z) (fun _ => z)
        · refine k_Mo_readQuery_99 ok ?_
          refine k_Mo_readQuery_104 ok E.nL ?_
          exact go true (fun _ => z) (fun z => nomatch z)
      | false =>
        rw [hp] at hF2
        obtain ⟨y1, y2⟩ := w4.2 hp
        refine k_Mo_readQuery_72 ok rW_75 (vin rfl (by omega) (by decide)) sA_75 rW_58 rF_Mo_41 (Nat.le_refl 59) (sF_Mo_41 (nA rfl (nL 1))) (sO_Mo_41 rfl) rF_Mo_20 (fun z => absurd z (by exact y1)) (fun _ => ?_)
        refine k_Mo_readQuery_90 ok E (flt _ (pVar T s1).2 (by exact q1.trans w2.fr.r3) (by exact hB) (by show m2.nw + 1 ≤ 6; rw [f13.1]; omega) (by exact y1) (by exact y2) (by rw [hF2]; rfl)) (Nat.le_refl _) (Nat.le_refl _)
    · have hk3 : m1.kd = 3 := by
        rcases hb3 with e | e
        · omega
        · exact e
      have hF2 : F = (false, s1) := by
        rw [hF1, show rr = 0 by omega]
        have e1 : pSl T 0 m1.nw s1 = (true, s1) := by
          show (decide (0 < m1.nw), s1) = _
          rw [decide_eq_true (by omega)]
        rw [pAnd_1 e1]
        unfold pQ2
        refine pAnd_0 ?_
        show (bif wS T s1 123 then _ else (false, s1)) = _
        rw [wS_n (T := T) (s := s1) (x := 123) (by rw [t4.mp hk3]; decide)]
        rfl
      refine k_Mo_readQuery_48 ok rW_58 (rx_stop q2.1 R1) (gF_h E.nR (by decide) (by decide)) (fun _ _ q => qM_len q) ?_
      rintro r M' ⟨m2, ⟨rfl, w1, w2, x, rfl⟩, rfl⟩
      refine k_Mo_readQuery_52 ok rW_58 rF_Mo_20 (fun z => absurd z w1) (fun _ => ?_)
      refine k_Mo_readQuery_59 ok E (flt _ s1 (by exact q1) (by exact q2) (by show m1.nw ≤ 6; omega) w1 w2 hF2) (Nat.le_refl _) (Nat.le_refl _)
  have sel : ∀ r m1 s1, m1.nw + r = 6 → Fr3 m m1 → BI m1 → m1.dp = 0 → (m1.no = 0 ∧ m1.ne = 0) → Rg T P k m1 s1 → (∀ j, j < m1.nw → ∃ v, v < 6 ∧ m1.wa j = nI v) → F = pAnd (pSl T r m1.nw s1) (pQ2 T) → ∀ b : Bool, (b = true → m1.nw = 0 ∨ m1.kd = 3) → (b = false → 0 < m1.nw ∧ ¬ m1.kd = 3) → gg X (W9 c m1 o) 0 0 35 [(0, .ref 58), (1, .int (bI b))] [] := by
    intro r
    induction r with
    | zero => exact fun m1 s1 y q1 q2 q3 q4 R1 q7 hF1 => body 0 m1 s1 y q1 q2 q3 q4 R1 q7 hF1 (fun r2 m2 s2 b w => absurd w (by omega))
    | succ r ih => exact fun m1 s1 y q1 q2 q3 q4 R1 q7 hF1 => body (r + 1) m1 s1 y q1 q2 q3 q4 R1 q7 hF1 (fun r2 m2 s2 b w0 w1 w2 w3 w4 w5 w6 w7 w8 w9 w10 => by
        have e : r2 = r := by omega
        subst e
        exact ih m2 s2 (by omega) w1 w2 w3 w4 w5 w7 w8 b (fun z => Or.inr (w9 z)) (fun z => ⟨by omega, w10 z⟩))
  have go33 : ∀ m1 s1, St m m1 → Rg T P k m1 s1 → F = pAnd (pSl T 6 0 s1) (pQ2 T) → ∀ b, gg X (W9 c (m1.u_di b) o) 0 0 33 [(0, .ref 58)] [] := by
    intro m1 s1 q1 R1 hF1 b
    obtain ⟨f1, f2, f3, f4, f5, f6, f7, f8, f9, f10, f11, f12, f13⟩ := q1.eqs
    have e0 : m1.nw = 0 := by rw [f13.1, h0]
    refine k_Mo_readQuery_33 ok E.nL ?_
    exact sel 6 (m1.u_di b) s1 (by show m1.nw + 6 = 6; rw [e0]) (by exact q1.fr.r3) (by exact BI_St q1 h) (by exact f5.trans hd) (by exact ⟨f9.trans hn, f11.trans hne⟩) (by exact R1) (by show ∀ j, j < m1.nw → _; rw [e0]; exact fun j hj => absurd hj (Nat.not_lt_zero j)) (by show F = pAnd (pSl T 6 m1.nw s1) (pQ2 T); rw [e0]; exact hF1) true (fun _ => Or.inl (by exact e0)) (fun z => nomatch z)
  refine k_Mo_readQuery_0 ok rW_58 (mo_isKeyF ht _) (gF_h E.nR (by decide) (by decide)) (fun _ _ q => qM_len q) ?_
  rintro r M' ⟨m, ⟨rfl, rfl⟩, rfl⟩
  rw [(R.tok ht).1 _ _ kO0]
  obtain ⟨b0, hb0⟩ : ∃ b0, b0 = wK T s 8315171469725532160 := ⟨_, rfl⟩
  rw [← hb0]
  refine k_Mo_readQuery_6 ok rW_58 (rx_goOn ht R b0) (gF_h E.nR (by decide) (by decide)) (fun _ _ q => qM_len q) ?_
  rintro r M' ⟨m1, ⟨rfl, q1, qb, q2, q3⟩, rfl⟩
  obtain ⟨f1, f2, f3, f4, f5, f6, f7, f8, f9, f10, f11, f12, f13⟩ := q1.eqs
  refine k_Mo_readQuery_9 ok (fun z => have z := bI_1 z; ?_) (fun z => have z := bI_0 z; ?_)
  · obtain ⟨hz, -, R1⟩ := q2 z
    have hF1 : F = pAnd (pSl T 6 0 (wTk T (wSt T s) 7235441220169655156).2) (pQ2 T) := by
      rw [hF]
      unfold pQx
      rw [pAnd_1 (s := wSt T s) (by unfold wTk; rw [← hb0, z]; rfl)]
      rfl
    refine k_Mo_readQuery_13 ok rW_58 (mo_isKeyF q1.1 _) (gF_h E.nR (by decide) (by decide)) (fun _ _ q => qM_len q) ?_
    rintro r M' ⟨m1, ⟨rfl, rfl⟩, rfl⟩
    rw [(R1.tok q1.1).1 _ _ kO1]
    obtain ⟨b, hb⟩ : ∃ b, b = wK T (wSt T s) 7235441220169655156 := ⟨_, rfl⟩
    rw [← hb]
    refine k_Mo_readQuery_19 ok rW_58 (Nat.le_refl 59) ⟨bI_nar _, by cases b <;> rfl⟩ (sF_Mo_43 rfl) (sO_Mo_43 rfl) (fun z => have z := bI_0 z; ?_) (fun z => have z := bI_1 z; ?_)
    · refine go33 m1 (wSt T s) q1 R1 ?_ _
      rw [hF1]
      unfold wTk
      rw [← hb, z]
      rfl
    · have R2 : Rg T P k (m1.u_di b) (wSt T s) := R1
      refine k_Mo_readQuery_29 ok rW_58 (rx_next (by exact q1.1) R2) (gF_h E.nR (by decide) (by decide)) (fun _ _ q => qM_len q) ?_
      rintro r M' ⟨m2, ⟨rfl, w1, wb, -, R3⟩, rfl⟩
      have q4 : St m m2 := St.trans (m2 := m1.u_di b) (by exact q1) w1
      refine go33 m2 _ q4 R3 ?_ m2.di
      rw [hF1]
      unfold wTk
      rw [← hb, z]
      rfl
  · refine k_Mo_readQuery_12 ok E (flt _ s q1.fr.r3 (BI_St q1 h) (by rw [f13.1, h0]; decide) (q3 z).1 (q3 z).2 (by rw [hF]; unfold pQx; exact pAnd_0 (by unfold wTk; rw [← hb0, z]; rfl))) (Nat.le_refl _) (Nat.le_refl _)
end RX9b
