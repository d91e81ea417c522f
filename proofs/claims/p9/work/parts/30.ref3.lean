/-! THE REFERENCE: undo, settle, sync, crash -/
section RS3
variable {l : Launch} {c : CS} {m : MS} {o : Nat → Int64}
abbrev MS.d_app (m : MS) (b : Bool) (s p q : Int64) : MS := bif b then m.d_put s p q else m.d_cut (fd3 m.tr s p q m.nt 0)
/-- apply() may be called -/
def MS.ok_app (m : MS) (b : Bool) (s p q : Int64) : Prop := m.nt ≤ 48 ∧ bif b then m.nt < 48 else fd3 m.tr s p q m.nt 0 < m.nt
theorem mo_apply (b : Bool) (s p q : Int64) (h : m.ok_app b s p q) : mm_ l y_Mo_apply w_Mo_apply (rmh 2) [.ref 58, .int (bI b), .long s, .long p, .long q] (W9 c m o) (qM c o (fun r m' => r = none ∧ m' = m.d_app b s p q)) := by
  cases b with
  | true => exact mo_applyT h.2 s p q
  | false => exact mo_applyF h.1 s p q h.2
/-- change i, as it was made (b: was it put in?) -/
abbrev MS.d_ap (m : MS) (b : Bool) (i : Nat) : MS := m.d_app b (m.ch (3 * i)) (m.ch (3 * i + 1)) (m.ch (3 * i + 2))
def MS.ok_ap (m : MS) (b : Bool) (i : Nat) : Prop := m.ok_app b (m.ch (3 * i)) (m.ch (3 * i + 1)) (m.ch (3 * i + 2))
abbrev MS.d_un (m : MS) : MS := (m.u_nc (m.nc - 1)).d_ap (!m.pt (m.nc - 1)) (m.nc - 1)
def MS.d_undo : Nat → MS → MS
  | 0, m => m
  | k + 1, m => MS.d_undo k m.d_un
def MS.ok_undo : Nat → MS → Prop
  | 0, _ => True
  | k + 1, m => (m.u_nc (m.nc - 1)).ok_ap (!m.pt (m.nc - 1)) (m.nc - 1) ∧ MS.ok_undo k m.d_un
theorem app_nc (m : MS) (b : Bool) (s p q : Int64) : (m.d_app b s p q).nc = m.nc := by cases b <;> rfl
theorem app_of (m : MS) (b : Bool) (s p q : Int64) : (m.d_app b s p q).of = m.of := by cases b <;> rfl
theorem app_op (m : MS) (b : Bool) (s p q : Int64) : (m.d_app b s p q).op = m.op := by cases b <;> rfl
theorem app_ch (m : MS) (b : Bool) (s p q : Int64) : (m.d_app b s p q).ch = m.ch := by cases b <;> rfl
theorem app_pt (m : MS) (b : Bool) (s p q : Int64) : (m.d_app b s p q).pt = m.pt := by cases b <;> rfl
theorem app_fo (m : MS) (b : Bool) (s p q : Int64) : (m.d_app b s p q).fo = m.fo := by cases b <;> rfl
theorem app_nt (m : MS) (b : Bool) (s p q : Int64) (h : m.ok_app b s p q) : (m.d_app b s p q).nt ≤ 48 := by
  cases b with
  | true => exact h.2
  | false => exact Nat.le_trans (Nat.sub_le _ _) h.1
theorem mo_undo (m0 : MS) (fr : Nat) (hfr : fr ≤ m0.nc) (hc : m0.nc ≤ 800) (hok : MS.ok_undo (m0.nc - fr) m0) : mm_ l y_Mo_undo w_Mo_undo (rmh 3) [.ref 58, .int (nI fr)] (W9 c m0 o) (qM c o (fun r m' => r = none ∧ m' = MS.d_undo (m0.nc - fr) m0)) := by
  refine mm_intro (by decide) (Nat.le_of_ble_eq_true rfl) i_Mo_undo (fun X ok E => ?_)
  have loop : ∀ k m, m.nc = fr + k → m.nc ≤ 800 → MS.ok_undo k m → MS.d_undo k m = MS.d_undo (m0.nc - fr) m0 → gg X (W9 c m o) 0 0 0 [(0, .ref 58), (1, .int (nI fr))] [] := by
    intro k
    induction k with
    | zero =>
      intro m h1 h2 h3 h4
      refine k_Mo_undo_0 ok rW_58 rF_Mo_7 (fun z => have z := (nLe rfl rfl (by omega) (by omega) z); ?_) (fun z => have z := (nNle rfl rfl (by omega) (by omega) z); ?_)
      · refine k_Mo_undo_79 ok E ⟨_, ⟨rfl, h4⟩, rfl⟩ (Nat.le_refl _) (Nat.le_refl _)
      · omega
    | succ k ih =>
      intro m h1 h2 h3 h4
      have c0 : (nI m.nc - 1).toNatClampNeg = m.nc - 1 := nC (nS rfl (nL 1) (by omega)) (by omega)
      have e1 : (m.u_nc (m.nc - 1)).nc = m.nc - 1 := rfl
      have go : ∀ b, b = (!m.pt (m.nc - 1)) → gg X (W9 c (m.u_nc (m.nc - 1)) o) 0 0 36 [(0, .ref 58), (1, .int (nI fr))] [.int (bI b), .ref 58] := by
        rintro b rfl
        have d0 : (3 * nI (m.nc - 1)).toNatClampNeg = 3 * (m.nc - 1) := nC (nM (nL 3) rfl) (by omega)
        have d1 : (3 * nI (m.nc - 1) + 1).toNatClampNeg = 3 * (m.nc - 1) + 1 := nC (nA (nM (nL 3) rfl) (nL 1)) (by omega)
        have d2 : (3 * nI (m.nc - 1) + 2).toNatClampNeg = 3 * (m.nc - 1) + 2 := nC (nA (nM (nL 3) rfl) (nL 2)) (by omega)
        refine k_Mo_undo_36 ok rW_58 rF_Mo_4 rF_Mo_7 rW_61 (vin (nM (nL 3) rfl) (by omega) (by decide)) (vin (nA (nM (nL 3) rfl) (nL 1)) (by omega) (by decide)) (vin (nA (nM (nL 3) rfl) (nL 2)) (by omega) (by decide)) (by rw [d0, d1, d2]; exact mo_apply _ _ _ _ h3.1) (gF_h E.nR (by decide) (by decide)) (fun _ _ q => qM_len q) ?_
        rintro r M' ⟨m2, ⟨rfl, rfl⟩, rfl⟩
        refine k_Mo_undo_76 ok ?_
        have e9 := app_nc (m.u_nc (m.nc - 1)) (!m.pt (m.nc - 1)) (m.ch (3 * (m.nc - 1))) (m.ch (3 * (m.nc - 1) + 1)) (m.ch (3 * (m.nc - 1) + 2))
        exact ih m.d_un (by rw [e9]; omega) (by rw [e9]; omega) h3.2 h4
      refine k_Mo_undo_0 ok rW_58 rF_Mo_7 (fun z => have z := (nLe rfl rfl (by omega) (by omega) z); ?_) (fun z => have z := (nNle rfl rfl (by omega) (by omega) z); ?_)
      · omega
      refine k_Mo_undo_8 ok rW_58 rF_Mo_7 (Nat.le_refl 59) (sF_Mo_7 (nS rfl (nL 1) (by omega))) (sO_Mo_7 rfl) rF_Mo_5 rW_62 (vin (nS rfl (nL 1) (by omega)) (by omega) (by decide)) (fun z => ?_) (fun z => ?_)
      · rw [c0] at z
        refine k_Mo_undo_35 ok ?_
        exact go false (by rw [bI_1 z]; rfl)
      · rw [c0] at z
        refine k_Mo_undo_31 ok ?_
        exact go true (by rw [bI_0 z]; rfl)
  exact loop (m0.nc - fr) m0 (by omega) hc hok rfl
def MS.d_rollback (m : MS) : Nat × MS := bif m.op then (m.nc - m.of, (MS.d_undo (m.nc - m.of) (m.u_cd 0)).u_op false) else (0, m.u_cd 1)
theorem mo_rollback (h : m.of ≤ m.nc) (hc : m.nc ≤ 800) (hok : m.op = true → MS.ok_undo (m.nc - m.of) (m.u_cd 0)) : mm_ l y_Mo_rollback w_Mo_rollback (rmh 4) [.ref 58] (W9 c m o) (qM c o (fun r m' => r = some (.int (nI m.d_rollback.1)) ∧ m' = m.d_rollback.2)) := by
  refine mm_intro (by decide) (Nat.le_of_ble_eq_true rfl) i_Mo_rollback (fun X ok E => ?_)
  refine k_Mo_rollback_0 ok rW_58 rF_Mo_10 (mo_good m.op 1) (gF_h E.nR (by decide) (by decide)) (fun _ _ q => qM_len q) ?_
  rintro r M' ⟨m', ⟨rfl, rfl⟩, rfl⟩
  refine k_Mo_rollback_9 ok (fun z => have z := bI_1 z; ?_) (fun z => have z := bI_0 z; ?_)
  · have z : m.op = true := z
    rw [z]
    refine k_Mo_rollback_14 ok E.nL rW_58 rF_Mo_7 rF_Mo_11 (mo_undo (m.u_cd 0) m.of h hc (hok z)) (gF_h E.nR (by decide) (by decide)) (fun _ _ q => qM_len q) ?_
    rintro r M' ⟨m', ⟨rfl, rfl⟩, rfl⟩
    refine k_Mo_rollback_32 ok rW_58 (Nat.le_refl 59) (sF_Mo_10 (v := false) rfl) (sO_Mo_10 rfl) E ⟨_, ⟨by rw [MS.d_rollback, z]; exact congrArg (fun v => some (Value.int v)) (nS rfl rfl h), by rw [MS.d_rollback, z]; rfl⟩, rfl⟩ (Nat.le_refl _) (Nat.le_refl _)
  · have z : m.op = false := z
    refine k_Mo_rollback_12 ok E ⟨_, ⟨by rw [MS.d_rollback, z]; rfl, by rw [MS.d_rollback, z]; rfl⟩, rfl⟩ (Nat.le_refl _) (Nat.le_refl _)
/-! settle -/
abbrev MS.opn (m : MS) : Nat := bif m.op then m.nc - m.of else 0
/-- the open changes taken back: k of them, from place fr + k - 1 down to fr -/
def MS.d_back (fr : Nat) : Nat → MS → MS
  | 0, m => m
  | k + 1, m => MS.d_back fr k (m.d_ap (!m.pt (fr + k)) (fr + k))
def MS.ok_back (fr : Nat) : Nat → MS → Prop
  | 0, _ => True
  | k + 1, m => m.ok_ap (!m.pt (fr + k)) (fr + k) ∧ MS.ok_back fr k (m.d_ap (!m.pt (fr + k)) (fr + k))
/-- the first k of g, and f behind them -/
def cpk (f g : Nat → Int64) : Nat → Nat → Int64
  | 0 => f
  | k + 1 => vp_updL (cpk f g k) k (g k)
def cp3 (fr i : Nat) : Nat → (Nat → Int64) → Nat → Int64
  | 0, f => f
  | k + 1, f => vp_updL (cp3 fr i k f) (3 * i + k) (cp3 fr i k f (3 * (fr + i) + k))
abbrev MS.d_mv (m : MS) (fr i : Nat) : MS := ((m.u_ch (cp3 fr i 3 m.ch)).u_pt (va_up m.pt i (m.pt (fr + i)))).u_fo (upd m.fo i 0)
/-- the changes i .. i + k - 1 moved down and made again -/
def MS.d_redo (fr : Nat) : Nat → Nat → MS → MS
  | 0, _, m => m
  | k + 1, i, m => MS.d_redo fr k (i + 1) ((m.d_mv fr i).d_ap (m.pt (fr + i)) i)
def MS.ok_redo (fr : Nat) : Nat → Nat → MS → Prop
  | 0, _, _ => True
  | k + 1, i, m => (m.d_mv fr i).ok_ap (m.pt (fr + i)) i ∧ MS.ok_redo fr k (i + 1) ((m.d_mv fr i).d_ap (m.pt (fr + i)) i)
abbrev MS.d_keep (m : MS) : MS := (m.u_kt (cpk m.kt m.tr (3 * m.nt))).u_nk m.nt
def MS.d_settle (m : MS) : MS := (((MS.d_redo (m.nc - m.opn) m.opn 0 (MS.d_back (m.nc - m.opn) m.opn m).d_keep).u_nc m.opn).u_of 0).u_us 0
theorem cast_gg {X : gC} {M M2 : List mC} {k n pc : Nat} {L : List (Nat × Value)} {st : List Value} (h : gg X M k n pc L st) (e : M = M2) : gg X M2 k n pc L st := e ▸ h
theorem dback_of (fr : Nat) : ∀ k (m : MS), (MS.d_back fr k m).nc = m.nc ∧ (MS.d_back fr k m).op = m.op ∧ (MS.d_back fr k m).of = m.of ∧ (MS.d_back fr k m).us = m.us
  | 0, m => ⟨rfl, rfl, rfl, rfl⟩
  | k + 1, m => by
    obtain ⟨a, b, d, e⟩ := dback_of fr k (m.d_ap (!m.pt (fr + k)) (fr + k))
    unfold MS.d_back
    refine ⟨a.trans ?_, b.trans ?_, d.trans ?_, e.trans ?_⟩ <;> (cases m.pt (fr + k) <;> rfl)
theorem back_nt (fr : Nat) : ∀ k (m : MS), m.nt ≤ 48 → MS.ok_back fr k m → (MS.d_back fr k m).nt ≤ 48
  | 0, m, h, _ => h
  | k + 1, m, h, hk => back_nt fr k _ (app_nt m _ _ _ _ hk.1) hk.2
/-- settle may be called -/
def MS.ok_settle (m : MS) : Prop := m.nt ≤ 48 ∧ m.nc ≤ 800 ∧ (m.op = true → m.of ≤ m.nc) ∧ MS.ok_back (m.nc - m.opn) m.opn m ∧ MS.ok_redo (m.nc - m.opn) m.opn 0 (MS.d_back (m.nc - m.opn) m.opn m).d_keep
theorem mo_settle (m0 : MS) (h : m0.ok_settle) : mm_ l y_Mo_settle w_Mo_settle (rmh 3) [.ref 58] (W9 c m0 o) (qM c o (fun r m' => r = none ∧ m' = m0.d_settle)) := by
  obtain ⟨hn, hc, hof, hb, hrd⟩ := h
  refine mm_intro (by decide) (Nat.le_of_ble_eq_true rfl) i_Mo_settle (fun X ok E => ?_)
  have hopn : m0.opn ≤ m0.nc := by
    show (bif m0.op then _ else _) ≤ _
    cases m0.op
    · exact Nat.zero_le _
    · exact Nat.sub_le _ _
  obtain ⟨n, hn9⟩ : ∃ n, m0.opn = n := ⟨_, rfl⟩
  obtain ⟨fr, hfr⟩ : ∃ fr, m0.nc - n = fr := ⟨_, rfl⟩
  have hF : m0.d_settle = (((MS.d_redo fr n 0 (MS.d_back fr n m0).d_keep).u_nc n).u_of 0).u_us 0 := by
    unfold MS.d_settle
    rw [hn9, hfr]
  rw [hn9, hfr] at hb hrd
  have L3 : ∀ k i m, i + k = n → m.nc = m0.nc → m.nt ≤ 48 → MS.ok_redo fr k i m → MS.d_redo fr k i m = MS.d_redo fr n 0 (MS.d_back fr n m0).d_keep → gg X (W9 c m o) 0 0 132 [(0, .ref 58), (1, .int (nI n)), (2, .int (nI fr)), (3, .int (nI i))] [] := by
    intro k
    induction k with
    | zero =>
      intro i m h1 h2 h3 h4 h5
      refine k_Mo_settle_132 ok (fun z => have z := (nLe rfl rfl (by omega) (by omega) z); ?_) (fun z => have z := (nNle rfl rfl (by omega) (by omega) z); ?_)
      · refine k_Mo_settle_241 ok rW_58 (Nat.le_refl 59) (sF_Mo_7 rfl) (sO_Mo_7 rfl) (sF_Mo_11 (v := 0) (by decide)) (sO_Mo_11 rfl) (sF_Mo_9 (v := 0) (by decide)) (sO_Mo_9 rfl) E ⟨_, ⟨rfl, by rw [hF, ← h5]; rfl⟩, rfl⟩ (Nat.le_refl _) (Nat.le_refl _)
      · omega
    | succ k ih =>
      intro i m h1 h2 h3 h4 h5
      refine k_Mo_settle_132 ok (fun z => have z := (nLe rfl rfl (by omega) (by omega) z); ?_) (fun z => have z := (nNle rfl rfl (by omega) (by omega) z); ?_)
      · omega
      refine k_Mo_settle_137 ok E.nL ?_
      have c0 : (nI fr + nI i).toNatClampNeg = fr + i := nC (nA rfl rfl) (by omega)
      have c1 : (nI i).toNatClampNeg = i := nC rfl (by omega)
      have d0 : (3 * nI i).toNatClampNeg = 3 * i := nC (nM (nL 3) rfl) (by omega)
      have d1 : (3 * nI i + 1).toNatClampNeg = 3 * i + 1 := nC (nA (nM (nL 3) rfl) (nL 1)) (by omega)
      have d2 : (3 * nI i + 2).toNatClampNeg = 3 * i + 2 := nC (nA (nM (nL 3) rfl) (nL 2)) (by omega)
      have cp : ∀ r j, j + r = 3 → gg X (W9 c (m.u_ch (cp3 fr i j m.ch)) o) 0 0 140 [(0, .ref 58), (1, .int (nI n)), (2, .int (nI fr)), (3, .int (nI i)), (4, .int (nI j))] [] := by
        intro r
        induction r with
        | zero =>
          intro j hj
          obtain rfl : j = 3 := by omega
          refine k_Mo_settle_140 ok (fun z => have z := (nLe (nL 3) rfl (by omega) (by omega) z); ?_) (fun z => have z := (nNle (nL 3) rfl (by omega) (by omega) z); ?_)
          · have e7 : ∀ b : Bool, (upd (fun i => bI (m.pt i)) i (vp_nar .boolean (bI b))) i = bI b := fun b => by
              rw [upB]
              exact congrArg bI (if_pos rfl)
            refine k_Mo_settle_176 ok rW_58 rF_Mo_5 rW_62 (vin (nA rfl rfl) (by omega) (by decide)) (vin rfl (by omega) (by decide)) (sA_62 (upB _ _ _)) rF_Mo_6 rW_63 (by decide) (vin rfl (by omega) (by decide)) sA_63 (vin rfl (by omega) (by decide)) rF_Mo_4 rW_61 (by decide) (by decide) (vin (nM (nL 3) rfl) (by omega) (by decide)) (vin (nA (nM (nL 3) rfl) (nL 1)) (by omega) (by decide)) (vin (nA (nM (nL 3) rfl) (nL 2)) (by omega) (by decide)) (by rw [c0, c1, d0, d1, d2, e7]; exact mo_apply _ _ _ _ h4.1) (gF_h E.nR (by decide) (by decide)) (fun _ _ q => qM_len q) ?_
            rintro r M' ⟨m2, ⟨rfl, rfl⟩, rfl⟩
            refine k_Mo_settle_235 ok E.nL ?_
            rw [nI_1]
            refine ih (i + 1) _ (by omega) ?_ ?_ h4.2 h5
            · rw [app_nc]
              exact h2
            · exact app_nt _ _ _ _ _ h4.1
          · omega
        | succ r ih2 =>
          intro j hj
          refine k_Mo_settle_140 ok (fun z => have z := (nLe (nL 3) rfl (by omega) (by omega) z); ?_) (fun z => have z := (nNle (nL 3) rfl (by omega) (by omega) z); ?_)
          · omega
          have e0 : (3 * (nI fr + nI i) + nI j).toNatClampNeg = 3 * (fr + i) + j := nC (nA (nM (nL 3) (nA rfl rfl)) rfl) (by omega)
          have e1 : (3 * nI i + nI j).toNatClampNeg = 3 * i + j := nC (nA (nM (nL 3) rfl) rfl) (by omega)
          refine k_Mo_settle_146 ok E.nL rW_58 rF_Mo_4 rW_61 (vin (nA (nM (nL 3) (nA rfl rfl)) rfl) (by omega) (by decide)) (vin (nA (nM (nL 3) rfl) rfl) (by omega) (by decide)) sA_61 ?_
          rw [nI_1, e0, e1]
          exact ih2 (j + 1) (by omega)
      exact cp 3 0 rfl
  have hbn : (MS.d_back fr n m0).nt ≤ 48 := back_nt fr n m0 hn hb
  have hbc : (MS.d_back fr n m0).nc = m0.nc := (dback_of fr n m0).1
  have L2 : ∀ m, m = MS.d_back fr n m0 → gg X (W9 c m o) 0 0 92 [(0, .ref 58), (1, .int (nI n)), (2, .int (nI fr))] [] := by
    intro m hm
    rw [← hm] at hbn hbc hrd L3
    refine k_Mo_settle_92 ok E.nL ?_
    have cp : ∀ r i, i + r = 3 * m.nt → gg X (W9 c (m.u_kt (cpk m.kt m.tr i)) o) 0 0 94 [(0, .ref 58), (1, .int (nI n)), (2, .int (nI fr)), (3, .int (nI i))] [] := by
      intro r
      induction r with
      | zero =>
        intro i hi
        obtain rfl : i = 3 * m.nt := hi
        have e1 : (m.u_kt (cpk m.kt m.tr (3 * m.nt))).nt = m.nt := rfl
        refine k_Mo_settle_94 ok rW_58 rF_Mo_1 (fun z => have z := (nLe (nM (nL 3) rfl) rfl (by omega) (by omega) z); ?_) (fun z => have z := (nNle (nM (nL 3) rfl) rfl (by omega) (by omega) z); ?_)
        · refine k_Mo_settle_122 ok E.nL rW_58 rF_Mo_1 (Nat.le_refl 59) (sF_Mo_3 rfl) (sO_Mo_3 rfl) ?_
          exact L3 n 0 m.d_keep (by omega) hbc hbn hrd rfl
        · omega
      | succ r ih =>
        intro i hi
        have e1 : (m.u_kt (cpk m.kt m.tr i)).nt = m.nt := rfl
        have c1 : (nI i).toNatClampNeg = i := nC rfl (by omega)
        refine k_Mo_settle_94 ok rW_58 rF_Mo_1 (fun z => have z := (nLe (nM (nL 3) rfl) rfl (by omega) (by omega) z); ?_) (fun z => have z := (nNle (nM (nL 3) rfl) rfl (by omega) (by omega) z); ?_)
        · omega
        refine k_Mo_settle_104 ok E.nL rW_58 rF_Mo_2 rF_Mo_0 rW_59 (vin rfl (by omega) (by decide)) rW_60 (vin rfl (by omega) (by decide)) sA_60 ?_
        rw [nI_1, c1]
        exact ih (i + 1) (by omega)
    exact cp (3 * m.nt) 0 (by omega)
  have nx : ∀ (j : Nat), (nI fr + nI j) - 1 = nI (fr + j) - 1 := fun j => by rw [nI_add]
  have L1 : ∀ k m x, x = nI (fr + k) - 1 → k ≤ n → m.nc = m0.nc → m.nt ≤ 48 → MS.ok_back fr k m → MS.d_back fr k m = MS.d_back fr n m0 → gg X (W9 c m o) 0 0 35 [(0, .ref 58), (1, .int (nI n)), (2, .int (nI fr)), (3, .int x)] [] := by
    intro k
    induction k with
    | zero =>
      intro m x hx h1 h2 h3 h4 h5
      refine k_Mo_settle_35 ok (fun z => L2 m h5) (fun z => absurd ?_ z)
      rw [hx]
      exact nI_prelt fr (by omega)
    | succ k ih =>
      intro m x hx h1 h2 h3 h4 h5
      obtain rfl : x = nI (fr + k) := hx.trans (by rw [← Nat.add_assoc, nI_pred])
      have c1 : (nI (fr + k)).toNatClampNeg = fr + k := nC rfl (by omega)
      have d0 : (3 * nI (fr + k)).toNatClampNeg = 3 * (fr + k) := nC (nM (nL 3) rfl) (by omega)
      have d1 : (3 * nI (fr + k) + 1).toNatClampNeg = 3 * (fr + k) + 1 := nC (nA (nM (nL 3) rfl) (nL 1)) (by omega)
      have d2 : (3 * nI (fr + k) + 2).toNatClampNeg = 3 * (fr + k) + 2 := nC (nA (nM (nL 3) rfl) (nL 2)) (by omega)
      have go : ∀ b, b = (!m.pt (fr + k)) → gg X (W9 c m o) 0 0 55 [(0, .ref 58), (1, .int (nI n)), (2, .int (nI fr)), (3, .int (nI (fr + k)))] [.int (bI b), .ref 58] := by
        rintro b rfl
        refine k_Mo_settle_55 ok rW_58 rF_Mo_4 rW_61 (vin (nM (nL 3) rfl) (by omega) (by decide)) (vin (nA (nM (nL 3) rfl) (nL 1)) (by omega) (by decide)) (vin (nA (nM (nL 3) rfl) (nL 2)) (by omega) (by decide)) (by rw [d0, d1, d2]; exact mo_apply _ _ _ _ h4.1) (gF_h E.nR (by decide) (by decide)) (fun _ _ q => qM_len q) ?_
        rintro r M' ⟨m2, ⟨rfl, rfl⟩, rfl⟩
        refine k_Mo_settle_86 ok E.nL ?_
        exact ih _ _ (nI_m1 _) (by omega) (by rw [app_nc]; exact h2) (app_nt _ _ _ _ _ h4.1) h4.2 h5
      refine k_Mo_settle_35 ok (fun z => have z := (nLt rfl rfl (by omega) (by omega) z); ?_) (fun z => have z := (nNlt rfl rfl (by omega) (by omega) z); ?_)
      · omega
      refine k_Mo_settle_40 ok rW_58 rF_Mo_5 rW_62 (vin rfl (by omega) (by decide)) (fun z => ?_) (fun z => ?_)
      · rw [c1] at z
        refine k_Mo_settle_54 ok ?_
        exact go false (by rw [bI_1 z]; rfl)
      · rw [c1] at z
        refine k_Mo_settle_50 ok ?_
        exact go true (by rw [bI_0 z]; rfl)
  have st : gg X (W9 c m0 o) 0 0 20 [(0, .ref 58)] [.int (nI n)] := by
    refine k_Mo_settle_20 ok E.nL rW_58 rF_Mo_7 ?_
    refine cast (congrArg (fun y => gg X (W9 c m0 o) 0 0 35 [(0, .ref 58), (1, .int (nI n)), (2, .int y), (3, .int (nI m0.nc - 1))] []) ?_) (L1 n m0 (nI m0.nc - 1) (by rw [← hfr, Nat.sub_add_cancel (by omega)]) (Nat.le_refl _) rfl hn hb rfl)
    rw [← hfr]
    exact (nS rfl rfl (by omega)).symm
  refine k_Mo_settle_0 ok rW_58 rF_Mo_10 (fun z => have z := bI_0 z; ?_) (fun z => have z := bI_1 z; ?_)
  · have z : m0.op = false := z
    refine k_Mo_settle_19 ok ?_
    have e0 : n = 0 := by rw [← hn9]; show (bif m0.op then _ else _) = _; rw [z]; rfl
    rw [e0] at st
    exact st
  · have z : m0.op = true := z
    refine k_Mo_settle_7 ok rW_58 rF_Mo_7 rF_Mo_11 ?_
    have e0 : n = m0.nc - m0.of := by rw [← hn9]; show (bif m0.op then _ else _) = _; rw [z]; rfl
    rw [e0] at st
    exact cast (congrArg (fun y => gg X (W9 c m0 o) 0 0 20 [(0, .ref 58)] [.int y]) (nS rfl rfl (hof z)).symm) st
theorem mo_sync (h : (m.u_cd 0).ok_settle) : mm_ l y_Mo_sync w_Mo_sync (rmh 4) [.ref 58] (W9 c m o) (qM c o (fun r m' => r = some (.int (nI m.us)) ∧ m' = (m.u_cd 0).d_settle)) := by
  refine mm_intro (by decide) (Nat.le_of_ble_eq_true rfl) i_Mo_sync (fun X ok E => ?_)
  refine k_Mo_sync_0 ok E.nL rW_58 (Nat.le_refl 59) (sF_Mo_58 (v := 0) (by decide)) (sO_Mo_58 rfl) rF_Mo_9 (mo_settle (m.u_cd 0) h) (gF_h E.nR (by decide) (by decide)) (fun _ _ q => qM_len q) ?_
  rintro r M' ⟨m2, ⟨rfl, rfl⟩, rfl⟩
  refine k_Mo_sync_14 ok E ⟨_, ⟨rfl, rfl⟩, rfl⟩ (Nat.le_refl _) (Nat.le_refl _)
end RS3
