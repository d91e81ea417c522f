/-! THE REFERENCE: crash, append, count, cell -/
section RS4
variable {l : Launch} {c : CS} {m : MS} {o : Nat → Int64}
theorem rI_n {x a b : Int32} (h : rI x a b = true) : ¬ x < a ∧ ¬ b < x := by
  unfold rI at h
  split at h
  · cases h
  · split at h
    · cases h
    · exact ⟨by assumption, by assumption⟩
theorem rI_nat {x : Int32} {a b : Nat} (ha : a < 2 ^ 31) (hb : b < 2 ^ 31) (h : rI x (nI a) (nI b) = true) : ∃ j, a ≤ j ∧ j ≤ b ∧ x = nI j := by
  obtain ⟨h1, h2⟩ := rI_n h
  have h0 : ¬ x < 0 := fun q => h1 (Int32.lt_of_lt_of_le q (nI_pos' ha))
  obtain ⟨j, hj, rfl⟩ := nI_of h0
  exact ⟨j, nNlt rfl rfl hj ha h1, nNlt rfl rfl hb hj h2, rfl⟩
abbrev MS.d_load (m : MS) : MS := (m.u_tr (cpk m.tr m.kt (3 * m.nk))).u_nt m.nk
abbrev MS.d_p1 (m : MS) (kp i : Nat) : MS := if nI kp ≤ m.fo i then m else m.d_ap (m.pt i) i
def MS.d_play (kp : Nat) : Nat → Nat → MS → MS
  | 0, _, m => m
  | k + 1, i, m => MS.d_play kp k (i + 1) (m.d_p1 kp i)
def MS.ok_play (kp : Nat) : Nat → Nat → MS → Prop
  | 0, _, _ => True
  | k + 1, i, m => (¬ nI kp ≤ m.fo i → m.ok_ap (m.pt i) i) ∧ MS.ok_play kp k (i + 1) (m.d_p1 kp i)
theorem p1_nt (kp i : Nat) (m : MS) (hn : m.nt ≤ 48) (h : ¬ nI kp ≤ m.fo i → m.ok_ap (m.pt i) i) : (m.d_p1 kp i).nt ≤ 48 := by
  unfold MS.d_p1
  split
  · exact hn
  · exact app_nt _ _ _ _ _ (h (by assumption))
theorem play_nt (kp : Nat) : ∀ k i (m : MS), m.nt ≤ 48 → MS.ok_play kp k i m → (MS.d_play kp k i m).nt ≤ 48
  | 0, _, _, h, _ => h
  | k + 1, i, m, h, hk => play_nt kp k (i + 1) _ (p1_nt kp i m h hk.1) hk.2
abbrev MS.lst (m : MS) : Nat := bif m.op then m.of else m.nc
def MS.d_crash (m : MS) (kp : Nat) : MS := (((MS.d_play kp m.lst 0 (m.u_cd 0).d_load).u_op false).u_nc 0).d_settle
theorem mo_crash1 (m0 : MS) (kp : Nat) (hk : kp ≤ 1000) (hn : m0.nk ≤ 48) (hc : m0.nc ≤ 800) (hof : m0.op = true → m0.of ≤ m0.nc) (hok : MS.ok_play kp m0.lst 0 (m0.u_cd 0).d_load) : mm_ l y_Mo_crash w_Mo_crash (rmh 4) [.ref 58, .int (nI kp)] (W9 c m0 o) (qM c o (fun r m' => r = some (.int (nI (m0.d_crash kp).nt)) ∧ m' = m0.d_crash kp)) := by
  refine mm_intro (by decide) (Nat.le_of_ble_eq_true rfl) i_Mo_crash (fun X ok E => ?_)
  refine k_Mo_crash_0 ok (mo_in _ _ _) (gF_h E.nR (by decide) (by decide)) (fun _ _ q => qM_len q) ?_
  rintro r M' ⟨m, ⟨rfl, rfl⟩, rfl⟩
  have e0 : rI (nI kp) 0 1000 = true := by
    unfold rI
    have h9 : ¬ (1000 : Int32) < nI kp := nI_nlt (a := 1000) (b := kp) hk (by decide)
    rw [if_neg (nI_pos (by omega)), if_neg h9]
  rw [e0]
  refine k_Mo_crash_9 ok rW_58 (mo_goodT 1) (gF_h E.nR (by decide) (by decide)) (fun _ _ q => qM_len q) ?_
  rintro r M' ⟨m2, ⟨rfl, rfl⟩, rfl⟩
  refine k_Mo_crash_13 ok (fun _ => ?_) (fun z => absurd z (by decide))
  refine k_Mo_crash_18 ok E.nL ?_
  have e1 : (m.u_cd 0).d_load.nt = m.nk := rfl
  have hl : m.lst ≤ 800 := by
    show (bif m.op then _ else _) ≤ _
    cases z : m.op
    · exact hc
    · exact Nat.le_trans (hof z) hc
  have L2 : ∀ k i m1, i + k = m.lst → m1.nt ≤ 48 → MS.ok_play kp k i m1 → MS.d_play kp k i m1 = MS.d_play kp m.lst 0 (m.u_cd 0).d_load → gg X (W9 c m1 o) 0 0 77 [(0, .ref 58), (1, .int (nI kp)), (2, .int (nI m.lst)), (3, .int (nI i))] [] := by
    intro k
    induction k with
    | zero =>
      intro i m1 h1 h2 h3 h4
      refine k_Mo_crash_77 ok (fun z => have z := (nLe rfl rfl (by omega) (by omega) z); ?_) (fun z => have z := (nNle rfl rfl (by omega) (by omega) z); ?_)
      · have hs : ((m1.u_op false).u_nc 0).ok_settle := ⟨h2, Nat.zero_le _, fun z => (nomatch z), trivial, trivial⟩
        refine k_Mo_crash_136 ok rW_58 (Nat.le_refl 59) (sF_Mo_10 (v := false) rfl) (sO_Mo_10 rfl) (sF_Mo_7 (v := 0) (by decide)) (sO_Mo_7 rfl) (mo_settle _ hs) (gF_h E.nR (by decide) (by decide)) (fun _ _ q => qM_len q) ?_
        rintro r M' ⟨m2, ⟨rfl, rfl⟩, rfl⟩
        refine k_Mo_crash_150 ok rW_58 rF_Mo_1 E ⟨_, ⟨by unfold MS.d_crash; rw [← h4]; rfl, by unfold MS.d_crash; rw [← h4]; rfl⟩, rfl⟩ (Nat.le_refl _) (Nat.le_refl _)
      · omega
    | succ k ih =>
      intro i m1 h1 h2 h3 h4
      have c1 : (nI i).toNatClampNeg = i := nC rfl (by omega)
      have d0 : (3 * nI i).toNatClampNeg = 3 * i := nC (nM (nL 3) rfl) (by omega)
      have d1 : (3 * nI i + 1).toNatClampNeg = 3 * i + 1 := nC (nA (nM (nL 3) rfl) (nL 1)) (by omega)
      have d2 : (3 * nI i + 2).toNatClampNeg = 3 * i + 2 := nC (nA (nM (nL 3) rfl) (nL 2)) (by omega)
      have nx : ∀ m2, m2 = m1.d_p1 kp i → gg X (W9 c m2 o) 0 0 130 [(0, .ref 58), (1, .int (nI kp)), (2, .int (nI m.lst)), (3, .int (nI i))] [] := by
        rintro m2 rfl
        refine k_Mo_crash_130 ok E.nL ?_
        rw [nI_1]
        exact ih (i + 1) _ (by omega) (p1_nt kp i m1 h2 h3.1) h3.2 h4
      refine k_Mo_crash_77 ok (fun z => have z := (nLe rfl rfl (by omega) (by omega) z); ?_) (fun z => have z := (nNle rfl rfl (by omega) (by omega) z); ?_)
      · omega
      refine k_Mo_crash_82 ok rW_58 rF_Mo_6 rW_63 (vin rfl (by omega) (by decide)) (fun z => ?_) (fun z => ?_)
      · rw [c1] at z
        exact nx m1 (by unfold MS.d_p1; rw [if_pos z])
      · rw [c1] at z
        refine k_Mo_crash_92 ok rW_58 rF_Mo_5 rW_62 (vin rfl (by omega) (by decide)) rF_Mo_4 rW_61 (vin (nM (nL 3) rfl) (by omega) (by decide)) (vin (nA (nM (nL 3) rfl) (nL 1)) (by omega) (by decide)) (vin (nA (nM (nL 3) rfl) (nL 2)) (by omega) (by decide)) (by rw [c1, d0, d1, d2]; exact mo_apply _ _ _ _ (h3.1 z)) (gF_h E.nR (by decide) (by decide)) (fun _ _ q => qM_len q) ?_
        rintro r M' ⟨m2, ⟨rfl, rfl⟩, rfl⟩
        exact nx _ (by unfold MS.d_p1; rw [if_neg z])
  have cp : ∀ r i, i + r = 3 * m.nk → gg X (W9 c ((m.u_cd 0).u_tr (cpk m.tr m.kt i)) o) 0 0 20 [(0, .ref 58), (1, .int (nI kp)), (2, .int (nI i))] [] := by
    intro r
    induction r with
    | zero =>
      intro i hi
      obtain rfl : i = 3 * m.nk := hi
      have e2 : ((m.u_cd 0).u_tr (cpk m.tr m.kt (3 * m.nk))).nk = m.nk := rfl
      refine k_Mo_crash_20 ok rW_58 rF_Mo_3 (fun z => have z := (nLe (nM (nL 3) rfl) rfl (by omega) (by omega) z); ?_) (fun z => have z := (nNle (nM (nL 3) rfl) rfl (by omega) (by omega) z); ?_)
      · have go : gg X (W9 c (m.u_cd 0).d_load o) 0 0 74 [(0, .ref 58), (1, .int (nI kp))] [.int (nI m.lst)] := by
          refine k_Mo_crash_74 ok E.nL ?_
          exact L2 m.lst 0 _ (by omega) hn hok rfl
        refine k_Mo_crash_48 ok rW_58 rF_Mo_3 (Nat.le_refl 59) (sF_Mo_1 rfl) (sO_Mo_1 rfl) rF_Mo_10 (fun z => have z := bI_0 z; ?_) (fun z => have z := bI_1 z; ?_)
        · have z : m.op = false := z
          refine k_Mo_crash_70 ok rW_58 rF_Mo_7 ?_
          have e3 : m.lst = m.nc := by show (bif m.op then _ else _) = _; rw [z]; rfl
          rw [e3] at go
          exact go
        · have z : m.op = true := z
          refine k_Mo_crash_63 ok rW_58 rF_Mo_11 ?_
          have e3 : m.lst = m.of := by show (bif m.op then _ else _) = _; rw [z]; rfl
          rw [e3] at go
          exact go
      · omega
    | succ r ih =>
      intro i hi
      have e2 : ((m.u_cd 0).u_tr (cpk m.tr m.kt i)).nk = m.nk := rfl
      have c1 : (nI i).toNatClampNeg = i := nC rfl (by omega)
      refine k_Mo_crash_20 ok rW_58 rF_Mo_3 (fun z => have z := (nLe (nM (nL 3) rfl) rfl (by omega) (by omega) z); ?_) (fun z => have z := (nNle (nM (nL 3) rfl) rfl (by omega) (by omega) z); ?_)
      · omega
      refine k_Mo_crash_30 ok E.nL rW_58 rF_Mo_0 rF_Mo_2 rW_60 (vin rfl (by omega) (by decide)) rW_59 (vin rfl (by omega) (by decide)) sA_59 ?_
      rw [nI_1, c1]
      exact ih (i + 1) (by omega)
  exact cp (3 * m.nk) 0 (by omega)
theorem mo_crash0 (x : Int32) (hx : rI x 0 1000 = false) : mm_ l y_Mo_crash w_Mo_crash (rmh 4) [.ref 58, .int x] (W9 c m o) (qM c o (fun r m' => r = some (.int 0) ∧ m' = m.u_cd 1)) := by
  refine mm_intro (by decide) (Nat.le_of_ble_eq_true rfl) i_Mo_crash (fun X ok E => ?_)
  refine k_Mo_crash_0 ok (mo_in _ _ _) (gF_h E.nR (by decide) (by decide)) (fun _ _ q => qM_len q) ?_
  rintro r M' ⟨m, ⟨rfl, rfl⟩, rfl⟩
  rw [hx]
  refine k_Mo_crash_9 ok rW_58 (mo_goodF 1) (gF_h E.nR (by decide) (by decide)) (fun _ _ q => qM_len q) ?_
  rintro r M' ⟨m2, ⟨rfl, rfl⟩, rfl⟩
  refine k_Mo_crash_13 ok (fun z => absurd rfl z) (fun _ => ?_)
  refine k_Mo_crash_16 ok E ⟨_, ⟨rfl, rfl⟩, rfl⟩ (Nat.le_refl _) (Nat.le_refl _)
/-! append -/
def apC (v : Int64) : Nat → Nat → Bool
  | 0, _ => true
  | k + 1, i => if rI (rC v i) 32 126 = true then apC v k (i + 1) else false
def MS.d_tx (v : Int64) : Nat → MS → MS
  | 0, m => m
  | k + 1, m => MS.d_tx v k ((m.u_tx (upd m.tx m.ln (rC v k))).u_ln (m.ln + 1))
theorem tx_ln (v : Int64) : ∀ k (m : MS), (MS.d_tx v k m).ln = m.ln + k
  | 0, m => rfl
  | k + 1, m => by
    rw [MS.d_tx, tx_ln v k]
    show m.ln + 1 + k = _
    omega
def MS.d_append (m : MS) (v : Int64) (x : Int32) : Nat × MS :=
  if rI x 1 8 = true then if apC v x.toNatClampNeg 0 = true then if m.ln + x.toNatClampNeg ≤ 160 then (m.ln + x.toNatClampNeg, MS.d_tx v x.toNatClampNeg (m.u_cd 0)) else (0, m.u_cd 2) else (0, m.u_cd 1) else (0, m.u_cd 1)
theorem mo_append (v : Int64) (x : Int32) (hn : m.ln ≤ 160) : mm_ l y_Mo_append w_Mo_append (rmh 2) [.ref 58, .long v, .int x] (W9 c m o) (qM c o (fun r m' => r = some (.int (nI (m.d_append v x).1)) ∧ m' = (m.d_append v x).2)) := by
  refine mm_intro (by decide) (Nat.le_of_ble_eq_true rfl) i_Mo_append (fun X ok E => ?_)
  refine k_Mo_append_0 ok (mo_in _ _ _) (gF_h E.nR (by decide) (by decide)) (fun _ _ q => qM_len q) ?_
  rintro r M' ⟨m, ⟨rfl, rfl⟩, rfl⟩
  cases hx : rI x 1 8
  · refine k_Mo_append_8 ok rW_58 (mo_goodF 1) (gF_h E.nR (by decide) (by decide)) (fun _ _ q => qM_len q) ?_
    rintro r M' ⟨m2, ⟨rfl, rfl⟩, rfl⟩
    refine k_Mo_append_12 ok (fun z => absurd rfl z) (fun _ => ?_)
    refine k_Mo_append_15 ok E ⟨_, ⟨by rw [MS.d_append, hx]; rfl, by rw [MS.d_append, hx]; rfl⟩, rfl⟩ (Nat.le_refl _) (Nat.le_refl _)
  obtain ⟨j, h1, h2, rfl⟩ := rI_nat (a := 1) (b := 8) (by decide) (by decide) hx
  have hj : (nI j).toNatClampNeg = j := nC rfl (by omega)
  refine k_Mo_append_8 ok rW_58 (mo_goodT 1) (gF_h E.nR (by decide) (by decide)) (fun _ _ q => qM_len q) ?_
  rintro r M' ⟨m2, ⟨rfl, rfl⟩, rfl⟩
  refine k_Mo_append_12 ok (fun _ => ?_) (fun z => absurd z (by decide))
  refine k_Mo_append_17 ok E.nL ?_
  have L2 : ∀ k m1 y, y = nI k - 1 → k ≤ 8 → m1.ln + k ≤ 160 → MS.d_tx v k m1 = MS.d_tx v j (m.u_cd 0) → apC v j 0 = true → m.ln + j ≤ 160 → gg X (W9 c m1 o) 0 0 93 [(0, .ref 58), (1, .long v), (4, .int y)] [] := by
    intro k
    induction k with
    | zero =>
      rintro m1 y rfl h3 h4 h5 h6 h7
      refine k_Mo_append_93 ok (fun _ => ?_) (fun z => absurd (by decide) z)
      have e1 : m1.ln = m.ln + j := by
        have e2 := tx_ln v j (m.u_cd 0)
        rw [← h5] at e2
        exact e2
      have e5 : (m.d_append v (nI j)) = (m.ln + j, MS.d_tx v j (m.u_cd 0)) := by
        rw [MS.d_append, if_pos hx, hj, if_pos h6, if_pos h7]
      refine k_Mo_append_135 ok rW_58 rF_Mo_13 E ⟨_, ⟨by rw [e5, e1], by rw [e5]; exact h5⟩, rfl⟩ (Nat.le_refl _) (Nat.le_refl _)
    | succ k ih =>
      rintro m1 y rfl h3 h4 h5 h6 h7
      rw [nI_pred]
      refine k_Mo_append_93 ok (fun z => absurd z (nI_pos (by omega))) (fun _ => ?_)
      have c1 : (nI m1.ln).toNatClampNeg = m1.ln := nC rfl (by omega)
      refine k_Mo_append_98 ok E.nL rW_58 rF_Mo_12 rF_Mo_13 rW_64 (vin rfl (by omega) (by decide)) sA_64 (Nat.le_refl 59) (sF_Mo_13 (nA rfl (nL 1))) (sO_Mo_13 rfl) ?_
      rw [c1]
      exact ih _ _ (nI_m1 _) (by omega) (by show m1.ln + 1 + k ≤ 160; omega) h5 h6 h7
  have L1 : ∀ k i, i + k = j → apC v k i = apC v j 0 → gg X (W9 c (m.u_cd 0) o) 0 0 20 [(0, .ref 58), (1, .long v), (3, .int (nI j)), (4, .int (nI i))] [] := by
    intro k
    induction k with
    | zero =>
      intro i h3 h4
      have e1 : (m.u_cd 0).ln = m.ln := rfl
      refine k_Mo_append_20 ok (fun z => have z := (nLe rfl rfl (by omega) (by omega) z); ?_) (fun z => have z := (nNle rfl rfl (by omega) (by omega) z); ?_)
      · refine k_Mo_append_61 ok rW_58 rF_Mo_13 (fun z => have z := (nLt (nL 160) (nA rfl rfl) (by omega) (by omega) z); ?_) (fun z => have z := (nNlt (nL 160) (nA rfl rfl) (by omega) (by omega) z); ?_)
        · refine k_Mo_append_78 ok ?_
          refine k_Mo_append_79 ok rW_58 (mo_goodF 2) (gF_h E.nR (by decide) (by decide)) (fun _ _ q => qM_len q) ?_
          rintro r M' ⟨m2, ⟨rfl, rfl⟩, rfl⟩
          refine k_Mo_append_83 ok (fun z => absurd rfl z) (fun _ => ?_)
          have e5 : (m.d_append v (nI j)) = (0, m.u_cd 2) := by
            rw [MS.d_append, if_pos hx, hj, if_pos (show apC v j 0 = true from h4.symm), if_neg (by omega)]
          refine k_Mo_append_86 ok E ⟨_, ⟨by rw [e5]; rfl, by rw [e5]⟩, rfl⟩ (Nat.le_refl _) (Nat.le_refl _)
        · refine k_Mo_append_74 ok ?_
          refine k_Mo_append_79 ok rW_58 (mo_goodT 2) (gF_h E.nR (by decide) (by decide)) (fun _ _ q => qM_len q) ?_
          rintro r M' ⟨m2, ⟨rfl, rfl⟩, rfl⟩
          refine k_Mo_append_83 ok (fun _ => ?_) (fun z => absurd z (by decide))
          refine k_Mo_append_88 ok E.nL ?_
          exact L2 j (m.u_cd 0) _ rfl h2 (by omega) rfl h4.symm (by omega)
      · omega
    | succ k ih =>
      intro i h3 h4
      refine k_Mo_append_20 ok (fun z => have z := (nLe rfl rfl (by omega) (by omega) z); ?_) (fun z => have z := (nNle rfl rfl (by omega) (by omega) z); ?_)
      · omega
      refine k_Mo_append_26 ok (mo_in (rC v i) 32 126) (gF_h E.nR (by decide) (by decide)) (fun _ _ q => qM_len q) ?_
      rintro r M' ⟨m2, ⟨rfl, rfl⟩, rfl⟩
      cases hy : rI (rC v i) 32 126
      · refine k_Mo_append_46 ok rW_58 (mo_goodF 1) (gF_h E.nR (by decide) (by decide)) (fun _ _ q => qM_len q) ?_
        rintro r M' ⟨m2, ⟨rfl, rfl⟩, rfl⟩
        refine k_Mo_append_50 ok (fun z => absurd rfl z) (fun _ => ?_)
        have e6 : apC v j 0 = false := by
          rw [← h4, apC, hy]
          rfl
        have e5 : (m.d_append v (nI j)) = (0, m.u_cd 1) := by
          rw [MS.d_append, if_pos hx, hj, if_neg (by rw [e6]; decide)]
        refine k_Mo_append_53 ok E ⟨_, ⟨by rw [e5]; rfl, by rw [e5]⟩, rfl⟩ (Nat.le_refl _) (Nat.le_refl _)
      · refine k_Mo_append_46 ok rW_58 (mo_goodT 1) (gF_h E.nR (by decide) (by decide)) (fun _ _ q => qM_len q) ?_
        rintro r M' ⟨m2, ⟨rfl, rfl⟩, rfl⟩
        refine k_Mo_append_50 ok (fun _ => ?_) (fun z => absurd z (by decide))
        refine k_Mo_append_55 ok E.nL ?_
        rw [nI_1]
        exact ih (i + 1) (by omega) ((if_pos hy : apC v (k + 1) i = _).symm.trans h4)
  exact L1 j 0 (by omega) rfl
/-! count -/
def MS.cnt (m : MS) (x : Int32) : Nat := if 3 ≤ x then if x = 3 then m.cm else if x = 4 then m.us else if x = 5 then m.opn else m.ln else if x = 0 then m.nt else if x = 1 then m.nl else m.nr
def MS.d_count (m : MS) (x : Int32) : Nat × MS := if rI x 0 6 = true then (m.cnt x, m.u_cd 0) else (0, m.u_cd 1)
theorem mo_count (x : Int32) (hof : m.op = true → m.of ≤ m.nc) : mm_ l y_Mo_count w_Mo_count (rmh 2) [.ref 58, .int x] (W9 c m o) (qM c o (fun r m' => r = some (.int (nI (m.d_count x).1)) ∧ m' = (m.d_count x).2)) := by
  refine mm_intro (by decide) (Nat.le_of_ble_eq_true rfl) i_Mo_count (fun X ok E => ?_)
  refine k_Mo_count_0 ok (mo_in _ _ _) (gF_h E.nR (by decide) (by decide)) (fun _ _ q => qM_len q) ?_
  rintro r M' ⟨m, ⟨rfl, rfl⟩, rfl⟩
  cases hx : rI x 0 6
  · refine k_Mo_count_8 ok rW_58 (mo_goodF 1) (gF_h E.nR (by decide) (by decide)) (fun _ _ q => qM_len q) ?_
    rintro r M' ⟨m2, ⟨rfl, rfl⟩, rfl⟩
    refine k_Mo_count_12 ok (fun z => absurd rfl z) (fun _ => ?_)
    refine k_Mo_count_15 ok E ⟨_, ⟨by rw [MS.d_count, hx]; rfl, by rw [MS.d_count, hx]; rfl⟩, rfl⟩ (Nat.le_refl _) (Nat.le_refl _)
  refine k_Mo_count_8 ok rW_58 (mo_goodT 1) (gF_h E.nR (by decide) (by decide)) (fun _ _ q => qM_len q) ?_
  rintro r M' ⟨m2, ⟨rfl, rfl⟩, rfl⟩
  refine k_Mo_count_12 ok (fun _ => ?_) (fun z => absurd z (by decide))
  have e5 : m.d_count x = (m.cnt x, m.u_cd 0) := by rw [MS.d_count, if_pos hx]
  refine k_Mo_count_17 ok (fun z => ?_) (fun z => ?_)
  · refine k_Mo_count_50 ok (fun z => ?_) (fun z => ?_)
    · refine k_Mo_count_62 ok (fun z => ?_) (fun z => ?_)
      · refine k_Mo_count_74 ok (fun z => ?_) (fun z => ?_)
        · refine k_Mo_count_102 ok rW_58 rF_Mo_13 ?_
          refine k_Mo_count_106 ok E ⟨_, ⟨by rw [e5]; unfold MS.cnt; simp only [*, if_true, if_false], by rw [e5]⟩, rfl⟩ (Nat.le_refl _) (Nat.le_refl _)
        · refine k_Mo_count_79 ok rW_58 rF_Mo_10 (fun z => have z := bI_0 z; ?_) (fun z => have z := bI_1 z; ?_)
          · have z : m.op = false := z
            refine k_Mo_count_98 ok ?_
            refine k_Mo_count_106 ok E ⟨_, ⟨?_, by rw [e5]⟩, rfl⟩ (Nat.le_refl _) (Nat.le_refl _)
            rw [e5]
            unfold MS.cnt MS.opn
            simp only [*, if_true, if_false]
            rfl
          · have z : m.op = true := z
            refine k_Mo_count_86 ok rW_58 rF_Mo_7 rF_Mo_11 ?_
            refine k_Mo_count_106 ok E ⟨_, ⟨?_, by rw [e5]⟩, rfl⟩ (Nat.le_refl _) (Nat.le_refl _)
            rw [e5]
            unfold MS.cnt MS.opn
            simp only [*, if_true, if_false]
            exact congrArg (fun v => some (Value.int v)) (nS rfl rfl (hof z))
      · refine k_Mo_count_67 ok rW_58 rF_Mo_9 ?_
        refine k_Mo_count_106 ok E ⟨_, ⟨by rw [e5, z]; rfl, by rw [e5]⟩, rfl⟩ (Nat.le_refl _) (Nat.le_refl _)
    · refine k_Mo_count_55 ok rW_58 rF_Mo_8 ?_
      refine k_Mo_count_106 ok E ⟨_, ⟨by rw [e5, z]; rfl, by rw [e5]⟩, rfl⟩ (Nat.le_refl _) (Nat.le_refl _)
  · refine k_Mo_count_22 ok (fun z => ?_) (fun z => ?_)
    · refine k_Mo_count_33 ok (fun z => ?_) (fun z => ?_)
      · refine k_Mo_count_45 ok rW_58 rF_Mo_55 ?_
        refine k_Mo_count_49 ok E ⟨_, ⟨by rw [e5]; unfold MS.cnt; simp only [*, if_true, if_false], by rw [e5]⟩, rfl⟩ (Nat.le_refl _) (Nat.le_refl _)
      · refine k_Mo_count_38 ok rW_58 rF_Mo_57 ?_
        refine k_Mo_count_49 ok E ⟨_, ⟨by rw [e5, z]; rfl, by rw [e5]⟩, rfl⟩ (Nat.le_refl _) (Nat.le_refl _)
    · refine k_Mo_count_26 ok rW_58 rF_Mo_1 ?_
      refine k_Mo_count_49 ok E ⟨_, ⟨by rw [e5, z]; rfl, by rw [e5]⟩, rfl⟩ (Nat.le_refl _) (Nat.le_refl _)
/-! cell -/
abbrev MS.bit (m : MS) (i : Nat) (v : Int32) : Int32 := ((m.rg i) >>> (v &&& 31)) &&& 1
theorem mo_cell0 (x y : Int32) (h : rI x 0 (nI m.nr - 1) = false ∨ rI y 0 (nI m.nl - 1) = false) : mm_ l y_Mo_cell w_Mo_cell (rmh 2) [.ref 58, .int x, .int y] (W9 c m o) (qM c o (fun r m' => r = some (.long 0) ∧ m' = m.u_cd 1)) := by
  refine mm_intro (by decide) (Nat.le_of_ble_eq_true rfl) i_Mo_cell (fun X ok E => ?_)
  have no : gg X (W9 c m o) 0 0 33 [(0, .ref 58), (1, .int x), (2, .int y)] [.ref 58] := by
    refine k_Mo_cell_33 ok ?_
    refine k_Mo_cell_34 ok rW_58 (mo_goodF 1) (gF_h E.nR (by decide) (by decide)) (fun _ _ q => qM_len q) ?_
    rintro r M' ⟨m2, ⟨rfl, rfl⟩, rfl⟩
    refine k_Mo_cell_38 ok (fun z => absurd rfl z) (fun _ => ?_)
    refine k_Mo_cell_41 ok E ⟨_, ⟨rfl, rfl⟩, rfl⟩ (Nat.le_refl _) (Nat.le_refl _)
  refine k_Mo_cell_0 ok rW_58 rF_Mo_55 (mo_in _ _ _) (gF_h E.nR (by decide) (by decide)) (fun _ _ q => qM_len q) ?_
  rintro r M' ⟨m, ⟨rfl, rfl⟩, rfl⟩
  refine k_Mo_cell_12 ok (fun z => have z := bI_0 z; ?_) (fun z => have z := bI_1 z; ?_)
  · exact no
  rcases h with h | h
  · rw [h] at z
    cases z
  refine k_Mo_cell_15 ok rW_58 rF_Mo_57 (mo_in _ _ _) (gF_h E.nR (by decide) (by decide)) (fun _ _ q => qM_len q) ?_
  rintro r M' ⟨m, ⟨rfl, rfl⟩, rfl⟩
  rw [h]
  refine k_Mo_cell_26 ok (fun _ => no) (fun z => absurd rfl z)
/-- cell of a place that is there: a term, or none -/
theorem mo_cell1 (i j v : Nat) (hr : m.nr ≤ 150) (hl : m.nl ≤ 6) (hi : i < m.nr) (hj : j < m.nl) (hv : m.co j = nI v) (hv6 : v < 6) (hx : rI (nI i) 0 (nI m.nr - 1) = true) (hy : rI (nI j) 0 (nI m.nl - 1) = true) : mm_ l y_Mo_cell w_Mo_cell (rmh 2) [.ref 58, .int (nI i), .int (nI j)] (W9 c m o) (qM c o (fun r m' => if m.bit i (nI v) = 1 then r = some (.long (m.ro (6 * i + v))) ∧ m' = m.u_cd 0 else r = some (.long 0) ∧ m' = m.u_cd 2)) := by
  refine mm_intro (by decide) (Nat.le_of_ble_eq_true rfl) i_Mo_cell (fun X ok E => ?_)
  have d0 : (nI i).toNatClampNeg = i := nC rfl (by omega)
  have d1 : (nI j).toNatClampNeg = j := nC rfl (by omega)
  have d2 : (6 * nI i + nI v).toNatClampNeg = 6 * i + v := nC (nA (nM (nL 6) rfl) rfl) (by omega)
  refine k_Mo_cell_0 ok rW_58 rF_Mo_55 (mo_in _ _ _) (gF_h E.nR (by decide) (by decide)) (fun _ _ q => qM_len q) ?_
  rintro r M' ⟨m, ⟨rfl, rfl⟩, rfl⟩
  rw [hx]
  refine k_Mo_cell_12 ok (fun z => absurd z (by decide)) (fun _ => ?_)
  refine k_Mo_cell_15 ok rW_58 rF_Mo_57 (mo_in _ _ _) (gF_h E.nR (by decide) (by decide)) (fun _ _ q => qM_len q) ?_
  rintro r M' ⟨m, ⟨rfl, rfl⟩, rfl⟩
  rw [hy]
  refine k_Mo_cell_26 ok (fun z => absurd z (by decide)) (fun _ => ?_)
  refine k_Mo_cell_29 ok ?_
  refine k_Mo_cell_34 ok rW_58 (mo_goodT 1) (gF_h E.nR (by decide) (by decide)) (fun _ _ q => qM_len q) ?_
  rintro r M' ⟨m2, ⟨rfl, rfl⟩, rfl⟩
  refine k_Mo_cell_38 ok (fun _ => ?_) (fun z => absurd z (by decide))
  have e1 : (m.u_cd 0).nl = m.nl := rfl
  have e2 : (m.u_cd 0).nr = m.nr := rfl
  refine k_Mo_cell_43 ok E.nL rW_58 rF_Mo_56 rW_83 (vin rfl (by omega) (by decide)) rF_Mo_53 rW_81 (vin rfl (by omega) (by decide)) (fun z => ?_) (fun z => ?_)
  · rw [d0, d1] at z
    have z : ¬ m.bit i (nI v) = 1 := by rw [← hv]; exact z
    rw [d1]
    refine k_Mo_cell_69 ok ?_
    refine k_Mo_cell_70 ok rW_58 (mo_goodF 2) (gF_h E.nR (by decide) (by decide)) (fun _ _ q => qM_len q) ?_
    rintro r M' ⟨m2, ⟨rfl, rfl⟩, rfl⟩
    refine k_Mo_cell_74 ok (fun _ => ?_) (fun z => absurd rfl z)
    refine k_Mo_cell_91 ok ?_
    refine k_Mo_cell_92 ok E ⟨_, by show (if m.bit i (nI v) = 1 then _ else _); rw [if_neg z]; exact ⟨rfl, rfl⟩, rfl⟩ (Nat.le_refl _) (Nat.le_refl _)
  · rw [d0, d1] at z
    have z : m.bit i (nI v) = 1 := by rw [← hv]; exact z
    have e3 : (m.u_cd 0).co j = nI v := hv
    rw [d1, e3]
    refine k_Mo_cell_65 ok ?_
    refine k_Mo_cell_70 ok rW_58 (mo_goodT 2) (gF_h E.nR (by decide) (by decide)) (fun _ _ q => qM_len q) ?_
    rintro r M' ⟨m2, ⟨rfl, rfl⟩, rfl⟩
    refine k_Mo_cell_74 ok (fun z => absurd z (by decide)) (fun _ => ?_)
    refine k_Mo_cell_77 ok rW_58 rF_Mo_52 rW_80 (vin (nA (nM (nL 6) rfl) rfl) (by omega) (by decide)) ?_
    rw [d2]
    refine k_Mo_cell_92 ok E ⟨_, by show (if m.bit i (nI v) = 1 then _ else _); rw [if_pos z]; exact ⟨rfl, rfl⟩, rfl⟩ (Nat.le_refl _) (Nat.le_refl _)
end RS4
