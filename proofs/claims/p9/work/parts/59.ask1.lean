/-! THE CLASS: ask, on every text -/
section CAs
variable {l : Launch} {c : CS} {m : MS} {o : Nat → Int64}
/-- what the class keeps beside the store -/
def CI (c : CS) : Prop := (∀ i, i < 12 → c.qx i = some (22 + i)) ∧ SIc c ∧ c.rc ≤ 6 ∧ c.rn ≤ 150 ∧ c.ln ≤ 160
/-- what ask does, whichever way it ends: the store is as it was, the text is empty -/
def Ak (c c' : CS) : Prop := c'.1.1 = c.1.1 ∧ c'.ln = 0 ∧ CI c'
theorem si_of {c1 c2 : CS} (h : c2.2.2.1 = c1.2.2.1) (q : SIc c1) : SIc c2 := (congrArg (fun g : CS4 => SIc (c1.1, (c1.2.1, (g, c1.2.2.2)))) h).mpr q
theorem rc_of {c1 c2 : CS} (h : c2.2.2.2 = c1.2.2.2) : c2.rc = c1.rc := congrArg (fun g : CS5 => CS.rc (c1.1, (c1.2.1, (c1.2.2.1, g)))) h
theorem rn_of {c1 c2 : CS} (h : c2.2.2.2 = c1.2.2.2) : c2.rn = c1.rn := congrArg (fun g : CS5 => CS.rn (c1.1, (c1.2.1, (c1.2.2.1, g)))) h
theorem ln_of {c1 c2 : CS} (h : c2.1.2.1 = c1.1.2.1) : c2.ln = c1.ln := congrArg (fun g : CS1 => CS.ln ((c1.1.1, (g, c1.1.2.2)), c1.2)) h
theorem tn_of {c1 c2 : CS} (h : c2.1.1 = c1.1.1) : c2.tn = c1.tn := congrArg (fun g : CS0 => CS.tn ((g, c1.1.2), c1.2)) h
theorem qx_of {c1 c2 : CS} (h : c2.2.1 = c1.2.1) : c2.qx = c1.qx := congrArg (fun g : CS3 => CS.qx (c1.1, (g, c1.2.2))) h
theorem ts_ask (htr : l.stackTraces = false) (h : CI c) (h48 : c.tn ≤ 48) : mb_ l y_TS_ask w_TS_ask (rmc 18 1 6) [.ref 0] (W9 c m o) (qC m o (fun r c' => (∃ v, r = some (.int v)) ∧ Ak c c')) IAE (fun M' => ∃ c', Ak c c' ∧ M' = W9 c' m o) ISE (fun M' => ∃ c', Ak c c' ∧ M' = W9 c' m o) := by
  obtain ⟨h1, h2, h3, h4, h5⟩ := id h
  refine mb_intro (by decide) (Nat.le_of_ble_eq_true rfl) (fun X ok E xR x1 x2 => ?_)
  refine k_TS_ask_0 ok rW_0 rF_TS_2 rF_TS_1 rF_TS_7 rW_13 (to_readAll c.ln h5) (gF_c E.nR (by decide) (by decide) (by decide) (by decide)) (fun _ _ q => qC_len q) ?_
  rintro r M' ⟨c2, ⟨rfl, q1, q2, q3⟩, rfl⟩
  have hx2 : ∀ i, i < 12 → c2.qx i = some (22 + i) := fun i hi => by
    rw [qx_of (c1 := c) (by rw [q1.2.2])]
    exact h1 i hi
  refine k_TS_ask_15 ok rW_0 (Nat.le_refl 9) (sF_TS_7 (v := 0) (by decide)) (sO_TS_7 rfl) rF_TS_4 rW_34 (by decide) (pa_readQuery (by exact q2) (by exact hx2)) (gF_c E.nR (by decide) (by decide) (by decide) (by decide)) (fun _ _ q => qC_len q) ?_
  rintro r M' ⟨c3, ⟨b, rfl, q4⟩, rfl⟩
  have a0 : c3.1.1 = c.1.1 := q4.1.1.trans q1.1
  have a1 : c3.ln = 0 := ln_of (c1 := c2.u_ln 0) q4.1.2.1
  have a2 : c3.2.2 = c.2.2 := q4.1.2.2.trans (by show c2.2.2 = c.2.2; rw [q1.2.2])
  have a3 : SIc c3 := si_of (c1 := c) (by rw [a2]) h2
  have a4 : c3.rc = c.rc := rc_of (by rw [a2])
  have a5 : c3.rn = c.rn := rn_of (by rw [a2])
  have a6 : QIc c3 := q4.2
  refine k_TS_ask_27 ok E.nL (fun z => have z := bI_0 z; ?_) (fun z => have z := bI_1 z; ?_)
  · subst z
    refine k_TS_ask_37 ok rW_0 rF_TS_2 rW_13 (to_place a6.1) (gF_c E.nR (by decide) (by decide) (by decide) (by decide)) (fun _ _ q => qC_len q) ?_
    rintro r M' ⟨c3, ⟨rfl, rfl⟩, rfl⟩
    refine k_TS_ask_44 ok rW_0 (Nat.le_refl 9) sF_TS_8 (sO_TS_8 rfl) (fun z => absurd rfl z) (fun _ => ?_)
    refine x1 _ _ _ _ _ _ (fun X ok E => ?_)
    refine k_TS_ask_51 ok E htr (by decide) (by decide) (by decide) (by decide) rfl ⟨_, by exact ⟨a0, a1, a6.2.2.2.2.2, a3, (by omega : c3.rc ≤ 6), (by omega : c3.rn ≤ 150), (by omega : c3.ln ≤ 160)⟩, rfl⟩
  · subst z
    refine k_TS_ask_33 ok ?_
    refine k_TS_ask_44 ok rW_0 (Nat.le_refl 9) sF_TS_8 (sO_TS_8 rfl) (fun _ => ?_) (fun z => absurd z (by decide))
    refine k_TS_ask_61 ok rW_0 rF_TS_6 rF_TS_3 rW_17 rF_Qu_3 rW_55 (ro_clear c3.qc (by exact a6.2.2.1)) (gF_c E.nR (by decide) (by decide) (by decide) (by decide)) (fun _ _ q => qC_len q) ?_
    rintro r M' ⟨c4, ⟨rfl, rfl⟩, rfl⟩
    have hq4 : QE (((c3.u_fa (-1)).u_rc c3.qc).u_rn 0) := ⟨a6.2.2.2.1, a6.2.2.2.2.1, a6.2.2.2.2.2⟩
    have ht4 : c3.tn ≤ 48 := by rw [tn_of a0]; exact h48
    refine k_TS_ask_75 ok rW_0 rF_TS_5 rW_35 (sv_solveGroup_0 (by exact a3) hq4 (by exact ht4) _) (gF_c E.nR (by decide) (by decide) (by decide) (by decide)) (fun _ _ q => qC_len q) ?_
    rintro r M' ⟨c5, ⟨b5, rfl, q5⟩, rfl⟩
    have b0 : c5.1.1 = c.1.1 := by rw [q5.1]; exact a0
    have b1 : c5.ln = 0 := (congrArg (fun z : CS0 × (CS1 × CS2) => CS.ln (z, c5.2)) q5.1).trans a1
    have b2 : c5.rc = c3.qc := rc_of q5.2.2.1
    have b3 : c5.rn = 0 := rn_of q5.2.2.1
    have b4 := q5.2.2.2.1
    have b6 : ∀ i, i < 12 → c5.qx i = some (22 + i) := fun i hi => by
      rw [qx_of q5.2.1]
      exact a6.2.2.2.2.2 i hi
    have b7 := a6.2.2.1
    refine k_TS_ask_84 ok (fun z => ?_) (fun z => ?_)
    · obtain ⟨a, a9, hf, -, hab⟩ := b4.2 0 (by decide)
      refine k_TS_ask_97 ok rW_0 rF_TS_6 rF_TS_3 rF_TS_5 rW_35 (sv_solutions hf) (gF_c E.nR (by decide) (by decide) (by decide) (by decide)) (fun _ _ q => qC_len q) ?_
      rintro r M' ⟨c5, ⟨rfl, rfl⟩, rfl⟩
      refine k_TS_ask_112 ok rW_55 (ro_fill (a := a) (by omega) b4.1 (by omega) b3) (gF_c E.nR (by decide) (by decide) (by decide) (by decide)) (fun _ _ q => qC_len q) ?_
      rintro r M' ⟨c6, ⟨rfl, q6, q7⟩, rfl⟩
      refine k_TS_ask_115 ok rW_0 rF_TS_6 rW_55 ro_size (gF_c E.nR (by decide) (by decide) (by decide) (by decide)) (fun _ _ q => qC_len q) ?_
      rintro r M' ⟨c6, ⟨rfl, rfl⟩, rfl⟩
      refine xR _ _ _ _ _ _ (fun X ok E => ?_)
      have e1 : c6.ln = 0 := (congrArg (fun z : CS0 × (CS1 × CS2) => CS.ln (z, c6.2)) q6.1).trans b1
      have e2 := q6.2.2.2
      refine k_TS_ask_122 ok E ⟨_, ⟨⟨_, rfl⟩, by rw [q6.1]; exact b0, e1, fun i hi => by rw [qx_of q6.2.1]; exact b6 i hi, si_of q6.2.2.1 b4, by omega, q7, by omega⟩, rfl⟩ (Nat.zero_le _) (Nat.zero_le _)
    · refine x2 _ _ _ _ _ _ (fun X ok E => ?_)
      refine k_TS_ask_87 ok E htr (by decide) (by decide) (by decide) (by decide) rfl ⟨_, ⟨b0, b1, b6, b4, by omega, by omega, by omega⟩, rfl⟩
end CAs
