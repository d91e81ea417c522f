/-! THE CLASS: append, cell -/
section CFb
variable {l : Launch} {c : CS} {m : MS} {o : Nat → Int64}
theorem ts_byteAt (v : Int64) (i : Nat) (hi : i < 8) : mm_ l y_TS_byteAt w_TS_byteAt (rmh 1) [.long v, .int (nI i)] (W9 c m o) (qC m o (fun r c' => r = some (.int (rC v i)) ∧ c' = c)) := by
  refine mm_intro (by decide) (Nat.le_of_ble_eq_true rfl) i_TS_byteAt (fun X ok E => ?_)
  refine k_TS_byteAt_0 ok E ⟨_, ⟨congrArg (fun x => some (Value.int x)) (bA_rC v i hi), rfl⟩, rfl⟩ (Nat.le_refl _) (Nat.le_refl _)
theorem ts_codes (v : Int64) (n : Nat) (hn : n ≤ 8) : mm_ l y_TS_areTextCodes w_TS_areTextCodes (rmh 2) [.long v, .int (nI n)] (W9 c m o) (qC m o (fun r c' => r = some (.int (bI (apC v n 0))) ∧ c' = c)) := by
  refine mm_intro (by decide) (Nat.le_of_ble_eq_true rfl) i_TS_areTextCodes (fun X ok E => ?_)
  refine k_TS_areTextCodes_0 ok E.nL ?_
  have loop : ∀ k i, i + k = n → apC v k i = apC v n 0 → gg X (W9 c m o) 0 0 2 [(0, .long v), (2, .int (nI n)), (3, .int (nI i))] [] := by
    intro k
    induction k with
    | zero =>
      intro i h1 h2
      refine k_TS_areTextCodes_2 ok (fun z => have z := (nLe rfl rfl (by omega) (by omega) z); ?_) (fun z => have z := (nNle rfl rfl (by omega) (by omega) z); ?_)
      · refine k_TS_areTextCodes_36 ok E ⟨_, ⟨by rw [← h2]; rfl, rfl⟩, rfl⟩ (Nat.le_refl _) (Nat.le_refl _)
      · omega
    | succ k ih =>
      intro i h1 h2
      refine k_TS_areTextCodes_2 ok (fun z => have z := (nLe rfl rfl (by omega) (by omega) z); ?_) (fun z => have z := (nNle rfl rfl (by omega) (by omega) z); ?_)
      · omega
      refine k_TS_areTextCodes_7 ok (ts_byteAt v i (by omega)) (gF_h E.nR (by decide) (by decide)) (fun _ _ q => qC_len q) ?_
      rintro r M' ⟨c2, ⟨rfl, rfl⟩, rfl⟩
      have bad : rI (rC v i) 32 126 = false → gg X (W9 c2 m o) 0 0 28 [] [] := by
        intro hb
        have e1 : apC v (k + 1) i = false := by
          unfold apC
          rw [hb]
          rfl
        refine k_TS_areTextCodes_28 ok E ⟨_, ⟨by rw [← h2, e1]; rfl, rfl⟩, rfl⟩ (Nat.le_refl _) (Nat.le_refl _)
      refine k_TS_areTextCodes_12 ok E.nL (fun z => bad (by unfold rI; rw [if_pos z])) (fun z1 => ?_)
      refine k_TS_areTextCodes_21 ok (fun z2 => ?_) (fun z => bad (by unfold rI; rw [if_neg z1, if_pos (Int32.not_le.mp z)]))
      refine k_TS_areTextCodes_30 ok E.nL ?_
      rw [nI_1]
      refine ih (i + 1) (by omega) ((if_pos ?_ : apC v (k + 1) i = _).symm.trans h2)
      unfold rI
      rw [if_neg z1, if_neg (Int32.not_lt.mpr z2)]
  exact loop n 0 (by omega) rfl
theorem ts_appendX (htr : l.stackTraces = false) (v : Int64) (x : Int32) (hx : rI x 1 8 = false ∨ apC v x.toNatClampNeg 0 = false) : mx_ l y_TS_append w_TS_append (rmc 6 1 6) [.ref 0, .long v, .int x] (W9 c m o) IAE (fun M' => M' = W9 c m o) := by
  refine mx_intro (by decide) (Nat.le_of_ble_eq_true rfl) (fun X ok E => ?_)
  refine k_TS_append_0 ok (fun _ => ?_) (fun z1 => ?_)
  · refine k_TS_append_19 ok E htr (by decide) (by decide) (by decide) (by decide) rfl rfl
  refine k_TS_append_5 ok (fun _ => ?_) (fun z2 => ?_)
  · refine k_TS_append_19 ok E htr (by decide) (by decide) (by decide) (by decide) rfl rfl
  have e1 : rI x 1 8 = true := by
    unfold rI
    rw [if_neg z1, if_neg z2]
  rcases hx with hx | hx
  · rw [e1] at hx
    cases hx
  obtain ⟨j, h1, h2, rfl⟩ := rI_nat (a := 1) (b := 8) (by decide) (by decide) e1
  rw [nC rfl (by omega)] at hx
  refine k_TS_append_11 ok (ts_codes v j h2) (gF_c E.nR (by decide) (by decide) (by decide) (by decide)) (fun _ _ q => qC_len q) ?_
  rintro r M' ⟨c, ⟨rfl, rfl⟩, rfl⟩
  rw [hx]
  refine k_TS_append_16 ok (fun z => absurd rfl z) (fun _ => ?_)
  refine k_TS_append_19 ok E htr (by decide) (by decide) (by decide) (by decide) rfl rfl
theorem ts_appendF (htr : l.stackTraces = false) (v : Int64) (j : Nat) (h1 : 1 ≤ j) (h2 : j ≤ 8) (ha : apC v j 0 = true) (hn : c.ln ≤ 160) (hl : 160 < c.ln + j) : mx_ l y_TS_append w_TS_append (rmc 6 1 6) [.ref 0, .long v, .int (nI j)] (W9 c m o) ISE (fun M' => M' = W9 c m o) := by
  refine mx_intro (by decide) (Nat.le_of_ble_eq_true rfl) (fun X ok E => ?_)
  refine k_TS_append_0 ok (fun z => have z := (nLt rfl (nL 1) (by omega) (by omega) z); ?_) (fun z => have z := (nNlt rfl (nL 1) (by omega) (by omega) z); ?_)
  · omega
  refine k_TS_append_5 ok (fun z => have z := (nLt (nL 8) rfl (by omega) (by omega) z); ?_) (fun z => have z := (nNlt (nL 8) rfl (by omega) (by omega) z); ?_)
  · omega
  refine k_TS_append_11 ok (ts_codes v j h2) (gF_c E.nR (by decide) (by decide) (by decide) (by decide)) (fun _ _ q => qC_len q) ?_
  rintro r M' ⟨c, ⟨rfl, rfl⟩, rfl⟩
  rw [ha]
  refine k_TS_append_16 ok (fun _ => ?_) (fun z => absurd z (by decide))
  refine k_TS_append_29 ok rW_0 rF_TS_7 (fun z => have z := (nLe (nA rfl rfl) (nL 160) (by omega) (by omega) z); ?_) (fun z => have z := (nNle (nA rfl rfl) (nL 160) (by omega) (by omega) z); ?_)
  · omega
  · refine k_TS_append_41 ok E htr (by decide) (by decide) (by decide) (by decide) rfl rfl
def CS.d_tx (v : Int64) : Nat → CS → CS
  | 0, c => c
  | k + 1, c => CS.d_tx v k ((c.u_tx (upd c.tx c.ln (rC v k))).u_ln (c.ln + 1))
theorem ctx_ln (v : Int64) : ∀ k (c : CS), (CS.d_tx v k c).ln = c.ln + k
  | 0, c => rfl
  | k + 1, c => by
    rw [CS.d_tx, ctx_ln v k]
    show c.ln + 1 + k = _
    omega
theorem rC_nar (v : Int64) (i : Nat) : vp_nar .char (((rC v i).toUInt32 % 65536).toInt32) = rC v i := by
  have h : ∀ x : Int32, vp_nar .char ((((x &&& 255).toUInt32) % 65536).toInt32) = x &&& 255 := by
    intro x
    have h1 : (x &&& 255).toBitVec.toNat < 256 := by
      show (x.toBitVec &&& 255#32).toNat < 256
      rw [BitVec.toNat_and]
      exact Nat.lt_of_le_of_lt Nat.and_le_right (by decide)
    have h2 : ((x &&& 255).toUInt32 % 65536).toInt32 = x &&& 255 := by
      apply Int32.toBitVec.inj
      apply BitVec.eq_of_toNat_eq
      show ((x &&& 255).toUInt32 % 65536).toNat = _
      rw [UInt32.toNat_mod]
      show (x &&& 255).toBitVec.toNat % 65536 = _
      omega
    rw [h2]
    show (x &&& 255).toUInt32.toUInt16.toUInt32.toInt32 = _
    apply Int32.toBitVec.inj
    apply BitVec.eq_of_toNat_eq
    show (x &&& 255).toUInt32.toUInt16.toUInt32.toNat = _
    rw [UInt16.toNat_toUInt32, UInt32.toNat_toUInt16]
    show (x &&& 255).toBitVec.toNat % _ = _
    omega
  exact h _
theorem ts_append (v : Int64) (j : Nat) (h1 : 1 ≤ j) (h2 : j ≤ 8) (ha : apC v j 0 = true) (hl : c.ln + j ≤ 160) : mm_ l y_TS_append w_TS_append (rmh 3) [.ref 0, .long v, .int (nI j)] (W9 c m o) (qC m o (fun r c' => r = some (.int (nI (c.ln + j))) ∧ c' = CS.d_tx v j c)) := by
  refine mm_intro (by decide) (Nat.le_of_ble_eq_true rfl) i_TS_append (fun X ok E => ?_)
  refine k_TS_append_0 ok (fun z => have z := (nLt rfl (nL 1) (by omega) (by omega) z); ?_) (fun z => have z := (nNlt rfl (nL 1) (by omega) (by omega) z); ?_)
  · omega
  refine k_TS_append_5 ok (fun z => have z := (nLt (nL 8) rfl (by omega) (by omega) z); ?_) (fun z => have z := (nNlt (nL 8) rfl (by omega) (by omega) z); ?_)
  · omega
  refine k_TS_append_11 ok (ts_codes v j h2) (gF_h E.nR (by decide) (by decide)) (fun _ _ q => qC_len q) ?_
  rintro r M' ⟨c, ⟨rfl, rfl⟩, rfl⟩
  rw [ha]
  refine k_TS_append_16 ok (fun _ => ?_) (fun z => absurd z (by decide))
  refine k_TS_append_29 ok rW_0 rF_TS_7 (fun z => have z := (nLe (nA rfl rfl) (nL 160) (by omega) (by omega) z); ?_) (fun z => have z := (nNle (nA rfl rfl) (nL 160) (by omega) (by omega) z); ?_)
  · refine k_TS_append_51 ok E.nL ?_
    have loop : ∀ k c1 x, x = nI k - 1 → k ≤ 8 → c1.ln + k ≤ 160 → CS.d_tx v k c1 = CS.d_tx v j c → gg X (W9 c1 m o) 0 0 56 [(0, .ref 0), (1, .long v), (4, .int x)] [] := by
      intro k
      induction k with
      | zero =>
        rintro c1 x rfl h3 h4 h5
        have e1 : c1.ln = c.ln + j := by
          have e2 := ctx_ln v j c
          rw [← h5] at e2
          exact e2
        refine k_TS_append_56 ok (fun _ => ?_) (fun z => absurd (by decide) z)
        refine k_TS_append_93 ok rW_0 rF_TS_7 E ⟨_, ⟨by rw [e1], h5⟩, rfl⟩ (Nat.le_refl _) (Nat.le_refl _)
      | succ k ih =>
        rintro c1 x rfl h3 h4 h5
        have d0 : (nI c1.ln).toNatClampNeg = c1.ln := nC rfl (by omega)
        rw [nI_pred]
        refine k_TS_append_56 ok (fun z => absurd z (nI_pos (by omega))) (fun _ => ?_)
        refine k_TS_append_61 ok rW_0 rF_TS_1 rF_TS_7 (ts_byteAt v k (by omega)) (gF_h E.nR (by decide) (by decide)) (fun _ _ q => qC_len q) ?_
        rintro r M' ⟨c2, ⟨rfl, rfl⟩, rfl⟩
        refine k_TS_append_75 ok E.nL rW_12 (vin rfl (by omega) (by decide)) sA_12 rW_0 rF_TS_7 (Nat.le_refl 9) (sF_TS_7 (nA rfl (nL 1))) (sO_TS_7 rfl) ?_
        rw [d0, rC_nar]
        exact ih _ _ (nI_m1 _) (by omega) (by show c2.ln + 1 + k ≤ 160; omega) h5
    exact loop j c _ rfl h2 hl rfl
  · omega
/-! cell -/
def CS.has (c : CS) (x y : Int32) : Bool := if x < 0 then false else if nI c.rn ≤ x then false else if y < 0 then false else if nI c.rc ≤ y then false else true
theorem ro_has (x y : Int32) : mm_ l y_Ro_hasPlace w_Ro_hasPlace (rmh 1) [.ref 55, .int x, .int y] (W9 c m o) (qC m o (fun r c' => r = some (.int (bI (c.has x y))) ∧ c' = c)) := by
  refine mm_intro (by decide) (Nat.le_of_ble_eq_true rfl) i_Ro_hasPlace (fun X ok E => ?_)
  have no : c.has x y = false → gg X (W9 c m o) 0 0 28 [] [] := by
    intro h
    refine k_Ro_hasPlace_28 ok ?_
    refine k_Ro_hasPlace_29 ok E rfl ⟨_, ⟨by rw [h]; rfl, rfl⟩, rfl⟩ (Nat.le_refl _) (Nat.le_refl _)
  refine k_Ro_hasPlace_0 ok (fun z => no (by rw [CS.has, if_pos z])) (fun z1 => ?_)
  refine k_Ro_hasPlace_4 ok rW_55 rF_Ro_3 (fun z => no (by rw [CS.has, if_neg z1, if_pos z])) (fun z2 => ?_)
  refine k_Ro_hasPlace_12 ok (fun z => no (by rw [CS.has, if_neg z1, if_neg z2, if_pos z])) (fun z3 => ?_)
  refine k_Ro_hasPlace_16 ok rW_55 rF_Ro_2 (fun z => no (by rw [CS.has, if_neg z1, if_neg z2, if_neg z3, if_pos z])) (fun z4 => ?_)
  refine k_Ro_hasPlace_24 ok ?_
  refine k_Ro_hasPlace_29 ok E rfl ⟨_, ⟨by rw [CS.has, if_neg z1, if_neg z2, if_neg z3, if_neg z4]; rfl, rfl⟩, rfl⟩ (Nat.le_refl _) (Nat.le_refl _)
theorem has_n {x y : Int32} (h : c.has x y = true) (h1 : c.rn < 2 ^ 31) (h2 : c.rc < 2 ^ 31) : ∃ i j, x = nI i ∧ y = nI j ∧ i < c.rn ∧ j < c.rc := by
  unfold CS.has at h
  split at h
  · cases h
  rename_i z1
  split at h
  · cases h
  rename_i z2
  split at h
  · cases h
  rename_i z3
  split at h
  · cases h
  rename_i z4
  obtain ⟨i, hi, rfl⟩ := nI_of z1
  obtain ⟨j, hj, rfl⟩ := nI_of z3
  exact ⟨i, j, rfl, rfl, nNle rfl rfl h1 hi z2, nNle rfl rfl h2 hj z4⟩
theorem ro_term (i j : Nat) (h1 : c.rn ≤ 150) (h2 : c.rc ≤ 6) (hi : i < c.rn) (hj : j < c.rc) (hh : c.has (nI i) (nI j) = true) : mm_ l y_Ro_term w_Ro_term (rmh 2) [.ref 55, .int (nI i), .int (nI j)] (W9 c m o) (qC m o (fun r c' => r = some (.long (c.rt (i * 6 + j))) ∧ c' = c)) := by
  refine mm_intro (by decide) (Nat.le_of_ble_eq_true rfl) i_Ro_term (fun X ok E => ?_)
  have d0 : (nI i * 6 + nI j).toNatClampNeg = i * 6 + j := nC (nA (nM rfl (nL 6)) rfl) (by omega)
  refine k_Ro_term_0 ok rW_55 (ro_has _ _) (gF_h E.nR (by decide) (by decide)) (fun _ _ q => qC_len q) ?_
  rintro r M' ⟨c, ⟨rfl, rfl⟩, rfl⟩
  rw [hh]
  refine k_Ro_term_6 ok (fun z => absurd z (by decide)) (fun _ => ?_)
  refine k_Ro_term_9 ok rW_55 rF_Ro_0 rW_56 (vin (nA (nM rfl (nL 6)) rfl) (by omega) (by decide)) ?_
  rw [d0]
  refine k_Ro_term_24 ok E ⟨_, ⟨rfl, rfl⟩, rfl⟩ (Nat.le_refl _) (Nat.le_refl _)
abbrev NSE : String := "java/util/NoSuchElementException"
abbrev UOE : String := "java/lang/UnsupportedOperationException"
theorem ts_cellX (htr : l.stackTraces = false) (x y : Int32) (h : c.has x y = false) : mx_ l y_TS_cell w_TS_cell (rmc 8 1 6) [.ref 0, .int x, .int y] (W9 c m o) NSE (fun M' => M' = W9 c m o) := by
  refine mx_intro (by decide) (Nat.le_of_ble_eq_true rfl) (fun X ok E => ?_)
  refine k_TS_cell_0 ok rW_0 rF_TS_6 rW_55 (ro_has x y) (gF_c E.nR (by decide) (by decide) (by decide) (by decide)) (fun _ _ q => qC_len q) ?_
  rintro r M' ⟨c, ⟨rfl, rfl⟩, rfl⟩
  rw [h]
  refine k_TS_cell_9 ok (fun z => absurd rfl z) (fun _ => ?_)
  refine k_TS_cell_12 ok E htr (by decide) (by decide) (by decide) (by decide) rfl rfl
theorem ts_cellU (htr : l.stackTraces = false) (i j : Nat) (h1 : c.rn ≤ 150) (h2 : c.rc ≤ 6) (hi : i < c.rn) (hj : j < c.rc) (hh : c.has (nI i) (nI j) = true) (h0 : c.rt (i * 6 + j) = 0) : mx_ l y_TS_cell w_TS_cell (rmc 8 1 6) [.ref 0, .int (nI i), .int (nI j)] (W9 c m o) UOE (fun M' => M' = W9 c m o) := by
  refine mx_intro (by decide) (Nat.le_of_ble_eq_true rfl) (fun X ok E => ?_)
  refine k_TS_cell_0 ok rW_0 rF_TS_6 rW_55 (ro_has _ _) (gF_c E.nR (by decide) (by decide) (by decide) (by decide)) (fun _ _ q => qC_len q) ?_
  rintro r M' ⟨c, ⟨rfl, rfl⟩, rfl⟩
  rw [hh]
  refine k_TS_cell_9 ok (fun _ => ?_) (fun z => absurd z (by decide))
  refine k_TS_cell_22 ok rW_0 rF_TS_6 rW_55 (ro_term i j h1 h2 hi hj hh) (gF_c E.nR (by decide) (by decide) (by decide) (by decide)) (fun _ _ q => qC_len q) ?_
  rintro r M' ⟨c, ⟨rfl, rfl⟩, rfl⟩
  rw [h0]
  refine k_TS_cell_31 ok E.nL (fun z => absurd rfl z) (fun _ => ?_)
  refine k_TS_cell_38 ok E htr (by decide) (by decide) (by decide) (by decide) rfl rfl
theorem ts_cell (i j : Nat) (h1 : c.rn ≤ 150) (h2 : c.rc ≤ 6) (hi : i < c.rn) (hj : j < c.rc) (hh : c.has (nI i) (nI j) = true) (h0 : ¬ c.rt (i * 6 + j) = 0) : mm_ l y_TS_cell w_TS_cell (rmh 3) [.ref 0, .int (nI i), .int (nI j)] (W9 c m o) (qC m o (fun r c' => r = some (.long (sH (c.rt (i * 6 + j)))) ∧ c' = c)) := by
  refine mm_intro (by decide) (Nat.le_of_ble_eq_true rfl) i_TS_cell (fun X ok E => ?_)
  refine k_TS_cell_0 ok rW_0 rF_TS_6 rW_55 (ro_has _ _) (gF_h E.nR (by decide) (by decide)) (fun _ _ q => qC_len q) ?_
  rintro r M' ⟨c, ⟨rfl, rfl⟩, rfl⟩
  rw [hh]
  refine k_TS_cell_9 ok (fun _ => ?_) (fun z => absurd z (by decide))
  refine k_TS_cell_22 ok rW_0 rF_TS_6 rW_55 (ro_term i j h1 h2 hi hj hh) (gF_h E.nR (by decide) (by decide)) (fun _ _ q => qC_len q) ?_
  rintro r M' ⟨c, ⟨rfl, rfl⟩, rfl⟩
  refine k_TS_cell_31 ok E.nL (fun _ => ?_) (fun z => absurd z h0)
  refine k_TS_cell_48 ok (te_shown _) (gF_h E.nR (by decide) (by decide)) (fun _ _ q => qC_len q) ?_
  rintro r M' ⟨c, ⟨rfl, rfl⟩, rfl⟩
  refine k_TS_cell_52 ok E ⟨_, ⟨rfl, rfl⟩, rfl⟩ (Nat.le_refl _) (Nat.le_refl _)
end CFb
