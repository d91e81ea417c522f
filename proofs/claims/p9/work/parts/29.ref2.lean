/-! THE REFERENCE: add, remove, transactions -/
section RS2
variable {l : Launch} {c : CS} {m : MS} {o : Nat → Int64}
abbrev MS.d_note (m : MS) (b : Bool) (s p q : Int64) : MS := (((m.u_ch (up3 m.ch m.nc s p q)).u_pt (va_up m.pt m.nc b)).u_fo (upd m.fo m.nc (nI m.us))).u_nc (m.nc + 1)
abbrev MS.d_end (m : MS) : MS := bif m.op then m else m.d_close
def MS.d_in (m : MS) (s p q : Int64) : Nat × MS :=
  if fd3 m.tr s p q m.nt 0 < m.nt then (0, m) else if m.nt < 48 then (1, (((m.u_cd 0).d_put s p q).d_note true s p q).d_end) else (0, m.u_cd 2)
def MS.d_out (m : MS) (s p q : Int64) : Nat × MS :=
  if fd3 m.tr s p q m.nt 0 < m.nt then (1, ((m.d_cut (fd3 m.tr s p q m.nt 0)).d_note false s p q).d_end) else (0, m)
/-- the end of does(): the change is noted -/
theorem mo_note {X : gC} {y : Room} {M0 : List mC} {post : Option Value → List mC → Prop} (ok : gO X c_Mo_does "TripleStoreModel" w_Mo_does) (E : gE X l y_Mo_does (rmh 3) 9 (some .int) M0 post) (b : Bool) (s p q : Int64) (hc : m.nc < 800) (hp : post (some (.int 1)) (W9 c (m.d_note b s p q).d_end o)) : gg X (W9 c m o) 0 0 69 [(0, .ref 58), (1, .int (bI b)), (2, .long s), (4, .long p), (6, .long q)] [] := by
  have c0 : (3 * nI m.nc).toNatClampNeg = 3 * m.nc := nC (nM (nL 3) rfl) (by omega)
  have c1 : (3 * nI m.nc + 1).toNatClampNeg = 3 * m.nc + 1 := nC (nA (nM (nL 3) rfl) (nL 1)) (by omega)
  have c2 : (3 * nI m.nc + 2).toNatClampNeg = 3 * m.nc + 2 := nC (nA (nM (nL 3) rfl) (nL 2)) (by omega)
  have c3 : (nI m.nc).toNatClampNeg = m.nc := nC rfl (by omega)
  refine k_Mo_does_69 ok rW_58 rF_Mo_4 rF_Mo_7 rW_61 (vin (nM (nL 3) rfl) (by omega) (by decide)) sA_61 (vin (nA (nM (nL 3) rfl) (nL 1)) (by omega) (by decide)) sA_61 (vin (nA (nM (nL 3) rfl) (nL 2)) (by omega) (by decide)) sA_61 rF_Mo_5 rW_62 (by decide) (vin rfl (by omega) (by decide)) (sA_62 (upB _ _ _)) rF_Mo_6 rF_Mo_9 rW_63 (by decide) (by decide) (vin rfl (by omega) (by decide)) sA_63 (Nat.le_refl 59) (sF_Mo_7 (nA rfl (nL 1))) (sO_Mo_7 rfl) rF_Mo_10 (fun z => have z := bI_1 z; ?_) (fun z => have z := bI_0 z; ?_)
  · rw [c0, c1, c2, c3]
    have z : m.op = true := z
    refine k_Mo_does_155 ok E ?_ (Nat.le_refl _) (Nat.le_refl _)
    have e : (m.d_note b s p q).d_end = m.d_note b s p q := by show (bif m.op then _ else _) = _; rw [z]; rfl
    rw [e] at hp
    exact hp
  · rw [c0, c1, c2, c3]
    have z : m.op = false := z
    refine k_Mo_does_151 ok rW_58 mo_close (gF_h E.nR (by decide) (by decide)) (fun _ _ q => qM_len q) ?_
    rintro r M' ⟨m', ⟨rfl, rfl⟩, rfl⟩
    refine k_Mo_does_155 ok E ?_ (Nat.le_refl _) (Nat.le_refl _)
    have e : (m.d_note b s p q).d_end = (m.d_note b s p q).d_close := by show (bif m.op then _ else _) = _; rw [z]; rfl
    rw [e] at hp
    exact hp
theorem mo_doesT (hn : m.nt ≤ 48) (hc : m.nc < 800) (s p q : Int64) : mm_ l y_Mo_does w_Mo_does (rmh 3) [.ref 58, .int (bI true), .long s, .long p, .long q] (W9 c m o) (qM c o (fun r m' => r = some (.int (nI (m.d_in s p q).1)) ∧ m' = (m.d_in s p q).2)) := by
  refine mm_intro (by decide) (Nat.le_of_ble_eq_true rfl) i_Mo_does (fun X ok E => ?_)
  refine k_Mo_does_0 ok rW_58 (mo_find hn s p q) (gF_h E.nR (by decide) (by decide)) (fun _ _ q => qM_len q) ?_
  rintro r M' ⟨m', ⟨rfl, rfl⟩, rfl⟩
  have hf : fd3 m'.tr s p q m'.nt 0 < 2 ^ 31 := Nat.lt_of_le_of_lt (fd3_le m'.tr s p q m'.nt 0) (by omega)
  refine k_Mo_does_9 ok rW_58 rF_Mo_1 (fun z => have z := (nLe rfl rfl (by omega) (by omega) z); ?_) (fun z => have z := (nNle rfl rfl (by omega) (by omega) z); ?_)
  · have h1 : ¬ fd3 m'.tr s p q m'.nt 0 < m'.nt := by omega
    refine k_Mo_does_20 ok ?_
    refine k_Mo_does_21 ok E.nL (fun _ => ?_) (fun z => absurd z (by decide))
    refine k_Mo_does_31 ok (fun z => absurd z (by decide)) (fun _ => ?_)
    refine k_Mo_does_35 ok rW_58 rF_Mo_1 (fun z => have z := (nLe (nL 48) rfl (by omega) (by omega) z); ?_) (fun z => have z := (nNle (nL 48) rfl (by omega) (by omega) z); ?_)
    · have h2 : ¬ m'.nt < 48 := by omega
      refine k_Mo_does_49 ok ?_
      refine k_Mo_does_50 ok rW_58 (mo_goodF 2) (gF_h E.nR (by decide) (by decide)) (fun _ _ q => qM_len q) ?_
      rintro r M' ⟨m2, ⟨rfl, rfl⟩, rfl⟩
      refine k_Mo_does_54 ok (fun z => absurd rfl z) (fun _ => ?_)
      refine k_Mo_does_57 ok E ⟨_, ⟨by rw [MS.d_in, if_neg h1, if_neg h2]; rfl, by rw [MS.d_in, if_neg h1, if_neg h2]⟩, rfl⟩ (Nat.le_refl _) (Nat.le_refl _)
    · have h2 : m'.nt < 48 := by omega
      refine k_Mo_does_45 ok ?_
      refine k_Mo_does_50 ok rW_58 (mo_goodT 2) (gF_h E.nR (by decide) (by decide)) (fun _ _ q => qM_len q) ?_
      rintro r M' ⟨m2, ⟨rfl, rfl⟩, rfl⟩
      refine k_Mo_does_54 ok (fun _ => ?_) (fun z => absurd z (by decide))
      refine k_Mo_does_59 ok rW_58 (mo_applyT (by exact h2) s p q) (gF_h E.nR (by decide) (by decide)) (fun _ _ q => qM_len q) ?_
      rintro r M' ⟨m2, ⟨rfl, rfl⟩, rfl⟩
      exact mo_note (y := rmh 3) ok E true s p q hc ⟨_, ⟨by rw [MS.d_in, if_neg h1, if_pos h2]; rfl, by rw [MS.d_in, if_neg h1, if_pos h2]⟩, rfl⟩
  · have h1 : fd3 m'.tr s p q m'.nt 0 < m'.nt := by omega
    refine k_Mo_does_16 ok ?_
    refine k_Mo_does_21 ok E.nL (fun z => absurd rfl z) (fun _ => ?_)
    refine k_Mo_does_29 ok E ⟨_, ⟨by rw [MS.d_in, if_pos h1]; rfl, by rw [MS.d_in, if_pos h1]⟩, rfl⟩ (Nat.le_refl _) (Nat.le_refl _)
theorem mo_doesF (hn : m.nt ≤ 48) (hc : m.nc < 800) (s p q : Int64) : mm_ l y_Mo_does w_Mo_does (rmh 3) [.ref 58, .int (bI false), .long s, .long p, .long q] (W9 c m o) (qM c o (fun r m' => r = some (.int (nI (m.d_out s p q).1)) ∧ m' = (m.d_out s p q).2)) := by
  refine mm_intro (by decide) (Nat.le_of_ble_eq_true rfl) i_Mo_does (fun X ok E => ?_)
  refine k_Mo_does_0 ok rW_58 (mo_find hn s p q) (gF_h E.nR (by decide) (by decide)) (fun _ _ q => qM_len q) ?_
  rintro r M' ⟨m', ⟨rfl, rfl⟩, rfl⟩
  have hf : fd3 m'.tr s p q m'.nt 0 < 2 ^ 31 := Nat.lt_of_le_of_lt (fd3_le m'.tr s p q m'.nt 0) (by omega)
  refine k_Mo_does_9 ok rW_58 rF_Mo_1 (fun z => have z := (nLe rfl rfl (by omega) (by omega) z); ?_) (fun z => have z := (nNle rfl rfl (by omega) (by omega) z); ?_)
  · have h1 : ¬ fd3 m'.tr s p q m'.nt 0 < m'.nt := by omega
    refine k_Mo_does_20 ok ?_
    refine k_Mo_does_21 ok E.nL (fun z => absurd rfl z) (fun _ => ?_)
    refine k_Mo_does_29 ok E ⟨_, ⟨by rw [MS.d_out, if_neg h1]; rfl, by rw [MS.d_out, if_neg h1]⟩, rfl⟩ (Nat.le_refl _) (Nat.le_refl _)
  · have h1 : fd3 m'.tr s p q m'.nt 0 < m'.nt := by omega
    refine k_Mo_does_16 ok ?_
    refine k_Mo_does_21 ok E.nL (fun _ => ?_) (fun z => absurd z (by decide))
    refine k_Mo_does_31 ok (fun _ => ?_) (fun z => absurd rfl z)
    refine k_Mo_does_59 ok rW_58 (mo_applyF hn s p q h1) (gF_h E.nR (by decide) (by decide)) (fun _ _ q => qM_len q) ?_
    rintro r M' ⟨m2, ⟨rfl, rfl⟩, rfl⟩
    exact mo_note (y := rmh 3) ok E false s p q hc ⟨_, ⟨by rw [MS.d_out, if_pos h1]; rfl, by rw [MS.d_out, if_pos h1]⟩, rfl⟩
def MS.d_add (m : MS) (s p q : Int64) : Nat × MS := if rT s p q = true then (m.u_cd 0).d_in s p q else (0, m.u_cd 1)
def MS.d_rem (m : MS) (s p q : Int64) : Nat × MS := if rT s p q = true then (m.u_cd 0).d_out s p q else (0, m.u_cd 1)
theorem mo_add (hn : m.nt ≤ 48) (hc : m.nc < 800) (s p q : Int64) : mm_ l y_Mo_add w_Mo_add (rmh 4) [.ref 58, .long s, .long p, .long q] (W9 c m o) (qM c o (fun r m' => r = some (.int (nI (m.d_add s p q).1)) ∧ m' = (m.d_add s p q).2)) := by
  refine mm_intro (by decide) (Nat.le_of_ble_eq_true rfl) i_Mo_add (fun X ok E => ?_)
  refine k_Mo_add_0 ok rW_58 (mo_isTriple s p q) (gF_h E.nR (by decide) (by decide)) (fun _ _ q => qM_len q) ?_
  rintro r M' ⟨m', ⟨rfl, rfl⟩, rfl⟩
  refine k_Mo_add_8 ok (fun z => have z := bI_0 z; ?_) (fun z => have z := bI_1 z; ?_)
  · refine k_Mo_add_23 ok ?_
    refine k_Mo_add_24 ok E ⟨_, ⟨by rw [MS.d_add, z]; rfl, by rw [MS.d_add, z]; rfl⟩, rfl⟩ (Nat.le_refl _) (Nat.le_refl _)
  · rw [z]
    refine k_Mo_add_11 ok rW_58 (mo_doesT (m := m.u_cd 0) hn hc s p q) (gF_h E.nR (by decide) (by decide)) (fun _ _ q => qM_len q) ?_
    rintro r M' ⟨m', ⟨rfl, rfl⟩, rfl⟩
    refine k_Mo_add_20 ok ?_
    refine k_Mo_add_24 ok E ⟨_, ⟨by rw [MS.d_add, z, if_pos rfl], by rw [MS.d_add, z, if_pos rfl]⟩, rfl⟩ (Nat.le_refl _) (Nat.le_refl _)
theorem mo_remove (hn : m.nt ≤ 48) (hc : m.nc < 800) (s p q : Int64) : mm_ l y_Mo_remove w_Mo_remove (rmh 4) [.ref 58, .long s, .long p, .long q] (W9 c m o) (qM c o (fun r m' => r = some (.int (nI (m.d_rem s p q).1)) ∧ m' = (m.d_rem s p q).2)) := by
  refine mm_intro (by decide) (Nat.le_of_ble_eq_true rfl) i_Mo_remove (fun X ok E => ?_)
  refine k_Mo_remove_0 ok rW_58 (mo_isTriple s p q) (gF_h E.nR (by decide) (by decide)) (fun _ _ q => qM_len q) ?_
  rintro r M' ⟨m', ⟨rfl, rfl⟩, rfl⟩
  refine k_Mo_remove_8 ok (fun z => have z := bI_0 z; ?_) (fun z => have z := bI_1 z; ?_)
  · refine k_Mo_remove_23 ok ?_
    refine k_Mo_remove_24 ok E ⟨_, ⟨by rw [MS.d_rem, z]; rfl, by rw [MS.d_rem, z]; rfl⟩, rfl⟩ (Nat.le_refl _) (Nat.le_refl _)
  · rw [z]
    refine k_Mo_remove_11 ok rW_58 (mo_doesF (m := m.u_cd 0) hn hc s p q) (gF_h E.nR (by decide) (by decide)) (fun _ _ q => qM_len q) ?_
    rintro r M' ⟨m', ⟨rfl, rfl⟩, rfl⟩
    refine k_Mo_remove_20 ok ?_
    refine k_Mo_remove_24 ok E ⟨_, ⟨by rw [MS.d_rem, z, if_pos rfl], by rw [MS.d_rem, z, if_pos rfl]⟩, rfl⟩ (Nat.le_refl _) (Nat.le_refl _)
def MS.d_begin (m : MS) : Nat × MS := bif m.op then (0, m.u_cd 1) else (m.cm, ((m.u_cd 0).u_op true).u_of m.nc)
theorem mo_begin : mm_ l y_Mo_begin w_Mo_begin (rmh 2) [.ref 58] (W9 c m o) (qM c o (fun r m' => r = some (.int (nI m.d_begin.1)) ∧ m' = m.d_begin.2)) := by
  refine mm_intro (by decide) (Nat.le_of_ble_eq_true rfl) i_Mo_begin (fun X ok E => ?_)
  refine k_Mo_begin_0 ok rW_58 rF_Mo_10 (fun z => have z := bI_1 z; ?_) (fun z => have z := bI_0 z; ?_)
  · have z : m.op = true := z
    refine k_Mo_begin_12 ok ?_
    refine k_Mo_begin_13 ok rW_58 (mo_goodF 1) (gF_h E.nR (by decide) (by decide)) (fun _ _ q => qM_len q) ?_
    rintro r M' ⟨m', ⟨rfl, rfl⟩, rfl⟩
    refine k_Mo_begin_17 ok (fun z => absurd rfl z) (fun _ => ?_)
    refine k_Mo_begin_20 ok E ⟨_, ⟨by rw [MS.d_begin, z]; rfl, by rw [MS.d_begin, z]; rfl⟩, rfl⟩ (Nat.le_refl _) (Nat.le_refl _)
  · have z : m.op = false := z
    refine k_Mo_begin_8 ok ?_
    refine k_Mo_begin_13 ok rW_58 (mo_goodT 1) (gF_h E.nR (by decide) (by decide)) (fun _ _ q => qM_len q) ?_
    rintro r M' ⟨m', ⟨rfl, rfl⟩, rfl⟩
    refine k_Mo_begin_17 ok (fun _ => ?_) (fun z => absurd z (by decide))
    refine k_Mo_begin_22 ok rW_58 (Nat.le_refl 59) (sF_Mo_10 (v := true) rfl) (sO_Mo_10 rfl) rF_Mo_7 (sF_Mo_11 rfl) (sO_Mo_11 rfl) rF_Mo_8 E ⟨_, ⟨by rw [MS.d_begin, z]; rfl, by rw [MS.d_begin, z]; rfl⟩, rfl⟩ (Nat.le_refl _) (Nat.le_refl _)
def MS.d_commit (m : MS) : Nat × MS := bif m.op then (m.nc - m.of, (m.u_cd 0).d_close) else (0, m.u_cd 1)
theorem mo_commit (h : m.of ≤ m.nc) : mm_ l y_Mo_commit w_Mo_commit (rmh 2) [.ref 58] (W9 c m o) (qM c o (fun r m' => r = some (.int (nI m.d_commit.1)) ∧ m' = m.d_commit.2)) := by
  refine mm_intro (by decide) (Nat.le_of_ble_eq_true rfl) i_Mo_commit (fun X ok E => ?_)
  refine k_Mo_commit_0 ok rW_58 rF_Mo_10 (mo_good m.op 1) (gF_h E.nR (by decide) (by decide)) (fun _ _ q => qM_len q) ?_
  rintro r M' ⟨m', ⟨rfl, rfl⟩, rfl⟩
  refine k_Mo_commit_9 ok (fun z => have z := bI_1 z; ?_) (fun z => have z := bI_0 z; ?_)
  · have z : m.op = true := z
    refine k_Mo_commit_14 ok rW_58 mo_close (gF_h E.nR (by decide) (by decide)) (fun _ _ q => qM_len q) ?_
    rintro r M' ⟨m', ⟨rfl, rfl⟩, rfl⟩
    refine k_Mo_commit_18 ok rW_58 rF_Mo_7 rF_Mo_11 E ⟨_, ⟨by rw [MS.d_commit, z]; exact congrArg (fun v => some (Value.int v)) (nS rfl rfl h), by rw [MS.d_commit, z]; rfl⟩, rfl⟩ (Nat.le_refl _) (Nat.le_refl _)
  · have z : m.op = false := z
    refine k_Mo_commit_12 ok E ⟨_, ⟨by rw [MS.d_commit, z]; rfl, by rw [MS.d_commit, z]; rfl⟩, rfl⟩ (Nat.le_refl _) (Nat.le_refl _)
theorem mo_fault : mm_ l y_Mo_fault w_Mo_fault (rmh 1) [.ref 58] (W9 c m o) (qM c o (fun r m' => r = some (.int m.fa) ∧ m' = m.u_cd 0)) := by
  refine mm_intro (by decide) (Nat.le_of_ble_eq_true rfl) i_Mo_fault (fun X ok E => ?_)
  refine k_Mo_fault_0 ok rW_58 (Nat.le_refl 59) (sF_Mo_58 (v := 0) (by decide)) (sO_Mo_58 rfl) rF_Mo_14 E ⟨_, ⟨rfl, rfl⟩, rfl⟩ (Nat.le_refl _) (Nat.le_refl _)
end RS2
