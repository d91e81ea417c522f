/-! THE CLASS: its store -/
section CSt
variable {l : Launch} {c : CS} {m : MS} {o : Nat → Int64}
abbrev CS.fnd (c : CS) (s p q : Int64) : Option Nat := tfd c.ta c.tb c.tc s p q c.tn 0
theorem tfd_lt (f g h : Nat → Int64) (s p q : Int64) : ∀ r i j, tfd f g h s p q r i = some j → j < i + r
  | 0, _, _, e => (nomatch e)
  | r + 1, i, j, e => by
    unfold tfd at e
    split at e
    · cases e
      omega
    · have := tfd_lt f g h s p q r (i + 1) j e
      omega
theorem st_size (h : c.tn ≤ 48) : mm_ l y_St_size w_St_size (rmh 2) [.ref 1] (W9 c m o) (qC m o (fun r c' => r = some (.int (nI c.tn)) ∧ c' = c)) := by
  refine mm_intro (by decide) (Nat.le_of_ble_eq_true rfl) i_St_size (fun X ok E => ?_)
  refine k_St_size_0 ok rW_1 rF_St_0 rW_2 (T1_size h) (gF_h E.nR (by decide) (by decide)) (fun _ _ q => qC_len q) ?_
  rintro r M' ⟨c, ⟨rfl, rfl⟩, rfl⟩
  refine k_St_size_7 ok E ⟨_, ⟨rfl, rfl⟩, rfl⟩ (Nat.le_refl _) (Nat.le_refl _)
theorem st_isOpen : mm_ l y_St_isOpen w_St_isOpen (rmh 1) [.ref 1] (W9 c m o) (qC m o (fun r c' => r = some (.int (bI c.so)) ∧ c' = c)) := by
  refine mm_intro (by decide) (Nat.le_of_ble_eq_true rfl) i_St_isOpen (fun X ok E => ?_)
  refine k_St_isOpen_0 ok rW_1 rF_St_4 E (bI_nar _) ⟨_, ⟨rfl, rfl⟩, rfl⟩ (Nat.le_refl _) (Nat.le_refl _)
theorem st_changes : mm_ l y_St_changes w_St_changes (rmh 1) [.ref 1] (W9 c m o) (qC m o (fun r c' => r = some (.int (nI c.sc)) ∧ c' = c)) := by
  refine mm_intro (by decide) (Nat.le_of_ble_eq_true rfl) i_St_changes (fun X ok E => ?_)
  refine k_St_changes_0 ok rW_1 rF_St_5 E ⟨_, ⟨rfl, rfl⟩, rfl⟩ (Nat.le_refl _) (Nat.le_refl _)
theorem st_committed : mm_ l y_St_committed w_St_committed (rmh 1) [.ref 1] (W9 c m o) (qC m o (fun r c' => r = some (.int (nI c.sm)) ∧ c' = c)) := by
  refine mm_intro (by decide) (Nat.le_of_ble_eq_true rfl) i_St_committed (fun X ok E => ?_)
  refine k_St_committed_0 ok rW_1 rF_St_6 E ⟨_, ⟨rfl, rfl⟩, rfl⟩ (Nat.le_refl _) (Nat.le_refl _)
theorem st_unsynced : mm_ l y_St_unsynced w_St_unsynced (rmh 1) [.ref 1] (W9 c m o) (qC m o (fun r c' => r = some (.int (nI c.su)) ∧ c' = c)) := by
  refine mm_intro (by decide) (Nat.le_of_ble_eq_true rfl) i_St_unsynced (fun X ok E => ?_)
  refine k_St_unsynced_0 ok rW_1 rF_St_7 E ⟨_, ⟨rfl, rfl⟩, rfl⟩ (Nat.le_refl _) (Nat.le_refl _)
theorem tfI_neg (q : Option Nat) (h : ∀ j, q = some j → j < 2 ^ 31) : tfI q < 0 ↔ q = none := by
  cases q with
  | none => exact ⟨fun _ => rfl, fun _ => by decide⟩
  | some j => exact ⟨fun z => absurd z (nI_pos (h j rfl)), fun z => (nomatch z)⟩
theorem fnd_lt (h : c.tn ≤ 48) (s p q : Int64) : ∀ j, c.fnd s p q = some j → j < 2 ^ 31 := fun j e => by
  have := tfd_lt _ _ _ _ _ _ _ _ _ e
  omega
theorem st_has (h : c.tn ≤ 48) (s p q : Int64) : mm_ l y_St_has w_St_has (rmh 2) [.ref 1, .long s, .long p, .long q] (W9 c m o) (qC m o (fun r c' => r = some (.int (bI (c.fnd s p q).isSome)) ∧ c' = c)) := by
  refine mm_intro (by decide) (Nat.le_of_ble_eq_true rfl) i_St_has (fun X ok E => ?_)
  refine k_St_has_0 ok rW_1 rF_St_0 rW_2 (T1_find h s p q) (gF_h E.nR (by decide) (by decide)) (fun _ _ q => qC_len q) ?_
  rintro r M' ⟨c, ⟨rfl, rfl⟩, rfl⟩
  refine k_St_has_11 ok (fun z => ?_) (fun z => ?_)
  · have z : c.fnd s p q = none := (tfI_neg _ (fnd_lt h s p q)).mp z
    refine k_St_has_18 ok ?_
    refine k_St_has_19 ok E rfl ⟨_, ⟨by rw [z]; rfl, rfl⟩, rfl⟩ (Nat.le_refl _) (Nat.le_refl _)
  · have z : ¬ c.fnd s p q = none := fun e => z ((tfI_neg _ (fnd_lt h s p q)).mpr e)
    have z : (c.fnd s p q).isSome = true := Option.isSome_iff_ne_none.mpr z
    refine k_St_has_14 ok ?_
    refine k_St_has_19 ok E rfl ⟨_, ⟨by rw [z]; rfl, rfl⟩, rfl⟩ (Nat.le_refl _) (Nat.le_refl _)
abbrev CS.d_cc (c : CS) : CS := (c.u_sm (c.sm + 1)).u_su (c.su + 1)
theorem st_cc : mm_ l y_St_countCommitted w_St_countCommitted (rmh 1) [.ref 1] (W9 c m o) (qC m o (fun r c' => r = none ∧ c' = c.d_cc)) := by
  refine mm_intro (by decide) (Nat.le_of_ble_eq_true rfl) i_St_countCommitted (fun X ok E => ?_)
  refine k_St_countCommitted_0 ok rW_1 rF_St_6 (Nat.le_refl 8) (sF_St_6 (nA rfl (nL 1))) (sO_St_6 rfl) rF_St_7 (sF_St_7 (nA rfl (nL 1))) (sO_St_7 rfl) E ⟨_, ⟨rfl, rfl⟩, rfl⟩ (Nat.le_refl _) (Nat.le_refl _)
abbrev CS.d_n1 (c : CS) (b : Bool) (s p q : Int64) : CS := ((c.gput s p q).u_si (va_up c.si c.gn b)).u_sx (upd c.sx c.gn (nI c.sm))
def CS.d_note (c : CS) (b : Bool) (s p q : Int64) : CS := bif c.so then (c.d_n1 b s p q).u_sc (c.sc + 1) else (c.d_n1 b s p q).d_cc
theorem st_note (hg : c.gn < 512) (s p q : Int64) (b : Bool) : mm_ l y_St_noteChange w_St_noteChange (rmh 3) [.ref 1, .long s, .long p, .long q, .int (bI b)] (W9 c m o) (qC m o (fun r c' => r = none ∧ c' = c.d_note b s p q)) := by
  refine mm_intro (by decide) (Nat.le_of_ble_eq_true rfl) i_St_noteChange (fun X ok E => ?_)
  have c0 : (nI c.gn).toNatClampNeg = c.gn := nC rfl (by omega)
  refine k_St_noteChange_0 ok rW_1 rF_St_1 rW_6 (T2_size (by omega)) (gF_h E.nR (by decide) (by decide)) (fun _ _ q => qC_len q) ?_
  rintro r M' ⟨c, ⟨rfl, rfl⟩, rfl⟩
  refine k_St_noteChange_7 ok E.nL (fun z => have z := (nLt rfl (nL 512) (by omega) (by omega) z); ?_) (fun z => have z := (nNlt rfl (nL 512) (by omega) (by omega) z); ?_)
  · refine k_St_noteChange_18 ok rW_1 rF_St_1 rW_6 (T2_put hg s p q) (gF_h E.nR (by decide) (by decide)) (fun _ _ q => qC_len q) ?_
    rintro r M' ⟨c2, ⟨rfl, rfl⟩, rfl⟩
    refine k_St_noteChange_29 ok rW_1 rF_St_2 rW_10 (vin rfl (by omega) (by decide)) (sA_10 (upB _ _ _)) rF_St_3 rF_St_6 rW_11 (by decide) (vin rfl (by omega) (by decide)) sA_11 rF_St_4 (fun z => have z := bI_0 z; ?_) (fun z => have z := bI_1 z; ?_)
    · have z : c.so = false := z
      rw [c0]
      refine k_St_noteChange_69 ok rW_1 st_cc (gF_h E.nR (by decide) (by decide)) (fun _ _ q => qC_len q) ?_
      rintro r M' ⟨c2, ⟨rfl, rfl⟩, rfl⟩
      refine k_St_noteChange_73 ok E ⟨_, ⟨rfl, by unfold CS.d_note; rw [z]; rfl⟩, rfl⟩ (Nat.le_refl _) (Nat.le_refl _)
    · have z : c.so = true := z
      rw [c0]
      refine k_St_noteChange_56 ok rW_1 rF_St_5 (Nat.le_refl 8) (sF_St_5 (nA rfl (nL 1))) (sO_St_5 rfl) ?_
      refine k_St_noteChange_73 ok E ⟨_, ⟨rfl, by unfold CS.d_note; rw [z]; rfl⟩, rfl⟩ (Nat.le_refl _) (Nat.le_refl _)
  · omega
/-- insert of a triple that is not there -/
theorem st_insert (h : c.tn < 48) (hg : c.gn < 512) (s p q : Int64) : mm_ l y_St_insert w_St_insert (rmh 4) [.ref 1, .long s, .long p, .long q] (W9 c m o) (qC m o (fun r c' => r = some (.int 1) ∧ c' = (c.tput s p q).d_note true s p q)) := by
  refine mm_intro (by decide) (Nat.le_of_ble_eq_true rfl) i_St_insert (fun X ok E => ?_)
  refine k_St_insert_0 ok rW_1 rF_St_1 rW_6 (T2_isFull (by omega)) (gF_h E.nR (by decide) (by decide)) (fun _ _ q => qC_len q) ?_
  rintro r M' ⟨c, ⟨rfl, rfl⟩, rfl⟩
  rw [decide_eq_false (by omega)]
  refine k_St_insert_7 ok (fun z => absurd rfl z) (fun _ => ?_)
  refine k_St_insert_10 ok rW_1 rF_St_0 rW_2 (T1_isFull (by omega)) (gF_h E.nR (by decide) (by decide)) (fun _ _ q => qC_len q) ?_
  rintro r M' ⟨c, ⟨rfl, rfl⟩, rfl⟩
  rw [decide_eq_false (by omega)]
  refine k_St_insert_17 ok (fun _ => ?_) (fun z => absurd rfl z)
  refine k_St_insert_22 ok rW_1 rF_St_0 rW_2 (T1_put h s p q) (gF_h E.nR (by decide) (by decide)) (fun _ _ q => qC_len q) ?_
  rintro r M' ⟨c2, ⟨rfl, rfl⟩, rfl⟩
  refine k_St_insert_33 ok rW_1 (st_note (by exact hg) s p q true) (gF_h E.nR (by decide) (by decide)) (fun _ _ q => qC_len q) ?_
  rintro r M' ⟨c2, ⟨rfl, rfl⟩, rfl⟩
  refine k_St_insert_42 ok E ⟨_, ⟨rfl, rfl⟩, rfl⟩ (Nat.le_refl _) (Nat.le_refl _)
def CS.d_del (c : CS) (s p q : Int64) : Nat × CS := match c.fnd s p q with
  | none => (0, c)
  | some i => (1, (c.tcut i).d_note false s p q)
theorem st_delete (h : c.tn ≤ 48) (hg : c.gn < 512) (s p q : Int64) : mm_ l y_St_delete w_St_delete (rmh 4) [.ref 1, .long s, .long p, .long q] (W9 c m o) (qC m o (fun r c' => r = some (.int (nI (c.d_del s p q).1)) ∧ c' = (c.d_del s p q).2)) := by
  refine mm_intro (by decide) (Nat.le_of_ble_eq_true rfl) i_St_delete (fun X ok E => ?_)
  refine k_St_delete_0 ok rW_1 rF_St_0 rW_2 (T1_find h s p q) (gF_h E.nR (by decide) (by decide)) (fun _ _ q => qC_len q) ?_
  rintro r M' ⟨c, ⟨rfl, rfl⟩, rfl⟩
  cases hf : c.fnd s p q with
  | none =>
    have e9 : tfd c.ta c.tb c.tc s p q c.tn 0 = none := hf
    rw [e9]
    refine k_St_delete_11 ok E.nL (fun _ => ?_) (fun z => absurd (by decide) z)
    refine k_St_delete_28 ok E ⟨_, ⟨by unfold CS.d_del; rw [hf]; rfl, by unfold CS.d_del; rw [hf]⟩, rfl⟩ (Nat.le_refl _) (Nat.le_refl _)
  | some i =>
    have hi : i < c.tn := by
      have := tfd_lt _ _ _ _ _ _ _ _ _ hf
      omega
    have e9 : tfd c.ta c.tb c.tc s p q c.tn 0 = some i := hf
    rw [e9]
    refine k_St_delete_11 ok E.nL (fun z => absurd z (nI_pos (by omega))) (fun _ => ?_)
    refine k_St_delete_18 ok rW_1 rF_St_1 rW_6 (T2_isFull (by omega)) (gF_h E.nR (by decide) (by decide)) (fun _ _ q => qC_len q) ?_
    rintro r M' ⟨c, ⟨rfl, rfl⟩, rfl⟩
    rw [decide_eq_false (by omega)]
    refine k_St_delete_25 ok (fun _ => ?_) (fun z => absurd rfl z)
    refine k_St_delete_30 ok rW_1 rF_St_0 rW_2 (T1_drop h i hi) (gF_h E.nR (by decide) (by decide)) (fun _ _ q => qC_len q) ?_
    rintro r M' ⟨c2, ⟨rfl, rfl⟩, rfl⟩
    refine k_St_delete_39 ok rW_1 (st_note (by exact hg) s p q false) (gF_h E.nR (by decide) (by decide)) (fun _ _ q => qC_len q) ?_
    rintro r M' ⟨c2, ⟨rfl, rfl⟩, rfl⟩
    refine k_St_delete_48 ok E ⟨_, ⟨by unfold CS.d_del; rw [hf]; rfl, by unfold CS.d_del; rw [hf]⟩, rfl⟩ (Nat.le_refl _) (Nat.le_refl _)
theorem st_begin : mm_ l y_St_openTransaction w_St_openTransaction (rmh 1) [.ref 1] (W9 c m o) (qC m o (fun r c' => r = some (.int (nI c.sm)) ∧ c' = c.u_so true)) := by
  refine mm_intro (by decide) (Nat.le_of_ble_eq_true rfl) i_St_openTransaction (fun X ok E => ?_)
  refine k_St_openTransaction_0 ok rW_1 (Nat.le_refl 8) (sF_St_4 (v := true) rfl) (sO_St_4 rfl) rF_St_6 E ⟨_, ⟨rfl, rfl⟩, rfl⟩ (Nat.le_refl _) (Nat.le_refl _)
theorem st_commit : mm_ l y_St_commitOpen w_St_commitOpen (rmh 2) [.ref 1] (W9 c m o) (qC m o (fun r c' => r = some (.int (nI c.sc)) ∧ c' = ((c.u_so false).u_sc 0).d_cc)) := by
  refine mm_intro (by decide) (Nat.le_of_ble_eq_true rfl) i_St_commitOpen (fun X ok E => ?_)
  refine k_St_commitOpen_0 ok E.nL rW_1 rF_St_5 (Nat.le_refl 8) (sF_St_4 (v := false) rfl) (sO_St_4 rfl) (sF_St_5 (v := 0) (by decide)) (sO_St_5 rfl) st_cc (gF_h E.nR (by decide) (by decide)) (fun _ _ q => qC_len q) ?_
  rintro r M' ⟨c2, ⟨rfl, rfl⟩, rfl⟩
  refine k_St_commitOpen_19 ok E ⟨_, ⟨rfl, rfl⟩, rfl⟩ (Nat.le_refl _) (Nat.le_refl _)
theorem st_sync : mm_ l y_St_syncAll w_St_syncAll (rmh 1) [.ref 1] (W9 c m o) (qC m o (fun r c' => r = some (.int (nI c.su)) ∧ c' = c.u_su 0)) := by
  refine mm_intro (by decide) (Nat.le_of_ble_eq_true rfl) i_St_syncAll (fun X ok E => ?_)
  refine k_St_syncAll_0 ok E.nL rW_1 rF_St_7 (Nat.le_refl 8) (sF_St_7 (v := 0) (by decide)) (sO_St_7 rfl) E ⟨_, ⟨rfl, rfl⟩, rfl⟩ (Nat.le_refl _) (Nat.le_refl _)
/-- the change at place i of the log is taken back; it leaves the log -/
def CS.d_ul (c : CS) (i : Nat) : CS := (bif c.si i then (match c.fnd (c.ga i) (c.gb i) (c.gc i) with
  | none => c
  | some j => c.tcut j) else c.tput (c.ga i) (c.gb i) (c.gc i)).gcut i
theorem st_undoLast (h : c.tn ≤ 48) (hg : c.gn ≤ 512) (i : Nat) (hi : i < c.gn) (hp : c.si i = false → c.tn < 48) : mm_ l y_St_undoLast w_St_undoLast (rmh 3) [.ref 1, .int (nI i)] (W9 c m o) (qC m o (fun r c' => r = none ∧ c' = c.d_ul i)) := by
  refine mm_intro (by decide) (Nat.le_of_ble_eq_true rfl) i_St_undoLast (fun X ok E => ?_)
  have c0 : (nI i).toNatClampNeg = i := nC rfl (by omega)
  refine k_St_undoLast_0 ok rW_1 rF_St_1 rW_6 (T2_subject hg i hi) (gF_h E.nR (by decide) (by decide)) (fun _ _ q => qC_len q) ?_
  rintro r M' ⟨c, ⟨rfl, rfl⟩, rfl⟩
  refine k_St_undoLast_8 ok E.nL rW_1 rF_St_1 rW_6 (T2_predicate hg i hi) (gF_h E.nR (by decide) (by decide)) (fun _ _ q => qC_len q) ?_
  rintro r M' ⟨c, ⟨rfl, rfl⟩, rfl⟩
  refine k_St_undoLast_17 ok E.nL rW_1 rF_St_1 rW_6 (T2_object hg i hi) (gF_h E.nR (by decide) (by decide)) (fun _ _ q => qC_len q) ?_
  rintro r M' ⟨c, ⟨rfl, rfl⟩, rfl⟩
  have fin : ∀ c2 : CS, c2.gn = c.gn → c2.gcut i = c.d_ul i → gg X (W9 c2 m o) 0 0 72 [(0, .ref 1), (1, .int (nI i))] [] := by
    intro c2 h1 h2
    refine k_St_undoLast_72 ok rW_1 rF_St_1 rW_6 (T2_drop (by rw [h1]; exact hg) i (by rw [h1]; exact hi)) (gF_h E.nR (by decide) (by decide)) (fun _ _ q => qC_len q) ?_
    rintro r M' ⟨c3, ⟨rfl, rfl⟩, rfl⟩
    refine k_St_undoLast_80 ok E ⟨_, ⟨rfl, h2⟩, rfl⟩ (Nat.le_refl _) (Nat.le_refl _)
  refine k_St_undoLast_27 ok E.nL rW_1 rF_St_2 rW_10 (vin rfl (by omega) (by decide)) (fun z => ?_) (fun z => ?_)
  · rw [c0] at z
    have z : c.si i = false := bI_0 z
    refine k_St_undoLast_60 ok rW_1 rF_St_0 rW_2 (T1_put (hp z) _ _ _) (gF_h E.nR (by decide) (by decide)) (fun _ _ q => qC_len q) ?_
    rintro r M' ⟨c2, ⟨rfl, rfl⟩, rfl⟩
    exact fin _ rfl (by unfold CS.d_ul; rw [z]; rfl)
  · rw [c0] at z
    have z : c.si i = true := bI_1 z
    refine k_St_undoLast_38 ok rW_1 rF_St_0 rW_2 (T1_find h _ _ _) (gF_h E.nR (by decide) (by decide)) (fun _ _ q => qC_len q) ?_
    rintro r M' ⟨c, ⟨rfl, rfl⟩, rfl⟩
    cases hf : c.fnd (c.ga i) (c.gb i) (c.gc i) with
    | none =>
      have e9 : tfd c.ta c.tb c.tc (c.ga i) (c.gb i) (c.gc i) c.tn 0 = none := hf
      rw [e9]
      refine k_St_undoLast_54 ok rW_2 T1_dropN (gF_h E.nR (by decide) (by decide)) (fun _ _ q => qC_len q) ?_
      rintro r M' ⟨c, ⟨rfl, rfl⟩, rfl⟩
      refine k_St_undoLast_57 ok ?_
      exact fin _ rfl (by unfold CS.d_ul; rw [z, hf]; rfl)
    | some j =>
      have e9 : tfd c.ta c.tb c.tc (c.ga i) (c.gb i) (c.gc i) c.tn 0 = some j := hf
      have hj : j < c.tn := by
        have := tfd_lt _ _ _ _ _ _ _ _ _ hf
        omega
      rw [e9]
      refine k_St_undoLast_54 ok rW_2 (T1_drop h j hj) (gF_h E.nR (by decide) (by decide)) (fun _ _ q => qC_len q) ?_
      rintro r M' ⟨c2, ⟨rfl, rfl⟩, rfl⟩
      refine k_St_undoLast_57 ok ?_
      exact fin _ rfl (by unfold CS.d_ul; rw [z, hf]; rfl)
/-- the log from its end: k changes are left to look at; those of transaction tx and later are taken back -/
def CS.d_uf (tx : Nat) : Nat → CS → CS
  | 0, c => c
  | k + 1, c => if c.sx k < nI tx then c else CS.d_uf tx k (c.d_ul k)
def CS.ok_uf (tx : Nat) : Nat → CS → Prop
  | 0, _ => True
  | k + 1, c => ¬ c.sx k < nI tx → (c.tn ≤ 48 ∧ (c.si k = false → c.tn < 48)) ∧ CS.ok_uf tx k (c.d_ul k)
theorem ul_gn (c : CS) (i : Nat) : (c.d_ul i).gn = c.gn - 1 := by
  unfold CS.d_ul
  cases c.si i
  · rfl
  · cases c.fnd (c.ga i) (c.gb i) (c.gc i) <;> rfl
theorem st_undoFrom (c0 : CS) (hg : c0.gn ≤ 512) (tx : Nat) (hok : CS.ok_uf tx c0.gn c0) : mm_ l y_St_undoFrom w_St_undoFrom (rmh 4) [.ref 1, .int (nI tx)] (W9 c0 m o) (qC m o (fun r c' => r = none ∧ c' = ((CS.d_uf tx c0.gn c0).u_so false).u_sc 0)) := by
  refine mm_intro (by decide) (Nat.le_of_ble_eq_true rfl) i_St_undoFrom (fun X ok E => ?_)
  refine k_St_undoFrom_0 ok rW_1 rF_St_1 rW_6 (T2_size hg) (gF_h E.nR (by decide) (by decide)) (fun _ _ q => qC_len q) ?_
  rintro r M' ⟨c, ⟨rfl, rfl⟩, rfl⟩
  refine k_St_undoFrom_7 ok E.nL ?_
  have loop : ∀ k c1 x, x = nI k - 1 → c1.gn = k → k ≤ 512 → CS.ok_uf tx k c1 → CS.d_uf tx k c1 = CS.d_uf tx c.gn c → gg X (W9 c1 m o) 0 0 10 [(0, .ref 1), (1, .int (nI tx)), (2, .int x)] [] := by
    intro k
    induction k with
    | zero =>
      rintro c1 x rfl h1 h2 h3 h4
      refine k_St_undoFrom_10 ok (fun _ => ?_) (fun z => absurd (by decide) z)
      refine k_St_undoFrom_35 ok rW_1 (Nat.le_refl 8) (sF_St_4 (v := false) rfl) (sO_St_4 rfl) (sF_St_5 (v := 0) (by decide)) (sO_St_5 rfl) E ⟨_, ⟨rfl, by rw [← h4]; rfl⟩, rfl⟩ (Nat.le_refl _) (Nat.le_refl _)
    | succ k ih =>
      rintro c1 x rfl h1 h2 h3 h4
      have d0 : (nI k).toNatClampNeg = k := nC rfl (by omega)
      rw [nI_pred]
      refine k_St_undoFrom_10 ok (fun z => absurd z (nI_pos (by omega))) (fun _ => ?_)
      refine k_St_undoFrom_14 ok rW_1 rF_St_3 rW_11 (vin rfl (by omega) (by decide)) (fun z => ?_) (fun z => ?_)
      · rw [d0] at z
        have e1 : CS.d_uf tx (k + 1) c1 = c1 := if_pos z
        rw [e1] at h4
        refine k_St_undoFrom_35 ok rW_1 (Nat.le_refl 8) (sF_St_4 (v := false) rfl) (sO_St_4 rfl) (sF_St_5 (v := 0) (by decide)) (sO_St_5 rfl) E ⟨_, ⟨rfl, by rw [← h4]⟩, rfl⟩ (Nat.le_refl _) (Nat.le_refl _)
      · rw [d0] at z
        have e1 : CS.d_uf tx (k + 1) c1 = CS.d_uf tx k (c1.d_ul k) := if_neg z
        rw [e1] at h4
        obtain ⟨⟨h5, h6⟩, h7⟩ := h3 z
        refine k_St_undoFrom_24 ok rW_1 (st_undoLast h5 (by omega) k (by omega) h6) (gF_h E.nR (by decide) (by decide)) (fun _ _ q => qC_len q) ?_
        rintro r M' ⟨c2, ⟨rfl, rfl⟩, rfl⟩
        refine k_St_undoFrom_29 ok E.nL ?_
        exact ih _ _ (nI_m1 _) (by rw [ul_gn]; omega) (by omega) h7 h4
  exact loop c.gn c _ rfl rfl hg hok rfl
theorem st_undoOpen (hg : c.gn ≤ 512) (hok : CS.ok_uf c.sm c.gn c) : mm_ l y_St_undoOpen w_St_undoOpen (rmh 5) [.ref 1] (W9 c m o) (qC m o (fun r c' => r = some (.int (nI c.sc)) ∧ c' = ((CS.d_uf c.sm c.gn c).u_so false).u_sc 0)) := by
  refine mm_intro (by decide) (Nat.le_of_ble_eq_true rfl) i_St_undoOpen (fun X ok E => ?_)
  refine k_St_undoOpen_0 ok E.nL rW_1 rF_St_5 rF_St_6 (st_undoFrom c hg c.sm hok) (gF_h E.nR (by decide) (by decide)) (fun _ _ q => qC_len q) ?_
  rintro r M' ⟨c2, ⟨rfl, rfl⟩, rfl⟩
  refine k_St_undoOpen_13 ok E ⟨_, ⟨rfl, rfl⟩, rfl⟩ (Nat.le_refl _) (Nat.le_refl _)
theorem st_lose (hg : c.gn ≤ 512) (kp : Nat) (hk : kp ≤ 1000) (hs : c.su ≤ c.sm) (hm : c.sm < 2 ^ 30) (hok : CS.ok_uf (c.sm - c.su + min kp c.su) c.gn c) : mm_ l y_St_loseBut w_St_loseBut (rmh 5) [.ref 1, .int (nI kp)] (W9 c m o) (qC m o (fun r c' => r = none ∧ c' = (((CS.d_uf (c.sm - c.su + min kp c.su) c.gn c).u_so false).u_sc 0).u_su 0)) := by
  refine mm_intro (by decide) (Nat.le_of_ble_eq_true rfl) i_St_loseBut (fun X ok E => ?_)
  refine k_St_loseBut_0 ok rW_1 rF_St_6 rF_St_7 (by rw [E.nR]; exact Nat.le_of_ble_eq_true rfl) (by rw [E.nR]; exact Nat.le_of_ble_eq_true rfl) (by rw [E.nR]; exact Nat.le_of_ble_eq_true rfl) (by rw [E.nR]; exact Nat.le_of_ble_eq_true rfl) ?_
  have e1 : (if nI c.su < nI kp then nI c.su else nI kp) = nI (min kp c.su) := by
    by_cases h : c.su < kp
    · rw [if_pos (nI_lt h (by omega)), Nat.min_eq_right (by omega)]
    · rw [if_neg (nI_nlt (by omega) (by omega)), Nat.min_eq_left (by omega)]
  have e2 : nI c.sm - nI c.su + nI (min kp c.su) = nI (c.sm - c.su + min kp c.su) := nA (nS rfl rfl hs) rfl
  rw [e1]
  refine k_St_loseBut_18 ok rW_1 (by rw [e2]; exact st_undoFrom c hg _ hok) (gF_h E.nR (by decide) (by decide)) (fun _ _ q => qC_len q) ?_
  rintro r M' ⟨c2, ⟨rfl, rfl⟩, rfl⟩
  refine k_St_loseBut_22 ok rW_1 (Nat.le_refl 8) (sF_St_7 (v := 0) (by decide)) (sO_St_7 rfl) E ⟨_, ⟨rfl, rfl⟩, rfl⟩ (Nat.le_refl _) (Nat.le_refl _)
end CSt
