/-! THE CLASS: its face, without ask -/
theorem gXX.nL {X : gC} {l9 : Launch} {y : MethodName} {rm : Room} {nl : Nat} {M0 : List mC} {e : String} {pX : List mC → Prop} (E : gXX X l9 y rm nl M0 e pX) : gL X = nl := by
  obtain ⟨p, l, e, R, s, m, args, below, meth, c, nL, D, tc, A, n0, ad0, Q⟩ := X
  exact E.2.2.1
theorem gXX.nR {X : gC} {l9 : Launch} {y : MethodName} {rm : Room} {nl : Nat} {M0 : List mC} {e : String} {pX : List mC → Prop} (E : gXX X l9 y rm nl M0 e pX) : gR X = rm := by
  obtain ⟨p, l, e, R, s, m, args, below, meth, c, nL, D, tc, A, n0, ad0, Q⟩ := X
  exact E.2.1
section CFa
variable {l : Launch} {c : CS} {m : MS} {o : Nat → Int64}
abbrev IAE : String := "java/lang/IllegalArgumentException"
abbrev ISE : String := "java/lang/IllegalStateException"
theorem te_isTriple (s p q : Int64) : mm_ l y_Te_isTriple w_Te_isTriple (rmh 3) [.long s, .long p, .long q] (W9 c m o) (qC m o (fun r c' => r = some (.int (bI (tT s p q))) ∧ c' = c)) := mm_imp (m_Te_isTriple s p q) (fun r M' h => ⟨_, ⟨h.1, rfl⟩, h.2⟩)
theorem te_held (s : Int64) : mm_ l y_Te_held w_Te_held (rmh 1) [.long s] (W9 c m o) (qC m o (fun r c' => r = some (.long (hD s)) ∧ c' = c)) := mm_imp (m_Te_held s) (fun r M' h => ⟨_, ⟨h.1, rfl⟩, h.2⟩)
theorem te_shown (s : Int64) : mm_ l y_Te_shown w_Te_shown (rmh 2) [.long s] (W9 c m o) (qC m o (fun r c' => r = some (.long (sH s)) ∧ c' = c)) := mm_imp (m_Te_shown s) (fun r M' h => ⟨_, ⟨h.1, rfl⟩, h.2⟩)
/-! add -/
theorem ts_addX (htr : l.stackTraces = false) (s p q : Int64) (hT : tT s p q = false) : mx_ l y_TS_add w_TS_add (rmc 6 1 6) [.ref 0, .long s, .long p, .long q] (W9 c m o) IAE (fun M' => M' = W9 c m o) := by
  refine mx_intro (by decide) (Nat.le_of_ble_eq_true rfl) (fun X ok E => ?_)
  refine k_TS_add_0 ok (te_isTriple s p q) (gF_c E.nR (by decide) (by decide) (by decide) (by decide)) (fun _ _ q => qC_len q) ?_
  rintro r M' ⟨c, ⟨rfl, rfl⟩, rfl⟩
  rw [hT]
  refine k_TS_add_7 ok (fun z => absurd rfl z) (fun _ => ?_)
  refine k_TS_add_10 ok E htr (by decide) (by decide) (by decide) (by decide) rfl rfl
theorem ts_addF (htr : l.stackTraces = false) (h : c.tn ≤ 48) (s p q : Int64) (hT : tT s p q = true) (hf : c.fnd (hD s) (hD p) (hD q) = none) (hn : 48 ≤ c.tn) : mx_ l y_TS_add w_TS_add (rmc 6 1 6) [.ref 0, .long s, .long p, .long q] (W9 c m o) ISE (fun M' => M' = W9 c m o) := by
  refine mx_intro (by decide) (Nat.le_of_ble_eq_true rfl) (fun X ok E => ?_)
  refine k_TS_add_0 ok (te_isTriple s p q) (gF_c E.nR (by decide) (by decide) (by decide) (by decide)) (fun _ _ q => qC_len q) ?_
  rintro r M' ⟨c, ⟨rfl, rfl⟩, rfl⟩
  rw [hT]
  refine k_TS_add_7 ok (fun _ => ?_) (fun z => absurd z (by decide))
  refine k_TS_add_20 ok (te_held _) (gF_c E.nR (by decide) (by decide) (by decide) (by decide)) (fun _ _ q => qC_len q) ?_
  rintro r M' ⟨c, ⟨rfl, rfl⟩, rfl⟩
  refine k_TS_add_24 ok E.nL (te_held _) (gF_c E.nR (by decide) (by decide) (by decide) (by decide)) (fun _ _ q => qC_len q) ?_
  rintro r M' ⟨c, ⟨rfl, rfl⟩, rfl⟩
  refine k_TS_add_30 ok E.nL (te_held _) (gF_c E.nR (by decide) (by decide) (by decide) (by decide)) (fun _ _ q => qC_len q) ?_
  rintro r M' ⟨c, ⟨rfl, rfl⟩, rfl⟩
  refine k_TS_add_37 ok E.nL rW_0 rF_TS_0 rW_1 (st_has h _ _ _) (gF_c E.nR (by decide) (by decide) (by decide) (by decide)) (fun _ _ q => qC_len q) ?_
  rintro r M' ⟨c, ⟨rfl, rfl⟩, rfl⟩
  rw [hf]
  refine k_TS_add_52 ok (fun _ => ?_) (fun z => absurd rfl z)
  refine k_TS_add_57 ok rW_0 rF_TS_0 rW_1 (st_size h) (gF_c E.nR (by decide) (by decide) (by decide) (by decide)) (fun _ _ q => qC_len q) ?_
  rintro r M' ⟨c, ⟨rfl, rfl⟩, rfl⟩
  refine k_TS_add_64 ok (fun z => have z := (nLt rfl (nL 48) (by omega) (by omega) z); ?_) (fun z => have z := (nNlt rfl (nL 48) (by omega) (by omega) z); ?_)
  · omega
  · refine k_TS_add_69 ok E htr (by decide) (by decide) (by decide) (by decide) rfl rfl
def CS.d_add (c : CS) (s p q : Int64) : Nat × CS := bif (c.fnd s p q).isSome then (0, c) else (1, (c.tput s p q).d_note true s p q)
theorem ts_add (h : c.tn ≤ 48) (hg : c.gn < 512) (s p q : Int64) (hT : tT s p q = true) (hn : c.fnd (hD s) (hD p) (hD q) = none → c.tn < 48) : mm_ l y_TS_add w_TS_add (rmh 5) [.ref 0, .long s, .long p, .long q] (W9 c m o) (qC m o (fun r c' => r = some (.int (nI (c.d_add (hD s) (hD p) (hD q)).1)) ∧ c' = (c.d_add (hD s) (hD p) (hD q)).2)) := by
  refine mm_intro (by decide) (Nat.le_of_ble_eq_true rfl) i_TS_add (fun X ok E => ?_)
  refine k_TS_add_0 ok (te_isTriple s p q) (gF_h E.nR (by decide) (by decide)) (fun _ _ q => qC_len q) ?_
  rintro r M' ⟨c, ⟨rfl, rfl⟩, rfl⟩
  rw [hT]
  refine k_TS_add_7 ok (fun _ => ?_) (fun z => absurd z (by decide))
  refine k_TS_add_20 ok (te_held _) (gF_h E.nR (by decide) (by decide)) (fun _ _ q => qC_len q) ?_
  rintro r M' ⟨c, ⟨rfl, rfl⟩, rfl⟩
  refine k_TS_add_24 ok E.nL (te_held _) (gF_h E.nR (by decide) (by decide)) (fun _ _ q => qC_len q) ?_
  rintro r M' ⟨c, ⟨rfl, rfl⟩, rfl⟩
  refine k_TS_add_30 ok E.nL (te_held _) (gF_h E.nR (by decide) (by decide)) (fun _ _ q => qC_len q) ?_
  rintro r M' ⟨c, ⟨rfl, rfl⟩, rfl⟩
  refine k_TS_add_37 ok E.nL rW_0 rF_TS_0 rW_1 (st_has h _ _ _) (gF_h E.nR (by decide) (by decide)) (fun _ _ q => qC_len q) ?_
  rintro r M' ⟨c, ⟨rfl, rfl⟩, rfl⟩
  refine k_TS_add_52 ok (fun z => have z := bI_0 z; ?_) (fun z => have z := bI_1 z; ?_)
  · have hf : c.fnd (hD s) (hD p) (hD q) = none := Option.isNone_iff_eq_none.mp (by rw [← Option.not_isSome, z]; rfl)
    have hz := z
    refine k_TS_add_57 ok rW_0 rF_TS_0 rW_1 (st_size h) (gF_h E.nR (by decide) (by decide)) (fun _ _ q => qC_len q) ?_
    rintro r M' ⟨c, ⟨rfl, rfl⟩, rfl⟩
    have h9 := hn hf
    refine k_TS_add_64 ok (fun z => have z := (nLt rfl (nL 48) (by omega) (by omega) z); ?_) (fun z => have z := (nNlt rfl (nL 48) (by omega) (by omega) z); ?_)
    · refine k_TS_add_79 ok rW_0 rF_TS_0 rW_1 (st_insert h9 hg _ _ _) (gF_h E.nR (by decide) (by decide)) (fun _ _ q => qC_len q) ?_
      rintro r M' ⟨c2, ⟨rfl, rfl⟩, rfl⟩
      refine k_TS_add_92 ok E ⟨_, ⟨by unfold CS.d_add; rw [hz]; rfl, by unfold CS.d_add; rw [hz]; rfl⟩, rfl⟩ (Nat.le_refl _) (Nat.le_refl _)
    · omega
  · refine k_TS_add_55 ok E ⟨_, ⟨by unfold CS.d_add; rw [z]; rfl, by unfold CS.d_add; rw [z]; rfl⟩, rfl⟩ (Nat.le_refl _) (Nat.le_refl _)
/-! remove -/
theorem ts_removeX (htr : l.stackTraces = false) (s p q : Int64) (hT : tT s p q = false) : mx_ l y_TS_remove w_TS_remove (rmc 6 1 6) [.ref 0, .long s, .long p, .long q] (W9 c m o) IAE (fun M' => M' = W9 c m o) := by
  refine mx_intro (by decide) (Nat.le_of_ble_eq_true rfl) (fun X ok E => ?_)
  refine k_TS_remove_0 ok (te_isTriple s p q) (gF_c E.nR (by decide) (by decide) (by decide) (by decide)) (fun _ _ q => qC_len q) ?_
  rintro r M' ⟨c, ⟨rfl, rfl⟩, rfl⟩
  rw [hT]
  refine k_TS_remove_7 ok (fun z => absurd rfl z) (fun _ => ?_)
  refine k_TS_remove_10 ok E htr (by decide) (by decide) (by decide) (by decide) rfl rfl
theorem ts_remove (h : c.tn ≤ 48) (hg : c.gn < 512) (s p q : Int64) (hT : tT s p q = true) : mm_ l y_TS_remove w_TS_remove (rmh 5) [.ref 0, .long s, .long p, .long q] (W9 c m o) (qC m o (fun r c' => r = some (.int (nI (c.d_del (hD s) (hD p) (hD q)).1)) ∧ c' = (c.d_del (hD s) (hD p) (hD q)).2)) := by
  refine mm_intro (by decide) (Nat.le_of_ble_eq_true rfl) i_TS_remove (fun X ok E => ?_)
  refine k_TS_remove_0 ok (te_isTriple s p q) (gF_h E.nR (by decide) (by decide)) (fun _ _ q => qC_len q) ?_
  rintro r M' ⟨c, ⟨rfl, rfl⟩, rfl⟩
  rw [hT]
  refine k_TS_remove_7 ok (fun _ => ?_) (fun z => absurd z (by decide))
  refine k_TS_remove_20 ok rW_0 rF_TS_0 (te_held _) (gF_h E.nR (by decide) (by decide)) (fun _ _ q => qC_len q) ?_
  rintro r M' ⟨c, ⟨rfl, rfl⟩, rfl⟩
  refine k_TS_remove_28 ok (te_held _) (gF_h E.nR (by decide) (by decide)) (fun _ _ q => qC_len q) ?_
  rintro r M' ⟨c, ⟨rfl, rfl⟩, rfl⟩
  refine k_TS_remove_32 ok (te_held _) (gF_h E.nR (by decide) (by decide)) (fun _ _ q => qC_len q) ?_
  rintro r M' ⟨c, ⟨rfl, rfl⟩, rfl⟩
  refine k_TS_remove_37 ok rW_1 (st_delete h hg _ _ _) (gF_h E.nR (by decide) (by decide)) (fun _ _ q => qC_len q) ?_
  rintro r M' ⟨c2, ⟨rfl, rfl⟩, rfl⟩
  refine k_TS_remove_40 ok E ⟨_, ⟨rfl, rfl⟩, rfl⟩ (Nat.le_refl _) (Nat.le_refl _)
/-! begin, commit, rollback, sync -/
theorem ts_beginX (htr : l.stackTraces = false) (hs : c.so = true) : mx_ l y_TS_begin w_TS_begin (rmc 6 1 6) [.ref 0] (W9 c m o) ISE (fun M' => M' = W9 c m o) := by
  refine mx_intro (by decide) (Nat.le_of_ble_eq_true rfl) (fun X ok E => ?_)
  refine k_TS_begin_0 ok rW_0 rF_TS_0 rW_1 st_isOpen (gF_c E.nR (by decide) (by decide) (by decide) (by decide)) (fun _ _ q => qC_len q) ?_
  rintro r M' ⟨c, ⟨rfl, rfl⟩, rfl⟩
  rw [hs]
  refine k_TS_begin_7 ok (fun z => absurd z (by decide)) (fun _ => ?_)
  refine k_TS_begin_10 ok E htr (by decide) (by decide) (by decide) (by decide) rfl rfl
theorem ts_begin (hs : c.so = false) : mm_ l y_TS_begin w_TS_begin (rmh 2) [.ref 0] (W9 c m o) (qC m o (fun r c' => r = some (.int (nI c.sm)) ∧ c' = c.u_so true)) := by
  refine mm_intro (by decide) (Nat.le_of_ble_eq_true rfl) i_TS_begin (fun X ok E => ?_)
  refine k_TS_begin_0 ok rW_0 rF_TS_0 rW_1 st_isOpen (gF_h E.nR (by decide) (by decide)) (fun _ _ q => qC_len q) ?_
  rintro r M' ⟨c, ⟨rfl, rfl⟩, rfl⟩
  rw [hs]
  refine k_TS_begin_7 ok (fun _ => ?_) (fun z => absurd rfl z)
  refine k_TS_begin_20 ok rW_0 rF_TS_0 rW_1 st_begin (gF_h E.nR (by decide) (by decide)) (fun _ _ q => qC_len q) ?_
  rintro r M' ⟨c2, ⟨rfl, rfl⟩, rfl⟩
  refine k_TS_begin_27 ok E ⟨_, ⟨rfl, rfl⟩, rfl⟩ (Nat.le_refl _) (Nat.le_refl _)
theorem ts_commitX (htr : l.stackTraces = false) (hs : c.so = false) : mx_ l y_TS_commit w_TS_commit (rmc 6 1 6) [.ref 0] (W9 c m o) ISE (fun M' => M' = W9 c m o) := by
  refine mx_intro (by decide) (Nat.le_of_ble_eq_true rfl) (fun X ok E => ?_)
  refine k_TS_commit_0 ok rW_0 rF_TS_0 rW_1 st_isOpen (gF_c E.nR (by decide) (by decide) (by decide) (by decide)) (fun _ _ q => qC_len q) ?_
  rintro r M' ⟨c, ⟨rfl, rfl⟩, rfl⟩
  rw [hs]
  refine k_TS_commit_7 ok (fun z => absurd rfl z) (fun _ => ?_)
  refine k_TS_commit_10 ok E htr (by decide) (by decide) (by decide) (by decide) rfl rfl
theorem ts_commit (hs : c.so = true) : mm_ l y_TS_commit w_TS_commit (rmh 3) [.ref 0] (W9 c m o) (qC m o (fun r c' => r = some (.int (nI c.sc)) ∧ c' = ((c.u_so false).u_sc 0).d_cc)) := by
  refine mm_intro (by decide) (Nat.le_of_ble_eq_true rfl) i_TS_commit (fun X ok E => ?_)
  refine k_TS_commit_0 ok rW_0 rF_TS_0 rW_1 st_isOpen (gF_h E.nR (by decide) (by decide)) (fun _ _ q => qC_len q) ?_
  rintro r M' ⟨c, ⟨rfl, rfl⟩, rfl⟩
  rw [hs]
  refine k_TS_commit_7 ok (fun _ => ?_) (fun z => absurd z (by decide))
  refine k_TS_commit_20 ok rW_0 rF_TS_0 rW_1 st_commit (gF_h E.nR (by decide) (by decide)) (fun _ _ q => qC_len q) ?_
  rintro r M' ⟨c2, ⟨rfl, rfl⟩, rfl⟩
  refine k_TS_commit_27 ok E ⟨_, ⟨rfl, rfl⟩, rfl⟩ (Nat.le_refl _) (Nat.le_refl _)
theorem ts_rollbackX (htr : l.stackTraces = false) (hs : c.so = false) : mx_ l y_TS_rollback w_TS_rollback (rmc 6 1 6) [.ref 0] (W9 c m o) ISE (fun M' => M' = W9 c m o) := by
  refine mx_intro (by decide) (Nat.le_of_ble_eq_true rfl) (fun X ok E => ?_)
  refine k_TS_rollback_0 ok rW_0 rF_TS_0 rW_1 st_isOpen (gF_c E.nR (by decide) (by decide) (by decide) (by decide)) (fun _ _ q => qC_len q) ?_
  rintro r M' ⟨c, ⟨rfl, rfl⟩, rfl⟩
  rw [hs]
  refine k_TS_rollback_7 ok (fun z => absurd rfl z) (fun _ => ?_)
  refine k_TS_rollback_10 ok E htr (by decide) (by decide) (by decide) (by decide) rfl rfl
theorem ts_rollback (hs : c.so = true) (hg : c.gn ≤ 512) (hok : CS.ok_uf c.sm c.gn c) : mm_ l y_TS_rollback w_TS_rollback (rmh 6) [.ref 0] (W9 c m o) (qC m o (fun r c' => r = some (.int (nI c.sc)) ∧ c' = ((CS.d_uf c.sm c.gn c).u_so false).u_sc 0)) := by
  refine mm_intro (by decide) (Nat.le_of_ble_eq_true rfl) i_TS_rollback (fun X ok E => ?_)
  refine k_TS_rollback_0 ok rW_0 rF_TS_0 rW_1 st_isOpen (gF_h E.nR (by decide) (by decide)) (fun _ _ q => qC_len q) ?_
  rintro r M' ⟨c, ⟨rfl, rfl⟩, rfl⟩
  rw [hs]
  refine k_TS_rollback_7 ok (fun _ => ?_) (fun z => absurd z (by decide))
  refine k_TS_rollback_20 ok rW_0 rF_TS_0 rW_1 (st_undoOpen hg hok) (gF_h E.nR (by decide) (by decide)) (fun _ _ q => qC_len q) ?_
  rintro r M' ⟨c2, ⟨rfl, rfl⟩, rfl⟩
  refine k_TS_rollback_27 ok E ⟨_, ⟨rfl, rfl⟩, rfl⟩ (Nat.le_refl _) (Nat.le_refl _)
theorem ts_sync : mm_ l y_TS_sync w_TS_sync (rmh 2) [.ref 0] (W9 c m o) (qC m o (fun r c' => r = some (.int (nI c.su)) ∧ c' = c.u_su 0)) := by
  refine mm_intro (by decide) (Nat.le_of_ble_eq_true rfl) i_TS_sync (fun X ok E => ?_)
  refine k_TS_sync_0 ok rW_0 rF_TS_0 rW_1 st_sync (gF_h E.nR (by decide) (by decide)) (fun _ _ q => qC_len q) ?_
  rintro r M' ⟨c2, ⟨rfl, rfl⟩, rfl⟩
  refine k_TS_sync_7 ok E ⟨_, ⟨rfl, rfl⟩, rfl⟩ (Nat.le_refl _) (Nat.le_refl _)
theorem ts_fault : mm_ l y_TS_fault w_TS_fault (rmh 1) [.ref 0] (W9 c m o) (qC m o (fun r c' => r = some (.int c.fa) ∧ c' = c)) := by
  refine mm_intro (by decide) (Nat.le_of_ble_eq_true rfl) i_TS_fault (fun X ok E => ?_)
  refine k_TS_fault_0 ok rW_0 rF_TS_8 E ⟨_, ⟨rfl, rfl⟩, rfl⟩ (Nat.le_refl _) (Nat.le_refl _)
/-! crash -/
theorem ts_crashX (htr : l.stackTraces = false) (x : Int32) (hx : x < 0 ∨ ¬ x ≤ 1000) : mx_ l y_TS_crash w_TS_crash (rmc 6 1 6) [.ref 0, .int x] (W9 c m o) IAE (fun M' => M' = W9 c m o) := by
  refine mx_intro (by decide) (Nat.le_of_ble_eq_true rfl) (fun X ok E => ?_)
  refine k_TS_crash_0 ok (fun z => ?_) (fun z => ?_)
  · refine k_TS_crash_11 ok E htr (by decide) (by decide) (by decide) (by decide) rfl rfl
  · rcases hx with hx | hx
    · exact absurd hx z
    refine k_TS_crash_4 ok (fun z => absurd z hx) (fun _ => ?_)
    refine k_TS_crash_11 ok E htr (by decide) (by decide) (by decide) (by decide) rfl rfl
theorem ts_crash (kp : Nat) (h : (CS.d_uf (c.sm - c.su + min kp c.su) c.gn c).tn ≤ 48) (hg : c.gn ≤ 512) (hk : kp ≤ 1000) (hs : c.su ≤ c.sm) (hm : c.sm < 2 ^ 30) (hok : CS.ok_uf (c.sm - c.su + min kp c.su) c.gn c) : mm_ l y_TS_crash w_TS_crash (rmh 6) [.ref 0, .int (nI kp)] (W9 c m o) (qC m o (fun r c' => r = some (.int (nI (CS.d_uf (c.sm - c.su + min kp c.su) c.gn c).tn)) ∧ c' = (((CS.d_uf (c.sm - c.su + min kp c.su) c.gn c).u_so false).u_sc 0).u_su 0)) := by
  refine mm_intro (by decide) (Nat.le_of_ble_eq_true rfl) i_TS_crash (fun X ok E => ?_)
  refine k_TS_crash_0 ok (fun z => absurd z (nI_pos (by omega))) (fun _ => ?_)
  refine k_TS_crash_4 ok (fun _ => ?_) (fun z => absurd (nI_le (a := kp) (b := 1000) hk (by decide)) z)
  refine k_TS_crash_21 ok rW_0 rF_TS_0 rW_1 (st_lose hg kp hk hs hm hok) (gF_h E.nR (by decide) (by decide)) (fun _ _ q => qC_len q) ?_
  rintro r M' ⟨c2, ⟨rfl, rfl⟩, rfl⟩
  refine k_TS_crash_29 ok rW_0 rF_TS_0 rW_1 (st_size (by exact h)) (gF_h E.nR (by decide) (by decide)) (fun _ _ q => qC_len q) ?_
  rintro r M' ⟨c2, ⟨rfl, rfl⟩, rfl⟩
  refine k_TS_crash_36 ok E ⟨_, ⟨rfl, rfl⟩, rfl⟩ (Nat.le_refl _) (Nat.le_refl _)
/-! count -/
theorem ro_columns : mm_ l y_Ro_columns w_Ro_columns (rmh 1) [.ref 55] (W9 c m o) (qC m o (fun r c' => r = some (.int (nI c.rc)) ∧ c' = c)) := by
  refine mm_intro (by decide) (Nat.le_of_ble_eq_true rfl) i_Ro_columns (fun X ok E => ?_)
  refine k_Ro_columns_0 ok rW_55 rF_Ro_2 E ⟨_, ⟨rfl, rfl⟩, rfl⟩ (Nat.le_refl _) (Nat.le_refl _)
theorem ro_size : mm_ l y_Ro_size w_Ro_size (rmh 1) [.ref 55] (W9 c m o) (qC m o (fun r c' => r = some (.int (nI c.rn)) ∧ c' = c)) := by
  refine mm_intro (by decide) (Nat.le_of_ble_eq_true rfl) i_Ro_size (fun X ok E => ?_)
  refine k_Ro_size_0 ok rW_55 rF_Ro_3 E ⟨_, ⟨rfl, rfl⟩, rfl⟩ (Nat.le_refl _) (Nat.le_refl _)
theorem ts_countX (htr : l.stackTraces = false) (x : Int32) (hx : rI x 0 6 = false) : mx_ l y_TS_count w_TS_count (rmc 6 1 6) [.ref 0, .int x] (W9 c m o) IAE (fun M' => M' = W9 c m o) := by
  refine mx_intro (by decide) (Nat.le_of_ble_eq_true rfl) (fun X ok E => ?_)
  refine k_TS_count_0 ok ?_ ?_ ?_ ?_ ?_ ?_ ?_ (fun _ => ?_)
  iterate 7 (rintro rfl; exact absurd hx (by decide))
  refine k_TS_count_97 ok E htr (by decide) (by decide) (by decide) (by decide) rfl rfl
def CS.cnt (c : CS) (x : Int32) : Nat := if x = 0 then c.tn else if x = 1 then c.rc else if x = 2 then c.rn else if x = 3 then c.sm else if x = 4 then c.su else if x = 5 then c.sc else c.ln
theorem ts_count (h : c.tn ≤ 48) (x : Int32) (hx : rI x 0 6 = true) : mm_ l y_TS_count w_TS_count (rmh 3) [.ref 0, .int x] (W9 c m o) (qC m o (fun r c' => r = some (.int (nI (c.cnt x))) ∧ c' = c)) := by
  refine mm_intro (by decide) (Nat.le_of_ble_eq_true rfl) i_TS_count (fun X ok E => ?_)
  refine k_TS_count_0 ok ?_ ?_ ?_ ?_ ?_ ?_ ?_ (fun z => ?_)
  · rintro rfl
    refine k_TS_count_44 ok rW_0 rF_TS_0 rW_1 (st_size h) (gF_h E.nR (by decide) (by decide)) (fun _ _ q => qC_len q) ?_
    rintro r M' ⟨c, ⟨rfl, rfl⟩, rfl⟩
    refine k_TS_count_51 ok E ⟨_, ⟨rfl, rfl⟩, rfl⟩ (Nat.le_refl _) (Nat.le_refl _)
  · rintro rfl
    refine k_TS_count_52 ok rW_0 rF_TS_6 rW_55 ro_columns (gF_h E.nR (by decide) (by decide)) (fun _ _ q => qC_len q) ?_
    rintro r M' ⟨c, ⟨rfl, rfl⟩, rfl⟩
    refine k_TS_count_59 ok E ⟨_, ⟨rfl, rfl⟩, rfl⟩ (Nat.le_refl _) (Nat.le_refl _)
  · rintro rfl
    refine k_TS_count_60 ok rW_0 rF_TS_6 rW_55 ro_size (gF_h E.nR (by decide) (by decide)) (fun _ _ q => qC_len q) ?_
    rintro r M' ⟨c, ⟨rfl, rfl⟩, rfl⟩
    refine k_TS_count_67 ok E ⟨_, ⟨rfl, rfl⟩, rfl⟩ (Nat.le_refl _) (Nat.le_refl _)
  · rintro rfl
    refine k_TS_count_68 ok rW_0 rF_TS_0 rW_1 st_committed (gF_h E.nR (by decide) (by decide)) (fun _ _ q => qC_len q) ?_
    rintro r M' ⟨c, ⟨rfl, rfl⟩, rfl⟩
    refine k_TS_count_75 ok E ⟨_, ⟨rfl, rfl⟩, rfl⟩ (Nat.le_refl _) (Nat.le_refl _)
  · rintro rfl
    refine k_TS_count_76 ok rW_0 rF_TS_0 rW_1 st_unsynced (gF_h E.nR (by decide) (by decide)) (fun _ _ q => qC_len q) ?_
    rintro r M' ⟨c, ⟨rfl, rfl⟩, rfl⟩
    refine k_TS_count_83 ok E ⟨_, ⟨rfl, rfl⟩, rfl⟩ (Nat.le_refl _) (Nat.le_refl _)
  · rintro rfl
    refine k_TS_count_84 ok rW_0 rF_TS_0 rW_1 st_changes (gF_h E.nR (by decide) (by decide)) (fun _ _ q => qC_len q) ?_
    rintro r M' ⟨c, ⟨rfl, rfl⟩, rfl⟩
    refine k_TS_count_91 ok E ⟨_, ⟨rfl, rfl⟩, rfl⟩ (Nat.le_refl _) (Nat.le_refl _)
  · rintro rfl
    refine k_TS_count_92 ok rW_0 rF_TS_7 E ⟨_, ⟨rfl, rfl⟩, rfl⟩ (Nat.le_refl _) (Nat.le_refl _)
  · exfalso
    obtain ⟨j, -, h2, rfl⟩ := rI_nat (a := 0) (b := 6) (by decide) (by decide) hx
    rw [nI_toInt (by omega)] at z
    omega
end CFa
