/-! THE WRAPPERS: contracts -/
section W2
variable {l : Launch} {c c2 : CS} {m : MS} {o : Nat → Int64} {h : Nat}
theorem wR_add {s p q : Int64} {v9 : Int32} (hm : mm_ l y_TS_add w_TS_add (rmh h) [.ref 0, .long s, .long p, .long q] (W9 c m o) (qC m o (fun r c' => r = some (.int v9) ∧ c' = c2))) : mm_ l y_La_add w_La_add (rmc (h + 1) 1 6) (.ref 0 :: ([.long s, .long p, .long q] ++ [.ref 84])) (W9 c m o) (fun r M' => r = some (.int (nI 0)) ∧ M' = W9 c2 m (vp_updL o 0 v9.toInt64)) := by
  refine mmH_intro (by decide) (Nat.le_of_ble_eq_true rfl) i_Tr_size (fun X ok E hT => ?_)
  obtain rfl : gLa X = l := E.La
  refine k_La_add_0 ok rW_0 hm (gF_c (c := 0) (s := 0) E.nR (Nat.le_refl _) (by decide) (by decide) (by decide)) (fun _ _ q => qC_len q) ?_
  rintro r M' ⟨c3, ⟨rfl, rfl⟩, rfl⟩
  refine k_La_add_11 ok rW_84 (vin (nL 0) (by decide) (by decide)) sA_84 ?_
  exact k_La_add_24 ok E ⟨rfl, rfl⟩ (Nat.zero_le _) (Nat.zero_le _)
theorem wX_add_1 {s p q : Int64} (hm : mx_ l y_TS_add w_TS_add (rmc h 1 6) [.ref 0, .long s, .long p, .long q] (W9 c m o) "java/lang/IllegalArgumentException" (fun M' => M' = W9 c2 m o)) : mm_ l y_La_add w_La_add (rmc (h + 1) 1 6) (.ref 0 :: ([.long s, .long p, .long q] ++ [.ref 84])) (W9 c m o) (fun r M' => r = some (.int (nI 1)) ∧ M' = W9 c2 m o) := by
  refine mmH_intro (by decide) (Nat.le_of_ble_eq_true rfl) i_Tr_size (fun X ok E hT => ?_)
  obtain rfl : gLa X = l := E.La
  exact kX_La_add_1 ok hT rW_0 hm (gF_c E.nR (Nat.le_refl _) (by decide) (by decide) (by decide)) E (fun M' q => ⟨rfl, q⟩) (Nat.le_refl _) (Nat.le_refl _)
theorem wX_add_2 {s p q : Int64} (hm : mx_ l y_TS_add w_TS_add (rmc h 1 6) [.ref 0, .long s, .long p, .long q] (W9 c m o) "java/lang/IllegalStateException" (fun M' => M' = W9 c2 m o)) : mm_ l y_La_add w_La_add (rmc (h + 1) 1 6) (.ref 0 :: ([.long s, .long p, .long q] ++ [.ref 84])) (W9 c m o) (fun r M' => r = some (.int (nI 2)) ∧ M' = W9 c2 m o) := by
  refine mmH_intro (by decide) (Nat.le_of_ble_eq_true rfl) i_Tr_size (fun X ok E hT => ?_)
  obtain rfl : gLa X = l := E.La
  exact kX_La_add_2 ok hT rW_0 hm (gF_c E.nR (Nat.le_refl _) (by decide) (by decide) (by decide)) E (fun M' q => ⟨rfl, q⟩) (Nat.le_refl _) (Nat.le_refl _)
theorem wR_remove {s p q : Int64} {v9 : Int32} (hm : mm_ l y_TS_remove w_TS_remove (rmh h) [.ref 0, .long s, .long p, .long q] (W9 c m o) (qC m o (fun r c' => r = some (.int v9) ∧ c' = c2))) : mm_ l y_La_remove w_La_remove (rmc (h + 1) 1 6) (.ref 0 :: ([.long s, .long p, .long q] ++ [.ref 84])) (W9 c m o) (fun r M' => r = some (.int (nI 0)) ∧ M' = W9 c2 m (vp_updL o 0 v9.toInt64)) := by
  refine mmH_intro (by decide) (Nat.le_of_ble_eq_true rfl) i_Tr_size (fun X ok E hT => ?_)
  obtain rfl : gLa X = l := E.La
  refine k_La_remove_0 ok rW_0 hm (gF_c (c := 0) (s := 0) E.nR (Nat.le_refl _) (by decide) (by decide) (by decide)) (fun _ _ q => qC_len q) ?_
  rintro r M' ⟨c3, ⟨rfl, rfl⟩, rfl⟩
  refine k_La_remove_11 ok rW_84 (vin (nL 0) (by decide) (by decide)) sA_84 ?_
  exact k_La_remove_20 ok E ⟨rfl, rfl⟩ (Nat.zero_le _) (Nat.zero_le _)
theorem wX_remove_1 {s p q : Int64} (hm : mx_ l y_TS_remove w_TS_remove (rmc h 1 6) [.ref 0, .long s, .long p, .long q] (W9 c m o) "java/lang/IllegalArgumentException" (fun M' => M' = W9 c2 m o)) : mm_ l y_La_remove w_La_remove (rmc (h + 1) 1 6) (.ref 0 :: ([.long s, .long p, .long q] ++ [.ref 84])) (W9 c m o) (fun r M' => r = some (.int (nI 1)) ∧ M' = W9 c2 m o) := by
  refine mmH_intro (by decide) (Nat.le_of_ble_eq_true rfl) i_Tr_size (fun X ok E hT => ?_)
  obtain rfl : gLa X = l := E.La
  exact kX_La_remove_1 ok hT rW_0 hm (gF_c E.nR (Nat.le_refl _) (by decide) (by decide) (by decide)) E (fun M' q => ⟨rfl, q⟩) (Nat.le_refl _) (Nat.le_refl _)
theorem wR_begin {v9 : Int32} (hm : mm_ l y_TS_begin w_TS_begin (rmh h) [.ref 0] (W9 c m o) (qC m o (fun r c' => r = some (.int v9) ∧ c' = c2))) : mm_ l y_La_begin w_La_begin (rmc (h + 1) 1 6) (.ref 0 :: ([] ++ [.ref 84])) (W9 c m o) (fun r M' => r = some (.int (nI 0)) ∧ M' = W9 c2 m (vp_updL o 0 v9.toInt64)) := by
  refine mmH_intro (by decide) (Nat.le_of_ble_eq_true rfl) i_Tr_size (fun X ok E hT => ?_)
  obtain rfl : gLa X = l := E.La
  refine k_La_begin_0 ok rW_0 hm (gF_c (c := 0) (s := 0) E.nR (Nat.le_refl _) (by decide) (by decide) (by decide)) (fun _ _ q => qC_len q) ?_
  rintro r M' ⟨c3, ⟨rfl, rfl⟩, rfl⟩
  refine k_La_begin_6 ok rW_84 (vin (nL 0) (by decide) (by decide)) sA_84 ?_
  exact k_La_begin_14 ok E ⟨rfl, rfl⟩ (Nat.zero_le _) (Nat.zero_le _)
theorem wX_begin_1 (hm : mx_ l y_TS_begin w_TS_begin (rmc h 1 6) [.ref 0] (W9 c m o) "java/lang/IllegalStateException" (fun M' => M' = W9 c2 m o)) : mm_ l y_La_begin w_La_begin (rmc (h + 1) 1 6) (.ref 0 :: ([] ++ [.ref 84])) (W9 c m o) (fun r M' => r = some (.int (nI 1)) ∧ M' = W9 c2 m o) := by
  refine mmH_intro (by decide) (Nat.le_of_ble_eq_true rfl) i_Tr_size (fun X ok E hT => ?_)
  obtain rfl : gLa X = l := E.La
  exact kX_La_begin_1 ok hT rW_0 hm (gF_c E.nR (Nat.le_refl _) (by decide) (by decide) (by decide)) E (fun M' q => ⟨rfl, q⟩) (Nat.le_refl _) (Nat.le_refl _)
theorem wR_commit {v9 : Int32} (hm : mm_ l y_TS_commit w_TS_commit (rmh h) [.ref 0] (W9 c m o) (qC m o (fun r c' => r = some (.int v9) ∧ c' = c2))) : mm_ l y_La_commit w_La_commit (rmc (h + 1) 1 6) (.ref 0 :: ([] ++ [.ref 84])) (W9 c m o) (fun r M' => r = some (.int (nI 0)) ∧ M' = W9 c2 m (vp_updL o 0 v9.toInt64)) := by
  refine mmH_intro (by decide) (Nat.le_of_ble_eq_true rfl) i_Tr_size (fun X ok E hT => ?_)
  obtain rfl : gLa X = l := E.La
  refine k_La_commit_0 ok rW_0 hm (gF_c (c := 0) (s := 0) E.nR (Nat.le_refl _) (by decide) (by decide) (by decide)) (fun _ _ q => qC_len q) ?_
  rintro r M' ⟨c3, ⟨rfl, rfl⟩, rfl⟩
  refine k_La_commit_6 ok rW_84 (vin (nL 0) (by decide) (by decide)) sA_84 ?_
  exact k_La_commit_14 ok E ⟨rfl, rfl⟩ (Nat.zero_le _) (Nat.zero_le _)
theorem wX_commit_1 (hm : mx_ l y_TS_commit w_TS_commit (rmc h 1 6) [.ref 0] (W9 c m o) "java/lang/IllegalStateException" (fun M' => M' = W9 c2 m o)) : mm_ l y_La_commit w_La_commit (rmc (h + 1) 1 6) (.ref 0 :: ([] ++ [.ref 84])) (W9 c m o) (fun r M' => r = some (.int (nI 1)) ∧ M' = W9 c2 m o) := by
  refine mmH_intro (by decide) (Nat.le_of_ble_eq_true rfl) i_Tr_size (fun X ok E hT => ?_)
  obtain rfl : gLa X = l := E.La
  exact kX_La_commit_1 ok hT rW_0 hm (gF_c E.nR (Nat.le_refl _) (by decide) (by decide) (by decide)) E (fun M' q => ⟨rfl, q⟩) (Nat.le_refl _) (Nat.le_refl _)
theorem wR_rollback {v9 : Int32} (hm : mm_ l y_TS_rollback w_TS_rollback (rmh h) [.ref 0] (W9 c m o) (qC m o (fun r c' => r = some (.int v9) ∧ c' = c2))) : mm_ l y_La_rollback w_La_rollback (rmc (h + 1) 1 6) (.ref 0 :: ([] ++ [.ref 84])) (W9 c m o) (fun r M' => r = some (.int (nI 0)) ∧ M' = W9 c2 m (vp_updL o 0 v9.toInt64)) := by
  refine mmH_intro (by decide) (Nat.le_of_ble_eq_true rfl) i_Tr_size (fun X ok E hT => ?_)
  obtain rfl : gLa X = l := E.La
  refine k_La_rollback_0 ok rW_0 hm (gF_c (c := 0) (s := 0) E.nR (Nat.le_refl _) (by decide) (by decide) (by decide)) (fun _ _ q => qC_len q) ?_
  rintro r M' ⟨c3, ⟨rfl, rfl⟩, rfl⟩
  refine k_La_rollback_6 ok rW_84 (vin (nL 0) (by decide) (by decide)) sA_84 ?_
  exact k_La_rollback_14 ok E ⟨rfl, rfl⟩ (Nat.zero_le _) (Nat.zero_le _)
theorem wX_rollback_1 (hm : mx_ l y_TS_rollback w_TS_rollback (rmc h 1 6) [.ref 0] (W9 c m o) "java/lang/IllegalStateException" (fun M' => M' = W9 c2 m o)) : mm_ l y_La_rollback w_La_rollback (rmc (h + 1) 1 6) (.ref 0 :: ([] ++ [.ref 84])) (W9 c m o) (fun r M' => r = some (.int (nI 1)) ∧ M' = W9 c2 m o) := by
  refine mmH_intro (by decide) (Nat.le_of_ble_eq_true rfl) i_Tr_size (fun X ok E hT => ?_)
  obtain rfl : gLa X = l := E.La
  exact kX_La_rollback_1 ok hT rW_0 hm (gF_c E.nR (Nat.le_refl _) (by decide) (by decide) (by decide)) E (fun M' q => ⟨rfl, q⟩) (Nat.le_refl _) (Nat.le_refl _)
theorem wR_crash {x : Int32} {v9 : Int32} (hm : mm_ l y_TS_crash w_TS_crash (rmh h) [.ref 0, .int x] (W9 c m o) (qC m o (fun r c' => r = some (.int v9) ∧ c' = c2))) : mm_ l y_La_crash w_La_crash (rmc (h + 1) 1 6) (.ref 0 :: ([.int x] ++ [.ref 84])) (W9 c m o) (fun r M' => r = some (.int (nI 0)) ∧ M' = W9 c2 m (vp_updL o 0 v9.toInt64)) := by
  refine mmH_intro (by decide) (Nat.le_of_ble_eq_true rfl) i_Tr_size (fun X ok E hT => ?_)
  obtain rfl : gLa X = l := E.La
  refine k_La_crash_0 ok rW_0 hm (gF_c (c := 0) (s := 0) E.nR (Nat.le_refl _) (by decide) (by decide) (by decide)) (fun _ _ q => qC_len q) ?_
  rintro r M' ⟨c3, ⟨rfl, rfl⟩, rfl⟩
  refine k_La_crash_7 ok rW_84 (vin (nL 0) (by decide) (by decide)) sA_84 ?_
  exact k_La_crash_15 ok E ⟨rfl, rfl⟩ (Nat.zero_le _) (Nat.zero_le _)
theorem wX_crash_1 {x : Int32} (hm : mx_ l y_TS_crash w_TS_crash (rmc h 1 6) [.ref 0, .int x] (W9 c m o) "java/lang/IllegalArgumentException" (fun M' => M' = W9 c2 m o)) : mm_ l y_La_crash w_La_crash (rmc (h + 1) 1 6) (.ref 0 :: ([.int x] ++ [.ref 84])) (W9 c m o) (fun r M' => r = some (.int (nI 1)) ∧ M' = W9 c2 m o) := by
  refine mmH_intro (by decide) (Nat.le_of_ble_eq_true rfl) i_Tr_size (fun X ok E hT => ?_)
  obtain rfl : gLa X = l := E.La
  exact kX_La_crash_1 ok hT rW_0 hm (gF_c E.nR (Nat.le_refl _) (by decide) (by decide) (by decide)) E (fun M' q => ⟨rfl, q⟩) (Nat.le_refl _) (Nat.le_refl _)
theorem wR_append {v : Int64} {x : Int32} {v9 : Int32} (hm : mm_ l y_TS_append w_TS_append (rmh h) [.ref 0, .long v, .int x] (W9 c m o) (qC m o (fun r c' => r = some (.int v9) ∧ c' = c2))) : mm_ l y_La_append w_La_append (rmc (h + 1) 1 6) (.ref 0 :: ([.long v, .int x] ++ [.ref 84])) (W9 c m o) (fun r M' => r = some (.int (nI 0)) ∧ M' = W9 c2 m (vp_updL o 0 v9.toInt64)) := by
  refine mmH_intro (by decide) (Nat.le_of_ble_eq_true rfl) i_Tr_size (fun X ok E hT => ?_)
  obtain rfl : gLa X = l := E.La
  refine k_La_append_0 ok rW_0 hm (gF_c (c := 0) (s := 0) E.nR (Nat.le_refl _) (by decide) (by decide) (by decide)) (fun _ _ q => qC_len q) ?_
  rintro r M' ⟨c3, ⟨rfl, rfl⟩, rfl⟩
  refine k_La_append_9 ok rW_84 (vin (nL 0) (by decide) (by decide)) sA_84 ?_
  exact k_La_append_22 ok E ⟨rfl, rfl⟩ (Nat.zero_le _) (Nat.zero_le _)
theorem wX_append_1 {v : Int64} {x : Int32} (hm : mx_ l y_TS_append w_TS_append (rmc h 1 6) [.ref 0, .long v, .int x] (W9 c m o) "java/lang/IllegalArgumentException" (fun M' => M' = W9 c2 m o)) : mm_ l y_La_append w_La_append (rmc (h + 1) 1 6) (.ref 0 :: ([.long v, .int x] ++ [.ref 84])) (W9 c m o) (fun r M' => r = some (.int (nI 1)) ∧ M' = W9 c2 m o) := by
  refine mmH_intro (by decide) (Nat.le_of_ble_eq_true rfl) i_Tr_size (fun X ok E hT => ?_)
  obtain rfl : gLa X = l := E.La
  exact kX_La_append_1 ok hT rW_0 hm (gF_c E.nR (Nat.le_refl _) (by decide) (by decide) (by decide)) E (fun M' q => ⟨rfl, q⟩) (Nat.le_refl _) (Nat.le_refl _)
theorem wX_append_2 {v : Int64} {x : Int32} (hm : mx_ l y_TS_append w_TS_append (rmc h 1 6) [.ref 0, .long v, .int x] (W9 c m o) "java/lang/IllegalStateException" (fun M' => M' = W9 c2 m o)) : mm_ l y_La_append w_La_append (rmc (h + 1) 1 6) (.ref 0 :: ([.long v, .int x] ++ [.ref 84])) (W9 c m o) (fun r M' => r = some (.int (nI 2)) ∧ M' = W9 c2 m o) := by
  refine mmH_intro (by decide) (Nat.le_of_ble_eq_true rfl) i_Tr_size (fun X ok E hT => ?_)
  obtain rfl : gLa X = l := E.La
  exact kX_La_append_2 ok hT rW_0 hm (gF_c E.nR (Nat.le_refl _) (by decide) (by decide) (by decide)) E (fun M' q => ⟨rfl, q⟩) (Nat.le_refl _) (Nat.le_refl _)
theorem wR_ask {v9 : Int32} (hm : mm_ l y_TS_ask w_TS_ask (rmh h) [.ref 0] (W9 c m o) (qC m o (fun r c' => r = some (.int v9) ∧ c' = c2))) : mm_ l y_La_ask w_La_ask (rmc (h + 1) 1 6) (.ref 0 :: ([] ++ [.ref 84])) (W9 c m o) (fun r M' => r = some (.int (nI 0)) ∧ M' = W9 c2 m (vp_updL o 0 v9.toInt64)) := by
  refine mmH_intro (by decide) (Nat.le_of_ble_eq_true rfl) i_Tr_size (fun X ok E hT => ?_)
  obtain rfl : gLa X = l := E.La
  refine k_La_ask_0 ok rW_0 hm (gF_c (c := 0) (s := 0) E.nR (Nat.le_refl _) (by decide) (by decide) (by decide)) (fun _ _ q => qC_len q) ?_
  rintro r M' ⟨c3, ⟨rfl, rfl⟩, rfl⟩
  refine k_La_ask_6 ok rW_84 (vin (nL 0) (by decide) (by decide)) sA_84 ?_
  exact k_La_ask_17 ok E ⟨rfl, rfl⟩ (Nat.zero_le _) (Nat.zero_le _)
theorem wX_ask_1 (hm : mx_ l y_TS_ask w_TS_ask (rmc h 1 6) [.ref 0] (W9 c m o) "java/lang/IllegalArgumentException" (fun M' => M' = W9 c2 m o)) : mm_ l y_La_ask w_La_ask (rmc (h + 1) 1 6) (.ref 0 :: ([] ++ [.ref 84])) (W9 c m o) (fun r M' => r = some (.int (nI 1)) ∧ M' = W9 c2 m o) := by
  refine mmH_intro (by decide) (Nat.le_of_ble_eq_true rfl) i_Tr_size (fun X ok E hT => ?_)
  obtain rfl : gLa X = l := E.La
  exact kX_La_ask_1 ok hT rW_0 hm (gF_c E.nR (Nat.le_refl _) (by decide) (by decide) (by decide)) E (fun M' q => ⟨rfl, q⟩) (Nat.le_refl _) (Nat.le_refl _)
theorem wX_ask_2 (hm : mx_ l y_TS_ask w_TS_ask (rmc h 1 6) [.ref 0] (W9 c m o) "java/lang/IllegalStateException" (fun M' => M' = W9 c2 m o)) : mm_ l y_La_ask w_La_ask (rmc (h + 1) 1 6) (.ref 0 :: ([] ++ [.ref 84])) (W9 c m o) (fun r M' => r = some (.int (nI 2)) ∧ M' = W9 c2 m o) := by
  refine mmH_intro (by decide) (Nat.le_of_ble_eq_true rfl) i_Tr_size (fun X ok E hT => ?_)
  obtain rfl : gLa X = l := E.La
  exact kX_La_ask_2 ok hT rW_0 hm (gF_c E.nR (Nat.le_refl _) (by decide) (by decide) (by decide)) E (fun M' q => ⟨rfl, q⟩) (Nat.le_refl _) (Nat.le_refl _)
theorem wR_count {x : Int32} {v9 : Int32} (hm : mm_ l y_TS_count w_TS_count (rmh h) [.ref 0, .int x] (W9 c m o) (qC m o (fun r c' => r = some (.int v9) ∧ c' = c2))) : mm_ l y_La_count w_La_count (rmc (h + 1) 1 6) (.ref 0 :: ([.int x] ++ [.ref 84])) (W9 c m o) (fun r M' => r = some (.int (nI 0)) ∧ M' = W9 c2 m (vp_updL o 0 v9.toInt64)) := by
  refine mmH_intro (by decide) (Nat.le_of_ble_eq_true rfl) i_Tr_size (fun X ok E hT => ?_)
  obtain rfl : gLa X = l := E.La
  refine k_La_count_0 ok rW_0 hm (gF_c (c := 0) (s := 0) E.nR (Nat.le_refl _) (by decide) (by decide) (by decide)) (fun _ _ q => qC_len q) ?_
  rintro r M' ⟨c3, ⟨rfl, rfl⟩, rfl⟩
  refine k_La_count_7 ok rW_84 (vin (nL 0) (by decide) (by decide)) sA_84 ?_
  exact k_La_count_15 ok E ⟨rfl, rfl⟩ (Nat.zero_le _) (Nat.zero_le _)
theorem wX_count_1 {x : Int32} (hm : mx_ l y_TS_count w_TS_count (rmc h 1 6) [.ref 0, .int x] (W9 c m o) "java/lang/IllegalArgumentException" (fun M' => M' = W9 c2 m o)) : mm_ l y_La_count w_La_count (rmc (h + 1) 1 6) (.ref 0 :: ([.int x] ++ [.ref 84])) (W9 c m o) (fun r M' => r = some (.int (nI 1)) ∧ M' = W9 c2 m o) := by
  refine mmH_intro (by decide) (Nat.le_of_ble_eq_true rfl) i_Tr_size (fun X ok E hT => ?_)
  obtain rfl : gLa X = l := E.La
  exact kX_La_count_1 ok hT rW_0 hm (gF_c E.nR (Nat.le_refl _) (by decide) (by decide) (by decide)) E (fun M' q => ⟨rfl, q⟩) (Nat.le_refl _) (Nat.le_refl _)
theorem wR_cell {x y : Int32} {v9 : Int64} (hm : mm_ l y_TS_cell w_TS_cell (rmh h) [.ref 0, .int x, .int y] (W9 c m o) (qC m o (fun r c' => r = some (.long v9) ∧ c' = c2))) : mm_ l y_La_cell2 w_La_cell2 (rmc (h + 1) 1 6) (.ref 0 :: ([.int x, .int y] ++ [.ref 84])) (W9 c m o) (fun r M' => r = some (.int (nI 0)) ∧ M' = W9 c2 m (vp_updL o 0 v9)) := by
  refine mmH_intro (by decide) (Nat.le_of_ble_eq_true rfl) i_Tr_size (fun X ok E hT => ?_)
  obtain rfl : gLa X = l := E.La
  refine k_La_cell2_0 ok rW_0 hm (gF_c (c := 0) (s := 0) E.nR (Nat.le_refl _) (by decide) (by decide) (by decide)) (fun _ _ q => qC_len q) ?_
  rintro r M' ⟨c3, ⟨rfl, rfl⟩, rfl⟩
  refine k_La_cell2_8 ok rW_84 (vin (nL 0) (by decide) (by decide)) sA_84 ?_
  exact k_La_cell2_20 ok E ⟨rfl, rfl⟩ (Nat.zero_le _) (Nat.zero_le _)
theorem wX_cell_1 {x y : Int32} (hm : mx_ l y_TS_cell w_TS_cell (rmc h 1 6) [.ref 0, .int x, .int y] (W9 c m o) "java/util/NoSuchElementException" (fun M' => M' = W9 c2 m o)) : mm_ l y_La_cell2 w_La_cell2 (rmc (h + 1) 1 6) (.ref 0 :: ([.int x, .int y] ++ [.ref 84])) (W9 c m o) (fun r M' => r = some (.int (nI 1)) ∧ M' = W9 c2 m o) := by
  refine mmH_intro (by decide) (Nat.le_of_ble_eq_true rfl) i_Tr_size (fun X ok E hT => ?_)
  obtain rfl : gLa X = l := E.La
  exact kX_La_cell2_1 ok hT rW_0 hm (gF_c E.nR (Nat.le_refl _) (by decide) (by decide) (by decide)) E (fun M' q => ⟨rfl, q⟩) (Nat.le_refl _) (Nat.le_refl _)
theorem wX_cell_2 {x y : Int32} (hm : mx_ l y_TS_cell w_TS_cell (rmc h 1 6) [.ref 0, .int x, .int y] (W9 c m o) "java/lang/UnsupportedOperationException" (fun M' => M' = W9 c2 m o)) : mm_ l y_La_cell2 w_La_cell2 (rmc (h + 1) 1 6) (.ref 0 :: ([.int x, .int y] ++ [.ref 84])) (W9 c m o) (fun r M' => r = some (.int (nI 2)) ∧ M' = W9 c2 m o) := by
  refine mmH_intro (by decide) (Nat.le_of_ble_eq_true rfl) i_Tr_size (fun X ok E hT => ?_)
  obtain rfl : gLa X = l := E.La
  exact kX_La_cell2_2 ok hT rW_0 hm (gF_c E.nR (Nat.le_refl _) (by decide) (by decide) (by decide)) E (fun M' q => ⟨rfl, q⟩) (Nat.le_refl _) (Nat.le_refl _)
end W2
