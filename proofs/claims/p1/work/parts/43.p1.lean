/-! THE FIRST CALL on new objects: both sides answer alike -/
section P1
variable {l : Launch} {o : Nat → Int64}
abbrev R0 : CS → MS → Prop := fun _ _ => True
theorem up0 (o : Nat → Int64) (v : Int64) : vp_updL o 0 v 0 = v := if_pos rfl
theorem p1_add (htr : l.stackTraces = false) (s p q : Int64) : Sim l R0 c0 m0 o y_La_add w_La_add [.long s, .long p, .long q] y_Mo_add w_Mo_add [.long s, .long p, .long q] := by
  have hm := fun (c : CS) (o : Nat → Int64) => mo_add (l := l) (c := c) (o := o) (m := m0) (hn := by decide) (hc := by decide) s p q
  cases hT : tT s p q with
  | false =>
    have hr : rT s p q = false := by rw [← tT_rT]; exact hT
    have e : m0.d_add s p q = (0, m0.u_cd 1) := by rw [MS.d_add, hr]; rfl
    exact ⟨1, 7, 4, c0, o, _, _, by decide, by decide, wX_add_1 (ts_addX htr s p q hT), hm _ _, by rw [e], by decide, (fun z => nomatch z), trivial⟩
  | true =>
    have hr : rT s p q = true := by rw [← tT_rT]; exact hT
    have e : m0.d_add s p q = (m0.u_cd 0).d_in s p q := by rw [MS.d_add, hr]; rfl
    have e1 : (m0.u_cd 0).d_in s p q = (1, ((((m0.u_cd 0).u_cd 0).d_put s p q).d_note true s p q).d_end) := by
      unfold MS.d_in
      rw [if_neg (by exact Nat.lt_irrefl 0), if_pos (by decide)]
    exact ⟨0, 6, 4, _, _, _, _, by decide, by decide, wR_add (ts_add (by decide) (by decide) s p q hT (fun _ => by decide)), hm _ _, by rw [e, e1]; rfl, by decide, fun _ => by rw [up0, e, e1]; rfl, trivial⟩
theorem p1_remove (htr : l.stackTraces = false) (s p q : Int64) : Sim l R0 c0 m0 o y_La_remove w_La_remove [.long s, .long p, .long q] y_Mo_remove w_Mo_remove [.long s, .long p, .long q] := by
  have hm := fun (c : CS) (o : Nat → Int64) => mo_remove (l := l) (c := c) (o := o) (m := m0) (hn := by decide) (hc := by decide) s p q
  cases hT : tT s p q with
  | false =>
    have hr : rT s p q = false := by rw [← tT_rT]; exact hT
    have e : m0.d_rem s p q = (0, m0.u_cd 1) := by rw [MS.d_rem, hr]; rfl
    exact ⟨1, 7, 4, c0, o, _, _, by decide, by decide, wX_remove_1 (ts_removeX htr s p q hT), hm _ _, by rw [e], by decide, (fun z => nomatch z), trivial⟩
  | true =>
    have hr : rT s p q = true := by rw [← tT_rT]; exact hT
    have e : m0.d_rem s p q = (m0.u_cd 0).d_out s p q := by rw [MS.d_rem, hr]; rfl
    have e1 : (m0.u_cd 0).d_out s p q = (0, m0.u_cd 0) := by
      unfold MS.d_out
      rw [if_neg (by exact Nat.lt_irrefl 0)]
    exact ⟨0, 6, 4, _, _, _, _, by decide, by decide, wR_remove (ts_remove (by decide) (by decide) s p q hT), hm _ _, by rw [e, e1], by decide, fun _ => by rw [up0, e, e1]; rfl, trivial⟩
theorem p1_begin : Sim l R0 c0 m0 o y_La_begin w_La_begin [] y_Mo_begin w_Mo_begin [] :=
  ⟨0, 3, 2, _, _, _, _, by decide, by decide, wR_begin (ts_begin rfl), mo_begin, rfl, by decide, fun _ => up0 _ _, trivial⟩
theorem p1_commit (htr : l.stackTraces = false) : Sim l R0 c0 m0 o y_La_commit w_La_commit [] y_Mo_commit w_Mo_commit [] :=
  ⟨1, 7, 2, c0, o, _, _, by decide, by decide, wX_commit_1 (ts_commitX htr rfl), mo_commit (by decide), rfl, by decide, (fun z => nomatch z), trivial⟩
theorem p1_rollback (htr : l.stackTraces = false) : Sim l R0 c0 m0 o y_La_rollback w_La_rollback [] y_Mo_rollback w_Mo_rollback [] :=
  ⟨1, 7, 4, c0, o, _, _, by decide, by decide, wX_rollback_1 (ts_rollbackX htr rfl), mo_rollback (by decide) (by decide) (fun z => nomatch z), rfl, by decide, (fun z => nomatch z), trivial⟩
theorem rI_f {x : Int32} (h : rI x 0 1000 = false) : x < 0 ∨ ¬ x ≤ 1000 := by
  unfold rI at h
  split at h
  · exact Or.inl (by assumption)
  · split at h
    · exact Or.inr (Int32.not_le.mpr (by assumption))
    · cases h
theorem p1_crash (htr : l.stackTraces = false) (x : Int32) : Sim l R0 c0 m0 o y_La_crash w_La_crash [.int x] y_Mo_crash w_Mo_crash [.int x] := by
  cases hx : rI x 0 1000 with
  | false => exact ⟨1, 7, 4, c0, o, _, _, by decide, by decide, wX_crash_1 (ts_crashX htr x (rI_f hx)), mo_crash0 x hx, rfl, by decide, (fun z => nomatch z), trivial⟩
  | true =>
    obtain ⟨j, -, hj, rfl⟩ := rI_nat (a := 0) (b := 1000) (by decide) (by decide) hx
    have e : (c0.sm - c0.su + min j c0.su) = 0 := by show 0 - 0 + min j 0 = 0; omega
    have hc := ts_crash (l := l) (c := c0) (m := m0) (o := o) j (by exact Nat.zero_le _) (by decide) hj (by decide) (by decide) (by exact trivial)
    exact ⟨0, 7, 4, _, _, _, _, by decide, by decide, wR_crash hc, mo_crash1 m0 j hj (by decide) (by decide) (fun z => nomatch z) trivial, rfl, by decide, fun _ => up0 _ _, trivial⟩
theorem p1_append (htr : l.stackTraces = false) (v : Int64) (x : Int32) : Sim l R0 c0 m0 o y_La_append w_La_append [.long v, .int x] y_Mo_append w_Mo_append [.long v, .int x] := by
  have hm := fun (c : CS) (o : Nat → Int64) => mo_append (l := l) (c := c) (o := o) (m := m0) v x (by decide)
  cases hx : rI x 1 8 with
  | false =>
    have e : m0.d_append v x = (0, m0.u_cd 1) := by rw [MS.d_append, hx]; rfl
    exact ⟨1, 7, 2, c0, o, _, _, by decide, by decide, wX_append_1 (ts_appendX htr v x (Or.inl hx)), hm _ _, by rw [e], by decide, (fun z => nomatch z), trivial⟩
  | true =>
    cases ha : apC v x.toNatClampNeg 0 with
    | false =>
      have e : m0.d_append v x = (0, m0.u_cd 1) := by rw [MS.d_append, if_pos hx, ha]; rfl
      exact ⟨1, 7, 2, c0, o, _, _, by decide, by decide, wX_append_1 (ts_appendX htr v x (Or.inr ha)), hm _ _, by rw [e], by decide, (fun z => nomatch z), trivial⟩
    | true =>
      obtain ⟨j, h1, h2, rfl⟩ := rI_nat (a := 1) (b := 8) (by decide) (by decide) hx
      have hj : (nI j).toNatClampNeg = j := nC rfl (by omega)
      have e : m0.d_append v (nI j) = (0 + j, MS.d_tx v j (m0.u_cd 0)) := by
        rw [MS.d_append, if_pos hx, if_pos ha, hj, if_pos (by show 0 + j ≤ 160; omega)]
        rfl
      rw [hj] at ha
      have ecd : (MS.d_tx v j (m0.u_cd 0)).cd = 0 := by
        have : ∀ k (m : MS), (MS.d_tx v k m).cd = m.cd := by
          intro k
          induction k with
          | zero => exact fun _ => rfl
          | succ k ih => exact fun m => ih _
        exact this j _
      exact ⟨0, 4, 2, _, _, _, _, by decide, by decide, wR_append (ts_append v j h1 h2 ha (by show 0 + j ≤ 160; omega)), hm _ _, by rw [e]; exact ecd, by decide, fun _ => by rw [up0, e]; rfl, trivial⟩
theorem p1_ask (htr : l.stackTraces = false) : Sim l R0 c0 m0 o y_La_ask w_La_ask [] y_Mo_ask w_Mo_ask [] :=
  ⟨1, 9, 4, c0.d_ask0, o, 0, m0.d_ask0, by decide, by decide, wX_ask_1 (ts_ask0 htr rfl), mo_ask0 rfl, rfl, by decide, (fun z => nomatch z), trivial⟩
theorem p1_count (htr : l.stackTraces = false) (x : Int32) : Sim l R0 c0 m0 o y_La_count w_La_count [.int x] y_Mo_count w_Mo_count [.int x] := by
  have hm := fun (c : CS) (o : Nat → Int64) => mo_count (l := l) (c := c) (o := o) (m := m0) x (fun z => nomatch z)
  cases hx : rI x 0 6 with
  | false =>
    have e : m0.d_count x = (0, m0.u_cd 1) := by rw [MS.d_count, hx]; rfl
    exact ⟨1, 7, 2, c0, o, _, _, by decide, by decide, wX_count_1 (ts_countX htr x hx), hm _ _, by rw [e], by decide, (fun z => nomatch z), trivial⟩
  | true =>
    have e : m0.d_count x = (m0.cnt x, m0.u_cd 0) := by rw [MS.d_count, if_pos hx]
    have e1 : m0.cnt x = 0 := by
      unfold MS.cnt
      repeat' split
      all_goals rfl
    have e2 : c0.cnt x = 0 := by
      unfold CS.cnt
      repeat' split
      all_goals rfl
    exact ⟨0, 4, 2, _, _, _, _, by decide, by decide, wR_count (ts_count (by decide) x hx), hm _ _, by rw [e], by decide, fun _ => by rw [up0, e, e1, e2], trivial⟩
theorem p1_cell (htr : l.stackTraces = false) (x y : Int32) : SimJ l R0 c0 m0 o y_La_cell2 w_La_cell2 [.int x, .int y] y_Mo_cell w_Mo_cell [.int x, .int y] := by
  have h1 : c0.has x y = false := by
    unfold CS.has
    split
    · rfl
    · rw [if_pos (Int32.not_lt.mp (by assumption) : nI c0.rn ≤ x)]
  have h2 : rI x 0 (nI m0.nr - 1) = false := by
    unfold rI
    split
    · rfl
    · rename_i z
      rw [if_pos]
      exact Int32.lt_of_lt_of_le (show nI m0.nr - 1 < 0 by decide) (Int32.not_lt.mp z)
  exact ⟨1, 9, 2, c0, o, _, _, by decide, by decide, wX_cell_1 (ts_cellX htr x y h1), mo_cell0 x y (Or.inl h2), rfl, by decide, (fun z => nomatch z), trivial⟩
theorem p1_sync : Sim0 l R0 c0 m0 o y_TS_sync w_TS_sync y_Mo_sync w_Mo_sync :=
  ⟨2, 4, _, _, _, by decide, by decide, ts_sync, mo_sync ⟨by decide, by decide, (fun z => nomatch z), trivial, trivial⟩, trivial⟩
theorem p1_fault : Sim0 l R0 c0 m0 o y_TS_fault w_TS_fault y_Mo_fault w_Mo_fault :=
  ⟨1, 1, _, _, _, by decide, by decide, ts_fault, mo_fault, trivial⟩
theorem p1_sims (htr : l.stackTraces = false) : SimsAt l R0 c0 m0 o :=
  ⟨p1_add htr, p1_remove htr, p1_begin, p1_commit htr, p1_rollback htr, p1_crash htr, p1_append htr, p1_ask htr, p1_count htr, p1_cell htr, p1_sync, p1_fault, trivial⟩
/-- a script of less than two calls -/
theorem law_one {X : gC} {Ln : Nat} {xs : Nat → Int32} (ok : gO X c_La_law "TripleStoreLaw" w_Tr_size) (S : gSc X Ln xs) (G : gLw X l) (htr : l.stackTraces = false) (hL : Ln ≤ 13) : gg X [] 0 0 0 [(0, .ref spl)] [] := by
  refine law_begin ok G ?_
  have ret : ∀ (k n : Nat) (M : List mC) (x : Int32), k ≤ 600002 → n ≤ 7302232 → gg X M k n 947 [(0, .ref spl), (1, .ref 0), (2, .ref 58), (3, .ref 84), (4, .int x)] [] := by
    intro k n M x hk hn
    refine g_iconst (v := 1) ok d_La_law_947 (by decide) ?_
    exact g_law1 ok G d_La_law_948 hk hn
  by_cases h7 : Ln < 7
  · refine k_La_law_23 ok S (fun _ => ret _ _ _ _ (by decide) (by decide)) (fun z => absurd ?_ z)
    have h1 : ∀ L, L < 7 → nI L - 7 < nI 0 := by decide
    exact h1 Ln h7
  · have e1 : nI Ln - 7 = nI (Ln - 7) := nS rfl (nL 7) (by omega)
    refine k_La_law_23 ok S (fun z => absurd z ?_) (fun _ => ?_)
    · rw [e1]
      exact nI_pos (by omega)
    refine ls_step (R := R0) ok S G (by omega) (by omega) (by decide) (by decide) (p1_sims htr) (fun c' m' o' _ => ?_)
    refine k_La_law_941 ok G.nL ?_
    refine k_La_law_23 ok S (fun _ => ret _ _ _ _ (by decide) (by decide)) (fun z => absurd ?_ z)
    rw [e1]
    exact nI_lt (a := Ln - 7) (b := 7) (by omega) (by decide)
end P1
