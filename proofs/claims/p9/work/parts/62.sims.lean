theorem up0 (o : Nat → Int64) (v : Int64) : vp_updL o 0 v 0 = v := if_pos rfl
theorem rI_f {x : Int32} (h : rI x 0 1000 = false) : x < 0 ∨ ¬ x ≤ 1000 := by
  unfold rI at h
  split at h
  · exact Or.inl (by assumption)
  · split at h
    · exact Or.inr (Int32.not_le.mpr (by assumption))
    · cases h
/-! EVERY CALL, on both sides: what the law's loop keeps -/
/-- the reference's rest beside its store -/
def RJ (m : MS) : Prop := m.ln ≤ 160 ∧ (∀ j, okv (m.sd j)) ∧ SI m ∧ RA m ∧ m.nr ≤ 150 ∧ m.nl ≤ 6 ∧ ∀ j, j < m.nl → ∃ v, v < 6 ∧ m.co j = nI v
theorem RJ.of {m m' : MS} (h1 : m'.1.2 = m.1.2) (h2 : m'.2.1 = m.2.1) (h3 : m'.2.2.1 = m.2.2.1) (h : RJ m) : RJ m' := by
  have q : RJ ((m'.1.1, m.1.2), (m.2.1, (m.2.2.1, m'.2.2.2))) := h
  rw [← h1, ← h2, ← h3] at q
  exact q
theorem CI.of {c c' : CS} (h1 : c'.1.2.1 = c.1.2.1) (h2 : c'.2 = c.2) (h : CI c) : CI c' := by
  have q : CI ((c'.1.1, (c.1.2.1, c'.1.2.2)), c.2) := h
  rw [← h1, ← h2] at q
  exact q
/-- t calls were made -/
def RL (t : Nat) (c : CS) (m : MS) : Prop := RS t c m ∧ m.of ≤ m.nc ∧ CI c ∧ RJ m ∧ c.ln = m.ln
theorem okT_nz {t : T3} (h : okT t) : ¬ t.1 = 0 ∧ ¬ t.2.1 = 0 ∧ ¬ t.2.2 = 0 := by
  have key : ∀ x : Int64, isT x → ¬ x = 0 := by
    rintro x (hx | hx) rfl
    · revert hx
      decide
    · revert hx
      decide
  obtain ⟨h1, h2, h3⟩ := okT_is h
  exact ⟨key _ h1, key _ h2, key _ h3⟩
theorem RS.nz {t : Nat} {c : CS} {m : MS} (h : RS t c m) : nzT m := by
  obtain ⟨-, h2, h3⟩ := h.2.2.2.1.1
  refine ⟨h3, fun j hj => ?_⟩
  obtain ⟨a1, a2, a3⟩ := okT_nz (h2 (j / 3) (by omega))
  have e : j = 3 * (j / 3) ∨ j = 3 * (j / 3) + 1 ∨ j = 3 * (j / 3) + 2 := by omega
  rcases e with e | e | e
  · rw [e]
    exact a1
  · rw [e]
    exact a2
  · rw [e]
    exact a3
theorem RL.ri {t : Nat} {c : CS} {m : MS} (h : RL t c m) : RI m := ⟨h.2.2.2.1.1, h.2.2.2.1.2.1, h.2.2.2.1.2.2.1, h.2.2.2.1.2.2.2.1, h.1.nz, h.2.2.2.1.2.2.2.2⟩
theorem RI.rj {m : MS} (h : RI m) : RJ m := ⟨h.1, h.2.1, h.2.2.1, h.2.2.2.1, h.2.2.2.2.2⟩
/-- a step of the stores -/
theorem RL.st {t t2 : Nat} {c c' : CS} {m m' : MS} (h : RL t c m) (hs : RS t2 c' m') (hf : m'.of ≤ m'.nc) (c1 : c'.1.2 = c.1.2) (c2 : c'.2 = c.2) (m1 : m'.1.2 = m.1.2) (m2 : m'.2.1 = m.2.1) (m3 : m'.2.2.1 = m.2.2.1) : RL t2 c' m' := by
  refine ⟨hs, hf, CI.of (by rw [c1]) c2 h.2.2.1, RJ.of m1 m2 m3 h.2.2.2.1, ?_⟩
  rw [ln_of (c1 := c) (by rw [c1])]
  have e : m'.ln = m.ln := congrArg (fun z : MS1 × MS2 => MS.ln ((m.1.1, z), m.2)) m1
  rw [e]
  exact h.2.2.2.2
theorem note_fr (c : CS) (b : Bool) (s p q : Int64) : (c.d_note b s p q).1.2 = c.1.2 ∧ (c.d_note b s p q).2 = c.2 := by
  unfold CS.d_note
  cases c.so <;> exact ⟨rfl, rfl⟩
theorem end_fr (m : MS) : m.d_end.1.2 = m.1.2 ∧ m.d_end.2 = m.2 ∧ m.d_end.of = m.of ∧ m.d_end.nc = m.nc := by
  unfold MS.d_end
  cases m.op <;> exact ⟨rfl, rfl, rfl, rfl⟩
theorem undo_nc : ∀ (k : Nat) (m : MS), (MS.d_undo k m).nc = m.nc - k
  | 0, _ => rfl
  | k + 1, m => by
    unfold MS.d_undo
    rw [undo_nc k]
    have e : m.d_un.nc = m.nc - 1 := app_nc _ _ _ _ _
    rw [e]
    omega
section SIMS
variable {l : Launch} {c : CS} {m : MS} {o : Nat → Int64} {t : Nat}
theorem sim_add (htr : l.stackTraces = false) (ht5 : t < 512) (h : RL t c m) (s p q : Int64) : Sim l (RL (t + 1)) c m o y_La_add w_La_add [.long s, .long p, .long q] y_Mo_add w_Mo_add [.long s, .long p, .long q] := by
  have hS := h.1
  have hgn := hS.1.2.1
  have hnc := hS.2.2.1.2.2.2
  have hm := fun (c : CS) (o : Nat → Int64) => mo_add (l := l) (c := c) (o := o) (m := m) (hn := hS.2.2.2.1.1.2.2) (hc := by omega) s p q
  have hcd : ∀ k, RL (t + 1) c (m.u_cd k) := fun k => h.st ((hS.cd k).mono (Nat.le_succ t)) h.2.1 rfl rfl rfl rfl rfl
  cases hT : tT s p q with
  | false =>
    have hr : rT s p q = false := by rw [← tT_rT]; exact hT
    have e : m.d_add s p q = (0, m.u_cd 1) := by rw [MS.d_add, hr]; rfl
    exact ⟨1, 7, 4, c, o, _, _, by decide, by decide, wX_add_1 (ts_addX htr s p q hT), hm _ _, by rw [e], by decide, (fun z => nomatch z), by rw [e]; exact hcd 1⟩
  | true =>
    have hr : rT s p q = true := by rw [← tT_rT]; exact hT
    have hok : okT (s, p, q) := hT
    have e : m.d_add s p q = (m.u_cd 0).d_in s p q := by rw [MS.d_add, hr]; rfl
    cases hf : c.fnd (hD s) (hD p) (hD q) with
    | some k =>
      have e1 := add_0 (hS.cd 0) hok (by rw [hf]; rfl)
      have e2 : c.d_add (hD s) (hD p) (hD q) = (0, c) := by
        unfold CS.d_add
        rw [hf]
        rfl
      refine ⟨0, 6, 4, _, _, _, _, by decide, by decide, wR_add (ts_add hS.1.1.2 (by omega) s p q hT (fun z => by rw [hf] at z; cases z)), hm _ _, by rw [e, e1], by decide, fun _ => by rw [up0, e, e1, e2], ?_⟩
      rw [e, e1, e2]
      exact hcd 0
    | none =>
      by_cases hn : c.tn < 48
      · obtain ⟨e2, e3, e4, e5⟩ := add_1 (t := t) (by omega) (hS.cd 0) hok hf hn
        refine ⟨0, 6, 4, _, _, _, _, by decide, by decide, wR_add (ts_add hS.1.1.2 (by omega) s p q hT (fun _ => hn)), hm _ _, by rw [e, e4], by decide, fun _ => by rw [up0, e, e3, e2], ?_⟩
        rw [e]
        have em : (m.u_cd 0).d_in s p q = (1, ((((m.u_cd 0).u_cd 0).d_put s p q).d_note true s p q).d_end) := by
          unfold MS.d_in
          rw [if_neg (fnd_no (hS.cd 0) hok hf).2, if_pos (by have := hS.nt; show m.nt < 48; omega)]
        have f1 := note_fr (c.tput (hD s) (hD p) (hD q)) true (hD s) (hD p) (hD q)
        have f2 := end_fr ((((m.u_cd 0).u_cd 0).d_put s p q).d_note true s p q)
        refine h.st e5 ?_ ?_ ?_ ?_ ?_ ?_
        · rw [em]
          show MS.of (MS.d_end _) ≤ MS.nc (MS.d_end _)
          rw [f2.2.2.1, f2.2.2.2]
          exact Nat.le_succ_of_le h.2.1
        · rw [e2]
          exact f1.1
        · rw [e2]
          exact f1.2
        · rw [em]
          exact f2.1
        · rw [em]
          show (MS.d_end _).2.1 = _
          rw [f2.2.1]
        · rw [em]
          show (MS.d_end _).2.2.1 = _
          rw [f2.2.1]
      · have e1 := add_2 (hS.cd 0) hok hf (by omega)
        refine ⟨2, 7, 4, c, o, _, _, by decide, by decide, wX_add_2 (ts_addF htr hS.1.1.2 s p q hT hf (by omega)), hm _ _, by rw [e, e1], by decide, (fun z => nomatch z), ?_⟩
        rw [e, e1]
        exact hcd 2
theorem sim_remove (htr : l.stackTraces = false) (ht5 : t < 512) (h : RL t c m) (s p q : Int64) : Sim l (RL (t + 1)) c m o y_La_remove w_La_remove [.long s, .long p, .long q] y_Mo_remove w_Mo_remove [.long s, .long p, .long q] := by
  have hS := h.1
  have hgn := hS.1.2.1
  have hnc := hS.2.2.1.2.2.2
  have hm := fun (c : CS) (o : Nat → Int64) => mo_remove (l := l) (c := c) (o := o) (m := m) (hn := hS.2.2.2.1.1.2.2) (hc := by omega) s p q
  have hcd : ∀ k, RL (t + 1) c (m.u_cd k) := fun k => h.st ((hS.cd k).mono (Nat.le_succ t)) h.2.1 rfl rfl rfl rfl rfl
  cases hT : tT s p q with
  | false =>
    have hr : rT s p q = false := by rw [← tT_rT]; exact hT
    have e : m.d_rem s p q = (0, m.u_cd 1) := by rw [MS.d_rem, hr]; rfl
    exact ⟨1, 7, 4, c, o, _, _, by decide, by decide, wX_remove_1 (ts_removeX htr s p q hT), hm _ _, by rw [e], by decide, (fun z => nomatch z), by rw [e]; exact hcd 1⟩
  | true =>
    have hr : rT s p q = true := by rw [← tT_rT]; exact hT
    have hok : okT (s, p, q) := hT
    have e : m.d_rem s p q = (m.u_cd 0).d_out s p q := by rw [MS.d_rem, hr]; rfl
    cases hf : c.fnd (hD s) (hD p) (hD q) with
    | none =>
      obtain ⟨e2, e1⟩ := rem_0 (hS.cd 0) hok hf
      refine ⟨0, 6, 4, _, _, _, _, by decide, by decide, wR_remove (ts_remove hS.1.1.2 (by omega) s p q hT), hm _ _, by rw [e, e1], by decide, fun _ => by rw [up0, e, e1, e2], ?_⟩
      rw [e, e1, e2]
      exact hcd 0
    | some k =>
      obtain ⟨e2, e3, e4, e5⟩ := rem_1 (t := t) (by omega) (hS.cd 0) hok hf
      refine ⟨0, 6, 4, _, _, _, _, by decide, by decide, wR_remove (ts_remove hS.1.1.2 (by omega) s p q hT), hm _ _, by rw [e, e4], by decide, fun _ => by rw [up0, e, e3, e2], ?_⟩
      rw [e]
      have h1 : Sc c c.gn (H3 (s, p, q)) := (fnd_iff hS.1.1.1 _ _ _).mp (by rw [hf]; rfl)
      have h2 := (fd3_iff hS.2.2.2.1.1.1 hS.2.2.2.1.1.2.1 hok).mpr h1
      have em : (m.u_cd 0).d_out s p q = (1, (((m.u_cd 0).d_cut (fd3 m.tr s p q m.nt 0)).d_note false s p q).d_end) := by
        unfold MS.d_out
        rw [if_pos (by exact h2)]
      have ec : c.d_del (hD s) (hD p) (hD q) = (1, (c.tcut k).d_note false (hD s) (hD p) (hD q)) := by
        unfold CS.d_del
        rw [hf]
      have f1 := note_fr (c.tcut k) false (hD s) (hD p) (hD q)
      have f2 := end_fr (((m.u_cd 0).d_cut (fd3 m.tr s p q m.nt 0)).d_note false s p q)
      refine h.st e5 ?_ ?_ ?_ ?_ ?_ ?_
      · rw [em]
        show MS.of (MS.d_end _) ≤ MS.nc (MS.d_end _)
        rw [f2.2.2.1, f2.2.2.2]
        exact Nat.le_succ_of_le h.2.1
      · rw [ec]
        exact f1.1
      · rw [ec]
        exact f1.2
      · rw [em]
        exact f2.1
      · rw [em]
        show (MS.d_end _).2.1 = _
        rw [f2.2.1]
      · rw [em]
        show (MS.d_end _).2.2.1 = _
        rw [f2.2.1]
theorem sim_begin (htr : l.stackTraces = false) (h : RL t c m) : Sim l (RL (t + 1)) c m o y_La_begin w_La_begin [] y_Mo_begin w_Mo_begin [] := by
  have hS := h.1
  have hop := hS.2.2.1.2.2.1
  cases hs : c.so with
  | false =>
    have e : m.d_begin = (m.cm, ((m.u_cd 0).u_op true).u_of m.nc) := by
      unfold MS.d_begin
      rw [hop, hs]
      rfl
    refine ⟨0, 3, 2, _, _, _, _, by decide, by decide, wR_begin (ts_begin hs), mo_begin, by rw [e], by decide, fun _ => by rw [up0, e, hS.2.2.1.1], ?_⟩
    rw [e]
    exact h.st ((RS_begin (hS.cd 0) hs).mono (Nat.le_succ t)) (Nat.le_refl _) rfl rfl rfl rfl rfl
  | true =>
    have e : m.d_begin = (0, m.u_cd 1) := by
      unfold MS.d_begin
      rw [hop, hs]
      rfl
    refine ⟨1, 7, 2, c, o, _, _, by decide, by decide, wX_begin_1 (ts_beginX htr hs), mo_begin, by rw [e], by decide, (fun z => nomatch z), ?_⟩
    rw [e]
    exact h.st ((hS.cd 1).mono (Nat.le_succ t)) h.2.1 rfl rfl rfl rfl rfl
theorem sim_commit (htr : l.stackTraces = false) (h : RL t c m) : Sim l (RL (t + 1)) c m o y_La_commit w_La_commit [] y_Mo_commit w_Mo_commit [] := by
  have hS := h.1
  have hop := hS.2.2.1.2.2.1
  cases hs : c.so with
  | true =>
    have e : m.d_commit = (m.nc - m.of, (m.u_cd 0).d_close) := by
      unfold MS.d_commit
      rw [hop, hs]
      rfl
    have e2 : m.nc - m.of = c.sc := by
      have g := hS.2.2.2.2.2
      have g5 := g.2.2.2.2 hs
      have g1 := g.1
      omega
    refine ⟨0, 4, 2, _, _, _, _, by decide, by decide, wR_commit (ts_commit hs), mo_commit h.2.1, by rw [e], by decide, fun _ => by rw [up0, e, e2], ?_⟩
    rw [e]
    exact h.st (RS_commit (hS.cd 0)) h.2.1 rfl rfl rfl rfl rfl
  | false =>
    have e : m.d_commit = (0, m.u_cd 1) := by
      unfold MS.d_commit
      rw [hop, hs]
      rfl
    refine ⟨1, 7, 2, c, o, _, _, by decide, by decide, wX_commit_1 (ts_commitX htr hs), mo_commit h.2.1, by rw [e], by decide, (fun z => nomatch z), ?_⟩
    rw [e]
    exact h.st ((hS.cd 1).mono (Nat.le_succ t)) h.2.1 rfl rfl rfl rfl rfl
theorem sim_rollback (htr : l.stackTraces = false) (ht5 : t < 512) (h : RL t c m) : Sim l (RL (t + 1)) c m o y_La_rollback w_La_rollback [] y_Mo_rollback w_Mo_rollback [] := by
  have hS := h.1
  have hop := hS.2.2.1.2.2.1
  have hgn := hS.1.2.1
  have hnc := hS.2.2.1.2.2.2
  cases hs : c.so with
  | true =>
    obtain ⟨a1, a2, a3, a4, a5, a6, a7⟩ := RS_rollback (t := t) (by omega) (hS.cd 0) hs
    have e : m.d_rollback = (m.nc - m.of, (MS.d_undo (m.nc - m.of) (m.u_cd 0)).u_op false) := by
      unfold MS.d_rollback
      rw [hop, hs]
      rfl
    have e3 : m.nc - m.of = c.sc := a3
    refine ⟨0, 7, 4, _, _, _, _, by decide, by decide, wR_rollback (ts_rollback hs (by omega) a1), mo_rollback h.2.1 (by omega) (fun _ => a2), ?_, by decide, fun _ => by rw [up0, e, e3], ?_⟩
    · rw [e]
      show (MS.d_undo _ _).2.2.2 = 0
      rw [a7.2.2.2]
    · rw [e]
      refine h.st (a5.mono (Nat.le_succ t)) ?_ a6.2.2.2.2.2.2.1 a6.2.2.2.2.2.2.2 a7.2.2.1 ?_ ?_
      · show (MS.d_undo _ _).of ≤ (MS.d_undo _ _).nc
        rw [a7.2.1.2.2.2, undo_nc]
        show m.of ≤ m.nc - (m.nc - m.of)
        have := h.2.1
        omega
      · show (MS.d_undo _ _).2.1 = _
        rw [a7.2.2.2]
      · show (MS.d_undo _ _).2.2.1 = _
        rw [a7.2.2.2]
  | false =>
    have e : m.d_rollback = (0, m.u_cd 1) := by
      unfold MS.d_rollback
      rw [hop, hs]
      rfl
    refine ⟨1, 7, 4, c, o, _, _, by decide, by decide, wX_rollback_1 (ts_rollbackX htr hs), mo_rollback h.2.1 (by omega) (fun z => by rw [hop, hs] at z; cases z), by rw [e], by decide, (fun z => nomatch z), ?_⟩
    rw [e]
    exact h.st ((hS.cd 1).mono (Nat.le_succ t)) h.2.1 rfl rfl rfl rfl rfl
theorem sim_crash (htr : l.stackTraces = false) (ht5 : t < 512) (h : RL t c m) (x : Int32) : Sim l (RL (t + 1)) c m o y_La_crash w_La_crash [.int x] y_Mo_crash w_Mo_crash [.int x] := by
  have hS := h.1
  have hgn := hS.1.2.1
  have hnc := hS.2.2.1.2.2.2
  have hsm := hS.2.1.2.2.2
  cases hx : rI x 0 1000 with
  | false =>
    refine ⟨1, 7, 4, c, o, _, _, by decide, by decide, wX_crash_1 (ts_crashX htr x (rI_f hx)), mo_crash0 x hx, rfl, by decide, (fun z => nomatch z), ?_⟩
    exact h.st ((hS.cd 1).mono (Nat.le_succ t)) h.2.1 rfl rfl rfl rfl rfl
  | true =>
    obtain ⟨j, -, hj, rfl⟩ := rI_nat (a := 0) (b := 1000) (by decide) (by decide) hx
    obtain ⟨a1, a2, a3, a4, a5, a6, a7, a8, a9, a10⟩ := RS_crash j hj (by omega) hS
    have hc := ts_crash (l := l) (c := c) (m := m) (o := o) j a2 (by omega) hj hS.2.1.2.2.1 (by omega) a1
    have e : (m.d_crash j).nt = (CS.d_uf (c.sm - c.su + min j c.su) c.gn c).tn := a9.nt
    refine ⟨0, 7, 4, _, _, _, _, by decide, by decide, wR_crash hc, mo_crash1 m j hj a3 (by omega) (fun _ => h.2.1) a4, a5, by decide, fun _ => by rw [up0, e], ?_⟩
    refine h.st (a9.mono (Nat.le_succ t)) ?_ a10.2.2.2.2.2.2.1 a10.2.2.2.2.2.2.2 a6 a7 a8
    exact Nat.zero_le _
theorem tx_fr (v : Int64) : ∀ k (c : CS), (CS.d_tx v k c).1.1 = c.1.1 ∧ (CS.d_tx v k c).2 = c.2
  | 0, _ => ⟨rfl, rfl⟩
  | k + 1, c => by
    unfold CS.d_tx
    obtain ⟨h1, h2⟩ := tx_fr v k ((c.u_tx (upd c.tx c.ln (rC v k))).u_ln (c.ln + 1))
    exact ⟨h1, h2⟩
theorem txm_fr (v : Int64) : ∀ k (m : MS), (MS.d_tx v k m).1.1 = m.1.1 ∧ (MS.d_tx v k m).1.2.2 = m.1.2.2 ∧ (MS.d_tx v k m).2 = m.2
  | 0, _ => ⟨rfl, rfl, rfl⟩
  | k + 1, m => by
    unfold MS.d_tx
    obtain ⟨h1, h2, h3⟩ := txm_fr v k ((m.u_tx (upd m.tx m.ln (rC v k))).u_ln (m.ln + 1))
    exact ⟨h1, h2, h3⟩
theorem sim_append (htr : l.stackTraces = false) (h : RL t c m) (v : Int64) (x : Int32) : Sim l (RL (t + 1)) c m o y_La_append w_La_append [.long v, .int x] y_Mo_append w_Mo_append [.long v, .int x] := by
  have hS := h.1
  have hln := h.2.2.2.2
  have hl := h.2.2.2.1.1
  have hm := fun (c : CS) (o : Nat → Int64) => mo_append (l := l) (c := c) (o := o) (m := m) v x hl
  have hcd : ∀ k, RL (t + 1) c (m.u_cd k) := fun k => h.st ((hS.cd k).mono (Nat.le_succ t)) h.2.1 rfl rfl rfl rfl rfl
  cases hx : rI x 1 8 with
  | false =>
    have e : m.d_append v x = (0, m.u_cd 1) := by rw [MS.d_append, hx]; rfl
    exact ⟨1, 7, 2, c, o, _, _, by decide, by decide, wX_append_1 (ts_appendX htr v x (Or.inl hx)), hm _ _, by rw [e], by decide, (fun z => nomatch z), by rw [e]; exact hcd 1⟩
  | true =>
    cases ha : apC v x.toNatClampNeg 0 with
    | false =>
      have e : m.d_append v x = (0, m.u_cd 1) := by rw [MS.d_append, if_pos hx, ha]; rfl
      exact ⟨1, 7, 2, c, o, _, _, by decide, by decide, wX_append_1 (ts_appendX htr v x (Or.inr ha)), hm _ _, by rw [e], by decide, (fun z => nomatch z), by rw [e]; exact hcd 1⟩
    | true =>
      obtain ⟨j, h1, h2, rfl⟩ := rI_nat (a := 1) (b := 8) (by decide) (by decide) hx
      have hj : (nI j).toNatClampNeg = j := nC rfl (by omega)
      have ha2 := ha
      rw [hj] at ha2
      by_cases h9 : m.ln + j ≤ 160
      · have e : m.d_append v (nI j) = (m.ln + j, MS.d_tx v j (m.u_cd 0)) := by
          rw [MS.d_append, if_pos hx, if_pos ha, hj, if_pos h9]
        obtain ⟨f1, f2⟩ := tx_fr v j c
        obtain ⟨g1, g2, g3⟩ := txm_fr v j (m.u_cd 0)
        have l1 := ctx_ln v j c
        have l2 : (MS.d_tx v j (m.u_cd 0)).ln = m.ln + j := tx_ln v j (m.u_cd 0)
        refine ⟨0, 4, 2, _, _, _, _, by decide, by decide, wR_append (ts_append v j h1 h2 ha2 (by omega)), hm _ _, ?_, by decide, fun _ => by rw [up0, e, hln], ?_⟩
        · rw [e]
          show (MS.d_tx v j (m.u_cd 0)).2.2.2 = 0
          rw [g3]
        · rw [e]
          have hr := h.2.2.2.1
          refine ⟨(hS.of f1 g1).mono (Nat.le_succ t), ?_, ?_, ?_, by rw [l1, l2, hln]⟩
          · have q : ∀ z : MS0, z = m.1.1 → MS.of ((z, m.1.2), m.2) ≤ MS.nc ((z, m.1.2), m.2) := fun z hz => by rw [hz]; exact h.2.1
            exact q _ g1
          · obtain ⟨i1, i2, i3, i4, -⟩ := h.2.2.1
            refine ⟨fun i hi => ?_, si_of (c1 := c) (by rw [f2]) i2, ?_, ?_, by omega⟩
            · rw [qx_of (c1 := c) (by rw [f2])]
              exact i1 i hi
            · rw [rc_of (c1 := c) (by rw [f2])]
              exact i3
            · rw [rn_of (c1 := c) (by rw [f2])]
              exact i4
          · have q : RJ ((m.1.1, ((m.1.2.1.1, (m.ln + j, m.1.2.1.2.2)), m.1.2.2)), m.2) := ⟨h9, hr.2⟩
            obtain ⟨r1, r2⟩ := q
            refine ⟨by rw [l2]; exact h9, ?_⟩
            have w : ∀ (z : MS2) (y : MS3 × (MS4 × MS5)), z = m.1.2.2 → y = m.2 → (∀ j, okv (MS.sd ((m.1.1, (m.1.2.1, z)), y) j)) ∧ SI ((m.1.1, (m.1.2.1, z)), y) ∧ RA ((m.1.1, (m.1.2.1, z)), y) ∧ MS.nr ((m.1.1, (m.1.2.1, z)), y) ≤ 150 ∧ MS.nl ((m.1.1, (m.1.2.1, z)), y) ≤ 6 ∧ ∀ j, j < MS.nl ((m.1.1, (m.1.2.1, z)), y) → ∃ v, v < 6 ∧ MS.co ((m.1.1, (m.1.2.1, z)), y) j = nI v := fun z y hz hy => by
              rw [hz, hy]
              exact hr.2
            have g4 : (MS.d_tx v j (m.u_cd 0)).2 = (m.u_cd 0).2 := g3
            have w2 : (∀ j, okv (MS.sd ((m.1.1, (m.1.2.1, m.1.2.2)), (m.u_cd 0).2) j)) ∧ SI ((m.1.1, (m.1.2.1, m.1.2.2)), (m.u_cd 0).2) ∧ RA ((m.1.1, (m.1.2.1, m.1.2.2)), (m.u_cd 0).2) ∧ MS.nr ((m.1.1, (m.1.2.1, m.1.2.2)), (m.u_cd 0).2) ≤ 150 ∧ MS.nl ((m.1.1, (m.1.2.1, m.1.2.2)), (m.u_cd 0).2) ≤ 6 ∧ ∀ j, j < MS.nl ((m.1.1, (m.1.2.1, m.1.2.2)), (m.u_cd 0).2) → ∃ v, v < 6 ∧ MS.co ((m.1.1, (m.1.2.1, m.1.2.2)), (m.u_cd 0).2) j = nI v := hr.2
            rw [← g4] at w2
            have g5 : m.1.2.2 = (MS.d_tx v j (m.u_cd 0)).1.2.2 := g2.symm
            rw [g5] at w2
            exact w2
      · have e : m.d_append v (nI j) = (0, m.u_cd 2) := by
          rw [MS.d_append, if_pos hx, if_pos ha, hj, if_neg h9]
        exact ⟨2, 7, 2, c, o, _, _, by decide, by decide, wX_append_2 (ts_appendF htr v j h1 h2 ha2 (by omega) (by omega)), hm _ _, by rw [e], by decide, (fun z => nomatch z), by rw [e]; exact hcd 2⟩
theorem sim_sync (ht5 : t < 512) (h : RL t c m) : Sim0 l (RL (t + 1)) c m o y_TS_sync w_TS_sync y_Mo_sync w_Mo_sync := by
  obtain ⟨a1, a2, a3, a4⟩ := RS_sync (by omega) (h.1.cd 0)
  have e : m.us = c.su := h.1.2.2.1.2.1
  refine ⟨2, 4, _, _, _, by decide, by decide, ts_sync, by rw [← e]; exact mo_sync a1, ?_⟩
  refine h.st (a2.mono (Nat.le_succ t)) (Nat.zero_le _) rfl rfl a3 ?_ ?_
  · rw [a4]
  · rw [a4]
/-! calls whose answers are not held against each other -/
def SimU (l : Launch) (R : CS → MS → Prop) (c : CS) (m : MS) (o : Nat → Int64) (yW : MethodName) (wW : List Cond) (AW : List Value) (yM : MethodName) (wM : List Cond) (AM : List Value) : Prop :=
  ∃ (h h2 : Nat) (pC : CS → (Nat → Int64) → Prop), h ≤ 200 ∧ h2 ≤ 200 ∧ mm_ l yW wW (rmc h 1 6) (.ref 0 :: (AW ++ [.ref 84])) (W9 c m o) (fun r M' => ∃ k c' o', r = some (.int k) ∧ pC c' o' ∧ M' = W9 c' m o') ∧ ∀ c' o', pC c' o' → mm_ l yM wM (rmh h2) (.ref 58 :: AM) (W9 c' m o') (qM c' o' (fun r m2 => (∃ b, r = some (.int b)) ∧ R c' m2))
def SimUJ (l : Launch) (R : CS → MS → Prop) (c : CS) (m : MS) (o : Nat → Int64) (yW : MethodName) (wW : List Cond) (AW : List Value) (yM : MethodName) (wM : List Cond) (AM : List Value) : Prop :=
  ∃ (h h2 : Nat) (pC : CS → (Nat → Int64) → Prop), h ≤ 200 ∧ h2 ≤ 200 ∧ mm_ l yW wW (rmc h 1 6) (.ref 0 :: (AW ++ [.ref 84])) (W9 c m o) (fun r M' => ∃ k c' o', r = some (.int k) ∧ pC c' o' ∧ M' = W9 c' m o') ∧ ∀ c' o', pC c' o' → mm_ l yM wM (rmh h2) (.ref 58 :: AM) (W9 c' m o') (qM c' o' (fun r m2 => (∃ b, r = some (.long b)) ∧ R c' m2))
def SimU0 (l : Launch) (R : CS → MS → Prop) (c : CS) (m : MS) (o : Nat → Int64) (yW : MethodName) (wW : List Cond) (yM : MethodName) (wM : List Cond) : Prop :=
  ∃ (h h2 : Nat) (pC : CS → Prop), h ≤ 200 ∧ h2 ≤ 200 ∧ mm_ l yW wW (rmh h) [.ref 0] (W9 c m o) (qC m o (fun r c2 => (∃ b, r = some (.int b)) ∧ pC c2)) ∧ ∀ c', pC c' → mm_ l yM wM (rmh h2) [.ref 58] (W9 c' m o) (qM c' o (fun r m2 => (∃ b, r = some (.int b)) ∧ R c' m2))
variable {R : CS → MS → Prop} {yW yM : MethodName} {wW wM : List Cond} {AW AM : List Value}
theorem Sim.u (h : Sim l R c m o yW wW AW yM wM AM) : SimU l R c m o yW wW AW yM wM AM := by
  obtain ⟨k, h, h2, c', o', b, m', a1, a2, a3, a4, a5, a6, a7, a8⟩ := h
  refine ⟨h, h2, fun c2 o2 => c2 = c' ∧ o2 = o', a1, a2, mm_imp a3 (fun r M' q => ⟨_, _, _, q.1, ⟨rfl, rfl⟩, q.2⟩), ?_⟩
  rintro c2 o2 ⟨rfl, rfl⟩
  exact mm_imp a4 (fun r M' q => by
    obtain ⟨m2, ⟨q1, rfl⟩, q3⟩ := q
    exact ⟨m2, ⟨⟨_, q1⟩, a8⟩, q3⟩)
theorem Sim0.u (h : Sim0 l R c m o yW wW yM wM) : SimU0 l R c m o yW wW yM wM := by
  obtain ⟨h, h2, c', b, m', a1, a2, a3, a4, a5⟩ := h
  refine ⟨h, h2, fun c2 => c2 = c', a1, a2, mm_imp a3 (fun r M' q => ?_), ?_⟩
  · obtain ⟨c2, ⟨q1, q2⟩, q3⟩ := q
    exact ⟨c2, ⟨⟨_, q1⟩, q2⟩, q3⟩
  · rintro c2 rfl
    exact mm_imp a4 (fun r M' q => by
      obtain ⟨m2, ⟨q1, rfl⟩, q3⟩ := q
      exact ⟨m2, ⟨⟨_, q1⟩, a5⟩, q3⟩)
theorem sim_fault (h : RL t c m) : SimU0 l (RL (t + 1)) c m o y_TS_fault w_TS_fault y_Mo_fault w_Mo_fault := by
  refine ⟨1, 1, fun c2 => c2 = c, by decide, by decide, mm_imp ts_fault (fun r M' q => ?_), ?_⟩
  · obtain ⟨c2, ⟨q1, q2⟩, q3⟩ := q
    exact ⟨c2, ⟨⟨_, q1⟩, q2⟩, q3⟩
  · rintro c2 rfl
    exact mm_imp mo_fault (fun r M' q => by
      obtain ⟨m2, ⟨q1, rfl⟩, q3⟩ := q
      exact ⟨_, ⟨⟨_, q1⟩, h.st ((h.1.cd 0).mono (Nat.le_succ t)) h.2.1 rfl rfl rfl rfl rfl⟩, q3⟩)
theorem sim_count (htr : l.stackTraces = false) (h : RL t c m) (x : Int32) : SimU l (RL (t + 1)) c m o y_La_count w_La_count [.int x] y_Mo_count w_Mo_count [.int x] := by
  have hS := h.1
  have hm : ∀ (c' : CS) (o' : Nat → Int64), c' = c → mm_ l y_Mo_count w_Mo_count (rmh 2) (.ref 58 :: [.int x]) (W9 c' m o') (qM c' o' (fun r m2 => (∃ b, r = some (.int b)) ∧ RL (t + 1) c' m2)) := by
    rintro c' o' rfl
    refine mm_imp (mo_count x (fun _ => h.2.1)) (fun r M' q => ?_)
    obtain ⟨m2, ⟨q1, rfl⟩, q3⟩ := q
    refine ⟨_, ⟨⟨_, q1⟩, ?_⟩, q3⟩
    unfold MS.d_count
    split
    · exact h.st ((h.1.cd 0).mono (Nat.le_succ t)) h.2.1 rfl rfl rfl rfl rfl
    · exact h.st ((h.1.cd 1).mono (Nat.le_succ t)) h.2.1 rfl rfl rfl rfl rfl
  cases hx : rI x 0 6 with
  | false => exact ⟨7, 2, fun c2 _ => c2 = c, by decide, by decide, mm_imp (wX_count_1 (ts_countX htr x hx)) (fun r M' q => ⟨_, _, _, q.1, rfl, q.2⟩), hm⟩
  | true => exact ⟨4, 2, fun c2 _ => c2 = c, by decide, by decide, mm_imp (wR_count (ts_count hS.1.1.2 x hx)) (fun r M' q => ⟨_, _, _, q.1, rfl, q.2⟩), hm⟩
theorem sim_cell (htr : l.stackTraces = false) (h : RL t c m) (x y : Int32) : SimUJ l (RL (t + 1)) c m o y_La_cell2 w_La_cell2 [.int x, .int y] y_Mo_cell w_Mo_cell [.int x, .int y] := by
  have hcd : ∀ k, RL (t + 1) c (m.u_cd k) := fun k => h.st ((h.1.cd k).mono (Nat.le_succ t)) h.2.1 rfl rfl rfl rfl rfl
  obtain ⟨-, -, -, -, r1, r2, r3⟩ := h.2.2.2.1
  have hm : ∀ (c' : CS) (o' : Nat → Int64), c' = c → mm_ l y_Mo_cell w_Mo_cell (rmh 2) (.ref 58 :: [.int x, .int y]) (W9 c' m o') (qM c' o' (fun r m2 => (∃ b, r = some (.long b)) ∧ RL (t + 1) c' m2)) := by
    rintro c' o' rfl
    have no : (rI x 0 (nI m.nr - 1) = false ∨ rI y 0 (nI m.nl - 1) = false) → mm_ l y_Mo_cell w_Mo_cell (rmh 2) (.ref 58 :: [.int x, .int y]) (W9 c' m o') (qM c' o' (fun r m2 => (∃ b, r = some (.long b)) ∧ RL (t + 1) c' m2)) := fun z => mm_imp (mo_cell0 x y z) (fun r M' q => by
      obtain ⟨m2, ⟨q1, rfl⟩, q3⟩ := q
      exact ⟨_, ⟨⟨_, q1⟩, hcd 1⟩, q3⟩)
    cases hx : rI x 0 (nI m.nr - 1) with
    | false => exact no (Or.inl hx)
    | true =>
      cases hy : rI y 0 (nI m.nl - 1) with
      | false => exact no (Or.inr hy)
      | true =>
        have key : ∀ (z : Int32) (k : Nat), k ≤ 200 → rI z 0 (nI k - 1) = true → ∃ i, i < k ∧ z = nI i := by
          intro z k hk hz
          obtain ⟨h1, h2⟩ := rI_n hz
          obtain ⟨i, hi, rfl⟩ := nI_of h1
          rcases k with _ | k
          · exact absurd (Int32.lt_of_lt_of_le (show nI 0 - 1 < 0 by decide) (Int32.not_lt.mp h1)) h2
          · rw [nI_pred] at h2
            exact ⟨i, Nat.lt_succ_of_le (Nat.le_of_not_lt (fun w => h2 ((nI_ltI (by omega) (by omega)).mpr w))), rfl⟩
        obtain ⟨i, hi, rfl⟩ := key x m.nr (by omega) hx
        obtain ⟨j, hj, rfl⟩ := key y m.nl (by omega) hy
        obtain ⟨v, hv, ev⟩ := r3 j hj
        refine mm_imp (mo_cell1 i j v r1 r2 hi hj ev hv hx hy) (fun r M' q => ?_)
        obtain ⟨m2, q1, q3⟩ := q
        split at q1
        · obtain ⟨q1, rfl⟩ := q1
          exact ⟨_, ⟨⟨_, q1⟩, hcd 0⟩, q3⟩
        · obtain ⟨q1, rfl⟩ := q1
          exact ⟨_, ⟨⟨_, q1⟩, hcd 2⟩, q3⟩
  have h3 := h.2.2.1.2.2.1
  have h4 := h.2.2.1.2.2.2.1
  cases hh : c.has x y with
  | false => exact ⟨9, 2, fun c2 _ => c2 = c, by decide, by decide, mm_imp (wX_cell_1 (ts_cellX htr x y hh)) (fun r M' q => ⟨_, _, _, q.1, rfl, q.2⟩), hm⟩
  | true =>
    obtain ⟨i, j, rfl, rfl, hi, hj⟩ := has_n hh (by omega) (by omega)
    by_cases h0 : c.rt (i * 6 + j) = 0
    · exact ⟨9, 2, fun c2 _ => c2 = c, by decide, by decide, mm_imp (wX_cell_2 (ts_cellU htr i j h4 h3 hi hj hh h0)) (fun r M' q => ⟨_, _, _, q.1, rfl, q.2⟩), hm⟩
    · exact ⟨4, 2, fun c2 _ => c2 = c, by decide, by decide, mm_imp (wR_cell (ts_cell i j h4 h3 hi hj hh h0)) (fun r M' q => ⟨_, _, _, q.1, rfl, q.2⟩), hm⟩
theorem sim_ask (htr : l.stackTraces = false) (h : RL t c m) : SimU l (RL (t + 1)) c m o y_La_ask w_La_ask [] y_Mo_ask w_Mo_ask [] := by
  refine ⟨19, 12, fun c2 _ => Ak c c2, by decide, by decide, wB_ask htr h.2.2.1 h.1.1.1.2, fun c' o' q => ?_⟩
  refine mm_imp (mo_ask h.ri) (fun r M' w => ?_)
  obtain ⟨m2, ⟨b, w1, w2, w3, w4⟩, w5⟩ := w
  refine ⟨m2, ⟨⟨b, w1⟩, (h.1.of q.1 w3).mono (Nat.le_succ t), ?_, q.2.2, w2.rj, by rw [q.2.1, w4]⟩, w5⟩
  have z9 : ∀ z : MS0, z = m.1.1 → MS.of ((z, m.1.2), m.2) ≤ MS.nc ((z, m.1.2), m.2) := fun z hz => by rw [hz]; exact h.2.1
  exact z9 _ w3
end SIMS
