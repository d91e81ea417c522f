/-! THE LAW'S LOOP -/
section LOOP
variable {X : gC} {l : Launch} {Ln : Nat} {xs : Nat → Int32}
theorem simsx (htr : l.stackTraces = false) {t : Nat} (ht : t < 512) {c : CS} {m : MS} {o : Nat → Int64} (h : RL t c m) : SimsX l (RL (t + 1)) c m o := ⟨(fun a b c => (sim_add htr ht h a b c).u), (fun a b c => (sim_remove htr ht h a b c).u), (sim_begin htr h).u, (sim_commit htr h).u, (sim_rollback htr ht h).u, (sim_sync ht h).u, (fun a => (sim_crash htr ht h a).u), (sim_append htr h), (sim_ask htr h), (sim_fault h), (sim_cell htr h), (sim_count htr h), ⟨h.1.mono (Nat.le_succ t), h.2⟩⟩
theorem law_all (ok : gO X c_La_law "TripleStoreLaw" w_Tr_size) (S : gSc X Ln xs) (G : gLw X l) (htr : l.stackTraces = false) (hL : Ln ≤ 3584) : gg X [] 0 0 0 [(0, .ref spl)] [] := by
  refine law_begin ok G ?_
  have ret : ∀ (k n : Nat) (M : List mC) (x : Int32), k ≤ 601024 → n ≤ 7293034 → gg X M k n 696 [(0, .ref spl), (1, .ref 0), (2, .ref 58), (3, .ref 84), (4, .int x)] [] := by
    intro k n M x hk hn
    refine g_iconst (v := 1) ok d_La_law_696 (by decide) ?_
    exact g_law1 ok G d_La_law_697 hk hn
  have loop : ∀ (r t : Nat) (c : CS) (m : MS) (o : Nat → Int64), RL t c m → t + r = 512 → 7 * t ≤ Ln → gg X (W9 c m o) (200 + t) (60000 + 6 * t) 23 (LL (7 * t)) [] := by
    intro r
    induction r with
    | zero =>
      intro t c m o h ht hi
      have e1 : nI Ln - 7 = nI (Ln - 7) := nS rfl (nL 7) (by omega)
      refine k_La_law_23 ok S (fun _ => ret _ _ _ _ (by omega) (by omega)) (fun z => absurd ?_ z)
      rw [e1]
      exact nI_lt (a := Ln - 7) (b := 7 * t) (by omega) (by omega)
    | succ r ih =>
      intro t c m o h ht hi
      by_cases h7 : 7 * t + 7 ≤ Ln
      · have e1 : nI Ln - 7 = nI (Ln - 7) := nS rfl (nL 7) (by omega)
        refine k_La_law_23 ok S (fun z => absurd z ?_) (fun _ => ?_)
        · rw [e1]
          exact fun z => absurd (nLt rfl rfl (by omega) (by omega) z) (by omega)
        refine lx_step (R := RL (t + 1)) ok S G h7 hL (by omega) (by omega) (simsx htr (by omega) h) (fun c' m' o' h' => ?_)
        refine k_La_law_690 ok G.nL ?_
        have e2 : nI (7 * t) + 7 = nI (7 * (t + 1)) := nA rfl (nL 7)
        rw [e2]
        exact ih (t + 1) c' m' o' h' (by omega) (by omega)
      · refine k_La_law_23 ok S (fun _ => ret _ _ _ _ (by omega) (by omega)) (fun z => absurd ?_ z)
        by_cases h8 : Ln < 7
        · have h1 : ∀ L, L < 7 → nI L - 7 < nI 0 := by decide
          have e3 : 7 * t = 0 := by omega
          rw [e3]
          exact h1 Ln h8
        · have e1 : nI Ln - 7 = nI (Ln - 7) := nS rfl (nL 7) (by omega)
          rw [e1]
          exact nI_lt (a := Ln - 7) (b := 7 * t) (by omega) (by omega)
  exact loop 512 0 c0 m0 _ rl_0 rfl (Nat.zero_le _)
end LOOP
