/-! THE LAW'S START: both objects are new -/
def c0 : CS := ((((((fun _ => false), ((fun _ => 0), false)), ((0, 0), (0, (fun _ => 0)))), (((fun _ => 0), ((fun _ => 0), 0)), (((fun _ => 0), (fun _ => 0)), ((fun _ => 0), 0)))), (((fun _ => 0), (0, (-1))), (((fun _ => 0), (fun _ => 0)), ((fun _ => 0), (0, 0))))), ((((((fun _ => 0), 0), ((fun _ => 0), (0, false))), (((-1), false), (150, ((va_up (va_up (va_up (va_up (va_up (va_up (va_up (va_up (va_up (va_up (va_up (va_up (fun _ => none) 0 (some 22)) 1 (some 23)) 2 (some 24)) 3 (some 25)) 4 (some 26)) 5 (some 27)) 6 (some 28)) 7 (some 29)) 8 (some 30)) 9 (some 31)) 10 (some 32)) 11 (some 33)), 0)))), ((((fun _ => 0), 0), ((fun _ => 0), ((fun _ => 0), (fun _ => 0)))), (((fun _ => 0), (fun _ => 0)), ((fun _ => 0), ((fun _ => 0), 0))))), ((((va_up (va_up (va_up (va_up (fun _ => none) 0 (some 39)) 1 (some 43)) 2 (some 47)) 3 (some 51)), (va_up (va_up (va_up (va_up (fun _ => none) 0 (some 41)) 1 (some 45)) 2 (some 49)) 3 (some 53))), ((fun _ => 0), ((fun _ => 0), (fun _ _ => 0)))), (((fun _ => 0), (fun _ => 0)), (0, 0)))))
def m0 : MS := ((((((fun _ => 0), (0, (fun _ => 0))), (0, ((fun _ => 0), (fun _ => false)))), (((fun _ => 0), (0, 0)), (0, (false, 0)))), (((fun _ => 0), (0, (-1))), (((((0, 0), (0, 0)), ((0, 0), (false, false))), ((((fun _ => 0), 0), (0, 0)), ((0, (fun _ => 0)), ((fun _ => 0), (fun _ => 0))))), (((((fun _ => 0), 0), ((fun _ => 0), (fun _ => 0))), ((0, (fun _ => 0)), ((fun _ => 0), (fun _ => false)))), (((0, (fun _ => 0)), (0, (fun _ => 0))), ((false, 0), (false, 0))))))), ((((fun _ => 0), (fun _ => 0)), ((fun _ => 0), (0, false))), ((((fun _ => 0), ((fun _ => 0), (fun _ => 0))), (0, ((fun _ => 0), 0))), 0)))
theorem mk_cTS : mkM (cTS 0) := by
  show ∀ x ∈ _, mk_c 58 x
  exact (by repeat (first | exact mc_n | refine mc_c ?_ ?_ | exact trivial | exact mk_no | refine mk_up (by omega) ?_ | (show ∀ v ∈ _, mk_v _ v; repeat (first | exact mv_n | refine mv_c ?_ ?_ | exact trivial | (refine mv_r ?_; omega)))))
theorem mk_nil : mkM [] := fun _ h => nomatch h
theorem W9_0 : (cTS 0 ++ mo0 58) ++ [.inl (1, 1, .inr (.inl (fun _ => 0)))] = W9 c0 m0 (fun _ => 0) := rfl
theorem mk_2 : mkM (cTS 0 ++ mo0 58) := by
  refine wmk (n := 26) mk_cTS rfl ?_
  show ∀ x ∈ _, mk_c 84 x
  exact (by repeat (first | exact mc_n | refine mc_c ?_ ?_ | exact trivial | exact mk_no | refine mk_up (by omega) ?_ | (show ∀ v ∈ _, mk_v _ v; repeat (first | exact mv_n | refine mv_c ?_ ?_ | exact trivial | (refine mv_r ?_; omega)))))
theorem law_begin {X : gC} {l : Launch} (ok : gO X c_La_law "TripleStoreLaw" w_Tr_size) (G : gLw X l) (h : gg X (W9 c0 m0 (fun _ => 0)) 200 60000 23 (LL 0) []) : gg X [] 0 0 0 [(0, .ref spl)] [] := by
  obtain rfl : gLa X = l := G.La
  have hR := G.R
  refine k_La_law_0 (q5 := 0) ok (by rw [hR]; decide) (by rw [hR]; decide) ⟨by decide, mk_nil, ml_c (Or.inr rfl) ml_n, mv_n⟩ rfl rfl (m_TS_init (P := []) mk_nil (by decide)) (gF_l hR (by decide) (by decide) (by decide) (by decide)) (ml_c (Or.inr rfl) ml_n) (mv_c (mv_r (by decide)) mv_n) ?_
  rintro r M' ⟨rfl, rfl⟩
  refine k_La_law_7 (q5 := 58) ok G.nL (by rw [hR]; decide) (by rw [hR]; decide) ⟨by decide, mk_cTS, ml_c (Or.inr rfl) (ml_c (mv_r (by decide)) ml_n), mv_n⟩ rfl rfl (m_Mo_init (P := cTS 0) mk_cTS (by decide)) (gF_l hR (by decide) (by decide) (by decide) (by decide)) (ml_c (Or.inr rfl) (ml_c (mv_r (by decide)) ml_n)) (mv_c (mv_r (by decide)) mv_n) ?_
  rintro r M' ⟨rfl, rfl⟩
  refine k_La_law_15 (q5 := 84) (M4 := W9 c0 m0 (fun _ => 0)) ok G.nL (by rw [hR]; decide) (by rw [hR]; decide) ⟨by decide, mk_2, ml_c (Or.inr rfl) (ml_c (mv_r (by decide)) (ml_c (mv_r (by decide)) ml_n)), mv_n⟩ W9_0 rfl ?_
  exact gg_widen (by decide) (by decide) h
