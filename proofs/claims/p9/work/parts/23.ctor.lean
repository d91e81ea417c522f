/-! CONSTRUCTORS -/
def rmc (h c s : Nat) : Room := { frames := h, cells := c, slots := s, locals := 64 * h }
theorem gF_c {X : gC} {h c s h' c' s' nl k n : Nat} (hX : gR X = rmc h' c' s') (h1 : h + 1 ≤ h') (h2 : nl ≤ 45) (h3 : k + c ≤ c') (h4 : n + s ≤ s') : gF X (rmc h c s) nl k n := by
  unfold gF
  rw [hX]
  simp only [rmc]
  omega
theorem st_ap {M : List mC} {i : Nat} {c d : mC} (h : i < M.length) : (M ++ [d]).set i c = M.set i c ++ [d] := List.set_append_left i c h
theorem mv_r {n k : Nat} (h : k < n) : mk_v n (.ref k) := Or.inl h
theorem mv_n {n : Nat} : ∀ w ∈ ([] : List Value), mk_v n w := fun _ h => nomatch h
theorem mv_c {n : Nat} {v : Value} {vs : List Value} (h : mk_v n v) (hs : ∀ w ∈ vs, mk_v n w) : ∀ w ∈ v :: vs, mk_v n w := List.forall_mem_cons.mpr ⟨h, hs⟩
theorem ml_n {n : Nat} : ∀ q ∈ ([] : List (Nat × Value)), mk_v n q.2 := fun _ h => nomatch h
theorem ml_c {n i : Nat} {v : Value} {vs : List (Nat × Value)} (h : mk_v n v) (hs : ∀ q ∈ vs, mk_v n q.2) : ∀ q ∈ (i, v) :: vs, mk_v n q.2 := List.forall_mem_cons.mpr ⟨h, hs⟩
abbrev aJ (N : Nat) : mC := .inl (1, N, .inr (.inl (fun _ => 0)))
abbrev aI (N : Nat) : mC := .inl (0, N, .inl (fun _ => 0))
abbrev aZ (N : Nat) : mC := .inl (3, N, .inl (fun _ => 0))
abbrev aC (N : Nat) : mC := .inl (2, N, .inl (fun _ => 0))
theorem m_Tr_init {l : Launch} {M : List mC} {t N : Nat} (hM : mkM M) (hl : M.length + 3 < spl) (he : M[t]? = some (.inr (8, [.null, .null, .null, .int 0]))) (hN : N < 2 ^ 20) : mm_ l y_Tr_init w_Tr_init (rmc 2 3 (3 * N)) [.ref t, .int (nI N)] M (fun r M' => r = none ∧ M' = M.set t (.inr (8, [.ref M.length, .ref (M.length + 1), .ref (M.length + 2), .int 0])) ++ [aJ N, aJ N, aJ N]) := by
  have ht : t < M.length := (List.getElem?_eq_some_iff.mp he).1
  refine mm_intro (by decide) (Nat.le_of_ble_eq_true rfl) i_Tr_init (fun X ok E => ?_)
  have hR : gR X = rmc 2 3 (3 * N) := E.nR
  have hc : (nI N).toNatClampNeg = N := nI_clamp (by omega)
  have hp : ¬ nI N < 0 := nI_pos (by omega)
  have hb : N * componentBytes .long ≤ 536870912 := by
    show N * 8 ≤ 536870912
    omega
  refine k_Tr_init_0 ok (by rw [hR]; show 1 ≤ 2; decide) (by rw [hR]; show 0 + 12 ≤ 64 * 2; decide) ?_
  have e1 : ∀ q : Nat, q < M.length + 3 → q < spl := fun q h => by omega
  refine k_Tr_init_4 (N12 := N) (N34 := N) (N58 := N) ok E.nm he (Nat.le_refl 4) rfl rfl hp hc hb (by rw [hR]; show 0 + 1 ≤ 3; decide) (by rw [hR]; show 0 + N ≤ 3 * N; omega) ?g1 rfl rfl rfl rfl hp hc hb (by rw [hR]; show 0 + 1 + 1 ≤ 3; decide) (by rw [hR]; show 0 + N + N ≤ 3 * N; omega) ?g2 rfl rfl rfl rfl hp hc hb (by rw [hR]; show 0 + 1 + 1 + 1 ≤ 3; decide) (by rw [hR]; show 0 + N + N + N ≤ 3 * N; omega) ?g3 rfl rfl rfl rfl E ⟨rfl, ?g4⟩ (Nat.le_refl _) (by show 0 + N + N + N ≤ 3 * N; omega)
  case g1 =>
    refine ⟨?_, ?_, ?_, ?_⟩
    · (simp only [List.length_set, List.length_append, List.length_cons, List.length_nil] <;> omega)
    · show mkM _
      (repeat (first | assumption | refine mkM_set ?_ ?_ | refine mkM_push ?_ ?_ | exact trivial | (show ∀ v ∈ _, mk_v _ v; (repeat (first | exact mv_n | exact ml_n | refine mv_c ?_ ?_ | refine ml_c ?_ ?_ | exact trivial | (refine mv_r ?_; simp only [List.length_set, List.length_append, List.length_cons, List.length_nil] <;> omega))))))
    · (repeat (first | exact mv_n | exact ml_n | refine mv_c ?_ ?_ | refine ml_c ?_ ?_ | exact trivial | (refine mv_r ?_; simp only [List.length_set, List.length_append, List.length_cons, List.length_nil] <;> omega)))
    · (repeat (first | exact mv_n | exact ml_n | refine mv_c ?_ ?_ | refine ml_c ?_ ?_ | exact trivial | (refine mv_r ?_; simp only [List.length_set, List.length_append, List.length_cons, List.length_nil] <;> omega)))
  case g2 =>
    refine ⟨?_, ?_, ?_, ?_⟩
    · (simp only [List.length_set, List.length_append, List.length_cons, List.length_nil] <;> omega)
    · show mkM _
      (repeat (first | assumption | refine mkM_set ?_ ?_ | refine mkM_push ?_ ?_ | exact trivial | (show ∀ v ∈ _, mk_v _ v; (repeat (first | exact mv_n | exact ml_n | refine mv_c ?_ ?_ | refine ml_c ?_ ?_ | exact trivial | (refine mv_r ?_; simp only [List.length_set, List.length_append, List.length_cons, List.length_nil] <;> omega))))))
    · (repeat (first | exact mv_n | exact ml_n | refine mv_c ?_ ?_ | refine ml_c ?_ ?_ | exact trivial | (refine mv_r ?_; simp only [List.length_set, List.length_append, List.length_cons, List.length_nil] <;> omega)))
    · (repeat (first | exact mv_n | exact ml_n | refine mv_c ?_ ?_ | refine ml_c ?_ ?_ | exact trivial | (refine mv_r ?_; simp only [List.length_set, List.length_append, List.length_cons, List.length_nil] <;> omega)))
  case g3 =>
    refine ⟨?_, ?_, ?_, ?_⟩
    · (simp only [List.length_set, List.length_append, List.length_cons, List.length_nil] <;> omega)
    · show mkM _
      (repeat (first | assumption | refine mkM_set ?_ ?_ | refine mkM_push ?_ ?_ | exact trivial | (show ∀ v ∈ _, mk_v _ v; (repeat (first | exact mv_n | exact ml_n | refine mv_c ?_ ?_ | refine ml_c ?_ ?_ | exact trivial | (refine mv_r ?_; simp only [List.length_set, List.length_append, List.length_cons, List.length_nil] <;> omega))))))
    · (repeat (first | exact mv_n | exact ml_n | refine mv_c ?_ ?_ | refine ml_c ?_ ?_ | exact trivial | (refine mv_r ?_; simp only [List.length_set, List.length_append, List.length_cons, List.length_nil] <;> omega)))
    · (repeat (first | exact mv_n | exact ml_n | refine mv_c ?_ ?_ | refine ml_c ?_ ?_ | exact trivial | (refine mv_r ?_; simp only [List.length_set, List.length_append, List.length_cons, List.length_nil] <;> omega)))
  case g4 => simp only [List.set_append_left, ht, List.length_set, List.length_append, List.length_cons, List.length_nil, List.set_set, List.set_cons_zero, List.set_cons_succ, Nat.lt_add_right, List.append_assoc, List.cons_append, List.nil_append, Nat.zero_add, Nat.add_assoc]
