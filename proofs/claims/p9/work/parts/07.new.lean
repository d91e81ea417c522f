/-! NEW CELLS -/
/-- all references lie within the world -/
def gW (M : List mC) (L : List (Nat × Value)) (st : List Value) : Prop := M.length < spl ∧ (∀ c ∈ M, mk_c M.length c) ∧ (∀ q ∈ L, mk_v M.length q.2) ∧ ∀ v ∈ st, mk_v M.length v
def a_up (ad : Nat → Nat) (i q : Nat) : Nat → Nat := fun j => if j = i then q else ad j
theorem a_up_eq {ad : Nat → Nat} {M : List mC} {q : Nat} (h : M.length < spl) : ∀ i, i < M.length ∨ i = spl → a_up ad M.length q i = ad i := fun i hi => by
  unfold a_up
  rw [if_neg]
  rcases hi with hi | hi
  · omega
  · omega
theorem a_up_w {tc : Nat → ClassId} {ad : Nat → Nat} {M : List mC} {q : Nat} {c : mC} (h : M.length < spl) (hM : ∀ c ∈ M, mk_c M.length c) : mc_w tc (a_up ad M.length q) (M ++ [c]) = mc_w tc ad M ++ [(q, mc_e tc (a_up ad M.length q) c)] := by
  rw [mc_push, mk_w_eq hM (a_up_eq h)]
  unfold a_up
  rw [if_pos rfl]
theorem a_up_ag {n0 : Nat} {ad0 ad : Nat → Nat} {M : List mC} {q : Nat} {c : mC} (h : M.length < spl) (h1 : g_ag n0 ad0 M ad) : g_ag n0 ad0 (M ++ [c]) (a_up ad M.length q) := by
  have h0 := h1.1
  refine ⟨by rw [List.length_append]; exact Nat.le_trans h0 (Nat.le_add_right _ _), fun i hi => ?_, fun z => ?_⟩
  · rw [a_up_eq h i (hi.elim (fun h => Or.inl (Nat.lt_of_lt_of_le h h0)) Or.inr)]
    exact h1.2.1 i hi
  · rw [List.length_append] at z
    simp at z
    omega
theorem ra_one {U : State} {a b : ClassId} {ty : FieldType} (h1 : va_RA U a ty) (h2 : va_RA U b ty) : a = b := by
  cases ty with
  | object C =>
    obtain ⟨_, _, -, -, -, e1⟩ := h1
    obtain ⟨_, _, -, -, -, e2⟩ := h2
    exact Option.some.inj (e1.symm.trans e2)
  | _ => exact Option.some.inj (Eq.trans (Eq.symm h1) h2)
section GN
variable {X : gC} {cc : ByteArray} {own : String} {Ts : List Cond} {M : List mC} {k n pc : Nat} {L : List (Nat × Value)} {st : List Value}
theorem g_new (ok : gO X cc own Ts) {C : String} {T : u_T} {N ci index : Nat} {fs : List Value} (hin : ∀ w ∈ u_ws C T N, w ∈ Ts) (ty : Nat → FieldType) (hty : ∀ k, k < N → parseFieldDescriptor (T k).2.2.1 = some (ty k)) (hcl : Cond.classLink own index C ∈ Ts) (hinst : Cond.instantiable C N ∈ Ts) (hini : Cond.initialized C ∈ Ts) (hc : vwCl[ci]? = some (C, T, N)) (hfs : ∀ j, j < N → defaultValue (ty j) = vp_V fs j) (hfm : ∀ ad : Nat → Nat, fs.map (mc_v ad) = fs) (hd : decode cc pc = .ok (.new index, 3)) (hk : k + 1 ≤ (gR X).cells) (hn : n + N ≤ (gR X).slots) (wf : gW M L st)
    (kk : gg X (M ++ [.inr (ci, fs)]) (k + 1) (n + N) (pc + 3) L (.ref M.length :: st)) : gg X M k n pc L st := by
  obtain ⟨p, l, e, R, s, m, args, below, meth, c, nL, D, tc, A, n0, ad0, Q⟩ := X
  obtain ⟨hexec, hb, hml, hown, hts, hK, hA, hlk⟩ := ok
  intro ad H locs ls h1 h2 h3 h4 h5
  obtain ⟨w1, w2, w3, w4⟩ := wf
  refine va_new hexec hb hts hin ty hty hown (hts _ hcl) (hts _ hinst) (hts _ hini) hK h2 h3 h4 hA hc hfs hk hn hd (fun q H1 q1 q2 q3 => ?_)
  have he : mc_e tc (a_up ad M.length q) (.inr (ci, fs)) = .inr (ci, fs) := by
    show (Sum.inr (ci, fs.map (mc_v (a_up ad M.length q))) : va_E) = Sum.inr (ci, fs)
    rw [hfm]
  have e1 : a_up ad M.length q M.length = q := if_pos rfl
  have K := kk (a_up ad M.length q) H1 locs ls (a_up_ag w1 h1) (by rw [a_up_w w1 w2, he]; exact q1) (by rw [a_up_w w1 w2, he]; exact q2) q3 (by rw [ml_eq w3 (a_up_eq w1)]; exact h5)
  rw [List.map_cons, ms_eq w4 (a_up_eq w1)] at K
  rw [show mc_v (a_up ad M.length q) (.ref M.length) = .ref q from congrArg Value.ref e1] at K
  exact K
theorem g_newa (ok : gO X cc own Ts) {atype : ArrayType} {ty : FieldType} {t N : Nat} {i : Int32} {a0 : vp_A} (harr : Cond.arrayClass (newarray.typeOf atype) ∈ Ts) (hty : newarray.typeOf atype = ty) (ht : mTY[t]? = some ty) (ha : ∀ cA : ClassId, vp_cell cA a0 = arrV cA N (fun _ => defaultValue ty)) (ham : ∀ ad : Nat → Nat, mc_a ad a0 = a0) (hi : ¬ i < 0) (hN : i.toNatClampNeg = N) (hby : N * componentBytes ty ≤ 536870912) (hd : decode cc pc = .ok (.newarray atype, 2)) (hk : k + 1 ≤ (gR X).cells) (hn : n + N ≤ (gR X).slots) (wf : gW M L st)
    (kk : gg X (M ++ [.inl (t, a0)]) (k + 1) (n + N) (pc + 2) L (.ref M.length :: st)) : gg X M k n pc L (.int i :: st) := by
  obtain ⟨p, l, e, R, s, m, args, below, meth, c, nL, D, tc, A, n0, ad0, Q⟩ := X
  obtain ⟨hexec, hb, hml, hown, hts, hK, hA, hlk⟩ := ok
  intro ad H locs ls h1 h2 h3 h4 h5
  obtain ⟨w1, w2, w3, w4⟩ := wf
  refine va_newa hexec hb (hts _ harr) hty hK h2 h3 h4 hA ha hi hN hby hk hn hd (fun q cA H1 qK q1 q2 q3 => ?_)
  have hcA : cA = tc t := ra_one (qK.2 (mc_t tc).length (cA, ty) (by rw [List.getElem?_append_right (Nat.le_refl _), Nat.sub_self]; rfl)).2 (hK.2 t _ (mc_ty ht)).2
  subst hcA
  have he : mc_e tc (a_up ad M.length q) (.inl (t, a0)) = .inl (tc t, a0) := by
    show (Sum.inl (tc t, mc_a (a_up ad M.length q) a0) : va_E) = _
    rw [ham]
  have e1 : a_up ad M.length q M.length = q := if_pos rfl
  have K := kk (a_up ad M.length q) H1 locs ls (a_up_ag w1 h1) (by rw [a_up_w w1 w2, he]; exact q1) (by rw [a_up_w w1 w2, he]; exact q2) q3 (by rw [ml_eq w3 (a_up_eq w1)]; exact h5)
  rw [List.map_cons, ms_eq w4 (a_up_eq w1)] at K
  rw [show mc_v (a_up ad M.length q) (.ref M.length) = .ref q from congrArg Value.ref e1] at K
  exact K
theorem g_newq (ok : gO X cc own Ts) {E : String} {index t N : Nat} {i : Int32} (hcl : Cond.classLink own index E ∈ Ts) (hov : Cond.arrayOver (.object E) ∈ yT) (ht : mTY[t]? = some (.object E)) (hi : ¬ i < 0) (hN : i.toNatClampNeg = N) (hby : N * 4 ≤ 536870912) (hd : decode cc pc = .ok (.anewarray index, 3)) (hk : k + 1 ≤ (gR X).cells) (hn : n + N ≤ (gR X).slots) (wf : gW M L st)
    (kk : gg X (M ++ [.inl (t, N, .inr (.inr (.inr (.inr (fun _ => none)))))]) (k + 1) (n + N) (pc + 3) L (.ref M.length :: st)) : gg X M k n pc L (.int i :: st) := by
  obtain ⟨p, l, e, R, s, m, args, below, meth, c, nL, D, tc, A, n0, ad0, Q⟩ := X
  obtain ⟨hexec, hb, hml, hown, hts, hK, hA, hlk⟩ := ok
  intro ad H locs ls h1 h2 h3 h4 h5
  obtain ⟨w1, w2, w3, w4⟩ := wf
  refine va_newq hexec hb hown (hts _ hcl) (hlk.2.use #[] _ hov) hK h2 h3 h4 hA hi hN hby hk hn hd (fun q cA H1 qK q1 q2 q3 => ?_)
  have hcA : cA = tc t := ra_one (qK.2 (mc_t tc).length (cA, .object E) (by rw [List.getElem?_append_right (Nat.le_refl _), Nat.sub_self]; rfl)).2 (hK.2 t _ (mc_ty ht)).2
  subst hcA
  have he : mc_e tc (a_up ad M.length q) (.inl (t, N, .inr (.inr (.inr (.inr (fun _ => none)))))) = .inl (tc t, N, .inr (.inr (.inr (.inr (fun _ => none))))) := rfl
  have e1 : a_up ad M.length q M.length = q := if_pos rfl
  have K := kk (a_up ad M.length q) H1 locs ls (a_up_ag w1 h1) (by rw [a_up_w w1 w2, he]; exact q1) (by rw [a_up_w w1 w2, he]; exact q2) q3 (by rw [ml_eq w3 (a_up_eq w1)]; exact h5)
  rw [List.map_cons, ms_eq w4 (a_up_eq w1)] at K
  rw [show mc_v (a_up ad M.length q) (.ref M.length) = .ref q from congrArg Value.ref e1] at K
  exact K
end GN
