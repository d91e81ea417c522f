/-! FROM THE LAW'S ENTRY: what is known there -/
def yK : Cond → Bool
  | .fieldLinkNest .. | .methodLinkNest .. | .castable .. | .declares _ | .laysStatic .. | .stringRef .. => true
  | .arrayOver (.object _) => true
  | _ => false
theorem yI_kinds : (yI.filterMap (fun i => tables_1[i]?)).all yK = true := by decide +kernel
section LS
variable {s U : State} {args : Array Value}
theorem ls_word (hW : s.WarmedH U.vm) (hq : ∀ a : Nat, a < s.heap.size → U.heap[a]? = s.heap[a]?) {w : Cond} (hk : yK w = true) (h : w.before args s = true) (a : Array Value) : w.before a U = true := by
  cases w with
  | fieldLinkNest c i r n d hst => exact va_Nw.use rfl (va_Nw.warmF hW (va_Nw.of rfl h))
  | methodLinkNest c i x hst => exact va_Nw.use rfl (va_Nw.warmM hW (va_Nw.of rfl h))
  | castable c t => exact va_tabs rfl (rfl : (s.setVm U.vm).vm = U.vm) (Cond.before_shiftedFace (State.Shifted.of_warmed hW) _ rfl h)
  | declares x => exact va_tabs rfl (rfl : (s.setVm U.vm).vm = U.vm) (Cond.before_shiftedFace (State.Shifted.of_warmed hW) _ rfl h)
  | arrayOver t =>
    cases t with
    | object C => exact va_AO.use (va_AO.moved hW.alike (va_AO.of h))
    | _ => cases hk
  | laysStatic o n d =>
    obtain ⟨c, k, i, f, x, cell, h1, h2, h3, h4, h5, h6, h7, h8, h9⟩ := Cond.laysStatic_spec h
    obtain ⟨k', hi', he⟩ := State.fieldFound?_setVm hW.alike h2
    exact Cond.laysStatic_of (s := U) (by rw [hW.alike.findClass]; exact h1) hi' h3 (by rw [he]; exact h4) (by rw [hq x (Array.getElem?_eq_some_iff.mp h5).1]; exact h5) h6 h7 h8 (by rw [he]; exact h9)
  | stringRef o i t =>
    have h1 := Cond.stringRef_warmed hW h
    simp only [Cond.before, Cond.holds, Cond.value, State.names, State.poolOf?, State.resolvedAt?, State.vm_setVm] at h1 ⊢
    exact h1
  | _ => cases hk
theorem ls_isRef {C n d : String} (hW : s.WarmedH U.vm) (hq : ∀ a : Nat, a < s.heap.size → U.heap[a]? = s.heap[a]?) (hl : (Cond.laysStatic C n d).before args s = true) (hini : (Cond.initialized C).before args s = true) (h : (Cond.isRef (.static C n d)).before args s = true) (a : Array Value) : (Cond.isRef (.static C n d)).before a U = true := by
  have key : ∀ v : Value, v.isRef = true → va_Z C n d v (fun _ => False) U U.heap → (Cond.isRef (.static C n d)).before a U = true := by
    rintro v hv ⟨cf, kf, fi, f, x, cell, h1, h2, h3, h4, h5, h6, h7, -⟩
    have he : (Term.static C n d).eval a U none [] U = some v := by
      simp [Term.eval, State.fieldNamed?, h1, h2, h4, h5, h6, h7]
    simp only [Cond.before, Cond.holds, Cond.value, he]
    cases v <;> simp_all [Value.isRef]
  rcases (va_Zqof (A := fun _ => False) hl hini h (fun _ _ z => z)) with z | ⟨t, z⟩
  · exact key _ rfl (va_Z.moved hW.alike (z.kept (fun x hx _ => hq x hx)))
  · exact key _ rfl (va_Z.moved hW.alike (z.kept (fun x hx _ => hq x hx)))
theorem ls_not {C T : String} (hW : s.WarmedH U.vm) (h : (Cond.not (.castable C T)).before args s = true) (a : Array Value) : (Cond.not (.castable C T)).before a U = true := by
  obtain ⟨c, t, h1, h2, h3⟩ := va_Nc.moved hW.alike (va_Nc.of h)
  simp [Cond.before, Cond.holds, Cond.value, h1, h2, h3]
theorem ls_str {o tx : String} {i : Nat} (h1 : (Cond.stringRef o i tx).before args s = true) (h2 : (Cond.exactly (.string o i) "java/lang/String").before args s = true) : ∃ sa : Nat, vk_R o i tx sa s := by
  simp only [Cond.before, Cond.holds, Cond.value] at h2
  cases hv : (Term.string o i).eval args s none [] s with
  | none => simp [hv] at h2
  | some v =>
    cases v with
    | ref sa => exact ⟨sa, h1, hv⟩
    | null => cases hf : s.vm.findClass "java/lang/String" <;> simp [hv, hf] at h2
    | _ => simp [hv] at h2
end LS
theorem law_mY {s : State} {b : Nat} (hts : ∀ w ∈ lw_tbl, w.before #[Value.ref b] s = true) (hgv : (Jvm.Cond.and given_1 narrow_1).before #[Value.ref b] s = true) : mY (fun q : Nat => s.heap.size ≤ q) s s.heap := by
  have hs := flat_of_before _ hgv
  have ht : ∀ (i : Nat) (w : Cond), tables_1[i]? = some w → w.before #[Value.ref b] s = true := fun i w h => hts w (List.mem_append_right _ (List.mem_of_getElem? h))
  have hsT : ∀ q ∈ sT, ∃ sa : Nat, vk_R q.1 q.2.1 q.2.2 sa s := by
    intro q hq
    simp only [sT, List.mem_cons, List.not_mem_nil, or_false] at hq
    rcases hq with rfl | rfl | rfl | rfl | rfl | rfl | rfl | rfl | rfl | rfl | rfl | rfl
    all_goals exact ls_str (hts _ (by decide +kernel)) (hs _ (by decide +kernel))
  intro U' hW hz hq
  have hq' : ∀ a : Nat, a < s.heap.size → U'.heap[a]? = s.heap[a]? := fun a ha => hq a ha (Nat.not_le.mpr ha)
  refine ⟨fun a w hw => ?_, fun q hq => ?_⟩
  · rcases List.mem_append.mp hw with hw | hw
    · have hk := List.all_eq_true.mp yI_kinds w hw
      obtain ⟨i, -, hi⟩ := List.mem_filterMap.mp hw
      exact ls_word hW hq' hk (ht i w hi) a
    · simp only [yX, List.mem_cons, List.not_mem_nil, or_false] at hw
      rcases hw with rfl | rfl | rfl | rfl
      · exact ls_isRef hW hq' (hts _ (by decide +kernel)) (hts _ (by decide +kernel)) (hs _ (by decide +kernel)) a
      · exact ls_isRef hW hq' (hts _ (by decide +kernel)) (hts _ (by decide +kernel)) (hs _ (by decide +kernel)) a
      · exact ls_not hW (hs _ (by decide +kernel)) a
      · exact ls_not hW (hs _ (by decide +kernel)) a
  · obtain ⟨sa, h⟩ := hsT q hq
    exact ⟨sa, vk_R.warm hW h⟩
/-- the classes and the arrays' classes, at the law's entry -/
theorem law_K {s : State} {b : Nat} (hts : ∀ w ∈ lw_tbl, w.before #[Value.ref b] s = true) : ∃ (D : va_G) (tc : Nat → ClassId), va_K D vwCl (mc_t tc) s := by
  have hg : ∀ w ∈ gT, w.before #[Value.ref b] s = true := fun w hw => hts w (List.mem_filter.mp hw).1
  obtain ⟨c0, i0, k0⟩ := u_known (C := REl) (T := TEl) (N := 7) (n := 7) hg inEl (hts (.instantiable REl 7) (by decide +kernel))
  obtain ⟨c1, i1, k1⟩ := u_known (C := RPa) (T := TPa) (N := 3) (n := 3) hg inPa (hts (.instantiable RPa 3) (by decide +kernel))
  obtain ⟨c2, i2, k2⟩ := u_known (C := RQu) (T := TQu) (N := 12) (n := 12) hg inQu (hts (.instantiable RQu 12) (by decide +kernel))
  obtain ⟨c3, i3, k3⟩ := u_known (C := RRo) (T := TRo) (N := 4) (n := 4) hg inRo (hts (.instantiable RRo 4) (by decide +kernel))
  obtain ⟨c4, i4, k4⟩ := u_known (C := RSo) (T := TSo) (N := 2) (n := 2) hg inSo (hts (.instantiable RSo 2) (by decide +kernel))
  obtain ⟨c5, i5, k5⟩ := u_known (C := RSv) (T := TSv) (N := 5) (n := 5) hg inSv (hts (.instantiable RSv 5) (by decide +kernel))
  obtain ⟨c6, i6, k6⟩ := u_known (C := RSt) (T := TSt) (N := 8) (n := 8) hg inSt (hts (.instantiable RSt 8) (by decide +kernel))
  obtain ⟨c7, i7, k7⟩ := u_known (C := RTo) (T := TTo) (N := 5) (n := 5) hg inTo (hts (.instantiable RTo 5) (by decide +kernel))
  obtain ⟨c8, i8, k8⟩ := u_known (C := RTr) (T := TTr) (N := 4) (n := 4) hg inTr (hts (.instantiable RTr 4) (by decide +kernel))
  obtain ⟨c9, i9, k9⟩ := u_known (C := RTS) (T := TTS) (N := 9) (n := 9) hg inTS (hts (.instantiable RTS 9) (by decide +kernel))
  obtain ⟨c10, i10, k10⟩ := u_known (C := RMo) (T := TMo) (N := 59) (n := 59) hg inMo (hts (.instantiable RMo 59) (by decide +kernel))
  have prim : ∀ ty : FieldType, (∀ C, ty ≠ .object C) → (Cond.arrayClass ty).before #[Value.ref b] s = true → ∃ cA : ClassId, ArrOfT s cA ty ∧ va_RA s cA ty := by
    intro ty hty h
    obtain ⟨cA, kA, comp, h1, h2, h3⟩ := Cond.arrayClass_spec h
    refine ⟨cA, fun N z => ⟨(fun k h => by cases h), kA, h2, comp, h3⟩, ?_⟩
    cases ty with
    | object C => exact absurd rfl (hty C)
    | _ => exact h1
  have objs : ∀ C : String, (Cond.arrayOver (.object C)).before #[Value.ref b] s = true → ∃ cA : ClassId, ArrOfT s cA (.object C) ∧ va_RA s cA (.object C) := by
    intro C h
    obtain ⟨comp, cA, kA, h1, -, h3, h4, h5⟩ := Cond.arrayOver_spec h
    exact ⟨cA, fun N z => ⟨(fun k h => by cases h), kA, h3, comp, h4⟩, kA, comp, h3, h4, h1, h5⟩
  obtain ⟨a0, A0⟩ := prim .int (fun C h => by cases h) (hts _ (by decide +kernel))
  obtain ⟨a1, A1⟩ := prim .long (fun C h => by cases h) (hts _ (by decide +kernel))
  obtain ⟨a2, A2⟩ := prim .char (fun C h => by cases h) (hts _ (by decide +kernel))
  obtain ⟨a3, A3⟩ := prim .boolean (fun C h => by cases h) (hts _ (by decide +kernel))
  obtain ⟨a4, A4⟩ := objs "TripleStore$Element" (hts _ (by decide +kernel))
  obtain ⟨a5, A5⟩ := objs "TripleStore$Solutions" (hts _ (by decide +kernel))
  refine ⟨(fun k => [c0, c1, c2, c3, c4, c5, c6, c7, c8, c9, c10].getD k 0, fun k => [i0, i1, i2, i3, i4, i5, i6, i7, i8, i9, i10].getD k (fun _ => 0)), fun k => [a0, a1, a2, a3, a4, a5].getD k 0, ?_, ?_⟩
  · intro k q hq
    match k, hq with
    | 0, hq => cases hq; exact k0
    | 1, hq => cases hq; exact k1
    | 2, hq => cases hq; exact k2
    | 3, hq => cases hq; exact k3
    | 4, hq => cases hq; exact k4
    | 5, hq => cases hq; exact k5
    | 6, hq => cases hq; exact k6
    | 7, hq => cases hq; exact k7
    | 8, hq => cases hq; exact k8
    | 9, hq => cases hq; exact k9
    | 10, hq => cases hq; exact k10
    | k + 11, hq => simp [vwCl] at hq
  · intro k q hq
    match k, hq with
    | 0, hq => cases hq; exact A0
    | 1, hq => cases hq; exact A1
    | 2, hq => cases hq; exact A2
    | 3, hq => cases hq; exact A3
    | 4, hq => cases hq; exact A4
    | 5, hq => cases hq; exact A5
    | k + 6, hq => simp [mc_t, mTY] at hq
/-- the law's script, outside of every world -/
def gSc (X : gC) (Ln : Nat) (xs : Nat → Int32) : Prop := match X with
  | (p, l, e, R, s, m, args, below, meth, c, nL, D, tc, A, n0, ad0, Q) => va_X (ad0 spl) Ln xs s s.heap ∧ ad0 spl < s.heap.size ∧ ¬ A (ad0 spl)
section GSC
variable {X : gC} {cc : ByteArray} {own : String} {Ts : List Cond} {M : List mC} {k n pc : Nat} {L : List (Nat × Value)} {st : List Value} {Ln : Nat} {xs : Nat → Int32}
theorem g_sld (ok : gO X cc own Ts) (S : gSc X Ln xs) {i : Int32} (hd : decode cc pc = .ok (.iaload, 1)) (hi : vp_in i Ln) (kk : gg X M k n (pc + 1) L (.int (xs i.toNatClampNeg) :: st)) : gg X M k n pc L (.int i :: .ref spl :: st) := by
  obtain ⟨p, l, e, R, s, m, args, below, meth, c, nL, D, tc, A, n0, ad0, Q⟩ := X
  obtain ⟨hexec, hb, hml, hown, hts, hK, hA, hlk⟩ := ok
  intro ad H locs ls h1 h2 h3 h4 h5
  have e1 : ad spl = ad0 spl := h1.2.1 spl (Or.inr rfl)
  have K := va_sld hexec hb S.1 S.2.1 S.2.2 h4 hi hd (kk ad H locs ls h1 h2 h3 h4 h5)
  rw [← e1] at K
  exact K
theorem g_slen (ok : gO X cc own Ts) (S : gSc X Ln xs) (hd : decode cc pc = .ok (.arraylength, 1)) (kk : gg X M k n (pc + 1) L (.int (nI Ln) :: st)) : gg X M k n pc L (.ref spl :: st) := by
  obtain ⟨p, l, e, R, s, m, args, below, meth, c, nL, D, tc, A, n0, ad0, Q⟩ := X
  obtain ⟨hexec, hb, hml, hown, hts, hK, hA, hlk⟩ := ok
  intro ad H locs ls h1 h2 h3 h4 h5
  have e1 : ad spl = ad0 spl := h1.2.1 spl (Or.inr rfl)
  have K := va_slen hexec hb S.1 S.2.1 S.2.2 h4 hd (kk ad H locs ls h1 h2 h3 h4 h5)
  rw [← e1] at K
  exact K
end GSC
