section GLC
variable {X : gC} {cc : ByteArray} {own : String} {Ts : List Cond} {M : List mC} {k n pc : Nat} {L : List (Nat × Value)} {st : List Value}
theorem g_lc_eq (ok : gO X cc own Ts) {x y : Int64} {off : Int} {tgt : Nat} (hd : decode cc pc = .ok (.lcmp, 1)) (hd2 : decode cc (pc + 1) = .ok (.ifCond .eq off, 3)) (ht : ((pc + 1 : Nat) : Int) + off = (tgt : Int)) (kt : x = y → gg X M k n tgt L st) (kf : ¬ x = y → gg X M k n (pc + 4) L st) : gg X M k n pc L (.long y :: .long x :: st) := by
  refine g_lcmp ok hd ?_
  exact g_if_eq ok hd2 ht (fun z => kt ((lg_cmp_eq x y).mp z)) (fun z => kf (fun q => z ((lg_cmp_eq x y).mpr q)))
theorem g_lc_ne (ok : gO X cc own Ts) {x y : Int64} {off : Int} {tgt : Nat} (hd : decode cc pc = .ok (.lcmp, 1)) (hd2 : decode cc (pc + 1) = .ok (.ifCond .ne off, 3)) (ht : ((pc + 1 : Nat) : Int) + off = (tgt : Int)) (kt : ¬ x = y → gg X M k n tgt L st) (kf : x = y → gg X M k n (pc + 4) L st) : gg X M k n pc L (.long y :: .long x :: st) := by
  refine g_lcmp ok hd ?_
  exact g_if_ne ok hd2 ht (fun z => kt (fun q => z ((lg_cmp_eq x y).mpr q))) (fun z => kf ((lg_cmp_eq x y).mp z))
theorem g_lc_lt (ok : gO X cc own Ts) {x y : Int64} {off : Int} {tgt : Nat} (hd : decode cc pc = .ok (.lcmp, 1)) (hd2 : decode cc (pc + 1) = .ok (.ifCond .lt off, 3)) (ht : ((pc + 1 : Nat) : Int) + off = (tgt : Int)) (kt : x < y → gg X M k n tgt L st) (kf : ¬ x < y → gg X M k n (pc + 4) L st) : gg X M k n pc L (.long y :: .long x :: st) := by
  refine g_lcmp ok hd ?_
  exact g_if_lt ok hd2 ht (fun z => kt ((lg_cmp_lt x y).mp z)) (fun z => kf (fun q => z ((lg_cmp_lt x y).mpr q)))
theorem g_lc_ge (ok : gO X cc own Ts) {x y : Int64} {off : Int} {tgt : Nat} (hd : decode cc pc = .ok (.lcmp, 1)) (hd2 : decode cc (pc + 1) = .ok (.ifCond .ge off, 3)) (ht : ((pc + 1 : Nat) : Int) + off = (tgt : Int)) (kt : y ≤ x → gg X M k n tgt L st) (kf : ¬ y ≤ x → gg X M k n (pc + 4) L st) : gg X M k n pc L (.long y :: .long x :: st) := by
  refine g_lcmp ok hd ?_
  exact g_if_ge ok hd2 ht (fun z => kt ((lg_cmp_ge x y).mp z)) (fun z => kf (fun q => z ((lg_cmp_ge x y).mpr q)))
theorem g_lc_gt (ok : gO X cc own Ts) {x y : Int64} {off : Int} {tgt : Nat} (hd : decode cc pc = .ok (.lcmp, 1)) (hd2 : decode cc (pc + 1) = .ok (.ifCond .gt off, 3)) (ht : ((pc + 1 : Nat) : Int) + off = (tgt : Int)) (kt : y < x → gg X M k n tgt L st) (kf : ¬ y < x → gg X M k n (pc + 4) L st) : gg X M k n pc L (.long y :: .long x :: st) := by
  refine g_lcmp ok hd ?_
  exact g_if_gt ok hd2 ht (fun z => kt ((lg_cmp_gt x y).mp z)) (fun z => kf (fun q => z ((lg_cmp_gt x y).mpr q)))
theorem g_lc_le (ok : gO X cc own Ts) {x y : Int64} {off : Int} {tgt : Nat} (hd : decode cc pc = .ok (.lcmp, 1)) (hd2 : decode cc (pc + 1) = .ok (.ifCond .le off, 3)) (ht : ((pc + 1 : Nat) : Int) + off = (tgt : Int)) (kt : x ≤ y → gg X M k n tgt L st) (kf : ¬ x ≤ y → gg X M k n (pc + 4) L st) : gg X M k n pc L (.long y :: .long x :: st) := by
  refine g_lcmp ok hd ?_
  exact g_if_le ok hd2 ht (fun z => kt ((lg_cmp_le x y).mp z)) (fun z => kf (fun q => z ((lg_cmp_le x y).mpr q)))
end GLC
theorem gE.nL {X : gC} {l9 : Launch} {y : MethodName} {rm : Room} {nl : Nat} {ret : Option FieldType} {M0 : List mC} {post : Option Value → List mC → Prop} (E : gE X l9 y rm nl ret M0 post) : gL X = nl := by
  obtain ⟨p, l, e, R, s, m, args, below, meth, c, nL, D, tc, A, n0, ad0, Q⟩ := X
  exact E.2.2.1
theorem gE.nR {X : gC} {l9 : Launch} {y : MethodName} {rm : Room} {nl : Nat} {ret : Option FieldType} {M0 : List mC} {post : Option Value → List mC → Prop} (E : gE X l9 y rm nl ret M0 post) : gR X = rm := by
  obtain ⟨p, l, e, R, s, m, args, below, meth, c, nL, D, tc, A, n0, ad0, Q⟩ := X
  exact E.2.1
theorem gE.La {X : gC} {l9 : Launch} {y : MethodName} {rm : Room} {nl : Nat} {ret : Option FieldType} {M0 : List mC} {post : Option Value → List mC → Prop} (E : gE X l9 y rm nl ret M0 post) : gLa X = l9 := by
  obtain ⟨p, l, e, R, s, m, args, below, meth, c, nL, D, tc, A, n0, ad0, Q⟩ := X
  exact E.1
theorem gE.nm {X : gC} {l9 : Launch} {y : MethodName} {rm : Room} {nl : Nat} {ret : Option FieldType} {M0 : List mC} {post : Option Value → List mC → Prop} (E : gE X l9 y rm nl ret M0 post) : (gM X).name = y.name := by
  obtain ⟨p, l, e, R, s, m, args, below, meth, c, nL, D, tc, A, n0, ad0, Q⟩ := X
  exact E.2.2.2.2.2.2.2
theorem mmin_s : Cond.static Lib.Math.min.name ∈ gT := gT_at 556 (by decide +kernel) (by decide +kernel)
theorem mmin_c : Cond.code Lib.Math.min.name Lib.Math.min.code 2 (some .int) ∈ gT := gT_at 557 (by decide +kernel) (by decide +kernel)
theorem mmin_i : Cond.initialized "java/lang/Math" ∈ gT := gT_at 18 (by decide +kernel) (by decide +kernel)
theorem acpy_s : Cond.static arraycopyName ∈ gT := gT_at 771 (by decide +kernel) (by decide +kernel)
theorem acpy_n : Cond.native arraycopyName ∈ gT := gT_at 772 (by decide +kernel) (by decide +kernel)
theorem acpy_i : Cond.initialized "java/lang/System" ∈ gT := gT_at 20 (by decide +kernel) (by decide +kernel)
section GJ
variable {X : gC} {cc : ByteArray} {own : String} {M : List mC} {k n pc index : Nat} {L : List (Nat × Value)} {st : List Value} {y0 : MethodName} {b0 : ByteArray} {nl0 : Nat} {ret0 : Option FieldType}
theorem g_mmin (ok : gO X cc own (wsM y0 b0 nl0 ret0)) {x y : Int32} (hlink : Cond.methodLink own index Lib.Math.min.name ∈ gT) (hd : decode cc pc = .ok (.invokestatic index, 3)) (hf : 1 ≤ (gR X).frames) (hl : (st.map fun v => v.category).sum + 13 ≤ (gR X).locals) (hk : k ≤ (gR X).cells) (hn : n ≤ (gR X).slots) (kk : gg X M k n (pc + 3) L (.int (if y < x then y else x) :: st)) : gg X M k n pc L (.int y :: .int x :: st) := by
  obtain ⟨p, l, e, R, s, m, args, below, meth, c, nL, D, tc, A, n0, ad0, Q⟩ := X
  obtain ⟨hexec, hb, hml, hown, hts, hK, hA, hlk⟩ := ok
  intro ad H locs ls h1 h2 h3 h4 h5
  have hg : ∀ w ∈ gT, w.before args s = true := fun w hw => hts w (List.mem_cons_of_mem _ hw)
  exact va_mmin hexec hb (hml.trans h5.1.symm) hown (hg _ hlink) (hg _ mmin_s) (hg _ mmin_i) (hg _ mmin_c) hf (by rw [w_cat]; exact hl) hk hn hd (kk ad H locs ls h1 h2 h3 h4 h5)
theorem g_copyl (ok : gO X cc own (wsM y0 b0 nl0 ret0)) {a0 a1 n0 n1 : Nat} {f g : Nat → Int64} {sp dp n9 : Int32} (hlink : Cond.methodLink own index arraycopyName ∈ gT) (hd : decode cc pc = .ok (.invokestatic index, 3)) (he0 : M[a0]? = some (.inl (1, n0, .inr (.inl f)))) (he1 : M[a1]? = some (.inl (1, n1, .inr (.inl g)))) (q1 : ¬ sp < 0) (q2 : ¬ dp < 0) (q3 : ¬ n9 < 0) (q4 : sp.toNatClampNeg + n9.toNatClampNeg ≤ n0) (q5 : dp.toNatClampNeg + n9.toNatClampNeg ≤ n1) (hf : 1 ≤ (gR X).frames) (hl : (st.map fun v => v.category).sum + (nativeFrameWords "java/lang/System" "arraycopy" 5 + 11) ≤ (gR X).locals)
    (kk : gg X (M.set a1 (.inl (1, n1, .inr (.inl (va_cpy f g sp.toNatClampNeg dp.toNatClampNeg n9.toNatClampNeg))))) k n (pc + 3) L st) : gg X M k n pc L (.int n9 :: .int dp :: .ref a1 :: .int sp :: .ref a0 :: st) := by
  obtain ⟨p, l, e, R, s, m, args, below, meth, c, nL, D, tc, A, n0, ad0, Q⟩ := X
  obtain ⟨hexec, hb, hml, hown, hts, hK, hA, hlk⟩ := ok
  intro ad H locs ls h1 h2 h3 h4 h5
  have hg : ∀ w ∈ gT, w.before args s = true := fun w hw => hts w (List.mem_cons_of_mem _ hw)
  refine va_copyl hexec hb (hml.trans h5.1.symm) hown (hg _ hlink) (hg _ acpy_n) (hg _ acpy_s) (hg _ acpy_i) hK h2 h3 h4 a0 a1 1 1 (ty := .long) (mc_at he0) (mc_at he1) (mc_ty rfl) (mc_ty rfl) rfl q1 q2 q3 q4 q5 (fun _ _ => rfl) hf (by rw [w_cat]; exact hl) hd (fun H1 locs1 z1 z2 z3 => ?_)
  have e0 := (mc_set tc ad M a1 (.inl (1, n1, .inr (.inl (va_cpy f g sp.toNatClampNeg dp.toNatClampNeg n9.toNatClampNeg))))).symm
  exact kk ad H1 locs1 ls h1.set (e0 ▸ z1) (e0 ▸ z2) z3 h5
end GJ
theorem i_Object : Cond.code Lib.objectInit ⟨#[0xb1]⟩ 1 none ∈ gT := gT_at 30 (by decide +kernel) (by decide +kernel)
theorem wn_Object : Cond.instanceMethod Lib.objectInit ∈ gT := gT_at 29 (by decide +kernel) (by decide +kernel)
theorem ml_TS_3 : Cond.methodLink "TripleStore" 3 Lib.objectInit ∈ gT := gT_at 28 (by decide +kernel) (by decide +kernel)
theorem ml_St_3 : Cond.methodLink "TripleStore$Store" 3 Lib.objectInit ∈ gT := gT_at 36 (by decide +kernel) (by decide +kernel)
theorem ml_Tr_1 : Cond.methodLink "TripleStore$Triples" 1 Lib.objectInit ∈ gT := gT_at 42 (by decide +kernel) (by decide +kernel)
theorem ml_To_3 : Cond.methodLink "TripleStore$Tokens" 3 Lib.objectInit ∈ gT := gT_at 89 (by decide +kernel) (by decide +kernel)
theorem ml_Qu_3 : Cond.methodLink "TripleStore$Query" 3 Lib.objectInit ∈ gT := gT_at 112 (by decide +kernel) (by decide +kernel)
theorem ml_El_3 : Cond.methodLink "TripleStore$Element" 3 Lib.objectInit ∈ gT := gT_at 119 (by decide +kernel) (by decide +kernel)
theorem ml_Pa_3 : Cond.methodLink "TripleStore$Parser" 3 Lib.objectInit ∈ gT := gT_at 215 (by decide +kernel) (by decide +kernel)
theorem ml_Sv_3 : Cond.methodLink "TripleStore$Solver" 3 Lib.objectInit ∈ gT := gT_at 231 (by decide +kernel) (by decide +kernel)
theorem ml_So_3 : Cond.methodLink "TripleStore$Solutions" 3 Lib.objectInit ∈ gT := gT_at 238 (by decide +kernel) (by decide +kernel)
theorem ml_Ro_3 : Cond.methodLink "TripleStore$Rows" 3 Lib.objectInit ∈ gT := gT_at 267 (by decide +kernel) (by decide +kernel)
theorem ml_St_84 : Cond.methodLink "TripleStore$Store" 84 Lib.Math.min.name ∈ gT := gT_at 555 (by decide +kernel) (by decide +kernel)
theorem ml_Ro_32 : Cond.methodLink "TripleStore$Rows" 32 Lib.Math.min.name ∈ gT := gT_at 754 (by decide +kernel) (by decide +kernel)
theorem ml_So_21 : Cond.methodLink "TripleStore$Solutions" 21 arraycopyName ∈ gT := gT_at 770 (by decide +kernel) (by decide +kernel)
theorem ml_Mo_1 : Cond.methodLink "TripleStoreModel" 1 Lib.objectInit ∈ gT := gT_at 974 (by decide +kernel) (by decide +kernel)
theorem ga_old {M : List mC} {p : Nat} {c x : mC} (h : M[p]? = some c) : (M ++ [x])[p]? = some c := by
  rw [List.getElem?_append_left (List.getElem?_eq_some_iff.mp h).1]
  exact h
theorem ga_new (M : List mC) (x : mC) : (M ++ [x])[M.length]? = some x := by
  rw [List.getElem?_append_right (Nat.le_refl _), Nat.sub_self]
  rfl
theorem mk_v_mono {a b : Nat} (h : a ≤ b) {v : Value} (hv : mk_v a v) : mk_v b v := by
  cases v with
  | ref k => exact hv.elim (fun z => Or.inl (Nat.lt_of_lt_of_le z h)) Or.inr
  | _ => trivial
theorem mk_c_mono {a b : Nat} (h : a ≤ b) {c : mC} (hc : mk_c a c) : mk_c b c := by
  rcases c with ⟨t, k, f | f | f | f | f⟩ | ⟨ci, fs⟩
  · trivial
  · trivial
  · trivial
  · trivial
  · exact fun j i hj => (hc j i hj).elim (fun z => Or.inl (Nat.lt_of_lt_of_le z h)) Or.inr
  · exact fun v hv => mk_v_mono h (hc v hv)
/-- a world whose references lie within it -/
def mkM (M : List mC) : Prop := ∀ c ∈ M, mk_c M.length c
theorem mkM_push {M : List mC} {c : mC} (h : mkM M) (hc : mk_c (M.length + 1) c) : mkM (M ++ [c]) := by
  intro x hx
  rw [List.length_append]
  rcases List.mem_append.mp hx with hx | hx
  · exact mk_c_mono (Nat.le_succ _) (h x hx)
  · rw [List.mem_singleton.mp hx]
    exact hc
theorem mkM_set {M : List mC} {i : Nat} {c : mC} (h : mkM M) (hc : mk_c M.length c) : mkM (M.set i c) := by
  intro x hx
  rw [List.length_set]
  rcases List.mem_or_eq_of_mem_set hx with hx | hx
  · exact h x hx
  · rw [hx]
    exact hc
theorem gs_ne {M : List mC} {i j : Nat} {c : mC} (h : i ≠ j) : (M.set i c)[j]? = M[j]? := List.getElem?_set_ne h
theorem gs_eq {M : List mC} {i : Nat} {c c0 : mC} (h : M[i]? = some c0) : (M.set i c)[i]? = some c := List.getElem?_set_self (List.getElem?_eq_some_iff.mp h).1
theorem ne_ao {M : List mC} {i j : Nat} {x : Nat × vp_A} {y : Nat × List Value} (h : M[i]? = some (.inl x)) (h2 : M[j]? = some (.inr y)) : i ≠ j := by
  intro e
  subst e
  rw [h] at h2
  cases h2
def rmh (h : Nat) : Room := { frames := h, cells := 0, slots := 0, locals := 64 * h }
theorem gF_h {X : gC} {h h' nl : Nat} (hX : gR X = rmh h') (h1 : h + 1 ≤ h') (h2 : nl ≤ 45) : gF X (rmh h) nl 0 0 := by
  unfold gF
  rw [hX]
  simp only [rmh]
  omega
theorem gg_keep {X : gC} {M : List mC} {k n pc : Nat} {L : List (Nat × Value)} {st : List Value} (is : List Nat) (h : gg X M k n pc (L.filter (fun q => is.contains q.1)) st) : gg X M k n pc L st := by
  obtain ⟨p, l, e, R, s, m, args, below, meth, c, nL, D, tc, A, n0, ad0, Q⟩ := X
  intro ad H locs ls h1 h2 h3 h4 h5
  refine h ad H locs ls h1 h2 h3 h4 (ml_has h5 (fun q hq => ?_))
  obtain ⟨z, hz, rfl⟩ := List.mem_map.mp hq
  exact List.mem_map.mpr ⟨z, (List.mem_filter.mp hz).1, rfl⟩
