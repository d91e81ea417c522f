section GLC
variable {X : gC} {cc : ByteArray} {own : String} {Ts : List Cond} {M : List mC} {k n pc : Nat} {L : List (Nat × Value)} {st : List Value}
theorem g_lc_eq (ok : gO X cc own Ts) {x y : Int64} {off : Int} {tgt : Nat} (hd : decode cc pc = .ok (.lcmp, 1)) (hd2 : decode cc (pc + 1) = .ok (.ifCond .eq off, 3)) (ht : ((pc + 1 : Nat) : Int) + off = (tgt : Int)) (kt : x = y → gg X M k n tgt L st) (kf : ¬ x = y → gg X M k n (pc + 4) L st) : gg X M k n pc L (.long y :: .long x :: st) := by
  refine g_lcmp ok hd ?_
  exact g_if_eq ok hd2 ht (fun z => kt ((lg_cmp_eq x y).mp z)) (fun z => kf (fun q => z ((lg_cmp_eq x y).mpr q)))
theorem g_lc_ne (ok : gO X cc own Ts) {x y : Int64} {off : Int} {tgt : Nat} (hd : decode cc pc = .ok (.lcmp, 1)) (hd2 : decode cc (pc + 1) = .ok (.ifCond .ne off, 3)) (ht : ((pc + 1 : Nat) : Int) + off = (tgt : Int)) (kt : ¬ x = y → gg X M k n tgt L st) (kf : x = y → gg X M k n (pc + 4) L st) : gg X M k n pc L (.long y :: .long x :: st) := by
  refine g_lcmp ok hd ?_
  exact g_if_ne ok hd2 ht (fun z => kt (fun q => z ((lg_cmp_eq x y).mpr q))) (fun z => kf ((lg_cmp_eq x y).mp z))
theorem g_lc_lt (ok : gO X cc own Ts) {x y : Int64} {off : Int} {tgt : Nat} (hd : decode cc pc = .ok (.lcmp, 1)) (hd2 : decode cc (pc + 1) = .ok (.ifCond .lt off, 3)) (ht : ((pc + 1 : Nat) : Int) + off = (tgt : Int)) (kt : x < y → gg X M k n tgt L st) (kf : ¬ x < y → gg X M k n (pc + 4) L st) : gg X M k n pc L (.long y :: .long x :: st) := by
  refine g_lcmp ok hd ?_
  exact g_if_lt ok hd2 ht (fun z => kt ((lg_cmp_lt x y).mp z)) (fun z => kf (fun q => z ((lg_cmp_lt x y).mpr q)))
theorem g_lc_ge (ok : gO X cc own Ts) {x y : Int64} {off : Int} {tgt : Nat} (hd : decode cc pc = .ok (.lcmp, 1)) (hd2 : decode cc (pc + 1) = .ok (.ifCond .ge off, 3)) (ht : ((pc + 1 : Nat) : Int) + off = (tgt : Int)) (kt : y ≤ x → gg X M k n tgt L st) (kf : ¬ y ≤ x → gg X M k n (pc + 4) L st) : gg X M k n pc L (.long y :: .long x :: st) := by
  refine g_lcmp ok hd ?_
  exact g_if_ge ok hd2 ht (fun z => kt ((lg_cmp_ge x y).mp z)) (fun z => kf (fun q => z ((lg_cmp_ge x y).mpr q)))
theorem g_lc_gt (ok : gO X cc own Ts) {x y : Int64} {off : Int} {tgt : Nat} (hd : decode cc pc = .ok (.lcmp, 1)) (hd2 : decode cc (pc + 1) = .ok (.ifCond .gt off, 3)) (ht : ((pc + 1 : Nat) : Int) + off = (tgt : Int)) (kt : y < x → gg X M k n tgt L st) (kf : ¬ y < x → gg X M k n (pc + 4) L st) : gg X M k n pc L (.long y :: .long x :: st) := by
  refine g_lcmp ok hd ?_
  exact g_if_gt ok hd2 ht (fun z => kt ((lg_cmp_gt x y).mp z)) (fun z => kf (fun q => z ((lg_cmp_gt x y).mpr q)))
theorem g_lc_le (ok : gO X cc own Ts) {x y : Int64} {off : Int} {tgt : Nat} (hd : decode cc pc = .ok (.lcmp, 1)) (hd2 : decode cc (pc + 1) = .ok (.ifCond .le off, 3)) (ht : ((pc + 1 : Nat) : Int) + off = (tgt : Int)) (kt : x ≤ y → gg X M k n tgt L st) (kf : ¬ x ≤ y → gg X M k n (pc + 4) L st) : gg X M k n pc L (.long y :: .long x :: st) := by
  refine g_lcmp ok hd ?_
  exact g_if_le ok hd2 ht (fun z => kt ((lg_cmp_le x y).mp z)) (fun z => kf (fun q => z ((lg_cmp_le x y).mpr q)))
end GLC
theorem gE.nL {X : gC} {l9 : Launch} {y : MethodName} {rm : Room} {nl : Nat} {ret : Option FieldType} {M0 : List mC} {post : Option Value → List mC → Prop} (E : gE X l9 y rm nl ret M0 post) : gL X = nl := by
  obtain ⟨p, l, e, R, s, m, args, below, meth, c, nL, D, tc, A, n0, ad0, Q⟩ := X
  exact E.2.2.1
theorem gE.nR {X : gC} {l9 : Launch} {y : MethodName} {rm : Room} {nl : Nat} {ret : Option FieldType} {M0 : List mC} {post : Option Value → List mC → Prop} (E : gE X l9 y rm nl ret M0 post) : gR X = rm := by
  obtain ⟨p, l, e, R, s, m, args, below, meth, c, nL, D, tc, A, n0, ad0, Q⟩ := X
  exact E.2.1
theorem gE.La {X : gC} {l9 : Launch} {y : MethodName} {rm : Room} {nl : Nat} {ret : Option FieldType} {M0 : List mC} {post : Option Value → List mC → Prop} (E : gE X l9 y rm nl ret M0 post) : gLa X = l9 := by
  obtain ⟨p, l, e, R, s, m, args, below, meth, c, nL, D, tc, A, n0, ad0, Q⟩ := X
  exact E.1
theorem gE.nm {X : gC} {l9 : Launch} {y : MethodName} {rm : Room} {nl : Nat} {ret : Option FieldType} {M0 : List mC} {post : Option Value → List mC → Prop} (E : gE X l9 y rm nl ret M0 post) : (gM X).name = y.name := by
  obtain ⟨p, l, e, R, s, m, args, below, meth, c, nL, D, tc, A, n0, ad0, Q⟩ := X
  exact E.2.2.2.2.2.2.2
theorem i_Object : Cond.code Lib.objectInit ⟨#[0xb1]⟩ 1 none ∈ gT := gT_at 30 (by decide +kernel) (by decide +kernel)
theorem wn_Object : Cond.instanceMethod Lib.objectInit ∈ gT := gT_at 29 (by decide +kernel) (by decide +kernel)
theorem ml_TS_3 : Cond.methodLink "TripleStore" 3 Lib.objectInit ∈ gT := gT_at 28 (by decide +kernel) (by decide +kernel)
theorem ml_St_3 : Cond.methodLink "TripleStore$Store" 3 Lib.objectInit ∈ gT := gT_at 36 (by decide +kernel) (by decide +kernel)
theorem ml_Tr_1 : Cond.methodLink "TripleStore$Triples" 1 Lib.objectInit ∈ gT := gT_at 42 (by decide +kernel) (by decide +kernel)
theorem ml_To_3 : Cond.methodLink "TripleStore$Tokens" 3 Lib.objectInit ∈ gT := gT_at 89 (by decide +kernel) (by decide +kernel)
theorem ml_Qu_3 : Cond.methodLink "TripleStore$Query" 3 Lib.objectInit ∈ gT := gT_at 112 (by decide +kernel) (by decide +kernel)
theorem ml_El_3 : Cond.methodLink "TripleStore$Element" 3 Lib.objectInit ∈ gT := gT_at 119 (by decide +kernel) (by decide +kernel)
theorem ml_Pa_3 : Cond.methodLink "TripleStore$Parser" 3 Lib.objectInit ∈ gT := gT_at 215 (by decide +kernel) (by decide +kernel)
theorem ml_Sv_3 : Cond.methodLink "TripleStore$Solver" 3 Lib.objectInit ∈ gT := gT_at 231 (by decide +kernel) (by decide +kernel)
theorem ml_So_3 : Cond.methodLink "TripleStore$Solutions" 3 Lib.objectInit ∈ gT := gT_at 238 (by decide +kernel) (by decide +kernel)
theorem ml_Ro_3 : Cond.methodLink "TripleStore$Rows" 3 Lib.objectInit ∈ gT := gT_at 267 (by decide +kernel) (by decide +kernel)
theorem ml_Mo_1 : Cond.methodLink "TripleStoreModel" 1 Lib.objectInit ∈ gT := gT_at 974 (by decide +kernel) (by decide +kernel)
theorem gs_ne {M : List mC} {i j : Nat} {c : mC} (h : i ≠ j) : (M.set i c)[j]? = M[j]? := List.getElem?_set_ne h
theorem gs_eq {M : List mC} {i : Nat} {c c0 : mC} (h : M[i]? = some c0) : (M.set i c)[i]? = some c := List.getElem?_set_self (List.getElem?_eq_some_iff.mp h).1
theorem ne_ao {M : List mC} {i j : Nat} {x : Nat × vp_A} {y : Nat × List Value} (h : M[i]? = some (.inl x)) (h2 : M[j]? = some (.inr y)) : i ≠ j := by
  intro e
  subst e
  rw [h] at h2
  cases h2
def rmh (h : Nat) : Room := { frames := h, cells := 0, slots := 0, locals := 64 * h }
theorem gF_h {X : gC} {h h' nl : Nat} (hX : gR X = rmh h') (h1 : h + 1 ≤ h') (h2 : nl ≤ 45) : gF X (rmh h) nl 0 0 := by
  unfold gF
  rw [hX]
  simp only [rmh]
  omega
