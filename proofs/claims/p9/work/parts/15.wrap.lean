/-! METHODS WITH HANDLERS -/
def wsH (y : MethodName) (b : ByteArray) (nl : Nat) (ret : Option FieldType) (hh : List (Nat × Nat × Nat × Nat)) : List Cond := Cond.codeWith y b nl ret hh :: gT
theorem mmH_intro {l : Launch} {y y9 : MethodName} {b b9 : ByteArray} {nl nl9 : Nat} {ret ret9 : Option FieldType} {hh : List (Nat × Nat × Nat × Nat)} {rm : Room} {As : List Value} {M : List mC} {post : Option Value → List mC → Prop} (hy : plainName y.cls = true) (hn : (lg_sl As).length ≤ nl) (h9 : Cond.code y9 b9 nl9 ret9 ∈ gT)
    (body : ∀ X : gC, gO X b y.cls (wsM y9 b9 nl9 ret9) → gE X l y rm nl ret M post → (gCo X).exceptionTable.toList.map (fun h => (h.startPc, h.endPc, h.handlerPc, h.catchType)) = hh → gg X M 0 0 0 (lv_args 0 As) []) : mm_ l y (wsH y b nl ret hh) rm As M post := by
  intro D tc ad sz
  refine va_MetW (cc := b) (maxL := nl) (ret := ret) (hh := hh) hy rfl ?_
  intro p e s m args below meth c s₁ B hml hv
  obtain ⟨rfl, hsz, hP, hK, hD0, hY⟩ := hv
  subst hsz
  have hts0 := atoms_spec (ws := wsH y b nl ret hh) B.pre
  have hts : ∀ w ∈ wsM y9 b9 nl9 ret9, w.before (As.map (mc_v ad)).toArray s = true := fun w hw => by
    rcases List.mem_cons.mp hw with rfl | hw
    · exact hts0 _ (List.mem_cons_of_mem _ h9)
    · exact hts0 _ (List.mem_cons_of_mem _ hw)
  have hown : s.vm.findClass y.cls = some m.cls := findClass_of_methodNamed B.named
  have hl := lv_entry (As.map (mc_v ad)) (n := nl) (by rw [ml_sl]; exact hn)
  have htab : c.exceptionTable.toList.map (fun h => (h.startPc, h.endPc, h.handlerPc, h.catchType)) = hh := by
    obtain ⟨m9, meth9, c9, hn9, u1, u2, -, -, u6, -⟩ := Cond.codeWith_spec (hts0 _ List.mem_cons_self)
    cases Option.some.inj (hn9.symm.trans B.named)
    cases Option.some.inj (u1.symm.trans B.method)
    cases Option.some.inj (u2.symm.trans (Stand.of_body B).code)
    exact u6
  have K := body (p, l, e, rm, s, m, (As.map (mc_v ad)).toArray, below, meth, c, nl, D, tc, va_A (mc_w tc ad M) s.heap.size, M.length, ad, MQ below (mq_ D tc M ad s.heap.size post) (As.map (mc_v ad)).toArray s rm.cells rm.slots (va_A (mc_w tc ad M) s.heap.size))
    ⟨B.exec, B.bytes, hml, hown, hts, hK, fun q h => Or.inr h, B.notSynchronized, hY⟩ ⟨rfl, rfl, rfl, rfl, rfl, rfl, B.returns, (name_of_methodNamed B.named B.method).1⟩ htab
    ad s.heap [] _ ⟨Nat.le_refl _, fun _ _ => rfl, fun _ => rfl⟩ hP (hD0.self (sz := s.heap.size)) va_S.rf (by rw [ml_args]; exact hl)
  rw [lg_entry_eq]
  exact K
section GSW
variable {X : gC} {cc : ByteArray} {own : String} {M : List mC} {k n pc : Nat} {L : List (Nat × Value)} {st rest : List Value} {y0 y : MethodName} {b0 b : ByteArray} {nl0 nl : Nat} {ret0 ret : Option FieldType} {hh : List (Nat × Nat × Nat × Nat)} {rm : Room} {As : List Value} {post : Option Value → List mC → Prop} {index : Nat}
theorem g_callSW (ok : gO X cc own (wsM y0 b0 nl0 ret0)) (hM : mm_ (gLa X) y (wsH y b nl ret hh) rm As M post) (hcode : Cond.codeWith y b nl ret hh ∈ gT) (hlink : Cond.methodLink own index y ∈ gT) (hstat : Cond.static y ∈ gT) (hini : Cond.initialized y.cls ∈ gT)
    (hd : y.cls ≠ "java/lang/invoke/MethodHandle" ∧ y.cls ≠ "java/lang/invoke/VarHandle" ∧ (parseMethodDescriptor y.desc).map (fun d => d.parameters.length) = some As.length)
    (hdg : decode cc pc = .ok (.invokestatic index, 3)) (hst : As.reverse ++ rest = st) (hrest : (rest.map fun v => v.category).sum ≤ 8) (hR : gF X rm nl k n) (hlen : ∀ r M', post r M' → M'.length = M.length)
    (kk : ∀ r M', post r M' → gg X M' (k + rm.cells) (n + rm.slots) (pc + 3) L (r.toList ++ rest)) : gg X M k n pc L st := by
  obtain ⟨p, l, e, R, s, m, args, below, meth, c, nL, D, tc, A, n0, ad0, Q⟩ := X
  obtain ⟨hexec, hb, hml, hown, hts, hK, hA, hlk, hY⟩ := ok
  intro ad H locs ls h1 h2 h3 h4 h5
  subst hst
  have hg : ∀ w ∈ gT, w.before args s = true := fun w hw => hts w (List.mem_cons_of_mem _ hw)
  have hgu : ∀ w ∈ gT, ∀ (a' : Array Value) (U : State), s.WarmedH U.vm → w.before a' U = true := fun w hw a' U hW => word_at hW (good_of_word (List.mem_filter.mp hw).2) (hg w hw)
  have hBk : Free.Back l R p e below s args y 3 8 (PreOf R rm.cells rm.slots (mp_ D tc As M ad H.size)) (PostOf (mq_ D tc M ad H.size post) rm.cells rm.slots (va_A (mc_w tc ad M) H.size)) :=
    va_backW (hh := hh) (bytes := b) (maxL := nl) (ret := ret) (hM D tc ad H.size) (mp_blind D tc As M ad H.size) rfl rfl hR.1 hR.2.1 (fun w hw => by
      rcases List.mem_cons.mp hw with rfl | hw
      · exact hgu _ hcode
      · exact hgu w hw) List.mem_cons_self (hgu _ hini)
  refine w_fin (mc := rm.cells) (ms := rm.slots) (rest := rest) (a := (As.map (mc_v ad)).toArray) (fun T hT Z => ?_) h1 h3 h4 hA h5 hlen (fun r M' hp => kk r M' hp)
  obtain ⟨mk, methM, cM, hnamed, hmethM, -, -, -, -, -, -, hsigM⟩ := Cond.codeWith_spec (hg _ hcode)
  obtain ⟨kP, hkP, -⟩ := className_of_methodNamed hnamed
  have hsl : (As.map (mc_v ad)).length = methM.sig.parameters.length := by
    have h9 := hd.2.2
    rw [hsigM] at h9
    rw [List.length_map]
    exact (Option.some.inj h9).symm
  have hstk : (F0 m pc ls ((As.reverse ++ rest).map (mc_v ad))).stack = (As.map (mc_v ad)).reverse ++ rest.map (mc_v ad) := by
    show (As.reverse ++ rest).map (mc_v ad) = _
    rw [List.map_append, List.map_reverse]
  obtain ⟨vm₁, X₁, hstep₁⟩ := Z.invokestatic hexec hown (hg _ hlink) hnamed hmethM (Cond.static_spec hnamed hmethM (hg _ hstat)) hkP (Cond.initialized_spec (findClass_of_methodNamed hnamed) hkP (hg _ hini)) ⟨hd.1, hd.2.1⟩ (g := F0 m pc ls ((As.reverse ++ rest).map (mc_v ad))) rfl (argsL := As.map (mc_v ad)) (rest := rest.map (mc_v ad)) hsl hstk (by rw [hb]; exact hdg)
  obtain ⟨v, ⟨U', l2, c2, s2⟩, X', ⟨g', mk', t, Ls, e1, e2, hq, e3, hLs, e4, e5⟩, hsteps⟩ := hBk m meth c ⟨T.setVm vm₁, locs, k, n⟩ { (F0 m pc ls ((As.reverse ++ rest).map (mc_v ad))) with stack := rest.map (mc_v ad) } (.invokestatic index) mk (As.map (mc_v ad)).toArray X₁ rfl (h5.1.trans hml.symm) (by rw [hb]; exact hdg) (by
      show 2 * (F0 m pc ls _).monitorRoom + _ ≤ 8
      rw [w_cat]
      simpa [JFrame.monitorRoom] using hrest) (X₁.named hnamed) ⟨hR.2.2.1, hR.2.2.2, w_pre (As := As) h2 h3 h4 hA hK hY (T.setVm vm₁) hT X₁.warmed⟩
  dsimp only [Pt.U, Pt.locs, Pt.cells, Pt.slots] at X' e1 e2 e3 e4 e5 hsteps
  subst e3
  subst e4
  subst e5
  exact ⟨v, (T.setVm vm₁).calling g' mk' (As.map (mc_v ad)).toArray, t, U', Ls, hT, X', hLs, e1, e2, hq, fun target h => hstep₁ _ fun acts => by rw [doInvoke_state]; exact hsteps.trans h⟩
end GSW
