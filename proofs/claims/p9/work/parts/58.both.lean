/-! A CALL THAT RETURNS OR THROWS -/
def bq_ (D : va_G) (tc : Nat → ClassId) (M : List mC) (ad : Nat → Nat) (sz : Nat) (rm : Room) (post : Option Value → List mC → Prop) (E1 : String) (P1 : List mC → Prop) (E2 : String) (P2 : List mC → Prop) : Array Value → State → Outcome → State → Prop := fun a st o t =>
  (mq_ D tc M ad sz post a st o t ∧ ∃ L, FrameEnd st o t L rm.cells rm.slots ∧ ∀ q ∈ L, va_A (mc_w tc ad M) sz q.base) ∨ xq_ D tc M ad sz rm E1 P1 a st o t ∨ xq_ D tc M ad sz rm E2 P2 a st o t
/-- method y, called with As in the world M: it returns r (post), or throws an E1 (P1), or an E2 (P2) -/
def mb_ (l : Launch) (y : MethodName) (ws : List Cond) (rm : Room) (As : List Value) (M : List mC) (post : Option Value → List mC → Prop) (E1 : String) (P1 : List mC → Prop) (E2 : String) (P2 : List mC → Prop) : Prop :=
  ∀ (D : va_G) (tc : Nat → ClassId) (ad : Nat → Nat) (sz : Nat), MetFree l y (headSpec ws rm) (mp_ D tc As M ad sz) (fun _ _ _ _ _ => True) (bq_ D tc M ad sz rm post E1 P1 E2 P2)
def gB (X : gC) (l9 : Launch) (rm : Room) (nl : Nat) : Prop := gR X = rm ∧ gL X = nl ∧ gLa X = l9
theorem gB.nR {X : gC} {l9 : Launch} {rm : Room} {nl : Nat} (h : gB X l9 rm nl) : gR X = rm := h.1
theorem gB.nL {X : gC} {l9 : Launch} {rm : Room} {nl : Nat} (h : gB X l9 rm nl) : gL X = nl := h.2.1
theorem gB.La {X : gC} {l9 : Launch} {rm : Room} {nl : Nat} (h : gB X l9 rm nl) : gLa X = l9 := h.2.2
theorem mb_intro {l : Launch} {y : MethodName} {b : ByteArray} {nl : Nat} {ret : Option FieldType} {rm : Room} {As : List Value} {M : List mC} {post : Option Value → List mC → Prop} {E1 E2 : String} {P1 P2 : List mC → Prop} (hy : plainName y.cls = true) (hn : (lg_sl As).length ≤ nl)
    (body : ∀ X : gC, gO X b y.cls (wsM y b nl ret) → gB X l rm nl →
      (∀ (M' : List mC) (k n pc : Nat) (L : List (Nat × Value)) (st : List Value), (∀ X' : gC, gO X' b y.cls (wsM y b nl ret) → gE X' l y rm nl ret M post → gg X' M' k n pc L st) → gg X M' k n pc L st) →
      (∀ (M' : List mC) (k n pc : Nat) (L : List (Nat × Value)) (st : List Value), (∀ X' : gC, gO X' b y.cls (wsM y b nl ret) → gXX X' l y rm nl M E1 P1 → gg X' M' k n pc L st) → gg X M' k n pc L st) →
      (∀ (M' : List mC) (k n pc : Nat) (L : List (Nat × Value)) (st : List Value), (∀ X' : gC, gO X' b y.cls (wsM y b nl ret) → gXX X' l y rm nl M E2 P2 → gg X' M' k n pc L st) → gg X M' k n pc L st) →
      gg X M 0 0 0 (lv_args 0 As) []) : mb_ l y (wsM y b nl ret) rm As M post E1 P1 E2 P2 := by
  intro D tc ad sz
  refine MetFree.of_bodyS (code := b) (maxLocals := nl) (ret := ret) hy ?_ ?_
  · intro args s m h hn
    obtain ⟨meth, c, h1, h2, h3, h4, h5, h6, -, -⟩ := Cond.code_spec hn (atoms_spec (ws := wsM y b nl ret) h _ List.mem_cons_self)
    exact ⟨meth, c, h1, h2, h3, h4, h5, h6⟩
  · intro p e s m args below meth c s₁ B hml hP _
    obtain ⟨rfl, hsz, hP, hK, hD0, hY⟩ := hP
    subst hsz
    have hts := atoms_spec (ws := wsM y b nl ret) B.pre
    have hown : s.vm.findClass y.cls = some m.cls := findClass_of_methodNamed B.named
    have hl := lv_entry (As.map (mc_v ad)) (n := nl) (by rw [ml_sl]; exact hn)
    have hh0 : s₁.heap = s.heap := by rw [B.state]; rfl
    have ok9 : ∀ Q' : State → Prop, gO (p, l, e, rm, s, m, (As.map (mc_v ad)).toArray, below, meth, c, nl, D, tc, va_A (mc_w tc ad M) s.heap.size, M.length, ad, Q') b y.cls (wsM y b nl ret) := fun _ => ⟨B.exec, B.bytes, hml, hown, hts, hK, fun q h => Or.inr h, B.notSynchronized, hY⟩
    have up : ∀ Q' : State → Prop, (∀ t, Q' t → ∃ o, t.status = .running ∧ Ended t below o ∧ bq_ D tc M ad s.heap.size rm post E1 P1 E2 P2 (As.map (mc_v ad)).toArray s o t) → ∀ (M' : List mC) (k n pc : Nat) (L : List (Nat × Value)) (st : List Value), gg (p, l, e, rm, s, m, (As.map (mc_v ad)).toArray, below, meth, c, nl, D, tc, va_A (mc_w tc ad M) s.heap.size, M.length, ad, Q') M' k n pc L st → gg (p, l, e, rm, s, m, (As.map (mc_v ad)).toArray, below, meth, c, nl, D, tc, va_A (mc_w tc ad M) s.heap.size, M.length, ad, fun t => ∃ o, t.status = .running ∧ Ended t below o ∧ bq_ D tc M ad s.heap.size rm post E1 P1 E2 P2 (As.map (mc_v ad)).toArray s o t) M' k n pc L st := by
      intro Q' hQ M' k n pc L st K ad2 H locs ls h1 h2 h3 h4 h5 T hT Z
      obtain ⟨t, a1, b1⟩ := K ad2 H locs ls h1 h2 h3 h4 h5 T hT Z
      exact ⟨t, a1, hQ t b1⟩
    have K := body (p, l, e, rm, s, m, (As.map (mc_v ad)).toArray, below, meth, c, nl, D, tc, va_A (mc_w tc ad M) s.heap.size, M.length, ad, fun t => ∃ o, t.status = .running ∧ Ended t below o ∧ bq_ D tc M ad s.heap.size rm post E1 P1 E2 P2 (As.map (mc_v ad)).toArray s o t)
      (ok9 _) ⟨rfl, rfl, rfl⟩
      (fun M' k n pc L st h => up (MQ below (mq_ D tc M ad s.heap.size post) (As.map (mc_v ad)).toArray s rm.cells rm.slots (va_A (mc_w tc ad M) s.heap.size)) (fun t ⟨o, z1, z2, z3, z4⟩ => ⟨o, z1, z2, Or.inl ⟨z3, z4⟩⟩) M' k n pc L st (h _ (ok9 _) ⟨rfl, rfl, rfl, rfl, rfl, rfl, B.returns, (name_of_methodNamed B.named B.method).1⟩))
      (fun M' k n pc L st h => up (fun t => ∃ o, t.status = .running ∧ Ended t below o ∧ xq_ D tc M ad s.heap.size rm E1 P1 (As.map (mc_v ad)).toArray s o t) (fun t ⟨o, z1, z2, z3⟩ => ⟨o, z1, z2, Or.inr (Or.inl z3)⟩) M' k n pc L st (h _ (ok9 _) ⟨rfl, rfl, rfl, rfl, rfl, rfl, B.noHandlers (hts _ List.mem_cons_self)⟩))
      (fun M' k n pc L st h => up (fun t => ∃ o, t.status = .running ∧ Ended t below o ∧ xq_ D tc M ad s.heap.size rm E2 P2 (As.map (mc_v ad)).toArray s o t) (fun t ⟨o, z1, z2, z3⟩ => ⟨o, z1, z2, Or.inr (Or.inr z3)⟩) M' k n pc L st (h _ (ok9 _) ⟨rfl, rfl, rfl, rfl, rfl, rfl, B.noHandlers (hts _ List.mem_cons_self)⟩))
      ad s.heap [] _ ⟨Nat.le_refl _, fun _ _ => rfl, fun _ => rfl⟩ hP (hD0.self (sz := s.heap.size)) va_S.rf (by rw [ml_args]; exact hl)
    rw [lg_entry_eq]
    obtain ⟨t, a1, o, b1, b2, b3⟩ := K s₁ hh0 (Stand.of_body B)
    exact ⟨t, o, a1, b1, b2, b3⟩
section XB
variable {p : Program} {l : Launch} {e : Env} {R : Room} {s : State} {sargs : Array Value} {below : List Frame} {y : MethodName} {len Wn : Nat}
/-- a callee that has ended, whichever way: the caller stands again -/
theorem x_both {ws : List Cond} {rm : Room} {P : Array Value → State → Prop} {Q : Array Value → State → Outcome → State → Prop} {F : Addr → Prop} {bytes : ByteArray} {maxL : Nat} {ret : Option FieldType}
    (hM : MetFree l y (headSpec ws rm) P (fun _ _ _ _ _ => True) Q) (hframes : rm.frames + 1 ≤ R.frames) (hlocals : Wn + (maxL + 11) + rm.locals ≤ R.locals)
    {m : MethodId} {meth : Method} {c : Code} {U : State} {Ls : List Loc} {c0 s0 : Nat} (X : Stand p l e R s m sargs below meth c U Ls c0 s0) {g : JFrame} {ig : Instr} {mk : MethodId} {a : Array Value}
    (hg : g.method = m) (hsize : g.locals.size = c.maxLocals) (hdg : decode c.code g.pc = .ok (ig, len)) (hW : 2 * g.monitorRoom + (g.stack.map fun v => v.category).sum ≤ Wn) (hn : U.methodNamed? y = some mk)
    (h1 : (headSpec ws rm).pre.before a U = true) (h2 : (Cond.code y bytes maxL ret).before a U = true) (h3 : (Cond.initialized y.cls).before a U = true) (h4 : c0 + rm.cells ≤ R.cells) (h5 : s0 + rm.slots ≤ R.slots) (hP : P a (U.calling g mk a))
    (hQ : ∀ o t, Q a (U.calling g mk a) o t → ∃ L, (U.calling g mk a).WarmedH t.vm ∧ (U.calling g mk a).sameButNew ({ t with vm := (U.calling g mk a).vm } : State) L rm.cells rm.slots ∧ ∀ z ∈ L, F z.base) :
    ∃ (o : Outcome) (t U2 : State) (L : List Loc), U2.heap = t.heap ∧ U2.vm = t.vm ∧ Q a (U.calling g mk a) o t ∧ (∀ z ∈ L, F z.base) ∧ Stand p l e R s m sargs below meth c U2 (Ls ++ L) (c0 + rm.cells) (s0 + rm.slots) ∧
      (∀ v, o = .returned v → Steps p.tables e below (doInvoke e (U.setTop g) [] mk a).1 (U2.setTop { g with pc := g.pc + len, stack := v.toList ++ g.stack })) ∧
      (∀ q, o = .threw q → Steps p.tables e below (doInvoke e (U.setTop g) [] mk a).1 ((U2.setTop g).pushFrame (.throwing q))) := by
  obtain ⟨methY, cY, hmY, hcY, -, hlY, -, -, -, -⟩ := Cond.code_spec hn h2
  obtain ⟨kY, hkY, -⟩ := className_of_methodNamed hn
  have hinitY : kY.init = .initialized := Cond.initialized_spec (findClass_of_methodNamed hn) hkY h3
  have h : At U g.method c below := by rw [hg]; exact X.here
  have happ : (headSpec ws rm).appliesLoose y e.platform (U.calling g mk a) = true :=
    Spec.appliesLoose_calling (g := g) h hdg hn hkY hinitY (X.room_calling (g := g) (R' := rm) hsize hmY hcY hframes (by rw [hlY]; omega) h4 h5) h1
  obtain ⟨mid, hmid⟩ := h.above
  have hfr : (U.setTop g).frames = (.java g :: mid) ++ below := by rw [State.frames_setTop' g h.top, hmid]; rfl
  obtain ⟨o, s₂, hsteps, -, hend, hq⟩ := Steps.callFree hM p X.admits X.cas X.clock (acts := []) hfr happ hP trivial
  have hq' : Q a (U.calling g mk a) o s₂ := hq
  rw [State.frames_setTop' g h.top] at hend
  obtain ⟨L, hW₂, ⟨e2, q2, q3, q4, q5, q6⟩, hF⟩ := hQ o s₂ hq'
  have e3 : s₂ = ({ (U.calling g mk a).setFrames s₂.frames with heap := s₂.heap, slotsUsed := s₂.slotsUsed } : State).setVm s₂.vm := by
    have z : s₂ = ({ s₂ with vm := (U.calling g mk a).vm } : State).setVm s₂.vm := rfl
    rw [e2] at z
    exact z
  have hW' : U.WarmedH s₂.vm := hW₂
  obtain ⟨g₀, hg0⟩ := Option.isSome_iff_exists.mp h.top
  obtain ⟨r, hr⟩ := State.topJava?_eq_some.mp hg0
  have hr' : (({ U with heap := s₂.heap, slotsUsed := s₂.slotsUsed } : State).setVm s₂.vm).frames = .java g₀ :: r := hr
  have hsame : U.sameButNew ({ U with heap := s₂.heap, slotsUsed := s₂.slotsUsed } : State) L rm.cells rm.slots := by
    refine ⟨?_, q2, q3, q4, q5, q6⟩
    obtain ⟨t, ht, -⟩ := State.frames_cons hr
    show ({ U with heap := s₂.heap, slotsUsed := s₂.slotsUsed } : State) = { U.setFrames U.frames with heap := s₂.heap, slotsUsed := s₂.slotsUsed }
    rw [State.setFrames_self ht]
  subst hg
  refine ⟨o, s₂, (({ U with heap := s₂.heap, slotsUsed := s₂.slotsUsed } : State).setVm s₂.vm), L, rfl, rfl, hq', hF,
    ⟨X.admits, X.cas, X.clock, X.frames, X.room, X.hears, X.method, X.code, (X.here.setHeapUsed s₂.heap s₂.slotsUsed).setVm hW'.alike, X.tail, State.WarmedH.trans X.warmed hW', X.limits, X.bytes, X.same.trans (hsame.setVm s.vm)⟩, ?_, ?_⟩
  · rintro v rfl
    obtain ⟨c₂, i₂, len₂, hc₂, hd₂, hf₂⟩ := hend
    have hcc : c₂ = c := by
      have h9 : s₂.code? g.method = U.code? g.method := by
        rw [State.code?_eq, State.code?_eq, hW'.alike.method?]
      exact Option.some.inj (hc₂.symm.trans (h9.trans h.code))
    subst hcc
    have hlen : len₂ = len := by rw [hdg] at hd₂; cases hd₂; rfl
    subst hlen
    have hs₂ : s₂ = (({ U with heap := s₂.heap, slotsUsed := s₂.slotsUsed } : State).setVm s₂.vm).setTop { g with pc := g.pc + len₂, stack := v.toList ++ g.stack } := by
      refine e3.trans ?_
      rw [hf₂, State.calling_eq h.top, State.setFrames_setFrames, State.setTop_of_frames _ hr', hr]
      rfl
    rw [← hs₂]
    exact hsteps
  · rintro q rfl
    have hf₂ : s₂.frames = .throwing q :: .java g :: U.frames.tail := hend
    have hs₂ : s₂ = ((({ U with heap := s₂.heap, slotsUsed := s₂.slotsUsed } : State).setVm s₂.vm).setTop g).pushFrame (.throwing q) := by
      refine e3.trans ?_
      rw [hf₂, State.calling_eq h.top, State.setFrames_setFrames, State.pushFrame, State.frames_setTop _ hr', State.setTop_of_frames _ hr', State.setFrames_setFrames, hr]
      rfl
    rw [← hs₂]
    exact hsteps
end XB
section GCB
variable {X : gC} {cc : ByteArray} {own : String} {M : List mC} {k n pc : Nat} {L : List (Nat × Value)} {st rest : List Value} {y0 y : MethodName} {b0 b : ByteArray} {nl0 nl : Nat} {ret0 ret : Option FieldType} {rm : Room} {As : List Value} {index o : Nat} {E1 E2 : String} {P1 P2 : List mC → Prop} {post : Option Value → List mC → Prop}
/-- a call that returns, or throws an E1, caught here, or an E2, caught here -/
theorem g_callVB (ok : gO X cc own (wsM y0 b0 nl0 ret0)) {ci : Nat} {fs : List Value} {C : String} {T : u_T} {N : Nat} (hM : mb_ (gLa X) y (wsM y b nl ret) rm (.ref o :: As) M post E1 P1 E2 P2) (hcode : Cond.code y b nl ret ∈ gT) (hlink : Cond.methodLink own index y ∈ gT) (hinst : Cond.instanceMethod y ∈ gT) (hsel : Cond.selects C y y ∈ gT) (hini : Cond.initialized y.cls ∈ gT)
    (hd : y.cls ≠ "java/lang/invoke/MethodHandle" ∧ y.cls ≠ "java/lang/invoke/VarHandle" ∧ (parseMethodDescriptor y.desc).map (fun d => d.parameters.length) = some As.length)
    (hc : vwCl[ci]? = some (C, T, N)) (hdg : decode cc pc = .ok (.invokevirtual index, 3)) (hst : As.reverse ++ .ref o :: rest = st) (hrest : (rest.map fun v => v.category).sum ≤ 8) (hR : gF X rm nl k n) (he : M[o]? = some (.inr (ci, fs))) (hlen : ∀ r M', post r M' → M'.length = M.length)
    {x1 x2 : ExceptionTableEntry} (hsplit : (gCo X).exceptionTable.toList = [x1, x2]) (hx1 : covers x1 pc = true) (hx2 : covers x2 pc = true) (h01 : x1.catchType ≠ 0) (h02 : x2.catchType ≠ 0) (hlk1 : Cond.classLink own x1.catchType E1 ∈ gT) (hlk2 : Cond.classLink own x2.catchType E2 ∈ gT) (hcast1 : Cond.castable E1 E1 ∈ yT) (hcast2 : Cond.castable E2 E2 ∈ yT) (hncast : Cond.not (.castable E2 E1) ∈ yT)
    (kr : ∀ r M', post r M' → gg X M' (k + rm.cells) (n + rm.slots) (pc + 3) L (r.toList ++ rest)) (k1 : ∀ M', P1 M' → gh X M' (k + rm.cells) (n + rm.slots) x1.handlerPc L) (k2 : ∀ M', P2 M' → gh X M' (k + rm.cells) (n + rm.slots) x2.handlerPc L) : gg X M k n pc L st := by
  obtain ⟨p, l, e, R, s, m, args, below, meth, c, nL, D, tc, A, n0, ad0, Q⟩ := X
  obtain ⟨hexec, hb, hml, hown, hts, hK, hA, hlk, hY⟩ := ok
  intro ad H locs ls h1 h2 h3 h4 h5
  subst hst
  have hf := w_sub h3 h4 hA
  have hg : ∀ w ∈ gT, w.before args s = true := fun w hw => hts w (List.mem_cons_of_mem _ hw)
  have hgu : ∀ w ∈ gT, ∀ (a' : Array Value) (U : State), s.WarmedH U.vm → w.before a' U = true := fun w hw a' U hW => word_at hW (good_of_word (List.mem_filter.mp hw).2) (hg w hw)
  have hws : ∀ w ∈ wsM y b nl ret, ∀ (a' : Array Value) (U : State), s.WarmedH U.vm → w.before a' U = true := fun w hw => by
    rcases List.mem_cons.mp hw with rfl | hw
    · exact hgu _ hcode
    · exact hgu w hw
  intro T9 hT Z
  obtain ⟨mk, methM, hnamed, hmethM, hstM, habM⟩ := Cond.instanceMethod_spec (hg _ hinst)
  obtain ⟨methM', cM, hmethM', -, -, -, -, -, -, hsigM⟩ := Cond.code_spec hnamed (hg _ hcode)
  cases hmethM.symm.trans hmethM'
  obtain ⟨c2, r2, m2, q1, q2, q3, q4, kP, hkP, hkPi⟩ := Cond.selects_spec (hg _ hsel)
  obtain ⟨cellB, hcB, hoB, hclB⟩ := va_recv hK h2 hc (mc_at he)
  cases hclB.symm.trans q1
  cases (State.methodFound?_of_named hnamed ⟨hd.1, hd.2.1⟩).symm.trans q2
  cases hnamed.symm.trans q3
  have hselP : selectMethod e.platform s.vm cellB.cls mk = .method mk := by rw [Launch.admits_selectMethod Z.admits]; exact q4
  have hsl : (As.map (mc_v ad)).length = methM.sig.parameters.length := by
    have h9 := hd.2.2
    rw [hsigM] at h9
    rw [List.length_map]
    exact (Option.some.inj h9).symm
  have hstk : (F0 m pc ls ((As.reverse ++ Value.ref o :: rest).map (mc_v ad))).stack = (As.map (mc_v ad)).reverse ++ .ref (ad o) :: rest.map (mc_v ad) := by
    show (As.reverse ++ Value.ref o :: rest).map (mc_v ad) = _
    rw [List.map_append, List.map_reverse]
    rfl
  obtain ⟨vm₁, X₁, hstep₁⟩ := Z.invokevirtual hexec hown (hg _ hlink) hnamed hmethM hstM hkP hkPi ⟨hd.1, hd.2.1⟩ (a := ad o) (cell := cellB) (by rw [hT]; exact hcB) (fun z h => by rw [h] at hoB; cases hoB) hselP hmethM habM hkP hkPi (g := F0 m pc ls ((As.reverse ++ Value.ref o :: rest).map (mc_v ad))) rfl (argsL := As.map (mc_v ad)) (rest := rest.map (mc_v ad)) hsl hstk (by rw [hb]; exact hdg)
  have hpre : mp_ D tc (.ref o :: As) M ad H.size ((Value.ref o :: As).map (mc_v ad)).toArray (T9.setVm vm₁) := w_pre (As := .ref o :: As) h2 h3 h4 hA hK hY (T9.setVm vm₁) hT X₁.warmed
  obtain ⟨oc, t, U', Ls, e1, e2, hq, hLs, X', hgoR, hgoT⟩ := x_both (F := va_A (mc_w tc ad M) H.size) (bytes := b) (maxL := nl) (ret := ret) (Wn := 8) (len := 3) (hM D tc ad H.size) hR.1 hR.2.1 X₁ (g := { (F0 m pc ls ((As.reverse ++ Value.ref o :: rest).map (mc_v ad))) with stack := rest.map (mc_v ad) }) (ig := .invokevirtual index) (mk := mk) (a := ((Value.ref o :: As).map (mc_v ad)).toArray) rfl (h5.1.trans hml.symm) (by rw [hb]; exact hdg) (by
      show 2 * (F0 m pc ls _).monitorRoom + _ ≤ 8
      rw [w_cat]
      simpa [JFrame.monitorRoom] using hrest) (X₁.named hnamed) (atoms_intro fun w hw => hws w hw _ _ X₁.warmed) (hgu _ hcode _ _ X₁.warmed) (hgu _ hini _ _ X₁.warmed) hR.2.2.1 hR.2.2.2 (mp_blind D tc _ M ad H.size _ _ _ _ hpre) (by
      rintro o9 t9 (⟨z1, L9, ⟨-, z2, z3⟩, z4⟩ | ⟨q, ce, L9, r1, r2', r3, r4, ⟨-, r5, r6⟩, r7, r8⟩ | ⟨q, ce, L9, r1, r2', r3, r4, ⟨-, r5, r6⟩, r7, r8⟩)
      · exact ⟨L9, z2, z3, z4⟩
      · exact ⟨L9, r5, r6, r7⟩
      · exact ⟨L9, r5, r6, r7⟩)
  have hk9 : va_F (va_A (mc_w tc ad M) H.size) ((T9.setVm vm₁).calling { (F0 m pc ls ((As.reverse ++ Value.ref o :: rest).map (mc_v ad))) with stack := rest.map (mc_v ad) } mk ((Value.ref o :: As).map (mc_v ad)).toArray) t := by
    rcases hq with ⟨⟨-, z⟩, -⟩ | ⟨_, _, _, -, -, -, -, -, -, -, z⟩ | ⟨_, _, _, -, -, -, -, -, -, -, z⟩
    all_goals exact z
  have hz' : H.size ≤ U'.heap.size := by rw [e1]; exact hT ▸ hk9.1
  have hk' : ∀ q : Nat, q < H.size → ¬ va_A (mc_w tc ad M) H.size q → U'.heap[q]? = H[q]? := fun a a1 a2 => by
    rw [e1, hk9.2 a (by show a < T9.heap.size; rw [hT]; exact a1) a2]
    show T9.heap[a]? = H[a]?
    rw [hT]
  have k3 : va_S A s.heap U'.heap (locs ++ Ls) := ⟨Nat.le_trans h4.1 hz', fun a a1 a2 => by rw [hk' a (Nat.lt_of_lt_of_le a1 h4.1) (fun z => a2 (hf a z))]; exact h4.2.1 a a1 a2, fun z hz => by
    rcases List.mem_append.mp hz with h | h
    · exact h4.2.2 z h
    · exact hf _ (hLs z h)⟩
  have hpl : e.platform.magicAccessors = ({} : Platform).magicAccessors := by rw [Z.admits.platform]
  obtain ⟨cl1, hcl1, hkl1⟩ := Cond.classLink_spec hown (hg _ hlk1) e.platform hpl
  obtain ⟨cl2, hcl2, hkl2⟩ := Cond.classLink_spec hown (hg _ hlk2) e.platform hpl
  rcases hq with ⟨⟨⟨r, M', ad', hv, hp, hgA, hP', hD'⟩, -⟩, -⟩ | ⟨q, ce, Ls', r1, r2', r3, r4, r5, r6, ⟨M', p1, p2, p3, p4⟩, -⟩ | ⟨q, ce, Ls', r1, r2', r3, r4, r5, r6, ⟨M', p1, p2, p3, p4⟩, -⟩
  · have hl := hlen r M' hp
    have had : ad' = ad := hgA.2.2 hl
    subst had
    obtain ⟨t2, a1, b1⟩ := kr r M' hp ad' U'.heap (locs ++ Ls) ls ⟨by rw [hl]; exact h1.1, h1.2.1, fun z => h1.2.2 (hl ▸ z)⟩ (by rw [e1]; exact hP') (hD'.weaken (fun _ q _ h => hf q.1 h)) k3 h5 U' rfl X'
    refine ⟨t2, hstep₁ _ (fun acts => ?_), b1⟩
    rw [doInvoke_state]
    refine (hgoR _ hv).trans ?_
    have e9 : (r.toList ++ rest).map (mc_v ad') = (r.map (mc_v ad')).toList ++ rest.map (mc_v ad') := by
      rw [List.map_append]
      cases r <;> rfl
    rw [e9] at a1
    exact a1
  · have hcl : s.vm.findClass E1 = some ce.cls := by
      have h9 : (T9.setVm vm₁).vm.findClass E1 = some ce.cls := r4
      rw [X₁.warmed.alike.findClass] at h9
      exact h9
    obtain ⟨c3, c4, hc3, hc4, hasg⟩ := Cond.castable_spec (hY.use args _ hcast1)
    cases Option.some.inj (hc3.symm.trans hcl)
    cases Option.some.inj (hc4.symm.trans hcl1)
    obtain ⟨vm', XV, hgo⟩ := X'.thenCaughtThrough q (g := F0 m pc ls (rest.map (mc_v ad))) rfl (hgoT q r1) (by rw [e1]; exact r2') (by rw [r3]; rfl) (by obtain ⟨k9, h9, -⟩ := Vm.findClass_spec hcl; exact ⟨k9, h9⟩) [] x1 [x2] hsplit (fun z hz => (nomatch hz)) hx1 (Or.inr ⟨h01, cl1, hkl1, hasg⟩)
    obtain ⟨t2, a1, b1⟩ := k1 M' p1 q ad U'.heap (locs ++ Ls) ls ⟨by rw [p2]; exact h1.1, h1.2.1, fun z => h1.2.2 (p2 ▸ z)⟩ (by rw [e1]; exact p3) (p4.weaken (fun _ q _ h => hf q.1 h)) k3 h5 (U'.setVm vm') rfl XV
    exact ⟨t2, hstep₁ _ (fun acts => by rw [doInvoke_state]; exact hgo.trans a1), b1⟩
  · have hcl : s.vm.findClass E2 = some ce.cls := by
      have h9 : (T9.setVm vm₁).vm.findClass E2 = some ce.cls := r4
      rw [X₁.warmed.alike.findClass] at h9
      exact h9
    obtain ⟨c3, c4, hc3, hc4, hasg⟩ := Cond.castable_spec (hY.use args _ hcast2)
    cases Option.some.inj (hc3.symm.trans hcl)
    cases Option.some.inj (hc4.symm.trans hcl2)
    obtain ⟨vm', XV, hgo⟩ := X'.thenCaughtThrough q (g := F0 m pc ls (rest.map (mc_v ad))) rfl (hgoT q r1) (by rw [e1]; exact r2') (by rw [r3]; rfl) (by obtain ⟨k9, h9, -⟩ := Vm.findClass_spec hcl; exact ⟨k9, h9⟩) [x1] x2 [] hsplit
      (fun z hz => by
        rw [List.mem_singleton.mp hz]
        obtain ⟨a8, b8, v1, v2, v3⟩ := va_Nc.of (hY.use args _ hncast)
        cases Option.some.inj (v1.symm.trans hcl)
        cases Option.some.inj (v2.symm.trans hcl1)
        exact Or.inr ⟨h01, _, hkl1, v3⟩) hx2 (Or.inr ⟨h02, cl2, hkl2, hasg⟩)
    obtain ⟨t2, a1, b1⟩ := k2 M' p1 q ad U'.heap (locs ++ Ls) ls ⟨by rw [p2]; exact h1.1, h1.2.1, fun z => h1.2.2 (p2 ▸ z)⟩ (by rw [e1]; exact p3) (p4.weaken (fun _ q _ h => hf q.1 h)) k3 h5 (U'.setVm vm') rfl XV
    exact ⟨t2, hstep₁ _ (fun acts => by rw [doInvoke_state]; exact hgo.trans a1), b1⟩
end GCB
