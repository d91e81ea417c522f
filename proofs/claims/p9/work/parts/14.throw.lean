/-! WHAT IS THROWN -/
def xq_ (D : va_G) (tc : Nat → ClassId) (M : List mC) (ad : Nat → Nat) (sz : Nat) (rm : Room) (E : String) (postX : List mC → Prop) : Array Value → State → Outcome → State → Prop := fun _ st o t =>
  ∃ (q : Addr) (ce : Cell) (Ls : List Loc), o = .threw q ∧ t.heap[q]? = some ce ∧ ce.vm = .none ∧ st.vm.findClass E = some ce.cls ∧ Free.FrameEndT st o t Ls rm.cells rm.slots ∧ (∀ z ∈ Ls, va_A (mc_w tc ad M) sz z.base) ∧ (∃ M' : List mC, postX M' ∧ M'.length = M.length ∧ va_P D vwCl (mc_w tc ad M') t.heap ∧ va_D (va_A (mc_w tc ad M) sz) (mc_w tc ad M')) ∧ va_F (va_A (mc_w tc ad M) sz) st t
/-- method y, called with As in the world M, throws an E; the world is M' then, with 'postX M'' -/
def mx_ (l : Launch) (y : MethodName) (ws : List Cond) (rm : Room) (As : List Value) (M : List mC) (E : String) (postX : List mC → Prop) : Prop :=
  ∀ (D : va_G) (tc : Nat → ClassId) (ad : Nat → Nat) (sz : Nat), MetFree l y (headSpec ws rm) (mp_ D tc As M ad sz) (fun _ _ _ _ _ => True) (xq_ D tc M ad sz rm E postX)
def gXX (X : gC) (l9 : Launch) (y : MethodName) (rm : Room) (nl : Nat) (M0 : List mC) (E : String) (postX : List mC → Prop) : Prop := match X with
  | (p, l, e, R, s, m, args, below, meth, c, nL, D, tc, A, n0, ad0, Q) => l = l9 ∧ R = rm ∧ nL = nl ∧ A = va_A (mc_w tc ad0 M0) s.heap.size ∧ n0 = M0.length ∧ Q = (fun t => ∃ o, t.status = .running ∧ Ended t below o ∧ xq_ D tc M0 ad0 s.heap.size rm E postX args s o t) ∧ c.exceptionTable.isEmpty = true
theorem ml_sl (ad : Nat → Nat) : ∀ vs : List Value, (lg_sl (vs.map (mc_v ad))).length = (lg_sl vs).length
  | [] => rfl
  | v :: r => by
    have ih := ml_sl ad r
    simp only [lg_sl, List.map_cons, List.flatMap_cons, List.length_append, mc_v_cat] at ih ⊢
    rw [ih]
    congr 1
    split <;> rfl
theorem mx_intro {l : Launch} {y : MethodName} {b : ByteArray} {nl : Nat} {ret : Option FieldType} {rm : Room} {As : List Value} {M : List mC} {E : String} {postX : List mC → Prop} (hy : plainName y.cls = true) (hn : (lg_sl As).length ≤ nl)
    (body : ∀ X : gC, gO X b y.cls (wsM y b nl ret) → gXX X l y rm nl M E postX → gg X M 0 0 0 (lv_args 0 As) []) : mx_ l y (wsM y b nl ret) rm As M E postX := by
  intro D tc ad sz
  refine MetFree.of_bodyS (code := b) (maxLocals := nl) (ret := ret) hy ?_ ?_
  · intro args s m h hn
    obtain ⟨meth, c, h1, h2, h3, h4, h5, h6, -, -⟩ := Cond.code_spec hn (atoms_spec (ws := wsM y b nl ret) h _ List.mem_cons_self)
    exact ⟨meth, c, h1, h2, h3, h4, h5, h6⟩
  · intro p e s m args below meth c s₁ B hml hP _
    obtain ⟨rfl, hsz, hP, hK, hD0, hY⟩ := hP
    subst hsz
    have hts := atoms_spec (ws := wsM y b nl ret) B.pre
    have hown : s.vm.findClass y.cls = some m.cls := findClass_of_methodNamed B.named
    have hl := lv_entry (As.map (mc_v ad)) (n := nl) (by rw [ml_sl]; exact hn)
    have hh0 : s₁.heap = s.heap := by rw [B.state]; rfl
    have K := body (p, l, e, rm, s, m, (As.map (mc_v ad)).toArray, below, meth, c, nl, D, tc, va_A (mc_w tc ad M) s.heap.size, M.length, ad, fun t => ∃ o, t.status = .running ∧ Ended t below o ∧ xq_ D tc M ad s.heap.size rm E postX (As.map (mc_v ad)).toArray s o t)
      ⟨B.exec, B.bytes, hml, hown, hts, hK, fun q h => Or.inr h, B.notSynchronized, hY⟩ ⟨rfl, rfl, rfl, rfl, rfl, rfl, B.noHandlers (hts _ List.mem_cons_self)⟩
      ad s.heap [] _ ⟨Nat.le_refl _, fun _ _ => rfl, fun _ => rfl⟩ hP (hD0.self (sz := s.heap.size)) va_S.rf (by rw [ml_args]; exact hl)
    rw [lg_entry_eq]
    obtain ⟨t, a1, o, b1, b2, b3⟩ := K s₁ hh0 (Stand.of_body B)
    exact ⟨t, o, a1, b1, b2, b3⟩
section XR
variable {p : Program} {l : Launch} {e : Env} {R : Room} {s : State} {m : MethodId} {args : Array Value} {below : List Frame} {meth : Method} {c : Code} {T : State} {locs : List Loc} {cells slots : Nat}
/-- the same standing, counted from here -/
theorem x_here (X : Stand p l e R s m args below meth c T locs cells slots) {R' : Room} (hf : R'.frames = R.frames) (hl : R'.locals = R.locals) (hc : cells + R'.cells ≤ R.cells) (hs : slots + R'.slots ≤ R.slots) :
    Stand p l e R' ((T.setVm s.vm).setFrames (.invoking m args :: below)) m args below meth c T [] 0 0 := by
  have htop : (T.setVm s.vm).topJava?.isSome := X.here.top
  have hF : ((T.setVm s.vm).setFrames (.invoking m args :: below)).frames = .invoking m args :: below := State.frames_setFrames _ (State.cur_lt_of_top htop)
  have hroom := X.room
  have q1 := X.heapSize
  have q2 := X.used
  have u1 : e.platform.stackLimits (T.setVm s.vm).me = e.platform.stackLimits s.me := X.limits
  have u2 : (T.setVm s.vm).me.stackBytes = s.me.stackBytes := X.bytes
  have u3 : ((T.setVm s.vm).setFrames (.invoking m args :: below)).localsInUse = s.localsInUse := (State.localsInUse_invoking hF X.method X.code).trans (State.localsInUse_invoking X.frames X.method X.code).symm
  have hnil : T.heap.toList.drop T.heap.size = [] := List.drop_eq_nil_of_le (Nat.le_of_eq Array.length_toList)
  refine ⟨X.admits, X.cas, X.clock, hF, ?_, X.hears, X.method, X.code, X.here, X.tail, X.warmed, (State.stackLimits_setFrames ..).symm, (State.stackBytes_setFrames ..).symm, ?_⟩
  · simp only [State.hasRoom, Bool.and_eq_true, decide_eq_true_eq] at hroom ⊢
    obtain ⟨⟨⟨⟨r1, r2, r3, r4, r5, r6⟩, r7⟩, r8⟩, -⟩ := hroom
    rw [X.frames, List.length_cons] at r2 r3
    simp only [hF, u3, List.length_cons, State.stackLimits_setFrames, State.stackBytes_setFrames, u1, u2, hf, hl]
    have z1 : T.heap.size + R'.cells ≤ e.platform.maxCells := by omega
    have z2 : T.slotsUsed + R'.slots ≤ e.platform.maxSlots := by omega
    exact ⟨⟨⟨⟨r1, r2, r3, r4, r5, r6⟩, z1⟩, z2⟩, X.book⟩
  · obtain ⟨g₀, hg0⟩ := Option.isSome_iff_exists.mp htop
    obtain ⟨r, hr⟩ := State.topJava?_eq_some.mp hg0
    obtain ⟨t, ht, -⟩ := State.frames_cons hr
    refine ⟨?_, Nat.le_refl _, Nat.le_refl _, ?_, ?_, fun a c9 h9 => ⟨c9, h9, rfl, rfl, fun _ _ => rfl⟩⟩
    · show T.setVm s.vm = { ((T.setVm s.vm).setFrames (.invoking m args :: below)).setFrames (T.setVm s.vm).frames with heap := T.heap, slotsUsed := T.slotsUsed }
      rw [State.setFrames_setFrames, State.setFrames_self ht]
      rfl
    · show T.slotsUsed = T.slotsUsed + ((T.heap.toList.drop T.heap.size).map (·.slots.size)).sum
      rw [hnil]
      rfl
    · show ((T.heap.toList.drop T.heap.size).map (·.slots.size)).sum ≤ 0
      rw [hnil]
      exact Nat.le_refl _
end XR
section XCT
variable {p : Program} {l : Launch} {e : Env} {R : Room} {s : State} {m₀ : MethodId} {args : Array Value} {below : List Frame} {meth : Method} {c : Code} {W : State} {locs : List Loc} {cells slots : Nat}
/-! 'throw new E("..")' with stack traces off, where E's own constructor links its super's at any index -/
theorem x_ctorX (X : Stand p l e R s m₀ args below meth c W locs cells slots) (hexec : p.tables.exec = Jvm.exec) (htr : e.platform.stackTraces = false) {own cls : String} {names : List String} {ic ix : Nat} {rx : ByteArray}
    (x0 : decode rx 0 = .ok (.aload_n 0, 1)) (x1 : decode rx 1 = .ok (.aload_n 1, 1)) (x2 : decode rx 2 = .ok (.invokespecial ix, 3)) (x5 : decode rx 5 = .ok (.return_, 1))
    (hown : s.vm.findClass own = some m₀.cls) (hcls : Bundle.fit cls = true) (hnames : ∀ n ∈ names, Bundle.fit n = true) (h : ∀ a ∈ Bundle.ownAtomsX own ic cls ix rx names, a.before args s = true)
    (hlocs : ∀ x ∈ locs, ∀ cell, s.heap[x.base]? = some cell → cell.vm.isStatics = false)
    {a : Addr} {cX : ClassId} {kX : Class} (hfX : s.vm.findClass cls = some cX) (hkX : s.vm.classes[cX]? = some kX) (hcell : W.heap[a]? = some (freshCell cX kX)) (hnew : s.heap.size ≤ a) {msg : Value} (hmsg : msg.isRef = true)
    {g : JFrame} (hg : g.method = m₀) (hsize : g.locals.size = c.maxLocals) (hlocked : g.locked = none) (hentered : g.entered = []) {rest : List Value} (hstack : g.stack = msg :: .ref a :: .ref a :: rest)
    (hd6 : decode c.code g.pc = .ok (.invokespecial ic, 3)) (hd9 : decode c.code (g.pc + 3) = .ok (.athrow, 1)) (hout : ∀ x ∈ c.exceptionTable.toList, covers x (g.pc + 3) = false)
    (hRf : names.length + 3 < R.frames) (hRl : 2 * g.monitorRoom + ((Value.ref a :: rest).map fun v => v.category).sum + (13 * (names.length + 1) + 42) ≤ R.locals) (hlocks : meth.locks = false) :
    ∃ U : State, Steps p.tables e below (W.setTop g) U ∧ U.status = .running ∧ Ended U below (.threw a) ∧ s.WarmedH U.vm ∧ s.sameButNew ({ U with vm := s.vm } : State) locs cells slots ∧
      ∃ ce, U.heap[a]? = some ce ∧ s.vm.findClass cls = some ce.cls ∧ ce.vm = .none := by
  have hpl : e.platform.magicAccessors = ({} : Platform).magicAccessors := by rw [X.admits.platform]
  have w : ∀ x ∈ Bundle.ownAtomsX own ic cls ix rx names, x.before args s = true := h
  obtain ⟨T, Z0, L, -, Y⟩ := ThrowableC.of_atoms (args := args) (by rw [X.admits.platform]) (by rw [X.admits.platform]) hpl (fun x hx => w x (by simp [Bundle.ownAtomsX, hx]))
  obtain ⟨Z, M, LZ, LM, hnZ⟩ := Init0T.ofS_atoms (args := args) hpl L Y (fun x hx => w x (by simp [Bundle.ownAtomsX, hx]))
  obtain ⟨P, Ps, hlen, L1, hL, hPm, hl1, hl2⟩ := Bundle.chainSX (args := args) hpl hnZ x0 x1 x2 x5 names cls hcls hnames (fun x hx => w x (by simp [Bundle.ownAtomsX, hx]))
  have hf : s.vm.findClass cls = some P.m.cls := findClass_of_methodNamed hPm
  cases Option.some.inj (hfX.symm.trans hf)
  obtain ⟨c1, k1, hc1, hk, hord, -, -, -⟩ := Cond.instantiable_spec (w (.instantiable cls 6) (by simp [Bundle.ownAtomsX]))
  cases Option.some.inj (hc1.symm.trans hf)
  cases Option.some.inj (hkX.symm.trans hk)
  have sel : ∀ {y : MethodName} {m : MethodId}, s.methodNamed? y = some m → s.methodFound? y.cls y.name y.desc = some m → (Cond.selects cls y y).before args s = true → selectMethod e.platform s.vm P.m.cls m = .method m := by
    intro y m hy hy2 hc
    obtain ⟨c2, r2, m2, q1, q2, q3, q4, -⟩ := Cond.selects_spec hc
    cases Option.some.inj (q1.symm.trans hf)
    cases Option.some.inj (q2.symm.trans hy2)
    cases Option.some.inj (q3.symm.trans hy)
    rw [Launch.admits_selectMethod X.admits]
    exact q4
  have s0 := sel Y.fill0 (State.methodFound?_of_named Y.fill0 (by decide)) (w _ (by simp [Bundle.ownAtomsX]))
  have s1 := sel Y.fill (State.methodFound?_of_named Y.fill (by decide)) (w _ (by simp [Bundle.ownAtomsX]))
  obtain ⟨k0, hk0, hst⟩ := Y.statics
  obtain ⟨u0, hu0⟩ := Cond.staticRefV Y.unassigned L.unassignedStatic L.statics hk0 hst (w (.isRef (.static Bundle.tN "UNASSIGNED_STACK" Bundle.steD)) (by simp [Bundle.ownAtomsX]))
  obtain ⟨u1, hu1⟩ := Cond.staticRefV Y.sentinel L.sentinelStatic L.statics hk0 hst (w (.isRef (.static Bundle.tN "SUPPRESSED_SENTINEL" Bundle.listD)) (by simp [Bundle.ownAtomsX]))
  obtain ⟨ci, ii, fB, b1, b2, b3, b4, -, b5, b6, b7⟩ := Cond.ownField (t := .object "java/lang/Object") Y.found L.cls (by decide +kernel) (w (.fieldLink Bundle.tN 198 Bundle.tN "backtrace" "Ljava/lang/Object;") (by simp [Bundle.ownAtomsX])) (w (.lays Bundle.tN Bundle.tN "backtrace" "Ljava/lang/Object;") (by simp [Bundle.ownAtomsX])) e.platform hpl
  obtain ⟨k2, hk2, he2, -, hkeep⟩ := X.same.2.2.2.2.2 T.aS k0 hk0
  have hnot : ∀ i, (⟨T.aS, i⟩ : Loc) ∉ locs := fun i hm => by
    have z := hlocs _ hm k0 hk0
    rw [hst] at z
    cases z
  have hkn : k2.vm ≠ .unknown := by
    rw [he2]
    intro z
    rw [show k0.vm = .unknown from z] at hst
    cases hst
  obtain ⟨iM, hM⟩ := Y.msg
  obtain ⟨tC, dC, gC, nC⟩ := Cond.laysAt hf hk Y.cause (w (.lays cls Bundle.tN "cause" "Ljava/lang/Throwable;") (by simp [Bundle.ownAtomsX]))
  obtain ⟨tS, dS, gS, nS⟩ := Cond.laysAt hf hk Y.stack (w (.lays cls Bundle.tN "stackTrace" Bundle.steD) (by simp [Bundle.ownAtomsX]))
  obtain ⟨tP, dP, gP, nP⟩ := Cond.laysAt hf hk Y.supp (w (.lays cls Bundle.tN "suppressedExceptions" Bundle.listD) (by simp [Bundle.ownAtomsX]))
  obtain ⟨tM, dM, gM, nM⟩ := Cond.laysAt hf hk hM (w (.lays cls Bundle.tN "detailMessage" "Ljava/lang/String;") (by simp [Bundle.ownAtomsX]))
  obtain ⟨tB, dB, gB, nB⟩ := Cond.laysAt hf hk b7 (w (.lays cls Bundle.tN "backtrace" "Ljava/lang/Object;") (by simp [Bundle.ownAtomsX]))
  have bC := Cond.laysApart gB gC nB nC (by rw [b5, Y.causeName]; decide)
  have bS := Cond.laysApart gB gS nB nS (by rw [b5, Y.stackName]; decide)
  have bP := Cond.laysApart gB gP nB nP (by rw [b5, Y.suppName]; decide)
  have hskip : SkipFacts T e.platform s (fun u => u) u0 ((preparedCellV T.toThrowableT (freshCell P.m.cls kX) a u0 u1).withEntry W.cur) :=
    ⟨{ ci198 := ci, i198 := ii, fBack := fB }, ⟨b1, b2, b3, b4⟩, by
      have z := fresh_default (c := P.m.cls) tB
      rw [b6] at z
      simpa [preparedCellV, Cell.setSlot, Cell.withEntry, Array.getElem?_setIfInBounds, bC, bS, bP, bC.symm, bS.symm, bP.symm, defaultValue] using z, fun _ _ => rfl⟩
  obtain ⟨tm, m9, c9, k9, v1, hn9, -, -, -, -, -, -, -, hW1, st1⟩ := Steps.initColdS (tb := p.tables) (e := e) (below := below) (s := s) (U := W) X.here hexec X.warmed hpl hown (t := Bundle.initS cls) rfl rfl (Bundle.fit_spec hcls).2
    (w (.methodLink own ic (Bundle.initS cls)) (by simp [Bundle.ownAtomsX])) (w (.instanceMethod (Bundle.initS cls)) (by cases names <;> simp [Bundle.ownAtomsX, Bundle.chainSAtomsX, Bundle.passSAtoms])) (bytes := rx) (maxL := 2) (w (.code (Bundle.initS cls) rx 2 none) (by cases names <;> simp [Bundle.ownAtomsX, Bundle.chainSAtomsX, Bundle.passSAtoms]))
    (f := g) hg (a := a) (msg := msg) (rest := .ref a :: rest) hstack hd6
  cases Option.some.inj (hn9.symm.trans hPm)
  obtain ⟨v2, X2, st2⟩ := (X.noted hW1).ctorMessageOffV hexec (g := { g with stack := .ref a :: rest }) hg hsize T L Z LZ M LM (P :: Ps)
    (fun Q hQ => by rcases List.mem_cons.mp hQ with rfl | hQ; exact L1; exact hL Q hQ) ⟨hl1, hl2⟩ (u0 := u0) (sen := u1) (self := a) hmsg (cell := freshCell P.m.cls kX) (cellS := k2)
    hcell (fun _ => by simp) (by simp) rfl rfl s0 s1 hk2 (Nat.ne_of_lt (Nat.lt_of_lt_of_le (Array.getElem?_eq_some_iff.mp hk0).1 hnew)) hkn (by rw [hkeep _ (hnot _)]; exact hu0) (by rw [hkeep _ (hnot _)]; exact hu1)
    (Takes.of_laid hk hord tC (by rw [Y.causeType]; rfl)) (Takes.of_laid hk hord tS (by rw [Y.stackType]; exact fits_refV_array _ u0)) (Takes.of_laid hk hord tP (by rw [Y.suppType]; exact fits_refV_object _ u1))
    (Takes.of_laid hk hord tM (by rw [Y.msgType]; exact fits_refV_object _ ⟨msg, hmsg⟩)) Y.objLocals hskip htr [] hd6
    (by simp only [List.length_cons, hlen]; omega) (by simp only [List.length_cons, hlen]; exact hRl)
  obtain ⟨hwalk, hrun, hended, hWU, hsame⟩ := X2.athrowLeaves hexec (g := { g with stack := .ref a :: rest, pc := g.pc + 3 }) hg hlocked hentered hout (a := a) (rest := rest) rfl hd9
  have hlt : a < ((W.setVm v1).setVm v2).heap.size := (Array.getElem?_eq_some_iff.mp hcell).1
  have hU := heapAt_setCell_self (s := (W.setVm v1).setVm v2) (plainBareV T.toThrowableT (freshCell P.m.cls kX) a u0 u1 msg) hlt
  refine ⟨_, st1 _ (fun acts => ?_), hrun, hended, hWU, hsame.weaken (fun y hy hl => ?_) (Nat.le_refl _) (Nat.le_refl _), _, hU, hf, rfl⟩
  · rw [doInvoke_state]
    exact st2 _ hwalk
  · rcases List.mem_append.mp hy with z | z
    · exact z
    · exfalso
      have hb : y.base = a := by
        simp only [List.mem_cons, List.not_mem_nil, or_false] at z
        rcases z with rfl | rfl | rfl | rfl | rfl <;> rfl
      rw [hb] at hl
      exact Nat.not_lt.mpr hnew hl
end XCT
section GX
variable {X : gC} {cc : ByteArray} {own : String} {M M0 : List mC} {k n pc : Nat} {L : List (Nat × Value)} {st : List Value} {y0 y : MethodName} {b0 : ByteArray} {nl0 nl : Nat} {ret0 : Option FieldType} {l9 : Launch} {rm : Room} {cls text : String} {names : List String} {ik is ic : Nat} {postX : List mC → Prop}
/-- 'throw new E("text")' -/
theorem g_throw (ok : gO X cc own (wsM y0 b0 nl0 ret0)) (F : gXX X l9 y rm nl M0 cls postX) (htr : l9.stackTraces = false) (hcls : Bundle.fit cls = true) (hnames : ∀ n ∈ names, Bundle.fit n = true) (hk : Cond.classLink own ik cls ∈ gT) (hini : Cond.initialized cls ∈ gT) (hstr : (own, is, text) ∈ sT) {ix : Nat} {rx : ByteArray} (x0 : decode rx 0 = .ok (.aload_n 0, 1)) (x1 : decode rx 1 = .ok (.aload_n 1, 1)) (x2 : decode rx 2 = .ok (.invokespecial ix, 3)) (x5 : decode rx 5 = .ok (.return_, 1)) (hat : ∀ w ∈ Bundle.ownAtomsX own ic cls ix rx names, w ∈ gT ∨ w ∈ yT)
    (d0 : decode cc pc = .ok (.new ik, 3)) (d3 : decode cc (pc + 3) = .ok (.dup, 1)) (d4 : decode cc (pc + 4) = .ok (.ldc is, 2)) (d6 : decode cc (pc + 6) = .ok (.invokespecial ic, 3)) (d9 : decode cc (pc + 9) = .ok (.athrow, 1))
    (hfr : names.length + 3 < rm.frames) (hlo : (st.map fun v => v.category).sum + (13 * (names.length + 1) + 43) ≤ rm.locals) (hkc : k + 1 ≤ rm.cells) (hns : n + 6 ≤ rm.slots) (hlen : M.length = M0.length) (hp : postX M) : gg X M k n pc L st := by
  obtain ⟨p, l, e, R, s, m, args, below, meth, c, nL, D, tc, A, n0, ad0, Q⟩ := X
  obtain ⟨hexec, hb, hml, hown, hts, hK, hA, hlk, hY⟩ := ok
  obtain ⟨rfl, rfl, rfl, rfl, rfl, rfl, hemp⟩ := F
  intro ad H locs ls h1 h2 h3 h4 h5
  have had : ad = ad0 := h1.2.2 hlen
  subst had
  intro T hT Z
  have htr' : e.platform.stackTraces = false := (show e.platform.stackTraces = l.stackTraces by rw [Z.admits.platform]).trans htr
  have Y := x_here Z (R' := { frames := R.frames, locals := R.locals, cells := 1, slots := 6 }) rfl rfl hkc hns
  obtain ⟨s', hs'⟩ : ∃ z, z = (T.setVm s.vm).setFrames (.invoking m args :: below) := ⟨_, rfl⟩
  rw [← hs'] at Y
  have hvm : s'.vm = s.vm := by rw [hs']; rfl
  have hhp : s'.heap = H := by rw [hs']; exact hT
  have hW0 : s.WarmedH s'.vm := by rw [hvm]; exact State.WarmedH.refl s
  obtain ⟨hy1, hy2⟩ := hY s' hW0 (by rw [hhp]; exact h4.1) (fun a a1 a2 => by rw [hhp]; exact h4.2.1 a a1 a2)
  have hg1 : ∀ w ∈ gT, w.before args s' = true := fun w hw => word_at hW0 (good_of_word (List.mem_filter.mp hw).2) (hts w (List.mem_cons_of_mem _ hw))
  have hat' : ∀ w ∈ Bundle.ownAtomsX own ic cls ix rx names, w.before args s' = true := fun w hw => (hat w hw).elim (hg1 w) (hy1 args w)
  obtain ⟨sa, hsa1, hsa2⟩ := hy2 _ hstr
  have hown' : s'.vm.findClass own = some m.cls := by rw [hvm]; exact hown
  obtain ⟨vm₁, cX, kX, hfX, hkX, -, -, X₁, st1⟩ := Y.newCold hexec (own := own) (C := cls) (index := ik) (n := 6) hown' (hg1 _ hk) (hat' _ (by simp [Bundle.ownAtomsX])) (hg1 _ hini) (g := F0 m pc ls (st.map (mc_v ad))) rfl (by rw [hb]; exact d0) (Nat.le_refl _) (Nat.le_refl _)
  generalize hT1 : (T.setVm vm₁).pushCell { cls := cX, slots := kX.instanceTypes.map defaultValue, vm := .none } = T1 at X₁ st1
  have hcA : T1.heap[T.heap.size]? = some (freshCell cX kX) := by rw [← hT1]; exact State.heap_pushCell_size _ _
  have hc1 : (Value.ref T.heap.size).category = 1 := rfl
  have hcatS := w_cat ad st
  have hout : ∀ x ∈ c.exceptionTable.toList, covers x (pc + 9) = false := by
    have e0 : c.exceptionTable.toList = [] := List.eq_nil_of_length_eq_zero (by simpa [Array.isEmpty] using hemp)
    intro x hx
    rw [e0] at hx
    cases hx
  obtain ⟨U, hsteps, hrun, hend, hWU, hsame, ce, hce, hOc, hOv⟩ := x_ctorX X₁ hexec htr' x0 x1 x2 x5 (own := own) (cls := cls) (names := names) (ic := ic) hown' hcls hnames hat' (fun x hx => nomatch hx) hfX hkX hcA (by rw [hhp, hT]; exact Nat.le_refl _) (msg := .ref sa) rfl
    (g := { method := m, pc := pc + 6, locals := ls, stack := .ref sa :: .ref T.heap.size :: .ref T.heap.size :: st.map (mc_v ad), locked := none }) rfl (h5.1.trans hml.symm) rfl rfl (rest := st.map (mc_v ad)) rfl
    (by rw [hb]; exact d6) (by rw [hb]; exact d9) hout hfr (by
      show 2 * 0 + ((Value.ref T.heap.size :: st.map (mc_v ad)).map fun v => v.category).sum + (13 * (names.length + 1) + 42) ≤ R.locals
      rw [List.map_cons, List.sum_cons, hc1, hcatS]
      omega) hlk
  have hWs : s.WarmedH U.vm := State.WarmedH.trans hW0 hWU
  have hall : s.sameButNew ({ U with vm := s.vm } : State) locs R.cells R.slots := by
    subst hs'
    obtain ⟨e1, e2⟩ := hsame
    rw [State.setFrames_setFrames] at e1
    have h9 : (T.setVm s.vm).sameButNew ({ U with vm := s.vm } : State) [] (0 + 1) (0 + 6) := ⟨e1, e2⟩
    have h8 := Z.same.trans h9
    rw [List.append_nil] at h8
    exact h8.mono hkc hns
  have hold : H.size ≤ U.heap.size ∧ ∀ q : Nat, q < H.size → U.heap[q]? = H[q]? := by
    obtain ⟨e1, e2, e3, e4, e5, e6⟩ := hsame
    rw [hhp] at e2
    refine ⟨e2, fun q hq => ?_⟩
    obtain ⟨c9, hc9⟩ : ∃ c9, H[q]? = some c9 := ⟨H[q], Array.getElem?_eq_getElem hq⟩
    obtain ⟨c8, g1, g2, g3, g4⟩ := e6 q c9 (by rw [hhp]; exact hc9)
    have hs9 : c8.slots = c9.slots := Array.ext_getElem? (fun i => g4 i (fun hm => nomatch hm))
    rw [hs9] at g2
    have e9 : U.heap[q]? = some c8 := g1
    rw [e9, g2, hc9]
  refine ⟨U, ?_, .threw T.heap.size, hrun, hend, T.heap.size, ce, locs, rfl, hce, hOv, ?_, ⟨⟨_, rfl⟩, hWs, hall⟩, fun z hz => h4.2.2 z hz, ⟨M, hp, hlen, h2.kept (fun i q hq => hold.2 q.1 (h2 i q hq).lt), h3⟩, Nat.le_trans h4.1 hold.1, fun q z1 z2 => by rw [hold.2 q (Nat.lt_of_lt_of_le z1 h4.1)]; exact h4.2.1 q z1 z2⟩
  · refine st1 _ ?_
    show Steps p.tables e below (T1.setTop { method := m, pc := pc + 3, locals := ls, stack := .ref T.heap.size :: st.map (mc_v ad), locked := none }) _
    have d3' : decode c.code (pc + 3) = .ok (.dup, 1) := by rw [hb]; exact d3
    jvm_step X₁.here [X₁.here.top, hexec, d3', Value.category]
    exact X₁.ldcString hexec (own := own) (text := text) (index := is) (a := sa) hown' hsa1 hsa2 (g := { method := m, pc := pc + 4, locals := ls, stack := .ref T.heap.size :: .ref T.heap.size :: st.map (mc_v ad), locked := none }) rfl (by rw [hb]; exact d4) _ hsteps
  · have h9 := hOc
    rw [hvm] at h9
    exact h9
end GX
/-! CAUGHT -/
def gCo (X : gC) : Code := match X with
  | (p, l, e, R, s, m, args, below, meth, c, nL, D, tc, A, n0, ad0, Q) => c
/-- at a handler: the exception, at an address that is no place, lies on the stack -/
def gh (X : gC) (M : List mC) (k n pc : Nat) (L : List (Nat × Value)) : Prop := match X with
  | (p, l, e, R, s, m, args, below, meth, c, nL, D, tc, A, n0, ad0, Q) => ∀ (q : Nat) (ad : Nat → Nat) (H : Heap) (locs : List Loc) (ls : Array Slot), g_ag n0 ad0 M ad → va_P D vwCl (mc_w tc ad M) H → va_D A (mc_w tc ad M) → va_S A s.heap H locs → lv_has ls nL (mc_l ad L) → W p l e R s m args below meth c H locs k n Q (F0 m pc ls [.ref q])
section GHD
variable {X : gC} {cc : ByteArray} {own : String} {Ts : List Cond} {M : List mC} {k n pc : Nat} {L L' : List (Nat × Value)}
theorem gh_has {ls : Array Slot} {nL i : Nat} {q : Nat} {ad : Nat → Nat} {L : List (Nat × Value)} (h : lv_has ls nL ((i, .ref q) :: (mc_l ad L).filter (ml_k1 i))) : lv_has ls nL (mc_l ad (L.filter (ml_k1 i))) := by
  refine ml_has h (fun x hx => ?_)
  obtain ⟨z, hz, rfl⟩ := List.mem_map.mp hx
  obtain ⟨z1, z2⟩ := List.mem_filter.mp hz
  exact List.mem_cons_of_mem _ (List.mem_filter.mpr ⟨List.mem_map.mpr ⟨z, z1, rfl⟩, by rw [ml_f1]; exact z2⟩)
theorem gh_astore (ok : gO X cc own Ts) {i : Nat} (hd : decode cc pc = .ok (.astore i, 2)) (hn : i < gL X) (hL : L.filter (ml_k1 i) = L') (kk : gg X M k n (pc + 2) L' []) : gh X M k n pc L := by
  obtain ⟨p, l, e, R, s, m, args, below, meth, c, nL, D, tc, A, n0, ad0, Q⟩ := X
  obtain ⟨hexec, hb, hml, hown, hts, hK, hA, hlk⟩ := ok
  intro q ad H locs ls h1 h2 h3 h4 h5
  subst hL
  exact lv_astore hexec hb hd h5 hn rfl (fun ls' hl' => kk ad H locs ls' h1 h2 h3 h4 (gh_has hl'))
theorem gh_astore_n (ok : gO X cc own Ts) {c : Fin 4} {i : Nat} (hd : decode cc pc = .ok (.astore_n c, 1)) (hi : (c : Nat) = i) (hn : i < gL X) (hL : L.filter (ml_k1 i) = L') (kk : gg X M k n (pc + 1) L' []) : gh X M k n pc L := by
  obtain ⟨p, l, e, R, s, m, args, below, meth, c, nL, D, tc, A, n0, ad0, Q⟩ := X
  obtain ⟨hexec, hb, hml, hown, hts, hK, hA, hlk⟩ := ok
  intro q ad H locs ls h1 h2 h3 h4 h5
  subst hL
  exact lv_astore_n hexec hb hd hi h5 hn rfl (fun ls' hl' => kk ad H locs ls' h1 h2 h3 h4 (gh_has hl'))
end GHD
section GCX
variable {X : gC} {cc : ByteArray} {own : String} {M : List mC} {k n pc : Nat} {L : List (Nat × Value)} {st rest : List Value} {y0 y : MethodName} {b0 b : ByteArray} {nl0 nl : Nat} {ret0 ret : Option FieldType} {rm : Room} {As : List Value} {index o : Nat} {E : String} {postX : List mC → Prop}
/-- a call that throws an E, caught here -/
theorem g_callVX (ok : gO X cc own (wsM y0 b0 nl0 ret0)) {ci : Nat} {fs : List Value} {C : String} {T : u_T} {N : Nat} (hM : mx_ (gLa X) y (wsM y b nl ret) rm (.ref o :: As) M E postX) (hcode : Cond.code y b nl ret ∈ gT) (hlink : Cond.methodLink own index y ∈ gT) (hinst : Cond.instanceMethod y ∈ gT) (hsel : Cond.selects C y y ∈ gT) (hini : Cond.initialized y.cls ∈ gT)
    (hd : y.cls ≠ "java/lang/invoke/MethodHandle" ∧ y.cls ≠ "java/lang/invoke/VarHandle" ∧ (parseMethodDescriptor y.desc).map (fun d => d.parameters.length) = some As.length)
    (hc : vwCl[ci]? = some (C, T, N)) (hdg : decode cc pc = .ok (.invokevirtual index, 3)) (hst : As.reverse ++ .ref o :: rest = st) (hrest : (rest.map fun v => v.category).sum ≤ 8) (hR : gF X rm nl k n) (he : M[o]? = some (.inr (ci, fs)))
    (pre : List ExceptionTableEntry) (x : ExceptionTableEntry) (suf : List ExceptionTableEntry) (hsplit : (gCo X).exceptionTable.toList = pre ++ x :: suf)
    (hpass : ∀ z ∈ pre, covers z pc = false ∨ (z.catchType ≠ 0 ∧ ∃ nm : String, Cond.classLink own z.catchType nm ∈ gT ∧ Cond.not (.castable E nm) ∈ yT)) (hx : covers x pc = true) (h0 : x.catchType ≠ 0) {name : String} (hlk2 : Cond.classLink own x.catchType name ∈ gT) (hcast : Cond.castable E name ∈ yT)
    (kk : ∀ M', postX M' → gh X M' (k + rm.cells) (n + rm.slots) x.handlerPc L) : gg X M k n pc L st := by
  obtain ⟨p, l, e, R, s, m, args, below, meth, c, nL, D, tc, A, n0, ad0, Q⟩ := X
  obtain ⟨hexec, hb, hml, hown, hts, hK, hA, hlk, hY⟩ := ok
  intro ad H locs ls h1 h2 h3 h4 h5
  subst hst
  have hf := w_sub h3 h4 hA
  have hg : ∀ w ∈ gT, w.before args s = true := fun w hw => hts w (List.mem_cons_of_mem _ hw)
  have hgu : ∀ w ∈ gT, ∀ (a' : Array Value) (U : State), s.WarmedH U.vm → w.before a' U = true := fun w hw a' U hW => word_at hW (good_of_word (List.mem_filter.mp hw).2) (hg w hw)
  have hws : ∀ w ∈ wsM y b nl ret, ∀ (a' : Array Value) (U : State), s.WarmedH U.vm → w.before a' U = true := fun w hw => by
    rcases List.mem_cons.mp hw with rfl | hw
    · exact hgu _ hcode
    · exact hgu w hw
  intro T9 hT Z
  have hBT : Free.BackT l R p e below s args y 3 8 (fun B a => B.cells + rm.cells ≤ R.cells ∧ B.slots + rm.slots ≤ R.slots ∧ mp_ D tc (.ref o :: As) M ad H.size a B.U)
      (fun B a q B' => ∃ (g : JFrame) (mk : MethodId) (t : State) (Ls : List Loc), B'.U.heap = t.heap ∧ B'.U.vm = t.vm ∧ B'.locs = B.locs ++ Ls ∧ B'.cells = B.cells + rm.cells ∧ B'.slots = B.slots + rm.slots ∧ (∀ z ∈ Ls, va_A (mc_w tc ad M) H.size z.base) ∧ xq_ D tc M ad H.size rm E postX a (B.U.calling g mk a) (.threw q) t) := by
    refine Free.BackT.of_free (S := headSpec (wsM y b nl ret) rm) (P := mp_ D tc (.ref o :: As) M ad H.size) (K := fun _ _ _ _ _ => True) (Q := xq_ D tc M ad H.size rm E postX) (bytes := b) (maxL := nl) (ret := ret)
      (E := fun a st o t Ls k n => k = rm.cells ∧ n = rm.slots ∧ ∀ z ∈ Ls, va_A (mc_w tc ad M) H.size z.base) (hM D tc ad H.size) hR.1 hR.2.1 ?_ ?_ (fun _ _ _ _ _ _ _ _ _ => trivial) ?_ ?_
    · intro m meth c B a X hp
      exact ⟨atoms_intro fun w hw => hws w hw _ _ X.warmed, hgu _ hcode _ _ X.warmed, hgu _ hini _ _ X.warmed, hp.1, hp.2.1⟩
    · intro m meth c B a g mk X hp
      exact mp_blind D tc _ M ad H.size _ _ _ _ hp.2.2
    · rintro a first o t ⟨q, ce, Ls, r1, r2, r3, r4, r5, r6, r7⟩
      exact ⟨Ls, _, _, r5, rfl, rfl, r6⟩
    · rintro m meth c B a g mk v t Ls k n X hp hq hF ⟨rfl, rfl, hL⟩
      exact ⟨g, mk, t, Ls, rfl, rfl, rfl, rfl, rfl, hL, hq⟩
  obtain ⟨mk, methM, hnamed, hmethM, hstM, habM⟩ := Cond.instanceMethod_spec (hg _ hinst)
  obtain ⟨methM', cM, hmethM', -, -, -, -, -, -, hsigM⟩ := Cond.code_spec hnamed (hg _ hcode)
  cases hmethM.symm.trans hmethM'
  obtain ⟨c2, r2, m2, q1, q2, q3, q4, kP, hkP, hkPi⟩ := Cond.selects_spec (hg _ hsel)
  obtain ⟨cellB, hcB, hoB, hclB⟩ := va_recv hK h2 hc (mc_at he)
  cases hclB.symm.trans q1
  cases (State.methodFound?_of_named hnamed ⟨hd.1, hd.2.1⟩).symm.trans q2
  cases hnamed.symm.trans q3
  have hselP : selectMethod e.platform s.vm cellB.cls mk = .method mk := by rw [Launch.admits_selectMethod Z.admits]; exact q4
  have hsl : (As.map (mc_v ad)).length = methM.sig.parameters.length := by
    have h9 := hd.2.2
    rw [hsigM] at h9
    rw [List.length_map]
    exact (Option.some.inj h9).symm
  have hstk : (F0 m pc ls ((As.reverse ++ Value.ref o :: rest).map (mc_v ad))).stack = (As.map (mc_v ad)).reverse ++ .ref (ad o) :: rest.map (mc_v ad) := by
    show (As.reverse ++ Value.ref o :: rest).map (mc_v ad) = _
    rw [List.map_append, List.map_reverse]
    rfl
  obtain ⟨vm₁, X₁, hstep₁⟩ := Z.invokevirtual hexec hown (hg _ hlink) hnamed hmethM hstM hkP hkPi ⟨hd.1, hd.2.1⟩ (a := ad o) (cell := cellB) (by rw [hT]; exact hcB) (fun z h => by rw [h] at hoB; cases hoB) hselP hmethM habM hkP hkPi (g := F0 m pc ls ((As.reverse ++ Value.ref o :: rest).map (mc_v ad))) rfl (argsL := As.map (mc_v ad)) (rest := rest.map (mc_v ad)) hsl hstk (by rw [hb]; exact hdg)
  obtain ⟨q, ⟨U', l2, c2', s2'⟩, X', ⟨g', mk', t, Ls, e1, e2, e3, e4, e5, hLs, ⟨q', ce, Ls', r1, r2', r3, r4, r5, r6, ⟨M', p1, p2, p3, p4⟩, hz, hk9⟩⟩, hsteps⟩ := hBT m meth c ⟨T9.setVm vm₁, locs, k, n⟩ { (F0 m pc ls ((As.reverse ++ Value.ref o :: rest).map (mc_v ad))) with stack := rest.map (mc_v ad) } (.invokevirtual index) mk (Value.ref (ad o) :: As.map (mc_v ad)).toArray X₁ rfl (h5.1.trans hml.symm) (by rw [hb]; exact hdg) (by
      show 2 * (F0 m pc ls _).monitorRoom + _ ≤ 8
      rw [w_cat]
      simpa [JFrame.monitorRoom] using hrest) (X₁.named hnamed) ⟨hR.2.2.1, hR.2.2.2, w_pre (As := .ref o :: As) h2 h3 h4 hA hK hY (T9.setVm vm₁) hT X₁.warmed⟩
  dsimp only [Pt.U, Pt.locs, Pt.cells, Pt.slots] at X' e1 e2 e3 e4 e5 hsteps
  cases r1
  subst e3
  subst e4
  subst e5
  have hz' : H.size ≤ U'.heap.size := by rw [e1]; exact hT ▸ hz
  have hk' : ∀ q : Nat, q < H.size → ¬ va_A (mc_w tc ad M) H.size q → U'.heap[q]? = H[q]? := fun a a1 a2 => by
    rw [e1, hk9 a (by show a < T9.heap.size; rw [hT]; exact a1) a2]
    show T9.heap[a]? = H[a]?
    rw [hT]
  have k3 : va_S A s.heap U'.heap (locs ++ Ls) := ⟨Nat.le_trans h4.1 hz', fun a a1 a2 => by rw [hk' a (Nat.lt_of_lt_of_le a1 h4.1) (fun z => a2 (hf a z))]; exact h4.2.1 a a1 a2, fun z hz => by
    rcases List.mem_append.mp hz with h | h
    · exact h4.2.2 z h
    · exact hf _ (hLs z h)⟩
  have hcl : s.vm.findClass E = some ce.cls := by
    have h9 : (T9.setVm vm₁).vm.findClass E = some ce.cls := r4
    rw [X₁.warmed.alike.findClass] at h9
    exact h9
  have hpl : e.platform.magicAccessors = ({} : Platform).magicAccessors := by rw [Z.admits.platform]
  obtain ⟨c3, c4, hc3, hc4, hasg⟩ := Cond.castable_spec (hY.use args _ hcast)
  cases Option.some.inj (hc3.symm.trans hcl)
  obtain ⟨c5, hc5, hcl5⟩ := Cond.classLink_spec hown (hg _ hlk2) e.platform hpl
  cases Option.some.inj (hc4.symm.trans hc5)
  obtain ⟨vm', XV, hgo⟩ := X'.thenCaughtThrough q (g := F0 m pc ls (rest.map (mc_v ad))) rfl hsteps (by rw [e1]; exact r2') (by rw [r3]; rfl) (by obtain ⟨k9, h9, -⟩ := Vm.findClass_spec hcl; exact ⟨k9, h9⟩) pre x suf hsplit
    (fun z hz => by
      rcases hpass z hz with h | ⟨hz0, nm, hl1, hn1⟩
      · exact Or.inl h
      · obtain ⟨c6, hc6, hcl6⟩ := Cond.classLink_spec hown (hg _ hl1) e.platform hpl
        obtain ⟨a8, b8, v1, v2, v3⟩ := va_Nc.of (hY.use args _ hn1)
        cases Option.some.inj (v1.symm.trans hcl)
        cases Option.some.inj (v2.symm.trans hc6)
        exact Or.inr ⟨hz0, _, hcl6, v3⟩) hx (Or.inr ⟨h0, c4, hcl5, hasg⟩)
  obtain ⟨t2, a1, b1⟩ := kk M' p1 q ad U'.heap (locs ++ Ls) ls ⟨by rw [p2]; exact h1.1, h1.2.1, fun z => h1.2.2 (p2 ▸ z)⟩ (by rw [e1]; exact p3) (p4.weaken (fun _ q _ h => hf q.1 h)) k3 h5 (U'.setVm vm') rfl XV
  exact ⟨t2, hstep₁ _ (fun acts => by rw [doInvoke_state]; exact hgo.trans a1), b1⟩
end GCX
