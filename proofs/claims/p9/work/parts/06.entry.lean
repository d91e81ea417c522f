/-! ENTRY AND RETURN -/
theorem ml_args (ad : Nat → Nat) : ∀ (As : List Value) (i : Nat), mc_l ad (lv_args i As) = lv_args i (As.map (mc_v ad))
  | [], _ => rfl
  | v :: r, i => by
    simp only [lv_args, mc_l, List.map_cons, mc_v_cat]
    congr 1
    exact ml_args ad r _
def gE (X : gC) (l9 : Launch) (y : MethodName) (rm : Room) (nl : Nat) (ret : Option FieldType) (M0 : List mC) (post : Option Value → List mC → Prop) : Prop := match X with
  | (p, l, e, R, s, m, args, below, meth, c, nL, D, tc, A, n0, ad0, Q) => l = l9 ∧ R = rm ∧ nL = nl ∧ A = va_A (mc_w tc ad0 M0) s.heap.size ∧ n0 = M0.length ∧ Q = MQ below (mq_ D tc M0 ad0 s.heap.size post) args s rm.cells rm.slots A ∧ meth.sig.returnType = ret ∧ meth.name = y.name
theorem mm_intro {l : Launch} {y : MethodName} {b : ByteArray} {nl : Nat} {ret : Option FieldType} {rm : Room} {As : List Value} {M : List mC} {post : Option Value → List mC → Prop} (hy : plainName y.cls = true) (hn : (lg_sl As).length ≤ nl) (hcode : Cond.code y b nl ret ∈ gT)
    (body : ∀ X : gC, gO X b y.cls (wsM y b nl ret) → gE X l y rm nl ret M post → gg X M 0 0 0 (lv_args 0 As) []) : mm_ l y (wsM y b nl ret) rm As M post := by
  intro D tc ad sz
  refine Met.ofW (cc := b) (maxL := nl) (ret := ret) hy rfl ?_
  intro p e s m args below meth c s₁ B hml hv
  obtain ⟨rfl, hsz, hP, hK, hD0, hY⟩ := hv
  subst hsz
  have hts := atoms_spec (ws := wsM y b nl ret) B.pre
  have hown : s.vm.findClass y.cls = some m.cls := findClass_of_methodNamed B.named
  have hD := hD0.self (sz := s.heap.size)
  have hlen : (lg_sl (As.map (mc_v ad))).length ≤ nl := by
    have e : ∀ vs : List Value, (lg_sl (vs.map (mc_v ad))).length = (lg_sl vs).length := by
      intro vs
      induction vs with
      | nil => rfl
      | cons v r ih =>
        simp only [lg_sl, List.map_cons, List.flatMap_cons, List.length_append, mc_v_cat] at ih ⊢
        rw [ih]
        congr 1
        split <;> rfl
    rw [e]
    exact hn
  have hl := lv_entry (As.map (mc_v ad)) (n := nl) hlen
  have K := body (p, l, e, rm, s, m, (As.map (mc_v ad)).toArray, below, meth, c, nl, D, tc, va_A (mc_w tc ad M) s.heap.size, M.length, ad, MQ below (mq_ D tc M ad s.heap.size post) (As.map (mc_v ad)).toArray s rm.cells rm.slots (va_A (mc_w tc ad M) s.heap.size))
    ⟨B.exec, B.bytes, hml, hown, hts, hK, fun q h => Or.inr h, B.notSynchronized, hY⟩ ⟨rfl, rfl, rfl, rfl, rfl, rfl, B.returns, (name_of_methodNamed B.named B.method).1⟩
    ad s.heap [] _ ⟨Nat.le_refl _, fun _ _ => rfl, fun _ => rfl⟩ hP hD va_S.rf (by rw [ml_args]; exact hl)
  rw [lg_entry_eq]
  exact K
section GRET
variable {X : gC} {cc : ByteArray} {own : String} {Ts : List Cond} {M M0 : List mC} {k n pc : Nat} {L : List (Nat × Value)} {l9 : Launch} {y : MethodName} {rm : Room} {nl : Nat} {post : Option Value → List mC → Prop}
theorem g_iret (ok : gO X cc own Ts) {x : Int32} (E : gE X l9 y rm nl (some .int) M0 post) (hd : decode cc pc = .ok (.ireturn, 1)) (hp : post (some (.int x)) M) (hk : k ≤ rm.cells) (hn : n ≤ rm.slots) : gg X M k n pc L [.int x] := by
  obtain ⟨p, l, e, R, s, m, args, below, meth, c, nL, D, tc, A, n0, ad0, Q⟩ := X
  obtain ⟨hexec, hb, hml, hown, hts, hK, hA, hlk, hY⟩ := ok
  obtain ⟨rfl, rfl, rfl, rfl, rfl, rfl, hr, hnm⟩ := E
  intro ad H locs ls h1 h2 h3 h4 h5
  refine W.widen (k := R.cells) (n := R.slots) hk hn ?_
  exact W.iret hexec hb hr (fun t ht hW => ⟨⟨some (.int x), M, ad, rfl, hp, h1, by rw [ht]; exact h2, h3⟩, h4.F ht⟩) (fun q hq => h4.2.2 q hq) hd hlk
theorem g_lret (ok : gO X cc own Ts) {x : Int64} (E : gE X l9 y rm nl (some .long) M0 post) (hd : decode cc pc = .ok (.lreturn, 1)) (hp : post (some (.long x)) M) (hk : k ≤ rm.cells) (hn : n ≤ rm.slots) : gg X M k n pc L [.long x] := by
  obtain ⟨p, l, e, R, s, m, args, below, meth, c, nL, D, tc, A, n0, ad0, Q⟩ := X
  obtain ⟨hexec, hb, hml, hown, hts, hK, hA, hlk, hY⟩ := ok
  obtain ⟨rfl, rfl, rfl, rfl, rfl, rfl, hr, hnm⟩ := E
  intro ad H locs ls h1 h2 h3 h4 h5
  refine W.widen (k := R.cells) (n := R.slots) hk hn ?_
  exact W.lret hexec hb hr (fun t ht hW => ⟨⟨some (.long x), M, ad, rfl, hp, h1, by rw [ht]; exact h2, h3⟩, h4.F ht⟩) (fun q hq => h4.2.2 q hq) hd hlk
theorem g_vret (ok : gO X cc own Ts) (E : gE X l9 y rm nl none M0 post) (hd : decode cc pc = .ok (.return_, 1)) (hp : post (none) M) (hk : k ≤ rm.cells) (hn : n ≤ rm.slots) : gg X M k n pc L [] := by
  obtain ⟨p, l, e, R, s, m, args, below, meth, c, nL, D, tc, A, n0, ad0, Q⟩ := X
  obtain ⟨hexec, hb, hml, hown, hts, hK, hA, hlk, hY⟩ := ok
  obtain ⟨rfl, rfl, rfl, rfl, rfl, rfl, hr, hnm⟩ := E
  intro ad H locs ls h1 h2 h3 h4 h5
  refine W.widen (k := R.cells) (n := R.slots) hk hn ?_
  exact W.vret hexec hb hr (fun t ht hW => ⟨⟨none, M, ad, rfl, hp, h1, by rw [ht]; exact h2, h3⟩, h4.F ht⟩) (fun q hq => h4.2.2 q hq) hd hlk
theorem g_zret (ok : gO X cc own Ts) {x : Int32} (E : gE X l9 y rm nl (some .boolean) M0 post) (hd : decode cc pc = .ok (.ireturn, 1)) (hz : narrow .boolean (.int x) = .int x) (hp : post (some (.int x)) M) (hk : k ≤ rm.cells) (hn : n ≤ rm.slots) : gg X M k n pc L [.int x] := by
  obtain ⟨p, l, e, R, s, m, args, below, meth, c, nL, D, tc, A, n0, ad0, Q⟩ := X
  obtain ⟨hexec, hb, hml, hown, hts, hK, hA, hlk, hY⟩ := ok
  obtain ⟨rfl, rfl, rfl, rfl, rfl, rfl, hr, hnm⟩ := E
  intro ad H locs ls h1 h2 h3 h4 h5
  refine W.widen (k := R.cells) (n := R.slots) hk hn ?_
  exact W.zret hexec hb hr hz (fun t ht hW => ⟨⟨some (.int x), M, ad, rfl, hp, h1, by rw [ht]; exact h2, h3⟩, h4.F ht⟩) (fun q hq => h4.2.2 q hq) hd hlk
theorem g_aret (ok : gO X cc own Ts) {o : Nat} {rt : FieldType} (E : gE X l9 y rm nl (some rt) M0 post) (hd : decode cc pc = .ok (.areturn, 1)) (hrt : (∃ n, rt = .object n) ∨ ∃ t, rt = .array t) (hp : post (some (.ref o)) M) (hk : k ≤ rm.cells) (hn : n ≤ rm.slots) : gg X M k n pc L [.ref o] := by
  obtain ⟨p, l, e, R, s, m, args, below, meth, c, nL, D, tc, A, n0, ad0, Q⟩ := X
  obtain ⟨hexec, hb, hml, hown, hts, hK, hA, hlk, hY⟩ := ok
  obtain ⟨rfl, rfl, rfl, rfl, rfl, rfl, hr, hnm⟩ := E
  intro ad H locs ls h1 h2 h3 h4 h5
  refine W.widen (k := R.cells) (n := R.slots) hk hn ?_
  exact W.aret hexec hb hr hrt (Or.inr ⟨_, rfl⟩) (fun t ht hW => ⟨⟨some (.ref o), M, ad, rfl, hp, h1, by rw [ht]; exact h2, h3⟩, h4.F ht⟩) (fun q hq => h4.2.2 q hq) hd hlk
end GRET
theorem ml_eq {n : Nat} {ad ad' : Nat → Nat} {L : List (Nat × Value)} (h : ∀ q ∈ L, mk_v n q.2) (he : ∀ i, i < n ∨ i = spl → ad' i = ad i) : mc_l ad' L = mc_l ad L := List.map_congr_left (fun q hq => by rw [mk_v_eq (h q hq) he])
theorem ms_eq {n : Nat} {ad ad' : Nat → Nat} {st : List Value} (h : ∀ v ∈ st, mk_v n v) (he : ∀ i, i < n ∨ i = spl → ad' i = ad i) : st.map (mc_v ad') = st.map (mc_v ad) := List.map_congr_left (fun v hv => mk_v_eq (h v hv) he)
section WFA
variable {p : Program} {l : Launch} {e : Env} {R : Room} {s : State} {m : MethodId} {args : Array Value} {below : List Frame} {meth : Method} {c : Code} {H : Heap} {locs : List Loc} {k n : Nat} {Q : State → Prop}
variable {D : va_G} {tc : Nat → ClassId} {A : Nat → Prop} {n0 : Nat} {ad0 ad : Nat → Nat} {M : List mC} {nL pc : Nat} {L : List (Nat × Value)} {ls : Array Slot} {st0 rest : List Value} {mc ms : Nat} {a : Array Value} {post : Option Value → List mC → Prop}
theorem w_finA (hr : va_Run p l e R s m args below meth c H locs k n mc ms (F0 m pc ls st0) (rest.map (mc_v ad)) (mq_ D tc M ad H.size post a) (va_A (mc_w tc ad M) H.size))
    (h1 : g_ag n0 ad0 M ad) (h3 : va_D A (mc_w tc ad M)) (h4 : va_S A s.heap H locs) (hA : ∀ q, s.heap.size ≤ q → A q) (h5 : lv_has ls nL (mc_l ad L)) (hL : ∀ q ∈ L, mk_v M.length q.2) (hrs : ∀ v ∈ rest, mk_v M.length v)
    (kk : ∀ r M', post r M' → ∀ (ad : Nat → Nat) (H : Heap) (locs : List Loc) (ls : Array Slot), g_ag n0 ad0 M' ad → va_P D vwCl (mc_w tc ad M') H → va_D A (mc_w tc ad M') → va_S A s.heap H locs → lv_has ls nL (mc_l ad L) → W p l e R s m args below meth c H locs (k + mc) (n + ms) Q (F0 m (pc + 3) ls ((r.toList ++ rest).map (mc_v ad)))) :
    W p l e R s m args below meth c H locs k n Q (F0 m pc ls st0) := by
  have hf := w_sub h3 h4 hA
  intro T hT X
  obtain ⟨v, st₀, t, T', Ls, e0, X', hLs, e1, e2, ⟨⟨r, M', ad', hv, hp, hg, hP', hD'⟩, hz, hk⟩, go⟩ := hr T hT X
  rw [e0] at hz hk
  have hv' : v = r.map (mc_v ad') := by cases hv; rfl
  have k3 : va_S A s.heap T'.heap (locs ++ Ls) := ⟨Nat.le_trans h4.1 (by rw [e1]; exact hz), fun q q1 q2 => by rw [e1, hk q (Nat.lt_of_lt_of_le q1 h4.1) (fun z => q2 (hf q z))]; exact h4.2.1 q q1 q2, fun q hq => by
    rcases List.mem_append.mp hq with h | h
    · exact h4.2.2 q h
    · exact hf _ (hLs q h)⟩
  have hag : g_ag n0 ad0 M' ad' := by
    refine ⟨Nat.le_trans h1.1 hg.1, fun i hi => ?_, fun z => ?_⟩
    · rw [hg.2.1 i (hi.elim (fun h => Or.inl (Nat.lt_of_lt_of_le h h1.1)) Or.inr)]
      exact h1.2.1 i hi
    · have z1 := h1.1
      have z2 := hg.1
      rw [hg.2.2 (by omega)]
      exact h1.2.2 (by omega)
  obtain ⟨t2, a1, b1⟩ := kk r M' hp ad' T'.heap (locs ++ Ls) ls hag (by rw [e1]; exact hP') (hD'.weaken (fun _ q _ h => hf q.1 h)) k3 (by rw [ml_eq hL hg.2.1]; exact h5) T' rfl X'
  refine ⟨t2, go t2 ?_, b1⟩
  have e9 : (r.toList ++ rest).map (mc_v ad') = v.toList ++ rest.map (mc_v ad) := by
    rw [hv', List.map_append, ms_eq hrs hg.2.1]
    cases r <;> rfl
  rw [e9] at a1
  exact a1
end WFA
section GC2
variable {X : gC} {cc : ByteArray} {own : String} {M : List mC} {k n pc : Nat} {L : List (Nat × Value)} {st rest : List Value} {y0 y : MethodName} {b0 b : ByteArray} {nl0 nl : Nat} {ret0 ret : Option FieldType} {rm : Room} {As : List Value} {post : Option Value → List mC → Prop} {index o : Nat}
theorem g_inws {w : Cond} (h : w ∈ gT) : w ∈ wsM y0 b0 nl0 ret0 ∧ ((w.onTables && w.keeps) = true ∨ ∃ ty, w = .arrayClass ty) := ⟨List.mem_cons_of_mem _ h, good_of_word (List.mem_filter.mp h).2⟩
theorem g_callS (ok : gO X cc own (wsM y0 b0 nl0 ret0)) (hM : mm_ (gLa X) y (wsM y b nl ret) rm As M post) (hcode : Cond.code y b nl ret ∈ gT) (hlink : Cond.methodLink own index y ∈ gT) (hstat : Cond.static y ∈ gT) (hini : Cond.initialized y.cls ∈ gT)
    (hd : y.cls ≠ "java/lang/invoke/MethodHandle" ∧ y.cls ≠ "java/lang/invoke/VarHandle" ∧ (parseMethodDescriptor y.desc).map (fun d => d.parameters.length) = some As.length)
    (hdg : decode cc pc = .ok (.invokestatic index, 3)) (hst : As.reverse ++ rest = st) (hrest : (rest.map fun v => v.category).sum ≤ 8) (hR : gF X rm nl k n) (hlen : ∀ r M', post r M' → M'.length = M.length)
    (kk : ∀ r M', post r M' → gg X M' (k + rm.cells) (n + rm.slots) (pc + 3) L (r.toList ++ rest)) : gg X M k n pc L st := by
  obtain ⟨p, l, e, R, s, m, args, below, meth, c, nL, D, tc, A, n0, ad0, Q⟩ := X
  obtain ⟨hexec, hb, hml, hown, hts, hK, hA, hlk, hY⟩ := ok
  intro ad H locs ls h1 h2 h3 h4 h5
  subst hst
  have hG : GoodIn (wsM y0 b0 nl0 ret0) (va_wsS own index y (wsM y b nl ret)) := by
    intro w hw
    unfold va_wsS at hw
    rcases List.mem_append.mp hw with hw | hw
    · simp only [List.mem_cons, List.not_mem_nil, or_false] at hw
      rcases hw with rfl | rfl | rfl
      · exact g_inws hlink
      · exact g_inws hstat
      · exact g_inws hini
    · exact wsM_good hcode w hw
  refine w_fin (va_runS (As := As.map (mc_v ad)) (rest := rest.map (mc_v ad)) (n := As.length) ⟨hexec, hb, hml, hown, hts⟩ (hM D tc ad H.size) (va_cwS As.length hts hG rfl rfl rfl hd ⟨hR.1, hR.2.1⟩) ⟨mp_blind D tc _ M ad H.size, fun U hU hW => w_pre h2 h3 h4 hA hK hY U hU hW⟩ rfl (by rw [List.length_map]) h5.1 ?_ ?_ hdg ⟨hR.2.2.1, hR.2.2.2⟩) h1 h3 h4 hA h5 hlen (fun r M' hp => kk r M' hp)
  · show (As.reverse ++ rest).map (mc_v ad) = _
    rw [List.map_append, List.map_reverse]
  · show 2 * (F0 m pc ls _).monitorRoom + _ ≤ 8
    rw [w_cat]
    simpa [JFrame.monitorRoom] using hrest
/-- a constructor: it may make cells -/
theorem g_callI (ok : gO X cc own (wsM y0 b0 nl0 ret0)) (hM : mm_ (gLa X) y (wsM y b nl none) rm (.ref o :: As) M post) (hcode : Cond.code y b nl none ∈ gT) (hlink : Cond.methodLink own index y ∈ gT) (hinst : Cond.instanceMethod y ∈ gT) (hini : Cond.initialized y.cls ∈ gT) (hy1 : y.name = "<init>")
    (hd : y.cls ≠ "java/lang/invoke/MethodHandle" ∧ y.cls ≠ "java/lang/invoke/VarHandle" ∧ (parseMethodDescriptor y.desc).map (fun d => d.parameters.length) = some As.length)
    (hdg : decode cc pc = .ok (.invokespecial index, 3)) (hst : As.reverse ++ .ref o :: rest = st) (hrest : (rest.map fun v => v.category).sum ≤ 8) (hR : gF X rm nl k n) (hL : ∀ q ∈ L, mk_v M.length q.2) (hrs : ∀ v ∈ rest, mk_v M.length v)
    (kk : ∀ r M', post r M' → gg X M' (k + rm.cells) (n + rm.slots) (pc + 3) L (r.toList ++ rest)) : gg X M k n pc L st := by
  obtain ⟨p, l, e, R, s, m, args, below, meth, c, nL, D, tc, A, n0, ad0, Q⟩ := X
  obtain ⟨hexec, hb, hml, hown, hts, hK, hA, hlk, hY⟩ := ok
  intro ad H locs ls h1 h2 h3 h4 h5
  subst hst
  refine w_finA (va_runI (As := As.map (mc_v ad)) (rest := rest.map (mc_v ad)) (b := ad o) (n := As.length) ⟨hexec, hb, hml, hown, hts⟩ (hM D tc ad H.size) (cwI As.length hts (wsM_good hcode) rfl rfl rfl (hts _ (g_inws hini).1) (hts _ (g_inws hlink).1) (hts _ (g_inws hinst).1) hy1 hd ⟨hR.1, hR.2.1⟩) ⟨mp_blind D tc _ M ad H.size, fun U hU hW => w_pre h2 h3 h4 hA hK hY U hU hW⟩ rfl (by rw [List.length_map]) h5.1 ?_ ?_ hdg ⟨hR.2.2.1, hR.2.2.2⟩) h1 h3 h4 hA h5 hL hrs (fun r M' hp => kk r M' hp)
  · show (As.reverse ++ Value.ref o :: rest).map (mc_v ad) = _
    rw [List.map_append, List.map_reverse]
    rfl
  · show 2 * (F0 m pc ls _).monitorRoom + _ ≤ 8
    rw [w_cat]
    simpa [JFrame.monitorRoom] using hrest
/-- a private constructor of a nest mate -/
theorem g_callIN (ok : gO X cc own (wsM y0 b0 nl0 ret0)) {host : String} (hM : mm_ (gLa X) y (wsM y b nl none) rm (.ref o :: As) M post) (hcode : Cond.code y b nl none ∈ gT) (hlink : Cond.methodLinkNest own index y host ∈ yT) (hinst : Cond.instanceMethod y ∈ gT) (hini : Cond.initialized y.cls ∈ gT) (hy1 : y.name = "<init>")
    (hd : y.cls ≠ "java/lang/invoke/MethodHandle" ∧ y.cls ≠ "java/lang/invoke/VarHandle" ∧ (parseMethodDescriptor y.desc).map (fun d => d.parameters.length) = some As.length)
    (hdg : decode cc pc = .ok (.invokespecial index, 3)) (hst : As.reverse ++ .ref o :: rest = st) (hrest : (rest.map fun v => v.category).sum ≤ 8) (hR : gF X rm nl k n) (hL : ∀ q ∈ L, mk_v M.length q.2) (hrs : ∀ v ∈ rest, mk_v M.length v)
    (kk : ∀ r M', post r M' → gg X M' (k + rm.cells) (n + rm.slots) (pc + 3) L (r.toList ++ rest)) : gg X M k n pc L st := by
  obtain ⟨p, l, e, R, s, m, args, below, meth, c, nL, D, tc, A, n0, ad0, Q⟩ := X
  obtain ⟨hexec, hb, hml, hown, hts, hK, hA, hlk, hY⟩ := ok
  intro ad H locs ls h1 h2 h3 h4 h5
  subst hst
  refine w_finA (va_runIN (As := As.map (mc_v ad)) (rest := rest.map (mc_v ad)) (b := ad o) (n := As.length) (host := host) ⟨hexec, hb, hml, hown, hts⟩ (hM D tc ad H.size) ⟨va_cnB As.length hts (wsM_good hcode) rfl rfl rfl (hY.use #[] _ hlink) (hts _ (g_inws hini).1) hd ⟨hR.1, hR.2.1⟩, hy1, hts _ (g_inws hinst).1⟩ ⟨mp_blind D tc _ M ad H.size, fun U hU hW => w_pre h2 h3 h4 hA hK hY U hU hW⟩ rfl (by rw [List.length_map]) h5.1 ?_ ?_ hdg ⟨hR.2.2.1, hR.2.2.2⟩) h1 h3 h4 hA h5 hL hrs (fun r M' hp => kk r M' hp)
  · show (As.reverse ++ Value.ref o :: rest).map (mc_v ad) = _
    rw [List.map_append, List.map_reverse]
    rfl
  · show 2 * (F0 m pc ls _).monitorRoom + _ ≤ 8
    rw [w_cat]
    simpa [JFrame.monitorRoom] using hrest
theorem g_objI (ok : gO X cc own (wsM y0 b0 nl0 ret0)) (hlink : Cond.methodLink own index Lib.objectInit ∈ gT) (hinst : Cond.instanceMethod Lib.objectInit ∈ gT) (hcode : Cond.code Lib.objectInit ⟨#[0xb1]⟩ 1 none ∈ gT) (hdg : decode cc pc = .ok (.invokespecial index, 3)) (hf : 1 ≤ (gR X).frames) (hl : (rest.map fun v => v.category).sum + 12 ≤ (gR X).locals)
    (kk : gg X M k n (pc + 3) L rest) : gg X M k n pc L (.ref o :: rest) := by
  obtain ⟨p, l, e, R, s, m, args, below, meth, c, nL, D, tc, A, n0, ad0, Q⟩ := X
  obtain ⟨hexec, hb, hml, hown, hts, hK, hA, hlk, hY⟩ := ok
  intro ad H locs ls h1 h2 h3 h4 h5
  refine W.objInit hexec hb hown (hts _ (g_inws hlink).1) (hts _ (g_inws hinst).1) (hts _ (g_inws hcode).1) (a := ad o) (rest := rest.map (mc_v ad)) rfl (h5.1.trans hml.symm) rfl hdg hf ?_ (kk ad H locs ls h1 h2 h3 h4 h5)
  show 2 * (F0 m pc ls _).monitorRoom + _ + 12 ≤ R.locals
  rw [w_cat]
  have hl' : (rest.map fun v => v.category).sum + 12 ≤ R.locals := hl
  simpa [JFrame.monitorRoom] using hl'
end GC2
