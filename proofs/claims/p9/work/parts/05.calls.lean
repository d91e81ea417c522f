/-! CONTRACTS over mini worlds -/
def mq_ (D : va_G) (tc : Nat → ClassId) (M : List mC) (ad : Nat → Nat) (sz : Nat) (post : Option Value → List mC → Prop) : Array Value → State → Outcome → State → Prop := fun _ st oc t =>
  (∃ (r : Option Value) (M' : List mC) (ad' : Nat → Nat), oc = .returned (r.map (mc_v ad')) ∧ post r M' ∧ g_ag M.length ad M' ad' ∧ va_P D vwCl (mc_w tc ad' M') t.heap ∧ va_D (va_A (mc_w tc ad M) sz) (mc_w tc ad' M')) ∧ va_F (va_A (mc_w tc ad M) sz) st t
def mp_ (D : va_G) (tc : Nat → ClassId) (As : List Value) (M : List mC) (ad : Nat → Nat) (sz : Nat) : Array Value → State → Prop :=
  va_Pc (As.map (mc_v ad)) (fun U => U.heap.size = sz ∧ va_P D vwCl (mc_w tc ad M) U.heap ∧ va_K D vwCl (mc_t tc) U ∧ va_D (fun _ => True) (mc_w tc ad M) ∧ mY (va_A (mc_w tc ad M) sz) U U.heap)
/-- method y, called with As in the world M: it returns r, and the world is M', with 'post r M'' -/
def mm_ (l : Launch) (y : MethodName) (ws : List Cond) (rm : Room) (As : List Value) (M : List mC) (post : Option Value → List mC → Prop) : Prop :=
  ∀ (D : va_G) (tc : Nat → ClassId) (ad : Nat → Nat) (sz : Nat), Met l y ws rm (mp_ D tc As M ad sz) (mq_ D tc M ad sz post) rm.cells rm.slots (va_A (mc_w tc ad M) sz)
theorem mp_blind (D : va_G) (tc : Nat → ClassId) (As : List Value) (M : List mC) (ad : Nat → Nat) (sz : Nat) : FrameBlind (mp_ D tc As M ad sz) := fun _ U g mk ⟨q0, q1, q2, q3, q4, q5⟩ =>
  ⟨q0, q1, q2, va_K.moved (u := U) (U := U.calling g mk _) (Vm.Alike.refl U.vm) q3, q4, q5⟩
section WF
variable {p : Program} {l : Launch} {e : Env} {R : Room} {s : State} {m : MethodId} {args : Array Value} {below : List Frame} {meth : Method} {c : Code} {H : Heap} {locs : List Loc} {k n : Nat} {Q : State → Prop}
variable {D : va_G} {tc : Nat → ClassId} {A : Nat → Prop} {n0 : Nat} {ad0 ad : Nat → Nat} {M : List mC} {nL pc : Nat} {L : List (Nat × Value)} {ls : Array Slot} {st0 rest : List Value} {mc ms : Nat} {a : Array Value} {post : Option Value → List mC → Prop}
theorem w_sub (h3 : va_D A (mc_w tc ad M)) (h4 : va_S A s.heap H locs) (hA : ∀ q, s.heap.size ≤ q → A q) : ∀ q, va_A (mc_w tc ad M) H.size q → A q := fun q h => by
  rcases h with ⟨i, e, h⟩ | h
  · exact h3.2 i (q, e) h
  · exact hA q (Nat.le_trans h4.1 h)
/-- what a callee is given -/
theorem w_pre {As : List Value} (h2 : va_P D vwCl (mc_w tc ad M) H) (h3 : va_D A (mc_w tc ad M)) (h4 : va_S A s.heap H locs) (hA : ∀ q, s.heap.size ≤ q → A q) (hK : va_K D vwCl (mc_t tc) s) (hY : mY A s s.heap) (U : State) (hU : U.heap = H) (hW : s.WarmedH U.vm) : mp_ D tc As M ad H.size (As.map (mc_v ad)).toArray U :=
  ⟨rfl, by rw [hU], by rw [hU]; exact h2, va_K.moved hW.alike hK, h3.weaken (fun _ _ _ _ => trivial), hY.on h4 (w_sub h3 h4 hA) hW hU⟩
/-- behind a call that makes no cell of the world -/
theorem w_fin (hr : va_Run p l e R s m args below meth c H locs k n mc ms (F0 m pc ls st0) (rest.map (mc_v ad)) (mq_ D tc M ad H.size post a) (va_A (mc_w tc ad M) H.size))
    (h1 : g_ag n0 ad0 M ad) (h3 : va_D A (mc_w tc ad M)) (h4 : va_S A s.heap H locs) (hA : ∀ q, s.heap.size ≤ q → A q) (h5 : lv_has ls nL (mc_l ad L))
    (hlen : ∀ r M', post r M' → M'.length = M.length)
    (kk : ∀ r M', post r M' → ∀ (ad : Nat → Nat) (H : Heap) (locs : List Loc) (ls : Array Slot), g_ag n0 ad0 M' ad → va_P D vwCl (mc_w tc ad M') H → va_D A (mc_w tc ad M') → va_S A s.heap H locs → lv_has ls nL (mc_l ad L) → W p l e R s m args below meth c H locs (k + mc) (n + ms) Q (F0 m (pc + 3) ls ((r.toList ++ rest).map (mc_v ad)))) :
    W p l e R s m args below meth c H locs k n Q (F0 m pc ls st0) := by
  have hf := w_sub h3 h4 hA
  intro T hT X
  obtain ⟨v, st₀, t, T', Ls, e0, X', hL, e1, e2, ⟨⟨r, M', ad', hv, hp, hg, hP', hD'⟩, hz, hk⟩, go⟩ := hr T hT X
  rw [e0] at hz hk
  have hl := hlen r M' hp
  have had : ad' = ad := hg.2.2 hl
  subst had
  have hv' : v = r.map (mc_v ad') := by cases hv; rfl
  have k3 : va_S A s.heap T'.heap (locs ++ Ls) := ⟨Nat.le_trans h4.1 (by rw [e1]; exact hz), fun q q1 q2 => by rw [e1, hk q (Nat.lt_of_lt_of_le q1 h4.1) (fun z => q2 (hf q z))]; exact h4.2.1 q q1 q2, fun q hq => by
    rcases List.mem_append.mp hq with h | h
    · exact h4.2.2 q h
    · exact hf _ (hL q h)⟩
  obtain ⟨t2, a1, b1⟩ := kk r M' hp ad' T'.heap (locs ++ Ls) ls ⟨by rw [hl]; exact h1.1, h1.2.1, fun z => h1.2.2 (hl ▸ z)⟩ (by rw [e1]; exact hP') (hD'.weaken (fun _ q _ h => hf q.1 h)) k3 h5 T' rfl X'
  refine ⟨t2, go t2 ?_, b1⟩
  have e9 : (r.toList ++ rest).map (mc_v ad') = v.toList ++ rest.map (mc_v ad') := by
    rw [hv', List.map_append]
    cases r <;> rfl
  rw [e9] at a1
  exact a1
theorem w_cat (ad : Nat → Nat) (rest : List Value) : ((rest.map (mc_v ad)).map fun v => v.category).sum = (rest.map fun v => v.category).sum := by
  rw [List.map_map]
  congr 1
  exact List.map_congr_left (fun v _ => mc_v_cat ad v)
end WF
/-- the words of a method of ours -/
def wsM (y : MethodName) (b : ByteArray) (nl : Nat) (ret : Option FieldType) : List Cond := Cond.code y b nl ret :: gT
theorem wsM_good {y y' : MethodName} {b b' : ByteArray} {nl nl' : Nat} {ret ret' : Option FieldType} (h : Cond.code y' b' nl' ret' ∈ gT) : GoodIn (wsM y b nl ret) (wsM y' b' nl' ret') := by
  have key : ∀ w ∈ gT, w ∈ wsM y b nl ret ∧ ((w.onTables && w.keeps) = true ∨ ∃ ty, w = .arrayClass ty) := fun w hw => ⟨List.mem_cons_of_mem _ hw, good_of_word (List.mem_filter.mp hw).2⟩
  intro w hw
  rcases List.mem_cons.mp hw with rfl | hw
  · exact key _ h
  · exact key _ hw
section GC
variable {X : gC} {cc : ByteArray} {own : String} {M : List mC} {k n pc : Nat} {L : List (Nat × Value)} {st rest : List Value} {y0 y : MethodName} {b0 b : ByteArray} {nl0 nl : Nat} {ret0 ret : Option FieldType} {rm : Room} {As : List Value} {post : Option Value → List mC → Prop} {index o : Nat}
/-- what a call asks of the caller's room -/
def gF (X : gC) (rm : Room) (nl k n : Nat) : Prop := rm.frames + 1 ≤ (gR X).frames ∧ 8 + (nl + 11) + rm.locals ≤ (gR X).locals ∧ k + rm.cells ≤ (gR X).cells ∧ n + rm.slots ≤ (gR X).slots
theorem g_callV (ok : gO X cc own (wsM y0 b0 nl0 ret0)) {ci : Nat} {fs : List Value} {C : String} {T : u_T} {N : Nat} (hM : mm_ (gLa X) y (wsM y b nl ret) rm (.ref o :: As) M post) (hcode : Cond.code y b nl ret ∈ gT) (hlink : Cond.methodLink own index y ∈ gT) (hinst : Cond.instanceMethod y ∈ gT) (hsel : Cond.selects C y y ∈ gT) (hini : Cond.initialized C ∈ gT)
    (hd : y.cls = C ∧ y.cls ≠ "java/lang/invoke/MethodHandle" ∧ y.cls ≠ "java/lang/invoke/VarHandle" ∧ (parseMethodDescriptor y.desc).map (fun d => d.parameters.length) = some As.length)
    (hc : vwCl[ci]? = some (C, T, N)) (hdg : decode cc pc = .ok (.invokevirtual index, 3)) (hst : As.reverse ++ .ref o :: rest = st) (hrest : (rest.map fun v => v.category).sum ≤ 8) (hR : gF X rm nl k n) (he : M[o]? = some (.inr (ci, fs))) (hlen : ∀ r M', post r M' → M'.length = M.length)
    (kk : ∀ r M', post r M' → gg X M' (k + rm.cells) (n + rm.slots) (pc + 3) L (r.toList ++ rest)) : gg X M k n pc L st := by
  obtain ⟨p, l, e, R, s, m, args, below, meth, c, nL, D, tc, A, n0, ad0, Q⟩ := X
  obtain ⟨hexec, hb, hml, hown, hts, hK, hA, hlk, hY⟩ := ok
  intro ad H locs ls h1 h2 h3 h4 h5
  subst hst
  have hG : GoodIn (wsM y0 b0 nl0 ret0) (wsV own index C y (wsM y b nl ret)) := by
    intro w hw
    unfold wsV at hw
    rcases List.mem_append.mp hw with hw | hw
    · have hw' : w ∈ gT := by
        simp only [List.mem_cons, List.not_mem_nil, or_false] at hw
        rcases hw with rfl | rfl | rfl | rfl
        · exact hlink
        · exact hinst
        · exact hsel
        · exact hini
      exact ⟨List.mem_cons_of_mem _ hw', good_of_word (List.mem_filter.mp hw').2⟩
    · exact wsM_good hcode w hw
  refine w_fin (va_runV (As := As.map (mc_v ad)) (rest := rest.map (mc_v ad)) (b := ad o) (n := As.length) ⟨hexec, hb, hml, hown, hts⟩ (hM D tc ad H.size) (cwV As.length hts hG rfl rfl rfl hd ⟨hR.1, hR.2.1⟩) ⟨mp_blind D tc _ M ad H.size, va_recv hK h2 hc (mc_at he), fun U hU hW => w_pre h2 h3 h4 hA hK hY U hU hW⟩ rfl (by rw [List.length_map]) h5.1 ?_ ?_ hdg ⟨hR.2.2.1, hR.2.2.2⟩) h1 h3 h4 hA h5 hlen (fun r M' hp => kk r M' hp)
  · show (As.reverse ++ Value.ref o :: rest).map (mc_v ad) = _
    rw [List.map_append, List.map_reverse]
    rfl
  · show 2 * (F0 m pc ls _).monitorRoom + _ ≤ 8
    rw [w_cat]
    simpa [JFrame.monitorRoom] using hrest
end GC
