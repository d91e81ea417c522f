/-! MINI WORLDS. A world is a list of cells; a reference is a place in it. 'ad': the addresses of the places; 'tc': the classes of the arrays, by the place of their type in mTY. -/
abbrev mC : Type := (Nat × vp_A) ⊕ (Nat × List Value)
def mc_v (ad : Nat → Nat) (v : Value) : Value := match v with
  | .ref k => .ref (ad k)
  | w => w
theorem mc_v_cat (ad : Nat → Nat) (v : Value) : (mc_v ad v).category = v.category := by cases v <;> rfl
def mc_a (ad : Nat → Nat) (a : vp_A) : vp_A := match a with
  | (n, .inr (.inr (.inr (.inr f)))) => (n, .inr (.inr (.inr (.inr (fun j => (f j).map ad)))))
  | (n, b) => (n, b)
def mc_e (tc : Nat → ClassId) (ad : Nat → Nat) (c : mC) : va_E := match c with
  | .inl a => .inl (tc a.1, mc_a ad a.2)
  | .inr o => .inr (o.1, o.2.map (mc_v ad))
def mc_w (tc : Nat → ClassId) (ad : Nat → Nat) (M : List mC) : va_W := M.mapIdx fun k c => (ad k, mc_e tc ad c)
def mc_t (tc : Nat → ClassId) : List (ClassId × FieldType) := mTY.mapIdx fun k ty => (tc k, ty)
theorem mc_ty {tc : Nat → ClassId} {t : Nat} {ty : FieldType} (h : mTY[t]? = some ty) : (mc_t tc)[t]? = some (tc t, ty) := by
  unfold mc_t
  rw [List.getElem?_mapIdx, h]
  rfl
theorem mc_at {tc : Nat → ClassId} {ad : Nat → Nat} {M : List mC} {k : Nat} {c : mC} (h : M[k]? = some c) : (mc_w tc ad M)[k]? = some (ad k, mc_e tc ad c) := by
  unfold mc_w
  rw [List.getElem?_mapIdx, h]
  rfl
theorem mc_set (tc : Nat → ClassId) (ad : Nat → Nat) (M : List mC) (k : Nat) (c : mC) : mc_w tc ad (M.set k c) = (mc_w tc ad M).set k (ad k, mc_e tc ad c) := by
  unfold mc_w
  rw [List.mapIdx_set]
theorem mc_push (tc : Nat → ClassId) (ad : Nat → Nat) (M : List mC) (c : mC) : mc_w tc ad (M ++ [c]) = mc_w tc ad M ++ [(ad M.length, mc_e tc ad c)] := by
  unfold mc_w
  rw [List.mapIdx_concat]
/-! references that lie within the first n places, or at the place that no world has: an array that is given from outside -/
def spl : Nat := 1000000
def mk_v (n : Nat) (v : Value) : Prop := match v with
  | .ref k => k < n ∨ k = spl
  | _ => True
def mk_a (n : Nat) (a : vp_A) : Prop := match a with
  | (_, .inr (.inr (.inr (.inr f)))) => ∀ j i, f j = some i → i < n ∨ i = spl
  | _ => True
def mk_c (n : Nat) (c : mC) : Prop := match c with
  | .inl a => mk_a n a.2
  | .inr o => ∀ v ∈ o.2, mk_v n v
theorem mk_v_eq {n : Nat} {ad ad' : Nat → Nat} {v : Value} (h : mk_v n v) (he : ∀ i, i < n ∨ i = spl → ad' i = ad i) : mc_v ad' v = mc_v ad v := by
  cases v with
  | ref k => exact congrArg Value.ref (he k h)
  | _ => rfl
theorem mk_c_eq {n : Nat} {tc : Nat → ClassId} {ad ad' : Nat → Nat} {c : mC} (h : mk_c n c) (he : ∀ i, i < n ∨ i = spl → ad' i = ad i) : mc_e tc ad' c = mc_e tc ad c := by
  rcases c with ⟨t, k, f | f | f | f | f⟩ | ⟨ci, fs⟩
  · rfl
  · rfl
  · rfl
  · rfl
  · have e : (fun j => (f j).map ad') = (fun j => (f j).map ad) := by
      funext j
      cases hj : f j with
      | none => rfl
      | some i => exact congrArg some (he i (h j i hj))
    show (Sum.inl (tc t, k, Sum.inr (Sum.inr (Sum.inr (Sum.inr (fun j => (f j).map ad'))))) : va_E) = _
    rw [e]
    rfl
  · show (Sum.inr (ci, fs.map (mc_v ad')) : va_E) = Sum.inr (ci, fs.map (mc_v ad))
    rw [List.map_congr_left (fun v hv => mk_v_eq (h v hv) he)]
theorem mk_w_eq {tc : Nat → ClassId} {ad ad' : Nat → Nat} {M : List mC} (h : ∀ c ∈ M, mk_c M.length c) (he : ∀ i, i < M.length ∨ i = spl → ad' i = ad i) : mc_w tc ad' M = mc_w tc ad M := by
  apply List.ext_getElem?
  intro k
  unfold mc_w
  rw [List.getElem?_mapIdx, List.getElem?_mapIdx]
  cases hk : M[k]? with
  | none => rfl
  | some c =>
    have hl := (List.getElem?_eq_some_iff.mp hk).1
    show some (ad' k, mc_e tc ad' c) = some (ad k, mc_e tc ad c)
    rw [he k (Or.inl hl), mk_c_eq (h c (List.mem_of_getElem? hk)) he]
/-! locals -/
def mc_l (ad : Nat → Nat) (L : List (Nat × Value)) : List (Nat × Value) := L.map fun q => (q.1, mc_v ad q.2)
def ml_ins (a : Nat × Value) : List (Nat × Value) → List (Nat × Value)
  | [] => [a]
  | q :: r => match Nat.blt a.1 q.1 with
    | true => a :: q :: r
    | false => q :: ml_ins a r
def ml_k1 (i : Nat) (q : Nat × Value) : Bool := !(q.1 == i) && !(q.1 + 1 == i && q.2.category == 2)
def ml_k2 (i : Nat) (q : Nat × Value) : Bool := !(q.1 == i) && (!(q.1 == i + 1) && !(q.1 + 1 == i && q.2.category == 2))
def ml_s1 (i : Nat) (v : Value) (L : List (Nat × Value)) : List (Nat × Value) := ml_ins (i, v) (L.filter (ml_k1 i))
def ml_s2 (i : Nat) (v : Value) (L : List (Nat × Value)) : List (Nat × Value) := ml_ins (i, v) (L.filter (ml_k2 i))
theorem ml_ins_mem {a q : Nat × Value} : ∀ {L : List (Nat × Value)}, q ∈ ml_ins a L → q = a ∨ q ∈ L
  | [], h => by
    rw [show ml_ins a [] = [a] from rfl] at h
    exact Or.inl (List.mem_singleton.mp h)
  | x :: r, h => by
    unfold ml_ins at h
    cases hb : Nat.blt a.1 x.1 with
    | true =>
      rw [hb] at h
      exact List.mem_cons.mp h
    | false =>
      rw [hb] at h
      rcases List.mem_cons.mp h with h | h
      · exact Or.inr (h ▸ List.mem_cons_self)
      · rcases ml_ins_mem h with h | h
        · exact Or.inl h
        · exact Or.inr (List.mem_cons_of_mem _ h)
theorem ml_f1 (ad : Nat → Nat) (i : Nat) (q : Nat × Value) : ml_k1 i (q.1, mc_v ad q.2) = ml_k1 i q := by
  unfold ml_k1
  rw [mc_v_cat]
theorem ml_f2 (ad : Nat → Nat) (i : Nat) (q : Nat × Value) : ml_k2 i (q.1, mc_v ad q.2) = ml_k2 i q := by
  unfold ml_k2
  rw [mc_v_cat]
theorem ml_has {ls : Array Slot} {nL : Nat} {l l' : List (Nat × Value)} (h : lv_has ls nL l) (hs : ∀ q ∈ l', q ∈ l) : lv_has ls nL l' := ⟨h.1, h.2.1, fun q hq => h.2.2 q (hs q hq)⟩
theorem ml_st1 {ad : Nat → Nat} {ls : Array Slot} {nL i : Nat} {v : Value} {L : List (Nat × Value)} (h : lv_has ls nL ((i, mc_v ad v) :: (mc_l ad L).filter (ml_k1 i))) : lv_has ls nL (mc_l ad (ml_s1 i v L)) := by
  refine ml_has h (fun q hq => ?_)
  obtain ⟨x, hx, rfl⟩ := List.mem_map.mp hq
  rcases ml_ins_mem hx with rfl | hx
  · exact List.mem_cons_self
  · obtain ⟨h1, h2⟩ := List.mem_filter.mp hx
    exact List.mem_cons_of_mem _ (List.mem_filter.mpr ⟨List.mem_map.mpr ⟨x, h1, rfl⟩, by rw [ml_f1]; exact h2⟩)
theorem ml_st2 {ad : Nat → Nat} {ls : Array Slot} {nL i : Nat} {v : Value} {L : List (Nat × Value)} (h : lv_has ls nL ((i, mc_v ad v) :: (mc_l ad L).filter (ml_k2 i))) : lv_has ls nL (mc_l ad (ml_s2 i v L)) := by
  refine ml_has h (fun q hq => ?_)
  obtain ⟨x, hx, rfl⟩ := List.mem_map.mp hq
  rcases ml_ins_mem hx with rfl | hx
  · exact List.mem_cons_self
  · obtain ⟨h1, h2⟩ := List.mem_filter.mp hx
    exact List.mem_cons_of_mem _ (List.mem_filter.mpr ⟨List.mem_map.mpr ⟨x, h1, rfl⟩, by rw [ml_f2]; exact h2⟩)
theorem ml_at {ad : Nat → Nat} {ls : Array Slot} {nL k i : Nat} {v : Value} {L : List (Nat × Value)} (h : lv_has ls nL (mc_l ad L)) (hk : L[k]? = some (i, v)) : ls[i]? = some (.val (mc_v ad v)) :=
  lv_at h k (i := i) (v := mc_v ad v) (by unfold mc_l; rw [List.getElem?_map, hk]; rfl)
abbrev gC : Type := Program × Launch × Env × Room × State × MethodId × Array Value × List Frame × Method × Code × Nat × va_G × (Nat → ClassId) × (Nat → Prop) × Nat × (Nat → Nat) × (State → Prop)
/-- the places' addresses since the start -/
def g_ag (n0 : Nat) (ad0 : Nat → Nat) (M : List mC) (ad : Nat → Nat) : Prop := n0 ≤ M.length ∧ (∀ i, i < n0 ∨ i = spl → ad i = ad0 i) ∧ (M.length = n0 → ad = ad0)
/-- THE JUDGEMENT: with the world M, k cells and n slots made so far, at pc with the locals L and the stack st the machine comes to its end -/
def gg (X : gC) (M : List mC) (k n pc : Nat) (L : List (Nat × Value)) (st : List Value) : Prop := match X with
  | (p, l, e, R, s, m, args, below, meth, c, nL, D, tc, A, n0, ad0, Q) => ∀ (ad : Nat → Nat) (H : Heap) (locs : List Loc) (ls : Array Slot), g_ag n0 ad0 M ad → va_P D vwCl (mc_w tc ad M) H → va_D A (mc_w tc ad M) → va_S A s.heap H locs → lv_has ls nL (mc_l ad L) → W p l e R s m args below meth c H locs k n Q (F0 m pc ls (st.map (mc_v ad)))
/-- what the tables and the statics give beside the steady words, at any later state whose cells outside A are as they were -/
def mY (A : Nat → Prop) (U : State) (H : Heap) : Prop := ∀ U' : State, U.WarmedH U'.vm → H.size ≤ U'.heap.size → (∀ a : Nat, a < H.size → ¬ A a → U'.heap[a]? = H[a]?) → (∀ (a : Array Value), ∀ w ∈ yT, w.before a U' = true) ∧ ∀ q ∈ sT, ∃ sa : Nat, vk_R q.1 q.2.1 q.2.2 sa U'
theorem mY.use {A : Nat → Prop} {U : State} (h : mY A U U.heap) (a : Array Value) : ∀ w ∈ yT, w.before a U = true := (h U (State.WarmedH.refl U) (Nat.le_refl _) (fun _ _ _ => rfl)).1 a
theorem mY.on {A B : Nat → Prop} {s U : State} {H : Heap} {locs : List Loc} (h : mY A s s.heap) (hS : va_S A s.heap H locs) (hB : ∀ q, B q → A q) (hW : s.WarmedH U.vm) (hU : U.heap = H) : mY B U U.heap := by
  intro U' w1 w2 w3
  rw [hU] at w2 w3
  refine h U' (State.WarmedH.trans hW w1) (Nat.le_trans hS.1 w2) (fun a a1 a2 => ?_)
  rw [w3 a (Nat.lt_of_lt_of_le a1 hS.1) (fun z => a2 (hB a z))]
  exact hS.2.1 a a1 a2
/-- what a frame stands on: the machine, its code, its class, its words, the tables -/
def gO (X : gC) (cc : ByteArray) (own : String) (Ts : List Cond) : Prop := match X with
  | (p, l, e, R, s, m, args, below, meth, c, nL, D, tc, A, n0, ad0, Q) => p.tables.exec = Jvm.exec ∧ c.code = cc ∧ c.maxLocals = nL ∧ s.vm.findClass own = some m.cls ∧ (∀ w ∈ Ts, w.before args s = true) ∧ va_K D vwCl (mc_t tc) s ∧ (∀ q, s.heap.size ≤ q → A q) ∧ meth.locks = false ∧ mY A s s.heap
def gL (X : gC) : Nat := match X with
  | (p, l, e, R, s, m, args, below, meth, c, nL, D, tc, A, n0, ad0, Q) => nL
def gS (X : gC) : State := match X with
  | (p, l, e, R, s, m, args, below, meth, c, nL, D, tc, A, n0, ad0, Q) => s
def gM (X : gC) : Method := match X with
  | (p, l, e, R, s, m, args, below, meth, c, nL, D, tc, A, n0, ad0, Q) => meth
def gR (X : gC) : Room := match X with
  | (p, l, e, R, s, m, args, below, meth, c, nL, D, tc, A, n0, ad0, Q) => R
def gLa (X : gC) : Launch := match X with
  | (p, l, e, R, s, m, args, below, meth, c, nL, D, tc, A, n0, ad0, Q) => l
section GG
variable {X : gC} {cc : ByteArray} {own : String} {Ts : List Cond} {M : List mC} {k n pc : Nat} {L : List (Nat × Value)} {st : List Value}
theorem g_iconst (ok : gO X cc own Ts) {c : Int} {v : Int32} (hd : decode cc pc = .ok (.iconst c, 1)) (hv : Int32.ofInt c = v) (kk : gg X M k n (pc + 1) L (.int v :: st)) : gg X M k n pc L (st) := by
  obtain ⟨p, l, e, R, s, m, args, below, meth, c, nL, D, tc, A, n0, ad0, Q⟩ := X
  obtain ⟨hexec, hb, hml, hown, hts, hK, hA, hlk⟩ := ok
  intro ad H locs ls h1 h2 h3 h4 h5
  exact lv_iconst hexec hb hd hv (kk ad H locs ls h1 h2 h3 h4 h5)
theorem g_bipush (ok : gO X cc own Ts) {c : Int} {v : Int32} (hd : decode cc pc = .ok (.bipush c, 2)) (hv : (Int8.ofInt c).toInt32 = v) (kk : gg X M k n (pc + 2) L (.int v :: st)) : gg X M k n pc L (st) := by
  obtain ⟨p, l, e, R, s, m, args, below, meth, c, nL, D, tc, A, n0, ad0, Q⟩ := X
  obtain ⟨hexec, hb, hml, hown, hts, hK, hA, hlk⟩ := ok
  intro ad H locs ls h1 h2 h3 h4 h5
  exact lv_bipush hexec hb hd hv (kk ad H locs ls h1 h2 h3 h4 h5)
theorem g_sipush (ok : gO X cc own Ts) {c : Int} {v : Int32} (hd : decode cc pc = .ok (.sipush c, 3)) (hv : (Int16.ofInt c).toInt32 = v) (kk : gg X M k n (pc + 3) L (.int v :: st)) : gg X M k n pc L (st) := by
  obtain ⟨p, l, e, R, s, m, args, below, meth, c, nL, D, tc, A, n0, ad0, Q⟩ := X
  obtain ⟨hexec, hb, hml, hown, hts, hK, hA, hlk⟩ := ok
  intro ad H locs ls h1 h2 h3 h4 h5
  exact lv_sipush hexec hb hd hv (kk ad H locs ls h1 h2 h3 h4 h5)
theorem g_lconst (ok : gO X cc own Ts) {c : Fin 2} {v : Int64} (hd : decode cc pc = .ok (.lconst c, 1)) (hv : Int64.ofNat (c : Nat) = v) (kk : gg X M k n (pc + 1) L (.long v :: st)) : gg X M k n pc L (st) := by
  obtain ⟨p, l, e, R, s, m, args, below, meth, c, nL, D, tc, A, n0, ad0, Q⟩ := X
  obtain ⟨hexec, hb, hml, hown, hts, hK, hA, hlk⟩ := ok
  intro ad H locs ls h1 h2 h3 h4 h5
  exact lv_lconst hexec hb hd hv (kk ad H locs ls h1 h2 h3 h4 h5)
theorem g_iload_n (ok : gO X cc own Ts) {c : Fin 4} {i j : Nat} {x : Int32} (hd : decode cc pc = .ok (.iload_n c, 1)) (hi : (c : Nat) = i) (hL : L[j]? = some (i, .int x)) (kk : gg X M k n (pc + 1) L (.int x :: st)) : gg X M k n pc L (st) := by
  obtain ⟨p, l, e, R, s, m, args, below, meth, c, nL, D, tc, A, n0, ad0, Q⟩ := X
  obtain ⟨hexec, hb, hml, hown, hts, hK, hA, hlk⟩ := ok
  intro ad H locs ls h1 h2 h3 h4 h5
  exact lv_iload_n hexec hb hd hi (ml_at h5 hL) (kk ad H locs ls h1 h2 h3 h4 h5)
theorem g_iload (ok : gO X cc own Ts) {i j : Nat} {x : Int32} (hd : decode cc pc = .ok (.iload i, 2)) (hL : L[j]? = some (i, .int x)) (kk : gg X M k n (pc + 2) L (.int x :: st)) : gg X M k n pc L (st) := by
  obtain ⟨p, l, e, R, s, m, args, below, meth, c, nL, D, tc, A, n0, ad0, Q⟩ := X
  obtain ⟨hexec, hb, hml, hown, hts, hK, hA, hlk⟩ := ok
  intro ad H locs ls h1 h2 h3 h4 h5
  exact lv_iload hexec hb hd (ml_at h5 hL) (kk ad H locs ls h1 h2 h3 h4 h5)
theorem g_lload_n (ok : gO X cc own Ts) {c : Fin 4} {i j : Nat} {x : Int64} (hd : decode cc pc = .ok (.lload_n c, 1)) (hi : (c : Nat) = i) (hL : L[j]? = some (i, .long x)) (kk : gg X M k n (pc + 1) L (.long x :: st)) : gg X M k n pc L (st) := by
  obtain ⟨p, l, e, R, s, m, args, below, meth, c, nL, D, tc, A, n0, ad0, Q⟩ := X
  obtain ⟨hexec, hb, hml, hown, hts, hK, hA, hlk⟩ := ok
  intro ad H locs ls h1 h2 h3 h4 h5
  exact lv_lload_n hexec hb hd hi (ml_at h5 hL) (kk ad H locs ls h1 h2 h3 h4 h5)
theorem g_lload (ok : gO X cc own Ts) {i j : Nat} {x : Int64} (hd : decode cc pc = .ok (.lload i, 2)) (hL : L[j]? = some (i, .long x)) (kk : gg X M k n (pc + 2) L (.long x :: st)) : gg X M k n pc L (st) := by
  obtain ⟨p, l, e, R, s, m, args, below, meth, c, nL, D, tc, A, n0, ad0, Q⟩ := X
  obtain ⟨hexec, hb, hml, hown, hts, hK, hA, hlk⟩ := ok
  intro ad H locs ls h1 h2 h3 h4 h5
  exact lv_lload hexec hb hd (ml_at h5 hL) (kk ad H locs ls h1 h2 h3 h4 h5)
theorem g_aload_n (ok : gO X cc own Ts) {c : Fin 4} {i j : Nat} {x : Nat} (hd : decode cc pc = .ok (.aload_n c, 1)) (hi : (c : Nat) = i) (hL : L[j]? = some (i, .ref x)) (kk : gg X M k n (pc + 1) L (.ref x :: st)) : gg X M k n pc L (st) := by
  obtain ⟨p, l, e, R, s, m, args, below, meth, c, nL, D, tc, A, n0, ad0, Q⟩ := X
  obtain ⟨hexec, hb, hml, hown, hts, hK, hA, hlk⟩ := ok
  intro ad H locs ls h1 h2 h3 h4 h5
  exact lv_aload_n hexec hb hd hi (ml_at h5 hL) (kk ad H locs ls h1 h2 h3 h4 h5)
theorem g_aload (ok : gO X cc own Ts) {i j : Nat} {x : Nat} (hd : decode cc pc = .ok (.aload i, 2)) (hL : L[j]? = some (i, .ref x)) (kk : gg X M k n (pc + 2) L (.ref x :: st)) : gg X M k n pc L (st) := by
  obtain ⟨p, l, e, R, s, m, args, below, meth, c, nL, D, tc, A, n0, ad0, Q⟩ := X
  obtain ⟨hexec, hb, hml, hown, hts, hK, hA, hlk⟩ := ok
  intro ad H locs ls h1 h2 h3 h4 h5
  exact lv_aload hexec hb hd (ml_at h5 hL) (kk ad H locs ls h1 h2 h3 h4 h5)
theorem g_istore_n (ok : gO X cc own Ts) {c : Fin 4} {i : Nat} {x : Int32} {L' : List (Nat × Value)} (hd : decode cc pc = .ok (.istore_n c, 1)) (hi : (c : Nat) = i) (hn : i < gL X) (hL : ml_s1 i (.int x) L = L') (kk : gg X M k n (pc + 1) L' st) : gg X M k n pc L (.int x :: st) := by
  obtain ⟨p, l, e, R, s, m, args, below, meth, c, nL, D, tc, A, n0, ad0, Q⟩ := X
  obtain ⟨hexec, hb, hml, hown, hts, hK, hA, hlk⟩ := ok
  intro ad H locs ls h1 h2 h3 h4 h5
  subst hL
  exact lv_istore_n hexec hb hd hi h5 hn rfl (fun ls' hl' => kk ad H locs ls' h1 h2 h3 h4 (ml_st1 hl'))
theorem g_istore (ok : gO X cc own Ts) {i : Nat} {x : Int32} {L' : List (Nat × Value)} (hd : decode cc pc = .ok (.istore i, 2)) (hn : i < gL X) (hL : ml_s1 i (.int x) L = L') (kk : gg X M k n (pc + 2) L' st) : gg X M k n pc L (.int x :: st) := by
  obtain ⟨p, l, e, R, s, m, args, below, meth, c, nL, D, tc, A, n0, ad0, Q⟩ := X
  obtain ⟨hexec, hb, hml, hown, hts, hK, hA, hlk⟩ := ok
  intro ad H locs ls h1 h2 h3 h4 h5
  subst hL
  exact lv_istore hexec hb hd h5 hn rfl (fun ls' hl' => kk ad H locs ls' h1 h2 h3 h4 (ml_st1 hl'))
theorem g_lstore_n (ok : gO X cc own Ts) {c : Fin 4} {i : Nat} {x : Int64} {L' : List (Nat × Value)} (hd : decode cc pc = .ok (.lstore_n c, 1)) (hi : (c : Nat) = i) (hn : i + 1 < gL X) (hL : ml_s2 i (.long x) L = L') (kk : gg X M k n (pc + 1) L' st) : gg X M k n pc L (.long x :: st) := by
  obtain ⟨p, l, e, R, s, m, args, below, meth, c, nL, D, tc, A, n0, ad0, Q⟩ := X
  obtain ⟨hexec, hb, hml, hown, hts, hK, hA, hlk⟩ := ok
  intro ad H locs ls h1 h2 h3 h4 h5
  subst hL
  exact lv_lstore_n hexec hb hd hi h5 hn rfl (fun ls' hl' => kk ad H locs ls' h1 h2 h3 h4 (ml_st2 hl'))
theorem g_lstore (ok : gO X cc own Ts) {i : Nat} {x : Int64} {L' : List (Nat × Value)} (hd : decode cc pc = .ok (.lstore i, 2)) (hn : i + 1 < gL X) (hL : ml_s2 i (.long x) L = L') (kk : gg X M k n (pc + 2) L' st) : gg X M k n pc L (.long x :: st) := by
  obtain ⟨p, l, e, R, s, m, args, below, meth, c, nL, D, tc, A, n0, ad0, Q⟩ := X
  obtain ⟨hexec, hb, hml, hown, hts, hK, hA, hlk⟩ := ok
  intro ad H locs ls h1 h2 h3 h4 h5
  subst hL
  exact lv_lstore hexec hb hd h5 hn rfl (fun ls' hl' => kk ad H locs ls' h1 h2 h3 h4 (ml_st2 hl'))
theorem g_astore_n (ok : gO X cc own Ts) {c : Fin 4} {i : Nat} {x : Nat} {L' : List (Nat × Value)} (hd : decode cc pc = .ok (.astore_n c, 1)) (hi : (c : Nat) = i) (hn : i < gL X) (hL : ml_s1 i (.ref x) L = L') (kk : gg X M k n (pc + 1) L' st) : gg X M k n pc L (.ref x :: st) := by
  obtain ⟨p, l, e, R, s, m, args, below, meth, c, nL, D, tc, A, n0, ad0, Q⟩ := X
  obtain ⟨hexec, hb, hml, hown, hts, hK, hA, hlk⟩ := ok
  intro ad H locs ls h1 h2 h3 h4 h5
  subst hL
  exact lv_astore_n hexec hb hd hi h5 hn rfl (fun ls' hl' => kk ad H locs ls' h1 h2 h3 h4 (ml_st1 hl'))
theorem g_astore (ok : gO X cc own Ts) {i : Nat} {x : Nat} {L' : List (Nat × Value)} (hd : decode cc pc = .ok (.astore i, 2)) (hn : i < gL X) (hL : ml_s1 i (.ref x) L = L') (kk : gg X M k n (pc + 2) L' st) : gg X M k n pc L (.ref x :: st) := by
  obtain ⟨p, l, e, R, s, m, args, below, meth, c, nL, D, tc, A, n0, ad0, Q⟩ := X
  obtain ⟨hexec, hb, hml, hown, hts, hK, hA, hlk⟩ := ok
  intro ad H locs ls h1 h2 h3 h4 h5
  subst hL
  exact lv_astore hexec hb hd h5 hn rfl (fun ls' hl' => kk ad H locs ls' h1 h2 h3 h4 (ml_st1 hl'))
theorem g_iinc (ok : gO X cc own Ts) {i j : Nat} {c : Int} {x v : Int32} {L' : List (Nat × Value)} (hd : decode cc pc = .ok (.iinc i c, 3)) (hj : L[j]? = some (i, .int x)) (hv : x + Int32.ofInt c = v) (hn : i < gL X) (hL : ml_s1 i (.int v) L = L') (kk : gg X M k n (pc + 3) L' st) : gg X M k n pc L st := by
  obtain ⟨p, l, e, R, s, m, args, below, meth, c, nL, D, tc, A, n0, ad0, Q⟩ := X
  obtain ⟨hexec, hb, hml, hown, hts, hK, hA, hlk⟩ := ok
  intro ad H locs ls h1 h2 h3 h4 h5
  subst hL
  exact lv_iinc (k := j) hexec hb hd h5 (by unfold mc_l; rw [List.getElem?_map, hj]; rfl) hv hn rfl (fun ls' hl' => kk ad H locs ls' h1 h2 h3 h4 (ml_st1 (v := .int v) hl'))
theorem g_iadd (ok : gO X cc own Ts) {x y : Int32} (hd : decode cc pc = .ok (.iadd, 1))  (kk : gg X M k n (pc + 1) L (.int (x + y) :: st)) : gg X M k n pc L (.int y :: .int x :: st) := by
  obtain ⟨p, l, e, R, s, m, args, below, meth, c, nL, D, tc, A, n0, ad0, Q⟩ := X
  obtain ⟨hexec, hb, hml, hown, hts, hK, hA, hlk⟩ := ok
  intro ad H locs ls h1 h2 h3 h4 h5
  exact lv_iadd hexec hb hd  (kk ad H locs ls h1 h2 h3 h4 h5)
theorem g_isub (ok : gO X cc own Ts) {x y : Int32} (hd : decode cc pc = .ok (.isub, 1))  (kk : gg X M k n (pc + 1) L (.int (x - y) :: st)) : gg X M k n pc L (.int y :: .int x :: st) := by
  obtain ⟨p, l, e, R, s, m, args, below, meth, c, nL, D, tc, A, n0, ad0, Q⟩ := X
  obtain ⟨hexec, hb, hml, hown, hts, hK, hA, hlk⟩ := ok
  intro ad H locs ls h1 h2 h3 h4 h5
  exact lv_isub hexec hb hd  (kk ad H locs ls h1 h2 h3 h4 h5)
theorem g_imul (ok : gO X cc own Ts) {x y : Int32} (hd : decode cc pc = .ok (.imul, 1))  (kk : gg X M k n (pc + 1) L (.int (x * y) :: st)) : gg X M k n pc L (.int y :: .int x :: st) := by
  obtain ⟨p, l, e, R, s, m, args, below, meth, c, nL, D, tc, A, n0, ad0, Q⟩ := X
  obtain ⟨hexec, hb, hml, hown, hts, hK, hA, hlk⟩ := ok
  intro ad H locs ls h1 h2 h3 h4 h5
  exact lv_imul hexec hb hd  (kk ad H locs ls h1 h2 h3 h4 h5)
theorem g_iand (ok : gO X cc own Ts) {x y : Int32} (hd : decode cc pc = .ok (.iand, 1))  (kk : gg X M k n (pc + 1) L (.int (x &&& y) :: st)) : gg X M k n pc L (.int y :: .int x :: st) := by
  obtain ⟨p, l, e, R, s, m, args, below, meth, c, nL, D, tc, A, n0, ad0, Q⟩ := X
  obtain ⟨hexec, hb, hml, hown, hts, hK, hA, hlk⟩ := ok
  intro ad H locs ls h1 h2 h3 h4 h5
  exact lv_iand hexec hb hd  (kk ad H locs ls h1 h2 h3 h4 h5)
theorem g_ior (ok : gO X cc own Ts) {x y : Int32} (hd : decode cc pc = .ok (.ior, 1))  (kk : gg X M k n (pc + 1) L (.int (x ||| y) :: st)) : gg X M k n pc L (.int y :: .int x :: st) := by
  obtain ⟨p, l, e, R, s, m, args, below, meth, c, nL, D, tc, A, n0, ad0, Q⟩ := X
  obtain ⟨hexec, hb, hml, hown, hts, hK, hA, hlk⟩ := ok
  intro ad H locs ls h1 h2 h3 h4 h5
  exact lv_ior hexec hb hd  (kk ad H locs ls h1 h2 h3 h4 h5)
theorem g_ixor (ok : gO X cc own Ts) {x y : Int32} (hd : decode cc pc = .ok (.ixor, 1))  (kk : gg X M k n (pc + 1) L (.int (x ^^^ y) :: st)) : gg X M k n pc L (.int y :: .int x :: st) := by
  obtain ⟨p, l, e, R, s, m, args, below, meth, c, nL, D, tc, A, n0, ad0, Q⟩ := X
  obtain ⟨hexec, hb, hml, hown, hts, hK, hA, hlk⟩ := ok
  intro ad H locs ls h1 h2 h3 h4 h5
  exact lv_ixor hexec hb hd  (kk ad H locs ls h1 h2 h3 h4 h5)
theorem g_ishl (ok : gO X cc own Ts) {x y : Int32} (hd : decode cc pc = .ok (.ishl, 1))  (kk : gg X M k n (pc + 1) L (.int (x <<< (y &&& 31)) :: st)) : gg X M k n pc L (.int y :: .int x :: st) := by
  obtain ⟨p, l, e, R, s, m, args, below, meth, c, nL, D, tc, A, n0, ad0, Q⟩ := X
  obtain ⟨hexec, hb, hml, hown, hts, hK, hA, hlk⟩ := ok
  intro ad H locs ls h1 h2 h3 h4 h5
  exact lv_ishl hexec hb hd  (kk ad H locs ls h1 h2 h3 h4 h5)
theorem g_ishr (ok : gO X cc own Ts) {x y : Int32} (hd : decode cc pc = .ok (.ishr, 1))  (kk : gg X M k n (pc + 1) L (.int (x >>> (y &&& 31)) :: st)) : gg X M k n pc L (.int y :: .int x :: st) := by
  obtain ⟨p, l, e, R, s, m, args, below, meth, c, nL, D, tc, A, n0, ad0, Q⟩ := X
  obtain ⟨hexec, hb, hml, hown, hts, hK, hA, hlk⟩ := ok
  intro ad H locs ls h1 h2 h3 h4 h5
  exact lv_ishr hexec hb hd  (kk ad H locs ls h1 h2 h3 h4 h5)
theorem g_idiv (ok : gO X cc own Ts) {x y : Int32} (hd : decode cc pc = .ok (.idiv, 1)) (hne : ¬ y = 0) (kk : gg X M k n (pc + 1) L (.int (x / y) :: st)) : gg X M k n pc L (.int y :: .int x :: st) := by
  obtain ⟨p, l, e, R, s, m, args, below, meth, c, nL, D, tc, A, n0, ad0, Q⟩ := X
  obtain ⟨hexec, hb, hml, hown, hts, hK, hA, hlk⟩ := ok
  intro ad H locs ls h1 h2 h3 h4 h5
  exact lv_idiv hexec hb hd hne (kk ad H locs ls h1 h2 h3 h4 h5)
theorem g_irem (ok : gO X cc own Ts) {x y : Int32} (hd : decode cc pc = .ok (.irem, 1)) (hne : ¬ y = 0) (kk : gg X M k n (pc + 1) L (.int (x - x / y * y) :: st)) : gg X M k n pc L (.int y :: .int x :: st) := by
  obtain ⟨p, l, e, R, s, m, args, below, meth, c, nL, D, tc, A, n0, ad0, Q⟩ := X
  obtain ⟨hexec, hb, hml, hown, hts, hK, hA, hlk⟩ := ok
  intro ad H locs ls h1 h2 h3 h4 h5
  exact lv_irem hexec hb hd hne (kk ad H locs ls h1 h2 h3 h4 h5)
theorem g_ladd (ok : gO X cc own Ts) {x y : Int64} (hd : decode cc pc = .ok (.ladd, 1))  (kk : gg X M k n (pc + 1) L (.long (x + y) :: st)) : gg X M k n pc L (.long y :: .long x :: st) := by
  obtain ⟨p, l, e, R, s, m, args, below, meth, c, nL, D, tc, A, n0, ad0, Q⟩ := X
  obtain ⟨hexec, hb, hml, hown, hts, hK, hA, hlk⟩ := ok
  intro ad H locs ls h1 h2 h3 h4 h5
  exact lv_ladd hexec hb hd  (kk ad H locs ls h1 h2 h3 h4 h5)
theorem g_lsub (ok : gO X cc own Ts) {x y : Int64} (hd : decode cc pc = .ok (.lsub, 1))  (kk : gg X M k n (pc + 1) L (.long (x - y) :: st)) : gg X M k n pc L (.long y :: .long x :: st) := by
  obtain ⟨p, l, e, R, s, m, args, below, meth, c, nL, D, tc, A, n0, ad0, Q⟩ := X
  obtain ⟨hexec, hb, hml, hown, hts, hK, hA, hlk⟩ := ok
  intro ad H locs ls h1 h2 h3 h4 h5
  exact lv_lsub hexec hb hd  (kk ad H locs ls h1 h2 h3 h4 h5)
theorem g_lmul (ok : gO X cc own Ts) {x y : Int64} (hd : decode cc pc = .ok (.lmul, 1))  (kk : gg X M k n (pc + 1) L (.long (x * y) :: st)) : gg X M k n pc L (.long y :: .long x :: st) := by
  obtain ⟨p, l, e, R, s, m, args, below, meth, c, nL, D, tc, A, n0, ad0, Q⟩ := X
  obtain ⟨hexec, hb, hml, hown, hts, hK, hA, hlk⟩ := ok
  intro ad H locs ls h1 h2 h3 h4 h5
  exact lv_lmul hexec hb hd  (kk ad H locs ls h1 h2 h3 h4 h5)
theorem g_land (ok : gO X cc own Ts) {x y : Int64} (hd : decode cc pc = .ok (.land, 1))  (kk : gg X M k n (pc + 1) L (.long (x &&& y) :: st)) : gg X M k n pc L (.long y :: .long x :: st) := by
  obtain ⟨p, l, e, R, s, m, args, below, meth, c, nL, D, tc, A, n0, ad0, Q⟩ := X
  obtain ⟨hexec, hb, hml, hown, hts, hK, hA, hlk⟩ := ok
  intro ad H locs ls h1 h2 h3 h4 h5
  exact lv_land hexec hb hd  (kk ad H locs ls h1 h2 h3 h4 h5)
theorem g_lor (ok : gO X cc own Ts) {x y : Int64} (hd : decode cc pc = .ok (.lor, 1))  (kk : gg X M k n (pc + 1) L (.long (x ||| y) :: st)) : gg X M k n pc L (.long y :: .long x :: st) := by
  obtain ⟨p, l, e, R, s, m, args, below, meth, c, nL, D, tc, A, n0, ad0, Q⟩ := X
  obtain ⟨hexec, hb, hml, hown, hts, hK, hA, hlk⟩ := ok
  intro ad H locs ls h1 h2 h3 h4 h5
  exact lv_lor hexec hb hd  (kk ad H locs ls h1 h2 h3 h4 h5)
theorem g_lxor (ok : gO X cc own Ts) {x y : Int64} (hd : decode cc pc = .ok (.lxor, 1))  (kk : gg X M k n (pc + 1) L (.long (x ^^^ y) :: st)) : gg X M k n pc L (.long y :: .long x :: st) := by
  obtain ⟨p, l, e, R, s, m, args, below, meth, c, nL, D, tc, A, n0, ad0, Q⟩ := X
  obtain ⟨hexec, hb, hml, hown, hts, hK, hA, hlk⟩ := ok
  intro ad H locs ls h1 h2 h3 h4 h5
  exact lv_lxor hexec hb hd  (kk ad H locs ls h1 h2 h3 h4 h5)
theorem g_ldiv (ok : gO X cc own Ts) {x y : Int64} (hd : decode cc pc = .ok (.ldiv, 1)) (hne : ¬ y = 0) (kk : gg X M k n (pc + 1) L (.long (x / y) :: st)) : gg X M k n pc L (.long y :: .long x :: st) := by
  obtain ⟨p, l, e, R, s, m, args, below, meth, c, nL, D, tc, A, n0, ad0, Q⟩ := X
  obtain ⟨hexec, hb, hml, hown, hts, hK, hA, hlk⟩ := ok
  intro ad H locs ls h1 h2 h3 h4 h5
  exact lv_ldiv hexec hb hd hne (kk ad H locs ls h1 h2 h3 h4 h5)
theorem g_lrem (ok : gO X cc own Ts) {x y : Int64} (hd : decode cc pc = .ok (.lrem, 1)) (hne : ¬ y = 0) (kk : gg X M k n (pc + 1) L (.long (x - x / y * y) :: st)) : gg X M k n pc L (.long y :: .long x :: st) := by
  obtain ⟨p, l, e, R, s, m, args, below, meth, c, nL, D, tc, A, n0, ad0, Q⟩ := X
  obtain ⟨hexec, hb, hml, hown, hts, hK, hA, hlk⟩ := ok
  intro ad H locs ls h1 h2 h3 h4 h5
  exact lv_lrem hexec hb hd hne (kk ad H locs ls h1 h2 h3 h4 h5)
theorem g_ineg (ok : gO X cc own Ts) {x : Int32} (hd : decode cc pc = .ok (.ineg, 1))  (kk : gg X M k n (pc + 1) L (.int (-x) :: st)) : gg X M k n pc L (.int x :: st) := by
  obtain ⟨p, l, e, R, s, m, args, below, meth, c, nL, D, tc, A, n0, ad0, Q⟩ := X
  obtain ⟨hexec, hb, hml, hown, hts, hK, hA, hlk⟩ := ok
  intro ad H locs ls h1 h2 h3 h4 h5
  exact lv_ineg hexec hb hd  (kk ad H locs ls h1 h2 h3 h4 h5)
theorem g_lneg (ok : gO X cc own Ts) {x : Int64} (hd : decode cc pc = .ok (.lneg, 1))  (kk : gg X M k n (pc + 1) L (.long (-x) :: st)) : gg X M k n pc L (.long x :: st) := by
  obtain ⟨p, l, e, R, s, m, args, below, meth, c, nL, D, tc, A, n0, ad0, Q⟩ := X
  obtain ⟨hexec, hb, hml, hown, hts, hK, hA, hlk⟩ := ok
  intro ad H locs ls h1 h2 h3 h4 h5
  exact lv_lneg hexec hb hd  (kk ad H locs ls h1 h2 h3 h4 h5)
theorem g_i2l (ok : gO X cc own Ts) {x : Int32} (hd : decode cc pc = .ok (.i2l, 1))  (kk : gg X M k n (pc + 1) L (.long (x.toInt64) :: st)) : gg X M k n pc L (.int x :: st) := by
  obtain ⟨p, l, e, R, s, m, args, below, meth, c, nL, D, tc, A, n0, ad0, Q⟩ := X
  obtain ⟨hexec, hb, hml, hown, hts, hK, hA, hlk⟩ := ok
  intro ad H locs ls h1 h2 h3 h4 h5
  exact lv_i2l hexec hb hd rfl (kk ad H locs ls h1 h2 h3 h4 h5)
theorem g_l2i (ok : gO X cc own Ts) {x : Int64} (hd : decode cc pc = .ok (.l2i, 1))  (kk : gg X M k n (pc + 1) L (.int (x.toInt32) :: st)) : gg X M k n pc L (.long x :: st) := by
  obtain ⟨p, l, e, R, s, m, args, below, meth, c, nL, D, tc, A, n0, ad0, Q⟩ := X
  obtain ⟨hexec, hb, hml, hown, hts, hK, hA, hlk⟩ := ok
  intro ad H locs ls h1 h2 h3 h4 h5
  exact lv_l2i hexec hb hd rfl (kk ad H locs ls h1 h2 h3 h4 h5)
theorem g_i2b (ok : gO X cc own Ts) {x : Int32} (hd : decode cc pc = .ok (.i2b, 1))  (kk : gg X M k n (pc + 1) L (.int (x.toInt8.toInt32) :: st)) : gg X M k n pc L (.int x :: st) := by
  obtain ⟨p, l, e, R, s, m, args, below, meth, c, nL, D, tc, A, n0, ad0, Q⟩ := X
  obtain ⟨hexec, hb, hml, hown, hts, hK, hA, hlk⟩ := ok
  intro ad H locs ls h1 h2 h3 h4 h5
  exact lv_i2b hexec hb hd rfl (kk ad H locs ls h1 h2 h3 h4 h5)
theorem g_i2s (ok : gO X cc own Ts) {x : Int32} (hd : decode cc pc = .ok (.i2s, 1))  (kk : gg X M k n (pc + 1) L (.int (x.toInt16.toInt32) :: st)) : gg X M k n pc L (.int x :: st) := by
  obtain ⟨p, l, e, R, s, m, args, below, meth, c, nL, D, tc, A, n0, ad0, Q⟩ := X
  obtain ⟨hexec, hb, hml, hown, hts, hK, hA, hlk⟩ := ok
  intro ad H locs ls h1 h2 h3 h4 h5
  exact lv_i2s hexec hb hd rfl (kk ad H locs ls h1 h2 h3 h4 h5)
theorem g_i2c (ok : gO X cc own Ts) {x : Int32} (hd : decode cc pc = .ok (.i2c, 1))  (kk : gg X M k n (pc + 1) L (.int ((x.toUInt32 % 65536).toInt32) :: st)) : gg X M k n pc L (.int x :: st) := by
  obtain ⟨p, l, e, R, s, m, args, below, meth, c, nL, D, tc, A, n0, ad0, Q⟩ := X
  obtain ⟨hexec, hb, hml, hown, hts, hK, hA, hlk⟩ := ok
  intro ad H locs ls h1 h2 h3 h4 h5
  exact lv_i2c hexec hb hd rfl (kk ad H locs ls h1 h2 h3 h4 h5)
theorem g_iushr (ok : gO X cc own Ts) {x y : Int32} (hd : decode cc pc = .ok (.iushr, 1))  (kk : gg X M k n (pc + 1) L (.int ((x.toUInt32 >>> (y.toUInt32 &&& Int32.toUInt32 31)).toInt32) :: st)) : gg X M k n pc L (.int y :: .int x :: st) := by
  obtain ⟨p, l, e, R, s, m, args, below, meth, c, nL, D, tc, A, n0, ad0, Q⟩ := X
  obtain ⟨hexec, hb, hml, hown, hts, hK, hA, hlk⟩ := ok
  intro ad H locs ls h1 h2 h3 h4 h5
  exact lv_iushr hexec hb hd rfl (kk ad H locs ls h1 h2 h3 h4 h5)
theorem g_lushr (ok : gO X cc own Ts) {x : Int64} {y : Int32} (hd : decode cc pc = .ok (.lushr, 1))  (kk : gg X M k n (pc + 1) L (.long ((x.toUInt64 >>> (y.toInt64.toUInt64 &&& Int64.toUInt64 63)).toInt64) :: st)) : gg X M k n pc L (.int y :: .long x :: st) := by
  obtain ⟨p, l, e, R, s, m, args, below, meth, c, nL, D, tc, A, n0, ad0, Q⟩ := X
  obtain ⟨hexec, hb, hml, hown, hts, hK, hA, hlk⟩ := ok
  intro ad H locs ls h1 h2 h3 h4 h5
  exact lv_lushr hexec hb hd rfl (kk ad H locs ls h1 h2 h3 h4 h5)
theorem g_lshl (ok : gO X cc own Ts) {x : Int64} {y : Int32} (hd : decode cc pc = .ok (.lshl, 1))  (kk : gg X M k n (pc + 1) L (.long (x <<< (y.toInt64 &&& 63)) :: st)) : gg X M k n pc L (.int y :: .long x :: st) := by
  obtain ⟨p, l, e, R, s, m, args, below, meth, c, nL, D, tc, A, n0, ad0, Q⟩ := X
  obtain ⟨hexec, hb, hml, hown, hts, hK, hA, hlk⟩ := ok
  intro ad H locs ls h1 h2 h3 h4 h5
  exact lv_lshl hexec hb hd rfl (kk ad H locs ls h1 h2 h3 h4 h5)
theorem g_lshr (ok : gO X cc own Ts) {x : Int64} {y : Int32} (hd : decode cc pc = .ok (.lshr, 1))  (kk : gg X M k n (pc + 1) L (.long (x >>> (y.toInt64 &&& 63)) :: st)) : gg X M k n pc L (.int y :: .long x :: st) := by
  obtain ⟨p, l, e, R, s, m, args, below, meth, c, nL, D, tc, A, n0, ad0, Q⟩ := X
  obtain ⟨hexec, hb, hml, hown, hts, hK, hA, hlk⟩ := ok
  intro ad H locs ls h1 h2 h3 h4 h5
  exact lv_lshr hexec hb hd rfl (kk ad H locs ls h1 h2 h3 h4 h5)
theorem g_dup (ok : gO X cc own Ts) {va : Value} (hd : decode cc pc = .ok (.dup, 1)) (hva : va.category = 1) (kk : gg X M k n (pc + 1) L (va :: va :: st)) : gg X M k n pc L (va :: st) := by
  obtain ⟨p, l, e, R, s, m, args, below, meth, c, nL, D, tc, A, n0, ad0, Q⟩ := X
  obtain ⟨hexec, hb, hml, hown, hts, hK, hA, hlk⟩ := ok
  intro ad H locs ls h1 h2 h3 h4 h5
  exact lv_dup hexec hb hd ((mc_v_cat ad _).trans hva) (kk ad H locs ls h1 h2 h3 h4 h5)
theorem g_pop (ok : gO X cc own Ts) {va : Value} (hd : decode cc pc = .ok (.pop, 1)) (hva : va.category = 1) (kk : gg X M k n (pc + 1) L (st)) : gg X M k n pc L (va :: st) := by
  obtain ⟨p, l, e, R, s, m, args, below, meth, c, nL, D, tc, A, n0, ad0, Q⟩ := X
  obtain ⟨hexec, hb, hml, hown, hts, hK, hA, hlk⟩ := ok
  intro ad H locs ls h1 h2 h3 h4 h5
  exact lv_pop hexec hb hd ((mc_v_cat ad _).trans hva) (kk ad H locs ls h1 h2 h3 h4 h5)
theorem g_dup_x1 (ok : gO X cc own Ts) {va vb : Value} (hd : decode cc pc = .ok (.dup_x1, 1)) (hva : va.category = 1) (hvb : vb.category = 1) (kk : gg X M k n (pc + 1) L (va :: vb :: va :: st)) : gg X M k n pc L (va :: vb :: st) := by
  obtain ⟨p, l, e, R, s, m, args, below, meth, c, nL, D, tc, A, n0, ad0, Q⟩ := X
  obtain ⟨hexec, hb, hml, hown, hts, hK, hA, hlk⟩ := ok
  intro ad H locs ls h1 h2 h3 h4 h5
  exact lv_dup_x1 hexec hb hd ((mc_v_cat ad _).trans hva) ((mc_v_cat ad _).trans hvb) (kk ad H locs ls h1 h2 h3 h4 h5)
theorem g_dup_x2 (ok : gO X cc own Ts) {va vb vd : Value} (hd : decode cc pc = .ok (.dup_x2, 1)) (hva : va.category = 1) (hvb : vb.category = 1) (hvd : vd.category = 1) (kk : gg X M k n (pc + 1) L (va :: vb :: vd :: va :: st)) : gg X M k n pc L (va :: vb :: vd :: st) := by
  obtain ⟨p, l, e, R, s, m, args, below, meth, c, nL, D, tc, A, n0, ad0, Q⟩ := X
  obtain ⟨hexec, hb, hml, hown, hts, hK, hA, hlk⟩ := ok
  intro ad H locs ls h1 h2 h3 h4 h5
  exact lv_dup_x2 hexec hb hd ((mc_v_cat ad _).trans hva) ((mc_v_cat ad _).trans hvb) ((mc_v_cat ad _).trans hvd) (kk ad H locs ls h1 h2 h3 h4 h5)
theorem g_dup2_11 (ok : gO X cc own Ts) {va vb : Value} (hd : decode cc pc = .ok (.dup2, 1)) (hva : va.category = 1) (hvb : vb.category = 1) (kk : gg X M k n (pc + 1) L (va :: vb :: va :: vb :: st)) : gg X M k n pc L (va :: vb :: st) := by
  obtain ⟨p, l, e, R, s, m, args, below, meth, c, nL, D, tc, A, n0, ad0, Q⟩ := X
  obtain ⟨hexec, hb, hml, hown, hts, hK, hA, hlk⟩ := ok
  intro ad H locs ls h1 h2 h3 h4 h5
  exact lv_dup2_11 hexec hb hd ((mc_v_cat ad _).trans hva) ((mc_v_cat ad _).trans hvb) (kk ad H locs ls h1 h2 h3 h4 h5)
theorem g_dup2_2 (ok : gO X cc own Ts) {va : Value} (hd : decode cc pc = .ok (.dup2, 1)) (hva : va.category = 2) (kk : gg X M k n (pc + 1) L (va :: va :: st)) : gg X M k n pc L (va :: st) := by
  obtain ⟨p, l, e, R, s, m, args, below, meth, c, nL, D, tc, A, n0, ad0, Q⟩ := X
  obtain ⟨hexec, hb, hml, hown, hts, hK, hA, hlk⟩ := ok
  intro ad H locs ls h1 h2 h3 h4 h5
  exact lv_dup2_2 hexec hb hd ((mc_v_cat ad _).trans hva) (kk ad H locs ls h1 h2 h3 h4 h5)
theorem g_pop2_2 (ok : gO X cc own Ts) {va : Value} (hd : decode cc pc = .ok (.pop2, 1)) (hva : va.category = 2) (kk : gg X M k n (pc + 1) L (st)) : gg X M k n pc L (va :: st) := by
  obtain ⟨p, l, e, R, s, m, args, below, meth, c, nL, D, tc, A, n0, ad0, Q⟩ := X
  obtain ⟨hexec, hb, hml, hown, hts, hK, hA, hlk⟩ := ok
  intro ad H locs ls h1 h2 h3 h4 h5
  exact lv_pop2_2 hexec hb hd ((mc_v_cat ad _).trans hva) (kk ad H locs ls h1 h2 h3 h4 h5)
theorem g_dup2_x1_2 (ok : gO X cc own Ts) {va vb : Value} (hd : decode cc pc = .ok (.dup2_x1, 1)) (hva : va.category = 2) (hvb : vb.category = 1) (kk : gg X M k n (pc + 1) L (va :: vb :: va :: st)) : gg X M k n pc L (va :: vb :: st) := by
  obtain ⟨p, l, e, R, s, m, args, below, meth, c, nL, D, tc, A, n0, ad0, Q⟩ := X
  obtain ⟨hexec, hb, hml, hown, hts, hK, hA, hlk⟩ := ok
  intro ad H locs ls h1 h2 h3 h4 h5
  exact lv_dup2_x1_2 hexec hb hd ((mc_v_cat ad _).trans hva) ((mc_v_cat ad _).trans hvb) (kk ad H locs ls h1 h2 h3 h4 h5)
theorem g_dup2_x2_2 (ok : gO X cc own Ts) {va vb vd : Value} (hd : decode cc pc = .ok (.dup2_x2, 1)) (hva : va.category = 2) (hvb : vb.category = 1) (hvd : vd.category = 1) (kk : gg X M k n (pc + 1) L (va :: vb :: vd :: va :: st)) : gg X M k n pc L (va :: vb :: vd :: st) := by
  obtain ⟨p, l, e, R, s, m, args, below, meth, c, nL, D, tc, A, n0, ad0, Q⟩ := X
  obtain ⟨hexec, hb, hml, hown, hts, hK, hA, hlk⟩ := ok
  intro ad H locs ls h1 h2 h3 h4 h5
  exact lv_dup2_x2_2 hexec hb hd ((mc_v_cat ad _).trans hva) ((mc_v_cat ad _).trans hvb) ((mc_v_cat ad _).trans hvd) (kk ad H locs ls h1 h2 h3 h4 h5)
theorem g_if_eq (ok : gO X cc own Ts) {x : Int32} {off : Int} {tgt : Nat} (hd : decode cc pc = .ok (.ifCond .eq off, 3)) (ht : (pc : Int) + off = (tgt : Int)) (kt : x = 0 → gg X M k n tgt L st) (kf : ¬ x = 0 → gg X M k n (pc + 3) L st) : gg X M k n pc L (.int x :: st) := by
  obtain ⟨p, l, e, R, s, m, args, below, meth, c, nL, D, tc, A, n0, ad0, Q⟩ := X
  obtain ⟨hexec, hb, hml, hown, hts, hK, hA, hlk⟩ := ok
  intro ad H locs ls h1 h2 h3 h4 h5
  exact lv_if_eq hexec hb hd ht (fun z => kt z ad H locs ls h1 h2 h3 h4 h5) (fun z => kf z ad H locs ls h1 h2 h3 h4 h5)
theorem g_icmp_eq (ok : gO X cc own Ts) {x y : Int32} {off : Int} {tgt : Nat} (hd : decode cc pc = .ok (.if_icmp .eq off, 3)) (ht : (pc : Int) + off = (tgt : Int)) (kt : x = y → gg X M k n tgt L st) (kf : ¬ x = y → gg X M k n (pc + 3) L st) : gg X M k n pc L (.int y :: .int x :: st) := by
  obtain ⟨p, l, e, R, s, m, args, below, meth, c, nL, D, tc, A, n0, ad0, Q⟩ := X
  obtain ⟨hexec, hb, hml, hown, hts, hK, hA, hlk⟩ := ok
  intro ad H locs ls h1 h2 h3 h4 h5
  exact lv_icmp_eq hexec hb hd ht (fun z => kt z ad H locs ls h1 h2 h3 h4 h5) (fun z => kf z ad H locs ls h1 h2 h3 h4 h5)
theorem g_if_ne (ok : gO X cc own Ts) {x : Int32} {off : Int} {tgt : Nat} (hd : decode cc pc = .ok (.ifCond .ne off, 3)) (ht : (pc : Int) + off = (tgt : Int)) (kt : ¬ x = 0 → gg X M k n tgt L st) (kf : x = 0 → gg X M k n (pc + 3) L st) : gg X M k n pc L (.int x :: st) := by
  obtain ⟨p, l, e, R, s, m, args, below, meth, c, nL, D, tc, A, n0, ad0, Q⟩ := X
  obtain ⟨hexec, hb, hml, hown, hts, hK, hA, hlk⟩ := ok
  intro ad H locs ls h1 h2 h3 h4 h5
  exact lv_if_ne hexec hb hd ht (fun z => kt z ad H locs ls h1 h2 h3 h4 h5) (fun z => kf z ad H locs ls h1 h2 h3 h4 h5)
theorem g_icmp_ne (ok : gO X cc own Ts) {x y : Int32} {off : Int} {tgt : Nat} (hd : decode cc pc = .ok (.if_icmp .ne off, 3)) (ht : (pc : Int) + off = (tgt : Int)) (kt : ¬ x = y → gg X M k n tgt L st) (kf : x = y → gg X M k n (pc + 3) L st) : gg X M k n pc L (.int y :: .int x :: st) := by
  obtain ⟨p, l, e, R, s, m, args, below, meth, c, nL, D, tc, A, n0, ad0, Q⟩ := X
  obtain ⟨hexec, hb, hml, hown, hts, hK, hA, hlk⟩ := ok
  intro ad H locs ls h1 h2 h3 h4 h5
  exact lv_icmp_ne hexec hb hd ht (fun z => kt z ad H locs ls h1 h2 h3 h4 h5) (fun z => kf z ad H locs ls h1 h2 h3 h4 h5)
theorem g_if_lt (ok : gO X cc own Ts) {x : Int32} {off : Int} {tgt : Nat} (hd : decode cc pc = .ok (.ifCond .lt off, 3)) (ht : (pc : Int) + off = (tgt : Int)) (kt : x < 0 → gg X M k n tgt L st) (kf : ¬ x < 0 → gg X M k n (pc + 3) L st) : gg X M k n pc L (.int x :: st) := by
  obtain ⟨p, l, e, R, s, m, args, below, meth, c, nL, D, tc, A, n0, ad0, Q⟩ := X
  obtain ⟨hexec, hb, hml, hown, hts, hK, hA, hlk⟩ := ok
  intro ad H locs ls h1 h2 h3 h4 h5
  exact lv_if_lt hexec hb hd ht (fun z => kt z ad H locs ls h1 h2 h3 h4 h5) (fun z => kf z ad H locs ls h1 h2 h3 h4 h5)
theorem g_icmp_lt (ok : gO X cc own Ts) {x y : Int32} {off : Int} {tgt : Nat} (hd : decode cc pc = .ok (.if_icmp .lt off, 3)) (ht : (pc : Int) + off = (tgt : Int)) (kt : x < y → gg X M k n tgt L st) (kf : ¬ x < y → gg X M k n (pc + 3) L st) : gg X M k n pc L (.int y :: .int x :: st) := by
  obtain ⟨p, l, e, R, s, m, args, below, meth, c, nL, D, tc, A, n0, ad0, Q⟩ := X
  obtain ⟨hexec, hb, hml, hown, hts, hK, hA, hlk⟩ := ok
  intro ad H locs ls h1 h2 h3 h4 h5
  exact lv_icmp_lt hexec hb hd ht (fun z => kt z ad H locs ls h1 h2 h3 h4 h5) (fun z => kf z ad H locs ls h1 h2 h3 h4 h5)
theorem g_if_ge (ok : gO X cc own Ts) {x : Int32} {off : Int} {tgt : Nat} (hd : decode cc pc = .ok (.ifCond .ge off, 3)) (ht : (pc : Int) + off = (tgt : Int)) (kt : 0 ≤ x → gg X M k n tgt L st) (kf : ¬ 0 ≤ x → gg X M k n (pc + 3) L st) : gg X M k n pc L (.int x :: st) := by
  obtain ⟨p, l, e, R, s, m, args, below, meth, c, nL, D, tc, A, n0, ad0, Q⟩ := X
  obtain ⟨hexec, hb, hml, hown, hts, hK, hA, hlk⟩ := ok
  intro ad H locs ls h1 h2 h3 h4 h5
  exact lv_if_ge hexec hb hd ht (fun z => kt z ad H locs ls h1 h2 h3 h4 h5) (fun z => kf z ad H locs ls h1 h2 h3 h4 h5)
theorem g_icmp_ge (ok : gO X cc own Ts) {x y : Int32} {off : Int} {tgt : Nat} (hd : decode cc pc = .ok (.if_icmp .ge off, 3)) (ht : (pc : Int) + off = (tgt : Int)) (kt : y ≤ x → gg X M k n tgt L st) (kf : ¬ y ≤ x → gg X M k n (pc + 3) L st) : gg X M k n pc L (.int y :: .int x :: st) := by
  obtain ⟨p, l, e, R, s, m, args, below, meth, c, nL, D, tc, A, n0, ad0, Q⟩ := X
  obtain ⟨hexec, hb, hml, hown, hts, hK, hA, hlk⟩ := ok
  intro ad H locs ls h1 h2 h3 h4 h5
  exact lv_icmp_ge hexec hb hd ht (fun z => kt z ad H locs ls h1 h2 h3 h4 h5) (fun z => kf z ad H locs ls h1 h2 h3 h4 h5)
theorem g_if_gt (ok : gO X cc own Ts) {x : Int32} {off : Int} {tgt : Nat} (hd : decode cc pc = .ok (.ifCond .gt off, 3)) (ht : (pc : Int) + off = (tgt : Int)) (kt : 0 < x → gg X M k n tgt L st) (kf : ¬ 0 < x → gg X M k n (pc + 3) L st) : gg X M k n pc L (.int x :: st) := by
  obtain ⟨p, l, e, R, s, m, args, below, meth, c, nL, D, tc, A, n0, ad0, Q⟩ := X
  obtain ⟨hexec, hb, hml, hown, hts, hK, hA, hlk⟩ := ok
  intro ad H locs ls h1 h2 h3 h4 h5
  exact lv_if_gt hexec hb hd ht (fun z => kt z ad H locs ls h1 h2 h3 h4 h5) (fun z => kf z ad H locs ls h1 h2 h3 h4 h5)
theorem g_icmp_gt (ok : gO X cc own Ts) {x y : Int32} {off : Int} {tgt : Nat} (hd : decode cc pc = .ok (.if_icmp .gt off, 3)) (ht : (pc : Int) + off = (tgt : Int)) (kt : y < x → gg X M k n tgt L st) (kf : ¬ y < x → gg X M k n (pc + 3) L st) : gg X M k n pc L (.int y :: .int x :: st) := by
  obtain ⟨p, l, e, R, s, m, args, below, meth, c, nL, D, tc, A, n0, ad0, Q⟩ := X
  obtain ⟨hexec, hb, hml, hown, hts, hK, hA, hlk⟩ := ok
  intro ad H locs ls h1 h2 h3 h4 h5
  exact lv_icmp_gt hexec hb hd ht (fun z => kt z ad H locs ls h1 h2 h3 h4 h5) (fun z => kf z ad H locs ls h1 h2 h3 h4 h5)
theorem g_if_le (ok : gO X cc own Ts) {x : Int32} {off : Int} {tgt : Nat} (hd : decode cc pc = .ok (.ifCond .le off, 3)) (ht : (pc : Int) + off = (tgt : Int)) (kt : x ≤ 0 → gg X M k n tgt L st) (kf : ¬ x ≤ 0 → gg X M k n (pc + 3) L st) : gg X M k n pc L (.int x :: st) := by
  obtain ⟨p, l, e, R, s, m, args, below, meth, c, nL, D, tc, A, n0, ad0, Q⟩ := X
  obtain ⟨hexec, hb, hml, hown, hts, hK, hA, hlk⟩ := ok
  intro ad H locs ls h1 h2 h3 h4 h5
  exact lv_if_le hexec hb hd ht (fun z => kt z ad H locs ls h1 h2 h3 h4 h5) (fun z => kf z ad H locs ls h1 h2 h3 h4 h5)
theorem g_icmp_le (ok : gO X cc own Ts) {x y : Int32} {off : Int} {tgt : Nat} (hd : decode cc pc = .ok (.if_icmp .le off, 3)) (ht : (pc : Int) + off = (tgt : Int)) (kt : x ≤ y → gg X M k n tgt L st) (kf : ¬ x ≤ y → gg X M k n (pc + 3) L st) : gg X M k n pc L (.int y :: .int x :: st) := by
  obtain ⟨p, l, e, R, s, m, args, below, meth, c, nL, D, tc, A, n0, ad0, Q⟩ := X
  obtain ⟨hexec, hb, hml, hown, hts, hK, hA, hlk⟩ := ok
  intro ad H locs ls h1 h2 h3 h4 h5
  exact lv_icmp_le hexec hb hd ht (fun z => kt z ad H locs ls h1 h2 h3 h4 h5) (fun z => kf z ad H locs ls h1 h2 h3 h4 h5)
theorem g_goto (ok : gO X cc own Ts) {off : Int} {tgt : Nat} (hd : decode cc pc = .ok (.goto off, 3)) (ht : (pc : Int) + off = (tgt : Int)) (kk : gg X M k n tgt L st) : gg X M k n pc L st := by
  obtain ⟨p, l, e, R, s, m, args, below, meth, c, nL, D, tc, A, n0, ad0, Q⟩ := X
  obtain ⟨hexec, hb, hml, hown, hts, hK, hA, hlk⟩ := ok
  intro ad H locs ls h1 h2 h3 h4 h5
  exact lv_goto hexec hb hd ht (kk ad H locs ls h1 h2 h3 h4 h5)
theorem g_lcmp (ok : gO X cc own Ts) {x y : Int64} (hd : decode cc pc = .ok (.lcmp, 1)) (kk : gg X M k n (pc + 1) L (.int (lg_cmp x y) :: st)) : gg X M k n pc L (.long y :: .long x :: st) := by
  obtain ⟨p, l, e, R, s, m, args, below, meth, c, nL, D, tc, A, n0, ad0, Q⟩ := X
  obtain ⟨hexec, hb, hml, hown, hts, hK, hA, hlk⟩ := ok
  intro ad H locs ls h1 h2 h3 h4 h5
  exact W.lcmp hexec hb hd (kk ad H locs ls h1 h2 h3 h4 h5)
theorem g_ldc (ok : gO X cc own Ts) {i : Nat} {v : Int32} (hw : Cond.constant own i v ∈ Ts) (hd : decode cc pc = .ok (.ldc i, 2)) (kk : gg X M k n (pc + 2) L (.int v :: st)) : gg X M k n pc L st := by
  obtain ⟨p, l, e, R, s, m, args, below, meth, c, nL, D, tc, A, n0, ad0, Q⟩ := X
  obtain ⟨hexec, hb, hml, hown, hts, hK, hA, hlk⟩ := ok
  intro ad H locs ls h1 h2 h3 h4 h5
  exact W.ldc hexec hb hown (hts _ hw) rfl hd (kk ad H locs ls h1 h2 h3 h4 h5)
theorem g_ldc2 (ok : gO X cc own Ts) {i : Nat} {v : Int64} (hw : Cond.constantLong own i v ∈ Ts) (hd : decode cc pc = .ok (.ldc2_w i, 3)) (kk : gg X M k n (pc + 3) L (.long v :: st)) : gg X M k n pc L st := by
  obtain ⟨p, l, e, R, s, m, args, below, meth, c, nL, D, tc, A, n0, ad0, Q⟩ := X
  obtain ⟨hexec, hb, hml, hown, hts, hK, hA, hlk⟩ := ok
  intro ad H locs ls h1 h2 h3 h4 h5
  exact W.ldc2 hexec hb hown (hts _ hw) rfl hd (kk ad H locs ls h1 h2 h3 h4 h5)
theorem g_lookup (ok : gO X cc own Ts) {dflt : Int} {ps : Array (Int × Int)} {len : Nat} {x : Int32} {off : Int} {tgt : Nat} (hd : decode cc pc = .ok (.lookupswitch dflt ps, len)) (hp : (ps.toList.zip (ps.toList.drop 1)).all (fun (a, next) => a.1 < next.1) = true) (ho : Op.lookupswitch.offset ps.toList dflt x.toInt = off) (ht : (pc : Int) + off = (tgt : Int)) (kk : gg X M k n tgt L st) : gg X M k n pc L (.int x :: st) := by
  obtain ⟨p, l, e, R, s, m, args, below, meth, c, nL, D, tc, A, n0, ad0, Q⟩ := X
  obtain ⟨hexec, hb, hml, hown, hts, hK, hA, hlk⟩ := ok
  intro ad H locs ls h1 h2 h3 h4 h5
  exact lv_lookup hexec hb hd hp ho ht (kk ad H locs ls h1 h2 h3 h4 h5)
theorem g_tableOut (ok : gO X cc own Ts) {dflt lo hi : Int} {offs : Array Int} {len : Nat} {x : Int32} {tgt : Nat} (hd : decode cc pc = .ok (.tableswitch dflt lo hi offs, len)) (h : x.toInt < lo ∨ hi < x.toInt) (ht : (pc : Int) + dflt = (tgt : Int)) (kk : gg X M k n tgt L st) : gg X M k n pc L (.int x :: st) := by
  obtain ⟨p, l, e, R, s, m, args, below, meth, c, nL, D, tc, A, n0, ad0, Q⟩ := X
  obtain ⟨hexec, hb, hml, hown, hts, hK, hA, hlk⟩ := ok
  intro ad H locs ls h1 h2 h3 h4 h5
  exact lv_tableOut hexec hb hd h ht (kk ad H locs ls h1 h2 h3 h4 h5)
theorem g_tableIn (ok : gO X cc own Ts) {dflt lo hi : Int} {offs : Array Int} {len : Nat} {x : Int32} {off : Int} {tgt : Nat} (hd : decode cc pc = .ok (.tableswitch dflt lo hi offs, len)) (q1 : ¬ x.toInt < lo) (q2 : ¬ hi < x.toInt) (ho : offs[(x.toInt - lo).toNat]? = some off) (ht : (pc : Int) + off = (tgt : Int)) (kk : gg X M k n tgt L st) : gg X M k n pc L (.int x :: st) := by
  obtain ⟨p, l, e, R, s, m, args, below, meth, c, nL, D, tc, A, n0, ad0, Q⟩ := X
  obtain ⟨hexec, hb, hml, hown, hts, hK, hA, hlk⟩ := ok
  intro ad H locs ls h1 h2 h3 h4 h5
  exact lv_tableIn hexec hb hd q1 q2 ho ht (kk ad H locs ls h1 h2 h3 h4 h5)
end GG
