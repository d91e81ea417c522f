theorem g_ag.set {n0 : Nat} {ad0 : Nat → Nat} {M : List mC} {ad : Nat → Nat} {o : Nat} {c : mC} (h : g_ag n0 ad0 M ad) : g_ag n0 ad0 (M.set o c) ad := by
  unfold g_ag at h ⊢
  rw [List.length_set]
  exact h
section GH
variable {X : gC} {cc : ByteArray} {own : String} {Ts : List Cond} {M : List mC} {k n pc : Nat} {L : List (Nat × Value)} {st : List Value}
theorem g_get (ok : gO X cc own Ts) {ref C : String} {T : u_T} {N ci index f o : Nat} {fs : List Value} {v : Value} (hin : ∀ w ∈ u_ws C T N, w ∈ Ts) (hc : vwCl[ci]? = some (C, T, N)) (hf : f < N) (hlink : Cond.fieldLink own index ref (T f).2.1 (T f).2.2.1 ∈ Ts) (href : (T f).1 = ref) (hd : decode cc pc = .ok (.getfield index, 3)) (he : M[o]? = some (.inr (ci, fs))) (hv : fs[f]? = some v) (kk : gg X M k n (pc + 3) L (v :: st)) : gg X M k n pc L (.ref o :: st) := by
  obtain ⟨p, l, e, R, s, m, args, below, meth, c, nL, D, tc, A, n0, ad0, Q⟩ := X
  obtain ⟨hexec, hb, hml, hown, hts, hK, hA, hlk⟩ := ok
  intro ad H locs ls h1 h2 h3 h4 h5
  exact va_get hexec hb hts hin hown hK h2 o (mc_at he) hc f hf (hts _ hlink) (fun _ z => by rw [← href]; exact z) (by rw [List.getElem?_map, hv]; rfl) hd (kk ad H locs ls h1 h2 h3 h4 h5)
theorem g_getN (ok : gO X cc own Ts) {host : String} {ref C : String} {T : u_T} {N ci index f o : Nat} {fs : List Value} {v : Value} (hin : ∀ w ∈ u_ws C T N, w ∈ Ts) (hc : vwCl[ci]? = some (C, T, N)) (hf : f < N) (hlink : Cond.fieldLinkNest own index ref (T f).2.1 (T f).2.2.1 host ∈ yT) (href : (T f).1 = ref) (hd : decode cc pc = .ok (.getfield index, 3)) (he : M[o]? = some (.inr (ci, fs))) (hv : fs[f]? = some v) (kk : gg X M k n (pc + 3) L (v :: st)) : gg X M k n pc L (.ref o :: st) := by
  obtain ⟨p, l, e, R, s, m, args, below, meth, c, nL, D, tc, A, n0, ad0, Q⟩ := X
  obtain ⟨hexec, hb, hml, hown, hts, hK, hA, hlk⟩ := ok
  intro ad H locs ls h1 h2 h3 h4 h5
  exact va_getN hexec hb hts hin hown hK h2 o (mc_at he) hc f hf (hlk.2.use args _ hlink) (fun _ z => by rw [← href]; exact z) (by rw [List.getElem?_map, hv]; rfl) hd (kk ad H locs ls h1 h2 h3 h4 h5)
theorem g_put (ok : gO X cc own Ts) {ref C : String} {T : u_T} {N ci index f o : Nat} {fs : List Value} {v : Value} {ty : FieldType} (hin : ∀ w ∈ u_ws C T N, w ∈ Ts) (ty0 : Nat → FieldType) (hty : ∀ k, k < N → parseFieldDescriptor (T k).2.2.1 = some (ty0 k)) (hnm : ∀ a, a < N → ∀ b, b < N → a ≠ b → (T a).2.1 ≠ (T b).2.1) (hc : vwCl[ci]? = some (C, T, N)) (hf : f < N) (hlink : Cond.fieldLink own index ref (T f).2.1 (T f).2.2.1 ∈ Ts) (href : (T f).1 = ref) (hfin : (T f).2.2.2 = false) (hds : parseFieldDescriptor (T f).2.2.1 = some ty) (hd : decode cc pc = .ok (.putfield index, 3)) (he : M[o]? = some (.inr (ci, fs))) (hl : f < fs.length) (hn : ∀ ad : Nat → Nat, narrow ty (mc_v ad v) = mc_v ad v ∧ fits ty (mc_v ad v) = true) (kk : gg X (M.set o (.inr (ci, fs.set f v))) k n (pc + 3) L st) : gg X M k n pc L (v :: .ref o :: st) := by
  obtain ⟨p, l, e, R, s, m, args, below, meth, c, nL, D, tc, A, n0, ad0, Q⟩ := X
  obtain ⟨hexec, hb, hml, hown, hts, hK, hA, hlk⟩ := ok
  intro ad H locs ls h1 h2 h3 h4 h5
  refine va_put hexec hb hts hin ty0 hty hnm hown hK h2 h3 h4 o (mc_at he) hc f hf (hts _ hlink) (fun _ z => by rw [← href]; exact z) hfin hds (hn ad).1 (hn ad).2 (by rw [List.length_map]; exact hl) hd (fun H1 locs1 q1 q2 q3 => ?_)
  have e0 : (mc_w tc ad M).set o (ad o, .inr (ci, (fs.map (mc_v ad)).set f (mc_v ad v))) = mc_w tc ad (M.set o (.inr (ci, fs.set f v))) := by
    rw [mc_set]
    show _ = (mc_w tc ad M).set o (ad o, .inr (ci, (fs.set f v).map (mc_v ad)))
    rw [List.map_set]
  rw [e0] at q1 q2
  exact kk ad H1 locs1 ls h1.set q1 q2 q3 h5
theorem g_putN (ok : gO X cc own Ts) {host : String} {ref C : String} {T : u_T} {N ci index f o : Nat} {fs : List Value} {v : Value} {ty : FieldType} (hin : ∀ w ∈ u_ws C T N, w ∈ Ts) (ty0 : Nat → FieldType) (hty : ∀ k, k < N → parseFieldDescriptor (T k).2.2.1 = some (ty0 k)) (hnm : ∀ a, a < N → ∀ b, b < N → a ≠ b → (T a).2.1 ≠ (T b).2.1) (hc : vwCl[ci]? = some (C, T, N)) (hf : f < N) (hlink : Cond.fieldLinkNest own index ref (T f).2.1 (T f).2.2.1 host ∈ yT) (href : (T f).1 = ref) (hfin : (T f).2.2.2 = false) (hds : parseFieldDescriptor (T f).2.2.1 = some ty) (hd : decode cc pc = .ok (.putfield index, 3)) (he : M[o]? = some (.inr (ci, fs))) (hl : f < fs.length) (hn : ∀ ad : Nat → Nat, narrow ty (mc_v ad v) = mc_v ad v ∧ fits ty (mc_v ad v) = true) (kk : gg X (M.set o (.inr (ci, fs.set f v))) k n (pc + 3) L st) : gg X M k n pc L (v :: .ref o :: st) := by
  obtain ⟨p, l, e, R, s, m, args, below, meth, c, nL, D, tc, A, n0, ad0, Q⟩ := X
  obtain ⟨hexec, hb, hml, hown, hts, hK, hA, hlk⟩ := ok
  intro ad H locs ls h1 h2 h3 h4 h5
  refine va_putN hexec hb hts hin ty0 hty hnm hown hK h2 h3 h4 o (mc_at he) hc f hf (hlk.2.use args _ hlink) (fun _ z => by rw [← href]; exact z) hfin hds (hn ad).1 (hn ad).2 (by rw [List.length_map]; exact hl) hd (fun H1 locs1 q1 q2 q3 => ?_)
  have e0 : (mc_w tc ad M).set o (ad o, .inr (ci, (fs.map (mc_v ad)).set f (mc_v ad v))) = mc_w tc ad (M.set o (.inr (ci, fs.set f v))) := by
    rw [mc_set]
    show _ = (mc_w tc ad M).set o (ad o, .inr (ci, (fs.set f v).map (mc_v ad)))
    rw [List.map_set]
  rw [e0] at q1 q2
  exact kk ad H1 locs1 ls h1.set q1 q2 q3 h5
theorem g_putF (ok : gO X cc own Ts) {ref C : String} {T : u_T} {N ci index f o : Nat} {fs : List Value} {v : Value} {ty : FieldType} (hin : ∀ w ∈ u_ws C T N, w ∈ Ts) (ty0 : Nat → FieldType) (hty : ∀ k, k < N → parseFieldDescriptor (T k).2.2.1 = some (ty0 k)) (hnm : ∀ a, a < N → ∀ b, b < N → a ≠ b → (T a).2.1 ≠ (T b).2.1) (hc : vwCl[ci]? = some (C, T, N)) (hf : f < N) (hlink : Cond.fieldLink own index ref (T f).2.1 (T f).2.2.1 ∈ Ts) (href : (T f).1 = ref) (hfin : (T f).2.2.2 = true) (hin2 : (gM X).name = "<init>") (hdecl : (T f).1 = own) (hds : parseFieldDescriptor (T f).2.2.1 = some ty) (hd : decode cc pc = .ok (.putfield index, 3)) (he : M[o]? = some (.inr (ci, fs))) (hl : f < fs.length) (hn : ∀ ad : Nat → Nat, narrow ty (mc_v ad v) = mc_v ad v ∧ fits ty (mc_v ad v) = true) (kk : gg X (M.set o (.inr (ci, fs.set f v))) k n (pc + 3) L st) : gg X M k n pc L (v :: .ref o :: st) := by
  obtain ⟨p, l, e, R, s, m, args, below, meth, c, nL, D, tc, A, n0, ad0, Q⟩ := X
  obtain ⟨hexec, hb, hml, hown, hts, hK, hA, hlk⟩ := ok
  intro ad H locs ls h1 h2 h3 h4 h5
  refine va_putF hexec hb hts hin ty0 hty hnm hown hK h2 h3 h4 o (mc_at he) hc f hf (hts _ hlink) (fun _ z => by rw [← href]; exact z) hfin hin2 hdecl hds (hn ad).1 (hn ad).2 (by rw [List.length_map]; exact hl) hd (fun H1 locs1 q1 q2 q3 => ?_)
  have e0 : (mc_w tc ad M).set o (ad o, .inr (ci, (fs.map (mc_v ad)).set f (mc_v ad v))) = mc_w tc ad (M.set o (.inr (ci, fs.set f v))) := by
    rw [mc_set]
    show _ = (mc_w tc ad M).set o (ad o, .inr (ci, (fs.set f v).map (mc_v ad)))
    rw [List.map_set]
  rw [e0] at q1 q2
  exact kk ad H1 locs1 ls h1.set q1 q2 q3 h5
theorem g_iald (ok : gO X cc own Ts) {a t N : Nat} {f : Nat → Int32} {i : Int32} (ht : mTY[t]? = some .int) (hd : decode cc pc = .ok (.iaload, 1)) (he : M[a]? = some (.inl (t, N, .inl f))) (hi : vp_in i N) (kk : gg X M k n (pc + 1) L (.int (f i.toNatClampNeg) :: st)) : gg X M k n pc L (.int i :: .ref a :: st) := by
  obtain ⟨p, l, e, R, s, m, args, below, meth, c, nL, D, tc, A, n0, ad0, Q⟩ := X
  obtain ⟨hexec, hb, hml, hown, hts, hK, hA, hlk⟩ := ok
  intro ad H locs ls h1 h2 h3 h4 h5
  exact va_iald hexec hb hK h2 a t (mc_at he) (mc_ty ht) hi hd (kk ad H locs ls h1 h2 h3 h4 h5)
theorem g_zald (ok : gO X cc own Ts) {a t N : Nat} {f : Nat → Int32} {i : Int32} (ht : mTY[t]? = some .boolean) (hd : decode cc pc = .ok (.baload, 1)) (he : M[a]? = some (.inl (t, N, .inl f))) (hi : vp_in i N) (kk : gg X M k n (pc + 1) L (.int (f i.toNatClampNeg) :: st)) : gg X M k n pc L (.int i :: .ref a :: st) := by
  obtain ⟨p, l, e, R, s, m, args, below, meth, c, nL, D, tc, A, n0, ad0, Q⟩ := X
  obtain ⟨hexec, hb, hml, hown, hts, hK, hA, hlk⟩ := ok
  intro ad H locs ls h1 h2 h3 h4 h5
  exact va_zald hexec hb hK h2 a t (mc_at he) (mc_ty ht) hi hd (kk ad H locs ls h1 h2 h3 h4 h5)
theorem g_bald (ok : gO X cc own Ts) {a t N : Nat} {f : Nat → Int32} {i : Int32} (ht : mTY[t]? = some .byte) (hd : decode cc pc = .ok (.baload, 1)) (he : M[a]? = some (.inl (t, N, .inl f))) (hi : vp_in i N) (kk : gg X M k n (pc + 1) L (.int (f i.toNatClampNeg) :: st)) : gg X M k n pc L (.int i :: .ref a :: st) := by
  obtain ⟨p, l, e, R, s, m, args, below, meth, c, nL, D, tc, A, n0, ad0, Q⟩ := X
  obtain ⟨hexec, hb, hml, hown, hts, hK, hA, hlk⟩ := ok
  intro ad H locs ls h1 h2 h3 h4 h5
  exact va_bald hexec hb hK h2 a t (mc_at he) (mc_ty ht) hi hd (kk ad H locs ls h1 h2 h3 h4 h5)
theorem g_cald (ok : gO X cc own Ts) {a t N : Nat} {f : Nat → Int32} {i : Int32} (ht : mTY[t]? = some .char) (hd : decode cc pc = .ok (.caload, 1)) (he : M[a]? = some (.inl (t, N, .inl f))) (hi : vp_in i N) (kk : gg X M k n (pc + 1) L (.int (f i.toNatClampNeg) :: st)) : gg X M k n pc L (.int i :: .ref a :: st) := by
  obtain ⟨p, l, e, R, s, m, args, below, meth, c, nL, D, tc, A, n0, ad0, Q⟩ := X
  obtain ⟨hexec, hb, hml, hown, hts, hK, hA, hlk⟩ := ok
  intro ad H locs ls h1 h2 h3 h4 h5
  exact va_cald hexec hb hK h2 a t (mc_at he) (mc_ty ht) hi hd (kk ad H locs ls h1 h2 h3 h4 h5)
theorem g_sald (ok : gO X cc own Ts) {a t N : Nat} {f : Nat → Int32} {i : Int32} (ht : mTY[t]? = some .short) (hd : decode cc pc = .ok (.saload, 1)) (he : M[a]? = some (.inl (t, N, .inl f))) (hi : vp_in i N) (kk : gg X M k n (pc + 1) L (.int (f i.toNatClampNeg) :: st)) : gg X M k n pc L (.int i :: .ref a :: st) := by
  obtain ⟨p, l, e, R, s, m, args, below, meth, c, nL, D, tc, A, n0, ad0, Q⟩ := X
  obtain ⟨hexec, hb, hml, hown, hts, hK, hA, hlk⟩ := ok
  intro ad H locs ls h1 h2 h3 h4 h5
  exact va_sald hexec hb hK h2 a t (mc_at he) (mc_ty ht) hi hd (kk ad H locs ls h1 h2 h3 h4 h5)
theorem g_lald (ok : gO X cc own Ts) {a t N : Nat} {f : Nat → Int64} {i : Int32} (ht : mTY[t]? = some .long) (hd : decode cc pc = .ok (.laload, 1)) (he : M[a]? = some (.inl (t, N, .inr (.inl f)))) (hi : vp_in i N) (kk : gg X M k n (pc + 1) L (.long (f i.toNatClampNeg) :: st)) : gg X M k n pc L (.int i :: .ref a :: st) := by
  obtain ⟨p, l, e, R, s, m, args, below, meth, c, nL, D, tc, A, n0, ad0, Q⟩ := X
  obtain ⟨hexec, hb, hml, hown, hts, hK, hA, hlk⟩ := ok
  intro ad H locs ls h1 h2 h3 h4 h5
  exact va_lald hexec hb hK h2 a t (mc_at he) (mc_ty ht) hi hd (kk ad H locs ls h1 h2 h3 h4 h5)
theorem g_aald (ok : gO X cc own Ts) {a t N o : Nat} {E : String} {f : Nat → Option Nat} {i : Int32} (ht : mTY[t]? = some (.object E)) (hd : decode cc pc = .ok (.aaload, 1)) (he : M[a]? = some (.inl (t, N, .inr (.inr (.inr (.inr f)))))) (hi : vp_in i N) (hv : f i.toNatClampNeg = some o) (kk : gg X M k n (pc + 1) L (.ref o :: st)) : gg X M k n pc L (.int i :: .ref a :: st) := by
  obtain ⟨p, l, e, R, s, m, args, below, meth, c, nL, D, tc, A, n0, ad0, Q⟩ := X
  obtain ⟨hexec, hb, hml, hown, hts, hK, hA, hlk⟩ := ok
  intro ad H locs ls h1 h2 h3 h4 h5
  refine va_aldq hexec hb hK h2 a t (mc_at he) (mc_ty ht) hi hd ?_
  rw [hv]
  exact kk ad H locs ls h1 h2 h3 h4 h5
theorem g_iast (ok : gO X cc own Ts) {a t N : Nat} {f : Nat → Int32} {i : Int32} {x : Int32} (ht : mTY[t]? = some .int) (hd : decode cc pc = .ok (.iastore, 1)) (he : M[a]? = some (.inl (t, N, .inl f))) (hi : vp_in i N) (kk : gg X (M.set a (.inl (t, N, .inl (upd f i.toNatClampNeg x)))) k n (pc + 1) L st) : gg X M k n pc L (.int x :: .int i :: .ref a :: st) := by
  obtain ⟨p, l, e, R, s, m, args, below, meth, c, nL, D, tc, A, n0, ad0, Q⟩ := X
  obtain ⟨hexec, hb, hml, hown, hts, hK, hA, hlk⟩ := ok
  intro ad H locs ls h1 h2 h3 h4 h5
  refine va_iast hexec hb hK h2 h3 h4 a t (mc_at he) (mc_ty ht) hi hd (fun H1 locs1 q1 q2 q3 => ?_)
  have e0 := (mc_set tc ad M a (.inl (t, N, .inl (upd f i.toNatClampNeg x)))).symm
  exact kk ad H1 locs1 ls h1.set (e0 ▸ q1) (e0 ▸ q2) q3 h5
theorem g_zast (ok : gO X cc own Ts) {a t N : Nat} {f : Nat → Int32} {i : Int32} {x : Int32} (ht : mTY[t]? = some .boolean) (hd : decode cc pc = .ok (.bastore, 1)) (he : M[a]? = some (.inl (t, N, .inl f))) (hi : vp_in i N) (kk : gg X (M.set a (.inl (t, N, .inl (upd f i.toNatClampNeg (vp_nar .boolean x))))) k n (pc + 1) L st) : gg X M k n pc L (.int x :: .int i :: .ref a :: st) := by
  obtain ⟨p, l, e, R, s, m, args, below, meth, c, nL, D, tc, A, n0, ad0, Q⟩ := X
  obtain ⟨hexec, hb, hml, hown, hts, hK, hA, hlk⟩ := ok
  intro ad H locs ls h1 h2 h3 h4 h5
  refine va_zast hexec hb hK h2 h3 h4 a t (mc_at he) (mc_ty ht) hi hd (fun H1 locs1 q1 q2 q3 => ?_)
  have e0 := (mc_set tc ad M a (.inl (t, N, .inl (upd f i.toNatClampNeg (vp_nar .boolean x))))).symm
  exact kk ad H1 locs1 ls h1.set (e0 ▸ q1) (e0 ▸ q2) q3 h5
theorem g_bast (ok : gO X cc own Ts) {a t N : Nat} {f : Nat → Int32} {i : Int32} {x : Int32} (ht : mTY[t]? = some .byte) (hd : decode cc pc = .ok (.bastore, 1)) (he : M[a]? = some (.inl (t, N, .inl f))) (hi : vp_in i N) (kk : gg X (M.set a (.inl (t, N, .inl (upd f i.toNatClampNeg (vp_nar .byte x))))) k n (pc + 1) L st) : gg X M k n pc L (.int x :: .int i :: .ref a :: st) := by
  obtain ⟨p, l, e, R, s, m, args, below, meth, c, nL, D, tc, A, n0, ad0, Q⟩ := X
  obtain ⟨hexec, hb, hml, hown, hts, hK, hA, hlk⟩ := ok
  intro ad H locs ls h1 h2 h3 h4 h5
  refine va_bast hexec hb hK h2 h3 h4 a t (mc_at he) (mc_ty ht) hi hd (fun H1 locs1 q1 q2 q3 => ?_)
  have e0 := (mc_set tc ad M a (.inl (t, N, .inl (upd f i.toNatClampNeg (vp_nar .byte x))))).symm
  exact kk ad H1 locs1 ls h1.set (e0 ▸ q1) (e0 ▸ q2) q3 h5
theorem g_cast (ok : gO X cc own Ts) {a t N : Nat} {f : Nat → Int32} {i : Int32} {x : Int32} (ht : mTY[t]? = some .char) (hd : decode cc pc = .ok (.castore, 1)) (he : M[a]? = some (.inl (t, N, .inl f))) (hi : vp_in i N) (kk : gg X (M.set a (.inl (t, N, .inl (upd f i.toNatClampNeg (vp_nar .char x))))) k n (pc + 1) L st) : gg X M k n pc L (.int x :: .int i :: .ref a :: st) := by
  obtain ⟨p, l, e, R, s, m, args, below, meth, c, nL, D, tc, A, n0, ad0, Q⟩ := X
  obtain ⟨hexec, hb, hml, hown, hts, hK, hA, hlk⟩ := ok
  intro ad H locs ls h1 h2 h3 h4 h5
  refine va_cast hexec hb hK h2 h3 h4 a t (mc_at he) (mc_ty ht) hi hd (fun H1 locs1 q1 q2 q3 => ?_)
  have e0 := (mc_set tc ad M a (.inl (t, N, .inl (upd f i.toNatClampNeg (vp_nar .char x))))).symm
  exact kk ad H1 locs1 ls h1.set (e0 ▸ q1) (e0 ▸ q2) q3 h5
theorem g_sast (ok : gO X cc own Ts) {a t N : Nat} {f : Nat → Int32} {i : Int32} {x : Int32} (ht : mTY[t]? = some .short) (hd : decode cc pc = .ok (.sastore, 1)) (he : M[a]? = some (.inl (t, N, .inl f))) (hi : vp_in i N) (kk : gg X (M.set a (.inl (t, N, .inl (upd f i.toNatClampNeg (vp_nar .short x))))) k n (pc + 1) L st) : gg X M k n pc L (.int x :: .int i :: .ref a :: st) := by
  obtain ⟨p, l, e, R, s, m, args, below, meth, c, nL, D, tc, A, n0, ad0, Q⟩ := X
  obtain ⟨hexec, hb, hml, hown, hts, hK, hA, hlk⟩ := ok
  intro ad H locs ls h1 h2 h3 h4 h5
  refine va_sast hexec hb hK h2 h3 h4 a t (mc_at he) (mc_ty ht) hi hd (fun H1 locs1 q1 q2 q3 => ?_)
  have e0 := (mc_set tc ad M a (.inl (t, N, .inl (upd f i.toNatClampNeg (vp_nar .short x))))).symm
  exact kk ad H1 locs1 ls h1.set (e0 ▸ q1) (e0 ▸ q2) q3 h5
theorem g_last (ok : gO X cc own Ts) {a t N : Nat} {f : Nat → Int64} {i : Int32} {x : Int64} (ht : mTY[t]? = some .long) (hd : decode cc pc = .ok (.lastore, 1)) (he : M[a]? = some (.inl (t, N, .inr (.inl f)))) (hi : vp_in i N) (kk : gg X (M.set a (.inl (t, N, .inr (.inl (vp_updL f i.toNatClampNeg x))))) k n (pc + 1) L st) : gg X M k n pc L (.long x :: .int i :: .ref a :: st) := by
  obtain ⟨p, l, e, R, s, m, args, below, meth, c, nL, D, tc, A, n0, ad0, Q⟩ := X
  obtain ⟨hexec, hb, hml, hown, hts, hK, hA, hlk⟩ := ok
  intro ad H locs ls h1 h2 h3 h4 h5
  refine va_last hexec hb hK h2 h3 h4 a t (mc_at he) (mc_ty ht) hi hd (fun H1 locs1 q1 q2 q3 => ?_)
  have e0 := (mc_set tc ad M a (.inl (t, N, .inr (.inl (vp_updL f i.toNatClampNeg x))))).symm
  exact kk ad H1 locs1 ls h1.set (e0 ▸ q1) (e0 ▸ q2) q3 h5
theorem g_aast (ok : gO X cc own Ts) {a t N ci o : Nat} {r : vw_C} {vs : List Value} {f : Nat → Option Nat} {i : Int32} (ht : mTY[t]? = some (.object r.1)) (hc : vwCl[ci]? = some r) (hd : decode cc pc = .ok (.aastore, 1)) (he : M[a]? = some (.inl (t, N, .inr (.inr (.inr (.inr f)))))) (hv : M[o]? = some (.inr (ci, vs))) (hi : vp_in i N) (kk : gg X (M.set a (.inl (t, N, .inr (.inr (.inr (.inr (va_up f i.toNatClampNeg (some o)))))))) k n (pc + 1) L st) : gg X M k n pc L (.ref o :: .int i :: .ref a :: st) := by
  obtain ⟨p, l, e, R, s, m, args, below, meth, c, nL, D, tc, A, n0, ad0, Q⟩ := X
  obtain ⟨hexec, hb, hml, hown, hts, hK, hA, hlk⟩ := ok
  intro ad H locs ls h1 h2 h3 h4 h5
  refine va_astq hexec hb hK h2 h3 h4 a t o ci (mc_at he) (mc_ty ht) (mc_at hv) hc hi hd (fun H1 locs1 q1 q2 q3 => ?_)
  have e1 : (va_up (fun j => (f j).map ad) i.toNatClampNeg (some (ad o))) = (fun j => (va_up f i.toNatClampNeg (some o) j).map ad) := by
    funext j
    unfold va_up
    split <;> rfl
  have e0 : (mc_w tc ad M).set a (ad a, .inl (tc t, N, .inr (.inr (.inr (.inr (va_up (fun j => (f j).map ad) i.toNatClampNeg (some (ad o)))))))) = mc_w tc ad (M.set a (.inl (t, N, .inr (.inr (.inr (.inr (va_up f i.toNatClampNeg (some o)))))))) := by
    rw [mc_set, e1]
    rfl
  rw [e0] at q1 q2
  exact kk ad H1 locs1 ls h1.set q1 q2 q3 h5
theorem g_alen (ok : gO X cc own Ts) {a t : Nat} {ty : FieldType} {x : vp_A} {v : Int32} (ht : mTY[t]? = some ty) (hd : decode cc pc = .ok (.arraylength, 1)) (he : M[a]? = some (.inl (t, x))) (hv : Int32.ofNat x.1 = v) (kk : gg X M k n (pc + 1) L (.int v :: st)) : gg X M k n pc L (.ref a :: st) := by
  obtain ⟨p, l, e, R, s, m, args, below, meth, c, nL, D, tc, A, n0, ad0, Q⟩ := X
  obtain ⟨hexec, hb, hml, hown, hts, hK, hA, hlk⟩ := ok
  intro ad H locs ls h1 h2 h3 h4 h5
  refine va_alen hexec hb hK h2 a t (mc_at he) (mc_ty ht) (v := v) ?_ hd (kk ad H locs ls h1 h2 h3 h4 h5)
  rw [← hv]
  rcases x with ⟨q, f | f | f | f | f⟩ <;> rfl
end GH
