/-! THE LAW'S FRAME -/
def gLw (X : gC) (l9 : Launch) : Prop := match X with
  | (p, l, e, R, s, m, args, below, meth, c, nL, D, tc, A, n0, ad0, Q) => l = l9 ∧ R = room_1 ∧ nL = 8 ∧ A = (fun q : Nat => s.heap.size ≤ q) ∧ n0 = 0 ∧ (∃ b : Nat, args = #[Value.ref b]) ∧ Q = lw_Z below args s ∧ meth.sig.returnType = ret
theorem gLw.R {X : gC} {l9 : Launch} (h : gLw X l9) : gR X = room_1 := by
  obtain ⟨p, l, e, R, s, m, args, below, meth, c, nL, D, tc, A, n0, ad0, Q⟩ := X
  exact h.2.1
theorem gLw.nL {X : gC} {l9 : Launch} (h : gLw X l9) : gL X = 8 := by
  obtain ⟨p, l, e, R, s, m, args, below, meth, c, nL, D, tc, A, n0, ad0, Q⟩ := X
  exact h.2.2.1
theorem gLw.La {X : gC} {l9 : Launch} (h : gLw X l9) : gLa X = l9 := by
  obtain ⟨p, l, e, R, s, m, args, below, meth, c, nL, D, tc, A, n0, ad0, Q⟩ := X
  exact h.1
/-- the law answers 1 -/
theorem g_law1 {X : gC} {own : String} {Ts : List Cond} {M : List mC} {k n pc : Nat} {L : List (Nat × Value)} {l9 : Launch} (ok : gO X code own Ts) (W9 : gLw X l9) (hd : decode code pc = .ok (.ireturn, 1)) (hk : k ≤ 601024) (hn : n ≤ 7293034) : gg X M k n pc L [.int 1] := by
  obtain ⟨p, l, e, R, s, m, args, below, meth, c, nL, D, tc, A, n0, ad0, Q⟩ := X
  obtain ⟨hexec, hb, hml, hown, hts, hK, hA, hlk, hY⟩ := ok
  obtain ⟨rfl, rfl, rfl, rfl, rfl, ⟨b, rfl⟩, rfl, hr⟩ := W9
  intro ad H locs ls h1 h2 h3 h4 h5
  refine va_forget (fun q hq => h4.2.2 q hq) ?_
  refine W.widen (k := 601024) (n := 7293034) hk hn ?_
  exact lw_ret hexec hb hr hlk hd
theorem law_enter {p : Program} {e : Env} {s : State} {m : MethodId} {below : List Frame} {meth : Method} {c : Code} (l : Launch) {b L : Nat} {xs : Nat → Int32} (C0 : lw_At p s m meth c b L xs)
    (body : ∀ X : gC, gO X code "TripleStoreLaw" w_Tr_size → gSc X L xs → gLw X l → gg X [] 0 0 0 [(0, .ref spl)] []) : W p l e room_1 s m #[Value.ref b] below meth c s.heap [] 0 0 (lw_Z below #[Value.ref b] s) (entryFrame m ([Value.ref b] : List Value).toArray 8) := by
  obtain ⟨hx, hb, hr, hml, hown, hts, hX, hbl, hlocks, hgv⟩ := id C0
  obtain ⟨D, tc, hK⟩ := law_K hts
  have hl := lv_entry ([.ref b]) (n := 8) (Nat.le_of_ble_eq_true rfl)
  rw [lg_entry_eq]
  exact body (p, l, e, room_1, s, m, #[Value.ref b], below, meth, c, 8, D, tc, (fun q : Nat => s.heap.size ≤ q), 0, (fun _ => b), lw_Z below #[Value.ref b] s)
    ⟨hx, hb, hml, hown, fun w hw => by
      rcases List.mem_cons.mp hw with rfl | hw
      · exact hts _ (List.mem_filter.mp i_Tr_size).1
      · exact hts _ (List.mem_filter.mp hw).1, hK, fun q h => h, hlocks, law_mY hts hgv⟩
    ⟨hX, hbl, Nat.not_le.mpr hbl⟩ ⟨rfl, rfl, rfl, rfl, rfl, ⟨b, rfl⟩, rfl, hr⟩
    (fun _ => b) s.heap [] _ ⟨Nat.zero_le _, fun _ _ => rfl, fun _ => rfl⟩ (fun k q h => by simp [mc_w] at h) ⟨fun i j p q h => by simp [mc_w] at h, fun k q h => by simp [mc_w] at h⟩ va_S.rf hl
