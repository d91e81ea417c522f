/-! THE WRAPPERS: what is thrown is caught -/
theorem tab1 {es : List ExceptionTableEntry} {a b c d : Nat} (h : es.map (fun h => (h.startPc, h.endPc, h.handlerPc, h.catchType)) = [(a, b, c, d)]) : ∃ x : ExceptionTableEntry, es = [x] ∧ x.startPc = a ∧ x.endPc = b ∧ x.handlerPc = c ∧ x.catchType = d := by
  match es, h with
  | [x], h =>
    simp only [List.map_cons, List.map_nil, List.cons.injEq, Prod.mk.injEq, and_true] at h
    exact ⟨x, rfl, h.1, h.2.1, h.2.2.1, h.2.2.2⟩
theorem tab2 {es : List ExceptionTableEntry} {a b c d a2 b2 c2 d2 : Nat} (h : es.map (fun h => (h.startPc, h.endPc, h.handlerPc, h.catchType)) = [(a, b, c, d), (a2, b2, c2, d2)]) : ∃ x y : ExceptionTableEntry, es = [x, y] ∧ (x.startPc = a ∧ x.endPc = b ∧ x.handlerPc = c ∧ x.catchType = d) ∧ (y.startPc = a2 ∧ y.endPc = b2 ∧ y.handlerPc = c2 ∧ y.catchType = d2) := by
  match es, h with
  | [x, y], h =>
    simp only [List.map_cons, List.map_nil, List.cons.injEq, Prod.mk.injEq, and_true] at h
    exact ⟨x, y, rfl, h.1, h.2⟩
theorem nc_1 : Cond.not (.castable "java/lang/IllegalStateException" "java/lang/IllegalArgumentException") ∈ yT := List.mem_append_right _ (.tail _ (.tail _ (.head _)))
theorem nc_2 : Cond.not (.castable "java/lang/UnsupportedOperationException" "java/util/NoSuchElementException") ∈ yT := List.mem_append_right _ (.tail _ (.tail _ (.tail _ (.head _))))
theorem kX_La_add_1 {X : gC} {M : List mC} {k n : Nat} {x0 : Nat} {x1 : Int64} {x3 : Int64} {x5 : Int64} {x7 : Nat} {fs2 : List Value}  (ok : gO X c_La_add "TripleStoreLaw" w_Tr_size) (hT : (gCo X).exceptionTable.toList.map (fun h => (h.startPc, h.endPc, h.handlerPc, h.catchType)) = h_La_add) (h1 : M[x0]? = some (.inr (9, fs2))) {rm : Room} {postX : List mC → Prop} (hm : mx_ (gLa X) y_TS_add w_TS_add rm [.ref x0, .long x1, .long x3, .long x5] M "java/lang/IllegalArgumentException" postX) (hR : gF X rm 13 k n) {l9 : Launch} {rm9 : Room} {M0 : List mC} {post : Option Value → List mC → Prop} (E : gE X l9 y_La_add rm9 9 (some .int) M0 post) (hp : ∀ M', postX M' → post (some (.int 1)) M') (hk : k + rm.cells ≤ rm9.cells) (hn : n + rm.slots ≤ rm9.slots) : gg X M k n 0 [(0, .ref x0), (1, .long x1), (3, .long x3), (5, .long x5), (7, .ref x7)] [] := by
  refine g_aload ok d_La_add_0 (j := 4) rfl ?_
  refine g_iconst (v := 0) ok d_La_add_2 (by decide) ?_
  refine g_aload_n ok d_La_add_3 rfl (j := 0) rfl ?_
  refine g_lload_n ok d_La_add_4 rfl (j := 1) rfl ?_
  refine g_lload_n ok d_La_add_5 rfl (j := 2) rfl ?_
  refine g_lload ok d_La_add_6 (j := 3) rfl ?_
  obtain ⟨x, x9, e0, ⟨e1, e2, e3, e4⟩, e9⟩ := tab2 hT
  refine g_callVX (As := [.long x1, .long x3, .long x5]) (rest := [.int 0, .ref x7]) (C := RTS) (T := TTS) (N := 9) (ci := 9) (name := "java/lang/IllegalArgumentException") ok hm i_TS_add ml_La_7 wn_TS_add ws_TS_add wi_TS ⟨by decide, by decide, by show _ = some 3; decide +kernel⟩ rfl d_La_add_8 rfl (Nat.le_of_ble_eq_true rfl) hR h1 [] x [x9] e0 (fun z h => (nomatch h)) (by unfold covers; rw [e1, e2]; rfl) (by rw [e4]; decide) (by rw [e4]; exact gT_at 324 (by decide +kernel) (by decide +kernel)) (yT_at 346 (by decide +kernel) (by decide +kernel)) (fun M9 h9 => ?_)
  rw [e3]
  refine gh_astore (L' := [(0, .ref x0), (1, .long x1), (3, .long x3), (5, .long x5), (7, .ref x7)]) ok d_La_add_16 (by rw [E.nL]; decide) rfl ?_
  refine g_iconst (v := 1) ok d_La_add_18 (by decide) ?_
  exact g_iret ok E d_La_add_19 (hp M9 h9) hk hn
theorem kX_La_add_2 {X : gC} {M : List mC} {k n : Nat} {x0 : Nat} {x1 : Int64} {x3 : Int64} {x5 : Int64} {x7 : Nat} {fs2 : List Value}  (ok : gO X c_La_add "TripleStoreLaw" w_Tr_size) (hT : (gCo X).exceptionTable.toList.map (fun h => (h.startPc, h.endPc, h.handlerPc, h.catchType)) = h_La_add) (h1 : M[x0]? = some (.inr (9, fs2))) {rm : Room} {postX : List mC → Prop} (hm : mx_ (gLa X) y_TS_add w_TS_add rm [.ref x0, .long x1, .long x3, .long x5] M "java/lang/IllegalStateException" postX) (hR : gF X rm 13 k n) {l9 : Launch} {rm9 : Room} {M0 : List mC} {post : Option Value → List mC → Prop} (E : gE X l9 y_La_add rm9 9 (some .int) M0 post) (hp : ∀ M', postX M' → post (some (.int 2)) M') (hk : k + rm.cells ≤ rm9.cells) (hn : n + rm.slots ≤ rm9.slots) : gg X M k n 0 [(0, .ref x0), (1, .long x1), (3, .long x3), (5, .long x5), (7, .ref x7)] [] := by
  refine g_aload ok d_La_add_0 (j := 4) rfl ?_
  refine g_iconst (v := 0) ok d_La_add_2 (by decide) ?_
  refine g_aload_n ok d_La_add_3 rfl (j := 0) rfl ?_
  refine g_lload_n ok d_La_add_4 rfl (j := 1) rfl ?_
  refine g_lload_n ok d_La_add_5 rfl (j := 2) rfl ?_
  refine g_lload ok d_La_add_6 (j := 3) rfl ?_
  obtain ⟨x9, x, e0, ⟨f1, f2, f3, f4⟩, e1, e2, e3, e4⟩ := tab2 hT
  refine g_callVX (As := [.long x1, .long x3, .long x5]) (rest := [.int 0, .ref x7]) (C := RTS) (T := TTS) (N := 9) (ci := 9) (name := "java/lang/IllegalStateException") ok hm i_TS_add ml_La_7 wn_TS_add ws_TS_add wi_TS ⟨by decide, by decide, by show _ = some 3; decide +kernel⟩ rfl d_La_add_8 rfl (Nat.le_of_ble_eq_true rfl) hR h1 [x9] x [] e0 (fun z h => by rw [List.mem_singleton.mp h]; exact Or.inr ⟨by rw [f4]; decide, "java/lang/IllegalArgumentException", by rw [f4]; exact gT_at 324 (by decide +kernel) (by decide +kernel), nc_1⟩) (by unfold covers; rw [e1, e2]; rfl) (by rw [e4]; decide) (by rw [e4]; exact gT_at 325 (by decide +kernel) (by decide +kernel)) (yT_at 434 (by decide +kernel) (by decide +kernel)) (fun M9 h9 => ?_)
  rw [e3]
  refine gh_astore (L' := [(0, .ref x0), (1, .long x1), (3, .long x3), (5, .long x5), (7, .ref x7)]) ok d_La_add_20 (by rw [E.nL]; decide) rfl ?_
  refine g_iconst (v := 2) ok d_La_add_22 (by decide) ?_
  exact g_iret ok E d_La_add_23 (hp M9 h9) hk hn
theorem kX_La_remove_1 {X : gC} {M : List mC} {k n : Nat} {x0 : Nat} {x1 : Int64} {x3 : Int64} {x5 : Int64} {x7 : Nat} {fs2 : List Value}  (ok : gO X c_La_remove "TripleStoreLaw" w_Tr_size) (hT : (gCo X).exceptionTable.toList.map (fun h => (h.startPc, h.endPc, h.handlerPc, h.catchType)) = h_La_remove) (h1 : M[x0]? = some (.inr (9, fs2))) {rm : Room} {postX : List mC → Prop} (hm : mx_ (gLa X) y_TS_remove w_TS_remove rm [.ref x0, .long x1, .long x3, .long x5] M "java/lang/IllegalArgumentException" postX) (hR : gF X rm 7 k n) {l9 : Launch} {rm9 : Room} {M0 : List mC} {post : Option Value → List mC → Prop} (E : gE X l9 y_La_remove rm9 9 (some .int) M0 post) (hp : ∀ M', postX M' → post (some (.int 1)) M') (hk : k + rm.cells ≤ rm9.cells) (hn : n + rm.slots ≤ rm9.slots) : gg X M k n 0 [(0, .ref x0), (1, .long x1), (3, .long x3), (5, .long x5), (7, .ref x7)] [] := by
  refine g_aload ok d_La_remove_0 (j := 4) rfl ?_
  refine g_iconst (v := 0) ok d_La_remove_2 (by decide) ?_
  refine g_aload_n ok d_La_remove_3 rfl (j := 0) rfl ?_
  refine g_lload_n ok d_La_remove_4 rfl (j := 1) rfl ?_
  refine g_lload_n ok d_La_remove_5 rfl (j := 2) rfl ?_
  refine g_lload ok d_La_remove_6 (j := 3) rfl ?_
  obtain ⟨x, e0, e1, e2, e3, e4⟩ := tab1 hT
  refine g_callVX (As := [.long x1, .long x3, .long x5]) (rest := [.int 0, .ref x7]) (C := RTS) (T := TTS) (N := 9) (ci := 9) (name := "java/lang/IllegalArgumentException") ok hm i_TS_remove ml_La_17 wn_TS_remove ws_TS_remove wi_TS ⟨by decide, by decide, by show _ = some 3; decide +kernel⟩ rfl d_La_remove_8 rfl (Nat.le_of_ble_eq_true rfl) hR h1 [] x [] e0 (fun z h => (nomatch h)) (by unfold covers; rw [e1, e2]; rfl) (by rw [e4]; decide) (by rw [e4]; exact gT_at 324 (by decide +kernel) (by decide +kernel)) (yT_at 346 (by decide +kernel) (by decide +kernel)) (fun M9 h9 => ?_)
  rw [e3]
  refine gh_astore (L' := [(0, .ref x0), (1, .long x1), (3, .long x3), (5, .long x5), (7, .ref x7)]) ok d_La_remove_16 (by rw [E.nL]; decide) rfl ?_
  refine g_iconst (v := 1) ok d_La_remove_18 (by decide) ?_
  exact g_iret ok E d_La_remove_19 (hp M9 h9) hk hn
theorem kX_La_begin_1 {X : gC} {M : List mC} {k n : Nat} {x0 : Nat} {x1 : Nat} {fs2 : List Value}  (ok : gO X c_La_begin "TripleStoreLaw" w_Tr_size) (hT : (gCo X).exceptionTable.toList.map (fun h => (h.startPc, h.endPc, h.handlerPc, h.catchType)) = h_La_begin) (h1 : M[x0]? = some (.inr (9, fs2))) {rm : Room} {postX : List mC → Prop} (hm : mx_ (gLa X) y_TS_begin w_TS_begin rm [.ref x0] M "java/lang/IllegalStateException" postX) (hR : gF X rm 1 k n) {l9 : Launch} {rm9 : Room} {M0 : List mC} {post : Option Value → List mC → Prop} (E : gE X l9 y_La_begin rm9 3 (some .int) M0 post) (hp : ∀ M', postX M' → post (some (.int 1)) M') (hk : k + rm.cells ≤ rm9.cells) (hn : n + rm.slots ≤ rm9.slots) : gg X M k n 0 [(0, .ref x0), (1, .ref x1)] [] := by
  refine g_aload_n ok d_La_begin_0 rfl (j := 1) rfl ?_
  refine g_iconst (v := 0) ok d_La_begin_1 (by decide) ?_
  refine g_aload_n ok d_La_begin_2 rfl (j := 0) rfl ?_
  obtain ⟨x, e0, e1, e2, e3, e4⟩ := tab1 hT
  refine g_callVX (As := []) (rest := [.int 0, .ref x1]) (C := RTS) (T := TTS) (N := 9) (ci := 9) (name := "java/lang/IllegalStateException") ok hm i_TS_begin ml_La_20 wn_TS_begin ws_TS_begin wi_TS ⟨by decide, by decide, by show _ = some 0; decide +kernel⟩ rfl d_La_begin_3 rfl (Nat.le_of_ble_eq_true rfl) hR h1 [] x [] e0 (fun z h => (nomatch h)) (by unfold covers; rw [e1, e2]; rfl) (by rw [e4]; decide) (by rw [e4]; exact gT_at 325 (by decide +kernel) (by decide +kernel)) (yT_at 434 (by decide +kernel) (by decide +kernel)) (fun M9 h9 => ?_)
  rw [e3]
  refine gh_astore_n (L' := [(0, .ref x0), (1, .ref x1)]) ok d_La_begin_11 rfl (by rw [E.nL]; decide) rfl ?_
  refine g_iconst (v := 1) ok d_La_begin_12 (by decide) ?_
  exact g_iret ok E d_La_begin_13 (hp M9 h9) hk hn
theorem kX_La_commit_1 {X : gC} {M : List mC} {k n : Nat} {x0 : Nat} {x1 : Nat} {fs2 : List Value}  (ok : gO X c_La_commit "TripleStoreLaw" w_Tr_size) (hT : (gCo X).exceptionTable.toList.map (fun h => (h.startPc, h.endPc, h.handlerPc, h.catchType)) = h_La_commit) (h1 : M[x0]? = some (.inr (9, fs2))) {rm : Room} {postX : List mC → Prop} (hm : mx_ (gLa X) y_TS_commit w_TS_commit rm [.ref x0] M "java/lang/IllegalStateException" postX) (hR : gF X rm 1 k n) {l9 : Launch} {rm9 : Room} {M0 : List mC} {post : Option Value → List mC → Prop} (E : gE X l9 y_La_commit rm9 3 (some .int) M0 post) (hp : ∀ M', postX M' → post (some (.int 1)) M') (hk : k + rm.cells ≤ rm9.cells) (hn : n + rm.slots ≤ rm9.slots) : gg X M k n 0 [(0, .ref x0), (1, .ref x1)] [] := by
  refine g_aload_n ok d_La_commit_0 rfl (j := 1) rfl ?_
  refine g_iconst (v := 0) ok d_La_commit_1 (by decide) ?_
  refine g_aload_n ok d_La_commit_2 rfl (j := 0) rfl ?_
  obtain ⟨x, e0, e1, e2, e3, e4⟩ := tab1 hT
  refine g_callVX (As := []) (rest := [.int 0, .ref x1]) (C := RTS) (T := TTS) (N := 9) (ci := 9) (name := "java/lang/IllegalStateException") ok hm i_TS_commit ml_La_24 wn_TS_commit ws_TS_commit wi_TS ⟨by decide, by decide, by show _ = some 0; decide +kernel⟩ rfl d_La_commit_3 rfl (Nat.le_of_ble_eq_true rfl) hR h1 [] x [] e0 (fun z h => (nomatch h)) (by unfold covers; rw [e1, e2]; rfl) (by rw [e4]; decide) (by rw [e4]; exact gT_at 325 (by decide +kernel) (by decide +kernel)) (yT_at 434 (by decide +kernel) (by decide +kernel)) (fun M9 h9 => ?_)
  rw [e3]
  refine gh_astore_n (L' := [(0, .ref x0), (1, .ref x1)]) ok d_La_commit_11 rfl (by rw [E.nL]; decide) rfl ?_
  refine g_iconst (v := 1) ok d_La_commit_12 (by decide) ?_
  exact g_iret ok E d_La_commit_13 (hp M9 h9) hk hn
theorem kX_La_rollback_1 {X : gC} {M : List mC} {k n : Nat} {x0 : Nat} {x1 : Nat} {fs2 : List Value}  (ok : gO X c_La_rollback "TripleStoreLaw" w_Tr_size) (hT : (gCo X).exceptionTable.toList.map (fun h => (h.startPc, h.endPc, h.handlerPc, h.catchType)) = h_La_rollback) (h1 : M[x0]? = some (.inr (9, fs2))) {rm : Room} {postX : List mC → Prop} (hm : mx_ (gLa X) y_TS_rollback w_TS_rollback rm [.ref x0] M "java/lang/IllegalStateException" postX) (hR : gF X rm 1 k n) {l9 : Launch} {rm9 : Room} {M0 : List mC} {post : Option Value → List mC → Prop} (E : gE X l9 y_La_rollback rm9 3 (some .int) M0 post) (hp : ∀ M', postX M' → post (some (.int 1)) M') (hk : k + rm.cells ≤ rm9.cells) (hn : n + rm.slots ≤ rm9.slots) : gg X M k n 0 [(0, .ref x0), (1, .ref x1)] [] := by
  refine g_aload_n ok d_La_rollback_0 rfl (j := 1) rfl ?_
  refine g_iconst (v := 0) ok d_La_rollback_1 (by decide) ?_
  refine g_aload_n ok d_La_rollback_2 rfl (j := 0) rfl ?_
  obtain ⟨x, e0, e1, e2, e3, e4⟩ := tab1 hT
  refine g_callVX (As := []) (rest := [.int 0, .ref x1]) (C := RTS) (T := TTS) (N := 9) (ci := 9) (name := "java/lang/IllegalStateException") ok hm i_TS_rollback ml_La_27 wn_TS_rollback ws_TS_rollback wi_TS ⟨by decide, by decide, by show _ = some 0; decide +kernel⟩ rfl d_La_rollback_3 rfl (Nat.le_of_ble_eq_true rfl) hR h1 [] x [] e0 (fun z h => (nomatch h)) (by unfold covers; rw [e1, e2]; rfl) (by rw [e4]; decide) (by rw [e4]; exact gT_at 325 (by decide +kernel) (by decide +kernel)) (yT_at 434 (by decide +kernel) (by decide +kernel)) (fun M9 h9 => ?_)
  rw [e3]
  refine gh_astore_n (L' := [(0, .ref x0), (1, .ref x1)]) ok d_La_rollback_11 rfl (by rw [E.nL]; decide) rfl ?_
  refine g_iconst (v := 1) ok d_La_rollback_12 (by decide) ?_
  exact g_iret ok E d_La_rollback_13 (hp M9 h9) hk hn
theorem kX_La_crash_1 {X : gC} {M : List mC} {k n : Nat} {x0 : Nat} {x1 : Int32} {x2 : Nat} {fs2 : List Value}  (ok : gO X c_La_crash "TripleStoreLaw" w_Tr_size) (hT : (gCo X).exceptionTable.toList.map (fun h => (h.startPc, h.endPc, h.handlerPc, h.catchType)) = h_La_crash) (h1 : M[x0]? = some (.inr (9, fs2))) {rm : Room} {postX : List mC → Prop} (hm : mx_ (gLa X) y_TS_crash w_TS_crash rm [.ref x0, .int x1] M "java/lang/IllegalArgumentException" postX) (hR : gF X rm 2 k n) {l9 : Launch} {rm9 : Room} {M0 : List mC} {post : Option Value → List mC → Prop} (E : gE X l9 y_La_crash rm9 4 (some .int) M0 post) (hp : ∀ M', postX M' → post (some (.int 1)) M') (hk : k + rm.cells ≤ rm9.cells) (hn : n + rm.slots ≤ rm9.slots) : gg X M k n 0 [(0, .ref x0), (1, .int x1), (2, .ref x2)] [] := by
  refine g_aload_n ok d_La_crash_0 rfl (j := 2) rfl ?_
  refine g_iconst (v := 0) ok d_La_crash_1 (by decide) ?_
  refine g_aload_n ok d_La_crash_2 rfl (j := 0) rfl ?_
  refine g_iload_n ok d_La_crash_3 rfl (j := 1) rfl ?_
  obtain ⟨x, e0, e1, e2, e3, e4⟩ := tab1 hT
  refine g_callVX (As := [.int x1]) (rest := [.int 0, .ref x2]) (C := RTS) (T := TTS) (N := 9) (ci := 9) (name := "java/lang/IllegalArgumentException") ok hm i_TS_crash ml_La_30 wn_TS_crash ws_TS_crash wi_TS ⟨by decide, by decide, by show _ = some 1; decide +kernel⟩ rfl d_La_crash_4 rfl (Nat.le_of_ble_eq_true rfl) hR h1 [] x [] e0 (fun z h => (nomatch h)) (by unfold covers; rw [e1, e2]; rfl) (by rw [e4]; decide) (by rw [e4]; exact gT_at 324 (by decide +kernel) (by decide +kernel)) (yT_at 346 (by decide +kernel) (by decide +kernel)) (fun M9 h9 => ?_)
  rw [e3]
  refine gh_astore_n (L' := [(0, .ref x0), (1, .int x1), (2, .ref x2)]) ok d_La_crash_12 rfl (by rw [E.nL]; decide) rfl ?_
  refine g_iconst (v := 1) ok d_La_crash_13 (by decide) ?_
  exact g_iret ok E d_La_crash_14 (hp M9 h9) hk hn
theorem kX_La_append_1 {X : gC} {M : List mC} {k n : Nat} {x0 : Nat} {x1 : Int64} {x3 : Int32} {x4 : Nat} {fs2 : List Value}  (ok : gO X c_La_append "TripleStoreLaw" w_Tr_size) (hT : (gCo X).exceptionTable.toList.map (fun h => (h.startPc, h.endPc, h.handlerPc, h.catchType)) = h_La_append) (h1 : M[x0]? = some (.inr (9, fs2))) {rm : Room} {postX : List mC → Prop} (hm : mx_ (gLa X) y_TS_append w_TS_append rm [.ref x0, .long x1, .int x3] M "java/lang/IllegalArgumentException" postX) (hR : gF X rm 5 k n) {l9 : Launch} {rm9 : Room} {M0 : List mC} {post : Option Value → List mC → Prop} (E : gE X l9 y_La_append rm9 6 (some .int) M0 post) (hp : ∀ M', postX M' → post (some (.int 1)) M') (hk : k + rm.cells ≤ rm9.cells) (hn : n + rm.slots ≤ rm9.slots) : gg X M k n 0 [(0, .ref x0), (1, .long x1), (3, .int x3), (4, .ref x4)] [] := by
  refine g_aload ok d_La_append_0 (j := 3) rfl ?_
  refine g_iconst (v := 0) ok d_La_append_2 (by decide) ?_
  refine g_aload_n ok d_La_append_3 rfl (j := 0) rfl ?_
  refine g_lload_n ok d_La_append_4 rfl (j := 1) rfl ?_
  refine g_iload_n ok d_La_append_5 rfl (j := 2) rfl ?_
  obtain ⟨x, x9, e0, ⟨e1, e2, e3, e4⟩, e9⟩ := tab2 hT
  refine g_callVX (As := [.long x1, .int x3]) (rest := [.int 0, .ref x4]) (C := RTS) (T := TTS) (N := 9) (ci := 9) (name := "java/lang/IllegalArgumentException") ok hm i_TS_append ml_La_34 wn_TS_append ws_TS_append wi_TS ⟨by decide, by decide, by show _ = some 2; decide +kernel⟩ rfl d_La_append_6 rfl (Nat.le_of_ble_eq_true rfl) hR h1 [] x [x9] e0 (fun z h => (nomatch h)) (by unfold covers; rw [e1, e2]; rfl) (by rw [e4]; decide) (by rw [e4]; exact gT_at 324 (by decide +kernel) (by decide +kernel)) (yT_at 346 (by decide +kernel) (by decide +kernel)) (fun M9 h9 => ?_)
  rw [e3]
  refine gh_astore (L' := [(0, .ref x0), (1, .long x1), (3, .int x3), (4, .ref x4)]) ok d_La_append_14 (by rw [E.nL]; decide) rfl ?_
  refine g_iconst (v := 1) ok d_La_append_16 (by decide) ?_
  exact g_iret ok E d_La_append_17 (hp M9 h9) hk hn
theorem kX_La_append_2 {X : gC} {M : List mC} {k n : Nat} {x0 : Nat} {x1 : Int64} {x3 : Int32} {x4 : Nat} {fs2 : List Value}  (ok : gO X c_La_append "TripleStoreLaw" w_Tr_size) (hT : (gCo X).exceptionTable.toList.map (fun h => (h.startPc, h.endPc, h.handlerPc, h.catchType)) = h_La_append) (h1 : M[x0]? = some (.inr (9, fs2))) {rm : Room} {postX : List mC → Prop} (hm : mx_ (gLa X) y_TS_append w_TS_append rm [.ref x0, .long x1, .int x3] M "java/lang/IllegalStateException" postX) (hR : gF X rm 5 k n) {l9 : Launch} {rm9 : Room} {M0 : List mC} {post : Option Value → List mC → Prop} (E : gE X l9 y_La_append rm9 6 (some .int) M0 post) (hp : ∀ M', postX M' → post (some (.int 2)) M') (hk : k + rm.cells ≤ rm9.cells) (hn : n + rm.slots ≤ rm9.slots) : gg X M k n 0 [(0, .ref x0), (1, .long x1), (3, .int x3), (4, .ref x4)] [] := by
  refine g_aload ok d_La_append_0 (j := 3) rfl ?_
  refine g_iconst (v := 0) ok d_La_append_2 (by decide) ?_
  refine g_aload_n ok d_La_append_3 rfl (j := 0) rfl ?_
  refine g_lload_n ok d_La_append_4 rfl (j := 1) rfl ?_
  refine g_iload_n ok d_La_append_5 rfl (j := 2) rfl ?_
  obtain ⟨x9, x, e0, ⟨f1, f2, f3, f4⟩, e1, e2, e3, e4⟩ := tab2 hT
  refine g_callVX (As := [.long x1, .int x3]) (rest := [.int 0, .ref x4]) (C := RTS) (T := TTS) (N := 9) (ci := 9) (name := "java/lang/IllegalStateException") ok hm i_TS_append ml_La_34 wn_TS_append ws_TS_append wi_TS ⟨by decide, by decide, by show _ = some 2; decide +kernel⟩ rfl d_La_append_6 rfl (Nat.le_of_ble_eq_true rfl) hR h1 [x9] x [] e0 (fun z h => by rw [List.mem_singleton.mp h]; exact Or.inr ⟨by rw [f4]; decide, "java/lang/IllegalArgumentException", by rw [f4]; exact gT_at 324 (by decide +kernel) (by decide +kernel), nc_1⟩) (by unfold covers; rw [e1, e2]; rfl) (by rw [e4]; decide) (by rw [e4]; exact gT_at 325 (by decide +kernel) (by decide +kernel)) (yT_at 434 (by decide +kernel) (by decide +kernel)) (fun M9 h9 => ?_)
  rw [e3]
  refine gh_astore (L' := [(0, .ref x0), (1, .long x1), (3, .int x3), (4, .ref x4)]) ok d_La_append_18 (by rw [E.nL]; decide) rfl ?_
  refine g_iconst (v := 2) ok d_La_append_20 (by decide) ?_
  exact g_iret ok E d_La_append_21 (hp M9 h9) hk hn
theorem kX_La_ask_1 {X : gC} {M : List mC} {k n : Nat} {x0 : Nat} {x1 : Nat} {fs2 : List Value}  (ok : gO X c_La_ask "TripleStoreLaw" w_Tr_size) (hT : (gCo X).exceptionTable.toList.map (fun h => (h.startPc, h.endPc, h.handlerPc, h.catchType)) = h_La_ask) (h1 : M[x0]? = some (.inr (9, fs2))) {rm : Room} {postX : List mC → Prop} (hm : mx_ (gLa X) y_TS_ask w_TS_ask rm [.ref x0] M "java/lang/IllegalArgumentException" postX) (hR : gF X rm 2 k n) {l9 : Launch} {rm9 : Room} {M0 : List mC} {post : Option Value → List mC → Prop} (E : gE X l9 y_La_ask rm9 3 (some .int) M0 post) (hp : ∀ M', postX M' → post (some (.int 1)) M') (hk : k + rm.cells ≤ rm9.cells) (hn : n + rm.slots ≤ rm9.slots) : gg X M k n 0 [(0, .ref x0), (1, .ref x1)] [] := by
  refine g_aload_n ok d_La_ask_0 rfl (j := 1) rfl ?_
  refine g_iconst (v := 0) ok d_La_ask_1 (by decide) ?_
  refine g_aload_n ok d_La_ask_2 rfl (j := 0) rfl ?_
  obtain ⟨x, x9, e0, ⟨e1, e2, e3, e4⟩, e9⟩ := tab2 hT
  refine g_callVX (As := []) (rest := [.int 0, .ref x1]) (C := RTS) (T := TTS) (N := 9) (ci := 9) (name := "java/lang/IllegalArgumentException") ok hm i_TS_ask ml_La_38 wn_TS_ask ws_TS_ask wi_TS ⟨by decide, by decide, by show _ = some 0; decide +kernel⟩ rfl d_La_ask_3 rfl (Nat.le_of_ble_eq_true rfl) hR h1 [] x [x9] e0 (fun z h => (nomatch h)) (by unfold covers; rw [e1, e2]; rfl) (by rw [e4]; decide) (by rw [e4]; exact gT_at 324 (by decide +kernel) (by decide +kernel)) (yT_at 346 (by decide +kernel) (by decide +kernel)) (fun M9 h9 => ?_)
  rw [e3]
  refine gh_astore_n (L' := [(0, .ref x0), (1, .ref x1)]) ok d_La_ask_11 rfl (by rw [E.nL]; decide) rfl ?_
  refine g_iconst (v := 1) ok d_La_ask_12 (by decide) ?_
  exact g_iret ok E d_La_ask_13 (hp M9 h9) hk hn
theorem kX_La_ask_2 {X : gC} {M : List mC} {k n : Nat} {x0 : Nat} {x1 : Nat} {fs2 : List Value}  (ok : gO X c_La_ask "TripleStoreLaw" w_Tr_size) (hT : (gCo X).exceptionTable.toList.map (fun h => (h.startPc, h.endPc, h.handlerPc, h.catchType)) = h_La_ask) (h1 : M[x0]? = some (.inr (9, fs2))) {rm : Room} {postX : List mC → Prop} (hm : mx_ (gLa X) y_TS_ask w_TS_ask rm [.ref x0] M "java/lang/IllegalStateException" postX) (hR : gF X rm 2 k n) {l9 : Launch} {rm9 : Room} {M0 : List mC} {post : Option Value → List mC → Prop} (E : gE X l9 y_La_ask rm9 3 (some .int) M0 post) (hp : ∀ M', postX M' → post (some (.int 2)) M') (hk : k + rm.cells ≤ rm9.cells) (hn : n + rm.slots ≤ rm9.slots) : gg X M k n 0 [(0, .ref x0), (1, .ref x1)] [] := by
  refine g_aload_n ok d_La_ask_0 rfl (j := 1) rfl ?_
  refine g_iconst (v := 0) ok d_La_ask_1 (by decide) ?_
  refine g_aload_n ok d_La_ask_2 rfl (j := 0) rfl ?_
  obtain ⟨x9, x, e0, ⟨f1, f2, f3, f4⟩, e1, e2, e3, e4⟩ := tab2 hT
  refine g_callVX (As := []) (rest := [.int 0, .ref x1]) (C := RTS) (T := TTS) (N := 9) (ci := 9) (name := "java/lang/IllegalStateException") ok hm i_TS_ask ml_La_38 wn_TS_ask ws_TS_ask wi_TS ⟨by decide, by decide, by show _ = some 0; decide +kernel⟩ rfl d_La_ask_3 rfl (Nat.le_of_ble_eq_true rfl) hR h1 [x9] x [] e0 (fun z h => by rw [List.mem_singleton.mp h]; exact Or.inr ⟨by rw [f4]; decide, "java/lang/IllegalArgumentException", by rw [f4]; exact gT_at 324 (by decide +kernel) (by decide +kernel), nc_1⟩) (by unfold covers; rw [e1, e2]; rfl) (by rw [e4]; decide) (by rw [e4]; exact gT_at 325 (by decide +kernel) (by decide +kernel)) (yT_at 434 (by decide +kernel) (by decide +kernel)) (fun M9 h9 => ?_)
  rw [e3]
  refine gh_astore_n (L' := [(0, .ref x0), (1, .ref x1)]) ok d_La_ask_14 rfl (by rw [E.nL]; decide) rfl ?_
  refine g_iconst (v := 2) ok d_La_ask_15 (by decide) ?_
  exact g_iret ok E d_La_ask_16 (hp M9 h9) hk hn
theorem kX_La_cell2_1 {X : gC} {M : List mC} {k n : Nat} {x0 : Nat} {x1 : Int32} {x2 : Int32} {x3 : Nat} {fs2 : List Value}  (ok : gO X c_La_cell2 "TripleStoreLaw" w_Tr_size) (hT : (gCo X).exceptionTable.toList.map (fun h => (h.startPc, h.endPc, h.handlerPc, h.catchType)) = h_La_cell2) (h1 : M[x0]? = some (.inr (9, fs2))) {rm : Room} {postX : List mC → Prop} (hm : mx_ (gLa X) y_TS_cell w_TS_cell rm [.ref x0, .int x1, .int x2] M "java/util/NoSuchElementException" postX) (hR : gF X rm 5 k n) {l9 : Launch} {rm9 : Room} {M0 : List mC} {post : Option Value → List mC → Prop} (E : gE X l9 y_La_cell2 rm9 5 (some .int) M0 post) (hp : ∀ M', postX M' → post (some (.int 1)) M') (hk : k + rm.cells ≤ rm9.cells) (hn : n + rm.slots ≤ rm9.slots) : gg X M k n 0 [(0, .ref x0), (1, .int x1), (2, .int x2), (3, .ref x3)] [] := by
  refine g_aload_n ok d_La_cell2_0 rfl (j := 3) rfl ?_
  refine g_iconst (v := 0) ok d_La_cell2_1 (by decide) ?_
  refine g_aload_n ok d_La_cell2_2 rfl (j := 0) rfl ?_
  refine g_iload_n ok d_La_cell2_3 rfl (j := 1) rfl ?_
  refine g_iload_n ok d_La_cell2_4 rfl (j := 2) rfl ?_
  obtain ⟨x, x9, e0, ⟨e1, e2, e3, e4⟩, e9⟩ := tab2 hT
  refine g_callVX (As := [.int x1, .int x2]) (rest := [.int 0, .ref x3]) (C := RTS) (T := TTS) (N := 9) (ci := 9) (name := "java/util/NoSuchElementException") ok hm i_TS_cell ml_La_41 wn_TS_cell ws_TS_cell wi_TS ⟨by decide, by decide, by show _ = some 2; decide +kernel⟩ rfl d_La_cell2_5 rfl (Nat.le_of_ble_eq_true rfl) hR h1 [] x [x9] e0 (fun z h => (nomatch h)) (by unfold covers; rw [e1, e2]; rfl) (by rw [e4]; decide) (by rw [e4]; exact gT_at 894 (by decide +kernel) (by decide +kernel)) (yT_at 906 (by decide +kernel) (by decide +kernel)) (fun M9 h9 => ?_)
  rw [e3]
  refine gh_astore (L' := [(0, .ref x0), (1, .int x1), (2, .int x2), (3, .ref x3)]) ok d_La_cell2_12 (by rw [E.nL]; decide) rfl ?_
  refine g_iconst (v := 1) ok d_La_cell2_14 (by decide) ?_
  exact g_iret ok E d_La_cell2_15 (hp M9 h9) hk hn
theorem kX_La_cell2_2 {X : gC} {M : List mC} {k n : Nat} {x0 : Nat} {x1 : Int32} {x2 : Int32} {x3 : Nat} {fs2 : List Value}  (ok : gO X c_La_cell2 "TripleStoreLaw" w_Tr_size) (hT : (gCo X).exceptionTable.toList.map (fun h => (h.startPc, h.endPc, h.handlerPc, h.catchType)) = h_La_cell2) (h1 : M[x0]? = some (.inr (9, fs2))) {rm : Room} {postX : List mC → Prop} (hm : mx_ (gLa X) y_TS_cell w_TS_cell rm [.ref x0, .int x1, .int x2] M "java/lang/UnsupportedOperationException" postX) (hR : gF X rm 5 k n) {l9 : Launch} {rm9 : Room} {M0 : List mC} {post : Option Value → List mC → Prop} (E : gE X l9 y_La_cell2 rm9 5 (some .int) M0 post) (hp : ∀ M', postX M' → post (some (.int 2)) M') (hk : k + rm.cells ≤ rm9.cells) (hn : n + rm.slots ≤ rm9.slots) : gg X M k n 0 [(0, .ref x0), (1, .int x1), (2, .int x2), (3, .ref x3)] [] := by
  refine g_aload_n ok d_La_cell2_0 rfl (j := 3) rfl ?_
  refine g_iconst (v := 0) ok d_La_cell2_1 (by decide) ?_
  refine g_aload_n ok d_La_cell2_2 rfl (j := 0) rfl ?_
  refine g_iload_n ok d_La_cell2_3 rfl (j := 1) rfl ?_
  refine g_iload_n ok d_La_cell2_4 rfl (j := 2) rfl ?_
  obtain ⟨x9, x, e0, ⟨f1, f2, f3, f4⟩, e1, e2, e3, e4⟩ := tab2 hT
  refine g_callVX (As := [.int x1, .int x2]) (rest := [.int 0, .ref x3]) (C := RTS) (T := TTS) (N := 9) (ci := 9) (name := "java/lang/UnsupportedOperationException") ok hm i_TS_cell ml_La_41 wn_TS_cell ws_TS_cell wi_TS ⟨by decide, by decide, by show _ = some 2; decide +kernel⟩ rfl d_La_cell2_5 rfl (Nat.le_of_ble_eq_true rfl) hR h1 [x9] x [] e0 (fun z h => by rw [List.mem_singleton.mp h]; exact Or.inr ⟨by rw [f4]; decide, "java/util/NoSuchElementException", by rw [f4]; exact gT_at 894 (by decide +kernel) (by decide +kernel), nc_2⟩) (by unfold covers; rw [e1, e2]; rfl) (by rw [e4]; decide) (by rw [e4]; exact gT_at 895 (by decide +kernel) (by decide +kernel)) (yT_at 927 (by decide +kernel) (by decide +kernel)) (fun M9 h9 => ?_)
  rw [e3]
  refine gh_astore (L' := [(0, .ref x0), (1, .int x1), (2, .int x2), (3, .ref x3)]) ok d_La_cell2_16 (by rw [E.nL]; decide) rfl ?_
  refine g_iconst (v := 2) ok d_La_cell2_18 (by decide) ?_
  exact g_iret ok E d_La_cell2_19 (hp M9 h9) hk hn
theorem kX_La_count_1 {X : gC} {M : List mC} {k n : Nat} {x0 : Nat} {x1 : Int32} {x2 : Nat} {fs2 : List Value}  (ok : gO X c_La_count "TripleStoreLaw" w_Tr_size) (hT : (gCo X).exceptionTable.toList.map (fun h => (h.startPc, h.endPc, h.handlerPc, h.catchType)) = h_La_count) (h1 : M[x0]? = some (.inr (9, fs2))) {rm : Room} {postX : List mC → Prop} (hm : mx_ (gLa X) y_TS_count w_TS_count rm [.ref x0, .int x1] M "java/lang/IllegalArgumentException" postX) (hR : gF X rm 2 k n) {l9 : Launch} {rm9 : Room} {M0 : List mC} {post : Option Value → List mC → Prop} (E : gE X l9 y_La_count rm9 4 (some .int) M0 post) (hp : ∀ M', postX M' → post (some (.int 1)) M') (hk : k + rm.cells ≤ rm9.cells) (hn : n + rm.slots ≤ rm9.slots) : gg X M k n 0 [(0, .ref x0), (1, .int x1), (2, .ref x2)] [] := by
  refine g_aload_n ok d_La_count_0 rfl (j := 2) rfl ?_
  refine g_iconst (v := 0) ok d_La_count_1 (by decide) ?_
  refine g_aload_n ok d_La_count_2 rfl (j := 0) rfl ?_
  refine g_iload_n ok d_La_count_3 rfl (j := 1) rfl ?_
  obtain ⟨x, e0, e1, e2, e3, e4⟩ := tab1 hT
  refine g_callVX (As := [.int x1]) (rest := [.int 0, .ref x2]) (C := RTS) (T := TTS) (N := 9) (ci := 9) (name := "java/lang/IllegalArgumentException") ok hm i_TS_count ml_La_49 wn_TS_count ws_TS_count wi_TS ⟨by decide, by decide, by show _ = some 1; decide +kernel⟩ rfl d_La_count_4 rfl (Nat.le_of_ble_eq_true rfl) hR h1 [] x [] e0 (fun z h => (nomatch h)) (by unfold covers; rw [e1, e2]; rfl) (by rw [e4]; decide) (by rw [e4]; exact gT_at 324 (by decide +kernel) (by decide +kernel)) (yT_at 346 (by decide +kernel) (by decide +kernel)) (fun M9 h9 => ?_)
  rw [e3]
  refine gh_astore_n (L' := [(0, .ref x0), (1, .int x1), (2, .ref x2)]) ok d_La_count_12 rfl (by rw [E.nL]; decide) rfl ?_
  refine g_iconst (v := 1) ok d_La_count_13 (by decide) ?_
  exact g_iret ok E d_La_count_14 (hp M9 h9) hk hn
