theorem k_La_add_0 {X : gC} {M : List mC} {k n : Nat} {x0 : Nat} {x1 : Int64} {x3 : Int64} {x5 : Int64} {x7 : Nat} {fs2 : List Value} (ok : gO X c_La_add "TripleStoreLaw" w_Tr_size) (h1 : M[x0]? = some (.inr (9, fs2))) {rm : Room} {post : Option Value → List mC → Prop} (hm : mm_ (gLa X) y_TS_add w_TS_add rm [.ref x0, .long x1, .long x3, .long x5] M post) (hR : gF X rm 13 k n) (hlen : ∀ r M', post r M' → M'.length = M.length) (kk : ∀ r M', post r M' → gg X M' (k + rm.cells) (n + rm.slots) 11 [(0, .ref x0), (1, .long x1), (3, .long x3), (5, .long x5), (7, .ref x7)] (r.toList ++ [.int 0, .ref x7])) : gg X M k n 0 [(0, .ref x0), (1, .long x1), (3, .long x3), (5, .long x5), (7, .ref x7)] [] := by
  refine g_aload ok d_La_add_0 (j := 4) rfl ?_
  refine g_iconst (v := 0) ok d_La_add_2 (by decide) ?_
  refine g_aload_n ok d_La_add_3 rfl (j := 0) rfl ?_
  refine g_lload_n ok d_La_add_4 rfl (j := 1) rfl ?_
  refine g_lload_n ok d_La_add_5 rfl (j := 2) rfl ?_
  refine g_lload ok d_La_add_6 (j := 3) rfl ?_
  exact gc_La_7 (As := [.long x1, .long x3, .long x5]) (rest := [.int 0, .ref x7]) ok d_La_add_8 hm rfl rfl (Nat.le_of_ble_eq_true rfl) hR h1 hlen kk
theorem k_La_add_11 {X : gC} {M : List mC} {k n : Nat} {x0 : Nat} {x1 : Int64} {x3 : Int64} {x5 : Int64} {x7 : Nat} {s1 : Int32} {s2 : Int32} {g2 : Nat → Int64} {N3 : Nat} {M5 : List mC} (ok : gO X c_La_add "TripleStoreLaw" w_Tr_size) (h1 : M[x7]? = some (.inl (1, N3, .inr (.inl g2)))) (h4 : vp_in s1 N3) (h6 : M.set x7 (.inl (1, N3, .inr (.inl (vp_updL g2 s1.toNatClampNeg (s2.toInt64))))) = M5) (kk : gg X M5 k n 24 [(0, .ref x0), (1, .long x1), (3, .long x3), (5, .long x5), (7, .ref x7)] []) : gg X M k n 11 [(0, .ref x0), (1, .long x1), (3, .long x3), (5, .long x5), (7, .ref x7)] [.int s2, .int s1, .ref x7] := by
  refine g_i2l ok d_La_add_11 ?_
  refine g_last (t := 1) ok rfl d_La_add_12 h1 h4 ?_
  rw [h6]
  have h7 : M5[x7]? = some (.inl (1, N3, .inr (.inl (vp_updL g2 s1.toNatClampNeg (s2.toInt64))))) := by rw [← h6]; exact gs_eq h1
  exact g_goto (tgt := 24) ok d_La_add_13 (by decide) kk
theorem k_La_add_24 {X : gC} {M : List mC} {k n : Nat} {x0 : Nat} {x1 : Int64} {x3 : Int64} {x5 : Int64} {x7 : Nat} (ok : gO X c_La_add "TripleStoreLaw" w_Tr_size)  {l9 : Launch} {rm : Room} {M0 : List mC} {post : Option Value → List mC → Prop} (E : gE X l9 y_La_add rm 9 (some .int) M0 post) (hp : post (some (.int 0)) M) (hk : k ≤ rm.cells) (hn : n ≤ rm.slots) : gg X M k n 24 [(0, .ref x0), (1, .long x1), (3, .long x3), (5, .long x5), (7, .ref x7)] [] := by
  refine g_iconst (v := 0) ok d_La_add_24 (by decide) ?_
  exact g_iret ok E d_La_add_25 hp hk hn
theorem k_La_remove_0 {X : gC} {M : List mC} {k n : Nat} {x0 : Nat} {x1 : Int64} {x3 : Int64} {x5 : Int64} {x7 : Nat} {fs2 : List Value} (ok : gO X c_La_remove "TripleStoreLaw" w_Tr_size) (h1 : M[x0]? = some (.inr (9, fs2))) {rm : Room} {post : Option Value → List mC → Prop} (hm : mm_ (gLa X) y_TS_remove w_TS_remove rm [.ref x0, .long x1, .long x3, .long x5] M post) (hR : gF X rm 7 k n) (hlen : ∀ r M', post r M' → M'.length = M.length) (kk : ∀ r M', post r M' → gg X M' (k + rm.cells) (n + rm.slots) 11 [(0, .ref x0), (1, .long x1), (3, .long x3), (5, .long x5), (7, .ref x7)] (r.toList ++ [.int 0, .ref x7])) : gg X M k n 0 [(0, .ref x0), (1, .long x1), (3, .long x3), (5, .long x5), (7, .ref x7)] [] := by
  refine g_aload ok d_La_remove_0 (j := 4) rfl ?_
  refine g_iconst (v := 0) ok d_La_remove_2 (by decide) ?_
  refine g_aload_n ok d_La_remove_3 rfl (j := 0) rfl ?_
  refine g_lload_n ok d_La_remove_4 rfl (j := 1) rfl ?_
  refine g_lload_n ok d_La_remove_5 rfl (j := 2) rfl ?_
  refine g_lload ok d_La_remove_6 (j := 3) rfl ?_
  exact gc_La_17 (As := [.long x1, .long x3, .long x5]) (rest := [.int 0, .ref x7]) ok d_La_remove_8 hm rfl rfl (Nat.le_of_ble_eq_true rfl) hR h1 hlen kk
theorem k_La_remove_11 {X : gC} {M : List mC} {k n : Nat} {x0 : Nat} {x1 : Int64} {x3 : Int64} {x5 : Int64} {x7 : Nat} {s1 : Int32} {s2 : Int32} {g2 : Nat → Int64} {N3 : Nat} {M5 : List mC} (ok : gO X c_La_remove "TripleStoreLaw" w_Tr_size) (h1 : M[x7]? = some (.inl (1, N3, .inr (.inl g2)))) (h4 : vp_in s1 N3) (h6 : M.set x7 (.inl (1, N3, .inr (.inl (vp_updL g2 s1.toNatClampNeg (s2.toInt64))))) = M5) (kk : gg X M5 k n 20 [(0, .ref x0), (1, .long x1), (3, .long x3), (5, .long x5), (7, .ref x7)] []) : gg X M k n 11 [(0, .ref x0), (1, .long x1), (3, .long x3), (5, .long x5), (7, .ref x7)] [.int s2, .int s1, .ref x7] := by
  refine g_i2l ok d_La_remove_11 ?_
  refine g_last (t := 1) ok rfl d_La_remove_12 h1 h4 ?_
  rw [h6]
  have h7 : M5[x7]? = some (.inl (1, N3, .inr (.inl (vp_updL g2 s1.toNatClampNeg (s2.toInt64))))) := by rw [← h6]; exact gs_eq h1
  exact g_goto (tgt := 20) ok d_La_remove_13 (by decide) kk
theorem k_La_remove_20 {X : gC} {M : List mC} {k n : Nat} {x0 : Nat} {x1 : Int64} {x3 : Int64} {x5 : Int64} {x7 : Nat} (ok : gO X c_La_remove "TripleStoreLaw" w_Tr_size)  {l9 : Launch} {rm : Room} {M0 : List mC} {post : Option Value → List mC → Prop} (E : gE X l9 y_La_remove rm 9 (some .int) M0 post) (hp : post (some (.int 0)) M) (hk : k ≤ rm.cells) (hn : n ≤ rm.slots) : gg X M k n 20 [(0, .ref x0), (1, .long x1), (3, .long x3), (5, .long x5), (7, .ref x7)] [] := by
  refine g_iconst (v := 0) ok d_La_remove_20 (by decide) ?_
  exact g_iret ok E d_La_remove_21 hp hk hn
theorem k_La_begin_0 {X : gC} {M : List mC} {k n : Nat} {x0 : Nat} {x1 : Nat} {fs2 : List Value} (ok : gO X c_La_begin "TripleStoreLaw" w_Tr_size) (h1 : M[x0]? = some (.inr (9, fs2))) {rm : Room} {post : Option Value → List mC → Prop} (hm : mm_ (gLa X) y_TS_begin w_TS_begin rm [.ref x0] M post) (hR : gF X rm 1 k n) (hlen : ∀ r M', post r M' → M'.length = M.length) (kk : ∀ r M', post r M' → gg X M' (k + rm.cells) (n + rm.slots) 6 [(0, .ref x0), (1, .ref x1)] (r.toList ++ [.int 0, .ref x1])) : gg X M k n 0 [(0, .ref x0), (1, .ref x1)] [] := by
  refine g_aload_n ok d_La_begin_0 rfl (j := 1) rfl ?_
  refine g_iconst (v := 0) ok d_La_begin_1 (by decide) ?_
  refine g_aload_n ok d_La_begin_2 rfl (j := 0) rfl ?_
  exact gc_La_20 (As := []) (rest := [.int 0, .ref x1]) ok d_La_begin_3 hm rfl rfl (Nat.le_of_ble_eq_true rfl) hR h1 hlen kk
theorem k_La_begin_6 {X : gC} {M : List mC} {k n : Nat} {x0 : Nat} {x1 : Nat} {s1 : Int32} {s2 : Int32} {g2 : Nat → Int64} {N3 : Nat} {M5 : List mC} (ok : gO X c_La_begin "TripleStoreLaw" w_Tr_size) (h1 : M[x1]? = some (.inl (1, N3, .inr (.inl g2)))) (h4 : vp_in s1 N3) (h6 : M.set x1 (.inl (1, N3, .inr (.inl (vp_updL g2 s1.toNatClampNeg (s2.toInt64))))) = M5) (kk : gg X M5 k n 14 [(0, .ref x0), (1, .ref x1)] []) : gg X M k n 6 [(0, .ref x0), (1, .ref x1)] [.int s2, .int s1, .ref x1] := by
  refine g_i2l ok d_La_begin_6 ?_
  refine g_last (t := 1) ok rfl d_La_begin_7 h1 h4 ?_
  rw [h6]
  have h7 : M5[x1]? = some (.inl (1, N3, .inr (.inl (vp_updL g2 s1.toNatClampNeg (s2.toInt64))))) := by rw [← h6]; exact gs_eq h1
  exact g_goto (tgt := 14) ok d_La_begin_8 (by decide) kk
theorem k_La_begin_14 {X : gC} {M : List mC} {k n : Nat} {x0 : Nat} {x1 : Nat} (ok : gO X c_La_begin "TripleStoreLaw" w_Tr_size)  {l9 : Launch} {rm : Room} {M0 : List mC} {post : Option Value → List mC → Prop} (E : gE X l9 y_La_begin rm 3 (some .int) M0 post) (hp : post (some (.int 0)) M) (hk : k ≤ rm.cells) (hn : n ≤ rm.slots) : gg X M k n 14 [(0, .ref x0), (1, .ref x1)] [] := by
  refine g_iconst (v := 0) ok d_La_begin_14 (by decide) ?_
  exact g_iret ok E d_La_begin_15 hp hk hn
theorem k_La_commit_0 {X : gC} {M : List mC} {k n : Nat} {x0 : Nat} {x1 : Nat} {fs2 : List Value} (ok : gO X c_La_commit "TripleStoreLaw" w_Tr_size) (h1 : M[x0]? = some (.inr (9, fs2))) {rm : Room} {post : Option Value → List mC → Prop} (hm : mm_ (gLa X) y_TS_commit w_TS_commit rm [.ref x0] M post) (hR : gF X rm 1 k n) (hlen : ∀ r M', post r M' → M'.length = M.length) (kk : ∀ r M', post r M' → gg X M' (k + rm.cells) (n + rm.slots) 6 [(0, .ref x0), (1, .ref x1)] (r.toList ++ [.int 0, .ref x1])) : gg X M k n 0 [(0, .ref x0), (1, .ref x1)] [] := by
  refine g_aload_n ok d_La_commit_0 rfl (j := 1) rfl ?_
  refine g_iconst (v := 0) ok d_La_commit_1 (by decide) ?_
  refine g_aload_n ok d_La_commit_2 rfl (j := 0) rfl ?_
  exact gc_La_24 (As := []) (rest := [.int 0, .ref x1]) ok d_La_commit_3 hm rfl rfl (Nat.le_of_ble_eq_true rfl) hR h1 hlen kk
theorem k_La_commit_6 {X : gC} {M : List mC} {k n : Nat} {x0 : Nat} {x1 : Nat} {s1 : Int32} {s2 : Int32} {g2 : Nat → Int64} {N3 : Nat} {M5 : List mC} (ok : gO X c_La_commit "TripleStoreLaw" w_Tr_size) (h1 : M[x1]? = some (.inl (1, N3, .inr (.inl g2)))) (h4 : vp_in s1 N3) (h6 : M.set x1 (.inl (1, N3, .inr (.inl (vp_updL g2 s1.toNatClampNeg (s2.toInt64))))) = M5) (kk : gg X M5 k n 14 [(0, .ref x0), (1, .ref x1)] []) : gg X M k n 6 [(0, .ref x0), (1, .ref x1)] [.int s2, .int s1, .ref x1] := by
  refine g_i2l ok d_La_commit_6 ?_
  refine g_last (t := 1) ok rfl d_La_commit_7 h1 h4 ?_
  rw [h6]
  have h7 : M5[x1]? = some (.inl (1, N3, .inr (.inl (vp_updL g2 s1.toNatClampNeg (s2.toInt64))))) := by rw [← h6]; exact gs_eq h1
  exact g_goto (tgt := 14) ok d_La_commit_8 (by decide) kk
theorem k_La_commit_14 {X : gC} {M : List mC} {k n : Nat} {x0 : Nat} {x1 : Nat} (ok : gO X c_La_commit "TripleStoreLaw" w_Tr_size)  {l9 : Launch} {rm : Room} {M0 : List mC} {post : Option Value → List mC → Prop} (E : gE X l9 y_La_commit rm 3 (some .int) M0 post) (hp : post (some (.int 0)) M) (hk : k ≤ rm.cells) (hn : n ≤ rm.slots) : gg X M k n 14 [(0, .ref x0), (1, .ref x1)] [] := by
  refine g_iconst (v := 0) ok d_La_commit_14 (by decide) ?_
  exact g_iret ok E d_La_commit_15 hp hk hn
theorem k_La_rollback_0 {X : gC} {M : List mC} {k n : Nat} {x0 : Nat} {x1 : Nat} {fs2 : List Value} (ok : gO X c_La_rollback "TripleStoreLaw" w_Tr_size) (h1 : M[x0]? = some (.inr (9, fs2))) {rm : Room} {post : Option Value → List mC → Prop} (hm : mm_ (gLa X) y_TS_rollback w_TS_rollback rm [.ref x0] M post) (hR : gF X rm 1 k n) (hlen : ∀ r M', post r M' → M'.length = M.length) (kk : ∀ r M', post r M' → gg X M' (k + rm.cells) (n + rm.slots) 6 [(0, .ref x0), (1, .ref x1)] (r.toList ++ [.int 0, .ref x1])) : gg X M k n 0 [(0, .ref x0), (1, .ref x1)] [] := by
  refine g_aload_n ok d_La_rollback_0 rfl (j := 1) rfl ?_
  refine g_iconst (v := 0) ok d_La_rollback_1 (by decide) ?_
  refine g_aload_n ok d_La_rollback_2 rfl (j := 0) rfl ?_
  exact gc_La_27 (As := []) (rest := [.int 0, .ref x1]) ok d_La_rollback_3 hm rfl rfl (Nat.le_of_ble_eq_true rfl) hR h1 hlen kk
theorem k_La_rollback_6 {X : gC} {M : List mC} {k n : Nat} {x0 : Nat} {x1 : Nat} {s1 : Int32} {s2 : Int32} {g2 : Nat → Int64} {N3 : Nat} {M5 : List mC} (ok : gO X c_La_rollback "TripleStoreLaw" w_Tr_size) (h1 : M[x1]? = some (.inl (1, N3, .inr (.inl g2)))) (h4 : vp_in s1 N3) (h6 : M.set x1 (.inl (1, N3, .inr (.inl (vp_updL g2 s1.toNatClampNeg (s2.toInt64))))) = M5) (kk : gg X M5 k n 14 [(0, .ref x0), (1, .ref x1)] []) : gg X M k n 6 [(0, .ref x0), (1, .ref x1)] [.int s2, .int s1, .ref x1] := by
  refine g_i2l ok d_La_rollback_6 ?_
  refine g_last (t := 1) ok rfl d_La_rollback_7 h1 h4 ?_
  rw [h6]
  have h7 : M5[x1]? = some (.inl (1, N3, .inr (.inl (vp_updL g2 s1.toNatClampNeg (s2.toInt64))))) := by rw [← h6]; exact gs_eq h1
  exact g_goto (tgt := 14) ok d_La_rollback_8 (by decide) kk
theorem k_La_rollback_14 {X : gC} {M : List mC} {k n : Nat} {x0 : Nat} {x1 : Nat} (ok : gO X c_La_rollback "TripleStoreLaw" w_Tr_size)  {l9 : Launch} {rm : Room} {M0 : List mC} {post : Option Value → List mC → Prop} (E : gE X l9 y_La_rollback rm 3 (some .int) M0 post) (hp : post (some (.int 0)) M) (hk : k ≤ rm.cells) (hn : n ≤ rm.slots) : gg X M k n 14 [(0, .ref x0), (1, .ref x1)] [] := by
  refine g_iconst (v := 0) ok d_La_rollback_14 (by decide) ?_
  exact g_iret ok E d_La_rollback_15 hp hk hn
theorem k_La_crash_0 {X : gC} {M : List mC} {k n : Nat} {x0 : Nat} {x1 : Int32} {x2 : Nat} {fs2 : List Value} (ok : gO X c_La_crash "TripleStoreLaw" w_Tr_size) (h1 : M[x0]? = some (.inr (9, fs2))) {rm : Room} {post : Option Value → List mC → Prop} (hm : mm_ (gLa X) y_TS_crash w_TS_crash rm [.ref x0, .int x1] M post) (hR : gF X rm 2 k n) (hlen : ∀ r M', post r M' → M'.length = M.length) (kk : ∀ r M', post r M' → gg X M' (k + rm.cells) (n + rm.slots) 7 [(0, .ref x0), (1, .int x1), (2, .ref x2)] (r.toList ++ [.int 0, .ref x2])) : gg X M k n 0 [(0, .ref x0), (1, .int x1), (2, .ref x2)] [] := by
  refine g_aload_n ok d_La_crash_0 rfl (j := 2) rfl ?_
  refine g_iconst (v := 0) ok d_La_crash_1 (by decide) ?_
  refine g_aload_n ok d_La_crash_2 rfl (j := 0) rfl ?_
  refine g_iload_n ok d_La_crash_3 rfl (j := 1) rfl ?_
  exact gc_La_30 (As := [.int x1]) (rest := [.int 0, .ref x2]) ok d_La_crash_4 hm rfl rfl (Nat.le_of_ble_eq_true rfl) hR h1 hlen kk
theorem k_La_crash_7 {X : gC} {M : List mC} {k n : Nat} {x0 : Nat} {x1 : Int32} {x2 : Nat} {s1 : Int32} {s2 : Int32} {g2 : Nat → Int64} {N3 : Nat} {M5 : List mC} (ok : gO X c_La_crash "TripleStoreLaw" w_Tr_size) (h1 : M[x2]? = some (.inl (1, N3, .inr (.inl g2)))) (h4 : vp_in s1 N3) (h6 : M.set x2 (.inl (1, N3, .inr (.inl (vp_updL g2 s1.toNatClampNeg (s2.toInt64))))) = M5) (kk : gg X M5 k n 15 [(0, .ref x0), (1, .int x1), (2, .ref x2)] []) : gg X M k n 7 [(0, .ref x0), (1, .int x1), (2, .ref x2)] [.int s2, .int s1, .ref x2] := by
  refine g_i2l ok d_La_crash_7 ?_
  refine g_last (t := 1) ok rfl d_La_crash_8 h1 h4 ?_
  rw [h6]
  have h7 : M5[x2]? = some (.inl (1, N3, .inr (.inl (vp_updL g2 s1.toNatClampNeg (s2.toInt64))))) := by rw [← h6]; exact gs_eq h1
  exact g_goto (tgt := 15) ok d_La_crash_9 (by decide) kk
theorem k_La_crash_15 {X : gC} {M : List mC} {k n : Nat} {x0 : Nat} {x1 : Int32} {x2 : Nat} (ok : gO X c_La_crash "TripleStoreLaw" w_Tr_size)  {l9 : Launch} {rm : Room} {M0 : List mC} {post : Option Value → List mC → Prop} (E : gE X l9 y_La_crash rm 4 (some .int) M0 post) (hp : post (some (.int 0)) M) (hk : k ≤ rm.cells) (hn : n ≤ rm.slots) : gg X M k n 15 [(0, .ref x0), (1, .int x1), (2, .ref x2)] [] := by
  refine g_iconst (v := 0) ok d_La_crash_15 (by decide) ?_
  exact g_iret ok E d_La_crash_16 hp hk hn
theorem k_La_append_0 {X : gC} {M : List mC} {k n : Nat} {x0 : Nat} {x1 : Int64} {x3 : Int32} {x4 : Nat} {fs2 : List Value} (ok : gO X c_La_append "TripleStoreLaw" w_Tr_size) (h1 : M[x0]? = some (.inr (9, fs2))) {rm : Room} {post : Option Value → List mC → Prop} (hm : mm_ (gLa X) y_TS_append w_TS_append rm [.ref x0, .long x1, .int x3] M post) (hR : gF X rm 5 k n) (hlen : ∀ r M', post r M' → M'.length = M.length) (kk : ∀ r M', post r M' → gg X M' (k + rm.cells) (n + rm.slots) 9 [(0, .ref x0), (1, .long x1), (3, .int x3), (4, .ref x4)] (r.toList ++ [.int 0, .ref x4])) : gg X M k n 0 [(0, .ref x0), (1, .long x1), (3, .int x3), (4, .ref x4)] [] := by
  refine g_aload ok d_La_append_0 (j := 3) rfl ?_
  refine g_iconst (v := 0) ok d_La_append_2 (by decide) ?_
  refine g_aload_n ok d_La_append_3 rfl (j := 0) rfl ?_
  refine g_lload_n ok d_La_append_4 rfl (j := 1) rfl ?_
  refine g_iload_n ok d_La_append_5 rfl (j := 2) rfl ?_
  exact gc_La_34 (As := [.long x1, .int x3]) (rest := [.int 0, .ref x4]) ok d_La_append_6 hm rfl rfl (Nat.le_of_ble_eq_true rfl) hR h1 hlen kk
theorem k_La_append_9 {X : gC} {M : List mC} {k n : Nat} {x0 : Nat} {x1 : Int64} {x3 : Int32} {x4 : Nat} {s1 : Int32} {s2 : Int32} {g2 : Nat → Int64} {N3 : Nat} {M5 : List mC} (ok : gO X c_La_append "TripleStoreLaw" w_Tr_size) (h1 : M[x4]? = some (.inl (1, N3, .inr (.inl g2)))) (h4 : vp_in s1 N3) (h6 : M.set x4 (.inl (1, N3, .inr (.inl (vp_updL g2 s1.toNatClampNeg (s2.toInt64))))) = M5) (kk : gg X M5 k n 22 [(0, .ref x0), (1, .long x1), (3, .int x3), (4, .ref x4)] []) : gg X M k n 9 [(0, .ref x0), (1, .long x1), (3, .int x3), (4, .ref x4)] [.int s2, .int s1, .ref x4] := by
  refine g_i2l ok d_La_append_9 ?_
  refine g_last (t := 1) ok rfl d_La_append_10 h1 h4 ?_
  rw [h6]
  have h7 : M5[x4]? = some (.inl (1, N3, .inr (.inl (vp_updL g2 s1.toNatClampNeg (s2.toInt64))))) := by rw [← h6]; exact gs_eq h1
  exact g_goto (tgt := 22) ok d_La_append_11 (by decide) kk
theorem k_La_append_22 {X : gC} {M : List mC} {k n : Nat} {x0 : Nat} {x1 : Int64} {x3 : Int32} {x4 : Nat} (ok : gO X c_La_append "TripleStoreLaw" w_Tr_size)  {l9 : Launch} {rm : Room} {M0 : List mC} {post : Option Value → List mC → Prop} (E : gE X l9 y_La_append rm 6 (some .int) M0 post) (hp : post (some (.int 0)) M) (hk : k ≤ rm.cells) (hn : n ≤ rm.slots) : gg X M k n 22 [(0, .ref x0), (1, .long x1), (3, .int x3), (4, .ref x4)] [] := by
  refine g_iconst (v := 0) ok d_La_append_22 (by decide) ?_
  exact g_iret ok E d_La_append_23 hp hk hn
theorem k_La_ask_0 {X : gC} {M : List mC} {k n : Nat} {x0 : Nat} {x1 : Nat} {fs2 : List Value} (ok : gO X c_La_ask "TripleStoreLaw" w_Tr_size) (h1 : M[x0]? = some (.inr (9, fs2))) {rm : Room} {post : Option Value → List mC → Prop} (hm : mm_ (gLa X) y_TS_ask w_TS_ask rm [.ref x0] M post) (hR : gF X rm 2 k n) (hlen : ∀ r M', post r M' → M'.length = M.length) (kk : ∀ r M', post r M' → gg X M' (k + rm.cells) (n + rm.slots) 6 [(0, .ref x0), (1, .ref x1)] (r.toList ++ [.int 0, .ref x1])) : gg X M k n 0 [(0, .ref x0), (1, .ref x1)] [] := by
  refine g_aload_n ok d_La_ask_0 rfl (j := 1) rfl ?_
  refine g_iconst (v := 0) ok d_La_ask_1 (by decide) ?_
  refine g_aload_n ok d_La_ask_2 rfl (j := 0) rfl ?_
  exact gc_La_38 (As := []) (rest := [.int 0, .ref x1]) ok d_La_ask_3 hm rfl rfl (Nat.le_of_ble_eq_true rfl) hR h1 hlen kk
theorem k_La_ask_6 {X : gC} {M : List mC} {k n : Nat} {x0 : Nat} {x1 : Nat} {s1 : Int32} {s2 : Int32} {g2 : Nat → Int64} {N3 : Nat} {M5 : List mC} (ok : gO X c_La_ask "TripleStoreLaw" w_Tr_size) (h1 : M[x1]? = some (.inl (1, N3, .inr (.inl g2)))) (h4 : vp_in s1 N3) (h6 : M.set x1 (.inl (1, N3, .inr (.inl (vp_updL g2 s1.toNatClampNeg (s2.toInt64))))) = M5) (kk : gg X M5 k n 17 [(0, .ref x0), (1, .ref x1)] []) : gg X M k n 6 [(0, .ref x0), (1, .ref x1)] [.int s2, .int s1, .ref x1] := by
  refine g_i2l ok d_La_ask_6 ?_
  refine g_last (t := 1) ok rfl d_La_ask_7 h1 h4 ?_
  rw [h6]
  have h7 : M5[x1]? = some (.inl (1, N3, .inr (.inl (vp_updL g2 s1.toNatClampNeg (s2.toInt64))))) := by rw [← h6]; exact gs_eq h1
  exact g_goto (tgt := 17) ok d_La_ask_8 (by decide) kk
theorem k_La_ask_17 {X : gC} {M : List mC} {k n : Nat} {x0 : Nat} {x1 : Nat} (ok : gO X c_La_ask "TripleStoreLaw" w_Tr_size)  {l9 : Launch} {rm : Room} {M0 : List mC} {post : Option Value → List mC → Prop} (E : gE X l9 y_La_ask rm 3 (some .int) M0 post) (hp : post (some (.int 0)) M) (hk : k ≤ rm.cells) (hn : n ≤ rm.slots) : gg X M k n 17 [(0, .ref x0), (1, .ref x1)] [] := by
  refine g_iconst (v := 0) ok d_La_ask_17 (by decide) ?_
  exact g_iret ok E d_La_ask_18 hp hk hn
theorem k_La_cell2_0 {X : gC} {M : List mC} {k n : Nat} {x0 : Nat} {x1 : Int32} {x2 : Int32} {x3 : Nat} {fs2 : List Value} (ok : gO X c_La_cell2 "TripleStoreLaw" w_Tr_size) (h1 : M[x0]? = some (.inr (9, fs2))) {rm : Room} {post : Option Value → List mC → Prop} (hm : mm_ (gLa X) y_TS_cell w_TS_cell rm [.ref x0, .int x1, .int x2] M post) (hR : gF X rm 5 k n) (hlen : ∀ r M', post r M' → M'.length = M.length) (kk : ∀ r M', post r M' → gg X M' (k + rm.cells) (n + rm.slots) 8 [(0, .ref x0), (1, .int x1), (2, .int x2), (3, .ref x3)] (r.toList ++ [.int 0, .ref x3])) : gg X M k n 0 [(0, .ref x0), (1, .int x1), (2, .int x2), (3, .ref x3)] [] := by
  refine g_aload_n ok d_La_cell2_0 rfl (j := 3) rfl ?_
  refine g_iconst (v := 0) ok d_La_cell2_1 (by decide) ?_
  refine g_aload_n ok d_La_cell2_2 rfl (j := 0) rfl ?_
  refine g_iload_n ok d_La_cell2_3 rfl (j := 1) rfl ?_
  refine g_iload_n ok d_La_cell2_4 rfl (j := 2) rfl ?_
  exact gc_La_41 (As := [.int x1, .int x2]) (rest := [.int 0, .ref x3]) ok d_La_cell2_5 hm rfl rfl (Nat.le_of_ble_eq_true rfl) hR h1 hlen kk
theorem k_La_cell2_8 {X : gC} {M : List mC} {k n : Nat} {x0 : Nat} {x1 : Int32} {x2 : Int32} {x3 : Nat} {s1 : Int32} {s2 : Int64} {g2 : Nat → Int64} {N3 : Nat} {M5 : List mC} (ok : gO X c_La_cell2 "TripleStoreLaw" w_Tr_size) (h1 : M[x3]? = some (.inl (1, N3, .inr (.inl g2)))) (h4 : vp_in s1 N3) (h6 : M.set x3 (.inl (1, N3, .inr (.inl (vp_updL g2 s1.toNatClampNeg s2)))) = M5) (kk : gg X M5 k n 20 [(0, .ref x0), (1, .int x1), (2, .int x2), (3, .ref x3)] []) : gg X M k n 8 [(0, .ref x0), (1, .int x1), (2, .int x2), (3, .ref x3)] [.long s2, .int s1, .ref x3] := by
  refine g_last (t := 1) ok rfl d_La_cell2_8 h1 h4 ?_
  rw [h6]
  have h7 : M5[x3]? = some (.inl (1, N3, .inr (.inl (vp_updL g2 s1.toNatClampNeg s2)))) := by rw [← h6]; exact gs_eq h1
  exact g_goto (tgt := 20) ok d_La_cell2_9 (by decide) kk
theorem k_La_cell2_20 {X : gC} {M : List mC} {k n : Nat} {x0 : Nat} {x1 : Int32} {x2 : Int32} {x3 : Nat} (ok : gO X c_La_cell2 "TripleStoreLaw" w_Tr_size)  {l9 : Launch} {rm : Room} {M0 : List mC} {post : Option Value → List mC → Prop} (E : gE X l9 y_La_cell2 rm 5 (some .int) M0 post) (hp : post (some (.int 0)) M) (hk : k ≤ rm.cells) (hn : n ≤ rm.slots) : gg X M k n 20 [(0, .ref x0), (1, .int x1), (2, .int x2), (3, .ref x3)] [] := by
  refine g_iconst (v := 0) ok d_La_cell2_20 (by decide) ?_
  exact g_iret ok E d_La_cell2_21 hp hk hn
theorem k_La_count_0 {X : gC} {M : List mC} {k n : Nat} {x0 : Nat} {x1 : Int32} {x2 : Nat} {fs2 : List Value} (ok : gO X c_La_count "TripleStoreLaw" w_Tr_size) (h1 : M[x0]? = some (.inr (9, fs2))) {rm : Room} {post : Option Value → List mC → Prop} (hm : mm_ (gLa X) y_TS_count w_TS_count rm [.ref x0, .int x1] M post) (hR : gF X rm 2 k n) (hlen : ∀ r M', post r M' → M'.length = M.length) (kk : ∀ r M', post r M' → gg X M' (k + rm.cells) (n + rm.slots) 7 [(0, .ref x0), (1, .int x1), (2, .ref x2)] (r.toList ++ [.int 0, .ref x2])) : gg X M k n 0 [(0, .ref x0), (1, .int x1), (2, .ref x2)] [] := by
  refine g_aload_n ok d_La_count_0 rfl (j := 2) rfl ?_
  refine g_iconst (v := 0) ok d_La_count_1 (by decide) ?_
  refine g_aload_n ok d_La_count_2 rfl (j := 0) rfl ?_
  refine g_iload_n ok d_La_count_3 rfl (j := 1) rfl ?_
  exact gc_La_49 (As := [.int x1]) (rest := [.int 0, .ref x2]) ok d_La_count_4 hm rfl rfl (Nat.le_of_ble_eq_true rfl) hR h1 hlen kk
theorem k_La_count_7 {X : gC} {M : List mC} {k n : Nat} {x0 : Nat} {x1 : Int32} {x2 : Nat} {s1 : Int32} {s2 : Int32} {g2 : Nat → Int64} {N3 : Nat} {M5 : List mC} (ok : gO X c_La_count "TripleStoreLaw" w_Tr_size) (h1 : M[x2]? = some (.inl (1, N3, .inr (.inl g2)))) (h4 : vp_in s1 N3) (h6 : M.set x2 (.inl (1, N3, .inr (.inl (vp_updL g2 s1.toNatClampNeg (s2.toInt64))))) = M5) (kk : gg X M5 k n 15 [(0, .ref x0), (1, .int x1), (2, .ref x2)] []) : gg X M k n 7 [(0, .ref x0), (1, .int x1), (2, .ref x2)] [.int s2, .int s1, .ref x2] := by
  refine g_i2l ok d_La_count_7 ?_
  refine g_last (t := 1) ok rfl d_La_count_8 h1 h4 ?_
  rw [h6]
  have h7 : M5[x2]? = some (.inl (1, N3, .inr (.inl (vp_updL g2 s1.toNatClampNeg (s2.toInt64))))) := by rw [← h6]; exact gs_eq h1
  exact g_goto (tgt := 15) ok d_La_count_9 (by decide) kk
theorem k_La_count_15 {X : gC} {M : List mC} {k n : Nat} {x0 : Nat} {x1 : Int32} {x2 : Nat} (ok : gO X c_La_count "TripleStoreLaw" w_Tr_size)  {l9 : Launch} {rm : Room} {M0 : List mC} {post : Option Value → List mC → Prop} (E : gE X l9 y_La_count rm 4 (some .int) M0 post) (hp : post (some (.int 0)) M) (hk : k ≤ rm.cells) (hn : n ≤ rm.slots) : gg X M k n 15 [(0, .ref x0), (1, .int x1), (2, .ref x2)] [] := by
  refine g_iconst (v := 0) ok d_La_count_15 (by decide) ?_
  exact g_iret ok E d_La_count_16 hp hk hn
theorem k_La_law_0 {X : gC} {M : List mC} {k n : Nat} {M4 : List mC} {q5 : Nat} (ok : gO X c_La_law "TripleStoreLaw" w_Tr_size) (h1 : k + 1 ≤ (gR X).cells) (h2 : n + 9 ≤ (gR X).slots) (h3 : gW M [(0, .ref spl)] []) (h6 : M ++ [.inr (9, [.null, .null, .null, .null, .null, .null, .null, .int 0, .int 0])] = M4) (h7 : M.length = q5) {rm : Room} {post : Option Value → List mC → Prop} (hm : mm_ (gLa X) y_TS_init w_TS_init rm [.ref q5] M4 post) (hR : gF X rm 1 (k + 1) (n + 9)) (hL : ∀ q ∈ ([(0, .ref spl)] : List (Nat × Value)), mk_v M4.length q.2) (hrs : ∀ v ∈ ([.ref q5] : List Value), mk_v M4.length v) (kk : ∀ r M', post r M' → gg X M' (k + 1 + rm.cells) (n + 9 + rm.slots) 7 [(0, .ref spl)] (r.toList ++ [.ref q5])) : gg X M k n 0 [(0, .ref spl)] [] := by
  refine g_new (C := RTS) (T := TTS) (N := 9) (ci := 9) (fs := [.null, .null, .null, .null, .null, .null, .null, .int 0, .int 0]) ok (fun w h => List.mem_cons_of_mem _ (inTS w h)) tyTS okTS (List.mem_cons_of_mem _ (gT_at 23 (by decide +kernel) (by decide +kernel))) (List.mem_cons_of_mem _ (gT_at 24 (by decide +kernel) (by decide +kernel))) (List.mem_cons_of_mem _ (gT_at 1 (by decide +kernel) (by decide +kernel))) rfl (by decide +kernel) (fun _ => rfl) d_La_law_0 h1 h2 h3 ?_
  rw [h6, h7]
  have h8 : M4[q5]? = some (.inr (9, [.null, .null, .null, .null, .null, .null, .null, .int 0, .int 0])) := by rw [← h6, ← h7]; exact ga_new _ _
  refine g_dup ok d_La_law_3 rfl ?_
  exact gc_La_52 (As := []) (rest := [.ref q5]) ok d_La_law_4 hm rfl rfl (Nat.le_of_ble_eq_true rfl) hR hL hrs kk
theorem k_La_law_7 {X : gC} {M : List mC} {k n : Nat} {s0 : Nat} {M4 : List mC} {q5 : Nat} (ok : gO X c_La_law "TripleStoreLaw" w_Tr_size) (hl : gL X = 8) (h1 : k + 1 ≤ (gR X).cells) (h2 : n + 59 ≤ (gR X).slots) (h3 : gW M [(0, .ref spl), (1, .ref s0)] []) (h6 : M ++ [.inr (10, [.null, .int 0, .null, .int 0, .null, .null, .null, .int 0, .int 0, .int 0, .int 0, .int 0, .null, .int 0, .int 0, .int 0, .long 0, .int 0, .int 0, .int 0, .int 0, .int 0, .int 0, .null, .int 0, .int 0, .int 0, .int 0, .null, .null, .null, .null, .int 0, .null, .null, .int 0, .null, .null, .null, .int 0, .null, .int 0, .null, .int 0, .int 0, .int 0, .int 0, .null, .null, .null, .int 0, .int 0, .null, .null, .null, .int 0, .null, .int 0, .int 0])] = M4) (h7 : M.length = q5) {rm : Room} {post : Option Value → List mC → Prop} (hm : mm_ (gLa X) y_Mo_init w_Mo_init rm [.ref q5] M4 post) (hR : gF X rm 1 (k + 1) (n + 59)) (hL : ∀ q ∈ ([(0, .ref spl), (1, .ref s0)] : List (Nat × Value)), mk_v M4.length q.2) (hrs : ∀ v ∈ ([.ref q5] : List Value), mk_v M4.length v) (kk : ∀ r M', post r M' → gg X M' (k + 1 + rm.cells) (n + 59 + rm.slots) 15 [(0, .ref spl), (1, .ref s0)] (r.toList ++ [.ref q5])) : gg X M k n 7 [(0, .ref spl)] [.ref s0] := by
  refine g_astore_n (L' := [(0, .ref spl), (1, .ref s0)]) ok d_La_law_7 rfl (by rw [hl]; decide) rfl ?_
  refine g_new (C := RMo) (T := TMo) (N := 59) (ci := 10) (fs := [.null, .int 0, .null, .int 0, .null, .null, .null, .int 0, .int 0, .int 0, .int 0, .int 0, .null, .int 0, .int 0, .int 0, .long 0, .int 0, .int 0, .int 0, .int 0, .int 0, .int 0, .null, .int 0, .int 0, .int 0, .int 0, .null, .null, .null, .null, .int 0, .null, .null, .int 0, .null, .null, .null, .int 0, .null, .int 0, .null, .int 0, .int 0, .int 0, .int 0, .null, .null, .null, .int 0, .int 0, .null, .null, .null, .int 0, .null, .int 0, .int 0]) ok (fun w h => List.mem_cons_of_mem _ (inMo w h)) tyMo okMo (List.mem_cons_of_mem _ (gT_at 969 (by decide +kernel) (by decide +kernel))) (List.mem_cons_of_mem _ (gT_at 970 (by decide +kernel) (by decide +kernel))) (List.mem_cons_of_mem _ (gT_at 11 (by decide +kernel) (by decide +kernel))) rfl (by decide +kernel) (fun _ => rfl) d_La_law_8 h1 h2 h3 ?_
  rw [h6, h7]
  have h8 : M4[q5]? = some (.inr (10, [.null, .int 0, .null, .int 0, .null, .null, .null, .int 0, .int 0, .int 0, .int 0, .int 0, .null, .int 0, .int 0, .int 0, .long 0, .int 0, .int 0, .int 0, .int 0, .int 0, .int 0, .null, .int 0, .int 0, .int 0, .int 0, .null, .null, .null, .null, .int 0, .null, .null, .int 0, .null, .null, .null, .int 0, .null, .int 0, .null, .int 0, .int 0, .int 0, .int 0, .null, .null, .null, .int 0, .int 0, .null, .null, .null, .int 0, .null, .int 0, .int 0])) := by rw [← h6, ← h7]; exact ga_new _ _
  refine g_dup ok d_La_law_11 rfl ?_
  exact gc_La_55 (As := []) (rest := [.ref q5]) ok d_La_law_12 hm rfl rfl (Nat.le_of_ble_eq_true rfl) hR hL hrs kk
theorem k_La_law_15 {X : gC} {M : List mC} {k n : Nat} {x1 : Nat} {s0 : Nat} {M4 : List mC} {q5 : Nat} (ok : gO X c_La_law "TripleStoreLaw" w_Tr_size) (hl : gL X = 8) (h1 : k + 1 ≤ (gR X).cells) (h2 : n + 1 ≤ (gR X).slots) (h3 : gW M [(0, .ref spl), (1, .ref x1), (2, .ref s0)] []) (h6 : M ++ [.inl (1, 1, .inr (.inl (fun _ => 0)))] = M4) (h7 : M.length = q5) (kk : gg X M4 (k + 1) (n + 1) 23 [(0, .ref spl), (1, .ref x1), (2, .ref s0), (3, .ref q5), (4, .int 0)] []) : gg X M k n 15 [(0, .ref spl), (1, .ref x1)] [.ref s0] := by
  refine g_astore_n (L' := [(0, .ref spl), (1, .ref x1), (2, .ref s0)]) ok d_La_law_15 rfl (by rw [hl]; decide) rfl ?_
  refine g_iconst (v := 1) ok d_La_law_16 (by decide) ?_
  refine g_newa (atype := .long) (ty := .long) (t := 1) (N := 1) (a0 := (1, .inr (.inl (fun _ => 0)))) ok (List.mem_cons_of_mem _ (gT_at 56 (by decide +kernel) (by decide +kernel))) rfl rfl (fun _ => rfl) (fun _ => rfl) (by decide) (by decide) (by decide) d_La_law_17 h1 h2 h3 ?_
  rw [h6, h7]
  have h8 : M4[q5]? = some (.inl (1, 1, .inr (.inl (fun _ => 0)))) := by rw [← h6, ← h7]; exact ga_new _ _
  refine g_astore_n (L' := [(0, .ref spl), (1, .ref x1), (2, .ref s0), (3, .ref q5)]) ok d_La_law_19 rfl (by rw [hl]; decide) rfl ?_
  refine g_iconst (v := 0) ok d_La_law_20 (by decide) ?_
  refine g_istore (L' := [(0, .ref spl), (1, .ref x1), (2, .ref s0), (3, .ref q5), (4, .int 0)]) ok d_La_law_21 (by rw [hl]; decide) rfl ?_
  exact kk
theorem k_La_law_23 {X : gC} {M : List mC} {k n : Nat} {x1 : Nat} {x2 : Nat} {x3 : Nat} {x4 : Int32} {Ln : Nat} {xs : Nat → Int32} (ok : gO X c_La_law "TripleStoreLaw" w_Tr_size) (S : gSc X Ln xs)  (kt : ((nI Ln) - 7) < x4 → gg X M k n 696 [(0, .ref spl), (1, .ref x1), (2, .ref x2), (3, .ref x3), (4, .int x4)] []) (kf : ¬ ((nI Ln) - 7) < x4 → gg X M k n 33 [(0, .ref spl), (1, .ref x1), (2, .ref x2), (3, .ref x3), (4, .int x4)] []) : gg X M k n 23 [(0, .ref spl), (1, .ref x1), (2, .ref x2), (3, .ref x3), (4, .int x4)] [] := by
  refine g_iload ok d_La_law_23 (j := 4) rfl ?_
  refine g_aload_n ok d_La_law_25 rfl (j := 0) rfl ?_
  refine g_slen ok S d_La_law_26 ?_
  refine g_bipush (v := 7) ok d_La_law_27 (by decide) ?_
  refine g_isub ok d_La_law_29 ?_
  exact g_icmp_gt (tgt := 696) ok d_La_law_30 (by decide) (fun z => (kt z)) (fun z => (kf z))
theorem k_La_law_33 {X : gC} {M : List mC} {k n : Nat} {x1 : Nat} {x2 : Nat} {x3 : Nat} {x4 : Int32} {Ln : Nat} {xs : Nat → Int32} (ok : gO X c_La_law "TripleStoreLaw" w_Tr_size) (S : gSc X Ln xs) (h1 : vp_in x4 Ln) (k0 : (((xs x4.toNatClampNeg) &&& 15) : Int32) = 0 → gg X M k n 104 [(0, .ref spl), (1, .ref x1), (2, .ref x2), (3, .ref x3), (4, .int x4)] []) (k1 : (((xs x4.toNatClampNeg) &&& 15) : Int32) = 1 → gg X M k n 254 [(0, .ref spl), (1, .ref x1), (2, .ref x2), (3, .ref x3), (4, .int x4)] []) (k2 : (((xs x4.toNatClampNeg) &&& 15) : Int32) = 2 → gg X M k n 404 [(0, .ref spl), (1, .ref x1), (2, .ref x2), (3, .ref x3), (4, .int x4)] []) (k3 : (((xs x4.toNatClampNeg) &&& 15) : Int32) = 3 → gg X M k n 420 [(0, .ref spl), (1, .ref x1), (2, .ref x2), (3, .ref x3), (4, .int x4)] []) (k4 : (((xs x4.toNatClampNeg) &&& 15) : Int32) = 4 → gg X M k n 436 [(0, .ref spl), (1, .ref x1), (2, .ref x2), (3, .ref x3), (4, .int x4)] []) (k5 : (((xs x4.toNatClampNeg) &&& 15) : Int32) = 5 → gg X M k n 452 [(0, .ref spl), (1, .ref x1), (2, .ref x2), (3, .ref x3), (4, .int x4)] []) (k6 : (((xs x4.toNatClampNeg) &&& 15) : Int32) = 6 → gg X M k n 465 [(0, .ref spl), (1, .ref x1), (2, .ref x2), (3, .ref x3), (4, .int x4)] []) (k7 : (((xs x4.toNatClampNeg) &&& 15) : Int32) = 7 → gg X M k n 493 [(0, .ref spl), (1, .ref x1), (2, .ref x2), (3, .ref x3), (4, .int x4)] []) (k8 : (((xs x4.toNatClampNeg) &&& 15) : Int32) = 8 → gg X M k n 593 [(0, .ref spl), (1, .ref x1), (2, .ref x2), (3, .ref x3), (4, .int x4)] []) (k9 : (((xs x4.toNatClampNeg) &&& 15) : Int32) = 9 → gg X M k n 609 [(0, .ref spl), (1, .ref x1), (2, .ref x2), (3, .ref x3), (4, .int x4)] []) (k10 : (((xs x4.toNatClampNeg) &&& 15) : Int32) = 10 → gg X M k n 622 [(0, .ref spl), (1, .ref x1), (2, .ref x2), (3, .ref x3), (4, .int x4)] []) (k11 : (((xs x4.toNatClampNeg) &&& 15) : Int32) = 11 → gg X M k n 662 [(0, .ref spl), (1, .ref x1), (2, .ref x2), (3, .ref x3), (4, .int x4)] []) (kd : (((xs x4.toNatClampNeg) &&& 15) : Int32).toInt < 0 ∨ 11 < (((xs x4.toNatClampNeg) &&& 15) : Int32).toInt → gg X M k n 690 [(0, .ref spl), (1, .ref x1), (2, .ref x2), (3, .ref x3), (4, .int x4)] []) : gg X M k n 33 [(0, .ref spl), (1, .ref x1), (2, .ref x2), (3, .ref x3), (4, .int x4)] [] := by
  refine g_aload_n ok d_La_law_33 rfl (j := 0) rfl ?_
  refine g_iload ok d_La_law_34 (j := 4) rfl ?_
  refine g_sld ok S d_La_law_36 h1 ?_
  refine g_bipush (v := 15) ok d_La_law_37 (by decide) ?_
  refine g_iand ok d_La_law_39 ?_
  by_cases hq : (((xs x4.toNatClampNeg) &&& 15) : Int32).toInt < 0 ∨ 11 < (((xs x4.toNatClampNeg) &&& 15) : Int32).toInt
  · exact g_tableOut (tgt := 690) ok d_La_law_40 hq (by decide) (kd hq)
  · have e : (((xs x4.toNatClampNeg) &&& 15) : Int32).toInt = 0 ∨ (((xs x4.toNatClampNeg) &&& 15) : Int32).toInt = 1 ∨ (((xs x4.toNatClampNeg) &&& 15) : Int32).toInt = 2 ∨ (((xs x4.toNatClampNeg) &&& 15) : Int32).toInt = 3 ∨ (((xs x4.toNatClampNeg) &&& 15) : Int32).toInt = 4 ∨ (((xs x4.toNatClampNeg) &&& 15) : Int32).toInt = 5 ∨ (((xs x4.toNatClampNeg) &&& 15) : Int32).toInt = 6 ∨ (((xs x4.toNatClampNeg) &&& 15) : Int32).toInt = 7 ∨ (((xs x4.toNatClampNeg) &&& 15) : Int32).toInt = 8 ∨ (((xs x4.toNatClampNeg) &&& 15) : Int32).toInt = 9 ∨ (((xs x4.toNatClampNeg) &&& 15) : Int32).toInt = 10 ∨ (((xs x4.toNatClampNeg) &&& 15) : Int32).toInt = 11 := by omega
    rcases e with e | e | e | e | e | e | e | e | e | e | e | e
    · exact g_tableIn (off := 64) (tgt := 104) ok d_La_law_40 (by omega) (by omega) (by rw [e]; rfl) (by decide) (k0 ((i32_of e).trans (by decide)))
    · exact g_tableIn (off := 214) (tgt := 254) ok d_La_law_40 (by omega) (by omega) (by rw [e]; rfl) (by decide) (k1 ((i32_of e).trans (by decide)))
    · exact g_tableIn (off := 364) (tgt := 404) ok d_La_law_40 (by omega) (by omega) (by rw [e]; rfl) (by decide) (k2 ((i32_of e).trans (by decide)))
    · exact g_tableIn (off := 380) (tgt := 420) ok d_La_law_40 (by omega) (by omega) (by rw [e]; rfl) (by decide) (k3 ((i32_of e).trans (by decide)))
    · exact g_tableIn (off := 396) (tgt := 436) ok d_La_law_40 (by omega) (by omega) (by rw [e]; rfl) (by decide) (k4 ((i32_of e).trans (by decide)))
    · exact g_tableIn (off := 412) (tgt := 452) ok d_La_law_40 (by omega) (by omega) (by rw [e]; rfl) (by decide) (k5 ((i32_of e).trans (by decide)))
    · exact g_tableIn (off := 425) (tgt := 465) ok d_La_law_40 (by omega) (by omega) (by rw [e]; rfl) (by decide) (k6 ((i32_of e).trans (by decide)))
    · exact g_tableIn (off := 453) (tgt := 493) ok d_La_law_40 (by omega) (by omega) (by rw [e]; rfl) (by decide) (k7 ((i32_of e).trans (by decide)))
    · exact g_tableIn (off := 553) (tgt := 593) ok d_La_law_40 (by omega) (by omega) (by rw [e]; rfl) (by decide) (k8 ((i32_of e).trans (by decide)))
    · exact g_tableIn (off := 569) (tgt := 609) ok d_La_law_40 (by omega) (by omega) (by rw [e]; rfl) (by decide) (k9 ((i32_of e).trans (by decide)))
    · exact g_tableIn (off := 582) (tgt := 622) ok d_La_law_40 (by omega) (by omega) (by rw [e]; rfl) (by decide) (k10 ((i32_of e).trans (by decide)))
    · exact g_tableIn (off := 622) (tgt := 662) ok d_La_law_40 (by omega) (by omega) (by rw [e]; rfl) (by decide) (k11 ((i32_of e).trans (by decide)))
theorem k_La_law_104 {X : gC} {M : List mC} {k n : Nat} {x1 : Nat} {x2 : Nat} {x3 : Nat} {x4 : Int32} {Ln : Nat} {xs : Nat → Int32} (ok : gO X c_La_law "TripleStoreLaw" w_Tr_size) (S : gSc X Ln xs) (h1 : vp_in (x4 + 1) Ln) (h2 : vp_in (x4 + 2) Ln) (h3 : vp_in (x4 + 3) Ln) (h4 : vp_in (x4 + 4) Ln) (h5 : vp_in (x4 + 5) Ln) (h6 : vp_in (x4 + 6) Ln) {rm : Room} {post : Option Value → List mC → Prop} (hm : mm_ (gLa X) y_La_add w_La_add rm [.ref x1, .long (((((xs (x4 + 1).toNatClampNeg) : Int32).toInt64) <<< ((32 : Int32).toInt64 &&& 63)) ||| ((((xs (x4 + 2).toNatClampNeg) : Int32).toInt64) &&& 4294967295)), .long (((((xs (x4 + 3).toNatClampNeg) : Int32).toInt64) <<< ((32 : Int32).toInt64 &&& 63)) ||| ((((xs (x4 + 4).toNatClampNeg) : Int32).toInt64) &&& 4294967295)), .long (((((xs (x4 + 5).toNatClampNeg) : Int32).toInt64) <<< ((32 : Int32).toInt64 &&& 63)) ||| ((((xs (x4 + 6).toNatClampNeg) : Int32).toInt64) &&& 4294967295)), .ref x3] M post) (hR : gF X rm 9 k n) (hlen : ∀ r M', post r M' → M'.length = M.length) (kk : ∀ r M', post r M' → gg X M' (k + rm.cells) (n + rm.slots) 176 [(0, .ref spl), (1, .ref x1), (2, .ref x2), (3, .ref x3), (4, .int x4)] (r.toList ++ [])) : gg X M k n 104 [(0, .ref spl), (1, .ref x1), (2, .ref x2), (3, .ref x3), (4, .int x4)] [] := by
  refine g_aload_n ok d_La_law_104 rfl (j := 1) rfl ?_
  refine g_aload_n ok d_La_law_105 rfl (j := 0) rfl ?_
  refine g_iload ok d_La_law_106 (j := 4) rfl ?_
  refine g_iconst (v := 1) ok d_La_law_108 (by decide) ?_
  refine g_iadd ok d_La_law_109 ?_
  refine g_sld ok S d_La_law_110 h1 ?_
  refine g_i2l ok d_La_law_111 ?_
  refine g_bipush (v := 32) ok d_La_law_112 (by decide) ?_
  refine g_lshl ok d_La_law_114 ?_
  refine g_aload_n ok d_La_law_115 rfl (j := 0) rfl ?_
  refine g_iload ok d_La_law_116 (j := 4) rfl ?_
  refine g_iconst (v := 2) ok d_La_law_118 (by decide) ?_
  refine g_iadd ok d_La_law_119 ?_
  refine g_sld ok S d_La_law_120 h2 ?_
  refine g_i2l ok d_La_law_121 ?_
  refine g_ldc2 (v := 4294967295) ok (List.mem_cons_of_mem _ (gT_at 1390 (by decide +kernel) (by decide +kernel))) d_La_law_122 ?_
  refine g_land ok d_La_law_125 ?_
  refine g_lor ok d_La_law_126 ?_
  refine g_aload_n ok d_La_law_127 rfl (j := 0) rfl ?_
  refine g_iload ok d_La_law_128 (j := 4) rfl ?_
  refine g_iconst (v := 3) ok d_La_law_130 (by decide) ?_
  refine g_iadd ok d_La_law_131 ?_
  refine g_sld ok S d_La_law_132 h3 ?_
  refine g_i2l ok d_La_law_133 ?_
  refine g_bipush (v := 32) ok d_La_law_134 (by decide) ?_
  refine g_lshl ok d_La_law_136 ?_
  refine g_aload_n ok d_La_law_137 rfl (j := 0) rfl ?_
  refine g_iload ok d_La_law_138 (j := 4) rfl ?_
  refine g_iconst (v := 4) ok d_La_law_140 (by decide) ?_
  refine g_iadd ok d_La_law_141 ?_
  refine g_sld ok S d_La_law_142 h4 ?_
  refine g_i2l ok d_La_law_143 ?_
  refine g_ldc2 (v := 4294967295) ok (List.mem_cons_of_mem _ (gT_at 1390 (by decide +kernel) (by decide +kernel))) d_La_law_144 ?_
  refine g_land ok d_La_law_147 ?_
  refine g_lor ok d_La_law_148 ?_
  refine g_aload_n ok d_La_law_149 rfl (j := 0) rfl ?_
  refine g_iload ok d_La_law_150 (j := 4) rfl ?_
  refine g_iconst (v := 5) ok d_La_law_152 (by decide) ?_
  refine g_iadd ok d_La_law_153 ?_
  refine g_sld ok S d_La_law_154 h5 ?_
  refine g_i2l ok d_La_law_155 ?_
  refine g_bipush (v := 32) ok d_La_law_156 (by decide) ?_
  refine g_lshl ok d_La_law_158 ?_
  refine g_aload_n ok d_La_law_159 rfl (j := 0) rfl ?_
  refine g_iload ok d_La_law_160 (j := 4) rfl ?_
  refine g_bipush (v := 6) ok d_La_law_162 (by decide) ?_
  refine g_iadd ok d_La_law_164 ?_
  refine g_sld ok S d_La_law_165 h6 ?_
  refine g_i2l ok d_La_law_166 ?_
  refine g_ldc2 (v := 4294967295) ok (List.mem_cons_of_mem _ (gT_at 1390 (by decide +kernel) (by decide +kernel))) d_La_law_167 ?_
  refine g_land ok d_La_law_170 ?_
  refine g_lor ok d_La_law_171 ?_
  refine g_aload_n ok d_La_law_172 rfl (j := 3) rfl ?_
  exact gc_La_58 (As := [.ref x1, .long (((((xs (x4 + 1).toNatClampNeg) : Int32).toInt64) <<< ((32 : Int32).toInt64 &&& 63)) ||| ((((xs (x4 + 2).toNatClampNeg) : Int32).toInt64) &&& 4294967295)), .long (((((xs (x4 + 3).toNatClampNeg) : Int32).toInt64) <<< ((32 : Int32).toInt64 &&& 63)) ||| ((((xs (x4 + 4).toNatClampNeg) : Int32).toInt64) &&& 4294967295)), .long (((((xs (x4 + 5).toNatClampNeg) : Int32).toInt64) <<< ((32 : Int32).toInt64 &&& 63)) ||| ((((xs (x4 + 6).toNatClampNeg) : Int32).toInt64) &&& 4294967295)), .ref x3]) (rest := []) ok d_La_law_173 hm rfl rfl (Nat.le_of_ble_eq_true rfl) hR hlen kk
theorem k_La_law_176 {X : gC} {M : List mC} {k n : Nat} {x1 : Nat} {x2 : Nat} {x3 : Nat} {x4 : Int32} {s0 : Int32} {fs8 : List Value} {Ln : Nat} {xs : Nat → Int32} (ok : gO X c_La_law "TripleStoreLaw" w_Tr_size) (S : gSc X Ln xs) (hl : gL X = 8) (h1 : vp_in (x4 + 1) Ln) (h2 : vp_in (x4 + 2) Ln) (h3 : vp_in (x4 + 3) Ln) (h4 : vp_in (x4 + 4) Ln) (h5 : vp_in (x4 + 5) Ln) (h6 : vp_in (x4 + 6) Ln) (h7 : M[x2]? = some (.inr (10, fs8))) {rm : Room} {post : Option Value → List mC → Prop} (hm : mm_ (gLa X) y_Mo_add w_Mo_add rm [.ref x2, .long (((((xs (x4 + 1).toNatClampNeg) : Int32).toInt64) <<< ((32 : Int32).toInt64 &&& 63)) ||| ((((xs (x4 + 2).toNatClampNeg) : Int32).toInt64) &&& 4294967295)), .long (((((xs (x4 + 3).toNatClampNeg) : Int32).toInt64) <<< ((32 : Int32).toInt64 &&& 63)) ||| ((((xs (x4 + 4).toNatClampNeg) : Int32).toInt64) &&& 4294967295)), .long (((((xs (x4 + 5).toNatClampNeg) : Int32).toInt64) <<< ((32 : Int32).toInt64 &&& 63)) ||| ((((xs (x4 + 6).toNatClampNeg) : Int32).toInt64) &&& 4294967295))] M post) (hR : gF X rm 7 k n) (hlen : ∀ r M', post r M' → M'.length = M.length) (kk : ∀ r M', post r M' → gg X M' (k + rm.cells) (n + rm.slots) 249 [(0, .ref spl), (1, .ref x1), (2, .ref x2), (3, .ref x3), (4, .int x4), (5, .int s0)] (r.toList ++ [])) : gg X M k n 176 [(0, .ref spl), (1, .ref x1), (2, .ref x2), (3, .ref x3), (4, .int x4)] [.int s0] := by
  refine g_istore (L' := [(0, .ref spl), (1, .ref x1), (2, .ref x2), (3, .ref x3), (4, .int x4), (5, .int s0)]) ok d_La_law_176 (by rw [hl]; decide) rfl ?_
  refine g_aload_n ok d_La_law_178 rfl (j := 2) rfl ?_
  refine g_aload_n ok d_La_law_179 rfl (j := 0) rfl ?_
  refine g_iload ok d_La_law_180 (j := 4) rfl ?_
  refine g_iconst (v := 1) ok d_La_law_182 (by decide) ?_
  refine g_iadd ok d_La_law_183 ?_
  refine g_sld ok S d_La_law_184 h1 ?_
  refine g_i2l ok d_La_law_185 ?_
  refine g_bipush (v := 32) ok d_La_law_186 (by decide) ?_
  refine g_lshl ok d_La_law_188 ?_
  refine g_aload_n ok d_La_law_189 rfl (j := 0) rfl ?_
  refine g_iload ok d_La_law_190 (j := 4) rfl ?_
  refine g_iconst (v := 2) ok d_La_law_192 (by decide) ?_
  refine g_iadd ok d_La_law_193 ?_
  refine g_sld ok S d_La_law_194 h2 ?_
  refine g_i2l ok d_La_law_195 ?_
  refine g_ldc2 (v := 4294967295) ok (List.mem_cons_of_mem _ (gT_at 1390 (by decide +kernel) (by decide +kernel))) d_La_law_196 ?_
  refine g_land ok d_La_law_199 ?_
  refine g_lor ok d_La_law_200 ?_
  refine g_aload_n ok d_La_law_201 rfl (j := 0) rfl ?_
  refine g_iload ok d_La_law_202 (j := 4) rfl ?_
  refine g_iconst (v := 3) ok d_La_law_204 (by decide) ?_
  refine g_iadd ok d_La_law_205 ?_
  refine g_sld ok S d_La_law_206 h3 ?_
  refine g_i2l ok d_La_law_207 ?_
  refine g_bipush (v := 32) ok d_La_law_208 (by decide) ?_
  refine g_lshl ok d_La_law_210 ?_
  refine g_aload_n ok d_La_law_211 rfl (j := 0) rfl ?_
  refine g_iload ok d_La_law_212 (j := 4) rfl ?_
  refine g_iconst (v := 4) ok d_La_law_214 (by decide) ?_
  refine g_iadd ok d_La_law_215 ?_
  refine g_sld ok S d_La_law_216 h4 ?_
  refine g_i2l ok d_La_law_217 ?_
  refine g_ldc2 (v := 4294967295) ok (List.mem_cons_of_mem _ (gT_at 1390 (by decide +kernel) (by decide +kernel))) d_La_law_218 ?_
  refine g_land ok d_La_law_221 ?_
  refine g_lor ok d_La_law_222 ?_
  refine g_aload_n ok d_La_law_223 rfl (j := 0) rfl ?_
  refine g_iload ok d_La_law_224 (j := 4) rfl ?_
  refine g_iconst (v := 5) ok d_La_law_226 (by decide) ?_
  refine g_iadd ok d_La_law_227 ?_
  refine g_sld ok S d_La_law_228 h5 ?_
  refine g_i2l ok d_La_law_229 ?_
  refine g_bipush (v := 32) ok d_La_law_230 (by decide) ?_
  refine g_lshl ok d_La_law_232 ?_
  refine g_aload_n ok d_La_law_233 rfl (j := 0) rfl ?_
  refine g_iload ok d_La_law_234 (j := 4) rfl ?_
  refine g_bipush (v := 6) ok d_La_law_236 (by decide) ?_
  refine g_iadd ok d_La_law_238 ?_
  refine g_sld ok S d_La_law_239 h6 ?_
  refine g_i2l ok d_La_law_240 ?_
  refine g_ldc2 (v := 4294967295) ok (List.mem_cons_of_mem _ (gT_at 1390 (by decide +kernel) (by decide +kernel))) d_La_law_241 ?_
  refine g_land ok d_La_law_244 ?_
  refine g_lor ok d_La_law_245 ?_
  exact gc_La_63 (As := [.long (((((xs (x4 + 1).toNatClampNeg) : Int32).toInt64) <<< ((32 : Int32).toInt64 &&& 63)) ||| ((((xs (x4 + 2).toNatClampNeg) : Int32).toInt64) &&& 4294967295)), .long (((((xs (x4 + 3).toNatClampNeg) : Int32).toInt64) <<< ((32 : Int32).toInt64 &&& 63)) ||| ((((xs (x4 + 4).toNatClampNeg) : Int32).toInt64) &&& 4294967295)), .long (((((xs (x4 + 5).toNatClampNeg) : Int32).toInt64) <<< ((32 : Int32).toInt64 &&& 63)) ||| ((((xs (x4 + 6).toNatClampNeg) : Int32).toInt64) &&& 4294967295))]) (rest := []) ok d_La_law_246 hm rfl rfl (Nat.le_of_ble_eq_true rfl) hR h7 hlen kk
theorem k_La_law_249 {X : gC} {M : List mC} {k n : Nat} {x1 : Nat} {x2 : Nat} {x3 : Nat} {x4 : Int32} {x5 : Int32} {s0 : Int32} (ok : gO X c_La_law "TripleStoreLaw" w_Tr_size) (hl : gL X = 8)  (kk : gg X M k n 690 [(0, .ref spl), (1, .ref x1), (2, .ref x2), (3, .ref x3), (4, .int x4)] []) : gg X M k n 249 [(0, .ref spl), (1, .ref x1), (2, .ref x2), (3, .ref x3), (4, .int x4), (5, .int x5)] [.int s0] := by
  refine g_istore (L' := [(0, .ref spl), (1, .ref x1), (2, .ref x2), (3, .ref x3), (4, .int x4), (5, .int x5), (6, .int s0)]) ok d_La_law_249 (by rw [hl]; decide) rfl ?_
  exact g_goto (tgt := 690) ok d_La_law_251 (by decide) (gg_keep [0, 1, 2, 3, 4] kk)
theorem k_La_law_254 {X : gC} {M : List mC} {k n : Nat} {x1 : Nat} {x2 : Nat} {x3 : Nat} {x4 : Int32} {Ln : Nat} {xs : Nat → Int32} (ok : gO X c_La_law "TripleStoreLaw" w_Tr_size) (S : gSc X Ln xs) (h1 : vp_in (x4 + 1) Ln) (h2 : vp_in (x4 + 2) Ln) (h3 : vp_in (x4 + 3) Ln) (h4 : vp_in (x4 + 4) Ln) (h5 : vp_in (x4 + 5) Ln) (h6 : vp_in (x4 + 6) Ln) {rm : Room} {post : Option Value → List mC → Prop} (hm : mm_ (gLa X) y_La_remove w_La_remove rm [.ref x1, .long (((((xs (x4 + 1).toNatClampNeg) : Int32).toInt64) <<< ((32 : Int32).toInt64 &&& 63)) ||| ((((xs (x4 + 2).toNatClampNeg) : Int32).toInt64) &&& 4294967295)), .long (((((xs (x4 + 3).toNatClampNeg) : Int32).toInt64) <<< ((32 : Int32).toInt64 &&& 63)) ||| ((((xs (x4 + 4).toNatClampNeg) : Int32).toInt64) &&& 4294967295)), .long (((((xs (x4 + 5).toNatClampNeg) : Int32).toInt64) <<< ((32 : Int32).toInt64 &&& 63)) ||| ((((xs (x4 + 6).toNatClampNeg) : Int32).toInt64) &&& 4294967295)), .ref x3] M post) (hR : gF X rm 9 k n) (hlen : ∀ r M', post r M' → M'.length = M.length) (kk : ∀ r M', post r M' → gg X M' (k + rm.cells) (n + rm.slots) 326 [(0, .ref spl), (1, .ref x1), (2, .ref x2), (3, .ref x3), (4, .int x4)] (r.toList ++ [])) : gg X M k n 254 [(0, .ref spl), (1, .ref x1), (2, .ref x2), (3, .ref x3), (4, .int x4)] [] := by
  refine g_aload_n ok d_La_law_254 rfl (j := 1) rfl ?_
  refine g_aload_n ok d_La_law_255 rfl (j := 0) rfl ?_
  refine g_iload ok d_La_law_256 (j := 4) rfl ?_
  refine g_iconst (v := 1) ok d_La_law_258 (by decide) ?_
  refine g_iadd ok d_La_law_259 ?_
  refine g_sld ok S d_La_law_260 h1 ?_
  refine g_i2l ok d_La_law_261 ?_
  refine g_bipush (v := 32) ok d_La_law_262 (by decide) ?_
  refine g_lshl ok d_La_law_264 ?_
  refine g_aload_n ok d_La_law_265 rfl (j := 0) rfl ?_
  refine g_iload ok d_La_law_266 (j := 4) rfl ?_
  refine g_iconst (v := 2) ok d_La_law_268 (by decide) ?_
  refine g_iadd ok d_La_law_269 ?_
  refine g_sld ok S d_La_law_270 h2 ?_
  refine g_i2l ok d_La_law_271 ?_
  refine g_ldc2 (v := 4294967295) ok (List.mem_cons_of_mem _ (gT_at 1390 (by decide +kernel) (by decide +kernel))) d_La_law_272 ?_
  refine g_land ok d_La_law_275 ?_
  refine g_lor ok d_La_law_276 ?_
  refine g_aload_n ok d_La_law_277 rfl (j := 0) rfl ?_
  refine g_iload ok d_La_law_278 (j := 4) rfl ?_
  refine g_iconst (v := 3) ok d_La_law_280 (by decide) ?_
  refine g_iadd ok d_La_law_281 ?_
  refine g_sld ok S d_La_law_282 h3 ?_
  refine g_i2l ok d_La_law_283 ?_
  refine g_bipush (v := 32) ok d_La_law_284 (by decide) ?_
  refine g_lshl ok d_La_law_286 ?_
  refine g_aload_n ok d_La_law_287 rfl (j := 0) rfl ?_
  refine g_iload ok d_La_law_288 (j := 4) rfl ?_
  refine g_iconst (v := 4) ok d_La_law_290 (by decide) ?_
  refine g_iadd ok d_La_law_291 ?_
  refine g_sld ok S d_La_law_292 h4 ?_
  refine g_i2l ok d_La_law_293 ?_
  refine g_ldc2 (v := 4294967295) ok (List.mem_cons_of_mem _ (gT_at 1390 (by decide +kernel) (by decide +kernel))) d_La_law_294 ?_
  refine g_land ok d_La_law_297 ?_
  refine g_lor ok d_La_law_298 ?_
  refine g_aload_n ok d_La_law_299 rfl (j := 0) rfl ?_
  refine g_iload ok d_La_law_300 (j := 4) rfl ?_
  refine g_iconst (v := 5) ok d_La_law_302 (by decide) ?_
  refine g_iadd ok d_La_law_303 ?_
  refine g_sld ok S d_La_law_304 h5 ?_
  refine g_i2l ok d_La_law_305 ?_
  refine g_bipush (v := 32) ok d_La_law_306 (by decide) ?_
  refine g_lshl ok d_La_law_308 ?_
  refine g_aload_n ok d_La_law_309 rfl (j := 0) rfl ?_
  refine g_iload ok d_La_law_310 (j := 4) rfl ?_
  refine g_bipush (v := 6) ok d_La_law_312 (by decide) ?_
  refine g_iadd ok d_La_law_314 ?_
  refine g_sld ok S d_La_law_315 h6 ?_
  refine g_i2l ok d_La_law_316 ?_
  refine g_ldc2 (v := 4294967295) ok (List.mem_cons_of_mem _ (gT_at 1390 (by decide +kernel) (by decide +kernel))) d_La_law_317 ?_
  refine g_land ok d_La_law_320 ?_
  refine g_lor ok d_La_law_321 ?_
  refine g_aload_n ok d_La_law_322 rfl (j := 3) rfl ?_
  exact gc_La_64 (As := [.ref x1, .long (((((xs (x4 + 1).toNatClampNeg) : Int32).toInt64) <<< ((32 : Int32).toInt64 &&& 63)) ||| ((((xs (x4 + 2).toNatClampNeg) : Int32).toInt64) &&& 4294967295)), .long (((((xs (x4 + 3).toNatClampNeg) : Int32).toInt64) <<< ((32 : Int32).toInt64 &&& 63)) ||| ((((xs (x4 + 4).toNatClampNeg) : Int32).toInt64) &&& 4294967295)), .long (((((xs (x4 + 5).toNatClampNeg) : Int32).toInt64) <<< ((32 : Int32).toInt64 &&& 63)) ||| ((((xs (x4 + 6).toNatClampNeg) : Int32).toInt64) &&& 4294967295)), .ref x3]) (rest := []) ok d_La_law_323 hm rfl rfl (Nat.le_of_ble_eq_true rfl) hR hlen kk
theorem k_La_law_326 {X : gC} {M : List mC} {k n : Nat} {x1 : Nat} {x2 : Nat} {x3 : Nat} {x4 : Int32} {s0 : Int32} {fs8 : List Value} {Ln : Nat} {xs : Nat → Int32} (ok : gO X c_La_law "TripleStoreLaw" w_Tr_size) (S : gSc X Ln xs) (hl : gL X = 8) (h1 : vp_in (x4 + 1) Ln) (h2 : vp_in (x4 + 2) Ln) (h3 : vp_in (x4 + 3) Ln) (h4 : vp_in (x4 + 4) Ln) (h5 : vp_in (x4 + 5) Ln) (h6 : vp_in (x4 + 6) Ln) (h7 : M[x2]? = some (.inr (10, fs8))) {rm : Room} {post : Option Value → List mC → Prop} (hm : mm_ (gLa X) y_Mo_remove w_Mo_remove rm [.ref x2, .long (((((xs (x4 + 1).toNatClampNeg) : Int32).toInt64) <<< ((32 : Int32).toInt64 &&& 63)) ||| ((((xs (x4 + 2).toNatClampNeg) : Int32).toInt64) &&& 4294967295)), .long (((((xs (x4 + 3).toNatClampNeg) : Int32).toInt64) <<< ((32 : Int32).toInt64 &&& 63)) ||| ((((xs (x4 + 4).toNatClampNeg) : Int32).toInt64) &&& 4294967295)), .long (((((xs (x4 + 5).toNatClampNeg) : Int32).toInt64) <<< ((32 : Int32).toInt64 &&& 63)) ||| ((((xs (x4 + 6).toNatClampNeg) : Int32).toInt64) &&& 4294967295))] M post) (hR : gF X rm 7 k n) (hlen : ∀ r M', post r M' → M'.length = M.length) (kk : ∀ r M', post r M' → gg X M' (k + rm.cells) (n + rm.slots) 399 [(0, .ref spl), (1, .ref x1), (2, .ref x2), (3, .ref x3), (4, .int x4), (5, .int s0)] (r.toList ++ [])) : gg X M k n 326 [(0, .ref spl), (1, .ref x1), (2, .ref x2), (3, .ref x3), (4, .int x4)] [.int s0] := by
  refine g_istore (L' := [(0, .ref spl), (1, .ref x1), (2, .ref x2), (3, .ref x3), (4, .int x4), (5, .int s0)]) ok d_La_law_326 (by rw [hl]; decide) rfl ?_
  refine g_aload_n ok d_La_law_328 rfl (j := 2) rfl ?_
  refine g_aload_n ok d_La_law_329 rfl (j := 0) rfl ?_
  refine g_iload ok d_La_law_330 (j := 4) rfl ?_
  refine g_iconst (v := 1) ok d_La_law_332 (by decide) ?_
  refine g_iadd ok d_La_law_333 ?_
  refine g_sld ok S d_La_law_334 h1 ?_
  refine g_i2l ok d_La_law_335 ?_
  refine g_bipush (v := 32) ok d_La_law_336 (by decide) ?_
  refine g_lshl ok d_La_law_338 ?_
  refine g_aload_n ok d_La_law_339 rfl (j := 0) rfl ?_
  refine g_iload ok d_La_law_340 (j := 4) rfl ?_
  refine g_iconst (v := 2) ok d_La_law_342 (by decide) ?_
  refine g_iadd ok d_La_law_343 ?_
  refine g_sld ok S d_La_law_344 h2 ?_
  refine g_i2l ok d_La_law_345 ?_
  refine g_ldc2 (v := 4294967295) ok (List.mem_cons_of_mem _ (gT_at 1390 (by decide +kernel) (by decide +kernel))) d_La_law_346 ?_
  refine g_land ok d_La_law_349 ?_
  refine g_lor ok d_La_law_350 ?_
  refine g_aload_n ok d_La_law_351 rfl (j := 0) rfl ?_
  refine g_iload ok d_La_law_352 (j := 4) rfl ?_
  refine g_iconst (v := 3) ok d_La_law_354 (by decide) ?_
  refine g_iadd ok d_La_law_355 ?_
  refine g_sld ok S d_La_law_356 h3 ?_
  refine g_i2l ok d_La_law_357 ?_
  refine g_bipush (v := 32) ok d_La_law_358 (by decide) ?_
  refine g_lshl ok d_La_law_360 ?_
  refine g_aload_n ok d_La_law_361 rfl (j := 0) rfl ?_
  refine g_iload ok d_La_law_362 (j := 4) rfl ?_
  refine g_iconst (v := 4) ok d_La_law_364 (by decide) ?_
  refine g_iadd ok d_La_law_365 ?_
  refine g_sld ok S d_La_law_366 h4 ?_
  refine g_i2l ok d_La_law_367 ?_
  refine g_ldc2 (v := 4294967295) ok (List.mem_cons_of_mem _ (gT_at 1390 (by decide +kernel) (by decide +kernel))) d_La_law_368 ?_
  refine g_land ok d_La_law_371 ?_
  refine g_lor ok d_La_law_372 ?_
  refine g_aload_n ok d_La_law_373 rfl (j := 0) rfl ?_
  refine g_iload ok d_La_law_374 (j := 4) rfl ?_
  refine g_iconst (v := 5) ok d_La_law_376 (by decide) ?_
  refine g_iadd ok d_La_law_377 ?_
  refine g_sld ok S d_La_law_378 h5 ?_
  refine g_i2l ok d_La_law_379 ?_
  refine g_bipush (v := 32) ok d_La_law_380 (by decide) ?_
  refine g_lshl ok d_La_law_382 ?_
  refine g_aload_n ok d_La_law_383 rfl (j := 0) rfl ?_
  refine g_iload ok d_La_law_384 (j := 4) rfl ?_
  refine g_bipush (v := 6) ok d_La_law_386 (by decide) ?_
  refine g_iadd ok d_La_law_388 ?_
  refine g_sld ok S d_La_law_389 h6 ?_
  refine g_i2l ok d_La_law_390 ?_
  refine g_ldc2 (v := 4294967295) ok (List.mem_cons_of_mem _ (gT_at 1390 (by decide +kernel) (by decide +kernel))) d_La_law_391 ?_
  refine g_land ok d_La_law_394 ?_
  refine g_lor ok d_La_law_395 ?_
  exact gc_La_66 (As := [.long (((((xs (x4 + 1).toNatClampNeg) : Int32).toInt64) <<< ((32 : Int32).toInt64 &&& 63)) ||| ((((xs (x4 + 2).toNatClampNeg) : Int32).toInt64) &&& 4294967295)), .long (((((xs (x4 + 3).toNatClampNeg) : Int32).toInt64) <<< ((32 : Int32).toInt64 &&& 63)) ||| ((((xs (x4 + 4).toNatClampNeg) : Int32).toInt64) &&& 4294967295)), .long (((((xs (x4 + 5).toNatClampNeg) : Int32).toInt64) <<< ((32 : Int32).toInt64 &&& 63)) ||| ((((xs (x4 + 6).toNatClampNeg) : Int32).toInt64) &&& 4294967295))]) (rest := []) ok d_La_law_396 hm rfl rfl (Nat.le_of_ble_eq_true rfl) hR h7 hlen kk
theorem k_La_law_399 {X : gC} {M : List mC} {k n : Nat} {x1 : Nat} {x2 : Nat} {x3 : Nat} {x4 : Int32} {x5 : Int32} {s0 : Int32} (ok : gO X c_La_law "TripleStoreLaw" w_Tr_size) (hl : gL X = 8)  (kk : gg X M k n 690 [(0, .ref spl), (1, .ref x1), (2, .ref x2), (3, .ref x3), (4, .int x4)] []) : gg X M k n 399 [(0, .ref spl), (1, .ref x1), (2, .ref x2), (3, .ref x3), (4, .int x4), (5, .int x5)] [.int s0] := by
  refine g_istore (L' := [(0, .ref spl), (1, .ref x1), (2, .ref x2), (3, .ref x3), (4, .int x4), (5, .int x5), (6, .int s0)]) ok d_La_law_399 (by rw [hl]; decide) rfl ?_
  exact g_goto (tgt := 690) ok d_La_law_401 (by decide) (gg_keep [0, 1, 2, 3, 4] kk)
theorem k_La_law_404 {X : gC} {M : List mC} {k n : Nat} {x1 : Nat} {x2 : Nat} {x3 : Nat} {x4 : Int32} (ok : gO X c_La_law "TripleStoreLaw" w_Tr_size)  {rm : Room} {post : Option Value → List mC → Prop} (hm : mm_ (gLa X) y_La_begin w_La_begin rm [.ref x1, .ref x3] M post) (hR : gF X rm 3 k n) (hlen : ∀ r M', post r M' → M'.length = M.length) (kk : ∀ r M', post r M' → gg X M' (k + rm.cells) (n + rm.slots) 409 [(0, .ref spl), (1, .ref x1), (2, .ref x2), (3, .ref x3), (4, .int x4)] (r.toList ++ [])) : gg X M k n 404 [(0, .ref spl), (1, .ref x1), (2, .ref x2), (3, .ref x3), (4, .int x4)] [] := by
  refine g_aload_n ok d_La_law_404 rfl (j := 1) rfl ?_
  refine g_aload_n ok d_La_law_405 rfl (j := 3) rfl ?_
  exact gc_La_67 (As := [.ref x1, .ref x3]) (rest := []) ok d_La_law_406 hm rfl rfl (Nat.le_of_ble_eq_true rfl) hR hlen kk
theorem k_La_law_409 {X : gC} {M : List mC} {k n : Nat} {x1 : Nat} {x2 : Nat} {x3 : Nat} {x4 : Int32} {s0 : Int32} {fs2 : List Value} (ok : gO X c_La_law "TripleStoreLaw" w_Tr_size) (hl : gL X = 8) (h1 : M[x2]? = some (.inr (10, fs2))) {rm : Room} {post : Option Value → List mC → Prop} (hm : mm_ (gLa X) y_Mo_begin w_Mo_begin rm [.ref x2] M post) (hR : gF X rm 1 k n) (hlen : ∀ r M', post r M' → M'.length = M.length) (kk : ∀ r M', post r M' → gg X M' (k + rm.cells) (n + rm.slots) 415 [(0, .ref spl), (1, .ref x1), (2, .ref x2), (3, .ref x3), (4, .int x4), (5, .int s0)] (r.toList ++ [])) : gg X M k n 409 [(0, .ref spl), (1, .ref x1), (2, .ref x2), (3, .ref x3), (4, .int x4)] [.int s0] := by
  refine g_istore (L' := [(0, .ref spl), (1, .ref x1), (2, .ref x2), (3, .ref x3), (4, .int x4), (5, .int s0)]) ok d_La_law_409 (by rw [hl]; decide) rfl ?_
  refine g_aload_n ok d_La_law_411 rfl (j := 2) rfl ?_
  exact gc_La_70 (As := []) (rest := []) ok d_La_law_412 hm rfl rfl (Nat.le_of_ble_eq_true rfl) hR h1 hlen kk
theorem k_La_law_415 {X : gC} {M : List mC} {k n : Nat} {x1 : Nat} {x2 : Nat} {x3 : Nat} {x4 : Int32} {x5 : Int32} {s0 : Int32} (ok : gO X c_La_law "TripleStoreLaw" w_Tr_size) (hl : gL X = 8)  (kk : gg X M k n 690 [(0, .ref spl), (1, .ref x1), (2, .ref x2), (3, .ref x3), (4, .int x4)] []) : gg X M k n 415 [(0, .ref spl), (1, .ref x1), (2, .ref x2), (3, .ref x3), (4, .int x4), (5, .int x5)] [.int s0] := by
  refine g_istore (L' := [(0, .ref spl), (1, .ref x1), (2, .ref x2), (3, .ref x3), (4, .int x4), (5, .int x5), (6, .int s0)]) ok d_La_law_415 (by rw [hl]; decide) rfl ?_
  exact g_goto (tgt := 690) ok d_La_law_417 (by decide) (gg_keep [0, 1, 2, 3, 4] kk)
theorem k_La_law_420 {X : gC} {M : List mC} {k n : Nat} {x1 : Nat} {x2 : Nat} {x3 : Nat} {x4 : Int32} (ok : gO X c_La_law "TripleStoreLaw" w_Tr_size)  {rm : Room} {post : Option Value → List mC → Prop} (hm : mm_ (gLa X) y_La_commit w_La_commit rm [.ref x1, .ref x3] M post) (hR : gF X rm 3 k n) (hlen : ∀ r M', post r M' → M'.length = M.length) (kk : ∀ r M', post r M' → gg X M' (k + rm.cells) (n + rm.slots) 425 [(0, .ref spl), (1, .ref x1), (2, .ref x2), (3, .ref x3), (4, .int x4)] (r.toList ++ [])) : gg X M k n 420 [(0, .ref spl), (1, .ref x1), (2, .ref x2), (3, .ref x3), (4, .int x4)] [] := by
  refine g_aload_n ok d_La_law_420 rfl (j := 1) rfl ?_
  refine g_aload_n ok d_La_law_421 rfl (j := 3) rfl ?_
  exact gc_La_71 (As := [.ref x1, .ref x3]) (rest := []) ok d_La_law_422 hm rfl rfl (Nat.le_of_ble_eq_true rfl) hR hlen kk
theorem k_La_law_425 {X : gC} {M : List mC} {k n : Nat} {x1 : Nat} {x2 : Nat} {x3 : Nat} {x4 : Int32} {s0 : Int32} {fs2 : List Value} (ok : gO X c_La_law "TripleStoreLaw" w_Tr_size) (hl : gL X = 8) (h1 : M[x2]? = some (.inr (10, fs2))) {rm : Room} {post : Option Value → List mC → Prop} (hm : mm_ (gLa X) y_Mo_commit w_Mo_commit rm [.ref x2] M post) (hR : gF X rm 1 k n) (hlen : ∀ r M', post r M' → M'.length = M.length) (kk : ∀ r M', post r M' → gg X M' (k + rm.cells) (n + rm.slots) 431 [(0, .ref spl), (1, .ref x1), (2, .ref x2), (3, .ref x3), (4, .int x4), (5, .int s0)] (r.toList ++ [])) : gg X M k n 425 [(0, .ref spl), (1, .ref x1), (2, .ref x2), (3, .ref x3), (4, .int x4)] [.int s0] := by
  refine g_istore (L' := [(0, .ref spl), (1, .ref x1), (2, .ref x2), (3, .ref x3), (4, .int x4), (5, .int s0)]) ok d_La_law_425 (by rw [hl]; decide) rfl ?_
  refine g_aload_n ok d_La_law_427 rfl (j := 2) rfl ?_
  exact gc_La_73 (As := []) (rest := []) ok d_La_law_428 hm rfl rfl (Nat.le_of_ble_eq_true rfl) hR h1 hlen kk
theorem k_La_law_431 {X : gC} {M : List mC} {k n : Nat} {x1 : Nat} {x2 : Nat} {x3 : Nat} {x4 : Int32} {x5 : Int32} {s0 : Int32} (ok : gO X c_La_law "TripleStoreLaw" w_Tr_size) (hl : gL X = 8)  (kk : gg X M k n 690 [(0, .ref spl), (1, .ref x1), (2, .ref x2), (3, .ref x3), (4, .int x4)] []) : gg X M k n 431 [(0, .ref spl), (1, .ref x1), (2, .ref x2), (3, .ref x3), (4, .int x4), (5, .int x5)] [.int s0] := by
  refine g_istore (L' := [(0, .ref spl), (1, .ref x1), (2, .ref x2), (3, .ref x3), (4, .int x4), (5, .int x5), (6, .int s0)]) ok d_La_law_431 (by rw [hl]; decide) rfl ?_
  exact g_goto (tgt := 690) ok d_La_law_433 (by decide) (gg_keep [0, 1, 2, 3, 4] kk)
theorem k_La_law_436 {X : gC} {M : List mC} {k n : Nat} {x1 : Nat} {x2 : Nat} {x3 : Nat} {x4 : Int32} (ok : gO X c_La_law "TripleStoreLaw" w_Tr_size)  {rm : Room} {post : Option Value → List mC → Prop} (hm : mm_ (gLa X) y_La_rollback w_La_rollback rm [.ref x1, .ref x3] M post) (hR : gF X rm 3 k n) (hlen : ∀ r M', post r M' → M'.length = M.length) (kk : ∀ r M', post r M' → gg X M' (k + rm.cells) (n + rm.slots) 441 [(0, .ref spl), (1, .ref x1), (2, .ref x2), (3, .ref x3), (4, .int x4)] (r.toList ++ [])) : gg X M k n 436 [(0, .ref spl), (1, .ref x1), (2, .ref x2), (3, .ref x3), (4, .int x4)] [] := by
  refine g_aload_n ok d_La_law_436 rfl (j := 1) rfl ?_
  refine g_aload_n ok d_La_law_437 rfl (j := 3) rfl ?_
  exact gc_La_74 (As := [.ref x1, .ref x3]) (rest := []) ok d_La_law_438 hm rfl rfl (Nat.le_of_ble_eq_true rfl) hR hlen kk
theorem k_La_law_441 {X : gC} {M : List mC} {k n : Nat} {x1 : Nat} {x2 : Nat} {x3 : Nat} {x4 : Int32} {s0 : Int32} {fs2 : List Value} (ok : gO X c_La_law "TripleStoreLaw" w_Tr_size) (hl : gL X = 8) (h1 : M[x2]? = some (.inr (10, fs2))) {rm : Room} {post : Option Value → List mC → Prop} (hm : mm_ (gLa X) y_Mo_rollback w_Mo_rollback rm [.ref x2] M post) (hR : gF X rm 2 k n) (hlen : ∀ r M', post r M' → M'.length = M.length) (kk : ∀ r M', post r M' → gg X M' (k + rm.cells) (n + rm.slots) 447 [(0, .ref spl), (1, .ref x1), (2, .ref x2), (3, .ref x3), (4, .int x4), (5, .int s0)] (r.toList ++ [])) : gg X M k n 441 [(0, .ref spl), (1, .ref x1), (2, .ref x2), (3, .ref x3), (4, .int x4)] [.int s0] := by
  refine g_istore (L' := [(0, .ref spl), (1, .ref x1), (2, .ref x2), (3, .ref x3), (4, .int x4), (5, .int s0)]) ok d_La_law_441 (by rw [hl]; decide) rfl ?_
  refine g_aload_n ok d_La_law_443 rfl (j := 2) rfl ?_
  exact gc_La_76 (As := []) (rest := []) ok d_La_law_444 hm rfl rfl (Nat.le_of_ble_eq_true rfl) hR h1 hlen kk
theorem k_La_law_447 {X : gC} {M : List mC} {k n : Nat} {x1 : Nat} {x2 : Nat} {x3 : Nat} {x4 : Int32} {x5 : Int32} {s0 : Int32} (ok : gO X c_La_law "TripleStoreLaw" w_Tr_size) (hl : gL X = 8)  (kk : gg X M k n 690 [(0, .ref spl), (1, .ref x1), (2, .ref x2), (3, .ref x3), (4, .int x4)] []) : gg X M k n 447 [(0, .ref spl), (1, .ref x1), (2, .ref x2), (3, .ref x3), (4, .int x4), (5, .int x5)] [.int s0] := by
  refine g_istore (L' := [(0, .ref spl), (1, .ref x1), (2, .ref x2), (3, .ref x3), (4, .int x4), (5, .int x5), (6, .int s0)]) ok d_La_law_447 (by rw [hl]; decide) rfl ?_
  exact g_goto (tgt := 690) ok d_La_law_449 (by decide) (gg_keep [0, 1, 2, 3, 4] kk)
theorem k_La_law_452 {X : gC} {M : List mC} {k n : Nat} {x1 : Nat} {x2 : Nat} {x3 : Nat} {x4 : Int32} {fs2 : List Value} (ok : gO X c_La_law "TripleStoreLaw" w_Tr_size) (h1 : M[x1]? = some (.inr (9, fs2))) {rm : Room} {post : Option Value → List mC → Prop} (hm : mm_ (gLa X) y_TS_sync w_TS_sync rm [.ref x1] M post) (hR : gF X rm 1 k n) (hlen : ∀ r M', post r M' → M'.length = M.length) (kk : ∀ r M', post r M' → gg X M' (k + rm.cells) (n + rm.slots) 456 [(0, .ref spl), (1, .ref x1), (2, .ref x2), (3, .ref x3), (4, .int x4)] (r.toList ++ [])) : gg X M k n 452 [(0, .ref spl), (1, .ref x1), (2, .ref x2), (3, .ref x3), (4, .int x4)] [] := by
  refine g_aload_n ok d_La_law_452 rfl (j := 1) rfl ?_
  exact gc_La_77 (As := []) (rest := []) ok d_La_law_453 hm rfl rfl (Nat.le_of_ble_eq_true rfl) hR h1 hlen kk
theorem k_La_law_456 {X : gC} {M : List mC} {k n : Nat} {x1 : Nat} {x2 : Nat} {x3 : Nat} {x4 : Int32} {s0 : Int32} {fs2 : List Value} (ok : gO X c_La_law "TripleStoreLaw" w_Tr_size) (h1 : M[x2]? = some (.inr (10, fs2))) {rm : Room} {post : Option Value → List mC → Prop} (hm : mm_ (gLa X) y_Mo_sync w_Mo_sync rm [.ref x2] M post) (hR : gF X rm 2 k n) (hlen : ∀ r M', post r M' → M'.length = M.length) (kk : ∀ r M', post r M' → gg X M' (k + rm.cells) (n + rm.slots) 461 [(0, .ref spl), (1, .ref x1), (2, .ref x2), (3, .ref x3), (4, .int x4)] (r.toList ++ [])) : gg X M k n 456 [(0, .ref spl), (1, .ref x1), (2, .ref x2), (3, .ref x3), (4, .int x4)] [.int s0] := by
  refine g_pop ok d_La_law_456 rfl ?_
  refine g_aload_n ok d_La_law_457 rfl (j := 2) rfl ?_
  exact gc_La_80 (As := []) (rest := []) ok d_La_law_458 hm rfl rfl (Nat.le_of_ble_eq_true rfl) hR h1 hlen kk
theorem k_La_law_461 {X : gC} {M : List mC} {k n : Nat} {x1 : Nat} {x2 : Nat} {x3 : Nat} {x4 : Int32} {s0 : Int32} (ok : gO X c_La_law "TripleStoreLaw" w_Tr_size)  (kk : gg X M k n 690 [(0, .ref spl), (1, .ref x1), (2, .ref x2), (3, .ref x3), (4, .int x4)] []) : gg X M k n 461 [(0, .ref spl), (1, .ref x1), (2, .ref x2), (3, .ref x3), (4, .int x4)] [.int s0] := by
  refine g_pop ok d_La_law_461 rfl ?_
  exact g_goto (tgt := 690) ok d_La_law_462 (by decide) kk
theorem k_La_law_465 {X : gC} {M : List mC} {k n : Nat} {x1 : Nat} {x2 : Nat} {x3 : Nat} {x4 : Int32} {Ln : Nat} {xs : Nat → Int32} (ok : gO X c_La_law "TripleStoreLaw" w_Tr_size) (S : gSc X Ln xs) (h1 : vp_in (x4 + 1) Ln) {rm : Room} {post : Option Value → List mC → Prop} (hm : mm_ (gLa X) y_La_crash w_La_crash rm [.ref x1, .int (xs (x4 + 1).toNatClampNeg), .ref x3] M post) (hR : gF X rm 4 k n) (hlen : ∀ r M', post r M' → M'.length = M.length) (kk : ∀ r M', post r M' → gg X M' (k + rm.cells) (n + rm.slots) 476 [(0, .ref spl), (1, .ref x1), (2, .ref x2), (3, .ref x3), (4, .int x4)] (r.toList ++ [])) : gg X M k n 465 [(0, .ref spl), (1, .ref x1), (2, .ref x2), (3, .ref x3), (4, .int x4)] [] := by
  refine g_aload_n ok d_La_law_465 rfl (j := 1) rfl ?_
  refine g_aload_n ok d_La_law_466 rfl (j := 0) rfl ?_
  refine g_iload ok d_La_law_467 (j := 4) rfl ?_
  refine g_iconst (v := 1) ok d_La_law_469 (by decide) ?_
  refine g_iadd ok d_La_law_470 ?_
  refine g_sld ok S d_La_law_471 h1 ?_
  refine g_aload_n ok d_La_law_472 rfl (j := 3) rfl ?_
  exact gc_La_81 (As := [.ref x1, .int (xs (x4 + 1).toNatClampNeg), .ref x3]) (rest := []) ok d_La_law_473 hm rfl rfl (Nat.le_of_ble_eq_true rfl) hR hlen kk
theorem k_La_law_476 {X : gC} {M : List mC} {k n : Nat} {x1 : Nat} {x2 : Nat} {x3 : Nat} {x4 : Int32} {s0 : Int32} {fs3 : List Value} {Ln : Nat} {xs : Nat → Int32} (ok : gO X c_La_law "TripleStoreLaw" w_Tr_size) (S : gSc X Ln xs) (hl : gL X = 8) (h1 : vp_in (x4 + 1) Ln) (h2 : M[x2]? = some (.inr (10, fs3))) {rm : Room} {post : Option Value → List mC → Prop} (hm : mm_ (gLa X) y_Mo_crash w_Mo_crash rm [.ref x2, .int (xs (x4 + 1).toNatClampNeg)] M post) (hR : gF X rm 4 k n) (hlen : ∀ r M', post r M' → M'.length = M.length) (kk : ∀ r M', post r M' → gg X M' (k + rm.cells) (n + rm.slots) 488 [(0, .ref spl), (1, .ref x1), (2, .ref x2), (3, .ref x3), (4, .int x4), (5, .int s0)] (r.toList ++ [])) : gg X M k n 476 [(0, .ref spl), (1, .ref x1), (2, .ref x2), (3, .ref x3), (4, .int x4)] [.int s0] := by
  refine g_istore (L' := [(0, .ref spl), (1, .ref x1), (2, .ref x2), (3, .ref x3), (4, .int x4), (5, .int s0)]) ok d_La_law_476 (by rw [hl]; decide) rfl ?_
  refine g_aload_n ok d_La_law_478 rfl (j := 2) rfl ?_
  refine g_aload_n ok d_La_law_479 rfl (j := 0) rfl ?_
  refine g_iload ok d_La_law_480 (j := 4) rfl ?_
  refine g_iconst (v := 1) ok d_La_law_482 (by decide) ?_
  refine g_iadd ok d_La_law_483 ?_
  refine g_sld ok S d_La_law_484 h1 ?_
  exact gc_La_84 (As := [.int (xs (x4 + 1).toNatClampNeg)]) (rest := []) ok d_La_law_485 hm rfl rfl (Nat.le_of_ble_eq_true rfl) hR h2 hlen kk
theorem k_La_law_488 {X : gC} {M : List mC} {k n : Nat} {x1 : Nat} {x2 : Nat} {x3 : Nat} {x4 : Int32} {x5 : Int32} {s0 : Int32} (ok : gO X c_La_law "TripleStoreLaw" w_Tr_size) (hl : gL X = 8)  (kk : gg X M k n 690 [(0, .ref spl), (1, .ref x1), (2, .ref x2), (3, .ref x3), (4, .int x4)] []) : gg X M k n 488 [(0, .ref spl), (1, .ref x1), (2, .ref x2), (3, .ref x3), (4, .int x4), (5, .int x5)] [.int s0] := by
  refine g_istore (L' := [(0, .ref spl), (1, .ref x1), (2, .ref x2), (3, .ref x3), (4, .int x4), (5, .int x5), (6, .int s0)]) ok d_La_law_488 (by rw [hl]; decide) rfl ?_
  exact g_goto (tgt := 690) ok d_La_law_490 (by decide) (gg_keep [0, 1, 2, 3, 4] kk)
theorem k_La_law_493 {X : gC} {M : List mC} {k n : Nat} {x1 : Nat} {x2 : Nat} {x3 : Nat} {x4 : Int32} {Ln : Nat} {xs : Nat → Int32} (ok : gO X c_La_law "TripleStoreLaw" w_Tr_size) (S : gSc X Ln xs) (h1 : vp_in (x4 + 1) Ln) (h2 : vp_in (x4 + 2) Ln) (h3 : vp_in (x4 + 3) Ln) {rm : Room} {post : Option Value → List mC → Prop} (hm : mm_ (gLa X) y_La_append w_La_append rm [.ref x1, .long (((((xs (x4 + 1).toNatClampNeg) : Int32).toInt64) <<< ((32 : Int32).toInt64 &&& 63)) ||| ((((xs (x4 + 2).toNatClampNeg) : Int32).toInt64) &&& 4294967295)), .int (xs (x4 + 3).toNatClampNeg), .ref x3] M post) (hR : gF X rm 6 k n) (hlen : ∀ r M', post r M' → M'.length = M.length) (kk : ∀ r M', post r M' → gg X M' (k + rm.cells) (n + rm.slots) 526 [(0, .ref spl), (1, .ref x1), (2, .ref x2), (3, .ref x3), (4, .int x4)] (r.toList ++ [])) : gg X M k n 493 [(0, .ref spl), (1, .ref x1), (2, .ref x2), (3, .ref x3), (4, .int x4)] [] := by
  refine g_aload_n ok d_La_law_493 rfl (j := 1) rfl ?_
  refine g_aload_n ok d_La_law_494 rfl (j := 0) rfl ?_
  refine g_iload ok d_La_law_495 (j := 4) rfl ?_
  refine g_iconst (v := 1) ok d_La_law_497 (by decide) ?_
  refine g_iadd ok d_La_law_498 ?_
  refine g_sld ok S d_La_law_499 h1 ?_
  refine g_i2l ok d_La_law_500 ?_
  refine g_bipush (v := 32) ok d_La_law_501 (by decide) ?_
  refine g_lshl ok d_La_law_503 ?_
  refine g_aload_n ok d_La_law_504 rfl (j := 0) rfl ?_
  refine g_iload ok d_La_law_505 (j := 4) rfl ?_
  refine g_iconst (v := 2) ok d_La_law_507 (by decide) ?_
  refine g_iadd ok d_La_law_508 ?_
  refine g_sld ok S d_La_law_509 h2 ?_
  refine g_i2l ok d_La_law_510 ?_
  refine g_ldc2 (v := 4294967295) ok (List.mem_cons_of_mem _ (gT_at 1390 (by decide +kernel) (by decide +kernel))) d_La_law_511 ?_
  refine g_land ok d_La_law_514 ?_
  refine g_lor ok d_La_law_515 ?_
  refine g_aload_n ok d_La_law_516 rfl (j := 0) rfl ?_
  refine g_iload ok d_La_law_517 (j := 4) rfl ?_
  refine g_iconst (v := 3) ok d_La_law_519 (by decide) ?_
  refine g_iadd ok d_La_law_520 ?_
  refine g_sld ok S d_La_law_521 h3 ?_
  refine g_aload_n ok d_La_law_522 rfl (j := 3) rfl ?_
  exact gc_La_85 (As := [.ref x1, .long (((((xs (x4 + 1).toNatClampNeg) : Int32).toInt64) <<< ((32 : Int32).toInt64 &&& 63)) ||| ((((xs (x4 + 2).toNatClampNeg) : Int32).toInt64) &&& 4294967295)), .int (xs (x4 + 3).toNatClampNeg), .ref x3]) (rest := []) ok d_La_law_523 hm rfl rfl (Nat.le_of_ble_eq_true rfl) hR hlen kk
theorem k_La_law_526 {X : gC} {M : List mC} {k n : Nat} {x1 : Nat} {x2 : Nat} {x3 : Nat} {x4 : Int32} {s0 : Int32} {fs5 : List Value} {Ln : Nat} {xs : Nat → Int32} (ok : gO X c_La_law "TripleStoreLaw" w_Tr_size) (S : gSc X Ln xs) (hl : gL X = 8) (h1 : vp_in (x4 + 1) Ln) (h2 : vp_in (x4 + 2) Ln) (h3 : vp_in (x4 + 3) Ln) (h4 : M[x2]? = some (.inr (10, fs5))) {rm : Room} {post : Option Value → List mC → Prop} (hm : mm_ (gLa X) y_Mo_append w_Mo_append rm [.ref x2, .long (((((xs (x4 + 1).toNatClampNeg) : Int32).toInt64) <<< ((32 : Int32).toInt64 &&& 63)) ||| ((((xs (x4 + 2).toNatClampNeg) : Int32).toInt64) &&& 4294967295)), .int (xs (x4 + 3).toNatClampNeg)] M post) (hR : gF X rm 5 k n) (hlen : ∀ r M', post r M' → M'.length = M.length) (kk : ∀ r M', post r M' → gg X M' (k + rm.cells) (n + rm.slots) 560 [(0, .ref spl), (1, .ref x1), (2, .ref x2), (3, .ref x3), (4, .int x4), (5, .int s0)] (r.toList ++ [])) : gg X M k n 526 [(0, .ref spl), (1, .ref x1), (2, .ref x2), (3, .ref x3), (4, .int x4)] [.int s0] := by
  refine g_istore (L' := [(0, .ref spl), (1, .ref x1), (2, .ref x2), (3, .ref x3), (4, .int x4), (5, .int s0)]) ok d_La_law_526 (by rw [hl]; decide) rfl ?_
  refine g_aload_n ok d_La_law_528 rfl (j := 2) rfl ?_
  refine g_aload_n ok d_La_law_529 rfl (j := 0) rfl ?_
  refine g_iload ok d_La_law_530 (j := 4) rfl ?_
  refine g_iconst (v := 1) ok d_La_law_532 (by decide) ?_
  refine g_iadd ok d_La_law_533 ?_
  refine g_sld ok S d_La_law_534 h1 ?_
  refine g_i2l ok d_La_law_535 ?_
  refine g_bipush (v := 32) ok d_La_law_536 (by decide) ?_
  refine g_lshl ok d_La_law_538 ?_
  refine g_aload_n ok d_La_law_539 rfl (j := 0) rfl ?_
  refine g_iload ok d_La_law_540 (j := 4) rfl ?_
  refine g_iconst (v := 2) ok d_La_law_542 (by decide) ?_
  refine g_iadd ok d_La_law_543 ?_
  refine g_sld ok S d_La_law_544 h2 ?_
  refine g_i2l ok d_La_law_545 ?_
  refine g_ldc2 (v := 4294967295) ok (List.mem_cons_of_mem _ (gT_at 1390 (by decide +kernel) (by decide +kernel))) d_La_law_546 ?_
  refine g_land ok d_La_law_549 ?_
  refine g_lor ok d_La_law_550 ?_
  refine g_aload_n ok d_La_law_551 rfl (j := 0) rfl ?_
  refine g_iload ok d_La_law_552 (j := 4) rfl ?_
  refine g_iconst (v := 3) ok d_La_law_554 (by decide) ?_
  refine g_iadd ok d_La_law_555 ?_
  refine g_sld ok S d_La_law_556 h3 ?_
  exact gc_La_88 (As := [.long (((((xs (x4 + 1).toNatClampNeg) : Int32).toInt64) <<< ((32 : Int32).toInt64 &&& 63)) ||| ((((xs (x4 + 2).toNatClampNeg) : Int32).toInt64) &&& 4294967295)), .int (xs (x4 + 3).toNatClampNeg)]) (rest := []) ok d_La_law_557 hm rfl rfl (Nat.le_of_ble_eq_true rfl) hR h4 hlen kk
theorem k_La_law_560 {X : gC} {M : List mC} {k n : Nat} {x1 : Nat} {x2 : Nat} {x3 : Nat} {x4 : Int32} {x5 : Int32} {s0 : Int32} {fs2 : List Value} (ok : gO X c_La_law "TripleStoreLaw" w_Tr_size) (hl : gL X = 8) (h1 : M[x2]? = some (.inr (10, fs2))) {rm : Room} {post : Option Value → List mC → Prop} (hm : mm_ (gLa X) y_Mo_thrown w_Mo_thrown rm [.ref x2] M post) (hR : gF X rm 1 k n) (hlen : ∀ r M', post r M' → M'.length = M.length) (kk : ∀ r M', post r M' → gg X M' (k + rm.cells) (n + rm.slots) 566 [(0, .ref spl), (1, .ref x1), (2, .ref x2), (3, .ref x3), (4, .int x4), (5, .int x5), (6, .int s0)] (r.toList ++ [])) : gg X M k n 560 [(0, .ref spl), (1, .ref x1), (2, .ref x2), (3, .ref x3), (4, .int x4), (5, .int x5)] [.int s0] := by
  refine g_istore (L' := [(0, .ref spl), (1, .ref x1), (2, .ref x2), (3, .ref x3), (4, .int x4), (5, .int x5), (6, .int s0)]) ok d_La_law_560 (by rw [hl]; decide) rfl ?_
  refine g_aload_n ok d_La_law_562 rfl (j := 2) rfl ?_
  exact gc_La_89 (As := []) (rest := []) ok d_La_law_563 hm rfl rfl (Nat.le_of_ble_eq_true rfl) hR h1 hlen kk
theorem k_La_law_566 {X : gC} {M : List mC} {k n : Nat} {x1 : Nat} {x2 : Nat} {x3 : Nat} {x4 : Int32} {x5 : Int32} {x6 : Int32} {s0 : Int32} (ok : gO X c_La_law "TripleStoreLaw" w_Tr_size)  (kt : s0 = x5 → gg X M k n 573 [(0, .ref spl), (1, .ref x1), (2, .ref x2), (3, .ref x3), (4, .int x4), (5, .int x5), (6, .int x6)] []) (kf : ¬ s0 = x5 → gg X M k n 571 [(0, .ref spl), (1, .ref x1), (2, .ref x2), (3, .ref x3), (4, .int x4), (5, .int x5), (6, .int x6)] []) : gg X M k n 566 [(0, .ref spl), (1, .ref x1), (2, .ref x2), (3, .ref x3), (4, .int x4), (5, .int x5), (6, .int x6)] [.int s0] := by
  refine g_iload ok d_La_law_566 (j := 5) rfl ?_
  exact g_icmp_eq (tgt := 573) ok d_La_law_568 (by decide) (fun z => (kt z)) (fun z => (kf z))
theorem k_La_law_573 {X : gC} {M : List mC} {k n : Nat} {x1 : Nat} {x2 : Nat} {x3 : Nat} {x4 : Int32} {x5 : Int32} {x6 : Int32} (ok : gO X c_La_law "TripleStoreLaw" w_Tr_size)  (kt : ¬ x5 = 0 → gg X M k n 590 [(0, .ref spl), (1, .ref x1), (2, .ref x2), (3, .ref x3), (4, .int x4), (5, .int x5), (6, .int x6)] []) (kf : x5 = 0 → gg X M k n 578 [(0, .ref spl), (1, .ref x1), (2, .ref x2), (3, .ref x3), (4, .int x4), (5, .int x5), (6, .int x6)] []) : gg X M k n 573 [(0, .ref spl), (1, .ref x1), (2, .ref x2), (3, .ref x3), (4, .int x4), (5, .int x5), (6, .int x6)] [] := by
  refine g_iload ok d_La_law_573 (j := 5) rfl ?_
  exact g_if_ne (tgt := 590) ok d_La_law_575 (by decide) (fun z => (kt z)) (fun z => (kf z))
theorem k_La_law_578 {X : gC} {M : List mC} {k n : Nat} {x1 : Nat} {x2 : Nat} {x3 : Nat} {x4 : Int32} {x5 : Int32} {x6 : Int32} {g2 : Nat → Int64} {N3 : Nat} (ok : gO X c_La_law "TripleStoreLaw" w_Tr_size) (h1 : M[x3]? = some (.inl (1, N3, .inr (.inl g2)))) (h4 : vp_in 0 N3) (kt : (g2 (0 : Int32).toNatClampNeg) = (x6.toInt64) → gg X M k n 590 [(0, .ref spl), (1, .ref x1), (2, .ref x2), (3, .ref x3), (4, .int x4), (5, .int x5), (6, .int x6)] []) (kf : ¬ (g2 (0 : Int32).toNatClampNeg) = (x6.toInt64) → gg X M k n 588 [(0, .ref spl), (1, .ref x1), (2, .ref x2), (3, .ref x3), (4, .int x4), (5, .int x5), (6, .int x6)] []) : gg X M k n 578 [(0, .ref spl), (1, .ref x1), (2, .ref x2), (3, .ref x3), (4, .int x4), (5, .int x5), (6, .int x6)] [] := by
  refine g_aload_n ok d_La_law_578 rfl (j := 3) rfl ?_
  refine g_iconst (v := 0) ok d_La_law_579 (by decide) ?_
  refine g_lald (t := 1) ok rfl d_La_law_580 h1 h4 ?_
  refine g_iload ok d_La_law_581 (j := 6) rfl ?_
  refine g_i2l ok d_La_law_583 ?_
  exact g_lc_eq (tgt := 590) ok d_La_law_584 d_La_law_585 (by decide) (fun z => (kt z)) (fun z => (kf z))
theorem k_La_law_590 {X : gC} {M : List mC} {k n : Nat} {x1 : Nat} {x2 : Nat} {x3 : Nat} {x4 : Int32} {x5 : Int32} {x6 : Int32} (ok : gO X c_La_law "TripleStoreLaw" w_Tr_size)  (kk : gg X M k n 690 [(0, .ref spl), (1, .ref x1), (2, .ref x2), (3, .ref x3), (4, .int x4)] []) : gg X M k n 590 [(0, .ref spl), (1, .ref x1), (2, .ref x2), (3, .ref x3), (4, .int x4), (5, .int x5), (6, .int x6)] [] := by
  exact g_goto (tgt := 690) ok d_La_law_590 (by decide) (gg_keep [0, 1, 2, 3, 4] kk)
theorem k_La_law_593 {X : gC} {M : List mC} {k n : Nat} {x1 : Nat} {x2 : Nat} {x3 : Nat} {x4 : Int32} (ok : gO X c_La_law "TripleStoreLaw" w_Tr_size)  {rm : Room} {post : Option Value → List mC → Prop} (hm : mm_ (gLa X) y_La_ask w_La_ask rm [.ref x1, .ref x3] M post) (hR : gF X rm 3 k n) (hlen : ∀ r M', post r M' → M'.length = M.length) (kk : ∀ r M', post r M' → gg X M' (k + rm.cells) (n + rm.slots) 598 [(0, .ref spl), (1, .ref x1), (2, .ref x2), (3, .ref x3), (4, .int x4)] (r.toList ++ [])) : gg X M k n 593 [(0, .ref spl), (1, .ref x1), (2, .ref x2), (3, .ref x3), (4, .int x4)] [] := by
  refine g_aload_n ok d_La_law_593 rfl (j := 1) rfl ?_
  refine g_aload_n ok d_La_law_594 rfl (j := 3) rfl ?_
  exact gc_La_92 (As := [.ref x1, .ref x3]) (rest := []) ok d_La_law_595 hm rfl rfl (Nat.le_of_ble_eq_true rfl) hR hlen kk
theorem k_La_law_598 {X : gC} {M : List mC} {k n : Nat} {x1 : Nat} {x2 : Nat} {x3 : Nat} {x4 : Int32} {s0 : Int32} {fs2 : List Value} (ok : gO X c_La_law "TripleStoreLaw" w_Tr_size) (hl : gL X = 8) (h1 : M[x2]? = some (.inr (10, fs2))) {rm : Room} {post : Option Value → List mC → Prop} (hm : mm_ (gLa X) y_Mo_ask w_Mo_ask rm [.ref x2] M post) (hR : gF X rm 2 k n) (hlen : ∀ r M', post r M' → M'.length = M.length) (kk : ∀ r M', post r M' → gg X M' (k + rm.cells) (n + rm.slots) 604 [(0, .ref spl), (1, .ref x1), (2, .ref x2), (3, .ref x3), (4, .int x4), (5, .int s0)] (r.toList ++ [])) : gg X M k n 598 [(0, .ref spl), (1, .ref x1), (2, .ref x2), (3, .ref x3), (4, .int x4)] [.int s0] := by
  refine g_istore (L' := [(0, .ref spl), (1, .ref x1), (2, .ref x2), (3, .ref x3), (4, .int x4), (5, .int s0)]) ok d_La_law_598 (by rw [hl]; decide) rfl ?_
  refine g_aload_n ok d_La_law_600 rfl (j := 2) rfl ?_
  exact gc_La_94 (As := []) (rest := []) ok d_La_law_601 hm rfl rfl (Nat.le_of_ble_eq_true rfl) hR h1 hlen kk
theorem k_La_law_604 {X : gC} {M : List mC} {k n : Nat} {x1 : Nat} {x2 : Nat} {x3 : Nat} {x4 : Int32} {x5 : Int32} {s0 : Int32} (ok : gO X c_La_law "TripleStoreLaw" w_Tr_size) (hl : gL X = 8)  (kk : gg X M k n 690 [(0, .ref spl), (1, .ref x1), (2, .ref x2), (3, .ref x3), (4, .int x4)] []) : gg X M k n 604 [(0, .ref spl), (1, .ref x1), (2, .ref x2), (3, .ref x3), (4, .int x4), (5, .int x5)] [.int s0] := by
  refine g_istore (L' := [(0, .ref spl), (1, .ref x1), (2, .ref x2), (3, .ref x3), (4, .int x4), (5, .int x5), (6, .int s0)]) ok d_La_law_604 (by rw [hl]; decide) rfl ?_
  exact g_goto (tgt := 690) ok d_La_law_606 (by decide) (gg_keep [0, 1, 2, 3, 4] kk)
theorem k_La_law_609 {X : gC} {M : List mC} {k n : Nat} {x1 : Nat} {x2 : Nat} {x3 : Nat} {x4 : Int32} {fs2 : List Value} (ok : gO X c_La_law "TripleStoreLaw" w_Tr_size) (h1 : M[x1]? = some (.inr (9, fs2))) {rm : Room} {post : Option Value → List mC → Prop} (hm : mm_ (gLa X) y_TS_fault w_TS_fault rm [.ref x1] M post) (hR : gF X rm 1 k n) (hlen : ∀ r M', post r M' → M'.length = M.length) (kk : ∀ r M', post r M' → gg X M' (k + rm.cells) (n + rm.slots) 613 [(0, .ref spl), (1, .ref x1), (2, .ref x2), (3, .ref x3), (4, .int x4)] (r.toList ++ [])) : gg X M k n 609 [(0, .ref spl), (1, .ref x1), (2, .ref x2), (3, .ref x3), (4, .int x4)] [] := by
  refine g_aload_n ok d_La_law_609 rfl (j := 1) rfl ?_
  exact gc_La_95 (As := []) (rest := []) ok d_La_law_610 hm rfl rfl (Nat.le_of_ble_eq_true rfl) hR h1 hlen kk
theorem k_La_law_613 {X : gC} {M : List mC} {k n : Nat} {x1 : Nat} {x2 : Nat} {x3 : Nat} {x4 : Int32} {s0 : Int32} {fs2 : List Value} (ok : gO X c_La_law "TripleStoreLaw" w_Tr_size) (h1 : M[x2]? = some (.inr (10, fs2))) {rm : Room} {post : Option Value → List mC → Prop} (hm : mm_ (gLa X) y_Mo_fault w_Mo_fault rm [.ref x2] M post) (hR : gF X rm 1 k n) (hlen : ∀ r M', post r M' → M'.length = M.length) (kk : ∀ r M', post r M' → gg X M' (k + rm.cells) (n + rm.slots) 618 [(0, .ref spl), (1, .ref x1), (2, .ref x2), (3, .ref x3), (4, .int x4)] (r.toList ++ [])) : gg X M k n 613 [(0, .ref spl), (1, .ref x1), (2, .ref x2), (3, .ref x3), (4, .int x4)] [.int s0] := by
  refine g_pop ok d_La_law_613 rfl ?_
  refine g_aload_n ok d_La_law_614 rfl (j := 2) rfl ?_
  exact gc_La_98 (As := []) (rest := []) ok d_La_law_615 hm rfl rfl (Nat.le_of_ble_eq_true rfl) hR h1 hlen kk
theorem k_La_law_618 {X : gC} {M : List mC} {k n : Nat} {x1 : Nat} {x2 : Nat} {x3 : Nat} {x4 : Int32} {s0 : Int32} (ok : gO X c_La_law "TripleStoreLaw" w_Tr_size)  (kk : gg X M k n 690 [(0, .ref spl), (1, .ref x1), (2, .ref x2), (3, .ref x3), (4, .int x4)] []) : gg X M k n 618 [(0, .ref spl), (1, .ref x1), (2, .ref x2), (3, .ref x3), (4, .int x4)] [.int s0] := by
  refine g_pop ok d_La_law_618 rfl ?_
  exact g_goto (tgt := 690) ok d_La_law_619 (by decide) kk
theorem k_La_law_622 {X : gC} {M : List mC} {k n : Nat} {x1 : Nat} {x2 : Nat} {x3 : Nat} {x4 : Int32} {Ln : Nat} {xs : Nat → Int32} (ok : gO X c_La_law "TripleStoreLaw" w_Tr_size) (S : gSc X Ln xs) (h1 : vp_in (x4 + 1) Ln) (h2 : vp_in (x4 + 2) Ln) {rm : Room} {post : Option Value → List mC → Prop} (hm : mm_ (gLa X) y_La_cell2 w_La_cell2 rm [.ref x1, .int (xs (x4 + 1).toNatClampNeg), .int (xs (x4 + 2).toNatClampNeg), .ref x3] M post) (hR : gF X rm 5 k n) (hlen : ∀ r M', post r M' → M'.length = M.length) (kk : ∀ r M', post r M' → gg X M' (k + rm.cells) (n + rm.slots) 639 [(0, .ref spl), (1, .ref x1), (2, .ref x2), (3, .ref x3), (4, .int x4)] (r.toList ++ [])) : gg X M k n 622 [(0, .ref spl), (1, .ref x1), (2, .ref x2), (3, .ref x3), (4, .int x4)] [] := by
  refine g_aload_n ok d_La_law_622 rfl (j := 1) rfl ?_
  refine g_aload_n ok d_La_law_623 rfl (j := 0) rfl ?_
  refine g_iload ok d_La_law_624 (j := 4) rfl ?_
  refine g_iconst (v := 1) ok d_La_law_626 (by decide) ?_
  refine g_iadd ok d_La_law_627 ?_
  refine g_sld ok S d_La_law_628 h1 ?_
  refine g_aload_n ok d_La_law_629 rfl (j := 0) rfl ?_
  refine g_iload ok d_La_law_630 (j := 4) rfl ?_
  refine g_iconst (v := 2) ok d_La_law_632 (by decide) ?_
  refine g_iadd ok d_La_law_633 ?_
  refine g_sld ok S d_La_law_634 h2 ?_
  refine g_aload_n ok d_La_law_635 rfl (j := 3) rfl ?_
  exact gc_La_99 (As := [.ref x1, .int (xs (x4 + 1).toNatClampNeg), .int (xs (x4 + 2).toNatClampNeg), .ref x3]) (rest := []) ok d_La_law_636 hm rfl rfl (Nat.le_of_ble_eq_true rfl) hR hlen kk
theorem k_La_law_639 {X : gC} {M : List mC} {k n : Nat} {x1 : Nat} {x2 : Nat} {x3 : Nat} {x4 : Int32} {s0 : Int32} {fs4 : List Value} {Ln : Nat} {xs : Nat → Int32} (ok : gO X c_La_law "TripleStoreLaw" w_Tr_size) (S : gSc X Ln xs) (hl : gL X = 8) (h1 : vp_in (x4 + 1) Ln) (h2 : vp_in (x4 + 2) Ln) (h3 : M[x2]? = some (.inr (10, fs4))) {rm : Room} {post : Option Value → List mC → Prop} (hm : mm_ (gLa X) y_Mo_cell w_Mo_cell rm [.ref x2, .int (xs (x4 + 1).toNatClampNeg), .int (xs (x4 + 2).toNatClampNeg)] M post) (hR : gF X rm 4 k n) (hlen : ∀ r M', post r M' → M'.length = M.length) (kk : ∀ r M', post r M' → gg X M' (k + rm.cells) (n + rm.slots) 657 [(0, .ref spl), (1, .ref x1), (2, .ref x2), (3, .ref x3), (4, .int x4), (5, .int s0)] (r.toList ++ [])) : gg X M k n 639 [(0, .ref spl), (1, .ref x1), (2, .ref x2), (3, .ref x3), (4, .int x4)] [.int s0] := by
  refine g_istore (L' := [(0, .ref spl), (1, .ref x1), (2, .ref x2), (3, .ref x3), (4, .int x4), (5, .int s0)]) ok d_La_law_639 (by rw [hl]; decide) rfl ?_
  refine g_aload_n ok d_La_law_641 rfl (j := 2) rfl ?_
  refine g_aload_n ok d_La_law_642 rfl (j := 0) rfl ?_
  refine g_iload ok d_La_law_643 (j := 4) rfl ?_
  refine g_iconst (v := 1) ok d_La_law_645 (by decide) ?_
  refine g_iadd ok d_La_law_646 ?_
  refine g_sld ok S d_La_law_647 h1 ?_
  refine g_aload_n ok d_La_law_648 rfl (j := 0) rfl ?_
  refine g_iload ok d_La_law_649 (j := 4) rfl ?_
  refine g_iconst (v := 2) ok d_La_law_651 (by decide) ?_
  refine g_iadd ok d_La_law_652 ?_
  refine g_sld ok S d_La_law_653 h2 ?_
  exact gc_La_102 (As := [.int (xs (x4 + 1).toNatClampNeg), .int (xs (x4 + 2).toNatClampNeg)]) (rest := []) ok d_La_law_654 hm rfl rfl (Nat.le_of_ble_eq_true rfl) hR h3 hlen kk
theorem k_La_law_657 {X : gC} {M : List mC} {k n : Nat} {x1 : Nat} {x2 : Nat} {x3 : Nat} {x4 : Int32} {x5 : Int32} {s0 : Int64} (ok : gO X c_La_law "TripleStoreLaw" w_Tr_size) (hl : gL X = 8)  (kk : gg X M k n 690 [(0, .ref spl), (1, .ref x1), (2, .ref x2), (3, .ref x3), (4, .int x4)] []) : gg X M k n 657 [(0, .ref spl), (1, .ref x1), (2, .ref x2), (3, .ref x3), (4, .int x4), (5, .int x5)] [.long s0] := by
  refine g_lstore (L' := [(0, .ref spl), (1, .ref x1), (2, .ref x2), (3, .ref x3), (4, .int x4), (5, .int x5), (6, .long s0)]) ok d_La_law_657 (by rw [hl]; decide) rfl ?_
  exact g_goto (tgt := 690) ok d_La_law_659 (by decide) (gg_keep [0, 1, 2, 3, 4] kk)
theorem k_La_law_662 {X : gC} {M : List mC} {k n : Nat} {x1 : Nat} {x2 : Nat} {x3 : Nat} {x4 : Int32} {Ln : Nat} {xs : Nat → Int32} (ok : gO X c_La_law "TripleStoreLaw" w_Tr_size) (S : gSc X Ln xs) (h1 : vp_in (x4 + 1) Ln) {rm : Room} {post : Option Value → List mC → Prop} (hm : mm_ (gLa X) y_La_count w_La_count rm [.ref x1, .int (xs (x4 + 1).toNatClampNeg), .ref x3] M post) (hR : gF X rm 4 k n) (hlen : ∀ r M', post r M' → M'.length = M.length) (kk : ∀ r M', post r M' → gg X M' (k + rm.cells) (n + rm.slots) 673 [(0, .ref spl), (1, .ref x1), (2, .ref x2), (3, .ref x3), (4, .int x4)] (r.toList ++ [])) : gg X M k n 662 [(0, .ref spl), (1, .ref x1), (2, .ref x2), (3, .ref x3), (4, .int x4)] [] := by
  refine g_aload_n ok d_La_law_662 rfl (j := 1) rfl ?_
  refine g_aload_n ok d_La_law_663 rfl (j := 0) rfl ?_
  refine g_iload ok d_La_law_664 (j := 4) rfl ?_
  refine g_iconst (v := 1) ok d_La_law_666 (by decide) ?_
  refine g_iadd ok d_La_law_667 ?_
  refine g_sld ok S d_La_law_668 h1 ?_
  refine g_aload_n ok d_La_law_669 rfl (j := 3) rfl ?_
  exact gc_La_103 (As := [.ref x1, .int (xs (x4 + 1).toNatClampNeg), .ref x3]) (rest := []) ok d_La_law_670 hm rfl rfl (Nat.le_of_ble_eq_true rfl) hR hlen kk
theorem k_La_law_673 {X : gC} {M : List mC} {k n : Nat} {x1 : Nat} {x2 : Nat} {x3 : Nat} {x4 : Int32} {s0 : Int32} {fs3 : List Value} {Ln : Nat} {xs : Nat → Int32} (ok : gO X c_La_law "TripleStoreLaw" w_Tr_size) (S : gSc X Ln xs) (hl : gL X = 8) (h1 : vp_in (x4 + 1) Ln) (h2 : M[x2]? = some (.inr (10, fs3))) {rm : Room} {post : Option Value → List mC → Prop} (hm : mm_ (gLa X) y_Mo_count w_Mo_count rm [.ref x2, .int (xs (x4 + 1).toNatClampNeg)] M post) (hR : gF X rm 2 k n) (hlen : ∀ r M', post r M' → M'.length = M.length) (kk : ∀ r M', post r M' → gg X M' (k + rm.cells) (n + rm.slots) 685 [(0, .ref spl), (1, .ref x1), (2, .ref x2), (3, .ref x3), (4, .int x4), (5, .int s0)] (r.toList ++ [])) : gg X M k n 673 [(0, .ref spl), (1, .ref x1), (2, .ref x2), (3, .ref x3), (4, .int x4)] [.int s0] := by
  refine g_istore (L' := [(0, .ref spl), (1, .ref x1), (2, .ref x2), (3, .ref x3), (4, .int x4), (5, .int s0)]) ok d_La_law_673 (by rw [hl]; decide) rfl ?_
  refine g_aload_n ok d_La_law_675 rfl (j := 2) rfl ?_
  refine g_aload_n ok d_La_law_676 rfl (j := 0) rfl ?_
  refine g_iload ok d_La_law_677 (j := 4) rfl ?_
  refine g_iconst (v := 1) ok d_La_law_679 (by decide) ?_
  refine g_iadd ok d_La_law_680 ?_
  refine g_sld ok S d_La_law_681 h1 ?_
  exact gc_La_105 (As := [.int (xs (x4 + 1).toNatClampNeg)]) (rest := []) ok d_La_law_682 hm rfl rfl (Nat.le_of_ble_eq_true rfl) hR h2 hlen kk
theorem k_La_law_685 {X : gC} {M : List mC} {k n : Nat} {x1 : Nat} {x2 : Nat} {x3 : Nat} {x4 : Int32} {x5 : Int32} {s0 : Int32} (ok : gO X c_La_law "TripleStoreLaw" w_Tr_size) (hl : gL X = 8)  (kk : gg X M k n 690 [(0, .ref spl), (1, .ref x1), (2, .ref x2), (3, .ref x3), (4, .int x4)] []) : gg X M k n 685 [(0, .ref spl), (1, .ref x1), (2, .ref x2), (3, .ref x3), (4, .int x4), (5, .int x5)] [.int s0] := by
  refine g_istore (L' := [(0, .ref spl), (1, .ref x1), (2, .ref x2), (3, .ref x3), (4, .int x4), (5, .int x5), (6, .int s0)]) ok d_La_law_685 (by rw [hl]; decide) rfl ?_
  exact g_goto (tgt := 690) ok d_La_law_687 (by decide) (gg_keep [0, 1, 2, 3, 4] kk)
theorem k_La_law_690 {X : gC} {M : List mC} {k n : Nat} {x1 : Nat} {x2 : Nat} {x3 : Nat} {x4 : Int32} (ok : gO X c_La_law "TripleStoreLaw" w_Tr_size) (hl : gL X = 8)  (kk : gg X M k n 23 [(0, .ref spl), (1, .ref x1), (2, .ref x2), (3, .ref x3), (4, .int (x4 + 7))] []) : gg X M k n 690 [(0, .ref spl), (1, .ref x1), (2, .ref x2), (3, .ref x3), (4, .int x4)] [] := by
  refine g_iinc (L' := [(0, .ref spl), (1, .ref x1), (2, .ref x2), (3, .ref x3), (4, .int (x4 + 7))]) (v := (x4 + 7)) ok d_La_law_690 (j := 4) rfl rfl (by rw [hl]; decide) rfl ?_
  exact g_goto (tgt := 23) ok d_La_law_693 (by decide) kk
