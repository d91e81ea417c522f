theorem k_So_init_0 {X : gC} {M : List mC} {k n : Nat} {x0 : Nat} (ok : gO X c_So_init "TripleStore$Solutions" w_So_init)  (hf : 1 ≤ (gR X).frames) (hl2 : (([] : List Value).map fun v => v.category).sum + 12 ≤ (gR X).locals) (kk : gg X M k n 4 [(0, .ref x0)] []) : gg X M k n 0 [(0, .ref x0)] [] := by
  refine g_aload_n ok d_So_init_0 rfl (j := 0) rfl ?_
  exact g_objI ok ml_So_3 wn_Object i_Object d_So_init_1 hf hl2 kk
theorem k_So_init_4 {X : gC} {M : List mC} {k n : Nat} {x0 : Nat} {M4 : List mC} {q5 : Nat} {fs10 : List Value} {fs14 : List Value} {M16 : List mC} {fs22 : List Value} {M24 : List mC} (ok : gO X c_So_init "TripleStore$Solutions" w_So_init) (hin : (gM X).name = "<init>") (h1 : k + 1 ≤ (gR X).cells) (h2 : n + 900 ≤ (gR X).slots) (h3 : gW M [(0, .ref x0)] [.ref x0]) (h6 : M ++ [.inl (1, 900, .inr (.inl (fun _ => 0)))] = M4) (h7 : M.length = q5) (h9 : M[x0]? = some (.inr (4, fs10))) (h13 : 2 ≤ fs10.length) (h15 : fs10.set 0 (.ref q5) = fs14) (h17 : M4.set x0 (.inr (4, fs14)) = M16) (h23 : fs14.set 1 (.int 0) = fs22) (h25 : M16.set x0 (.inr (4, fs22)) = M24) {l9 : Launch} {rm : Room} {M0 : List mC} {post : Option Value → List mC → Prop} (E : gE X l9 y_So_init rm 1 none M0 post) (hp : post (none) M24) (hk : k + 1 ≤ rm.cells) (hn : n + 900 ≤ rm.slots) : gg X M k n 4 [(0, .ref x0)] [] := by
  refine g_aload_n ok d_So_init_4 rfl (j := 0) rfl ?_
  refine g_sipush (v := 900) ok d_So_init_5 (by decide) ?_
  refine g_newa (atype := .long) (ty := .long) (t := 1) (N := 900) (a0 := (900, .inr (.inl (fun _ => 0)))) ok (List.mem_cons_of_mem _ (gT_at 56 (by decide +kernel) (by decide +kernel))) rfl rfl (fun _ => rfl) (fun _ => rfl) (by decide) (by decide) (by decide) d_So_init_8 h1 h2 h3 ?_
  rw [h6, h7]
  have h8 : M4[q5]? = some (.inl (1, 900, .inr (.inl (fun _ => 0)))) := by rw [← h6, ← h7]; exact ga_new _ _
  have h11 : M4[x0]? = some (.inr (4, fs10)) := by rw [← h6]; exact ga_old h9
  have h12 : 0 < fs10.length := Nat.lt_of_lt_of_le (by decide) h13
  refine pf_So_9 ok hin d_So_init_10 h11 h12 (fun _ => ⟨rfl, rfl⟩) ?_
  rw [h15]
  rw [h17]
  have h18 : M16[x0]? = some (.inr (4, fs14)) := by rw [← h17]; exact gs_eq h11
  have h19 : fs14[0]? = some (.ref q5) := by rw [← h15]; exact List.getElem?_set_self h12
  have h20 : 2 ≤ fs14.length := by rw [← h15, List.length_set]; exact h13
  refine g_aload_n ok d_So_init_13 rfl (j := 0) rfl ?_
  refine g_iconst (v := 0) ok d_So_init_14 (by decide) ?_
  have h21 : 1 < fs14.length := Nat.lt_of_lt_of_le (by decide) h20
  refine pf_So_15 ok d_So_init_15 h18 h21 (fun _ => ⟨rfl, rfl⟩) ?_
  rw [h23]
  rw [h25]
  have h26 : M24[x0]? = some (.inr (4, fs22)) := by rw [← h25]; exact gs_eq h18
  have h27 : fs22[0]? = some (.ref q5) := by rw [← h23]; exact (List.getElem?_set_ne (by decide : 1 ≠ 0)).trans h19
  have h28 : fs22[1]? = some (.int 0) := by rw [← h23]; exact List.getElem?_set_self h21
  have h29 : 2 ≤ fs22.length := by rw [← h23, List.length_set]; exact h20
  exact g_vret ok E d_So_init_18 hp hk hn
theorem k_So_size_0 {X : gC} {M : List mC} {k n : Nat} {x0 : Nat} {fs2 : List Value} {f3 : Int32} (ok : gO X c_So_size "TripleStore$Solutions" w_So_size) (h1 : M[x0]? = some (.inr (4, fs2))) (h4 : fs2[1]? = some (.int f3)) {l9 : Launch} {rm : Room} {M0 : List mC} {post : Option Value → List mC → Prop} (E : gE X l9 y_So_size rm 1 (some .int) M0 post) (hp : post (some (.int f3)) M) (hk : k ≤ rm.cells) (hn : n ≤ rm.slots) : gg X M k n 0 [(0, .ref x0)] [] := by
  refine g_aload_n ok d_So_size_0 rfl (j := 0) rfl ?_
  refine gf_So_15 ok d_So_size_1 h1 h4 ?_
  exact g_iret ok E d_So_size_4 hp hk hn
theorem k_So_clear_0 {X : gC} {M : List mC} {k n : Nat} {x0 : Nat} {fs2 : List Value} {fs5 : List Value} {M7 : List mC} (ok : gO X c_So_clear "TripleStore$Solutions" w_So_clear) (h1 : M[x0]? = some (.inr (4, fs2))) (h4 : 2 ≤ fs2.length) (h6 : fs2.set 1 (.int 0) = fs5) (h8 : M.set x0 (.inr (4, fs5)) = M7) {l9 : Launch} {rm : Room} {M0 : List mC} {post : Option Value → List mC → Prop} (E : gE X l9 y_So_clear rm 1 none M0 post) (hp : post (none) M7) (hk : k ≤ rm.cells) (hn : n ≤ rm.slots) : gg X M k n 0 [(0, .ref x0)] [] := by
  refine g_aload_n ok d_So_clear_0 rfl (j := 0) rfl ?_
  refine g_iconst (v := 0) ok d_So_clear_1 (by decide) ?_
  have h3 : 1 < fs2.length := Nat.lt_of_lt_of_le (by decide) h4
  refine pf_So_15 ok d_So_clear_2 h1 h3 (fun _ => ⟨rfl, rfl⟩) ?_
  rw [h6]
  rw [h8]
  have h9 : M7[x0]? = some (.inr (4, fs5)) := by rw [← h8]; exact gs_eq h1
  have h10 : fs5[1]? = some (.int 0) := by rw [← h6]; exact List.getElem?_set_self h3
  have h11 : 2 ≤ fs5.length := by rw [← h6, List.length_set]; exact h4
  exact g_vret ok E d_So_clear_5 hp hk hn
theorem k_So_term_0 {X : gC} {M : List mC} {k n : Nat} {x0 : Nat} {x1 : Int32} {x2 : Int32} (ok : gO X c_So_term "TripleStore$Solutions" w_So_term)  (kt : x1 < 0 → gg X M k n 22 [] []) (kf : ¬ x1 < 0 → gg X M k n 4 [(0, .ref x0), (1, .int x1), (2, .int x2)] []) : gg X M k n 0 [(0, .ref x0), (1, .int x1), (2, .int x2)] [] := by
  refine g_iload_n ok d_So_term_0 rfl (j := 1) rfl ?_
  exact g_if_lt (tgt := 22) ok d_So_term_1 (by decide) (fun z => (gg_keep [] (kt z))) (fun z => (kf z))
theorem k_So_term_4 {X : gC} {M : List mC} {k n : Nat} {x0 : Nat} {x1 : Int32} {x2 : Int32} {fs2 : List Value} {f3 : Int32} (ok : gO X c_So_term "TripleStore$Solutions" w_So_term) (h1 : M[x0]? = some (.inr (4, fs2))) (h4 : fs2[1]? = some (.int f3)) (kt : f3 ≤ x1 → gg X M k n 22 [] []) (kf : ¬ f3 ≤ x1 → gg X M k n 12 [(0, .ref x0), (1, .int x1), (2, .int x2)] []) : gg X M k n 4 [(0, .ref x0), (1, .int x1), (2, .int x2)] [] := by
  refine g_iload_n ok d_So_term_4 rfl (j := 1) rfl ?_
  refine g_aload_n ok d_So_term_5 rfl (j := 0) rfl ?_
  refine gf_So_15 ok d_So_term_6 h1 h4 ?_
  exact g_icmp_ge (tgt := 22) ok d_So_term_9 (by decide) (fun z => (gg_keep [] (kt z))) (fun z => (kf z))
theorem k_So_term_12 {X : gC} {M : List mC} {k n : Nat} {x0 : Nat} {x1 : Int32} {x2 : Int32} (ok : gO X c_So_term "TripleStore$Solutions" w_So_term)  (kt : x2 < 0 → gg X M k n 22 [] []) (kf : ¬ x2 < 0 → gg X M k n 16 [(0, .ref x0), (1, .int x1), (2, .int x2)] []) : gg X M k n 12 [(0, .ref x0), (1, .int x1), (2, .int x2)] [] := by
  refine g_iload_n ok d_So_term_12 rfl (j := 2) rfl ?_
  exact g_if_lt (tgt := 22) ok d_So_term_13 (by decide) (fun z => (gg_keep [] (kt z))) (fun z => (kf z))
theorem k_So_term_16 {X : gC} {M : List mC} {k n : Nat} {x0 : Nat} {x1 : Int32} {x2 : Int32} (ok : gO X c_So_term "TripleStore$Solutions" w_So_term)  (kt : x2 < 6 → gg X M k n 24 [(0, .ref x0), (1, .int x1), (2, .int x2)] []) (kf : ¬ x2 < 6 → gg X M k n 22 [] []) : gg X M k n 16 [(0, .ref x0), (1, .int x1), (2, .int x2)] [] := by
  refine g_iload_n ok d_So_term_16 rfl (j := 2) rfl ?_
  refine g_bipush (v := 6) ok d_So_term_17 (by decide) ?_
  exact g_icmp_lt (tgt := 24) ok d_So_term_19 (by decide) (fun z => (kt z)) (fun z => (gg_keep [] (kf z)))
theorem k_So_term_22 {X : gC} {M : List mC} {k n : Nat}  (ok : gO X c_So_term "TripleStore$Solutions" w_So_term)  {l9 : Launch} {rm : Room} {M0 : List mC} {post : Option Value → List mC → Prop} (E : gE X l9 y_So_term rm 3 (some .long) M0 post) (hp : post (some (.long 0)) M) (hk : k ≤ rm.cells) (hn : n ≤ rm.slots) : gg X M k n 22 [] [] := by
  refine g_lconst (v := 0) ok d_So_term_22 (by decide) ?_
  exact g_lret ok E d_So_term_23 hp hk hn
theorem k_So_term_24 {X : gC} {M : List mC} {k n : Nat} {x0 : Nat} {x1 : Int32} {x2 : Int32} {fs2 : List Value} {f3 : Nat} {g6 : Nat → Int64} {N7 : Nat} (ok : gO X c_So_term "TripleStore$Solutions" w_So_term) (h1 : M[x0]? = some (.inr (4, fs2))) (h4 : fs2[0]? = some (.ref f3)) (h5 : M[f3]? = some (.inl (1, N7, .inr (.inl g6)))) (h8 : vp_in ((x1 * 6) + x2) N7) {l9 : Launch} {rm : Room} {M0 : List mC} {post : Option Value → List mC → Prop} (E : gE X l9 y_So_term rm 3 (some .long) M0 post) (hp : post (some (.long (g6 ((x1 * 6) + x2).toNatClampNeg))) M) (hk : k ≤ rm.cells) (hn : n ≤ rm.slots) : gg X M k n 24 [(0, .ref x0), (1, .int x1), (2, .int x2)] [] := by
  refine g_aload_n ok d_So_term_24 rfl (j := 0) rfl ?_
  refine gf_So_9 ok d_So_term_25 h1 h4 ?_
  refine g_iload_n ok d_So_term_28 rfl (j := 1) rfl ?_
  refine g_bipush (v := 6) ok d_So_term_29 (by decide) ?_
  refine g_imul ok d_So_term_31 ?_
  refine g_iload_n ok d_So_term_32 rfl (j := 2) rfl ?_
  refine g_iadd ok d_So_term_33 ?_
  refine g_lald (t := 1) ok rfl d_So_term_34 h5 h8 ?_
  exact g_lret ok E d_So_term_35 hp hk hn
theorem k_So_put_0 {X : gC} {M : List mC} {k n : Nat} {x0 : Nat} {x1 : Nat} {fs2 : List Value} {f3 : Int32} (ok : gO X c_So_put "TripleStore$Solutions" w_So_put) (h1 : M[x0]? = some (.inr (4, fs2))) (h4 : fs2[1]? = some (.int f3)) (kt : f3 < 150 → gg X M k n 12 [(0, .ref x0), (1, .ref x1)] []) (kf : ¬ f3 < 150 → gg X M k n 10 [] []) : gg X M k n 0 [(0, .ref x0), (1, .ref x1)] [] := by
  refine g_aload_n ok d_So_put_0 rfl (j := 0) rfl ?_
  refine gf_So_15 ok d_So_put_1 h1 h4 ?_
  refine g_sipush (v := 150) ok d_So_put_4 (by decide) ?_
  exact g_icmp_lt (tgt := 12) ok d_So_put_7 (by decide) (fun z => (kt z)) (fun z => (gg_keep [] (kf z)))
theorem k_So_put_10 {X : gC} {M : List mC} {k n : Nat}  (ok : gO X c_So_put "TripleStore$Solutions" w_So_put)  {l9 : Launch} {rm : Room} {M0 : List mC} {post : Option Value → List mC → Prop} (E : gE X l9 y_So_put rm 2 (some .boolean) M0 post) (hp : post (some (.int 0)) M) (hk : k ≤ rm.cells) (hn : n ≤ rm.slots) : gg X M k n 10 [] [] := by
  refine g_iconst (v := 0) ok d_So_put_10 (by decide) ?_
  exact g_zret ok E d_So_put_11 rfl hp hk hn
theorem k_So_put_12 {X : gC} {M : List mC} {k n : Nat} {x0 : Nat} {x1 : Nat} {fs2 : List Value} {f3 : Nat} {f5 : Int32} {g8 : Nat → Int64} {N9 : Nat} {g11 : Nat → Int64} {N12 : Nat} (ok : gO X c_So_put "TripleStore$Solutions" w_So_put) (h1 : M[x0]? = some (.inr (4, fs2))) (h4 : fs2[0]? = some (.ref f3)) (h6 : fs2[1]? = some (.int f5)) (h7 : M[x1]? = some (.inl (1, N9, .inr (.inl g8)))) (h10 : M[f3]? = some (.inl (1, N12, .inr (.inl g11)))) (h13 : ¬ (0 : Int32) < 0) (h14 : ¬ (f5 * 6) < 0) (h15 : ¬ (6 : Int32) < 0) (h16 : (0 : Int32).toNatClampNeg + (6 : Int32).toNatClampNeg ≤ N9) (h17 : (f5 * 6).toNatClampNeg + (6 : Int32).toNatClampNeg ≤ N12) (hf : 1 ≤ (gR X).frames) (hl2 : (([] : List Value).map fun v => v.category).sum + (nativeFrameWords "java/lang/System" "arraycopy" 5 + 11) ≤ (gR X).locals) (kk : gg X (M.set f3 (.inl (1, N12, .inr (.inl (va_cpy g8 g11 (0 : Int32).toNatClampNeg (f5 * 6).toNatClampNeg (6 : Int32).toNatClampNeg))))) k n 30 [(0, .ref x0)] []) : gg X M k n 12 [(0, .ref x0), (1, .ref x1)] [] := by
  refine g_aload_n ok d_So_put_12 rfl (j := 1) rfl ?_
  refine g_iconst (v := 0) ok d_So_put_13 (by decide) ?_
  refine g_aload_n ok d_So_put_14 rfl (j := 0) rfl ?_
  refine gf_So_9 ok d_So_put_15 h1 h4 ?_
  refine g_aload_n ok d_So_put_18 rfl (j := 0) rfl ?_
  refine gf_So_15 ok d_So_put_19 h1 h6 ?_
  refine g_bipush (v := 6) ok d_So_put_22 (by decide) ?_
  refine g_imul ok d_So_put_24 ?_
  refine g_bipush (v := 6) ok d_So_put_25 (by decide) ?_
  exact g_copyl ok ml_So_21 d_So_put_27 h7 h10 h13 h14 h15 h16 h17 hf hl2 (gg_keep [0] kk)
theorem k_So_put_30 {X : gC} {M : List mC} {k n : Nat} {x0 : Nat} {fs2 : List Value} {f3 : Int32} {fs7 : List Value} {M9 : List mC} (ok : gO X c_So_put "TripleStore$Solutions" w_So_put) (h1 : M[x0]? = some (.inr (4, fs2))) (h4 : fs2[1]? = some (.int f3)) (h6 : 2 ≤ fs2.length) (h8 : fs2.set 1 (.int (f3 + 1)) = fs7) (h10 : M.set x0 (.inr (4, fs7)) = M9) {l9 : Launch} {rm : Room} {M0 : List mC} {post : Option Value → List mC → Prop} (E : gE X l9 y_So_put rm 2 (some .boolean) M0 post) (hp : post (some (.int 1)) M9) (hk : k ≤ rm.cells) (hn : n ≤ rm.slots) : gg X M k n 30 [(0, .ref x0)] [] := by
  refine g_aload_n ok d_So_put_30 rfl (j := 0) rfl ?_
  refine g_dup ok d_So_put_31 rfl ?_
  refine gf_So_15 ok d_So_put_32 h1 h4 ?_
  refine g_iconst (v := 1) ok d_So_put_35 (by decide) ?_
  refine g_iadd ok d_So_put_36 ?_
  have h5 : 1 < fs2.length := Nat.lt_of_lt_of_le (by decide) h6
  refine pf_So_15 ok d_So_put_37 h1 h5 (fun _ => ⟨rfl, rfl⟩) ?_
  rw [h8]
  rw [h10]
  have h11 : M9[x0]? = some (.inr (4, fs7)) := by rw [← h10]; exact gs_eq h1
  have h12 : fs7[1]? = some (.int (f3 + 1)) := by rw [← h8]; exact List.getElem?_set_self h5
  have h13 : 2 ≤ fs7.length := by rw [← h8, List.length_set]; exact h6
  refine g_iconst (v := 1) ok d_So_put_40 (by decide) ?_
  exact g_zret ok E d_So_put_41 rfl hp hk hn
theorem k_So_copy_0 {X : gC} {M : List mC} {k n : Nat} {x0 : Nat} {x1 : Int32} {x2 : Nat} (ok : gO X c_So_copy "TripleStore$Solutions" w_So_copy)  (kt : x1 < 0 → gg X M k n 27 [] []) (kf : ¬ x1 < 0 → gg X M k n 4 [(0, .ref x0), (1, .int x1), (2, .ref x2)] []) : gg X M k n 0 [(0, .ref x0), (1, .int x1), (2, .ref x2)] [] := by
  refine g_iload_n ok d_So_copy_0 rfl (j := 1) rfl ?_
  exact g_if_lt (tgt := 27) ok d_So_copy_1 (by decide) (fun z => (gg_keep [] (kt z))) (fun z => (kf z))
theorem k_So_copy_4 {X : gC} {M : List mC} {k n : Nat} {x0 : Nat} {x1 : Int32} {x2 : Nat} {fs2 : List Value} {f3 : Int32} (ok : gO X c_So_copy "TripleStore$Solutions" w_So_copy) (h1 : M[x0]? = some (.inr (4, fs2))) (h4 : fs2[1]? = some (.int f3)) (kt : f3 ≤ x1 → gg X M k n 27 [] []) (kf : ¬ f3 ≤ x1 → gg X M k n 12 [(0, .ref x0), (1, .int x1), (2, .ref x2)] []) : gg X M k n 4 [(0, .ref x0), (1, .int x1), (2, .ref x2)] [] := by
  refine g_iload_n ok d_So_copy_4 rfl (j := 1) rfl ?_
  refine g_aload_n ok d_So_copy_5 rfl (j := 0) rfl ?_
  refine gf_So_15 ok d_So_copy_6 h1 h4 ?_
  exact g_icmp_ge (tgt := 27) ok d_So_copy_9 (by decide) (fun z => (gg_keep [] (kt z))) (fun z => (kf z))
theorem k_So_copy_12 {X : gC} {M : List mC} {k n : Nat} {x0 : Nat} {x1 : Int32} {x2 : Nat} {fs2 : List Value} {f3 : Nat} {g6 : Nat → Int64} {N7 : Nat} {g9 : Nat → Int64} {N10 : Nat} (ok : gO X c_So_copy "TripleStore$Solutions" w_So_copy) (h1 : M[x0]? = some (.inr (4, fs2))) (h4 : fs2[0]? = some (.ref f3)) (h5 : M[f3]? = some (.inl (1, N7, .inr (.inl g6)))) (h8 : M[x2]? = some (.inl (1, N10, .inr (.inl g9)))) (h11 : ¬ (x1 * 6) < 0) (h12 : ¬ (0 : Int32) < 0) (h13 : ¬ (6 : Int32) < 0) (h14 : (x1 * 6).toNatClampNeg + (6 : Int32).toNatClampNeg ≤ N7) (h15 : (0 : Int32).toNatClampNeg + (6 : Int32).toNatClampNeg ≤ N10) (hf : 1 ≤ (gR X).frames) (hl2 : (([] : List Value).map fun v => v.category).sum + (nativeFrameWords "java/lang/System" "arraycopy" 5 + 11) ≤ (gR X).locals) (kk : gg X (M.set x2 (.inl (1, N10, .inr (.inl (va_cpy g6 g9 (x1 * 6).toNatClampNeg (0 : Int32).toNatClampNeg (6 : Int32).toNatClampNeg))))) k n 27 [] []) : gg X M k n 12 [(0, .ref x0), (1, .int x1), (2, .ref x2)] [] := by
  refine g_aload_n ok d_So_copy_12 rfl (j := 0) rfl ?_
  refine gf_So_9 ok d_So_copy_13 h1 h4 ?_
  refine g_iload_n ok d_So_copy_16 rfl (j := 1) rfl ?_
  refine g_bipush (v := 6) ok d_So_copy_17 (by decide) ?_
  refine g_imul ok d_So_copy_19 ?_
  refine g_aload_n ok d_So_copy_20 rfl (j := 2) rfl ?_
  refine g_iconst (v := 0) ok d_So_copy_21 (by decide) ?_
  refine g_bipush (v := 6) ok d_So_copy_22 (by decide) ?_
  exact g_copyl ok ml_So_21 d_So_copy_24 h5 h8 h11 h12 h13 h14 h15 hf hl2 (gg_keep [] kk)
theorem k_So_copy_27 {X : gC} {M : List mC} {k n : Nat}  (ok : gO X c_So_copy "TripleStore$Solutions" w_So_copy)  {l9 : Launch} {rm : Room} {M0 : List mC} {post : Option Value → List mC → Prop} (E : gE X l9 y_So_copy rm 3 none M0 post) (hp : post (none) M) (hk : k ≤ rm.cells) (hn : n ≤ rm.slots) : gg X M k n 27 [] [] := by
  exact g_vret ok E d_So_copy_27 hp hk hn
theorem k_So_joinInto_0 {X : gC} {M : List mC} {k n : Nat} {x0 : Nat} {x1 : Int32} {x2 : Nat} (ok : gO X c_So_joinInto "TripleStore$Solutions" w_So_joinInto) (hl : gL X = 6)  (kk : gg X M k n 2 [(0, .ref x0), (1, .int x1), (2, .ref x2), (3, .int 0)] []) : gg X M k n 0 [(0, .ref x0), (1, .int x1), (2, .ref x2)] [] := by
  refine g_iconst (v := 0) ok d_So_joinInto_0 (by decide) ?_
  refine g_istore_n (L' := [(0, .ref x0), (1, .int x1), (2, .ref x2), (3, .int 0)]) ok d_So_joinInto_1 rfl (by rw [hl]; decide) rfl ?_
  exact kk
theorem k_So_joinInto_2 {X : gC} {M : List mC} {k n : Nat} {x0 : Nat} {x1 : Int32} {x2 : Nat} {x3 : Int32} (ok : gO X c_So_joinInto "TripleStore$Solutions" w_So_joinInto)  (kt : 6 ≤ x3 → gg X M k n 56 [] []) (kf : ¬ 6 ≤ x3 → gg X M k n 8 [(0, .ref x0), (1, .int x1), (2, .ref x2), (3, .int x3)] []) : gg X M k n 2 [(0, .ref x0), (1, .int x1), (2, .ref x2), (3, .int x3)] [] := by
  refine g_iload_n ok d_So_joinInto_2 rfl (j := 3) rfl ?_
  refine g_bipush (v := 6) ok d_So_joinInto_3 (by decide) ?_
  exact g_icmp_ge (tgt := 56) ok d_So_joinInto_5 (by decide) (fun z => (gg_keep [] (kt z))) (fun z => (kf z))
theorem k_So_joinInto_8 {X : gC} {M : List mC} {k n : Nat} {x0 : Nat} {x1 : Int32} {x2 : Nat} {x3 : Int32} {fs2 : List Value} (ok : gO X c_So_joinInto "TripleStore$Solutions" w_So_joinInto) (h1 : M[x0]? = some (.inr (4, fs2))) {rm : Room} {post : Option Value → List mC → Prop} (hm : mm_ (gLa X) y_So_term w_So_term rm [.ref x0, .int x1, .int x3] M post) (hR : gF X rm 3 k n) (hlen : ∀ r M', post r M' → M'.length = M.length) (kk : ∀ r M', post r M' → gg X M' (k + rm.cells) (n + rm.slots) 14 [(0, .ref x0), (1, .int x1), (2, .ref x2), (3, .int x3)] (r.toList ++ [])) : gg X M k n 8 [(0, .ref x0), (1, .int x1), (2, .ref x2), (3, .int x3)] [] := by
  refine g_aload_n ok d_So_joinInto_8 rfl (j := 0) rfl ?_
  refine g_iload_n ok d_So_joinInto_9 rfl (j := 1) rfl ?_
  refine g_iload_n ok d_So_joinInto_10 rfl (j := 3) rfl ?_
  exact gc_So_27 (As := [.int x1, .int x3]) (rest := []) ok d_So_joinInto_11 hm rfl rfl (Nat.le_of_ble_eq_true rfl) hR h1 hlen kk
theorem k_So_joinInto_14 {X : gC} {M : List mC} {k n : Nat} {x0 : Nat} {x1 : Int32} {x2 : Nat} {x3 : Int32} {s0 : Int64} {g2 : Nat → Int64} {N3 : Nat} (ok : gO X c_So_joinInto "TripleStore$Solutions" w_So_joinInto) (hl : gL X = 6) (h1 : M[x2]? = some (.inl (1, N3, .inr (.inl g2)))) (h4 : vp_in x3 N3) (kt : ¬ (g2 x3.toNatClampNeg) = 0 → gg X M k n 32 [(0, .ref x0), (1, .int x1), (2, .ref x2), (3, .int x3), (4, .long s0)] []) (kf : (g2 x3.toNatClampNeg) = 0 → gg X M k n 24 [(0, .ref x0), (1, .int x1), (2, .ref x2), (3, .int x3), (4, .long s0)] []) : gg X M k n 14 [(0, .ref x0), (1, .int x1), (2, .ref x2), (3, .int x3)] [.long s0] := by
  refine g_lstore (L' := [(0, .ref x0), (1, .int x1), (2, .ref x2), (3, .int x3), (4, .long s0)]) ok d_So_joinInto_14 (by rw [hl]; decide) rfl ?_
  refine g_aload_n ok d_So_joinInto_16 rfl (j := 2) rfl ?_
  refine g_iload_n ok d_So_joinInto_17 rfl (j := 3) rfl ?_
  refine g_lald (t := 1) ok rfl d_So_joinInto_18 h1 h4 ?_
  refine g_lconst (v := 0) ok d_So_joinInto_19 (by decide) ?_
  exact g_lc_ne (tgt := 32) ok d_So_joinInto_20 d_So_joinInto_21 (by decide) (fun z => (kt z)) (fun z => (kf z))
theorem k_So_joinInto_24 {X : gC} {M : List mC} {k n : Nat} {x0 : Nat} {x1 : Int32} {x2 : Nat} {x3 : Int32} {x4 : Int64} {g2 : Nat → Int64} {N3 : Nat} {M5 : List mC} (ok : gO X c_So_joinInto "TripleStore$Solutions" w_So_joinInto) (h1 : M[x2]? = some (.inl (1, N3, .inr (.inl g2)))) (h4 : vp_in x3 N3) (h6 : M.set x2 (.inl (1, N3, .inr (.inl (vp_updL g2 x3.toNatClampNeg x4)))) = M5) (kk : gg X M5 k n 50 [(0, .ref x0), (1, .int x1), (2, .ref x2), (3, .int x3)] []) : gg X M k n 24 [(0, .ref x0), (1, .int x1), (2, .ref x2), (3, .int x3), (4, .long x4)] [] := by
  refine g_aload_n ok d_So_joinInto_24 rfl (j := 2) rfl ?_
  refine g_iload_n ok d_So_joinInto_25 rfl (j := 3) rfl ?_
  refine g_lload ok d_So_joinInto_26 (j := 4) rfl ?_
  refine g_last (t := 1) ok rfl d_So_joinInto_28 h1 h4 ?_
  rw [h6]
  have h7 : M5[x2]? = some (.inl (1, N3, .inr (.inl (vp_updL g2 x3.toNatClampNeg x4)))) := by rw [← h6]; exact gs_eq h1
  exact g_goto (tgt := 50) ok d_So_joinInto_29 (by decide) (gg_keep [0, 1, 2, 3] kk)
theorem k_So_joinInto_32 {X : gC} {M : List mC} {k n : Nat} {x0 : Nat} {x1 : Int32} {x2 : Nat} {x3 : Int32} {x4 : Int64} (ok : gO X c_So_joinInto "TripleStore$Solutions" w_So_joinInto)  (kt : x4 = 0 → gg X M k n 50 [(0, .ref x0), (1, .int x1), (2, .ref x2), (3, .int x3)] []) (kf : ¬ x4 = 0 → gg X M k n 39 [(0, .ref x0), (1, .int x1), (2, .ref x2), (3, .int x3), (4, .long x4)] []) : gg X M k n 32 [(0, .ref x0), (1, .int x1), (2, .ref x2), (3, .int x3), (4, .long x4)] [] := by
  refine g_lload ok d_So_joinInto_32 (j := 4) rfl ?_
  refine g_lconst (v := 0) ok d_So_joinInto_34 (by decide) ?_
  exact g_lc_eq (tgt := 50) ok d_So_joinInto_35 d_So_joinInto_36 (by decide) (fun z => (gg_keep [0, 1, 2, 3] (kt z))) (fun z => (kf z))
theorem k_So_joinInto_39 {X : gC} {M : List mC} {k n : Nat} {x0 : Nat} {x1 : Int32} {x2 : Nat} {x3 : Int32} {x4 : Int64} {g2 : Nat → Int64} {N3 : Nat} (ok : gO X c_So_joinInto "TripleStore$Solutions" w_So_joinInto) (h1 : M[x2]? = some (.inl (1, N3, .inr (.inl g2)))) (h4 : vp_in x3 N3) (kt : x4 = (g2 x3.toNatClampNeg) → gg X M k n 50 [(0, .ref x0), (1, .int x1), (2, .ref x2), (3, .int x3)] []) (kf : ¬ x4 = (g2 x3.toNatClampNeg) → gg X M k n 48 [] []) : gg X M k n 39 [(0, .ref x0), (1, .int x1), (2, .ref x2), (3, .int x3), (4, .long x4)] [] := by
  refine g_lload ok d_So_joinInto_39 (j := 4) rfl ?_
  refine g_aload_n ok d_So_joinInto_41 rfl (j := 2) rfl ?_
  refine g_iload_n ok d_So_joinInto_42 rfl (j := 3) rfl ?_
  refine g_lald (t := 1) ok rfl d_So_joinInto_43 h1 h4 ?_
  exact g_lc_eq (tgt := 50) ok d_So_joinInto_44 d_So_joinInto_45 (by decide) (fun z => (gg_keep [0, 1, 2, 3] (kt z))) (fun z => (gg_keep [] (kf z)))
theorem k_So_joinInto_48 {X : gC} {M : List mC} {k n : Nat}  (ok : gO X c_So_joinInto "TripleStore$Solutions" w_So_joinInto)  {l9 : Launch} {rm : Room} {M0 : List mC} {post : Option Value → List mC → Prop} (E : gE X l9 y_So_joinInto rm 6 (some .boolean) M0 post) (hp : post (some (.int 0)) M) (hk : k ≤ rm.cells) (hn : n ≤ rm.slots) : gg X M k n 48 [] [] := by
  refine g_iconst (v := 0) ok d_So_joinInto_48 (by decide) ?_
  exact g_zret ok E d_So_joinInto_49 rfl hp hk hn
theorem k_So_joinInto_50 {X : gC} {M : List mC} {k n : Nat} {x0 : Nat} {x1 : Int32} {x2 : Nat} {x3 : Int32} (ok : gO X c_So_joinInto "TripleStore$Solutions" w_So_joinInto) (hl : gL X = 6)  (kk : gg X M k n 2 [(0, .ref x0), (1, .int x1), (2, .ref x2), (3, .int (x3 + 1))] []) : gg X M k n 50 [(0, .ref x0), (1, .int x1), (2, .ref x2), (3, .int x3)] [] := by
  refine g_iinc (L' := [(0, .ref x0), (1, .int x1), (2, .ref x2), (3, .int (x3 + 1))]) (v := (x3 + 1)) ok d_So_joinInto_50 (j := 3) rfl rfl (by rw [hl]; decide) rfl ?_
  exact g_goto (tgt := 2) ok d_So_joinInto_53 (by decide) kk
theorem k_So_joinInto_56 {X : gC} {M : List mC} {k n : Nat}  (ok : gO X c_So_joinInto "TripleStore$Solutions" w_So_joinInto)  {l9 : Launch} {rm : Room} {M0 : List mC} {post : Option Value → List mC → Prop} (E : gE X l9 y_So_joinInto rm 6 (some .boolean) M0 post) (hp : post (some (.int 1)) M) (hk : k ≤ rm.cells) (hn : n ≤ rm.slots) : gg X M k n 56 [] [] := by
  refine g_iconst (v := 1) ok d_So_joinInto_56 (by decide) ?_
  exact g_zret ok E d_So_joinInto_57 rfl hp hk hn
theorem k_So_sharesVariable_0 {X : gC} {M : List mC} {k n : Nat} {x0 : Nat} {x1 : Int32} {x2 : Nat} (ok : gO X c_So_sharesVariable "TripleStore$Solutions" w_So_sharesVariable) (hl : gL X = 4)  (kk : gg X M k n 2 [(0, .ref x0), (1, .int x1), (2, .ref x2), (3, .int 0)] []) : gg X M k n 0 [(0, .ref x0), (1, .int x1), (2, .ref x2)] [] := by
  refine g_iconst (v := 0) ok d_So_sharesVariable_0 (by decide) ?_
  refine g_istore_n (L' := [(0, .ref x0), (1, .int x1), (2, .ref x2), (3, .int 0)]) ok d_So_sharesVariable_1 rfl (by rw [hl]; decide) rfl ?_
  exact kk
theorem k_So_sharesVariable_2 {X : gC} {M : List mC} {k n : Nat} {x0 : Nat} {x1 : Int32} {x2 : Nat} {x3 : Int32} (ok : gO X c_So_sharesVariable "TripleStore$Solutions" w_So_sharesVariable)  (kt : 6 ≤ x3 → gg X M k n 35 [] []) (kf : ¬ 6 ≤ x3 → gg X M k n 8 [(0, .ref x0), (1, .int x1), (2, .ref x2), (3, .int x3)] []) : gg X M k n 2 [(0, .ref x0), (1, .int x1), (2, .ref x2), (3, .int x3)] [] := by
  refine g_iload_n ok d_So_sharesVariable_2 rfl (j := 3) rfl ?_
  refine g_bipush (v := 6) ok d_So_sharesVariable_3 (by decide) ?_
  exact g_icmp_ge (tgt := 35) ok d_So_sharesVariable_5 (by decide) (fun z => (gg_keep [] (kt z))) (fun z => (kf z))
theorem k_So_sharesVariable_8 {X : gC} {M : List mC} {k n : Nat} {x0 : Nat} {x1 : Int32} {x2 : Nat} {x3 : Int32} {g2 : Nat → Int64} {N3 : Nat} (ok : gO X c_So_sharesVariable "TripleStore$Solutions" w_So_sharesVariable) (h1 : M[x2]? = some (.inl (1, N3, .inr (.inl g2)))) (h4 : vp_in x3 N3) (kt : (g2 x3.toNatClampNeg) = 0 → gg X M k n 29 [(0, .ref x0), (1, .int x1), (2, .ref x2), (3, .int x3)] []) (kf : ¬ (g2 x3.toNatClampNeg) = 0 → gg X M k n 16 [(0, .ref x0), (1, .int x1), (2, .ref x2), (3, .int x3)] []) : gg X M k n 8 [(0, .ref x0), (1, .int x1), (2, .ref x2), (3, .int x3)] [] := by
  refine g_aload_n ok d_So_sharesVariable_8 rfl (j := 2) rfl ?_
  refine g_iload_n ok d_So_sharesVariable_9 rfl (j := 3) rfl ?_
  refine g_lald (t := 1) ok rfl d_So_sharesVariable_10 h1 h4 ?_
  refine g_lconst (v := 0) ok d_So_sharesVariable_11 (by decide) ?_
  exact g_lc_eq (tgt := 29) ok d_So_sharesVariable_12 d_So_sharesVariable_13 (by decide) (fun z => (kt z)) (fun z => (kf z))
theorem k_So_sharesVariable_16 {X : gC} {M : List mC} {k n : Nat} {x0 : Nat} {x1 : Int32} {x2 : Nat} {x3 : Int32} {fs2 : List Value} (ok : gO X c_So_sharesVariable "TripleStore$Solutions" w_So_sharesVariable) (h1 : M[x0]? = some (.inr (4, fs2))) {rm : Room} {post : Option Value → List mC → Prop} (hm : mm_ (gLa X) y_So_term w_So_term rm [.ref x0, .int x1, .int x3] M post) (hR : gF X rm 3 k n) (hlen : ∀ r M', post r M' → M'.length = M.length) (kk : ∀ r M', post r M' → gg X M' (k + rm.cells) (n + rm.slots) 22 [(0, .ref x0), (1, .int x1), (2, .ref x2), (3, .int x3)] (r.toList ++ [])) : gg X M k n 16 [(0, .ref x0), (1, .int x1), (2, .ref x2), (3, .int x3)] [] := by
  refine g_aload_n ok d_So_sharesVariable_16 rfl (j := 0) rfl ?_
  refine g_iload_n ok d_So_sharesVariable_17 rfl (j := 1) rfl ?_
  refine g_iload_n ok d_So_sharesVariable_18 rfl (j := 3) rfl ?_
  exact gc_So_27 (As := [.int x1, .int x3]) (rest := []) ok d_So_sharesVariable_19 hm rfl rfl (Nat.le_of_ble_eq_true rfl) hR h1 hlen kk
theorem k_So_sharesVariable_22 {X : gC} {M : List mC} {k n : Nat} {x0 : Nat} {x1 : Int32} {x2 : Nat} {x3 : Int32} {s0 : Int64} (ok : gO X c_So_sharesVariable "TripleStore$Solutions" w_So_sharesVariable)  (kt : s0 = 0 → gg X M k n 29 [(0, .ref x0), (1, .int x1), (2, .ref x2), (3, .int x3)] []) (kf : ¬ s0 = 0 → gg X M k n 27 [] []) : gg X M k n 22 [(0, .ref x0), (1, .int x1), (2, .ref x2), (3, .int x3)] [.long s0] := by
  refine g_lconst (v := 0) ok d_So_sharesVariable_22 (by decide) ?_
  exact g_lc_eq (tgt := 29) ok d_So_sharesVariable_23 d_So_sharesVariable_24 (by decide) (fun z => (kt z)) (fun z => (gg_keep [] (kf z)))
theorem k_So_sharesVariable_27 {X : gC} {M : List mC} {k n : Nat}  (ok : gO X c_So_sharesVariable "TripleStore$Solutions" w_So_sharesVariable)  {l9 : Launch} {rm : Room} {M0 : List mC} {post : Option Value → List mC → Prop} (E : gE X l9 y_So_sharesVariable rm 4 (some .boolean) M0 post) (hp : post (some (.int 1)) M) (hk : k ≤ rm.cells) (hn : n ≤ rm.slots) : gg X M k n 27 [] [] := by
  refine g_iconst (v := 1) ok d_So_sharesVariable_27 (by decide) ?_
  exact g_zret ok E d_So_sharesVariable_28 rfl hp hk hn
theorem k_So_sharesVariable_29 {X : gC} {M : List mC} {k n : Nat} {x0 : Nat} {x1 : Int32} {x2 : Nat} {x3 : Int32} (ok : gO X c_So_sharesVariable "TripleStore$Solutions" w_So_sharesVariable) (hl : gL X = 4)  (kk : gg X M k n 2 [(0, .ref x0), (1, .int x1), (2, .ref x2), (3, .int (x3 + 1))] []) : gg X M k n 29 [(0, .ref x0), (1, .int x1), (2, .ref x2), (3, .int x3)] [] := by
  refine g_iinc (L' := [(0, .ref x0), (1, .int x1), (2, .ref x2), (3, .int (x3 + 1))]) (v := (x3 + 1)) ok d_So_sharesVariable_29 (j := 3) rfl rfl (by rw [hl]; decide) rfl ?_
  exact g_goto (tgt := 2) ok d_So_sharesVariable_32 (by decide) kk
theorem k_So_sharesVariable_35 {X : gC} {M : List mC} {k n : Nat}  (ok : gO X c_So_sharesVariable "TripleStore$Solutions" w_So_sharesVariable)  {l9 : Launch} {rm : Room} {M0 : List mC} {post : Option Value → List mC → Prop} (E : gE X l9 y_So_sharesVariable rm 4 (some .boolean) M0 post) (hp : post (some (.int 0)) M) (hk : k ≤ rm.cells) (hn : n ≤ rm.slots) : gg X M k n 35 [] [] := by
  refine g_iconst (v := 0) ok d_So_sharesVariable_35 (by decide) ?_
  exact g_zret ok E d_So_sharesVariable_36 rfl hp hk hn
theorem k_St_init_0 {X : gC} {M : List mC} {k n : Nat} {x0 : Nat} (ok : gO X c_St_init "TripleStore$Store" w_St_init)  (hf : 1 ≤ (gR X).frames) (hl2 : (([] : List Value).map fun v => v.category).sum + 12 ≤ (gR X).locals) (kk : gg X M k n 4 [(0, .ref x0)] []) : gg X M k n 0 [(0, .ref x0)] [] := by
  refine g_aload_n ok d_St_init_0 rfl (j := 0) rfl ?_
  exact g_objI ok ml_St_3 wn_Object i_Object d_St_init_1 hf hl2 kk
theorem k_St_init_4 {X : gC} {M : List mC} {k n : Nat} {x0 : Nat} {M4 : List mC} {q5 : Nat} (ok : gO X c_St_init "TripleStore$Store" w_St_init) (h1 : k + 1 ≤ (gR X).cells) (h2 : n + 4 ≤ (gR X).slots) (h3 : gW M [(0, .ref x0)] [.ref x0]) (h6 : M ++ [.inr (8, [.null, .null, .null, .int 0])] = M4) (h7 : M.length = q5) {rm : Room} {post : Option Value → List mC → Prop} (hm : mm_ (gLa X) y_Tr_init w_Tr_init rm [.ref q5, .int 48] M4 post) (hR : gF X rm 2 (k + 1) (n + 4)) (hL : ∀ q ∈ ([(0, .ref x0)] : List (Nat × Value)), mk_v M4.length q.2) (hrs : ∀ v ∈ ([.ref q5, .ref x0] : List Value), mk_v M4.length v) (kk : ∀ r M', post r M' → gg X M' (k + 1 + rm.cells) (n + 4 + rm.slots) 14 [(0, .ref x0)] (r.toList ++ [.ref q5, .ref x0])) : gg X M k n 4 [(0, .ref x0)] [] := by
  refine g_aload_n ok d_St_init_4 rfl (j := 0) rfl ?_
  refine g_new (C := RTr) (T := TTr) (N := 4) (ci := 8) (fs := [.null, .null, .null, .int 0]) ok (fun w h => List.mem_cons_of_mem _ (inTr w h)) tyTr okTr (List.mem_cons_of_mem _ (gT_at 37 (by decide +kernel) (by decide +kernel))) (List.mem_cons_of_mem _ (gT_at 38 (by decide +kernel) (by decide +kernel))) (List.mem_cons_of_mem _ (gT_at 3 (by decide +kernel) (by decide +kernel))) rfl (by decide +kernel) (fun _ => rfl) d_St_init_5 h1 h2 h3 ?_
  rw [h6, h7]
  have h8 : M4[q5]? = some (.inr (8, [.null, .null, .null, .int 0])) := by rw [← h6, ← h7]; exact ga_new _ _
  refine g_dup ok d_St_init_8 rfl ?_
  refine g_bipush (v := 48) ok d_St_init_9 (by decide) ?_
  exact gc_St_11 (As := [.int 48]) (rest := [.ref q5, .ref x0]) ok d_St_init_11 hm rfl rfl (Nat.le_of_ble_eq_true rfl) hR hL hrs kk
theorem k_St_init_14 {X : gC} {M : List mC} {k n : Nat} {x0 : Nat} {s1 : Nat} {fs2 : List Value} {fs5 : List Value} {M7 : List mC} {M15 : List mC} {q16 : Nat} (ok : gO X c_St_init "TripleStore$Store" w_St_init) (hin : (gM X).name = "<init>") (h1 : M[x0]? = some (.inr (6, fs2))) (h4 : 8 ≤ fs2.length) (h6 : fs2.set 0 (.ref s1) = fs5) (h8 : M.set x0 (.inr (6, fs5)) = M7) (h12 : k + 1 ≤ (gR X).cells) (h13 : n + 4 ≤ (gR X).slots) (h14 : gW M7 [(0, .ref x0)] [.ref x0]) (h17 : M7 ++ [.inr (8, [.null, .null, .null, .int 0])] = M15) (h18 : M7.length = q16) {rm : Room} {post : Option Value → List mC → Prop} (hm : mm_ (gLa X) y_Tr_init w_Tr_init rm [.ref q16, .int 512] M15 post) (hR : gF X rm 2 (k + 1) (n + 4)) (hL : ∀ q ∈ ([(0, .ref x0)] : List (Nat × Value)), mk_v M15.length q.2) (hrs : ∀ v ∈ ([.ref q16, .ref x0] : List Value), mk_v M15.length v) (kk : ∀ r M', post r M' → gg X M' (k + 1 + rm.cells) (n + 4 + rm.slots) 28 [(0, .ref x0)] (r.toList ++ [.ref q16, .ref x0])) : gg X M k n 14 [(0, .ref x0)] [.ref s1, .ref x0] := by
  have h3 : 0 < fs2.length := Nat.lt_of_lt_of_le (by decide) h4
  refine pf_St_14 ok hin d_St_init_14 h1 h3 (fun _ => ⟨rfl, rfl⟩) ?_
  rw [h6]
  rw [h8]
  have h9 : M7[x0]? = some (.inr (6, fs5)) := by rw [← h8]; exact gs_eq h1
  have h10 : fs5[0]? = some (.ref s1) := by rw [← h6]; exact List.getElem?_set_self h3
  have h11 : 8 ≤ fs5.length := by rw [← h6, List.length_set]; exact h4
  refine g_aload_n ok d_St_init_17 rfl (j := 0) rfl ?_
  refine g_new (C := RTr) (T := TTr) (N := 4) (ci := 8) (fs := [.null, .null, .null, .int 0]) ok (fun w h => List.mem_cons_of_mem _ (inTr w h)) tyTr okTr (List.mem_cons_of_mem _ (gT_at 37 (by decide +kernel) (by decide +kernel))) (List.mem_cons_of_mem _ (gT_at 38 (by decide +kernel) (by decide +kernel))) (List.mem_cons_of_mem _ (gT_at 3 (by decide +kernel) (by decide +kernel))) rfl (by decide +kernel) (fun _ => rfl) d_St_init_18 h12 h13 h14 ?_
  rw [h17, h18]
  have h19 : M15[q16]? = some (.inr (8, [.null, .null, .null, .int 0])) := by rw [← h17, ← h18]; exact ga_new _ _
  refine g_dup ok d_St_init_21 rfl ?_
  refine g_sipush (v := 512) ok d_St_init_22 (by decide) ?_
  exact gc_St_11 (As := [.int 512]) (rest := [.ref q16, .ref x0]) ok d_St_init_25 hm rfl rfl (Nat.le_of_ble_eq_true rfl) hR hL hrs kk
theorem k_St_init_28 {X : gC} {M : List mC} {k n : Nat} {x0 : Nat} {s1 : Nat} {fs2 : List Value} {fs5 : List Value} {M7 : List mC} {M15 : List mC} {q16 : Nat} {fs22 : List Value} {M24 : List mC} {M33 : List mC} {q34 : Nat} {fs41 : List Value} {M43 : List mC} {fs51 : List Value} {M53 : List mC} {fs62 : List Value} {M64 : List mC} {fs74 : List Value} {M76 : List mC} {fs87 : List Value} {M89 : List mC} (ok : gO X c_St_init "TripleStore$Store" w_St_init) (hin : (gM X).name = "<init>") (h1 : M[x0]? = some (.inr (6, fs2))) (h4 : 8 ≤ fs2.length) (h6 : fs2.set 1 (.ref s1) = fs5) (h8 : M.set x0 (.inr (6, fs5)) = M7) (h12 : k + 1 ≤ (gR X).cells) (h13 : n + 512 ≤ (gR X).slots) (h14 : gW M7 [(0, .ref x0)] [.ref x0]) (h17 : M7 ++ [.inl (3, 512, .inl (fun _ => 0))] = M15) (h18 : M7.length = q16) (h23 : fs5.set 2 (.ref q16) = fs22) (h25 : M15.set x0 (.inr (6, fs22)) = M24) (h30 : k + 1 + 1 ≤ (gR X).cells) (h31 : n + 512 + 512 ≤ (gR X).slots) (h32 : gW M24 [(0, .ref x0)] [.ref x0]) (h35 : M24 ++ [.inl (0, 512, .inl (fun _ => 0))] = M33) (h36 : M24.length = q34) (h42 : fs22.set 3 (.ref q34) = fs41) (h44 : M33.set x0 (.inr (6, fs41)) = M43) (h52 : fs41.set 4 (.int 0) = fs51) (h54 : M43.set x0 (.inr (6, fs51)) = M53) (h63 : fs51.set 5 (.int 0) = fs62) (h65 : M53.set x0 (.inr (6, fs62)) = M64) (h75 : fs62.set 6 (.int 0) = fs74) (h77 : M64.set x0 (.inr (6, fs74)) = M76) (h88 : fs74.set 7 (.int 0) = fs87) (h90 : M76.set x0 (.inr (6, fs87)) = M89) {l9 : Launch} {rm : Room} {M0 : List mC} {post : Option Value → List mC → Prop} (E : gE X l9 y_St_init rm 1 none M0 post) (hp : post (none) M89) (hk : k + 1 + 1 ≤ rm.cells) (hn : n + 512 + 512 ≤ rm.slots) : gg X M k n 28 [(0, .ref x0)] [.ref s1, .ref x0] := by
  have h3 : 1 < fs2.length := Nat.lt_of_lt_of_le (by decide) h4
  refine pf_St_20 ok hin d_St_init_28 h1 h3 (fun _ => ⟨rfl, rfl⟩) ?_
  rw [h6]
  rw [h8]
  have h9 : M7[x0]? = some (.inr (6, fs5)) := by rw [← h8]; exact gs_eq h1
  have h10 : fs5[1]? = some (.ref s1) := by rw [← h6]; exact List.getElem?_set_self h3
  have h11 : 8 ≤ fs5.length := by rw [← h6, List.length_set]; exact h4
  refine g_aload_n ok d_St_init_31 rfl (j := 0) rfl ?_
  refine g_sipush (v := 512) ok d_St_init_32 (by decide) ?_
  refine g_newa (atype := .boolean) (ty := .boolean) (t := 3) (N := 512) (a0 := (512, .inl (fun _ => 0))) ok (List.mem_cons_of_mem _ (gT_at 82 (by decide +kernel) (by decide +kernel))) rfl rfl (fun _ => rfl) (fun _ => rfl) (by decide) (by decide) (by decide) d_St_init_35 h12 h13 h14 ?_
  rw [h17, h18]
  have h19 : M15[q16]? = some (.inl (3, 512, .inl (fun _ => 0))) := by rw [← h17, ← h18]; exact ga_new _ _
  have h20 : M15[x0]? = some (.inr (6, fs5)) := by rw [← h17]; exact ga_old h9
  have h21 : 2 < fs5.length := Nat.lt_of_lt_of_le (by decide) h11
  refine pf_St_23 ok hin d_St_init_37 h20 h21 (fun _ => ⟨rfl, rfl⟩) ?_
  rw [h23]
  rw [h25]
  have h26 : M24[x0]? = some (.inr (6, fs22)) := by rw [← h25]; exact gs_eq h20
  have h27 : fs22[1]? = some (.ref s1) := by rw [← h23]; exact (List.getElem?_set_ne (by decide : 2 ≠ 1)).trans h10
  have h28 : fs22[2]? = some (.ref q16) := by rw [← h23]; exact List.getElem?_set_self h21
  have h29 : 8 ≤ fs22.length := by rw [← h23, List.length_set]; exact h11
  refine g_aload_n ok d_St_init_40 rfl (j := 0) rfl ?_
  refine g_sipush (v := 512) ok d_St_init_41 (by decide) ?_
  refine g_newa (atype := .int) (ty := .int) (t := 0) (N := 512) (a0 := (512, .inl (fun _ => 0))) ok (List.mem_cons_of_mem _ (gT_at 83 (by decide +kernel) (by decide +kernel))) rfl rfl (fun _ => rfl) (fun _ => rfl) (by decide) (by decide) (by decide) d_St_init_44 h30 h31 h32 ?_
  rw [h35, h36]
  have h37 : M33[q34]? = some (.inl (0, 512, .inl (fun _ => 0))) := by rw [← h35, ← h36]; exact ga_new _ _
  have h38 : M24[q16]? = some (.inl (3, 512, .inl (fun _ => 0))) := by rw [← h25]; exact (gs_ne (Ne.symm (ne_ao h19 h20))).trans h19
  have h39 : M33[x0]? = some (.inr (6, fs22)) := by rw [← h35]; exact ga_old h26
  have h40 : 3 < fs22.length := Nat.lt_of_lt_of_le (by decide) h29
  refine pf_St_27 ok hin d_St_init_46 h39 h40 (fun _ => ⟨rfl, rfl⟩) ?_
  rw [h42]
  rw [h44]
  have h45 : M43[x0]? = some (.inr (6, fs41)) := by rw [← h44]; exact gs_eq h39
  have h46 : fs41[1]? = some (.ref s1) := by rw [← h42]; exact (List.getElem?_set_ne (by decide : 3 ≠ 1)).trans h27
  have h47 : fs41[2]? = some (.ref q16) := by rw [← h42]; exact (List.getElem?_set_ne (by decide : 3 ≠ 2)).trans h28
  have h48 : fs41[3]? = some (.ref q34) := by rw [← h42]; exact List.getElem?_set_self h40
  have h49 : 8 ≤ fs41.length := by rw [← h42, List.length_set]; exact h29
  refine g_aload_n ok d_St_init_49 rfl (j := 0) rfl ?_
  refine g_iconst (v := 0) ok d_St_init_50 (by decide) ?_
  have h50 : 4 < fs41.length := Nat.lt_of_lt_of_le (by decide) h49
  refine pf_St_31 ok d_St_init_51 h45 h50 (fun _ => ⟨rfl, rfl⟩) ?_
  rw [h52]
  rw [h54]
  have h55 : M53[x0]? = some (.inr (6, fs51)) := by rw [← h54]; exact gs_eq h45
  have h56 : fs51[1]? = some (.ref s1) := by rw [← h52]; exact (List.getElem?_set_ne (by decide : 4 ≠ 1)).trans h46
  have h57 : fs51[2]? = some (.ref q16) := by rw [← h52]; exact (List.getElem?_set_ne (by decide : 4 ≠ 2)).trans h47
  have h58 : fs51[3]? = some (.ref q34) := by rw [← h52]; exact (List.getElem?_set_ne (by decide : 4 ≠ 3)).trans h48
  have h59 : fs51[4]? = some (.int 0) := by rw [← h52]; exact List.getElem?_set_self h50
  have h60 : 8 ≤ fs51.length := by rw [← h52, List.length_set]; exact h49
  refine g_aload_n ok d_St_init_54 rfl (j := 0) rfl ?_
  refine g_iconst (v := 0) ok d_St_init_55 (by decide) ?_
  have h61 : 5 < fs51.length := Nat.lt_of_lt_of_le (by decide) h60
  refine pf_St_35 ok d_St_init_56 h55 h61 (fun _ => ⟨rfl, rfl⟩) ?_
  rw [h63]
  rw [h65]
  have h66 : M64[x0]? = some (.inr (6, fs62)) := by rw [← h65]; exact gs_eq h55
  have h67 : fs62[1]? = some (.ref s1) := by rw [← h63]; exact (List.getElem?_set_ne (by decide : 5 ≠ 1)).trans h56
  have h68 : fs62[2]? = some (.ref q16) := by rw [← h63]; exact (List.getElem?_set_ne (by decide : 5 ≠ 2)).trans h57
  have h69 : fs62[3]? = some (.ref q34) := by rw [← h63]; exact (List.getElem?_set_ne (by decide : 5 ≠ 3)).trans h58
  have h70 : fs62[4]? = some (.int 0) := by rw [← h63]; exact (List.getElem?_set_ne (by decide : 5 ≠ 4)).trans h59
  have h71 : fs62[5]? = some (.int 0) := by rw [← h63]; exact List.getElem?_set_self h61
  have h72 : 8 ≤ fs62.length := by rw [← h63, List.length_set]; exact h60
  refine g_aload_n ok d_St_init_59 rfl (j := 0) rfl ?_
  refine g_iconst (v := 0) ok d_St_init_60 (by decide) ?_
  have h73 : 6 < fs62.length := Nat.lt_of_lt_of_le (by decide) h72
  refine pf_St_39 ok d_St_init_61 h66 h73 (fun _ => ⟨rfl, rfl⟩) ?_
  rw [h75]
  rw [h77]
  have h78 : M76[x0]? = some (.inr (6, fs74)) := by rw [← h77]; exact gs_eq h66
  have h79 : fs74[1]? = some (.ref s1) := by rw [← h75]; exact (List.getElem?_set_ne (by decide : 6 ≠ 1)).trans h67
  have h80 : fs74[2]? = some (.ref q16) := by rw [← h75]; exact (List.getElem?_set_ne (by decide : 6 ≠ 2)).trans h68
  have h81 : fs74[3]? = some (.ref q34) := by rw [← h75]; exact (List.getElem?_set_ne (by decide : 6 ≠ 3)).trans h69
  have h82 : fs74[4]? = some (.int 0) := by rw [← h75]; exact (List.getElem?_set_ne (by decide : 6 ≠ 4)).trans h70
  have h83 : fs74[5]? = some (.int 0) := by rw [← h75]; exact (List.getElem?_set_ne (by decide : 6 ≠ 5)).trans h71
  have h84 : fs74[6]? = some (.int 0) := by rw [← h75]; exact List.getElem?_set_self h73
  have h85 : 8 ≤ fs74.length := by rw [← h75, List.length_set]; exact h72
  refine g_aload_n ok d_St_init_64 rfl (j := 0) rfl ?_
  refine g_iconst (v := 0) ok d_St_init_65 (by decide) ?_
  have h86 : 7 < fs74.length := Nat.lt_of_lt_of_le (by decide) h85
  refine pf_St_42 ok d_St_init_66 h78 h86 (fun _ => ⟨rfl, rfl⟩) ?_
  rw [h88]
  rw [h90]
  have h91 : M89[x0]? = some (.inr (6, fs87)) := by rw [← h90]; exact gs_eq h78
  have h92 : fs87[1]? = some (.ref s1) := by rw [← h88]; exact (List.getElem?_set_ne (by decide : 7 ≠ 1)).trans h79
  have h93 : fs87[2]? = some (.ref q16) := by rw [← h88]; exact (List.getElem?_set_ne (by decide : 7 ≠ 2)).trans h80
  have h94 : fs87[3]? = some (.ref q34) := by rw [← h88]; exact (List.getElem?_set_ne (by decide : 7 ≠ 3)).trans h81
  have h95 : fs87[4]? = some (.int 0) := by rw [← h88]; exact (List.getElem?_set_ne (by decide : 7 ≠ 4)).trans h82
  have h96 : fs87[5]? = some (.int 0) := by rw [← h88]; exact (List.getElem?_set_ne (by decide : 7 ≠ 5)).trans h83
  have h97 : fs87[6]? = some (.int 0) := by rw [← h88]; exact (List.getElem?_set_ne (by decide : 7 ≠ 6)).trans h84
  have h98 : fs87[7]? = some (.int 0) := by rw [← h88]; exact List.getElem?_set_self h86
  have h99 : 8 ≤ fs87.length := by rw [← h88, List.length_set]; exact h85
  exact g_vret ok E d_St_init_69 hp hk hn
theorem k_St_size_0 {X : gC} {M : List mC} {k n : Nat} {x0 : Nat} {fs2 : List Value} {f3 : Nat} {fs6 : List Value} (ok : gO X c_St_size "TripleStore$Store" w_St_size) (h1 : M[x0]? = some (.inr (6, fs2))) (h4 : fs2[0]? = some (.ref f3)) (h5 : M[f3]? = some (.inr (8, fs6))) {rm : Room} {post : Option Value → List mC → Prop} (hm : mm_ (gLa X) y_Tr_size w_Tr_size rm [.ref f3] M post) (hR : gF X rm 1 k n) (hlen : ∀ r M', post r M' → M'.length = M.length) (kk : ∀ r M', post r M' → gg X M' (k + rm.cells) (n + rm.slots) 7 [] (r.toList ++ [])) : gg X M k n 0 [(0, .ref x0)] [] := by
  refine g_aload_n ok d_St_size_0 rfl (j := 0) rfl ?_
  refine gf_St_14 ok d_St_size_1 h1 h4 ?_
  exact gc_St_45 (As := []) (rest := []) ok d_St_size_4 hm rfl rfl (Nat.le_of_ble_eq_true rfl) hR h5 hlen (fun r M' q => (gg_keep [] (kk r M' q)))
theorem k_St_size_7 {X : gC} {M : List mC} {k n : Nat} {s0 : Int32} (ok : gO X c_St_size "TripleStore$Store" w_St_size)  {l9 : Launch} {rm : Room} {M0 : List mC} {post : Option Value → List mC → Prop} (E : gE X l9 y_St_size rm 1 (some .int) M0 post) (hp : post (some (.int s0)) M) (hk : k ≤ rm.cells) (hn : n ≤ rm.slots) : gg X M k n 7 [] [.int s0] := by
  exact g_iret ok E d_St_size_7 hp hk hn
theorem k_St_isOpen_0 {X : gC} {M : List mC} {k n : Nat} {x0 : Nat} {fs2 : List Value} {f3 : Int32} (ok : gO X c_St_isOpen "TripleStore$Store" w_St_isOpen) (h1 : M[x0]? = some (.inr (6, fs2))) (h4 : fs2[4]? = some (.int f3)) {l9 : Launch} {rm : Room} {M0 : List mC} {post : Option Value → List mC → Prop} (E : gE X l9 y_St_isOpen rm 1 (some .boolean) M0 post) (hz : narrow .boolean (.int f3) = .int f3) (hp : post (some (.int f3)) M) (hk : k ≤ rm.cells) (hn : n ≤ rm.slots) : gg X M k n 0 [(0, .ref x0)] [] := by
  refine g_aload_n ok d_St_isOpen_0 rfl (j := 0) rfl ?_
  refine gf_St_31 ok d_St_isOpen_1 h1 h4 ?_
  exact g_zret ok E d_St_isOpen_4 hz hp hk hn
theorem k_St_changes_0 {X : gC} {M : List mC} {k n : Nat} {x0 : Nat} {fs2 : List Value} {f3 : Int32} (ok : gO X c_St_changes "TripleStore$Store" w_St_changes) (h1 : M[x0]? = some (.inr (6, fs2))) (h4 : fs2[5]? = some (.int f3)) {l9 : Launch} {rm : Room} {M0 : List mC} {post : Option Value → List mC → Prop} (E : gE X l9 y_St_changes rm 1 (some .int) M0 post) (hp : post (some (.int f3)) M) (hk : k ≤ rm.cells) (hn : n ≤ rm.slots) : gg X M k n 0 [(0, .ref x0)] [] := by
  refine g_aload_n ok d_St_changes_0 rfl (j := 0) rfl ?_
  refine gf_St_35 ok d_St_changes_1 h1 h4 ?_
  exact g_iret ok E d_St_changes_4 hp hk hn
theorem k_St_committed_0 {X : gC} {M : List mC} {k n : Nat} {x0 : Nat} {fs2 : List Value} {f3 : Int32} (ok : gO X c_St_committed "TripleStore$Store" w_St_committed) (h1 : M[x0]? = some (.inr (6, fs2))) (h4 : fs2[6]? = some (.int f3)) {l9 : Launch} {rm : Room} {M0 : List mC} {post : Option Value → List mC → Prop} (E : gE X l9 y_St_committed rm 1 (some .int) M0 post) (hp : post (some (.int f3)) M) (hk : k ≤ rm.cells) (hn : n ≤ rm.slots) : gg X M k n 0 [(0, .ref x0)] [] := by
  refine g_aload_n ok d_St_committed_0 rfl (j := 0) rfl ?_
  refine gf_St_39 ok d_St_committed_1 h1 h4 ?_
  exact g_iret ok E d_St_committed_4 hp hk hn
theorem k_St_unsynced_0 {X : gC} {M : List mC} {k n : Nat} {x0 : Nat} {fs2 : List Value} {f3 : Int32} (ok : gO X c_St_unsynced "TripleStore$Store" w_St_unsynced) (h1 : M[x0]? = some (.inr (6, fs2))) (h4 : fs2[7]? = some (.int f3)) {l9 : Launch} {rm : Room} {M0 : List mC} {post : Option Value → List mC → Prop} (E : gE X l9 y_St_unsynced rm 1 (some .int) M0 post) (hp : post (some (.int f3)) M) (hk : k ≤ rm.cells) (hn : n ≤ rm.slots) : gg X M k n 0 [(0, .ref x0)] [] := by
  refine g_aload_n ok d_St_unsynced_0 rfl (j := 0) rfl ?_
  refine gf_St_42 ok d_St_unsynced_1 h1 h4 ?_
  exact g_iret ok E d_St_unsynced_4 hp hk hn
theorem k_St_has_0 {X : gC} {M : List mC} {k n : Nat} {x0 : Nat} {x1 : Int64} {x3 : Int64} {x5 : Int64} {fs2 : List Value} {f3 : Nat} {fs6 : List Value} (ok : gO X c_St_has "TripleStore$Store" w_St_has) (h1 : M[x0]? = some (.inr (6, fs2))) (h4 : fs2[0]? = some (.ref f3)) (h5 : M[f3]? = some (.inr (8, fs6))) {rm : Room} {post : Option Value → List mC → Prop} (hm : mm_ (gLa X) y_Tr_find w_Tr_find rm [.ref f3, .long x1, .long x3, .long x5] M post) (hR : gF X rm 8 k n) (hlen : ∀ r M', post r M' → M'.length = M.length) (kk : ∀ r M', post r M' → gg X M' (k + rm.cells) (n + rm.slots) 11 [] (r.toList ++ [])) : gg X M k n 0 [(0, .ref x0), (1, .long x1), (3, .long x3), (5, .long x5)] [] := by
  refine g_aload_n ok d_St_has_0 rfl (j := 0) rfl ?_
  refine gf_St_14 ok d_St_has_1 h1 h4 ?_
  refine g_lload_n ok d_St_has_4 rfl (j := 1) rfl ?_
  refine g_lload_n ok d_St_has_5 rfl (j := 2) rfl ?_
  refine g_lload ok d_St_has_6 (j := 3) rfl ?_
  exact gc_St_49 (As := [.long x1, .long x3, .long x5]) (rest := []) ok d_St_has_8 hm rfl rfl (Nat.le_of_ble_eq_true rfl) hR h5 hlen (fun r M' q => (gg_keep [] (kk r M' q)))
theorem k_St_has_11 {X : gC} {M : List mC} {k n : Nat} {s0 : Int32} (ok : gO X c_St_has "TripleStore$Store" w_St_has)  (kt : s0 < 0 → gg X M k n 18 [] []) (kf : ¬ s0 < 0 → gg X M k n 14 [] []) : gg X M k n 11 [] [.int s0] := by
  exact g_if_lt (tgt := 18) ok d_St_has_11 (by decide) (fun z => (kt z)) (fun z => (kf z))
theorem k_St_has_14 {X : gC} {M : List mC} {k n : Nat}  (ok : gO X c_St_has "TripleStore$Store" w_St_has)  (kk : gg X M k n 19 [] [.int 1]) : gg X M k n 14 [] [] := by
  refine g_iconst (v := 1) ok d_St_has_14 (by decide) ?_
  exact g_goto (tgt := 19) ok d_St_has_15 (by decide) kk
theorem k_St_has_18 {X : gC} {M : List mC} {k n : Nat}  (ok : gO X c_St_has "TripleStore$Store" w_St_has)  (kk : gg X M k n 19 [] [.int 0]) : gg X M k n 18 [] [] := by
  refine g_iconst (v := 0) ok d_St_has_18 (by decide) ?_
  exact kk
theorem k_St_has_19 {X : gC} {M : List mC} {k n : Nat} {s0 : Int32} (ok : gO X c_St_has "TripleStore$Store" w_St_has)  {l9 : Launch} {rm : Room} {M0 : List mC} {post : Option Value → List mC → Prop} (E : gE X l9 y_St_has rm 7 (some .boolean) M0 post) (hz : narrow .boolean (.int s0) = .int s0) (hp : post (some (.int s0)) M) (hk : k ≤ rm.cells) (hn : n ≤ rm.slots) : gg X M k n 19 [] [.int s0] := by
  exact g_zret ok E d_St_has_19 hz hp hk hn
theorem k_St_subject_0 {X : gC} {M : List mC} {k n : Nat} {x0 : Nat} {x1 : Int32} {fs2 : List Value} {f3 : Nat} {fs6 : List Value} (ok : gO X c_St_subject "TripleStore$Store" w_St_subject) (h1 : M[x0]? = some (.inr (6, fs2))) (h4 : fs2[0]? = some (.ref f3)) (h5 : M[f3]? = some (.inr (8, fs6))) {rm : Room} {post : Option Value → List mC → Prop} (hm : mm_ (gLa X) y_Tr_subject w_Tr_subject rm [.ref f3, .int x1] M post) (hR : gF X rm 2 k n) (hlen : ∀ r M', post r M' → M'.length = M.length) (kk : ∀ r M', post r M' → gg X M' (k + rm.cells) (n + rm.slots) 8 [] (r.toList ++ [])) : gg X M k n 0 [(0, .ref x0), (1, .int x1)] [] := by
  refine g_aload_n ok d_St_subject_0 rfl (j := 0) rfl ?_
  refine gf_St_14 ok d_St_subject_1 h1 h4 ?_
  refine g_iload_n ok d_St_subject_4 rfl (j := 1) rfl ?_
  exact gc_St_53 (As := [.int x1]) (rest := []) ok d_St_subject_5 hm rfl rfl (Nat.le_of_ble_eq_true rfl) hR h5 hlen (fun r M' q => (gg_keep [] (kk r M' q)))
theorem k_St_subject_8 {X : gC} {M : List mC} {k n : Nat} {s0 : Int64} (ok : gO X c_St_subject "TripleStore$Store" w_St_subject)  {l9 : Launch} {rm : Room} {M0 : List mC} {post : Option Value → List mC → Prop} (E : gE X l9 y_St_subject rm 2 (some .long) M0 post) (hp : post (some (.long s0)) M) (hk : k ≤ rm.cells) (hn : n ≤ rm.slots) : gg X M k n 8 [] [.long s0] := by
  exact g_lret ok E d_St_subject_8 hp hk hn
theorem k_St_predicate_0 {X : gC} {M : List mC} {k n : Nat} {x0 : Nat} {x1 : Int32} {fs2 : List Value} {f3 : Nat} {fs6 : List Value} (ok : gO X c_St_predicate "TripleStore$Store" w_St_predicate) (h1 : M[x0]? = some (.inr (6, fs2))) (h4 : fs2[0]? = some (.ref f3)) (h5 : M[f3]? = some (.inr (8, fs6))) {rm : Room} {post : Option Value → List mC → Prop} (hm : mm_ (gLa X) y_Tr_predicate w_Tr_predicate rm [.ref f3, .int x1] M post) (hR : gF X rm 2 k n) (hlen : ∀ r M', post r M' → M'.length = M.length) (kk : ∀ r M', post r M' → gg X M' (k + rm.cells) (n + rm.slots) 8 [] (r.toList ++ [])) : gg X M k n 0 [(0, .ref x0), (1, .int x1)] [] := by
  refine g_aload_n ok d_St_predicate_0 rfl (j := 0) rfl ?_
  refine gf_St_14 ok d_St_predicate_1 h1 h4 ?_
  refine g_iload_n ok d_St_predicate_4 rfl (j := 1) rfl ?_
  exact gc_St_57 (As := [.int x1]) (rest := []) ok d_St_predicate_5 hm rfl rfl (Nat.le_of_ble_eq_true rfl) hR h5 hlen (fun r M' q => (gg_keep [] (kk r M' q)))
theorem k_St_predicate_8 {X : gC} {M : List mC} {k n : Nat} {s0 : Int64} (ok : gO X c_St_predicate "TripleStore$Store" w_St_predicate)  {l9 : Launch} {rm : Room} {M0 : List mC} {post : Option Value → List mC → Prop} (E : gE X l9 y_St_predicate rm 2 (some .long) M0 post) (hp : post (some (.long s0)) M) (hk : k ≤ rm.cells) (hn : n ≤ rm.slots) : gg X M k n 8 [] [.long s0] := by
  exact g_lret ok E d_St_predicate_8 hp hk hn
theorem k_St_object_0 {X : gC} {M : List mC} {k n : Nat} {x0 : Nat} {x1 : Int32} {fs2 : List Value} {f3 : Nat} {fs6 : List Value} (ok : gO X c_St_object "TripleStore$Store" w_St_object) (h1 : M[x0]? = some (.inr (6, fs2))) (h4 : fs2[0]? = some (.ref f3)) (h5 : M[f3]? = some (.inr (8, fs6))) {rm : Room} {post : Option Value → List mC → Prop} (hm : mm_ (gLa X) y_Tr_object w_Tr_object rm [.ref f3, .int x1] M post) (hR : gF X rm 2 k n) (hlen : ∀ r M', post r M' → M'.length = M.length) (kk : ∀ r M', post r M' → gg X M' (k + rm.cells) (n + rm.slots) 8 [] (r.toList ++ [])) : gg X M k n 0 [(0, .ref x0), (1, .int x1)] [] := by
  refine g_aload_n ok d_St_object_0 rfl (j := 0) rfl ?_
  refine gf_St_14 ok d_St_object_1 h1 h4 ?_
  refine g_iload_n ok d_St_object_4 rfl (j := 1) rfl ?_
  exact gc_St_60 (As := [.int x1]) (rest := []) ok d_St_object_5 hm rfl rfl (Nat.le_of_ble_eq_true rfl) hR h5 hlen (fun r M' q => (gg_keep [] (kk r M' q)))
theorem k_St_object_8 {X : gC} {M : List mC} {k n : Nat} {s0 : Int64} (ok : gO X c_St_object "TripleStore$Store" w_St_object)  {l9 : Launch} {rm : Room} {M0 : List mC} {post : Option Value → List mC → Prop} (E : gE X l9 y_St_object rm 2 (some .long) M0 post) (hp : post (some (.long s0)) M) (hk : k ≤ rm.cells) (hn : n ≤ rm.slots) : gg X M k n 8 [] [.long s0] := by
  exact g_lret ok E d_St_object_8 hp hk hn
theorem k_St_insert_0 {X : gC} {M : List mC} {k n : Nat} {x0 : Nat} {x1 : Int64} {x3 : Int64} {x5 : Int64} {fs2 : List Value} {f3 : Nat} {fs6 : List Value} (ok : gO X c_St_insert "TripleStore$Store" w_St_insert) (h1 : M[x0]? = some (.inr (6, fs2))) (h4 : fs2[1]? = some (.ref f3)) (h5 : M[f3]? = some (.inr (8, fs6))) {rm : Room} {post : Option Value → List mC → Prop} (hm : mm_ (gLa X) y_Tr_isFull w_Tr_isFull rm [.ref f3] M post) (hR : gF X rm 1 k n) (hlen : ∀ r M', post r M' → M'.length = M.length) (kk : ∀ r M', post r M' → gg X M' (k + rm.cells) (n + rm.slots) 7 [(0, .ref x0), (1, .long x1), (3, .long x3), (5, .long x5)] (r.toList ++ [])) : gg X M k n 0 [(0, .ref x0), (1, .long x1), (3, .long x3), (5, .long x5)] [] := by
  refine g_aload_n ok d_St_insert_0 rfl (j := 0) rfl ?_
  refine gf_St_20 ok d_St_insert_1 h1 h4 ?_
  exact gc_St_63 (As := []) (rest := []) ok d_St_insert_4 hm rfl rfl (Nat.le_of_ble_eq_true rfl) hR h5 hlen kk
theorem k_St_insert_7 {X : gC} {M : List mC} {k n : Nat} {x0 : Nat} {x1 : Int64} {x3 : Int64} {x5 : Int64} {s0 : Int32} (ok : gO X c_St_insert "TripleStore$Store" w_St_insert)  (kt : ¬ s0 = 0 → gg X M k n 20 [] []) (kf : s0 = 0 → gg X M k n 10 [(0, .ref x0), (1, .long x1), (3, .long x3), (5, .long x5)] []) : gg X M k n 7 [(0, .ref x0), (1, .long x1), (3, .long x3), (5, .long x5)] [.int s0] := by
  exact g_if_ne (tgt := 20) ok d_St_insert_7 (by decide) (fun z => (gg_keep [] (kt z))) (fun z => (kf z))
theorem k_St_insert_10 {X : gC} {M : List mC} {k n : Nat} {x0 : Nat} {x1 : Int64} {x3 : Int64} {x5 : Int64} {fs2 : List Value} {f3 : Nat} {fs6 : List Value} (ok : gO X c_St_insert "TripleStore$Store" w_St_insert) (h1 : M[x0]? = some (.inr (6, fs2))) (h4 : fs2[0]? = some (.ref f3)) (h5 : M[f3]? = some (.inr (8, fs6))) {rm : Room} {post : Option Value → List mC → Prop} (hm : mm_ (gLa X) y_Tr_isFull w_Tr_isFull rm [.ref f3] M post) (hR : gF X rm 1 k n) (hlen : ∀ r M', post r M' → M'.length = M.length) (kk : ∀ r M', post r M' → gg X M' (k + rm.cells) (n + rm.slots) 17 [(0, .ref x0), (1, .long x1), (3, .long x3), (5, .long x5)] (r.toList ++ [])) : gg X M k n 10 [(0, .ref x0), (1, .long x1), (3, .long x3), (5, .long x5)] [] := by
  refine g_aload_n ok d_St_insert_10 rfl (j := 0) rfl ?_
  refine gf_St_14 ok d_St_insert_11 h1 h4 ?_
  exact gc_St_63 (As := []) (rest := []) ok d_St_insert_14 hm rfl rfl (Nat.le_of_ble_eq_true rfl) hR h5 hlen kk
theorem k_St_insert_17 {X : gC} {M : List mC} {k n : Nat} {x0 : Nat} {x1 : Int64} {x3 : Int64} {x5 : Int64} {s0 : Int32} (ok : gO X c_St_insert "TripleStore$Store" w_St_insert)  (kt : s0 = 0 → gg X M k n 22 [(0, .ref x0), (1, .long x1), (3, .long x3), (5, .long x5)] []) (kf : ¬ s0 = 0 → gg X M k n 20 [] []) : gg X M k n 17 [(0, .ref x0), (1, .long x1), (3, .long x3), (5, .long x5)] [.int s0] := by
  exact g_if_eq (tgt := 22) ok d_St_insert_17 (by decide) (fun z => (kt z)) (fun z => (gg_keep [] (kf z)))
theorem k_St_insert_20 {X : gC} {M : List mC} {k n : Nat}  (ok : gO X c_St_insert "TripleStore$Store" w_St_insert)  {l9 : Launch} {rm : Room} {M0 : List mC} {post : Option Value → List mC → Prop} (E : gE X l9 y_St_insert rm 7 (some .int) M0 post) (hp : post (some (.int 0)) M) (hk : k ≤ rm.cells) (hn : n ≤ rm.slots) : gg X M k n 20 [] [] := by
  refine g_iconst (v := 0) ok d_St_insert_20 (by decide) ?_
  exact g_iret ok E d_St_insert_21 hp hk hn
theorem k_St_insert_22 {X : gC} {M : List mC} {k n : Nat} {x0 : Nat} {x1 : Int64} {x3 : Int64} {x5 : Int64} {fs2 : List Value} {f3 : Nat} {fs6 : List Value} (ok : gO X c_St_insert "TripleStore$Store" w_St_insert) (h1 : M[x0]? = some (.inr (6, fs2))) (h4 : fs2[0]? = some (.ref f3)) (h5 : M[f3]? = some (.inr (8, fs6))) {rm : Room} {post : Option Value → List mC → Prop} (hm : mm_ (gLa X) y_Tr_put w_Tr_put rm [.ref f3, .long x1, .long x3, .long x5] M post) (hR : gF X rm 7 k n) (hlen : ∀ r M', post r M' → M'.length = M.length) (kk : ∀ r M', post r M' → gg X M' (k + rm.cells) (n + rm.slots) 33 [(0, .ref x0), (1, .long x1), (3, .long x3), (5, .long x5)] (r.toList ++ [])) : gg X M k n 22 [(0, .ref x0), (1, .long x1), (3, .long x3), (5, .long x5)] [] := by
  refine g_aload_n ok d_St_insert_22 rfl (j := 0) rfl ?_
  refine gf_St_14 ok d_St_insert_23 h1 h4 ?_
  refine g_lload_n ok d_St_insert_26 rfl (j := 1) rfl ?_
  refine g_lload_n ok d_St_insert_27 rfl (j := 2) rfl ?_
  refine g_lload ok d_St_insert_28 (j := 3) rfl ?_
  exact gc_St_67 (As := [.long x1, .long x3, .long x5]) (rest := []) ok d_St_insert_30 hm rfl rfl (Nat.le_of_ble_eq_true rfl) hR h5 hlen kk
theorem k_St_insert_33 {X : gC} {M : List mC} {k n : Nat} {x0 : Nat} {x1 : Int64} {x3 : Int64} {x5 : Int64} {fs2 : List Value} (ok : gO X c_St_insert "TripleStore$Store" w_St_insert) (h1 : M[x0]? = some (.inr (6, fs2))) {rm : Room} {post : Option Value → List mC → Prop} (hm : mm_ (gLa X) y_St_noteChange w_St_noteChange rm [.ref x0, .long x1, .long x3, .long x5, .int 1] M post) (hR : gF X rm 9 k n) (hlen : ∀ r M', post r M' → M'.length = M.length) (kk : ∀ r M', post r M' → gg X M' (k + rm.cells) (n + rm.slots) 42 [] (r.toList ++ [])) : gg X M k n 33 [(0, .ref x0), (1, .long x1), (3, .long x3), (5, .long x5)] [] := by
  refine g_aload_n ok d_St_insert_33 rfl (j := 0) rfl ?_
  refine g_lload_n ok d_St_insert_34 rfl (j := 1) rfl ?_
  refine g_lload_n ok d_St_insert_35 rfl (j := 2) rfl ?_
  refine g_lload ok d_St_insert_36 (j := 3) rfl ?_
  refine g_iconst (v := 1) ok d_St_insert_38 (by decide) ?_
  exact gc_St_71 (As := [.long x1, .long x3, .long x5, .int 1]) (rest := []) ok d_St_insert_39 hm rfl rfl (Nat.le_of_ble_eq_true rfl) hR h1 hlen (fun r M' q => (gg_keep [] (kk r M' q)))
theorem k_St_insert_42 {X : gC} {M : List mC} {k n : Nat}  (ok : gO X c_St_insert "TripleStore$Store" w_St_insert)  {l9 : Launch} {rm : Room} {M0 : List mC} {post : Option Value → List mC → Prop} (E : gE X l9 y_St_insert rm 7 (some .int) M0 post) (hp : post (some (.int 1)) M) (hk : k ≤ rm.cells) (hn : n ≤ rm.slots) : gg X M k n 42 [] [] := by
  refine g_iconst (v := 1) ok d_St_insert_42 (by decide) ?_
  exact g_iret ok E d_St_insert_43 hp hk hn
theorem k_St_delete_0 {X : gC} {M : List mC} {k n : Nat} {x0 : Nat} {x1 : Int64} {x3 : Int64} {x5 : Int64} {fs2 : List Value} {f3 : Nat} {fs6 : List Value} (ok : gO X c_St_delete "TripleStore$Store" w_St_delete) (h1 : M[x0]? = some (.inr (6, fs2))) (h4 : fs2[0]? = some (.ref f3)) (h5 : M[f3]? = some (.inr (8, fs6))) {rm : Room} {post : Option Value → List mC → Prop} (hm : mm_ (gLa X) y_Tr_find w_Tr_find rm [.ref f3, .long x1, .long x3, .long x5] M post) (hR : gF X rm 8 k n) (hlen : ∀ r M', post r M' → M'.length = M.length) (kk : ∀ r M', post r M' → gg X M' (k + rm.cells) (n + rm.slots) 11 [(0, .ref x0), (1, .long x1), (3, .long x3), (5, .long x5)] (r.toList ++ [])) : gg X M k n 0 [(0, .ref x0), (1, .long x1), (3, .long x3), (5, .long x5)] [] := by
  refine g_aload_n ok d_St_delete_0 rfl (j := 0) rfl ?_
  refine gf_St_14 ok d_St_delete_1 h1 h4 ?_
  refine g_lload_n ok d_St_delete_4 rfl (j := 1) rfl ?_
  refine g_lload_n ok d_St_delete_5 rfl (j := 2) rfl ?_
  refine g_lload ok d_St_delete_6 (j := 3) rfl ?_
  exact gc_St_49 (As := [.long x1, .long x3, .long x5]) (rest := []) ok d_St_delete_8 hm rfl rfl (Nat.le_of_ble_eq_true rfl) hR h5 hlen kk
theorem k_St_delete_11 {X : gC} {M : List mC} {k n : Nat} {x0 : Nat} {x1 : Int64} {x3 : Int64} {x5 : Int64} {s0 : Int32} (ok : gO X c_St_delete "TripleStore$Store" w_St_delete) (hl : gL X = 8)  (kt : s0 < 0 → gg X M k n 28 [] []) (kf : ¬ s0 < 0 → gg X M k n 18 [(0, .ref x0), (1, .long x1), (3, .long x3), (5, .long x5), (7, .int s0)] []) : gg X M k n 11 [(0, .ref x0), (1, .long x1), (3, .long x3), (5, .long x5)] [.int s0] := by
  refine g_istore (L' := [(0, .ref x0), (1, .long x1), (3, .long x3), (5, .long x5), (7, .int s0)]) ok d_St_delete_11 (by rw [hl]; decide) rfl ?_
  refine g_iload ok d_St_delete_13 (j := 4) rfl ?_
  exact g_if_lt (tgt := 28) ok d_St_delete_15 (by decide) (fun z => (gg_keep [] (kt z))) (fun z => (kf z))
theorem k_St_delete_18 {X : gC} {M : List mC} {k n : Nat} {x0 : Nat} {x1 : Int64} {x3 : Int64} {x5 : Int64} {x7 : Int32} {fs2 : List Value} {f3 : Nat} {fs6 : List Value} (ok : gO X c_St_delete "TripleStore$Store" w_St_delete) (h1 : M[x0]? = some (.inr (6, fs2))) (h4 : fs2[1]? = some (.ref f3)) (h5 : M[f3]? = some (.inr (8, fs6))) {rm : Room} {post : Option Value → List mC → Prop} (hm : mm_ (gLa X) y_Tr_isFull w_Tr_isFull rm [.ref f3] M post) (hR : gF X rm 1 k n) (hlen : ∀ r M', post r M' → M'.length = M.length) (kk : ∀ r M', post r M' → gg X M' (k + rm.cells) (n + rm.slots) 25 [(0, .ref x0), (1, .long x1), (3, .long x3), (5, .long x5), (7, .int x7)] (r.toList ++ [])) : gg X M k n 18 [(0, .ref x0), (1, .long x1), (3, .long x3), (5, .long x5), (7, .int x7)] [] := by
  refine g_aload_n ok d_St_delete_18 rfl (j := 0) rfl ?_
  refine gf_St_20 ok d_St_delete_19 h1 h4 ?_
  exact gc_St_63 (As := []) (rest := []) ok d_St_delete_22 hm rfl rfl (Nat.le_of_ble_eq_true rfl) hR h5 hlen kk
theorem k_St_delete_25 {X : gC} {M : List mC} {k n : Nat} {x0 : Nat} {x1 : Int64} {x3 : Int64} {x5 : Int64} {x7 : Int32} {s0 : Int32} (ok : gO X c_St_delete "TripleStore$Store" w_St_delete)  (kt : s0 = 0 → gg X M k n 30 [(0, .ref x0), (1, .long x1), (3, .long x3), (5, .long x5), (7, .int x7)] []) (kf : ¬ s0 = 0 → gg X M k n 28 [] []) : gg X M k n 25 [(0, .ref x0), (1, .long x1), (3, .long x3), (5, .long x5), (7, .int x7)] [.int s0] := by
  exact g_if_eq (tgt := 30) ok d_St_delete_25 (by decide) (fun z => (kt z)) (fun z => (gg_keep [] (kf z)))
theorem k_St_delete_28 {X : gC} {M : List mC} {k n : Nat}  (ok : gO X c_St_delete "TripleStore$Store" w_St_delete)  {l9 : Launch} {rm : Room} {M0 : List mC} {post : Option Value → List mC → Prop} (E : gE X l9 y_St_delete rm 8 (some .int) M0 post) (hp : post (some (.int 0)) M) (hk : k ≤ rm.cells) (hn : n ≤ rm.slots) : gg X M k n 28 [] [] := by
  refine g_iconst (v := 0) ok d_St_delete_28 (by decide) ?_
  exact g_iret ok E d_St_delete_29 hp hk hn
theorem k_St_delete_30 {X : gC} {M : List mC} {k n : Nat} {x0 : Nat} {x1 : Int64} {x3 : Int64} {x5 : Int64} {x7 : Int32} {fs2 : List Value} {f3 : Nat} {fs6 : List Value} (ok : gO X c_St_delete "TripleStore$Store" w_St_delete) (h1 : M[x0]? = some (.inr (6, fs2))) (h4 : fs2[0]? = some (.ref f3)) (h5 : M[f3]? = some (.inr (8, fs6))) {rm : Room} {post : Option Value → List mC → Prop} (hm : mm_ (gLa X) y_Tr_drop w_Tr_drop rm [.ref f3, .int x7] M post) (hR : gF X rm 2 k n) (hlen : ∀ r M', post r M' → M'.length = M.length) (kk : ∀ r M', post r M' → gg X M' (k + rm.cells) (n + rm.slots) 39 [(0, .ref x0), (1, .long x1), (3, .long x3), (5, .long x5)] (r.toList ++ [])) : gg X M k n 30 [(0, .ref x0), (1, .long x1), (3, .long x3), (5, .long x5), (7, .int x7)] [] := by
  refine g_aload_n ok d_St_delete_30 rfl (j := 0) rfl ?_
  refine gf_St_14 ok d_St_delete_31 h1 h4 ?_
  refine g_iload ok d_St_delete_34 (j := 4) rfl ?_
  exact gc_St_75 (As := [.int x7]) (rest := []) ok d_St_delete_36 hm rfl rfl (Nat.le_of_ble_eq_true rfl) hR h5 hlen (fun r M' q => (gg_keep [0, 1, 3, 5] (kk r M' q)))
theorem k_St_delete_39 {X : gC} {M : List mC} {k n : Nat} {x0 : Nat} {x1 : Int64} {x3 : Int64} {x5 : Int64} {fs2 : List Value} (ok : gO X c_St_delete "TripleStore$Store" w_St_delete) (h1 : M[x0]? = some (.inr (6, fs2))) {rm : Room} {post : Option Value → List mC → Prop} (hm : mm_ (gLa X) y_St_noteChange w_St_noteChange rm [.ref x0, .long x1, .long x3, .long x5, .int 0] M post) (hR : gF X rm 9 k n) (hlen : ∀ r M', post r M' → M'.length = M.length) (kk : ∀ r M', post r M' → gg X M' (k + rm.cells) (n + rm.slots) 48 [] (r.toList ++ [])) : gg X M k n 39 [(0, .ref x0), (1, .long x1), (3, .long x3), (5, .long x5)] [] := by
  refine g_aload_n ok d_St_delete_39 rfl (j := 0) rfl ?_
  refine g_lload_n ok d_St_delete_40 rfl (j := 1) rfl ?_
  refine g_lload_n ok d_St_delete_41 rfl (j := 2) rfl ?_
  refine g_lload ok d_St_delete_42 (j := 3) rfl ?_
  refine g_iconst (v := 0) ok d_St_delete_44 (by decide) ?_
  exact gc_St_71 (As := [.long x1, .long x3, .long x5, .int 0]) (rest := []) ok d_St_delete_45 hm rfl rfl (Nat.le_of_ble_eq_true rfl) hR h1 hlen (fun r M' q => (gg_keep [] (kk r M' q)))
theorem k_St_delete_48 {X : gC} {M : List mC} {k n : Nat}  (ok : gO X c_St_delete "TripleStore$Store" w_St_delete)  {l9 : Launch} {rm : Room} {M0 : List mC} {post : Option Value → List mC → Prop} (E : gE X l9 y_St_delete rm 8 (some .int) M0 post) (hp : post (some (.int 1)) M) (hk : k ≤ rm.cells) (hn : n ≤ rm.slots) : gg X M k n 48 [] [] := by
  refine g_iconst (v := 1) ok d_St_delete_48 (by decide) ?_
  exact g_iret ok E d_St_delete_49 hp hk hn
theorem k_St_noteChange_0 {X : gC} {M : List mC} {k n : Nat} {x0 : Nat} {x1 : Int64} {x3 : Int64} {x5 : Int64} {x7 : Int32} {fs2 : List Value} {f3 : Nat} {fs6 : List Value} (ok : gO X c_St_noteChange "TripleStore$Store" w_St_noteChange) (h1 : M[x0]? = some (.inr (6, fs2))) (h4 : fs2[1]? = some (.ref f3)) (h5 : M[f3]? = some (.inr (8, fs6))) {rm : Room} {post : Option Value → List mC → Prop} (hm : mm_ (gLa X) y_Tr_size w_Tr_size rm [.ref f3] M post) (hR : gF X rm 1 k n) (hlen : ∀ r M', post r M' → M'.length = M.length) (kk : ∀ r M', post r M' → gg X M' (k + rm.cells) (n + rm.slots) 7 [(0, .ref x0), (1, .long x1), (3, .long x3), (5, .long x5), (7, .int x7)] (r.toList ++ [])) : gg X M k n 0 [(0, .ref x0), (1, .long x1), (3, .long x3), (5, .long x5), (7, .int x7)] [] := by
  refine g_aload_n ok d_St_noteChange_0 rfl (j := 0) rfl ?_
  refine gf_St_20 ok d_St_noteChange_1 h1 h4 ?_
  exact gc_St_45 (As := []) (rest := []) ok d_St_noteChange_4 hm rfl rfl (Nat.le_of_ble_eq_true rfl) hR h5 hlen kk
theorem k_St_noteChange_7 {X : gC} {M : List mC} {k n : Nat} {x0 : Nat} {x1 : Int64} {x3 : Int64} {x5 : Int64} {x7 : Int32} {s0 : Int32} (ok : gO X c_St_noteChange "TripleStore$Store" w_St_noteChange) (hl : gL X = 9)  (kt : s0 < 512 → gg X M k n 18 [(0, .ref x0), (1, .long x1), (3, .long x3), (5, .long x5), (7, .int x7), (8, .int s0)] []) (kf : ¬ s0 < 512 → gg X M k n 17 [] []) : gg X M k n 7 [(0, .ref x0), (1, .long x1), (3, .long x3), (5, .long x5), (7, .int x7)] [.int s0] := by
  refine g_istore (L' := [(0, .ref x0), (1, .long x1), (3, .long x3), (5, .long x5), (7, .int x7), (8, .int s0)]) ok d_St_noteChange_7 (by rw [hl]; decide) rfl ?_
  refine g_iload ok d_St_noteChange_9 (j := 5) rfl ?_
  refine g_sipush (v := 512) ok d_St_noteChange_11 (by decide) ?_
  exact g_icmp_lt (tgt := 18) ok d_St_noteChange_14 (by decide) (fun z => (kt z)) (fun z => (gg_keep [] (kf z)))
theorem k_St_noteChange_17 {X : gC} {M : List mC} {k n : Nat}  (ok : gO X c_St_noteChange "TripleStore$Store" w_St_noteChange)  {l9 : Launch} {rm : Room} {M0 : List mC} {post : Option Value → List mC → Prop} (E : gE X l9 y_St_noteChange rm 9 none M0 post) (hp : post (none) M) (hk : k ≤ rm.cells) (hn : n ≤ rm.slots) : gg X M k n 17 [] [] := by
  exact g_vret ok E d_St_noteChange_17 hp hk hn
theorem k_St_noteChange_18 {X : gC} {M : List mC} {k n : Nat} {x0 : Nat} {x1 : Int64} {x3 : Int64} {x5 : Int64} {x7 : Int32} {x8 : Int32} {fs2 : List Value} {f3 : Nat} {fs6 : List Value} (ok : gO X c_St_noteChange "TripleStore$Store" w_St_noteChange) (h1 : M[x0]? = some (.inr (6, fs2))) (h4 : fs2[1]? = some (.ref f3)) (h5 : M[f3]? = some (.inr (8, fs6))) {rm : Room} {post : Option Value → List mC → Prop} (hm : mm_ (gLa X) y_Tr_put w_Tr_put rm [.ref f3, .long x1, .long x3, .long x5] M post) (hR : gF X rm 7 k n) (hlen : ∀ r M', post r M' → M'.length = M.length) (kk : ∀ r M', post r M' → gg X M' (k + rm.cells) (n + rm.slots) 29 [(0, .ref x0), (7, .int x7), (8, .int x8)] (r.toList ++ [])) : gg X M k n 18 [(0, .ref x0), (1, .long x1), (3, .long x3), (5, .long x5), (7, .int x7), (8, .int x8)] [] := by
  refine g_aload_n ok d_St_noteChange_18 rfl (j := 0) rfl ?_
  refine gf_St_20 ok d_St_noteChange_19 h1 h4 ?_
  refine g_lload_n ok d_St_noteChange_22 rfl (j := 1) rfl ?_
  refine g_lload_n ok d_St_noteChange_23 rfl (j := 2) rfl ?_
  refine g_lload ok d_St_noteChange_24 (j := 3) rfl ?_
  exact gc_St_67 (As := [.long x1, .long x3, .long x5]) (rest := []) ok d_St_noteChange_26 hm rfl rfl (Nat.le_of_ble_eq_true rfl) hR h5 hlen (fun r M' q => (gg_keep [0, 7, 8] (kk r M' q)))
theorem k_St_noteChange_29 {X : gC} {M : List mC} {k n : Nat} {x0 : Nat} {x7 : Int32} {x8 : Int32} {fs2 : List Value} {f3 : Nat} {g6 : Nat → Int32} {N7 : Nat} {M9 : List mC} {f13 : Nat} {f15 : Int32} {g18 : Nat → Int32} {N19 : Nat} {M23 : List mC} {f27 : Int32} (ok : gO X c_St_noteChange "TripleStore$Store" w_St_noteChange) (h1 : M[x0]? = some (.inr (6, fs2))) (h4 : fs2[2]? = some (.ref f3)) (h5 : M[f3]? = some (.inl (3, N7, .inl g6))) (h8 : vp_in x8 N7) (h10 : M.set f3 (.inl (3, N7, .inl (upd g6 x8.toNatClampNeg (vp_nar .boolean x7)))) = M9) (h14 : fs2[3]? = some (.ref f13)) (h16 : fs2[6]? = some (.int f15)) (h17 : M[f13]? = some (.inl (0, N19, .inl g18))) (h21 : f13 ≠ f3) (h22 : vp_in x8 N19) (h24 : M9.set f13 (.inl (0, N19, .inl (upd g18 x8.toNatClampNeg f15))) = M23) (h28 : fs2[4]? = some (.int f27)) (kt : f27 = 0 → gg X M23 k n 69 [(0, .ref x0)] []) (kf : ¬ f27 = 0 → gg X M23 k n 56 [(0, .ref x0)] []) : gg X M k n 29 [(0, .ref x0), (7, .int x7), (8, .int x8)] [] := by
  refine g_aload_n ok d_St_noteChange_29 rfl (j := 0) rfl ?_
  refine gf_St_23 ok d_St_noteChange_30 h1 h4 ?_
  refine g_iload ok d_St_noteChange_33 (j := 2) rfl ?_
  refine g_iload ok d_St_noteChange_35 (j := 1) rfl ?_
  refine g_zast (t := 3) ok rfl d_St_noteChange_37 h5 h8 ?_
  rw [h10]
  have h11 : M9[f3]? = some (.inl (3, N7, .inl (upd g6 x8.toNatClampNeg (vp_nar .boolean x7)))) := by rw [← h10]; exact gs_eq h5
  refine g_aload_n ok d_St_noteChange_38 rfl (j := 0) rfl ?_
  have h12 : M9[x0]? = some (.inr (6, fs2)) := by rw [← h10]; exact (gs_ne (ne_ao h5 h1)).trans h1
  refine gf_St_27 ok d_St_noteChange_39 h12 h14 ?_
  refine g_iload ok d_St_noteChange_42 (j := 2) rfl ?_
  refine g_aload_n ok d_St_noteChange_44 rfl (j := 0) rfl ?_
  refine gf_St_39 ok d_St_noteChange_45 h12 h16 ?_
  have h20 : M9[f13]? = some (.inl (0, N19, .inl g18)) := by rw [← h10]; exact (gs_ne (Ne.symm h21)).trans h17
  refine g_iast (t := 0) ok rfl d_St_noteChange_48 h20 h22 ?_
  rw [h24]
  have h25 : M23[f13]? = some (.inl (0, N19, .inl (upd g18 x8.toNatClampNeg f15))) := by rw [← h24]; exact gs_eq h20
  refine g_aload_n ok d_St_noteChange_49 rfl (j := 0) rfl ?_
  have h26 : M23[x0]? = some (.inr (6, fs2)) := by rw [← h24]; exact (gs_ne (ne_ao h20 h12)).trans h12
  refine gf_St_31 ok d_St_noteChange_50 h26 h28 ?_
  exact g_if_eq (tgt := 69) ok d_St_noteChange_53 (by decide) (fun z => (gg_keep [0] (kt z))) (fun z => (gg_keep [0] (kf z)))
theorem k_St_noteChange_56 {X : gC} {M : List mC} {k n : Nat} {x0 : Nat} {fs2 : List Value} {f3 : Int32} {fs7 : List Value} {M9 : List mC} (ok : gO X c_St_noteChange "TripleStore$Store" w_St_noteChange) (h1 : M[x0]? = some (.inr (6, fs2))) (h4 : fs2[5]? = some (.int f3)) (h6 : 8 ≤ fs2.length) (h8 : fs2.set 5 (.int (f3 + 1)) = fs7) (h10 : M.set x0 (.inr (6, fs7)) = M9) (kk : gg X M9 k n 73 [] []) : gg X M k n 56 [(0, .ref x0)] [] := by
  refine g_aload_n ok d_St_noteChange_56 rfl (j := 0) rfl ?_
  refine g_dup ok d_St_noteChange_57 rfl ?_
  refine gf_St_35 ok d_St_noteChange_58 h1 h4 ?_
  refine g_iconst (v := 1) ok d_St_noteChange_61 (by decide) ?_
  refine g_iadd ok d_St_noteChange_62 ?_
  have h5 : 5 < fs2.length := Nat.lt_of_lt_of_le (by decide) h6
  refine pf_St_35 ok d_St_noteChange_63 h1 h5 (fun _ => ⟨rfl, rfl⟩) ?_
  rw [h8]
  rw [h10]
  have h11 : M9[x0]? = some (.inr (6, fs7)) := by rw [← h10]; exact gs_eq h1
  have h12 : fs7[5]? = some (.int (f3 + 1)) := by rw [← h8]; exact List.getElem?_set_self h5
  have h13 : 8 ≤ fs7.length := by rw [← h8, List.length_set]; exact h6
  exact g_goto (tgt := 73) ok d_St_noteChange_66 (by decide) (gg_keep [] kk)
theorem k_St_noteChange_69 {X : gC} {M : List mC} {k n : Nat} {x0 : Nat} {fs2 : List Value} (ok : gO X c_St_noteChange "TripleStore$Store" w_St_noteChange) (h1 : M[x0]? = some (.inr (6, fs2))) {rm : Room} {post : Option Value → List mC → Prop} (hm : mm_ (gLa X) y_St_countCommitted w_St_countCommitted rm [.ref x0] M post) (hR : gF X rm 1 k n) (hlen : ∀ r M', post r M' → M'.length = M.length) (kk : ∀ r M', post r M' → gg X M' (k + rm.cells) (n + rm.slots) 73 [] (r.toList ++ [])) : gg X M k n 69 [(0, .ref x0)] [] := by
  refine g_aload_n ok d_St_noteChange_69 rfl (j := 0) rfl ?_
  exact gc_St_78 (As := []) (rest := []) ok d_St_noteChange_70 hm rfl rfl (Nat.le_of_ble_eq_true rfl) hR h1 hlen (fun r M' q => (gg_keep [] (kk r M' q)))
theorem k_St_noteChange_73 {X : gC} {M : List mC} {k n : Nat}  (ok : gO X c_St_noteChange "TripleStore$Store" w_St_noteChange)  {l9 : Launch} {rm : Room} {M0 : List mC} {post : Option Value → List mC → Prop} (E : gE X l9 y_St_noteChange rm 9 none M0 post) (hp : post (none) M) (hk : k ≤ rm.cells) (hn : n ≤ rm.slots) : gg X M k n 73 [] [] := by
  exact g_vret ok E d_St_noteChange_73 hp hk hn
theorem k_St_countCommitted_0 {X : gC} {M : List mC} {k n : Nat} {x0 : Nat} {fs2 : List Value} {f3 : Int32} {fs7 : List Value} {M9 : List mC} {f14 : Int32} {fs18 : List Value} {M20 : List mC} (ok : gO X c_St_countCommitted "TripleStore$Store" w_St_countCommitted) (h1 : M[x0]? = some (.inr (6, fs2))) (h4 : fs2[6]? = some (.int f3)) (h6 : 8 ≤ fs2.length) (h8 : fs2.set 6 (.int (f3 + 1)) = fs7) (h10 : M.set x0 (.inr (6, fs7)) = M9) (h15 : fs2[7]? = some (.int f14)) (h19 : fs7.set 7 (.int (f14 + 1)) = fs18) (h21 : M9.set x0 (.inr (6, fs18)) = M20) {l9 : Launch} {rm : Room} {M0 : List mC} {post : Option Value → List mC → Prop} (E : gE X l9 y_St_countCommitted rm 1 none M0 post) (hp : post (none) M20) (hk : k ≤ rm.cells) (hn : n ≤ rm.slots) : gg X M k n 0 [(0, .ref x0)] [] := by
  refine g_aload_n ok d_St_countCommitted_0 rfl (j := 0) rfl ?_
  refine g_dup ok d_St_countCommitted_1 rfl ?_
  refine gf_St_39 ok d_St_countCommitted_2 h1 h4 ?_
  refine g_iconst (v := 1) ok d_St_countCommitted_5 (by decide) ?_
  refine g_iadd ok d_St_countCommitted_6 ?_
  have h5 : 6 < fs2.length := Nat.lt_of_lt_of_le (by decide) h6
  refine pf_St_39 ok d_St_countCommitted_7 h1 h5 (fun _ => ⟨rfl, rfl⟩) ?_
  rw [h8]
  rw [h10]
  have h11 : M9[x0]? = some (.inr (6, fs7)) := by rw [← h10]; exact gs_eq h1
  have h12 : fs7[6]? = some (.int (f3 + 1)) := by rw [← h8]; exact List.getElem?_set_self h5
  have h13 : 8 ≤ fs7.length := by rw [← h8, List.length_set]; exact h6
  refine g_aload_n ok d_St_countCommitted_10 rfl (j := 0) rfl ?_
  refine g_dup ok d_St_countCommitted_11 rfl ?_
  have h16 : fs7[7]? = some (.int f14) := by rw [← h8]; exact (List.getElem?_set_ne (by decide : 6 ≠ 7)).trans h15
  refine gf_St_42 ok d_St_countCommitted_12 h11 h16 ?_
  refine g_iconst (v := 1) ok d_St_countCommitted_15 (by decide) ?_
  refine g_iadd ok d_St_countCommitted_16 ?_
  have h17 : 7 < fs7.length := Nat.lt_of_lt_of_le (by decide) h13
  refine pf_St_42 ok d_St_countCommitted_17 h11 h17 (fun _ => ⟨rfl, rfl⟩) ?_
  rw [h19]
  rw [h21]
  have h22 : M20[x0]? = some (.inr (6, fs18)) := by rw [← h21]; exact gs_eq h11
  have h23 : fs18[6]? = some (.int (f3 + 1)) := by rw [← h19]; exact (List.getElem?_set_ne (by decide : 7 ≠ 6)).trans h12
  have h24 : fs18[7]? = some (.int (f14 + 1)) := by rw [← h19]; exact List.getElem?_set_self h17
  have h25 : 8 ≤ fs18.length := by rw [← h19, List.length_set]; exact h13
  exact g_vret ok E d_St_countCommitted_20 hp hk hn
theorem k_St_openTransaction_0 {X : gC} {M : List mC} {k n : Nat} {x0 : Nat} {fs2 : List Value} {fs5 : List Value} {M7 : List mC} {f12 : Int32} (ok : gO X c_St_openTransaction "TripleStore$Store" w_St_openTransaction) (h1 : M[x0]? = some (.inr (6, fs2))) (h4 : 8 ≤ fs2.length) (h6 : fs2.set 4 (.int 1) = fs5) (h8 : M.set x0 (.inr (6, fs5)) = M7) (h13 : fs2[6]? = some (.int f12)) {l9 : Launch} {rm : Room} {M0 : List mC} {post : Option Value → List mC → Prop} (E : gE X l9 y_St_openTransaction rm 1 (some .int) M0 post) (hp : post (some (.int f12)) M7) (hk : k ≤ rm.cells) (hn : n ≤ rm.slots) : gg X M k n 0 [(0, .ref x0)] [] := by
  refine g_aload_n ok d_St_openTransaction_0 rfl (j := 0) rfl ?_
  refine g_iconst (v := 1) ok d_St_openTransaction_1 (by decide) ?_
  have h3 : 4 < fs2.length := Nat.lt_of_lt_of_le (by decide) h4
  refine pf_St_31 ok d_St_openTransaction_2 h1 h3 (fun _ => ⟨rfl, rfl⟩) ?_
  rw [h6]
  rw [h8]
  have h9 : M7[x0]? = some (.inr (6, fs5)) := by rw [← h8]; exact gs_eq h1
  have h10 : fs5[4]? = some (.int 1) := by rw [← h6]; exact List.getElem?_set_self h3
  have h11 : 8 ≤ fs5.length := by rw [← h6, List.length_set]; exact h4
  refine g_aload_n ok d_St_openTransaction_5 rfl (j := 0) rfl ?_
  have h14 : fs5[6]? = some (.int f12) := by rw [← h6]; exact (List.getElem?_set_ne (by decide : 4 ≠ 6)).trans h13
  refine gf_St_39 ok d_St_openTransaction_6 h9 h14 ?_
  exact g_iret ok E d_St_openTransaction_9 hp hk hn
theorem k_St_commitOpen_0 {X : gC} {M : List mC} {k n : Nat} {x0 : Nat} {fs2 : List Value} {f3 : Int32} {fs7 : List Value} {M9 : List mC} {fs16 : List Value} {M18 : List mC} (ok : gO X c_St_commitOpen "TripleStore$Store" w_St_commitOpen) (hl : gL X = 2) (h1 : M[x0]? = some (.inr (6, fs2))) (h4 : fs2[5]? = some (.int f3)) (h6 : 8 ≤ fs2.length) (h8 : fs2.set 4 (.int 0) = fs7) (h10 : M.set x0 (.inr (6, fs7)) = M9) (h17 : fs7.set 5 (.int 0) = fs16) (h19 : M9.set x0 (.inr (6, fs16)) = M18) {rm : Room} {post : Option Value → List mC → Prop} (hm : mm_ (gLa X) y_St_countCommitted w_St_countCommitted rm [.ref x0] M18 post) (hR : gF X rm 1 k n) (hlen : ∀ r M', post r M' → M'.length = M18.length) (kk : ∀ r M', post r M' → gg X M' (k + rm.cells) (n + rm.slots) 19 [(1, .int f3)] (r.toList ++ [])) : gg X M k n 0 [(0, .ref x0)] [] := by
  refine g_aload_n ok d_St_commitOpen_0 rfl (j := 0) rfl ?_
  refine gf_St_35 ok d_St_commitOpen_1 h1 h4 ?_
  refine g_istore_n (L' := [(0, .ref x0), (1, .int f3)]) ok d_St_commitOpen_4 rfl (by rw [hl]; decide) rfl ?_
  refine g_aload_n ok d_St_commitOpen_5 rfl (j := 0) rfl ?_
  refine g_iconst (v := 0) ok d_St_commitOpen_6 (by decide) ?_
  have h5 : 4 < fs2.length := Nat.lt_of_lt_of_le (by decide) h6
  refine pf_St_31 ok d_St_commitOpen_7 h1 h5 (fun _ => ⟨rfl, rfl⟩) ?_
  rw [h8]
  rw [h10]
  have h11 : M9[x0]? = some (.inr (6, fs7)) := by rw [← h10]; exact gs_eq h1
  have h12 : fs7[5]? = some (.int f3) := by rw [← h8]; exact (List.getElem?_set_ne (by decide : 4 ≠ 5)).trans h4
  have h13 : fs7[4]? = some (.int 0) := by rw [← h8]; exact List.getElem?_set_self h5
  have h14 : 8 ≤ fs7.length := by rw [← h8, List.length_set]; exact h6
  refine g_aload_n ok d_St_commitOpen_10 rfl (j := 0) rfl ?_
  refine g_iconst (v := 0) ok d_St_commitOpen_11 (by decide) ?_
  have h15 : 5 < fs7.length := Nat.lt_of_lt_of_le (by decide) h14
  refine pf_St_35 ok d_St_commitOpen_12 h11 h15 (fun _ => ⟨rfl, rfl⟩) ?_
  rw [h17]
  rw [h19]
  have h20 : M18[x0]? = some (.inr (6, fs16)) := by rw [← h19]; exact gs_eq h11
  have h21 : fs16[4]? = some (.int 0) := by rw [← h17]; exact (List.getElem?_set_ne (by decide : 5 ≠ 4)).trans h13
  have h22 : fs16[5]? = some (.int 0) := by rw [← h17]; exact List.getElem?_set_self h15
  have h23 : 8 ≤ fs16.length := by rw [← h17, List.length_set]; exact h14
  refine g_aload_n ok d_St_commitOpen_15 rfl (j := 0) rfl ?_
  exact gc_St_78 (As := []) (rest := []) ok d_St_commitOpen_16 hm rfl rfl (Nat.le_of_ble_eq_true rfl) hR h20 hlen (fun r M' q => (gg_keep [1] (kk r M' q)))
theorem k_St_commitOpen_19 {X : gC} {M : List mC} {k n : Nat} {x1 : Int32} (ok : gO X c_St_commitOpen "TripleStore$Store" w_St_commitOpen)  {l9 : Launch} {rm : Room} {M0 : List mC} {post : Option Value → List mC → Prop} (E : gE X l9 y_St_commitOpen rm 2 (some .int) M0 post) (hp : post (some (.int x1)) M) (hk : k ≤ rm.cells) (hn : n ≤ rm.slots) : gg X M k n 19 [(1, .int x1)] [] := by
  refine g_iload_n ok d_St_commitOpen_19 rfl (j := 0) rfl ?_
  exact g_iret ok E d_St_commitOpen_20 hp hk hn
theorem k_St_undoOpen_0 {X : gC} {M : List mC} {k n : Nat} {x0 : Nat} {fs2 : List Value} {f3 : Int32} {f5 : Int32} (ok : gO X c_St_undoOpen "TripleStore$Store" w_St_undoOpen) (hl : gL X = 2) (h1 : M[x0]? = some (.inr (6, fs2))) (h4 : fs2[5]? = some (.int f3)) (h6 : fs2[6]? = some (.int f5)) {rm : Room} {post : Option Value → List mC → Prop} (hm : mm_ (gLa X) y_St_undoFrom w_St_undoFrom rm [.ref x0, .int f5] M post) (hR : gF X rm 3 k n) (hlen : ∀ r M', post r M' → M'.length = M.length) (kk : ∀ r M', post r M' → gg X M' (k + rm.cells) (n + rm.slots) 13 [(1, .int f3)] (r.toList ++ [])) : gg X M k n 0 [(0, .ref x0)] [] := by
  refine g_aload_n ok d_St_undoOpen_0 rfl (j := 0) rfl ?_
  refine gf_St_35 ok d_St_undoOpen_1 h1 h4 ?_
  refine g_istore_n (L' := [(0, .ref x0), (1, .int f3)]) ok d_St_undoOpen_4 rfl (by rw [hl]; decide) rfl ?_
  refine g_aload_n ok d_St_undoOpen_5 rfl (j := 0) rfl ?_
  refine g_aload_n ok d_St_undoOpen_6 rfl (j := 0) rfl ?_
  refine gf_St_39 ok d_St_undoOpen_7 h1 h6 ?_
  exact gc_St_81 (As := [.int f5]) (rest := []) ok d_St_undoOpen_10 hm rfl rfl (Nat.le_of_ble_eq_true rfl) hR h1 hlen (fun r M' q => (gg_keep [1] (kk r M' q)))
theorem k_St_undoOpen_13 {X : gC} {M : List mC} {k n : Nat} {x1 : Int32} (ok : gO X c_St_undoOpen "TripleStore$Store" w_St_undoOpen)  {l9 : Launch} {rm : Room} {M0 : List mC} {post : Option Value → List mC → Prop} (E : gE X l9 y_St_undoOpen rm 2 (some .int) M0 post) (hp : post (some (.int x1)) M) (hk : k ≤ rm.cells) (hn : n ≤ rm.slots) : gg X M k n 13 [(1, .int x1)] [] := by
  refine g_iload_n ok d_St_undoOpen_13 rfl (j := 0) rfl ?_
  exact g_iret ok E d_St_undoOpen_14 hp hk hn
theorem k_St_syncAll_0 {X : gC} {M : List mC} {k n : Nat} {x0 : Nat} {fs2 : List Value} {f3 : Int32} {fs7 : List Value} {M9 : List mC} (ok : gO X c_St_syncAll "TripleStore$Store" w_St_syncAll) (hl : gL X = 2) (h1 : M[x0]? = some (.inr (6, fs2))) (h4 : fs2[7]? = some (.int f3)) (h6 : 8 ≤ fs2.length) (h8 : fs2.set 7 (.int 0) = fs7) (h10 : M.set x0 (.inr (6, fs7)) = M9) {l9 : Launch} {rm : Room} {M0 : List mC} {post : Option Value → List mC → Prop} (E : gE X l9 y_St_syncAll rm 2 (some .int) M0 post) (hp : post (some (.int f3)) M9) (hk : k ≤ rm.cells) (hn : n ≤ rm.slots) : gg X M k n 0 [(0, .ref x0)] [] := by
  refine g_aload_n ok d_St_syncAll_0 rfl (j := 0) rfl ?_
  refine gf_St_42 ok d_St_syncAll_1 h1 h4 ?_
  refine g_istore_n (L' := [(0, .ref x0), (1, .int f3)]) ok d_St_syncAll_4 rfl (by rw [hl]; decide) rfl ?_
  refine g_aload_n ok d_St_syncAll_5 rfl (j := 0) rfl ?_
  refine g_iconst (v := 0) ok d_St_syncAll_6 (by decide) ?_
  have h5 : 7 < fs2.length := Nat.lt_of_lt_of_le (by decide) h6
  refine pf_St_42 ok d_St_syncAll_7 h1 h5 (fun _ => ⟨rfl, rfl⟩) ?_
  rw [h8]
  rw [h10]
  have h11 : M9[x0]? = some (.inr (6, fs7)) := by rw [← h10]; exact gs_eq h1
  have h12 : fs7[7]? = some (.int 0) := by rw [← h8]; exact List.getElem?_set_self h5
  have h13 : 8 ≤ fs7.length := by rw [← h8, List.length_set]; exact h6
  refine g_iload_n ok d_St_syncAll_10 rfl (j := 1) rfl ?_
  exact g_iret ok E d_St_syncAll_11 hp hk hn
theorem k_St_loseBut_0 {X : gC} {M : List mC} {k n : Nat} {x0 : Nat} {x1 : Int32} {fs2 : List Value} {f3 : Int32} {f5 : Int32} (ok : gO X c_St_loseBut "TripleStore$Store" w_St_loseBut) (h1 : M[x0]? = some (.inr (6, fs2))) (h4 : fs2[6]? = some (.int f3)) (h6 : fs2[7]? = some (.int f5)) (hf : 1 ≤ (gR X).frames) (hl2 : (([.int (f3 - f5), .ref x0] : List Value).map fun v => v.category).sum + 13 ≤ (gR X).locals) (hk1 : k ≤ (gR X).cells) (hk2 : n ≤ (gR X).slots) (kk : gg X M k n 18 [(0, .ref x0)] [.int (if f5 < x1 then f5 else x1), .int (f3 - f5), .ref x0]) : gg X M k n 0 [(0, .ref x0), (1, .int x1)] [] := by
  refine g_aload_n ok d_St_loseBut_0 rfl (j := 0) rfl ?_
  refine g_aload_n ok d_St_loseBut_1 rfl (j := 0) rfl ?_
  refine gf_St_39 ok d_St_loseBut_2 h1 h4 ?_
  refine g_aload_n ok d_St_loseBut_5 rfl (j := 0) rfl ?_
  refine gf_St_42 ok d_St_loseBut_6 h1 h6 ?_
  refine g_isub ok d_St_loseBut_9 ?_
  refine g_iload_n ok d_St_loseBut_10 rfl (j := 1) rfl ?_
  refine g_aload_n ok d_St_loseBut_11 rfl (j := 0) rfl ?_
  refine gf_St_42 ok d_St_loseBut_12 h1 h6 ?_
  exact g_mmin ok ml_St_84 d_St_loseBut_15 hf hl2 hk1 hk2 (gg_keep [0] kk)
theorem k_St_loseBut_18 {X : gC} {M : List mC} {k n : Nat} {x0 : Nat} {s1 : Int32} {s2 : Int32} {fs2 : List Value} (ok : gO X c_St_loseBut "TripleStore$Store" w_St_loseBut) (h1 : M[x0]? = some (.inr (6, fs2))) {rm : Room} {post : Option Value → List mC → Prop} (hm : mm_ (gLa X) y_St_undoFrom w_St_undoFrom rm [.ref x0, .int (s1 + s2)] M post) (hR : gF X rm 3 k n) (hlen : ∀ r M', post r M' → M'.length = M.length) (kk : ∀ r M', post r M' → gg X M' (k + rm.cells) (n + rm.slots) 22 [(0, .ref x0)] (r.toList ++ [])) : gg X M k n 18 [(0, .ref x0)] [.int s2, .int s1, .ref x0] := by
  refine g_iadd ok d_St_loseBut_18 ?_
  exact gc_St_81 (As := [.int (s1 + s2)]) (rest := []) ok d_St_loseBut_19 hm rfl rfl (Nat.le_of_ble_eq_true rfl) hR h1 hlen kk
theorem k_St_loseBut_22 {X : gC} {M : List mC} {k n : Nat} {x0 : Nat} {fs2 : List Value} {fs5 : List Value} {M7 : List mC} (ok : gO X c_St_loseBut "TripleStore$Store" w_St_loseBut) (h1 : M[x0]? = some (.inr (6, fs2))) (h4 : 8 ≤ fs2.length) (h6 : fs2.set 7 (.int 0) = fs5) (h8 : M.set x0 (.inr (6, fs5)) = M7) {l9 : Launch} {rm : Room} {M0 : List mC} {post : Option Value → List mC → Prop} (E : gE X l9 y_St_loseBut rm 2 none M0 post) (hp : post (none) M7) (hk : k ≤ rm.cells) (hn : n ≤ rm.slots) : gg X M k n 22 [(0, .ref x0)] [] := by
  refine g_aload_n ok d_St_loseBut_22 rfl (j := 0) rfl ?_
  refine g_iconst (v := 0) ok d_St_loseBut_23 (by decide) ?_
  have h3 : 7 < fs2.length := Nat.lt_of_lt_of_le (by decide) h4
  refine pf_St_42 ok d_St_loseBut_24 h1 h3 (fun _ => ⟨rfl, rfl⟩) ?_
  rw [h6]
  rw [h8]
  have h9 : M7[x0]? = some (.inr (6, fs5)) := by rw [← h8]; exact gs_eq h1
  have h10 : fs5[7]? = some (.int 0) := by rw [← h6]; exact List.getElem?_set_self h3
  have h11 : 8 ≤ fs5.length := by rw [← h6, List.length_set]; exact h4
  exact g_vret ok E d_St_loseBut_27 hp hk hn
theorem k_St_undoFrom_0 {X : gC} {M : List mC} {k n : Nat} {x0 : Nat} {x1 : Int32} {fs2 : List Value} {f3 : Nat} {fs6 : List Value} (ok : gO X c_St_undoFrom "TripleStore$Store" w_St_undoFrom) (h1 : M[x0]? = some (.inr (6, fs2))) (h4 : fs2[1]? = some (.ref f3)) (h5 : M[f3]? = some (.inr (8, fs6))) {rm : Room} {post : Option Value → List mC → Prop} (hm : mm_ (gLa X) y_Tr_size w_Tr_size rm [.ref f3] M post) (hR : gF X rm 1 k n) (hlen : ∀ r M', post r M' → M'.length = M.length) (kk : ∀ r M', post r M' → gg X M' (k + rm.cells) (n + rm.slots) 7 [(0, .ref x0), (1, .int x1)] (r.toList ++ [])) : gg X M k n 0 [(0, .ref x0), (1, .int x1)] [] := by
  refine g_aload_n ok d_St_undoFrom_0 rfl (j := 0) rfl ?_
  refine gf_St_20 ok d_St_undoFrom_1 h1 h4 ?_
  exact gc_St_45 (As := []) (rest := []) ok d_St_undoFrom_4 hm rfl rfl (Nat.le_of_ble_eq_true rfl) hR h5 hlen kk
theorem k_St_undoFrom_7 {X : gC} {M : List mC} {k n : Nat} {x0 : Nat} {x1 : Int32} {s0 : Int32} (ok : gO X c_St_undoFrom "TripleStore$Store" w_St_undoFrom) (hl : gL X = 3)  (kk : gg X M k n 10 [(0, .ref x0), (1, .int x1), (2, .int (s0 - 1))] []) : gg X M k n 7 [(0, .ref x0), (1, .int x1)] [.int s0] := by
  refine g_iconst (v := 1) ok d_St_undoFrom_7 (by decide) ?_
  refine g_isub ok d_St_undoFrom_8 ?_
  refine g_istore_n (L' := [(0, .ref x0), (1, .int x1), (2, .int (s0 - 1))]) ok d_St_undoFrom_9 rfl (by rw [hl]; decide) rfl ?_
  exact kk
theorem k_St_undoFrom_10 {X : gC} {M : List mC} {k n : Nat} {x0 : Nat} {x1 : Int32} {x2 : Int32} (ok : gO X c_St_undoFrom "TripleStore$Store" w_St_undoFrom)  (kt : x2 < 0 → gg X M k n 35 [(0, .ref x0)] []) (kf : ¬ x2 < 0 → gg X M k n 14 [(0, .ref x0), (1, .int x1), (2, .int x2)] []) : gg X M k n 10 [(0, .ref x0), (1, .int x1), (2, .int x2)] [] := by
  refine g_iload_n ok d_St_undoFrom_10 rfl (j := 2) rfl ?_
  exact g_if_lt (tgt := 35) ok d_St_undoFrom_11 (by decide) (fun z => (gg_keep [0] (kt z))) (fun z => (kf z))
theorem k_St_undoFrom_14 {X : gC} {M : List mC} {k n : Nat} {x0 : Nat} {x1 : Int32} {x2 : Int32} {fs2 : List Value} {f3 : Nat} {g6 : Nat → Int32} {N7 : Nat} (ok : gO X c_St_undoFrom "TripleStore$Store" w_St_undoFrom) (h1 : M[x0]? = some (.inr (6, fs2))) (h4 : fs2[3]? = some (.ref f3)) (h5 : M[f3]? = some (.inl (0, N7, .inl g6))) (h8 : vp_in x2 N7) (kt : (g6 x2.toNatClampNeg) < x1 → gg X M k n 35 [(0, .ref x0)] []) (kf : ¬ (g6 x2.toNatClampNeg) < x1 → gg X M k n 24 [(0, .ref x0), (1, .int x1), (2, .int x2)] []) : gg X M k n 14 [(0, .ref x0), (1, .int x1), (2, .int x2)] [] := by
  refine g_aload_n ok d_St_undoFrom_14 rfl (j := 0) rfl ?_
  refine gf_St_27 ok d_St_undoFrom_15 h1 h4 ?_
  refine g_iload_n ok d_St_undoFrom_18 rfl (j := 2) rfl ?_
  refine g_iald (t := 0) ok rfl d_St_undoFrom_19 h5 h8 ?_
  refine g_iload_n ok d_St_undoFrom_20 rfl (j := 1) rfl ?_
  exact g_icmp_lt (tgt := 35) ok d_St_undoFrom_21 (by decide) (fun z => (gg_keep [0] (kt z))) (fun z => (kf z))
theorem k_St_undoFrom_24 {X : gC} {M : List mC} {k n : Nat} {x0 : Nat} {x1 : Int32} {x2 : Int32} {fs2 : List Value} (ok : gO X c_St_undoFrom "TripleStore$Store" w_St_undoFrom) (h1 : M[x0]? = some (.inr (6, fs2))) {rm : Room} {post : Option Value → List mC → Prop} (hm : mm_ (gLa X) y_St_undoLast w_St_undoLast rm [.ref x0, .int x2] M post) (hR : gF X rm 8 k n) (hlen : ∀ r M', post r M' → M'.length = M.length) (kk : ∀ r M', post r M' → gg X M' (k + rm.cells) (n + rm.slots) 29 [(0, .ref x0), (1, .int x1), (2, .int x2)] (r.toList ++ [])) : gg X M k n 24 [(0, .ref x0), (1, .int x1), (2, .int x2)] [] := by
  refine g_aload_n ok d_St_undoFrom_24 rfl (j := 0) rfl ?_
  refine g_iload_n ok d_St_undoFrom_25 rfl (j := 2) rfl ?_
  exact gc_St_90 (As := [.int x2]) (rest := []) ok d_St_undoFrom_26 hm rfl rfl (Nat.le_of_ble_eq_true rfl) hR h1 hlen kk
theorem k_St_undoFrom_29 {X : gC} {M : List mC} {k n : Nat} {x0 : Nat} {x1 : Int32} {x2 : Int32} (ok : gO X c_St_undoFrom "TripleStore$Store" w_St_undoFrom) (hl : gL X = 3)  (kk : gg X M k n 10 [(0, .ref x0), (1, .int x1), (2, .int (x2 + (-1)))] []) : gg X M k n 29 [(0, .ref x0), (1, .int x1), (2, .int x2)] [] := by
  refine g_iinc (L' := [(0, .ref x0), (1, .int x1), (2, .int (x2 + (-1)))]) (v := (x2 + (-1))) ok d_St_undoFrom_29 (j := 2) rfl rfl (by rw [hl]; decide) rfl ?_
  exact g_goto (tgt := 10) ok d_St_undoFrom_32 (by decide) kk
theorem k_St_undoFrom_35 {X : gC} {M : List mC} {k n : Nat} {x0 : Nat} {fs2 : List Value} {fs5 : List Value} {M7 : List mC} {fs13 : List Value} {M15 : List mC} (ok : gO X c_St_undoFrom "TripleStore$Store" w_St_undoFrom) (h1 : M[x0]? = some (.inr (6, fs2))) (h4 : 8 ≤ fs2.length) (h6 : fs2.set 4 (.int 0) = fs5) (h8 : M.set x0 (.inr (6, fs5)) = M7) (h14 : fs5.set 5 (.int 0) = fs13) (h16 : M7.set x0 (.inr (6, fs13)) = M15) {l9 : Launch} {rm : Room} {M0 : List mC} {post : Option Value → List mC → Prop} (E : gE X l9 y_St_undoFrom rm 3 none M0 post) (hp : post (none) M15) (hk : k ≤ rm.cells) (hn : n ≤ rm.slots) : gg X M k n 35 [(0, .ref x0)] [] := by
  refine g_aload_n ok d_St_undoFrom_35 rfl (j := 0) rfl ?_
  refine g_iconst (v := 0) ok d_St_undoFrom_36 (by decide) ?_
  have h3 : 4 < fs2.length := Nat.lt_of_lt_of_le (by decide) h4
  refine pf_St_31 ok d_St_undoFrom_37 h1 h3 (fun _ => ⟨rfl, rfl⟩) ?_
  rw [h6]
  rw [h8]
  have h9 : M7[x0]? = some (.inr (6, fs5)) := by rw [← h8]; exact gs_eq h1
  have h10 : fs5[4]? = some (.int 0) := by rw [← h6]; exact List.getElem?_set_self h3
  have h11 : 8 ≤ fs5.length := by rw [← h6, List.length_set]; exact h4
  refine g_aload_n ok d_St_undoFrom_40 rfl (j := 0) rfl ?_
  refine g_iconst (v := 0) ok d_St_undoFrom_41 (by decide) ?_
  have h12 : 5 < fs5.length := Nat.lt_of_lt_of_le (by decide) h11
  refine pf_St_35 ok d_St_undoFrom_42 h9 h12 (fun _ => ⟨rfl, rfl⟩) ?_
  rw [h14]
  rw [h16]
  have h17 : M15[x0]? = some (.inr (6, fs13)) := by rw [← h16]; exact gs_eq h9
  have h18 : fs13[4]? = some (.int 0) := by rw [← h14]; exact (List.getElem?_set_ne (by decide : 5 ≠ 4)).trans h10
  have h19 : fs13[5]? = some (.int 0) := by rw [← h14]; exact List.getElem?_set_self h12
  have h20 : 8 ≤ fs13.length := by rw [← h14, List.length_set]; exact h11
  exact g_vret ok E d_St_undoFrom_45 hp hk hn
theorem k_St_undoLast_0 {X : gC} {M : List mC} {k n : Nat} {x0 : Nat} {x1 : Int32} {fs2 : List Value} {f3 : Nat} {fs6 : List Value} (ok : gO X c_St_undoLast "TripleStore$Store" w_St_undoLast) (h1 : M[x0]? = some (.inr (6, fs2))) (h4 : fs2[1]? = some (.ref f3)) (h5 : M[f3]? = some (.inr (8, fs6))) {rm : Room} {post : Option Value → List mC → Prop} (hm : mm_ (gLa X) y_Tr_subject w_Tr_subject rm [.ref f3, .int x1] M post) (hR : gF X rm 2 k n) (hlen : ∀ r M', post r M' → M'.length = M.length) (kk : ∀ r M', post r M' → gg X M' (k + rm.cells) (n + rm.slots) 8 [(0, .ref x0), (1, .int x1)] (r.toList ++ [])) : gg X M k n 0 [(0, .ref x0), (1, .int x1)] [] := by
  refine g_aload_n ok d_St_undoLast_0 rfl (j := 0) rfl ?_
  refine gf_St_20 ok d_St_undoLast_1 h1 h4 ?_
  refine g_iload_n ok d_St_undoLast_4 rfl (j := 1) rfl ?_
  exact gc_St_53 (As := [.int x1]) (rest := []) ok d_St_undoLast_5 hm rfl rfl (Nat.le_of_ble_eq_true rfl) hR h5 hlen kk
theorem k_St_undoLast_8 {X : gC} {M : List mC} {k n : Nat} {x0 : Nat} {x1 : Int32} {s0 : Int64} {fs2 : List Value} {f3 : Nat} {fs6 : List Value} (ok : gO X c_St_undoLast "TripleStore$Store" w_St_undoLast) (hl : gL X = 8) (h1 : M[x0]? = some (.inr (6, fs2))) (h4 : fs2[1]? = some (.ref f3)) (h5 : M[f3]? = some (.inr (8, fs6))) {rm : Room} {post : Option Value → List mC → Prop} (hm : mm_ (gLa X) y_Tr_predicate w_Tr_predicate rm [.ref f3, .int x1] M post) (hR : gF X rm 2 k n) (hlen : ∀ r M', post r M' → M'.length = M.length) (kk : ∀ r M', post r M' → gg X M' (k + rm.cells) (n + rm.slots) 17 [(0, .ref x0), (1, .int x1), (2, .long s0)] (r.toList ++ [])) : gg X M k n 8 [(0, .ref x0), (1, .int x1)] [.long s0] := by
  refine g_lstore_n (L' := [(0, .ref x0), (1, .int x1), (2, .long s0)]) ok d_St_undoLast_8 rfl (by rw [hl]; decide) rfl ?_
  refine g_aload_n ok d_St_undoLast_9 rfl (j := 0) rfl ?_
  refine gf_St_20 ok d_St_undoLast_10 h1 h4 ?_
  refine g_iload_n ok d_St_undoLast_13 rfl (j := 1) rfl ?_
  exact gc_St_57 (As := [.int x1]) (rest := []) ok d_St_undoLast_14 hm rfl rfl (Nat.le_of_ble_eq_true rfl) hR h5 hlen kk
theorem k_St_undoLast_17 {X : gC} {M : List mC} {k n : Nat} {x0 : Nat} {x1 : Int32} {x2 : Int64} {s0 : Int64} {fs2 : List Value} {f3 : Nat} {fs6 : List Value} (ok : gO X c_St_undoLast "TripleStore$Store" w_St_undoLast) (hl : gL X = 8) (h1 : M[x0]? = some (.inr (6, fs2))) (h4 : fs2[1]? = some (.ref f3)) (h5 : M[f3]? = some (.inr (8, fs6))) {rm : Room} {post : Option Value → List mC → Prop} (hm : mm_ (gLa X) y_Tr_object w_Tr_object rm [.ref f3, .int x1] M post) (hR : gF X rm 2 k n) (hlen : ∀ r M', post r M' → M'.length = M.length) (kk : ∀ r M', post r M' → gg X M' (k + rm.cells) (n + rm.slots) 27 [(0, .ref x0), (1, .int x1), (2, .long x2), (4, .long s0)] (r.toList ++ [])) : gg X M k n 17 [(0, .ref x0), (1, .int x1), (2, .long x2)] [.long s0] := by
  refine g_lstore (L' := [(0, .ref x0), (1, .int x1), (2, .long x2), (4, .long s0)]) ok d_St_undoLast_17 (by rw [hl]; decide) rfl ?_
  refine g_aload_n ok d_St_undoLast_19 rfl (j := 0) rfl ?_
  refine gf_St_20 ok d_St_undoLast_20 h1 h4 ?_
  refine g_iload_n ok d_St_undoLast_23 rfl (j := 1) rfl ?_
  exact gc_St_60 (As := [.int x1]) (rest := []) ok d_St_undoLast_24 hm rfl rfl (Nat.le_of_ble_eq_true rfl) hR h5 hlen kk
theorem k_St_undoLast_27 {X : gC} {M : List mC} {k n : Nat} {x0 : Nat} {x1 : Int32} {x2 : Int64} {x4 : Int64} {s0 : Int64} {fs2 : List Value} {f3 : Nat} {g6 : Nat → Int32} {N7 : Nat} (ok : gO X c_St_undoLast "TripleStore$Store" w_St_undoLast) (hl : gL X = 8) (h1 : M[x0]? = some (.inr (6, fs2))) (h4 : fs2[2]? = some (.ref f3)) (h5 : M[f3]? = some (.inl (3, N7, .inl g6))) (h8 : vp_in x1 N7) (kt : (g6 x1.toNatClampNeg) = 0 → gg X M k n 60 [(0, .ref x0), (1, .int x1), (2, .long x2), (4, .long x4), (6, .long s0)] []) (kf : ¬ (g6 x1.toNatClampNeg) = 0 → gg X M k n 38 [(0, .ref x0), (1, .int x1), (2, .long x2), (4, .long x4), (6, .long s0)] []) : gg X M k n 27 [(0, .ref x0), (1, .int x1), (2, .long x2), (4, .long x4)] [.long s0] := by
  refine g_lstore (L' := [(0, .ref x0), (1, .int x1), (2, .long x2), (4, .long x4), (6, .long s0)]) ok d_St_undoLast_27 (by rw [hl]; decide) rfl ?_
  refine g_aload_n ok d_St_undoLast_29 rfl (j := 0) rfl ?_
  refine gf_St_23 ok d_St_undoLast_30 h1 h4 ?_
  refine g_iload_n ok d_St_undoLast_33 rfl (j := 1) rfl ?_
  refine g_zald (t := 3) ok rfl d_St_undoLast_34 h5 h8 ?_
  exact g_if_eq (tgt := 60) ok d_St_undoLast_35 (by decide) (fun z => (kt z)) (fun z => (kf z))
theorem k_St_undoLast_38 {X : gC} {M : List mC} {k n : Nat} {x0 : Nat} {x1 : Int32} {x2 : Int64} {x4 : Int64} {x6 : Int64} {fs2 : List Value} {f3 : Nat} {fs6 : List Value} (ok : gO X c_St_undoLast "TripleStore$Store" w_St_undoLast) (h1 : M[x0]? = some (.inr (6, fs2))) (h4 : fs2[0]? = some (.ref f3)) (h5 : M[f3]? = some (.inr (8, fs6))) {rm : Room} {post : Option Value → List mC → Prop} (hm : mm_ (gLa X) y_Tr_find w_Tr_find rm [.ref f3, .long x2, .long x4, .long x6] M post) (hR : gF X rm 8 k n) (hlen : ∀ r M', post r M' → M'.length = M.length) (kk : ∀ r M', post r M' → gg X M' (k + rm.cells) (n + rm.slots) 54 [(0, .ref x0), (1, .int x1)] (r.toList ++ [.ref f3])) : gg X M k n 38 [(0, .ref x0), (1, .int x1), (2, .long x2), (4, .long x4), (6, .long x6)] [] := by
  refine g_aload_n ok d_St_undoLast_38 rfl (j := 0) rfl ?_
  refine gf_St_14 ok d_St_undoLast_39 h1 h4 ?_
  refine g_aload_n ok d_St_undoLast_42 rfl (j := 0) rfl ?_
  refine gf_St_14 ok d_St_undoLast_43 h1 h4 ?_
  refine g_lload_n ok d_St_undoLast_46 rfl (j := 2) rfl ?_
  refine g_lload ok d_St_undoLast_47 (j := 3) rfl ?_
  refine g_lload ok d_St_undoLast_49 (j := 4) rfl ?_
  exact gc_St_49 (As := [.long x2, .long x4, .long x6]) (rest := [.ref f3]) ok d_St_undoLast_51 hm rfl rfl (Nat.le_of_ble_eq_true rfl) hR h5 hlen (fun r M' q => (gg_keep [0, 1] (kk r M' q)))
theorem k_St_undoLast_54 {X : gC} {M : List mC} {k n : Nat} {x0 : Nat} {x1 : Int32} {s0 : Nat} {s1 : Int32} {fs2 : List Value} (ok : gO X c_St_undoLast "TripleStore$Store" w_St_undoLast) (h1 : M[s0]? = some (.inr (8, fs2))) {rm : Room} {post : Option Value → List mC → Prop} (hm : mm_ (gLa X) y_Tr_drop w_Tr_drop rm [.ref s0, .int s1] M post) (hR : gF X rm 2 k n) (hlen : ∀ r M', post r M' → M'.length = M.length) (kk : ∀ r M', post r M' → gg X M' (k + rm.cells) (n + rm.slots) 57 [(0, .ref x0), (1, .int x1)] (r.toList ++ [])) : gg X M k n 54 [(0, .ref x0), (1, .int x1)] [.int s1, .ref s0] := by
  exact gc_St_75 (As := [.int s1]) (rest := []) ok d_St_undoLast_54 hm rfl rfl (Nat.le_of_ble_eq_true rfl) hR h1 hlen kk
theorem k_St_undoLast_57 {X : gC} {M : List mC} {k n : Nat} {x0 : Nat} {x1 : Int32} (ok : gO X c_St_undoLast "TripleStore$Store" w_St_undoLast)  (kk : gg X M k n 72 [(0, .ref x0), (1, .int x1)] []) : gg X M k n 57 [(0, .ref x0), (1, .int x1)] [] := by
  exact g_goto (tgt := 72) ok d_St_undoLast_57 (by decide) kk
theorem k_St_undoLast_60 {X : gC} {M : List mC} {k n : Nat} {x0 : Nat} {x1 : Int32} {x2 : Int64} {x4 : Int64} {x6 : Int64} {fs2 : List Value} {f3 : Nat} {fs6 : List Value} (ok : gO X c_St_undoLast "TripleStore$Store" w_St_undoLast) (h1 : M[x0]? = some (.inr (6, fs2))) (h4 : fs2[0]? = some (.ref f3)) (h5 : M[f3]? = some (.inr (8, fs6))) {rm : Room} {post : Option Value → List mC → Prop} (hm : mm_ (gLa X) y_Tr_put w_Tr_put rm [.ref f3, .long x2, .long x4, .long x6] M post) (hR : gF X rm 7 k n) (hlen : ∀ r M', post r M' → M'.length = M.length) (kk : ∀ r M', post r M' → gg X M' (k + rm.cells) (n + rm.slots) 72 [(0, .ref x0), (1, .int x1)] (r.toList ++ [])) : gg X M k n 60 [(0, .ref x0), (1, .int x1), (2, .long x2), (4, .long x4), (6, .long x6)] [] := by
  refine g_aload_n ok d_St_undoLast_60 rfl (j := 0) rfl ?_
  refine gf_St_14 ok d_St_undoLast_61 h1 h4 ?_
  refine g_lload_n ok d_St_undoLast_64 rfl (j := 2) rfl ?_
  refine g_lload ok d_St_undoLast_65 (j := 3) rfl ?_
  refine g_lload ok d_St_undoLast_67 (j := 4) rfl ?_
  exact gc_St_67 (As := [.long x2, .long x4, .long x6]) (rest := []) ok d_St_undoLast_69 hm rfl rfl (Nat.le_of_ble_eq_true rfl) hR h5 hlen (fun r M' q => (gg_keep [0, 1] (kk r M' q)))
theorem k_St_undoLast_72 {X : gC} {M : List mC} {k n : Nat} {x0 : Nat} {x1 : Int32} {fs2 : List Value} {f3 : Nat} {fs6 : List Value} (ok : gO X c_St_undoLast "TripleStore$Store" w_St_undoLast) (h1 : M[x0]? = some (.inr (6, fs2))) (h4 : fs2[1]? = some (.ref f3)) (h5 : M[f3]? = some (.inr (8, fs6))) {rm : Room} {post : Option Value → List mC → Prop} (hm : mm_ (gLa X) y_Tr_drop w_Tr_drop rm [.ref f3, .int x1] M post) (hR : gF X rm 2 k n) (hlen : ∀ r M', post r M' → M'.length = M.length) (kk : ∀ r M', post r M' → gg X M' (k + rm.cells) (n + rm.slots) 80 [] (r.toList ++ [])) : gg X M k n 72 [(0, .ref x0), (1, .int x1)] [] := by
  refine g_aload_n ok d_St_undoLast_72 rfl (j := 0) rfl ?_
  refine gf_St_20 ok d_St_undoLast_73 h1 h4 ?_
  refine g_iload_n ok d_St_undoLast_76 rfl (j := 1) rfl ?_
  exact gc_St_75 (As := [.int x1]) (rest := []) ok d_St_undoLast_77 hm rfl rfl (Nat.le_of_ble_eq_true rfl) hR h5 hlen (fun r M' q => (gg_keep [] (kk r M' q)))
theorem k_St_undoLast_80 {X : gC} {M : List mC} {k n : Nat}  (ok : gO X c_St_undoLast "TripleStore$Store" w_St_undoLast)  {l9 : Launch} {rm : Room} {M0 : List mC} {post : Option Value → List mC → Prop} (E : gE X l9 y_St_undoLast rm 8 none M0 post) (hp : post (none) M) (hk : k ≤ rm.cells) (hn : n ≤ rm.slots) : gg X M k n 80 [] [] := by
  exact g_vret ok E d_St_undoLast_80 hp hk hn
theorem k_Te_isTriple_0 {X : gC} {M : List mC} {k n : Nat} {x0 : Int64} {x2 : Int64} {x4 : Int64} (ok : gO X c_Te_isTriple "TripleStore$Terms" w_Te_isTriple)  {rm : Room} {post : Option Value → List mC → Prop} (hm : mm_ (gLa X) y_Te_isWord w_Te_isWord rm [.long x0] M post) (hR : gF X rm 5 k n) (hlen : ∀ r M', post r M' → M'.length = M.length) (kk : ∀ r M', post r M' → gg X M' (k + rm.cells) (n + rm.slots) 4 [(2, .long x2), (4, .long x4)] (r.toList ++ [])) : gg X M k n 0 [(0, .long x0), (2, .long x2), (4, .long x4)] [] := by
  refine g_lload_n ok d_Te_isTriple_0 rfl (j := 0) rfl ?_
  exact gc_Te_9 (As := [.long x0]) (rest := []) ok d_Te_isTriple_1 hm rfl rfl (Nat.le_of_ble_eq_true rfl) hR hlen (fun r M' q => (gg_keep [2, 4] (kk r M' q)))
theorem k_Te_isTriple_4 {X : gC} {M : List mC} {k n : Nat} {x2 : Int64} {x4 : Int64} {s0 : Int32} (ok : gO X c_Te_isTriple "TripleStore$Terms" w_Te_isTriple)  (kt : s0 = 0 → gg X M k n 34 [] []) (kf : ¬ s0 = 0 → gg X M k n 7 [(2, .long x2), (4, .long x4)] []) : gg X M k n 4 [(2, .long x2), (4, .long x4)] [.int s0] := by
  exact g_if_eq (tgt := 34) ok d_Te_isTriple_4 (by decide) (fun z => (gg_keep [] (kt z))) (fun z => (kf z))
theorem k_Te_isTriple_7 {X : gC} {M : List mC} {k n : Nat} {x2 : Int64} {x4 : Int64} (ok : gO X c_Te_isTriple "TripleStore$Terms" w_Te_isTriple)  {rm : Room} {post : Option Value → List mC → Prop} (hm : mm_ (gLa X) y_Te_isWord w_Te_isWord rm [.long x2] M post) (hR : gF X rm 5 k n) (hlen : ∀ r M', post r M' → M'.length = M.length) (kk : ∀ r M', post r M' → gg X M' (k + rm.cells) (n + rm.slots) 11 [(4, .long x4)] (r.toList ++ [])) : gg X M k n 7 [(2, .long x2), (4, .long x4)] [] := by
  refine g_lload_n ok d_Te_isTriple_7 rfl (j := 0) rfl ?_
  exact gc_Te_9 (As := [.long x2]) (rest := []) ok d_Te_isTriple_8 hm rfl rfl (Nat.le_of_ble_eq_true rfl) hR hlen (fun r M' q => (gg_keep [4] (kk r M' q)))
theorem k_Te_isTriple_11 {X : gC} {M : List mC} {k n : Nat} {x4 : Int64} {s0 : Int32} (ok : gO X c_Te_isTriple "TripleStore$Terms" w_Te_isTriple)  (kt : s0 = 0 → gg X M k n 34 [] []) (kf : ¬ s0 = 0 → gg X M k n 14 [(4, .long x4)] []) : gg X M k n 11 [(4, .long x4)] [.int s0] := by
  exact g_if_eq (tgt := 34) ok d_Te_isTriple_11 (by decide) (fun z => (gg_keep [] (kt z))) (fun z => (kf z))
theorem k_Te_isTriple_14 {X : gC} {M : List mC} {k n : Nat} {x4 : Int64} (ok : gO X c_Te_isTriple "TripleStore$Terms" w_Te_isTriple)  {rm : Room} {post : Option Value → List mC → Prop} (hm : mm_ (gLa X) y_Te_isWord w_Te_isWord rm [.long x4] M post) (hR : gF X rm 5 k n) (hlen : ∀ r M', post r M' → M'.length = M.length) (kk : ∀ r M', post r M' → gg X M' (k + rm.cells) (n + rm.slots) 19 [(4, .long x4)] (r.toList ++ [])) : gg X M k n 14 [(4, .long x4)] [] := by
  refine g_lload ok d_Te_isTriple_14 (j := 0) rfl ?_
  exact gc_Te_9 (As := [.long x4]) (rest := []) ok d_Te_isTriple_16 hm rfl rfl (Nat.le_of_ble_eq_true rfl) hR hlen kk
theorem k_Te_isTriple_19 {X : gC} {M : List mC} {k n : Nat} {x4 : Int64} {s0 : Int32} (ok : gO X c_Te_isTriple "TripleStore$Terms" w_Te_isTriple)  (kt : ¬ s0 = 0 → gg X M k n 30 [] []) (kf : s0 = 0 → gg X M k n 22 [(4, .long x4)] []) : gg X M k n 19 [(4, .long x4)] [.int s0] := by
  exact g_if_ne (tgt := 30) ok d_Te_isTriple_19 (by decide) (fun z => (gg_keep [] (kt z))) (fun z => (kf z))
theorem k_Te_isTriple_22 {X : gC} {M : List mC} {k n : Nat} {x4 : Int64} (ok : gO X c_Te_isTriple "TripleStore$Terms" w_Te_isTriple)  {rm : Room} {post : Option Value → List mC → Prop} (hm : mm_ (gLa X) y_Te_isNumber w_Te_isNumber rm [.long x4] M post) (hR : gF X rm 2 k n) (hlen : ∀ r M', post r M' → M'.length = M.length) (kk : ∀ r M', post r M' → gg X M' (k + rm.cells) (n + rm.slots) 27 [] (r.toList ++ [])) : gg X M k n 22 [(4, .long x4)] [] := by
  refine g_lload ok d_Te_isTriple_22 (j := 0) rfl ?_
  exact gc_Te_15 (As := [.long x4]) (rest := []) ok d_Te_isTriple_24 hm rfl rfl (Nat.le_of_ble_eq_true rfl) hR hlen (fun r M' q => (gg_keep [] (kk r M' q)))
theorem k_Te_isTriple_27 {X : gC} {M : List mC} {k n : Nat} {s0 : Int32} (ok : gO X c_Te_isTriple "TripleStore$Terms" w_Te_isTriple)  (kt : s0 = 0 → gg X M k n 34 [] []) (kf : ¬ s0 = 0 → gg X M k n 30 [] []) : gg X M k n 27 [] [.int s0] := by
  exact g_if_eq (tgt := 34) ok d_Te_isTriple_27 (by decide) (fun z => (kt z)) (fun z => (kf z))
theorem k_Te_isTriple_30 {X : gC} {M : List mC} {k n : Nat}  (ok : gO X c_Te_isTriple "TripleStore$Terms" w_Te_isTriple)  (kk : gg X M k n 35 [] [.int 1]) : gg X M k n 30 [] [] := by
  refine g_iconst (v := 1) ok d_Te_isTriple_30 (by decide) ?_
  exact g_goto (tgt := 35) ok d_Te_isTriple_31 (by decide) kk
theorem k_Te_isTriple_34 {X : gC} {M : List mC} {k n : Nat}  (ok : gO X c_Te_isTriple "TripleStore$Terms" w_Te_isTriple)  (kk : gg X M k n 35 [] [.int 0]) : gg X M k n 34 [] [] := by
  refine g_iconst (v := 0) ok d_Te_isTriple_34 (by decide) ?_
  exact kk
theorem k_Te_isTriple_35 {X : gC} {M : List mC} {k n : Nat} {s0 : Int32} (ok : gO X c_Te_isTriple "TripleStore$Terms" w_Te_isTriple)  {l9 : Launch} {rm : Room} {M0 : List mC} {post : Option Value → List mC → Prop} (E : gE X l9 y_Te_isTriple rm 6 (some .boolean) M0 post) (hz : narrow .boolean (.int s0) = .int s0) (hp : post (some (.int s0)) M) (hk : k ≤ rm.cells) (hn : n ≤ rm.slots) : gg X M k n 35 [] [.int s0] := by
  exact g_zret ok E d_Te_isTriple_35 hz hp hk hn
theorem k_Te_isWord_0 {X : gC} {M : List mC} {k n : Nat} {x0 : Int64} (ok : gO X c_Te_isWord "TripleStore$Terms" w_Te_isWord) (hl : gL X = 5)  (kk : gg X M k n 5 [(2, .long x0), (4, .int 0)] []) : gg X M k n 0 [(0, .long x0)] [] := by
  refine g_lload_n ok d_Te_isWord_0 rfl (j := 0) rfl ?_
  refine g_lstore_n (L' := [(0, .long x0), (2, .long x0)]) ok d_Te_isWord_1 rfl (by rw [hl]; decide) rfl ?_
  refine g_iconst (v := 0) ok d_Te_isWord_2 (by decide) ?_
  refine g_istore (L' := [(0, .long x0), (2, .long x0), (4, .int 0)]) ok d_Te_isWord_3 (by rw [hl]; decide) rfl ?_
  exact (gg_keep [2, 4] kk)
theorem k_Te_isWord_5 {X : gC} {M : List mC} {k n : Nat} {x2 : Int64} {x4 : Int32} (ok : gO X c_Te_isWord "TripleStore$Terms" w_Te_isWord)  (kt : 8 ≤ x4 → gg X M k n 35 [(2, .long x2), (4, .int x4)] []) (kf : ¬ 8 ≤ x4 → gg X M k n 12 [(2, .long x2), (4, .int x4)] []) : gg X M k n 5 [(2, .long x2), (4, .int x4)] [] := by
  refine g_iload ok d_Te_isWord_5 (j := 1) rfl ?_
  refine g_bipush (v := 8) ok d_Te_isWord_7 (by decide) ?_
  exact g_icmp_ge (tgt := 35) ok d_Te_isWord_9 (by decide) (fun z => (kt z)) (fun z => (kf z))
theorem k_Te_isWord_12 {X : gC} {M : List mC} {k n : Nat} {x2 : Int64} {x4 : Int32} (ok : gO X c_Te_isWord "TripleStore$Terms" w_Te_isWord)  {rm : Room} {post : Option Value → List mC → Prop} (hm : mm_ (gLa X) y_Te_isLetter w_Te_isLetter rm [.int (((x2 &&& 255) : Int64).toInt32)] M post) (hR : gF X rm 1 k n) (hlen : ∀ r M', post r M' → M'.length = M.length) (kk : ∀ r M', post r M' → gg X M' (k + rm.cells) (n + rm.slots) 21 [(2, .long x2), (4, .int x4)] (r.toList ++ [])) : gg X M k n 12 [(2, .long x2), (4, .int x4)] [] := by
  refine g_lload_n ok d_Te_isWord_12 rfl (j := 0) rfl ?_
  refine g_ldc2 (v := 255) ok (List.mem_cons_of_mem _ (gT_at 336 (by decide +kernel) (by decide +kernel))) d_Te_isWord_13 ?_
  refine g_land ok d_Te_isWord_16 ?_
  refine g_l2i ok d_Te_isWord_17 ?_
  exact gc_Te_20 (As := [.int (((x2 &&& 255) : Int64).toInt32)]) (rest := []) ok d_Te_isWord_18 hm rfl rfl (Nat.le_of_ble_eq_true rfl) hR hlen kk
theorem k_Te_isWord_21 {X : gC} {M : List mC} {k n : Nat} {x2 : Int64} {x4 : Int32} {s0 : Int32} (ok : gO X c_Te_isWord "TripleStore$Terms" w_Te_isWord)  (kt : s0 = 0 → gg X M k n 35 [(2, .long x2), (4, .int x4)] []) (kf : ¬ s0 = 0 → gg X M k n 24 [(2, .long x2), (4, .int x4)] []) : gg X M k n 21 [(2, .long x2), (4, .int x4)] [.int s0] := by
  exact g_if_eq (tgt := 35) ok d_Te_isWord_21 (by decide) (fun z => (kt z)) (fun z => (kf z))
theorem k_Te_isWord_24 {X : gC} {M : List mC} {k n : Nat} {x2 : Int64} {x4 : Int32} (ok : gO X c_Te_isWord "TripleStore$Terms" w_Te_isWord) (hl : gL X = 5)  (kk : gg X M k n 5 [(2, .long (((x2).toUInt64 >>> ((8 : Int32).toInt64.toUInt64 &&& Int64.toUInt64 63)).toInt64)), (4, .int (x4 + 1))] []) : gg X M k n 24 [(2, .long x2), (4, .int x4)] [] := by
  refine g_lload_n ok d_Te_isWord_24 rfl (j := 0) rfl ?_
  refine g_bipush (v := 8) ok d_Te_isWord_25 (by decide) ?_
  refine g_lushr ok d_Te_isWord_27 ?_
  refine g_lstore_n (L' := [(2, .long (((x2).toUInt64 >>> ((8 : Int32).toInt64.toUInt64 &&& Int64.toUInt64 63)).toInt64)), (4, .int x4)]) ok d_Te_isWord_28 rfl (by rw [hl]; decide) rfl ?_
  refine g_iinc (L' := [(2, .long (((x2).toUInt64 >>> ((8 : Int32).toInt64.toUInt64 &&& Int64.toUInt64 63)).toInt64)), (4, .int (x4 + 1))]) (v := (x4 + 1)) ok d_Te_isWord_29 (j := 1) rfl rfl (by rw [hl]; decide) rfl ?_
  exact g_goto (tgt := 5) ok d_Te_isWord_32 (by decide) kk
theorem k_Te_isWord_35 {X : gC} {M : List mC} {k n : Nat} {x2 : Int64} {x4 : Int32} (ok : gO X c_Te_isWord "TripleStore$Terms" w_Te_isWord)  (kt : x4 ≤ 0 → gg X M k n 50 [] []) (kf : ¬ x4 ≤ 0 → gg X M k n 40 [(2, .long x2)] []) : gg X M k n 35 [(2, .long x2), (4, .int x4)] [] := by
  refine g_iload ok d_Te_isWord_35 (j := 1) rfl ?_
  exact g_if_le (tgt := 50) ok d_Te_isWord_37 (by decide) (fun z => (gg_keep [] (kt z))) (fun z => (gg_keep [2] (kf z)))
theorem k_Te_isWord_40 {X : gC} {M : List mC} {k n : Nat} {x2 : Int64} (ok : gO X c_Te_isWord "TripleStore$Terms" w_Te_isWord)  (kt : ¬ x2 = 0 → gg X M k n 50 [] []) (kf : x2 = 0 → gg X M k n 46 [] []) : gg X M k n 40 [(2, .long x2)] [] := by
  refine g_lload_n ok d_Te_isWord_40 rfl (j := 0) rfl ?_
  refine g_lconst (v := 0) ok d_Te_isWord_41 (by decide) ?_
  exact g_lc_ne (tgt := 50) ok d_Te_isWord_42 d_Te_isWord_43 (by decide) (fun z => (gg_keep [] (kt z))) (fun z => (gg_keep [] (kf z)))
theorem k_Te_isWord_46 {X : gC} {M : List mC} {k n : Nat}  (ok : gO X c_Te_isWord "TripleStore$Terms" w_Te_isWord)  (kk : gg X M k n 51 [] [.int 1]) : gg X M k n 46 [] [] := by
  refine g_iconst (v := 1) ok d_Te_isWord_46 (by decide) ?_
  exact g_goto (tgt := 51) ok d_Te_isWord_47 (by decide) kk
theorem k_Te_isWord_50 {X : gC} {M : List mC} {k n : Nat}  (ok : gO X c_Te_isWord "TripleStore$Terms" w_Te_isWord)  (kk : gg X M k n 51 [] [.int 0]) : gg X M k n 50 [] [] := by
  refine g_iconst (v := 0) ok d_Te_isWord_50 (by decide) ?_
  exact kk
theorem k_Te_isWord_51 {X : gC} {M : List mC} {k n : Nat} {s0 : Int32} (ok : gO X c_Te_isWord "TripleStore$Terms" w_Te_isWord)  {l9 : Launch} {rm : Room} {M0 : List mC} {post : Option Value → List mC → Prop} (E : gE X l9 y_Te_isWord rm 5 (some .boolean) M0 post) (hz : narrow .boolean (.int s0) = .int s0) (hp : post (some (.int s0)) M) (hk : k ≤ rm.cells) (hn : n ≤ rm.slots) : gg X M k n 51 [] [.int s0] := by
  exact g_zret ok E d_Te_isWord_51 hz hp hk hn
theorem k_Te_isNumber_0 {X : gC} {M : List mC} {k n : Nat} {x0 : Int64} (ok : gO X c_Te_isNumber "TripleStore$Terms" w_Te_isNumber)  (kt : 0 ≤ x0 → gg X M k n 18 [] []) (kf : ¬ 0 ≤ x0 → gg X M k n 6 [(0, .long x0)] []) : gg X M k n 0 [(0, .long x0)] [] := by
  refine g_lload_n ok d_Te_isNumber_0 rfl (j := 0) rfl ?_
  refine g_lconst (v := 0) ok d_Te_isNumber_1 (by decide) ?_
  exact g_lc_ge (tgt := 18) ok d_Te_isNumber_2 d_Te_isNumber_3 (by decide) (fun z => (gg_keep [] (kt z))) (fun z => (kf z))
theorem k_Te_isNumber_6 {X : gC} {M : List mC} {k n : Nat} {x0 : Int64} (ok : gO X c_Te_isNumber "TripleStore$Terms" w_Te_isNumber)  (kt : x0 < (-10000) → gg X M k n 18 [] []) (kf : ¬ x0 < (-10000) → gg X M k n 14 [] []) : gg X M k n 6 [(0, .long x0)] [] := by
  refine g_lload_n ok d_Te_isNumber_6 rfl (j := 0) rfl ?_
  refine g_ldc2 (v := (-10000)) ok (List.mem_cons_of_mem _ (gT_at 343 (by decide +kernel) (by decide +kernel))) d_Te_isNumber_7 ?_
  exact g_lc_lt (tgt := 18) ok d_Te_isNumber_10 d_Te_isNumber_11 (by decide) (fun z => (gg_keep [] (kt z))) (fun z => (gg_keep [] (kf z)))
theorem k_Te_isNumber_14 {X : gC} {M : List mC} {k n : Nat}  (ok : gO X c_Te_isNumber "TripleStore$Terms" w_Te_isNumber)  (kk : gg X M k n 19 [] [.int 1]) : gg X M k n 14 [] [] := by
  refine g_iconst (v := 1) ok d_Te_isNumber_14 (by decide) ?_
  exact g_goto (tgt := 19) ok d_Te_isNumber_15 (by decide) kk
theorem k_Te_isNumber_18 {X : gC} {M : List mC} {k n : Nat}  (ok : gO X c_Te_isNumber "TripleStore$Terms" w_Te_isNumber)  (kk : gg X M k n 19 [] [.int 0]) : gg X M k n 18 [] [] := by
  refine g_iconst (v := 0) ok d_Te_isNumber_18 (by decide) ?_
  exact kk
theorem k_Te_isNumber_19 {X : gC} {M : List mC} {k n : Nat} {s0 : Int32} (ok : gO X c_Te_isNumber "TripleStore$Terms" w_Te_isNumber)  {l9 : Launch} {rm : Room} {M0 : List mC} {post : Option Value → List mC → Prop} (E : gE X l9 y_Te_isNumber rm 2 (some .boolean) M0 post) (hz : narrow .boolean (.int s0) = .int s0) (hp : post (some (.int s0)) M) (hk : k ≤ rm.cells) (hn : n ≤ rm.slots) : gg X M k n 19 [] [.int s0] := by
  exact g_zret ok E d_Te_isNumber_19 hz hp hk hn
theorem k_Te_isHeldNumber_0 {X : gC} {M : List mC} {k n : Nat} {x0 : Int64} (ok : gO X c_Te_isHeldNumber "TripleStore$Terms" w_Te_isHeldNumber)  (kt : x0 ≤ 0 → gg X M k n 18 [] []) (kf : ¬ x0 ≤ 0 → gg X M k n 6 [(0, .long x0)] []) : gg X M k n 0 [(0, .long x0)] [] := by
  refine g_lload_n ok d_Te_isHeldNumber_0 rfl (j := 0) rfl ?_
  refine g_lconst (v := 0) ok d_Te_isHeldNumber_1 (by decide) ?_
  exact g_lc_le (tgt := 18) ok d_Te_isHeldNumber_2 d_Te_isHeldNumber_3 (by decide) (fun z => (gg_keep [] (kt z))) (fun z => (kf z))
theorem k_Te_isHeldNumber_6 {X : gC} {M : List mC} {k n : Nat} {x0 : Int64} (ok : gO X c_Te_isHeldNumber "TripleStore$Terms" w_Te_isHeldNumber)  (kt : 10000 < x0 → gg X M k n 18 [] []) (kf : ¬ 10000 < x0 → gg X M k n 14 [] []) : gg X M k n 6 [(0, .long x0)] [] := by
  refine g_lload_n ok d_Te_isHeldNumber_6 rfl (j := 0) rfl ?_
  refine g_ldc2 (v := 10000) ok (List.mem_cons_of_mem _ (gT_at 744 (by decide +kernel) (by decide +kernel))) d_Te_isHeldNumber_7 ?_
  exact g_lc_gt (tgt := 18) ok d_Te_isHeldNumber_10 d_Te_isHeldNumber_11 (by decide) (fun z => (gg_keep [] (kt z))) (fun z => (gg_keep [] (kf z)))
theorem k_Te_isHeldNumber_14 {X : gC} {M : List mC} {k n : Nat}  (ok : gO X c_Te_isHeldNumber "TripleStore$Terms" w_Te_isHeldNumber)  (kk : gg X M k n 19 [] [.int 1]) : gg X M k n 14 [] [] := by
  refine g_iconst (v := 1) ok d_Te_isHeldNumber_14 (by decide) ?_
  exact g_goto (tgt := 19) ok d_Te_isHeldNumber_15 (by decide) kk
theorem k_Te_isHeldNumber_18 {X : gC} {M : List mC} {k n : Nat}  (ok : gO X c_Te_isHeldNumber "TripleStore$Terms" w_Te_isHeldNumber)  (kk : gg X M k n 19 [] [.int 0]) : gg X M k n 18 [] [] := by
  refine g_iconst (v := 0) ok d_Te_isHeldNumber_18 (by decide) ?_
  exact kk
theorem k_Te_isHeldNumber_19 {X : gC} {M : List mC} {k n : Nat} {s0 : Int32} (ok : gO X c_Te_isHeldNumber "TripleStore$Terms" w_Te_isHeldNumber)  {l9 : Launch} {rm : Room} {M0 : List mC} {post : Option Value → List mC → Prop} (E : gE X l9 y_Te_isHeldNumber rm 2 (some .boolean) M0 post) (hz : narrow .boolean (.int s0) = .int s0) (hp : post (some (.int s0)) M) (hk : k ≤ rm.cells) (hn : n ≤ rm.slots) : gg X M k n 19 [] [.int s0] := by
  exact g_zret ok E d_Te_isHeldNumber_19 hz hp hk hn
theorem k_Te_isLetter_0 {X : gC} {M : List mC} {k n : Nat} {x0 : Int32} (ok : gO X c_Te_isLetter "TripleStore$Terms" w_Te_isLetter)  (kt : x0 < 97 → gg X M k n 16 [] []) (kf : ¬ x0 < 97 → gg X M k n 6 [(0, .int x0)] []) : gg X M k n 0 [(0, .int x0)] [] := by
  refine g_iload_n ok d_Te_isLetter_0 rfl (j := 0) rfl ?_
  refine g_bipush (v := 97) ok d_Te_isLetter_1 (by decide) ?_
  exact g_icmp_lt (tgt := 16) ok d_Te_isLetter_3 (by decide) (fun z => (gg_keep [] (kt z))) (fun z => (kf z))
theorem k_Te_isLetter_6 {X : gC} {M : List mC} {k n : Nat} {x0 : Int32} (ok : gO X c_Te_isLetter "TripleStore$Terms" w_Te_isLetter)  (kt : 122 < x0 → gg X M k n 16 [] []) (kf : ¬ 122 < x0 → gg X M k n 12 [] []) : gg X M k n 6 [(0, .int x0)] [] := by
  refine g_iload_n ok d_Te_isLetter_6 rfl (j := 0) rfl ?_
  refine g_bipush (v := 122) ok d_Te_isLetter_7 (by decide) ?_
  exact g_icmp_gt (tgt := 16) ok d_Te_isLetter_9 (by decide) (fun z => (gg_keep [] (kt z))) (fun z => (gg_keep [] (kf z)))
theorem k_Te_isLetter_12 {X : gC} {M : List mC} {k n : Nat}  (ok : gO X c_Te_isLetter "TripleStore$Terms" w_Te_isLetter)  (kk : gg X M k n 17 [] [.int 1]) : gg X M k n 12 [] [] := by
  refine g_iconst (v := 1) ok d_Te_isLetter_12 (by decide) ?_
  exact g_goto (tgt := 17) ok d_Te_isLetter_13 (by decide) kk
theorem k_Te_isLetter_16 {X : gC} {M : List mC} {k n : Nat}  (ok : gO X c_Te_isLetter "TripleStore$Terms" w_Te_isLetter)  (kk : gg X M k n 17 [] [.int 0]) : gg X M k n 16 [] [] := by
  refine g_iconst (v := 0) ok d_Te_isLetter_16 (by decide) ?_
  exact kk
theorem k_Te_isLetter_17 {X : gC} {M : List mC} {k n : Nat} {s0 : Int32} (ok : gO X c_Te_isLetter "TripleStore$Terms" w_Te_isLetter)  {l9 : Launch} {rm : Room} {M0 : List mC} {post : Option Value → List mC → Prop} (E : gE X l9 y_Te_isLetter rm 1 (some .boolean) M0 post) (hz : narrow .boolean (.int s0) = .int s0) (hp : post (some (.int s0)) M) (hk : k ≤ rm.cells) (hn : n ≤ rm.slots) : gg X M k n 17 [] [.int s0] := by
  exact g_zret ok E d_Te_isLetter_17 hz hp hk hn
theorem k_Te_isDigit_0 {X : gC} {M : List mC} {k n : Nat} {x0 : Int32} (ok : gO X c_Te_isDigit "TripleStore$Terms" w_Te_isDigit)  (kt : x0 < 48 → gg X M k n 16 [] []) (kf : ¬ x0 < 48 → gg X M k n 6 [(0, .int x0)] []) : gg X M k n 0 [(0, .int x0)] [] := by
  refine g_iload_n ok d_Te_isDigit_0 rfl (j := 0) rfl ?_
  refine g_bipush (v := 48) ok d_Te_isDigit_1 (by decide) ?_
  exact g_icmp_lt (tgt := 16) ok d_Te_isDigit_3 (by decide) (fun z => (gg_keep [] (kt z))) (fun z => (kf z))
theorem k_Te_isDigit_6 {X : gC} {M : List mC} {k n : Nat} {x0 : Int32} (ok : gO X c_Te_isDigit "TripleStore$Terms" w_Te_isDigit)  (kt : 57 < x0 → gg X M k n 16 [] []) (kf : ¬ 57 < x0 → gg X M k n 12 [] []) : gg X M k n 6 [(0, .int x0)] [] := by
  refine g_iload_n ok d_Te_isDigit_6 rfl (j := 0) rfl ?_
  refine g_bipush (v := 57) ok d_Te_isDigit_7 (by decide) ?_
  exact g_icmp_gt (tgt := 16) ok d_Te_isDigit_9 (by decide) (fun z => (gg_keep [] (kt z))) (fun z => (gg_keep [] (kf z)))
theorem k_Te_isDigit_12 {X : gC} {M : List mC} {k n : Nat}  (ok : gO X c_Te_isDigit "TripleStore$Terms" w_Te_isDigit)  (kk : gg X M k n 17 [] [.int 1]) : gg X M k n 12 [] [] := by
  refine g_iconst (v := 1) ok d_Te_isDigit_12 (by decide) ?_
  exact g_goto (tgt := 17) ok d_Te_isDigit_13 (by decide) kk
theorem k_Te_isDigit_16 {X : gC} {M : List mC} {k n : Nat}  (ok : gO X c_Te_isDigit "TripleStore$Terms" w_Te_isDigit)  (kk : gg X M k n 17 [] [.int 0]) : gg X M k n 16 [] [] := by
  refine g_iconst (v := 0) ok d_Te_isDigit_16 (by decide) ?_
  exact kk
theorem k_Te_isDigit_17 {X : gC} {M : List mC} {k n : Nat} {s0 : Int32} (ok : gO X c_Te_isDigit "TripleStore$Terms" w_Te_isDigit)  {l9 : Launch} {rm : Room} {M0 : List mC} {post : Option Value → List mC → Prop} (E : gE X l9 y_Te_isDigit rm 1 (some .boolean) M0 post) (hz : narrow .boolean (.int s0) = .int s0) (hp : post (some (.int s0)) M) (hk : k ≤ rm.cells) (hn : n ≤ rm.slots) : gg X M k n 17 [] [.int s0] := by
  exact g_zret ok E d_Te_isDigit_17 hz hp hk hn
theorem k_Te_held_0 {X : gC} {M : List mC} {k n : Nat} {x0 : Int64} (ok : gO X c_Te_held "TripleStore$Terms" w_Te_held)  (kt : 0 ≤ x0 → gg X M k n 9 [(0, .long x0)] []) (kf : ¬ 0 ≤ x0 → gg X M k n 6 [(0, .long x0)] []) : gg X M k n 0 [(0, .long x0)] [] := by
  refine g_lload_n ok d_Te_held_0 rfl (j := 0) rfl ?_
  refine g_lconst (v := 0) ok d_Te_held_1 (by decide) ?_
  exact g_lc_ge (tgt := 9) ok d_Te_held_2 d_Te_held_3 (by decide) (fun z => (kt z)) (fun z => (kf z))
theorem k_Te_held_6 {X : gC} {M : List mC} {k n : Nat} {x0 : Int64} (ok : gO X c_Te_held "TripleStore$Terms" w_Te_held)  {l9 : Launch} {rm : Room} {M0 : List mC} {post : Option Value → List mC → Prop} (E : gE X l9 y_Te_held rm 5 (some .long) M0 post) (hp : post (some (.long (-x0))) M) (hk : k ≤ rm.cells) (hn : n ≤ rm.slots) : gg X M k n 6 [(0, .long x0)] [] := by
  refine g_lload_n ok d_Te_held_6 rfl (j := 0) rfl ?_
  refine g_lneg ok d_Te_held_7 ?_
  exact g_lret ok E d_Te_held_8 hp hk hn
theorem k_Te_held_9 {X : gC} {M : List mC} {k n : Nat} {x0 : Int64} (ok : gO X c_Te_held "TripleStore$Terms" w_Te_held) (hl : gL X = 5)  (kk : gg X M k n 14 [(2, .long x0), (4, .int 1)] []) : gg X M k n 9 [(0, .long x0)] [] := by
  refine g_lload_n ok d_Te_held_9 rfl (j := 0) rfl ?_
  refine g_lstore_n (L' := [(0, .long x0), (2, .long x0)]) ok d_Te_held_10 rfl (by rw [hl]; decide) rfl ?_
  refine g_iconst (v := 1) ok d_Te_held_11 (by decide) ?_
  refine g_istore (L' := [(0, .long x0), (2, .long x0), (4, .int 1)]) ok d_Te_held_12 (by rw [hl]; decide) rfl ?_
  exact (gg_keep [2, 4] kk)
theorem k_Te_held_14 {X : gC} {M : List mC} {k n : Nat} {x2 : Int64} {x4 : Int32} (ok : gO X c_Te_held "TripleStore$Terms" w_Te_held)  (kt : 8 ≤ x4 → gg X M k n 41 [(2, .long x2)] []) (kf : ¬ 8 ≤ x4 → gg X M k n 21 [(2, .long x2), (4, .int x4)] []) : gg X M k n 14 [(2, .long x2), (4, .int x4)] [] := by
  refine g_iload ok d_Te_held_14 (j := 1) rfl ?_
  refine g_bipush (v := 8) ok d_Te_held_16 (by decide) ?_
  exact g_icmp_ge (tgt := 41) ok d_Te_held_18 (by decide) (fun z => (gg_keep [2] (kt z))) (fun z => (kf z))
theorem k_Te_held_21 {X : gC} {M : List mC} {k n : Nat} {x2 : Int64} {x4 : Int32} (ok : gO X c_Te_held "TripleStore$Terms" w_Te_held)  (kt : ¬ (((x2).toUInt64 >>> ((56 : Int32).toInt64.toUInt64 &&& Int64.toUInt64 63)).toInt64) = 0 → gg X M k n 41 [(2, .long x2)] []) (kf : (((x2).toUInt64 >>> ((56 : Int32).toInt64.toUInt64 &&& Int64.toUInt64 63)).toInt64) = 0 → gg X M k n 30 [(2, .long x2), (4, .int x4)] []) : gg X M k n 21 [(2, .long x2), (4, .int x4)] [] := by
  refine g_lload_n ok d_Te_held_21 rfl (j := 0) rfl ?_
  refine g_bipush (v := 56) ok d_Te_held_22 (by decide) ?_
  refine g_lushr ok d_Te_held_24 ?_
  refine g_lconst (v := 0) ok d_Te_held_25 (by decide) ?_
  exact g_lc_ne (tgt := 41) ok d_Te_held_26 d_Te_held_27 (by decide) (fun z => (gg_keep [2] (kt z))) (fun z => (kf z))
theorem k_Te_held_30 {X : gC} {M : List mC} {k n : Nat} {x2 : Int64} {x4 : Int32} (ok : gO X c_Te_held "TripleStore$Terms" w_Te_held) (hl : gL X = 5)  (kk : gg X M k n 14 [(2, .long (x2 <<< ((8 : Int32).toInt64 &&& 63))), (4, .int (x4 + 1))] []) : gg X M k n 30 [(2, .long x2), (4, .int x4)] [] := by
  refine g_lload_n ok d_Te_held_30 rfl (j := 0) rfl ?_
  refine g_bipush (v := 8) ok d_Te_held_31 (by decide) ?_
  refine g_lshl ok d_Te_held_33 ?_
  refine g_lstore_n (L' := [(2, .long (x2 <<< ((8 : Int32).toInt64 &&& 63))), (4, .int x4)]) ok d_Te_held_34 rfl (by rw [hl]; decide) rfl ?_
  refine g_iinc (L' := [(2, .long (x2 <<< ((8 : Int32).toInt64 &&& 63))), (4, .int (x4 + 1))]) (v := (x4 + 1)) ok d_Te_held_35 (j := 1) rfl rfl (by rw [hl]; decide) rfl ?_
  exact g_goto (tgt := 14) ok d_Te_held_38 (by decide) kk
theorem k_Te_held_41 {X : gC} {M : List mC} {k n : Nat} {x2 : Int64} (ok : gO X c_Te_held "TripleStore$Terms" w_Te_held)  {l9 : Launch} {rm : Room} {M0 : List mC} {post : Option Value → List mC → Prop} (E : gE X l9 y_Te_held rm 5 (some .long) M0 post) (hp : post (some (.long x2)) M) (hk : k ≤ rm.cells) (hn : n ≤ rm.slots) : gg X M k n 41 [(2, .long x2)] [] := by
  refine g_lload_n ok d_Te_held_41 rfl (j := 0) rfl ?_
  exact g_lret ok E d_Te_held_42 hp hk hn
theorem k_Te_shown_0 {X : gC} {M : List mC} {k n : Nat} {x0 : Int64} (ok : gO X c_Te_shown "TripleStore$Terms" w_Te_shown)  {rm : Room} {post : Option Value → List mC → Prop} (hm : mm_ (gLa X) y_Te_isHeldNumber w_Te_isHeldNumber rm [.long x0] M post) (hR : gF X rm 2 k n) (hlen : ∀ r M', post r M' → M'.length = M.length) (kk : ∀ r M', post r M' → gg X M' (k + rm.cells) (n + rm.slots) 4 [(0, .long x0)] (r.toList ++ [])) : gg X M k n 0 [(0, .long x0)] [] := by
  refine g_lload_n ok d_Te_shown_0 rfl (j := 0) rfl ?_
  exact gc_Te_28 (As := [.long x0]) (rest := []) ok d_Te_shown_1 hm rfl rfl (Nat.le_of_ble_eq_true rfl) hR hlen kk
theorem k_Te_shown_4 {X : gC} {M : List mC} {k n : Nat} {x0 : Int64} {s0 : Int32} (ok : gO X c_Te_shown "TripleStore$Terms" w_Te_shown)  (kt : s0 = 0 → gg X M k n 10 [(0, .long x0)] []) (kf : ¬ s0 = 0 → gg X M k n 7 [(0, .long x0)] []) : gg X M k n 4 [(0, .long x0)] [.int s0] := by
  exact g_if_eq (tgt := 10) ok d_Te_shown_4 (by decide) (fun z => (kt z)) (fun z => (kf z))
theorem k_Te_shown_7 {X : gC} {M : List mC} {k n : Nat} {x0 : Int64} (ok : gO X c_Te_shown "TripleStore$Terms" w_Te_shown)  {l9 : Launch} {rm : Room} {M0 : List mC} {post : Option Value → List mC → Prop} (E : gE X l9 y_Te_shown rm 5 (some .long) M0 post) (hp : post (some (.long (-x0))) M) (hk : k ≤ rm.cells) (hn : n ≤ rm.slots) : gg X M k n 7 [(0, .long x0)] [] := by
  refine g_lload_n ok d_Te_shown_7 rfl (j := 0) rfl ?_
  refine g_lneg ok d_Te_shown_8 ?_
  exact g_lret ok E d_Te_shown_9 hp hk hn
theorem k_Te_shown_10 {X : gC} {M : List mC} {k n : Nat} {x0 : Int64} (ok : gO X c_Te_shown "TripleStore$Terms" w_Te_shown) (hl : gL X = 5)  (kk : gg X M k n 15 [(2, .long x0), (4, .int 1)] []) : gg X M k n 10 [(0, .long x0)] [] := by
  refine g_lload_n ok d_Te_shown_10 rfl (j := 0) rfl ?_
  refine g_lstore_n (L' := [(0, .long x0), (2, .long x0)]) ok d_Te_shown_11 rfl (by rw [hl]; decide) rfl ?_
  refine g_iconst (v := 1) ok d_Te_shown_12 (by decide) ?_
  refine g_istore (L' := [(0, .long x0), (2, .long x0), (4, .int 1)]) ok d_Te_shown_13 (by rw [hl]; decide) rfl ?_
  exact (gg_keep [2, 4] kk)
theorem k_Te_shown_15 {X : gC} {M : List mC} {k n : Nat} {x2 : Int64} {x4 : Int32} (ok : gO X c_Te_shown "TripleStore$Terms" w_Te_shown)  (kt : 8 ≤ x4 → gg X M k n 43 [(2, .long x2)] []) (kf : ¬ 8 ≤ x4 → gg X M k n 22 [(2, .long x2), (4, .int x4)] []) : gg X M k n 15 [(2, .long x2), (4, .int x4)] [] := by
  refine g_iload ok d_Te_shown_15 (j := 1) rfl ?_
  refine g_bipush (v := 8) ok d_Te_shown_17 (by decide) ?_
  exact g_icmp_ge (tgt := 43) ok d_Te_shown_19 (by decide) (fun z => (gg_keep [2] (kt z))) (fun z => (kf z))
theorem k_Te_shown_22 {X : gC} {M : List mC} {k n : Nat} {x2 : Int64} {x4 : Int32} (ok : gO X c_Te_shown "TripleStore$Terms" w_Te_shown)  (kt : ¬ (x2 &&& 255) = 0 → gg X M k n 43 [(2, .long x2)] []) (kf : (x2 &&& 255) = 0 → gg X M k n 32 [(2, .long x2), (4, .int x4)] []) : gg X M k n 22 [(2, .long x2), (4, .int x4)] [] := by
  refine g_lload_n ok d_Te_shown_22 rfl (j := 0) rfl ?_
  refine g_ldc2 (v := 255) ok (List.mem_cons_of_mem _ (gT_at 336 (by decide +kernel) (by decide +kernel))) d_Te_shown_23 ?_
  refine g_land ok d_Te_shown_26 ?_
  refine g_lconst (v := 0) ok d_Te_shown_27 (by decide) ?_
  exact g_lc_ne (tgt := 43) ok d_Te_shown_28 d_Te_shown_29 (by decide) (fun z => (gg_keep [2] (kt z))) (fun z => (kf z))
theorem k_Te_shown_32 {X : gC} {M : List mC} {k n : Nat} {x2 : Int64} {x4 : Int32} (ok : gO X c_Te_shown "TripleStore$Terms" w_Te_shown) (hl : gL X = 5)  (kk : gg X M k n 15 [(2, .long (((x2).toUInt64 >>> ((8 : Int32).toInt64.toUInt64 &&& Int64.toUInt64 63)).toInt64)), (4, .int (x4 + 1))] []) : gg X M k n 32 [(2, .long x2), (4, .int x4)] [] := by
  refine g_lload_n ok d_Te_shown_32 rfl (j := 0) rfl ?_
  refine g_bipush (v := 8) ok d_Te_shown_33 (by decide) ?_
  refine g_lushr ok d_Te_shown_35 ?_
  refine g_lstore_n (L' := [(2, .long (((x2).toUInt64 >>> ((8 : Int32).toInt64.toUInt64 &&& Int64.toUInt64 63)).toInt64)), (4, .int x4)]) ok d_Te_shown_36 rfl (by rw [hl]; decide) rfl ?_
  refine g_iinc (L' := [(2, .long (((x2).toUInt64 >>> ((8 : Int32).toInt64.toUInt64 &&& Int64.toUInt64 63)).toInt64)), (4, .int (x4 + 1))]) (v := (x4 + 1)) ok d_Te_shown_37 (j := 1) rfl rfl (by rw [hl]; decide) rfl ?_
  exact g_goto (tgt := 15) ok d_Te_shown_40 (by decide) kk
theorem k_Te_shown_43 {X : gC} {M : List mC} {k n : Nat} {x2 : Int64} (ok : gO X c_Te_shown "TripleStore$Terms" w_Te_shown)  {l9 : Launch} {rm : Room} {M0 : List mC} {post : Option Value → List mC → Prop} (E : gE X l9 y_Te_shown rm 5 (some .long) M0 post) (hp : post (some (.long x2)) M) (hk : k ≤ rm.cells) (hn : n ≤ rm.slots) : gg X M k n 43 [(2, .long x2)] [] := by
  refine g_lload_n ok d_Te_shown_43 rfl (j := 0) rfl ?_
  exact g_lret ok E d_Te_shown_44 hp hk hn
theorem k_Tr_init_0 {X : gC} {M : List mC} {k n : Nat} {x0 : Nat} {x1 : Int32} (ok : gO X c_Tr_init "TripleStore$Triples" w_Tr_init)  (hf : 1 ≤ (gR X).frames) (hl2 : (([] : List Value).map fun v => v.category).sum + 12 ≤ (gR X).locals) (kk : gg X M k n 4 [(0, .ref x0), (1, .int x1)] []) : gg X M k n 0 [(0, .ref x0), (1, .int x1)] [] := by
  refine g_aload_n ok d_Tr_init_0 rfl (j := 0) rfl ?_
  exact g_objI ok ml_Tr_1 wn_Object i_Object d_Tr_init_1 hf hl2 kk
theorem k_Tr_init_4 {X : gC} {M : List mC} {k n : Nat} {x0 : Nat} {x1 : Int32} {fs2 : List Value} {fs5 : List Value} {M7 : List mC} {N12 : Nat} {M19 : List mC} {q20 : Nat} {fs26 : List Value} {M28 : List mC} {N34 : Nat} {M41 : List mC} {q42 : Nat} {fs49 : List Value} {M51 : List mC} {N58 : Nat} {M65 : List mC} {q66 : Nat} {fs75 : List Value} {M77 : List mC} (ok : gO X c_Tr_init "TripleStore$Triples" w_Tr_init) (hin : (gM X).name = "<init>") (h1 : M[x0]? = some (.inr (8, fs2))) (h4 : 4 ≤ fs2.length) (h6 : fs2.set 3 (.int 0) = fs5) (h8 : M.set x0 (.inr (8, fs5)) = M7) (h13 : ¬ x1 < 0) (h14 : x1.toNatClampNeg = N12) (h15 : N12 * componentBytes .long ≤ 536870912) (h16 : k + 1 ≤ (gR X).cells) (h17 : n + N12 ≤ (gR X).slots) (h18 : gW M7 [(0, .ref x0), (1, .int x1)] [.ref x0]) (h21 : M7 ++ [.inl (1, N12, .inr (.inl (fun _ => 0)))] = M19) (h22 : M7.length = q20) (h27 : fs5.set 0 (.ref q20) = fs26) (h29 : M19.set x0 (.inr (8, fs26)) = M28) (h35 : ¬ x1 < 0) (h36 : x1.toNatClampNeg = N34) (h37 : N34 * componentBytes .long ≤ 536870912) (h38 : k + 1 + 1 ≤ (gR X).cells) (h39 : n + N12 + N34 ≤ (gR X).slots) (h40 : gW M28 [(0, .ref x0), (1, .int x1)] [.ref x0]) (h43 : M28 ++ [.inl (1, N34, .inr (.inl (fun _ => 0)))] = M41) (h44 : M28.length = q42) (h50 : fs26.set 1 (.ref q42) = fs49) (h52 : M41.set x0 (.inr (8, fs49)) = M51) (h59 : ¬ x1 < 0) (h60 : x1.toNatClampNeg = N58) (h61 : N58 * componentBytes .long ≤ 536870912) (h62 : k + 1 + 1 + 1 ≤ (gR X).cells) (h63 : n + N12 + N34 + N58 ≤ (gR X).slots) (h64 : gW M51 [(0, .ref x0), (1, .int x1)] [.ref x0]) (h67 : M51 ++ [.inl (1, N58, .inr (.inl (fun _ => 0)))] = M65) (h68 : M51.length = q66) (h76 : fs49.set 2 (.ref q66) = fs75) (h78 : M65.set x0 (.inr (8, fs75)) = M77) {l9 : Launch} {rm : Room} {M0 : List mC} {post : Option Value → List mC → Prop} (E : gE X l9 y_Tr_init rm 2 none M0 post) (hp : post (none) M77) (hk : k + 1 + 1 + 1 ≤ rm.cells) (hn : n + N12 + N34 + N58 ≤ rm.slots) : gg X M k n 4 [(0, .ref x0), (1, .int x1)] [] := by
  refine g_aload_n ok d_Tr_init_4 rfl (j := 0) rfl ?_
  refine g_iconst (v := 0) ok d_Tr_init_5 (by decide) ?_
  have h3 : 3 < fs2.length := Nat.lt_of_lt_of_le (by decide) h4
  refine pf_Tr_7 ok d_Tr_init_6 h1 h3 (fun _ => ⟨rfl, rfl⟩) ?_
  rw [h6]
  rw [h8]
  have h9 : M7[x0]? = some (.inr (8, fs5)) := by rw [← h8]; exact gs_eq h1
  have h10 : fs5[3]? = some (.int 0) := by rw [← h6]; exact List.getElem?_set_self h3
  have h11 : 4 ≤ fs5.length := by rw [← h6, List.length_set]; exact h4
  refine g_aload_n ok d_Tr_init_9 rfl (j := 0) rfl ?_
  refine g_iload_n ok d_Tr_init_10 rfl (j := 1) rfl ?_
  refine g_newa (atype := .long) (ty := .long) (t := 1) (N := N12) (a0 := (N12, .inr (.inl (fun _ => 0)))) ok (List.mem_cons_of_mem _ (gT_at 56 (by decide +kernel) (by decide +kernel))) rfl rfl (fun _ => rfl) (fun _ => rfl) h13 h14 h15 d_Tr_init_11 h16 h17 h18 ?_
  rw [h21, h22]
  have h23 : M19[q20]? = some (.inl (1, N12, .inr (.inl (fun _ => 0)))) := by rw [← h21, ← h22]; exact ga_new _ _
  have h24 : M19[x0]? = some (.inr (8, fs5)) := by rw [← h21]; exact ga_old h9
  have h25 : 0 < fs5.length := Nat.lt_of_lt_of_le (by decide) h11
  refine pf_Tr_13 ok hin d_Tr_init_13 h24 h25 (fun _ => ⟨rfl, rfl⟩) ?_
  rw [h27]
  rw [h29]
  have h30 : M28[x0]? = some (.inr (8, fs26)) := by rw [← h29]; exact gs_eq h24
  have h31 : fs26[3]? = some (.int 0) := by rw [← h27]; exact (List.getElem?_set_ne (by decide : 0 ≠ 3)).trans h10
  have h32 : fs26[0]? = some (.ref q20) := by rw [← h27]; exact List.getElem?_set_self h25
  have h33 : 4 ≤ fs26.length := by rw [← h27, List.length_set]; exact h11
  refine g_aload_n ok d_Tr_init_16 rfl (j := 0) rfl ?_
  refine g_iload_n ok d_Tr_init_17 rfl (j := 1) rfl ?_
  refine g_newa (atype := .long) (ty := .long) (t := 1) (N := N34) (a0 := (N34, .inr (.inl (fun _ => 0)))) ok (List.mem_cons_of_mem _ (gT_at 56 (by decide +kernel) (by decide +kernel))) rfl rfl (fun _ => rfl) (fun _ => rfl) h35 h36 h37 d_Tr_init_18 h38 h39 h40 ?_
  rw [h43, h44]
  have h45 : M41[q42]? = some (.inl (1, N34, .inr (.inl (fun _ => 0)))) := by rw [← h43, ← h44]; exact ga_new _ _
  have h46 : M28[q20]? = some (.inl (1, N12, .inr (.inl (fun _ => 0)))) := by rw [← h29]; exact (gs_ne (Ne.symm (ne_ao h23 h24))).trans h23
  have h47 : M41[x0]? = some (.inr (8, fs26)) := by rw [← h43]; exact ga_old h30
  have h48 : 1 < fs26.length := Nat.lt_of_lt_of_le (by decide) h33
  refine pf_Tr_17 ok hin d_Tr_init_20 h47 h48 (fun _ => ⟨rfl, rfl⟩) ?_
  rw [h50]
  rw [h52]
  have h53 : M51[x0]? = some (.inr (8, fs49)) := by rw [← h52]; exact gs_eq h47
  have h54 : fs49[3]? = some (.int 0) := by rw [← h50]; exact (List.getElem?_set_ne (by decide : 1 ≠ 3)).trans h31
  have h55 : fs49[0]? = some (.ref q20) := by rw [← h50]; exact (List.getElem?_set_ne (by decide : 1 ≠ 0)).trans h32
  have h56 : fs49[1]? = some (.ref q42) := by rw [← h50]; exact List.getElem?_set_self h48
  have h57 : 4 ≤ fs49.length := by rw [← h50, List.length_set]; exact h33
  refine g_aload_n ok d_Tr_init_23 rfl (j := 0) rfl ?_
  refine g_iload_n ok d_Tr_init_24 rfl (j := 1) rfl ?_
  refine g_newa (atype := .long) (ty := .long) (t := 1) (N := N58) (a0 := (N58, .inr (.inl (fun _ => 0)))) ok (List.mem_cons_of_mem _ (gT_at 56 (by decide +kernel) (by decide +kernel))) rfl rfl (fun _ => rfl) (fun _ => rfl) h59 h60 h61 d_Tr_init_25 h62 h63 h64 ?_
  rw [h67, h68]
  have h69 : M65[q66]? = some (.inl (1, N58, .inr (.inl (fun _ => 0)))) := by rw [← h67, ← h68]; exact ga_new _ _
  have h70 : M41[q20]? = some (.inl (1, N12, .inr (.inl (fun _ => 0)))) := by rw [← h43]; exact ga_old h46
  have h71 : M51[q20]? = some (.inl (1, N12, .inr (.inl (fun _ => 0)))) := by rw [← h52]; exact (gs_ne (Ne.symm (ne_ao h70 h47))).trans h70
  have h72 : M51[q42]? = some (.inl (1, N34, .inr (.inl (fun _ => 0)))) := by rw [← h52]; exact (gs_ne (Ne.symm (ne_ao h45 h47))).trans h45
  have h73 : M65[x0]? = some (.inr (8, fs49)) := by rw [← h67]; exact ga_old h53
  have h74 : 2 < fs49.length := Nat.lt_of_lt_of_le (by decide) h57
  refine pf_Tr_20 ok hin d_Tr_init_27 h73 h74 (fun _ => ⟨rfl, rfl⟩) ?_
  rw [h76]
  rw [h78]
  have h79 : M77[x0]? = some (.inr (8, fs75)) := by rw [← h78]; exact gs_eq h73
  have h80 : fs75[3]? = some (.int 0) := by rw [← h76]; exact (List.getElem?_set_ne (by decide : 2 ≠ 3)).trans h54
  have h81 : fs75[0]? = some (.ref q20) := by rw [← h76]; exact (List.getElem?_set_ne (by decide : 2 ≠ 0)).trans h55
  have h82 : fs75[1]? = some (.ref q42) := by rw [← h76]; exact (List.getElem?_set_ne (by decide : 2 ≠ 1)).trans h56
  have h83 : fs75[2]? = some (.ref q66) := by rw [← h76]; exact List.getElem?_set_self h74
  have h84 : 4 ≤ fs75.length := by rw [← h76, List.length_set]; exact h57
  exact g_vret ok E d_Tr_init_30 hp hk hn
theorem k_Tr_size_0 {X : gC} {M : List mC} {k n : Nat} {x0 : Nat} {fs2 : List Value} {f3 : Int32} (ok : gO X c_Tr_size "TripleStore$Triples" w_Tr_size) (h1 : M[x0]? = some (.inr (8, fs2))) (h4 : fs2[3]? = some (.int f3)) {l9 : Launch} {rm : Room} {M0 : List mC} {post : Option Value → List mC → Prop} (E : gE X l9 y_Tr_size rm 1 (some .int) M0 post) (hp : post (some (.int f3)) M) (hk : k ≤ rm.cells) (hn : n ≤ rm.slots) : gg X M k n 0 [(0, .ref x0)] [] := by
  refine g_aload_n ok d_Tr_size_0 rfl (j := 0) rfl ?_
  refine gf_Tr_7 ok d_Tr_size_1 h1 h4 ?_
  exact g_iret ok E d_Tr_size_4 hp hk hn
theorem k_Tr_isFull_0 {X : gC} {M : List mC} {k n : Nat} {x0 : Nat} {fs2 : List Value} {f3 : Int32} {f5 : Nat} {g8 : Nat → Int64} {N9 : Nat} (ok : gO X c_Tr_isFull "TripleStore$Triples" w_Tr_isFull) (h1 : M[x0]? = some (.inr (8, fs2))) (h4 : fs2[3]? = some (.int f3)) (h6 : fs2[0]? = some (.ref f5)) (h7 : M[f5]? = some (.inl (1, N9, .inr (.inl g8)))) (kt : f3 < (Int32.ofNat N9) → gg X M k n 16 [] []) (kf : ¬ f3 < (Int32.ofNat N9) → gg X M k n 12 [] []) : gg X M k n 0 [(0, .ref x0)] [] := by
  refine g_aload_n ok d_Tr_isFull_0 rfl (j := 0) rfl ?_
  refine gf_Tr_7 ok d_Tr_isFull_1 h1 h4 ?_
  refine g_aload_n ok d_Tr_isFull_4 rfl (j := 0) rfl ?_
  refine gf_Tr_13 ok d_Tr_isFull_5 h1 h6 ?_
  refine g_alen (t := 1) ok rfl d_Tr_isFull_8 h7 rfl ?_
  exact g_icmp_lt (tgt := 16) ok d_Tr_isFull_9 (by decide) (fun z => (gg_keep [] (kt z))) (fun z => (gg_keep [] (kf z)))
theorem k_Tr_isFull_12 {X : gC} {M : List mC} {k n : Nat}  (ok : gO X c_Tr_isFull "TripleStore$Triples" w_Tr_isFull)  (kk : gg X M k n 17 [] [.int 1]) : gg X M k n 12 [] [] := by
  refine g_iconst (v := 1) ok d_Tr_isFull_12 (by decide) ?_
  exact g_goto (tgt := 17) ok d_Tr_isFull_13 (by decide) kk
theorem k_Tr_isFull_16 {X : gC} {M : List mC} {k n : Nat}  (ok : gO X c_Tr_isFull "TripleStore$Triples" w_Tr_isFull)  (kk : gg X M k n 17 [] [.int 0]) : gg X M k n 16 [] [] := by
  refine g_iconst (v := 0) ok d_Tr_isFull_16 (by decide) ?_
  exact kk
theorem k_Tr_isFull_17 {X : gC} {M : List mC} {k n : Nat} {s0 : Int32} (ok : gO X c_Tr_isFull "TripleStore$Triples" w_Tr_isFull)  {l9 : Launch} {rm : Room} {M0 : List mC} {post : Option Value → List mC → Prop} (E : gE X l9 y_Tr_isFull rm 1 (some .boolean) M0 post) (hz : narrow .boolean (.int s0) = .int s0) (hp : post (some (.int s0)) M) (hk : k ≤ rm.cells) (hn : n ≤ rm.slots) : gg X M k n 17 [] [.int s0] := by
  exact g_zret ok E d_Tr_isFull_17 hz hp hk hn
theorem k_Tr_subject_0 {X : gC} {M : List mC} {k n : Nat} {x0 : Nat} {x1 : Int32} (ok : gO X c_Tr_subject "TripleStore$Triples" w_Tr_subject)  (kt : x1 < 0 → gg X M k n 21 [] []) (kf : ¬ x1 < 0 → gg X M k n 4 [(0, .ref x0), (1, .int x1)] []) : gg X M k n 0 [(0, .ref x0), (1, .int x1)] [] := by
  refine g_iload_n ok d_Tr_subject_0 rfl (j := 1) rfl ?_
  exact g_if_lt (tgt := 21) ok d_Tr_subject_1 (by decide) (fun z => (gg_keep [] (kt z))) (fun z => (kf z))
theorem k_Tr_subject_4 {X : gC} {M : List mC} {k n : Nat} {x0 : Nat} {x1 : Int32} {fs2 : List Value} {f3 : Int32} (ok : gO X c_Tr_subject "TripleStore$Triples" w_Tr_subject) (h1 : M[x0]? = some (.inr (8, fs2))) (h4 : fs2[3]? = some (.int f3)) (kt : f3 ≤ x1 → gg X M k n 21 [] []) (kf : ¬ f3 ≤ x1 → gg X M k n 12 [(0, .ref x0), (1, .int x1)] []) : gg X M k n 4 [(0, .ref x0), (1, .int x1)] [] := by
  refine g_iload_n ok d_Tr_subject_4 rfl (j := 1) rfl ?_
  refine g_aload_n ok d_Tr_subject_5 rfl (j := 0) rfl ?_
  refine gf_Tr_7 ok d_Tr_subject_6 h1 h4 ?_
  exact g_icmp_ge (tgt := 21) ok d_Tr_subject_9 (by decide) (fun z => (gg_keep [] (kt z))) (fun z => (kf z))
theorem k_Tr_subject_12 {X : gC} {M : List mC} {k n : Nat} {x0 : Nat} {x1 : Int32} {fs2 : List Value} {f3 : Nat} {g6 : Nat → Int64} {N7 : Nat} (ok : gO X c_Tr_subject "TripleStore$Triples" w_Tr_subject) (h1 : M[x0]? = some (.inr (8, fs2))) (h4 : fs2[0]? = some (.ref f3)) (h5 : M[f3]? = some (.inl (1, N7, .inr (.inl g6)))) (h8 : vp_in x1 N7) (kk : gg X M k n 22 [] [.long (g6 x1.toNatClampNeg)]) : gg X M k n 12 [(0, .ref x0), (1, .int x1)] [] := by
  refine g_aload_n ok d_Tr_subject_12 rfl (j := 0) rfl ?_
  refine gf_Tr_13 ok d_Tr_subject_13 h1 h4 ?_
  refine g_iload_n ok d_Tr_subject_16 rfl (j := 1) rfl ?_
  refine g_lald (t := 1) ok rfl d_Tr_subject_17 h5 h8 ?_
  exact g_goto (tgt := 22) ok d_Tr_subject_18 (by decide) (gg_keep [] kk)
theorem k_Tr_subject_21 {X : gC} {M : List mC} {k n : Nat}  (ok : gO X c_Tr_subject "TripleStore$Triples" w_Tr_subject)  (kk : gg X M k n 22 [] [.long 0]) : gg X M k n 21 [] [] := by
  refine g_lconst (v := 0) ok d_Tr_subject_21 (by decide) ?_
  exact kk
theorem k_Tr_subject_22 {X : gC} {M : List mC} {k n : Nat} {s0 : Int64} (ok : gO X c_Tr_subject "TripleStore$Triples" w_Tr_subject)  {l9 : Launch} {rm : Room} {M0 : List mC} {post : Option Value → List mC → Prop} (E : gE X l9 y_Tr_subject rm 2 (some .long) M0 post) (hp : post (some (.long s0)) M) (hk : k ≤ rm.cells) (hn : n ≤ rm.slots) : gg X M k n 22 [] [.long s0] := by
  exact g_lret ok E d_Tr_subject_22 hp hk hn
theorem k_Tr_predicate_0 {X : gC} {M : List mC} {k n : Nat} {x0 : Nat} {x1 : Int32} (ok : gO X c_Tr_predicate "TripleStore$Triples" w_Tr_predicate)  (kt : x1 < 0 → gg X M k n 21 [] []) (kf : ¬ x1 < 0 → gg X M k n 4 [(0, .ref x0), (1, .int x1)] []) : gg X M k n 0 [(0, .ref x0), (1, .int x1)] [] := by
  refine g_iload_n ok d_Tr_predicate_0 rfl (j := 1) rfl ?_
  exact g_if_lt (tgt := 21) ok d_Tr_predicate_1 (by decide) (fun z => (gg_keep [] (kt z))) (fun z => (kf z))
theorem k_Tr_predicate_4 {X : gC} {M : List mC} {k n : Nat} {x0 : Nat} {x1 : Int32} {fs2 : List Value} {f3 : Int32} (ok : gO X c_Tr_predicate "TripleStore$Triples" w_Tr_predicate) (h1 : M[x0]? = some (.inr (8, fs2))) (h4 : fs2[3]? = some (.int f3)) (kt : f3 ≤ x1 → gg X M k n 21 [] []) (kf : ¬ f3 ≤ x1 → gg X M k n 12 [(0, .ref x0), (1, .int x1)] []) : gg X M k n 4 [(0, .ref x0), (1, .int x1)] [] := by
  refine g_iload_n ok d_Tr_predicate_4 rfl (j := 1) rfl ?_
  refine g_aload_n ok d_Tr_predicate_5 rfl (j := 0) rfl ?_
  refine gf_Tr_7 ok d_Tr_predicate_6 h1 h4 ?_
  exact g_icmp_ge (tgt := 21) ok d_Tr_predicate_9 (by decide) (fun z => (gg_keep [] (kt z))) (fun z => (kf z))
theorem k_Tr_predicate_12 {X : gC} {M : List mC} {k n : Nat} {x0 : Nat} {x1 : Int32} {fs2 : List Value} {f3 : Nat} {g6 : Nat → Int64} {N7 : Nat} (ok : gO X c_Tr_predicate "TripleStore$Triples" w_Tr_predicate) (h1 : M[x0]? = some (.inr (8, fs2))) (h4 : fs2[1]? = some (.ref f3)) (h5 : M[f3]? = some (.inl (1, N7, .inr (.inl g6)))) (h8 : vp_in x1 N7) (kk : gg X M k n 22 [] [.long (g6 x1.toNatClampNeg)]) : gg X M k n 12 [(0, .ref x0), (1, .int x1)] [] := by
  refine g_aload_n ok d_Tr_predicate_12 rfl (j := 0) rfl ?_
  refine gf_Tr_17 ok d_Tr_predicate_13 h1 h4 ?_
  refine g_iload_n ok d_Tr_predicate_16 rfl (j := 1) rfl ?_
  refine g_lald (t := 1) ok rfl d_Tr_predicate_17 h5 h8 ?_
  exact g_goto (tgt := 22) ok d_Tr_predicate_18 (by decide) (gg_keep [] kk)
theorem k_Tr_predicate_21 {X : gC} {M : List mC} {k n : Nat}  (ok : gO X c_Tr_predicate "TripleStore$Triples" w_Tr_predicate)  (kk : gg X M k n 22 [] [.long 0]) : gg X M k n 21 [] [] := by
  refine g_lconst (v := 0) ok d_Tr_predicate_21 (by decide) ?_
  exact kk
theorem k_Tr_predicate_22 {X : gC} {M : List mC} {k n : Nat} {s0 : Int64} (ok : gO X c_Tr_predicate "TripleStore$Triples" w_Tr_predicate)  {l9 : Launch} {rm : Room} {M0 : List mC} {post : Option Value → List mC → Prop} (E : gE X l9 y_Tr_predicate rm 2 (some .long) M0 post) (hp : post (some (.long s0)) M) (hk : k ≤ rm.cells) (hn : n ≤ rm.slots) : gg X M k n 22 [] [.long s0] := by
  exact g_lret ok E d_Tr_predicate_22 hp hk hn
theorem k_Tr_object_0 {X : gC} {M : List mC} {k n : Nat} {x0 : Nat} {x1 : Int32} (ok : gO X c_Tr_object "TripleStore$Triples" w_Tr_object)  (kt : x1 < 0 → gg X M k n 21 [] []) (kf : ¬ x1 < 0 → gg X M k n 4 [(0, .ref x0), (1, .int x1)] []) : gg X M k n 0 [(0, .ref x0), (1, .int x1)] [] := by
  refine g_iload_n ok d_Tr_object_0 rfl (j := 1) rfl ?_
  exact g_if_lt (tgt := 21) ok d_Tr_object_1 (by decide) (fun z => (gg_keep [] (kt z))) (fun z => (kf z))
theorem k_Tr_object_4 {X : gC} {M : List mC} {k n : Nat} {x0 : Nat} {x1 : Int32} {fs2 : List Value} {f3 : Int32} (ok : gO X c_Tr_object "TripleStore$Triples" w_Tr_object) (h1 : M[x0]? = some (.inr (8, fs2))) (h4 : fs2[3]? = some (.int f3)) (kt : f3 ≤ x1 → gg X M k n 21 [] []) (kf : ¬ f3 ≤ x1 → gg X M k n 12 [(0, .ref x0), (1, .int x1)] []) : gg X M k n 4 [(0, .ref x0), (1, .int x1)] [] := by
  refine g_iload_n ok d_Tr_object_4 rfl (j := 1) rfl ?_
  refine g_aload_n ok d_Tr_object_5 rfl (j := 0) rfl ?_
  refine gf_Tr_7 ok d_Tr_object_6 h1 h4 ?_
  exact g_icmp_ge (tgt := 21) ok d_Tr_object_9 (by decide) (fun z => (gg_keep [] (kt z))) (fun z => (kf z))
theorem k_Tr_object_12 {X : gC} {M : List mC} {k n : Nat} {x0 : Nat} {x1 : Int32} {fs2 : List Value} {f3 : Nat} {g6 : Nat → Int64} {N7 : Nat} (ok : gO X c_Tr_object "TripleStore$Triples" w_Tr_object) (h1 : M[x0]? = some (.inr (8, fs2))) (h4 : fs2[2]? = some (.ref f3)) (h5 : M[f3]? = some (.inl (1, N7, .inr (.inl g6)))) (h8 : vp_in x1 N7) (kk : gg X M k n 22 [] [.long (g6 x1.toNatClampNeg)]) : gg X M k n 12 [(0, .ref x0), (1, .int x1)] [] := by
  refine g_aload_n ok d_Tr_object_12 rfl (j := 0) rfl ?_
  refine gf_Tr_20 ok d_Tr_object_13 h1 h4 ?_
  refine g_iload_n ok d_Tr_object_16 rfl (j := 1) rfl ?_
  refine g_lald (t := 1) ok rfl d_Tr_object_17 h5 h8 ?_
  exact g_goto (tgt := 22) ok d_Tr_object_18 (by decide) (gg_keep [] kk)
theorem k_Tr_object_21 {X : gC} {M : List mC} {k n : Nat}  (ok : gO X c_Tr_object "TripleStore$Triples" w_Tr_object)  (kk : gg X M k n 22 [] [.long 0]) : gg X M k n 21 [] [] := by
  refine g_lconst (v := 0) ok d_Tr_object_21 (by decide) ?_
  exact kk
theorem k_Tr_object_22 {X : gC} {M : List mC} {k n : Nat} {s0 : Int64} (ok : gO X c_Tr_object "TripleStore$Triples" w_Tr_object)  {l9 : Launch} {rm : Room} {M0 : List mC} {post : Option Value → List mC → Prop} (E : gE X l9 y_Tr_object rm 2 (some .long) M0 post) (hp : post (some (.long s0)) M) (hk : k ≤ rm.cells) (hn : n ≤ rm.slots) : gg X M k n 22 [] [.long s0] := by
  exact g_lret ok E d_Tr_object_22 hp hk hn
theorem k_Tr_find_0 {X : gC} {M : List mC} {k n : Nat} {x0 : Nat} {x1 : Int64} {x3 : Int64} {x5 : Int64} (ok : gO X c_Tr_find "TripleStore$Triples" w_Tr_find) (hl : gL X = 8)  (kk : gg X M k n 3 [(0, .ref x0), (1, .long x1), (3, .long x3), (5, .long x5), (7, .int 0)] []) : gg X M k n 0 [(0, .ref x0), (1, .long x1), (3, .long x3), (5, .long x5)] [] := by
  refine g_iconst (v := 0) ok d_Tr_find_0 (by decide) ?_
  refine g_istore (L' := [(0, .ref x0), (1, .long x1), (3, .long x3), (5, .long x5), (7, .int 0)]) ok d_Tr_find_1 (by rw [hl]; decide) rfl ?_
  exact kk
theorem k_Tr_find_3 {X : gC} {M : List mC} {k n : Nat} {x0 : Nat} {x1 : Int64} {x3 : Int64} {x5 : Int64} {x7 : Int32} {fs2 : List Value} {f3 : Int32} (ok : gO X c_Tr_find "TripleStore$Triples" w_Tr_find) (h1 : M[x0]? = some (.inr (8, fs2))) (h4 : fs2[3]? = some (.int f3)) (kt : f3 ≤ x7 → gg X M k n 58 [] []) (kf : ¬ f3 ≤ x7 → gg X M k n 12 [(0, .ref x0), (1, .long x1), (3, .long x3), (5, .long x5), (7, .int x7)] []) : gg X M k n 3 [(0, .ref x0), (1, .long x1), (3, .long x3), (5, .long x5), (7, .int x7)] [] := by
  refine g_iload ok d_Tr_find_3 (j := 4) rfl ?_
  refine g_aload_n ok d_Tr_find_5 rfl (j := 0) rfl ?_
  refine gf_Tr_7 ok d_Tr_find_6 h1 h4 ?_
  exact g_icmp_ge (tgt := 58) ok d_Tr_find_9 (by decide) (fun z => (gg_keep [] (kt z))) (fun z => (kf z))
theorem k_Tr_find_12 {X : gC} {M : List mC} {k n : Nat} {x0 : Nat} {x1 : Int64} {x3 : Int64} {x5 : Int64} {x7 : Int32} {fs2 : List Value} {f3 : Nat} {g6 : Nat → Int64} {N7 : Nat} (ok : gO X c_Tr_find "TripleStore$Triples" w_Tr_find) (h1 : M[x0]? = some (.inr (8, fs2))) (h4 : fs2[0]? = some (.ref f3)) (h5 : M[f3]? = some (.inl (1, N7, .inr (.inl g6)))) (h8 : vp_in x7 N7) (kt : ¬ (g6 x7.toNatClampNeg) = x1 → gg X M k n 52 [(0, .ref x0), (1, .long x1), (3, .long x3), (5, .long x5), (7, .int x7)] []) (kf : (g6 x7.toNatClampNeg) = x1 → gg X M k n 24 [(0, .ref x0), (1, .long x1), (3, .long x3), (5, .long x5), (7, .int x7)] []) : gg X M k n 12 [(0, .ref x0), (1, .long x1), (3, .long x3), (5, .long x5), (7, .int x7)] [] := by
  refine g_aload_n ok d_Tr_find_12 rfl (j := 0) rfl ?_
  refine gf_Tr_13 ok d_Tr_find_13 h1 h4 ?_
  refine g_iload ok d_Tr_find_16 (j := 4) rfl ?_
  refine g_lald (t := 1) ok rfl d_Tr_find_18 h5 h8 ?_
  refine g_lload_n ok d_Tr_find_19 rfl (j := 1) rfl ?_
  exact g_lc_ne (tgt := 52) ok d_Tr_find_20 d_Tr_find_21 (by decide) (fun z => (kt z)) (fun z => (kf z))
theorem k_Tr_find_24 {X : gC} {M : List mC} {k n : Nat} {x0 : Nat} {x1 : Int64} {x3 : Int64} {x5 : Int64} {x7 : Int32} {fs2 : List Value} {f3 : Nat} {g6 : Nat → Int64} {N7 : Nat} (ok : gO X c_Tr_find "TripleStore$Triples" w_Tr_find) (h1 : M[x0]? = some (.inr (8, fs2))) (h4 : fs2[1]? = some (.ref f3)) (h5 : M[f3]? = some (.inl (1, N7, .inr (.inl g6)))) (h8 : vp_in x7 N7) (kt : ¬ (g6 x7.toNatClampNeg) = x3 → gg X M k n 52 [(0, .ref x0), (1, .long x1), (3, .long x3), (5, .long x5), (7, .int x7)] []) (kf : (g6 x7.toNatClampNeg) = x3 → gg X M k n 36 [(0, .ref x0), (1, .long x1), (3, .long x3), (5, .long x5), (7, .int x7)] []) : gg X M k n 24 [(0, .ref x0), (1, .long x1), (3, .long x3), (5, .long x5), (7, .int x7)] [] := by
  refine g_aload_n ok d_Tr_find_24 rfl (j := 0) rfl ?_
  refine gf_Tr_17 ok d_Tr_find_25 h1 h4 ?_
  refine g_iload ok d_Tr_find_28 (j := 4) rfl ?_
  refine g_lald (t := 1) ok rfl d_Tr_find_30 h5 h8 ?_
  refine g_lload_n ok d_Tr_find_31 rfl (j := 2) rfl ?_
  exact g_lc_ne (tgt := 52) ok d_Tr_find_32 d_Tr_find_33 (by decide) (fun z => (kt z)) (fun z => (kf z))
theorem k_Tr_find_36 {X : gC} {M : List mC} {k n : Nat} {x0 : Nat} {x1 : Int64} {x3 : Int64} {x5 : Int64} {x7 : Int32} {fs2 : List Value} {f3 : Nat} {g6 : Nat → Int64} {N7 : Nat} (ok : gO X c_Tr_find "TripleStore$Triples" w_Tr_find) (h1 : M[x0]? = some (.inr (8, fs2))) (h4 : fs2[2]? = some (.ref f3)) (h5 : M[f3]? = some (.inl (1, N7, .inr (.inl g6)))) (h8 : vp_in x7 N7) (kt : ¬ (g6 x7.toNatClampNeg) = x5 → gg X M k n 52 [(0, .ref x0), (1, .long x1), (3, .long x3), (5, .long x5), (7, .int x7)] []) (kf : (g6 x7.toNatClampNeg) = x5 → gg X M k n 49 [(7, .int x7)] []) : gg X M k n 36 [(0, .ref x0), (1, .long x1), (3, .long x3), (5, .long x5), (7, .int x7)] [] := by
  refine g_aload_n ok d_Tr_find_36 rfl (j := 0) rfl ?_
  refine gf_Tr_20 ok d_Tr_find_37 h1 h4 ?_
  refine g_iload ok d_Tr_find_40 (j := 4) rfl ?_
  refine g_lald (t := 1) ok rfl d_Tr_find_42 h5 h8 ?_
  refine g_lload ok d_Tr_find_43 (j := 3) rfl ?_
  exact g_lc_ne (tgt := 52) ok d_Tr_find_45 d_Tr_find_46 (by decide) (fun z => (kt z)) (fun z => (gg_keep [7] (kf z)))
theorem k_Tr_find_49 {X : gC} {M : List mC} {k n : Nat} {x7 : Int32} (ok : gO X c_Tr_find "TripleStore$Triples" w_Tr_find)  {l9 : Launch} {rm : Room} {M0 : List mC} {post : Option Value → List mC → Prop} (E : gE X l9 y_Tr_find rm 8 (some .int) M0 post) (hp : post (some (.int x7)) M) (hk : k ≤ rm.cells) (hn : n ≤ rm.slots) : gg X M k n 49 [(7, .int x7)] [] := by
  refine g_iload ok d_Tr_find_49 (j := 0) rfl ?_
  exact g_iret ok E d_Tr_find_51 hp hk hn
theorem k_Tr_find_52 {X : gC} {M : List mC} {k n : Nat} {x0 : Nat} {x1 : Int64} {x3 : Int64} {x5 : Int64} {x7 : Int32} (ok : gO X c_Tr_find "TripleStore$Triples" w_Tr_find) (hl : gL X = 8)  (kk : gg X M k n 3 [(0, .ref x0), (1, .long x1), (3, .long x3), (5, .long x5), (7, .int (x7 + 1))] []) : gg X M k n 52 [(0, .ref x0), (1, .long x1), (3, .long x3), (5, .long x5), (7, .int x7)] [] := by
  refine g_iinc (L' := [(0, .ref x0), (1, .long x1), (3, .long x3), (5, .long x5), (7, .int (x7 + 1))]) (v := (x7 + 1)) ok d_Tr_find_52 (j := 4) rfl rfl (by rw [hl]; decide) rfl ?_
  exact g_goto (tgt := 3) ok d_Tr_find_55 (by decide) kk
theorem k_Tr_find_58 {X : gC} {M : List mC} {k n : Nat}  (ok : gO X c_Tr_find "TripleStore$Triples" w_Tr_find)  {l9 : Launch} {rm : Room} {M0 : List mC} {post : Option Value → List mC → Prop} (E : gE X l9 y_Tr_find rm 8 (some .int) M0 post) (hp : post (some (.int (-1))) M) (hk : k ≤ rm.cells) (hn : n ≤ rm.slots) : gg X M k n 58 [] [] := by
  refine g_iconst (v := (-1)) ok d_Tr_find_58 (by decide) ?_
  exact g_iret ok E d_Tr_find_59 hp hk hn
theorem k_Tr_put_0 {X : gC} {M : List mC} {k n : Nat} {x0 : Nat} {x1 : Int64} {x3 : Int64} {x5 : Int64} {fs2 : List Value} (ok : gO X c_Tr_put "TripleStore$Triples" w_Tr_put) (h1 : M[x0]? = some (.inr (8, fs2))) {rm : Room} {post : Option Value → List mC → Prop} (hm : mm_ (gLa X) y_Tr_isFull w_Tr_isFull rm [.ref x0] M post) (hR : gF X rm 1 k n) (hlen : ∀ r M', post r M' → M'.length = M.length) (kk : ∀ r M', post r M' → gg X M' (k + rm.cells) (n + rm.slots) 4 [(0, .ref x0), (1, .long x1), (3, .long x3), (5, .long x5)] (r.toList ++ [])) : gg X M k n 0 [(0, .ref x0), (1, .long x1), (3, .long x3), (5, .long x5)] [] := by
  refine g_aload_n ok d_Tr_put_0 rfl (j := 0) rfl ?_
  exact gc_Tr_25 (As := []) (rest := []) ok d_Tr_put_1 hm rfl rfl (Nat.le_of_ble_eq_true rfl) hR h1 hlen kk
theorem k_Tr_put_4 {X : gC} {M : List mC} {k n : Nat} {x0 : Nat} {x1 : Int64} {x3 : Int64} {x5 : Int64} {s0 : Int32} (ok : gO X c_Tr_put "TripleStore$Triples" w_Tr_put)  (kt : s0 = 0 → gg X M k n 8 [(0, .ref x0), (1, .long x1), (3, .long x3), (5, .long x5)] []) (kf : ¬ s0 = 0 → gg X M k n 7 [] []) : gg X M k n 4 [(0, .ref x0), (1, .long x1), (3, .long x3), (5, .long x5)] [.int s0] := by
  exact g_if_eq (tgt := 8) ok d_Tr_put_4 (by decide) (fun z => (kt z)) (fun z => (gg_keep [] (kf z)))
theorem k_Tr_put_7 {X : gC} {M : List mC} {k n : Nat}  (ok : gO X c_Tr_put "TripleStore$Triples" w_Tr_put)  {l9 : Launch} {rm : Room} {M0 : List mC} {post : Option Value → List mC → Prop} (E : gE X l9 y_Tr_put rm 7 none M0 post) (hp : post (none) M) (hk : k ≤ rm.cells) (hn : n ≤ rm.slots) : gg X M k n 7 [] [] := by
  exact g_vret ok E d_Tr_put_7 hp hk hn
theorem k_Tr_put_8 {X : gC} {M : List mC} {k n : Nat} {x0 : Nat} {x1 : Int64} {x3 : Int64} {x5 : Int64} {fs2 : List Value} {f3 : Nat} {f5 : Int32} {g8 : Nat → Int64} {N9 : Nat} {M11 : List mC} {f15 : Nat} {g18 : Nat → Int64} {N19 : Nat} {M23 : List mC} {f27 : Nat} {g30 : Nat → Int64} {N31 : Nat} {M37 : List mC} {fs43 : List Value} {M45 : List mC} (ok : gO X c_Tr_put "TripleStore$Triples" w_Tr_put) (h1 : M[x0]? = some (.inr (8, fs2))) (h4 : fs2[0]? = some (.ref f3)) (h6 : fs2[3]? = some (.int f5)) (h7 : M[f3]? = some (.inl (1, N9, .inr (.inl g8)))) (h10 : vp_in f5 N9) (h12 : M.set f3 (.inl (1, N9, .inr (.inl (vp_updL g8 f5.toNatClampNeg x1)))) = M11) (h16 : fs2[1]? = some (.ref f15)) (h17 : M[f15]? = some (.inl (1, N19, .inr (.inl g18)))) (h21 : f15 ≠ f3) (h22 : vp_in f5 N19) (h24 : M11.set f15 (.inl (1, N19, .inr (.inl (vp_updL g18 f5.toNatClampNeg x3)))) = M23) (h28 : fs2[2]? = some (.ref f27)) (h29 : M[f27]? = some (.inl (1, N31, .inr (.inl g30)))) (h33 : f27 ≠ f3) (h35 : f15 ≠ f27) (h36 : vp_in f5 N31) (h38 : M23.set f27 (.inl (1, N31, .inr (.inl (vp_updL g30 f5.toNatClampNeg x5)))) = M37) (h42 : 4 ≤ fs2.length) (h44 : fs2.set 3 (.int (f5 + 1)) = fs43) (h46 : M37.set x0 (.inr (8, fs43)) = M45) {l9 : Launch} {rm : Room} {M0 : List mC} {post : Option Value → List mC → Prop} (E : gE X l9 y_Tr_put rm 7 none M0 post) (hp : post (none) M45) (hk : k ≤ rm.cells) (hn : n ≤ rm.slots) : gg X M k n 8 [(0, .ref x0), (1, .long x1), (3, .long x3), (5, .long x5)] [] := by
  refine g_aload_n ok d_Tr_put_8 rfl (j := 0) rfl ?_
  refine gf_Tr_13 ok d_Tr_put_9 h1 h4 ?_
  refine g_aload_n ok d_Tr_put_12 rfl (j := 0) rfl ?_
  refine gf_Tr_7 ok d_Tr_put_13 h1 h6 ?_
  refine g_lload_n ok d_Tr_put_16 rfl (j := 1) rfl ?_
  refine g_last (t := 1) ok rfl d_Tr_put_17 h7 h10 ?_
  rw [h12]
  have h13 : M11[f3]? = some (.inl (1, N9, .inr (.inl (vp_updL g8 f5.toNatClampNeg x1)))) := by rw [← h12]; exact gs_eq h7
  refine g_aload_n ok d_Tr_put_18 rfl (j := 0) rfl ?_
  have h14 : M11[x0]? = some (.inr (8, fs2)) := by rw [← h12]; exact (gs_ne (ne_ao h7 h1)).trans h1
  refine gf_Tr_17 ok d_Tr_put_19 h14 h16 ?_
  refine g_aload_n ok d_Tr_put_22 rfl (j := 0) rfl ?_
  refine gf_Tr_7 ok d_Tr_put_23 h14 h6 ?_
  refine g_lload_n ok d_Tr_put_26 rfl (j := 2) rfl ?_
  have h20 : M11[f15]? = some (.inl (1, N19, .inr (.inl g18))) := by rw [← h12]; exact (gs_ne (Ne.symm h21)).trans h17
  refine g_last (t := 1) ok rfl d_Tr_put_27 h20 h22 ?_
  rw [h24]
  have h25 : M23[f15]? = some (.inl (1, N19, .inr (.inl (vp_updL g18 f5.toNatClampNeg x3)))) := by rw [← h24]; exact gs_eq h20
  refine g_aload_n ok d_Tr_put_28 rfl (j := 0) rfl ?_
  have h26 : M23[x0]? = some (.inr (8, fs2)) := by rw [← h24]; exact (gs_ne (ne_ao h20 h14)).trans h14
  refine gf_Tr_20 ok d_Tr_put_29 h26 h28 ?_
  refine g_aload_n ok d_Tr_put_32 rfl (j := 0) rfl ?_
  refine gf_Tr_7 ok d_Tr_put_33 h26 h6 ?_
  refine g_lload ok d_Tr_put_36 (j := 3) rfl ?_
  have h32 : M11[f27]? = some (.inl (1, N31, .inr (.inl g30))) := by rw [← h12]; exact (gs_ne (Ne.symm h33)).trans h29
  have h34 : M23[f27]? = some (.inl (1, N31, .inr (.inl g30))) := by rw [← h24]; exact (gs_ne h35).trans h32
  refine g_last (t := 1) ok rfl d_Tr_put_38 h34 h36 ?_
  rw [h38]
  have h39 : M37[f27]? = some (.inl (1, N31, .inr (.inl (vp_updL g30 f5.toNatClampNeg x5)))) := by rw [← h38]; exact gs_eq h34
  refine g_aload_n ok d_Tr_put_39 rfl (j := 0) rfl ?_
  refine g_dup ok d_Tr_put_40 rfl ?_
  have h40 : M37[x0]? = some (.inr (8, fs2)) := by rw [← h38]; exact (gs_ne (ne_ao h34 h26)).trans h26
  refine gf_Tr_7 ok d_Tr_put_41 h40 h6 ?_
  refine g_iconst (v := 1) ok d_Tr_put_44 (by decide) ?_
  refine g_iadd ok d_Tr_put_45 ?_
  have h41 : 3 < fs2.length := Nat.lt_of_lt_of_le (by decide) h42
  refine pf_Tr_7 ok d_Tr_put_46 h40 h41 (fun _ => ⟨rfl, rfl⟩) ?_
  rw [h44]
  rw [h46]
  have h47 : M45[x0]? = some (.inr (8, fs43)) := by rw [← h46]; exact gs_eq h40
  have h48 : fs43[0]? = some (.ref f3) := by rw [← h44]; exact (List.getElem?_set_ne (by decide : 3 ≠ 0)).trans h4
  have h49 : fs43[1]? = some (.ref f15) := by rw [← h44]; exact (List.getElem?_set_ne (by decide : 3 ≠ 1)).trans h16
  have h50 : fs43[2]? = some (.ref f27) := by rw [← h44]; exact (List.getElem?_set_ne (by decide : 3 ≠ 2)).trans h28
  have h51 : fs43[3]? = some (.int (f5 + 1)) := by rw [← h44]; exact List.getElem?_set_self h41
  have h52 : 4 ≤ fs43.length := by rw [← h44, List.length_set]; exact h42
  exact g_vret ok E d_Tr_put_49 hp hk hn
theorem k_Tr_drop_0 {X : gC} {M : List mC} {k n : Nat} {x0 : Nat} {x1 : Int32} (ok : gO X c_Tr_drop "TripleStore$Triples" w_Tr_drop)  (kt : x1 < 0 → gg X M k n 12 [] []) (kf : ¬ x1 < 0 → gg X M k n 4 [(0, .ref x0), (1, .int x1)] []) : gg X M k n 0 [(0, .ref x0), (1, .int x1)] [] := by
  refine g_iload_n ok d_Tr_drop_0 rfl (j := 1) rfl ?_
  exact g_if_lt (tgt := 12) ok d_Tr_drop_1 (by decide) (fun z => (gg_keep [] (kt z))) (fun z => (kf z))
theorem k_Tr_drop_4 {X : gC} {M : List mC} {k n : Nat} {x0 : Nat} {x1 : Int32} {fs2 : List Value} {f3 : Int32} (ok : gO X c_Tr_drop "TripleStore$Triples" w_Tr_drop) (h1 : M[x0]? = some (.inr (8, fs2))) (h4 : fs2[3]? = some (.int f3)) (kt : x1 < f3 → gg X M k n 13 [(0, .ref x0), (1, .int x1)] []) (kf : ¬ x1 < f3 → gg X M k n 12 [] []) : gg X M k n 4 [(0, .ref x0), (1, .int x1)] [] := by
  refine g_iload_n ok d_Tr_drop_4 rfl (j := 1) rfl ?_
  refine g_aload_n ok d_Tr_drop_5 rfl (j := 0) rfl ?_
  refine gf_Tr_7 ok d_Tr_drop_6 h1 h4 ?_
  exact g_icmp_lt (tgt := 13) ok d_Tr_drop_9 (by decide) (fun z => (kt z)) (fun z => (gg_keep [] (kf z)))
theorem k_Tr_drop_12 {X : gC} {M : List mC} {k n : Nat}  (ok : gO X c_Tr_drop "TripleStore$Triples" w_Tr_drop)  {l9 : Launch} {rm : Room} {M0 : List mC} {post : Option Value → List mC → Prop} (E : gE X l9 y_Tr_drop rm 2 none M0 post) (hp : post (none) M) (hk : k ≤ rm.cells) (hn : n ≤ rm.slots) : gg X M k n 12 [] [] := by
  exact g_vret ok E d_Tr_drop_12 hp hk hn
theorem k_Tr_drop_13 {X : gC} {M : List mC} {k n : Nat} {x0 : Nat} {x1 : Int32} {fs2 : List Value} {f3 : Int32} {fs7 : List Value} {M9 : List mC} {f14 : Nat} {g18 : Nat → Int64} {N19 : Nat} {M23 : List mC} {f27 : Nat} {g31 : Nat → Int64} {N32 : Nat} {M38 : List mC} {f42 : Nat} {g46 : Nat → Int64} {N47 : Nat} {M55 : List mC} (ok : gO X c_Tr_drop "TripleStore$Triples" w_Tr_drop) (h1 : M[x0]? = some (.inr (8, fs2))) (h4 : fs2[3]? = some (.int f3)) (h6 : 4 ≤ fs2.length) (h8 : fs2.set 3 (.int (f3 - 1)) = fs7) (h10 : M.set x0 (.inr (8, fs7)) = M9) (h15 : fs2[0]? = some (.ref f14)) (h17 : M[f14]? = some (.inl (1, N19, .inr (.inl g18)))) (h21 : vp_in (f3 - 1) N19) (h22 : vp_in x1 N19) (h24 : M9.set f14 (.inl (1, N19, .inr (.inl (vp_updL g18 x1.toNatClampNeg (g18 (f3 - 1).toNatClampNeg))))) = M23) (h28 : fs2[1]? = some (.ref f27)) (h30 : M[f27]? = some (.inl (1, N32, .inr (.inl g31)))) (h35 : f14 ≠ f27) (h36 : vp_in (f3 - 1) N32) (h37 : vp_in x1 N32) (h39 : M23.set f27 (.inl (1, N32, .inr (.inl (vp_updL g31 x1.toNatClampNeg (g31 (f3 - 1).toNatClampNeg))))) = M38) (h43 : fs2[2]? = some (.ref f42)) (h45 : M[f42]? = some (.inl (1, N47, .inr (.inl g46)))) (h50 : f14 ≠ f42) (h52 : f27 ≠ f42) (h53 : vp_in (f3 - 1) N47) (h54 : vp_in x1 N47) (h56 : M38.set f42 (.inl (1, N47, .inr (.inl (vp_updL g46 x1.toNatClampNeg (g46 (f3 - 1).toNatClampNeg))))) = M55) {l9 : Launch} {rm : Room} {M0 : List mC} {post : Option Value → List mC → Prop} (E : gE X l9 y_Tr_drop rm 2 none M0 post) (hp : post (none) M55) (hk : k ≤ rm.cells) (hn : n ≤ rm.slots) : gg X M k n 13 [(0, .ref x0), (1, .int x1)] [] := by
  refine g_aload_n ok d_Tr_drop_13 rfl (j := 0) rfl ?_
  refine g_dup ok d_Tr_drop_14 rfl ?_
  refine gf_Tr_7 ok d_Tr_drop_15 h1 h4 ?_
  refine g_iconst (v := 1) ok d_Tr_drop_18 (by decide) ?_
  refine g_isub ok d_Tr_drop_19 ?_
  have h5 : 3 < fs2.length := Nat.lt_of_lt_of_le (by decide) h6
  refine pf_Tr_7 ok d_Tr_drop_20 h1 h5 (fun _ => ⟨rfl, rfl⟩) ?_
  rw [h8]
  rw [h10]
  have h11 : M9[x0]? = some (.inr (8, fs7)) := by rw [← h10]; exact gs_eq h1
  have h12 : fs7[3]? = some (.int (f3 - 1)) := by rw [← h8]; exact List.getElem?_set_self h5
  have h13 : 4 ≤ fs7.length := by rw [← h8, List.length_set]; exact h6
  refine g_aload_n ok d_Tr_drop_23 rfl (j := 0) rfl ?_
  have h16 : fs7[0]? = some (.ref f14) := by rw [← h8]; exact (List.getElem?_set_ne (by decide : 3 ≠ 0)).trans h15
  refine gf_Tr_13 ok d_Tr_drop_24 h11 h16 ?_
  refine g_iload_n ok d_Tr_drop_27 rfl (j := 1) rfl ?_
  refine g_aload_n ok d_Tr_drop_28 rfl (j := 0) rfl ?_
  refine gf_Tr_13 ok d_Tr_drop_29 h11 h16 ?_
  refine g_aload_n ok d_Tr_drop_32 rfl (j := 0) rfl ?_
  refine gf_Tr_7 ok d_Tr_drop_33 h11 h12 ?_
  have h20 : M9[f14]? = some (.inl (1, N19, .inr (.inl g18))) := by rw [← h10]; exact (gs_ne (Ne.symm (ne_ao h17 h1))).trans h17
  refine g_lald (t := 1) ok rfl d_Tr_drop_36 h20 h21 ?_
  refine g_last (t := 1) ok rfl d_Tr_drop_37 h20 h22 ?_
  rw [h24]
  have h25 : M23[f14]? = some (.inl (1, N19, .inr (.inl (vp_updL g18 x1.toNatClampNeg (g18 (f3 - 1).toNatClampNeg))))) := by rw [← h24]; exact gs_eq h20
  refine g_aload_n ok d_Tr_drop_38 rfl (j := 0) rfl ?_
  have h26 : M23[x0]? = some (.inr (8, fs7)) := by rw [← h24]; exact (gs_ne (ne_ao h20 h11)).trans h11
  have h29 : fs7[1]? = some (.ref f27) := by rw [← h8]; exact (List.getElem?_set_ne (by decide : 3 ≠ 1)).trans h28
  refine gf_Tr_17 ok d_Tr_drop_39 h26 h29 ?_
  refine g_iload_n ok d_Tr_drop_42 rfl (j := 1) rfl ?_
  refine g_aload_n ok d_Tr_drop_43 rfl (j := 0) rfl ?_
  refine gf_Tr_17 ok d_Tr_drop_44 h26 h29 ?_
  refine g_aload_n ok d_Tr_drop_47 rfl (j := 0) rfl ?_
  refine gf_Tr_7 ok d_Tr_drop_48 h26 h12 ?_
  have h33 : M9[f27]? = some (.inl (1, N32, .inr (.inl g31))) := by rw [← h10]; exact (gs_ne (Ne.symm (ne_ao h30 h1))).trans h30
  have h34 : M23[f27]? = some (.inl (1, N32, .inr (.inl g31))) := by rw [← h24]; exact (gs_ne h35).trans h33
  refine g_lald (t := 1) ok rfl d_Tr_drop_51 h34 h36 ?_
  refine g_last (t := 1) ok rfl d_Tr_drop_52 h34 h37 ?_
  rw [h39]
  have h40 : M38[f27]? = some (.inl (1, N32, .inr (.inl (vp_updL g31 x1.toNatClampNeg (g31 (f3 - 1).toNatClampNeg))))) := by rw [← h39]; exact gs_eq h34
  refine g_aload_n ok d_Tr_drop_53 rfl (j := 0) rfl ?_
  have h41 : M38[x0]? = some (.inr (8, fs7)) := by rw [← h39]; exact (gs_ne (ne_ao h34 h26)).trans h26
  have h44 : fs7[2]? = some (.ref f42) := by rw [← h8]; exact (List.getElem?_set_ne (by decide : 3 ≠ 2)).trans h43
  refine gf_Tr_20 ok d_Tr_drop_54 h41 h44 ?_
  refine g_iload_n ok d_Tr_drop_57 rfl (j := 1) rfl ?_
  refine g_aload_n ok d_Tr_drop_58 rfl (j := 0) rfl ?_
  refine gf_Tr_20 ok d_Tr_drop_59 h41 h44 ?_
  refine g_aload_n ok d_Tr_drop_62 rfl (j := 0) rfl ?_
  refine gf_Tr_7 ok d_Tr_drop_63 h41 h12 ?_
  have h48 : M9[f42]? = some (.inl (1, N47, .inr (.inl g46))) := by rw [← h10]; exact (gs_ne (Ne.symm (ne_ao h45 h1))).trans h45
  have h49 : M23[f42]? = some (.inl (1, N47, .inr (.inl g46))) := by rw [← h24]; exact (gs_ne h50).trans h48
  have h51 : M38[f42]? = some (.inl (1, N47, .inr (.inl g46))) := by rw [← h39]; exact (gs_ne h52).trans h49
  refine g_lald (t := 1) ok rfl d_Tr_drop_66 h51 h53 ?_
  refine g_last (t := 1) ok rfl d_Tr_drop_67 h51 h54 ?_
  rw [h56]
  have h57 : M55[f42]? = some (.inl (1, N47, .inr (.inl (vp_updL g46 x1.toNatClampNeg (g46 (f3 - 1).toNatClampNeg))))) := by rw [← h56]; exact gs_eq h51
  exact g_vret ok E d_Tr_drop_68 hp hk hn
theorem k_Ar_fill_0 {X : gC} {M : List mC} {k n : Nat} {x0 : Nat} {x1 : Int64} {g2 : Nat → Int64} {N3 : Nat} (ok : gO X c_Ar_fill "java/util/Arrays" w_Ar_fill) (hl : gL X = 5) (h1 : M[x0]? = some (.inl (1, N3, .inr (.inl g2)))) (kk : gg X M k n 6 [(0, .ref x0), (1, .long x1), (3, .int 0), (4, .int (Int32.ofNat N3))] []) : gg X M k n 0 [(0, .ref x0), (1, .long x1)] [] := by
  refine g_iconst (v := 0) ok d_Ar_fill_0 (by decide) ?_
  refine g_istore_n (L' := [(0, .ref x0), (1, .long x1), (3, .int 0)]) ok d_Ar_fill_1 rfl (by rw [hl]; decide) rfl ?_
  refine g_aload_n ok d_Ar_fill_2 rfl (j := 0) rfl ?_
  refine g_alen (t := 1) ok rfl d_Ar_fill_3 h1 rfl ?_
  refine g_istore (L' := [(0, .ref x0), (1, .long x1), (3, .int 0), (4, .int (Int32.ofNat N3))]) ok d_Ar_fill_4 (by rw [hl]; decide) rfl ?_
  exact kk
theorem k_Ar_fill_6 {X : gC} {M : List mC} {k n : Nat} {x0 : Nat} {x1 : Int64} {x3 : Int32} {x4 : Int32} (ok : gO X c_Ar_fill "java/util/Arrays" w_Ar_fill)  (kt : x4 ≤ x3 → gg X M k n 22 [] []) (kf : ¬ x4 ≤ x3 → gg X M k n 12 [(0, .ref x0), (1, .long x1), (3, .int x3), (4, .int x4)] []) : gg X M k n 6 [(0, .ref x0), (1, .long x1), (3, .int x3), (4, .int x4)] [] := by
  refine g_iload_n ok d_Ar_fill_6 rfl (j := 2) rfl ?_
  refine g_iload ok d_Ar_fill_7 (j := 3) rfl ?_
  exact g_icmp_ge (tgt := 22) ok d_Ar_fill_9 (by decide) (fun z => (gg_keep [] (kt z))) (fun z => (kf z))
theorem k_Ar_fill_12 {X : gC} {M : List mC} {k n : Nat} {x0 : Nat} {x1 : Int64} {x3 : Int32} {x4 : Int32} {g2 : Nat → Int64} {N3 : Nat} {M5 : List mC} (ok : gO X c_Ar_fill "java/util/Arrays" w_Ar_fill) (hl : gL X = 5) (h1 : M[x0]? = some (.inl (1, N3, .inr (.inl g2)))) (h4 : vp_in x3 N3) (h6 : M.set x0 (.inl (1, N3, .inr (.inl (vp_updL g2 x3.toNatClampNeg x1)))) = M5) (kk : gg X M5 k n 6 [(0, .ref x0), (1, .long x1), (3, .int (x3 + 1)), (4, .int x4)] []) : gg X M k n 12 [(0, .ref x0), (1, .long x1), (3, .int x3), (4, .int x4)] [] := by
  refine g_aload_n ok d_Ar_fill_12 rfl (j := 0) rfl ?_
  refine g_iload_n ok d_Ar_fill_13 rfl (j := 2) rfl ?_
  refine g_lload_n ok d_Ar_fill_14 rfl (j := 1) rfl ?_
  refine g_last (t := 1) ok rfl d_Ar_fill_15 h1 h4 ?_
  rw [h6]
  have h7 : M5[x0]? = some (.inl (1, N3, .inr (.inl (vp_updL g2 x3.toNatClampNeg x1)))) := by rw [← h6]; exact gs_eq h1
  refine g_iinc (L' := [(0, .ref x0), (1, .long x1), (3, .int (x3 + 1)), (4, .int x4)]) (v := (x3 + 1)) ok d_Ar_fill_16 (j := 2) rfl rfl (by rw [hl]; decide) rfl ?_
  exact g_goto (tgt := 6) ok d_Ar_fill_19 (by decide) kk
theorem k_Ar_fill_22 {X : gC} {M : List mC} {k n : Nat}  (ok : gO X c_Ar_fill "java/util/Arrays" w_Ar_fill)  {l9 : Launch} {rm : Room} {M0 : List mC} {post : Option Value → List mC → Prop} (E : gE X l9 y_Ar_fill rm 5 none M0 post) (hp : post (none) M) (hk : k ≤ rm.cells) (hn : n ≤ rm.slots) : gg X M k n 22 [] [] := by
  exact g_vret ok E d_Ar_fill_22 hp hk hn
