theorem k_El_init_0 {X : gC} {M : List mC} {k n : Nat} {x0 : Nat} (ok : gO X c_El_init "TripleStore$Element" w_El_init)  (hf : 1 ≤ (gR X).frames) (hl2 : (([] : List Value).map fun v => v.category).sum + 12 ≤ (gR X).locals) (kk : gg X M k n 4 [(0, .ref x0)] []) : gg X M k n 0 [(0, .ref x0)] [] := by
  refine g_aload_n ok d_El_init_0 rfl (j := 0) rfl ?_
  exact g_objI ok ml_El_3 wn_Object i_Object d_El_init_1 hf hl2 kk
theorem k_El_init_4 {X : gC} {M : List mC} {k n : Nat} {x0 : Nat} {fs2 : List Value} {fs5 : List Value} {M7 : List mC} {fs13 : List Value} {M15 : List mC} {fs22 : List Value} {M24 : List mC} {fs32 : List Value} {M34 : List mC} {fs43 : List Value} {M45 : List mC} {fs55 : List Value} {M57 : List mC} {fs68 : List Value} {M70 : List mC} (ok : gO X c_El_init "TripleStore$Element" w_El_init) (h1 : M[x0]? = some (.inr (0, fs2))) (h4 : 7 ≤ fs2.length) (h6 : fs2.set 0 (.int 0) = fs5) (h8 : M.set x0 (.inr (0, fs5)) = M7) (h14 : fs5.set 1 (.int 0) = fs13) (h16 : M7.set x0 (.inr (0, fs13)) = M15) (h23 : fs13.set 2 (.long 0) = fs22) (h25 : M15.set x0 (.inr (0, fs22)) = M24) (h33 : fs22.set 3 (.long 0) = fs32) (h35 : M24.set x0 (.inr (0, fs32)) = M34) (h44 : fs32.set 4 (.long 0) = fs43) (h46 : M34.set x0 (.inr (0, fs43)) = M45) (h56 : fs43.set 5 (.int 0) = fs55) (h58 : M45.set x0 (.inr (0, fs55)) = M57) (h69 : fs55.set 6 (.int 0) = fs68) (h71 : M57.set x0 (.inr (0, fs68)) = M70) {l9 : Launch} {rm : Room} {M0 : List mC} {post : Option Value → List mC → Prop} (E : gE X l9 y_El_init rm 1 none M0 post) (hp : post (none) M70) (hk : k ≤ rm.cells) (hn : n ≤ rm.slots) : gg X M k n 4 [(0, .ref x0)] [] := by
  refine g_aload_n ok d_El_init_4 rfl (j := 0) rfl ?_
  refine g_iconst (v := 0) ok d_El_init_5 (by decide) ?_
  have h3 : 0 < fs2.length := Nat.lt_of_lt_of_le (by decide) h4
  refine pf_El_11 ok d_El_init_6 h1 h3 (fun _ => ⟨rfl, rfl⟩) ?_
  rw [h6]
  rw [h8]
  have h9 : M7[x0]? = some (.inr (0, fs5)) := by rw [← h8]; exact gs_eq h1
  have h10 : fs5[0]? = some (.int 0) := by rw [← h6]; exact List.getElem?_set_self h3
  have h11 : 7 ≤ fs5.length := by rw [← h6, List.length_set]; exact h4
  refine g_aload_n ok d_El_init_9 rfl (j := 0) rfl ?_
  refine g_iconst (v := 0) ok d_El_init_10 (by decide) ?_
  have h12 : 1 < fs5.length := Nat.lt_of_lt_of_le (by decide) h11
  refine pf_El_15 ok d_El_init_11 h9 h12 (fun _ => ⟨rfl, rfl⟩) ?_
  rw [h14]
  rw [h16]
  have h17 : M15[x0]? = some (.inr (0, fs13)) := by rw [← h16]; exact gs_eq h9
  have h18 : fs13[0]? = some (.int 0) := by rw [← h14]; exact (List.getElem?_set_ne (by decide : 1 ≠ 0)).trans h10
  have h19 : fs13[1]? = some (.int 0) := by rw [← h14]; exact List.getElem?_set_self h12
  have h20 : 7 ≤ fs13.length := by rw [← h14, List.length_set]; exact h11
  refine g_aload_n ok d_El_init_14 rfl (j := 0) rfl ?_
  refine g_lconst (v := 0) ok d_El_init_15 (by decide) ?_
  have h21 : 2 < fs13.length := Nat.lt_of_lt_of_le (by decide) h20
  refine pf_El_18 ok d_El_init_16 h17 h21 (fun _ => ⟨rfl, rfl⟩) ?_
  rw [h23]
  rw [h25]
  have h26 : M24[x0]? = some (.inr (0, fs22)) := by rw [← h25]; exact gs_eq h17
  have h27 : fs22[0]? = some (.int 0) := by rw [← h23]; exact (List.getElem?_set_ne (by decide : 2 ≠ 0)).trans h18
  have h28 : fs22[1]? = some (.int 0) := by rw [← h23]; exact (List.getElem?_set_ne (by decide : 2 ≠ 1)).trans h19
  have h29 : fs22[2]? = some (.long 0) := by rw [← h23]; exact List.getElem?_set_self h21
  have h30 : 7 ≤ fs22.length := by rw [← h23, List.length_set]; exact h20
  refine g_aload_n ok d_El_init_19 rfl (j := 0) rfl ?_
  refine g_lconst (v := 0) ok d_El_init_20 (by decide) ?_
  have h31 : 3 < fs22.length := Nat.lt_of_lt_of_le (by decide) h30
  refine pf_El_22 ok d_El_init_21 h26 h31 (fun _ => ⟨rfl, rfl⟩) ?_
  rw [h33]
  rw [h35]
  have h36 : M34[x0]? = some (.inr (0, fs32)) := by rw [← h35]; exact gs_eq h26
  have h37 : fs32[0]? = some (.int 0) := by rw [← h33]; exact (List.getElem?_set_ne (by decide : 3 ≠ 0)).trans h27
  have h38 : fs32[1]? = some (.int 0) := by rw [← h33]; exact (List.getElem?_set_ne (by decide : 3 ≠ 1)).trans h28
  have h39 : fs32[2]? = some (.long 0) := by rw [← h33]; exact (List.getElem?_set_ne (by decide : 3 ≠ 2)).trans h29
  have h40 : fs32[3]? = some (.long 0) := by rw [← h33]; exact List.getElem?_set_self h31
  have h41 : 7 ≤ fs32.length := by rw [← h33, List.length_set]; exact h30
  refine g_aload_n ok d_El_init_24 rfl (j := 0) rfl ?_
  refine g_lconst (v := 0) ok d_El_init_25 (by decide) ?_
  have h42 : 4 < fs32.length := Nat.lt_of_lt_of_le (by decide) h41
  refine pf_El_25 ok d_El_init_26 h36 h42 (fun _ => ⟨rfl, rfl⟩) ?_
  rw [h44]
  rw [h46]
  have h47 : M45[x0]? = some (.inr (0, fs43)) := by rw [← h46]; exact gs_eq h36
  have h48 : fs43[0]? = some (.int 0) := by rw [← h44]; exact (List.getElem?_set_ne (by decide : 4 ≠ 0)).trans h37
  have h49 : fs43[1]? = some (.int 0) := by rw [← h44]; exact (List.getElem?_set_ne (by decide : 4 ≠ 1)).trans h38
  have h50 : fs43[2]? = some (.long 0) := by rw [← h44]; exact (List.getElem?_set_ne (by decide : 4 ≠ 2)).trans h39
  have h51 : fs43[3]? = some (.long 0) := by rw [← h44]; exact (List.getElem?_set_ne (by decide : 4 ≠ 3)).trans h40
  have h52 : fs43[4]? = some (.long 0) := by rw [← h44]; exact List.getElem?_set_self h42
  have h53 : 7 ≤ fs43.length := by rw [← h44, List.length_set]; exact h41
  refine g_aload_n ok d_El_init_29 rfl (j := 0) rfl ?_
  refine g_iconst (v := 0) ok d_El_init_30 (by decide) ?_
  have h54 : 5 < fs43.length := Nat.lt_of_lt_of_le (by decide) h53
  refine pf_El_28 ok d_El_init_31 h47 h54 (fun _ => ⟨rfl, rfl⟩) ?_
  rw [h56]
  rw [h58]
  have h59 : M57[x0]? = some (.inr (0, fs55)) := by rw [← h58]; exact gs_eq h47
  have h60 : fs55[0]? = some (.int 0) := by rw [← h56]; exact (List.getElem?_set_ne (by decide : 5 ≠ 0)).trans h48
  have h61 : fs55[1]? = some (.int 0) := by rw [← h56]; exact (List.getElem?_set_ne (by decide : 5 ≠ 1)).trans h49
  have h62 : fs55[2]? = some (.long 0) := by rw [← h56]; exact (List.getElem?_set_ne (by decide : 5 ≠ 2)).trans h50
  have h63 : fs55[3]? = some (.long 0) := by rw [← h56]; exact (List.getElem?_set_ne (by decide : 5 ≠ 3)).trans h51
  have h64 : fs55[4]? = some (.long 0) := by rw [← h56]; exact (List.getElem?_set_ne (by decide : 5 ≠ 4)).trans h52
  have h65 : fs55[5]? = some (.int 0) := by rw [← h56]; exact List.getElem?_set_self h54
  have h66 : 7 ≤ fs55.length := by rw [← h56, List.length_set]; exact h53
  refine g_aload_n ok d_El_init_34 rfl (j := 0) rfl ?_
  refine g_iconst (v := 0) ok d_El_init_35 (by decide) ?_
  have h67 : 6 < fs55.length := Nat.lt_of_lt_of_le (by decide) h66
  refine pf_El_31 ok d_El_init_36 h59 h67 (fun _ => ⟨rfl, rfl⟩) ?_
  rw [h69]
  rw [h71]
  have h72 : M70[x0]? = some (.inr (0, fs68)) := by rw [← h71]; exact gs_eq h59
  have h73 : fs68[0]? = some (.int 0) := by rw [← h69]; exact (List.getElem?_set_ne (by decide : 6 ≠ 0)).trans h60
  have h74 : fs68[1]? = some (.int 0) := by rw [← h69]; exact (List.getElem?_set_ne (by decide : 6 ≠ 1)).trans h61
  have h75 : fs68[2]? = some (.long 0) := by rw [← h69]; exact (List.getElem?_set_ne (by decide : 6 ≠ 2)).trans h62
  have h76 : fs68[3]? = some (.long 0) := by rw [← h69]; exact (List.getElem?_set_ne (by decide : 6 ≠ 3)).trans h63
  have h77 : fs68[4]? = some (.long 0) := by rw [← h69]; exact (List.getElem?_set_ne (by decide : 6 ≠ 4)).trans h64
  have h78 : fs68[5]? = some (.int 0) := by rw [← h69]; exact (List.getElem?_set_ne (by decide : 6 ≠ 5)).trans h65
  have h79 : fs68[6]? = some (.int 0) := by rw [← h69]; exact List.getElem?_set_self h67
  have h80 : 7 ≤ fs68.length := by rw [← h69, List.length_set]; exact h66
  exact g_vret ok E d_El_init_39 hp hk hn
theorem k_Pa_init_0 {X : gC} {M : List mC} {k n : Nat} {x0 : Nat} {x1 : Nat} {x2 : Nat} (ok : gO X c_Pa_init "TripleStore$Parser" w_Pa_init)  (hf : 1 ≤ (gR X).frames) (hl2 : (([] : List Value).map fun v => v.category).sum + 12 ≤ (gR X).locals) (kk : gg X M k n 4 [(0, .ref x0), (1, .ref x1), (2, .ref x2)] []) : gg X M k n 0 [(0, .ref x0), (1, .ref x1), (2, .ref x2)] [] := by
  refine g_aload_n ok d_Pa_init_0 rfl (j := 0) rfl ?_
  exact g_objI ok ml_Pa_3 wn_Object i_Object d_Pa_init_1 hf hl2 kk
theorem k_Pa_init_4 {X : gC} {M : List mC} {k n : Nat} {x0 : Nat} {x1 : Nat} {x2 : Nat} {fs2 : List Value} {fs5 : List Value} {M7 : List mC} {fs13 : List Value} {M15 : List mC} {fs22 : List Value} {M24 : List mC} (ok : gO X c_Pa_init "TripleStore$Parser" w_Pa_init) (hin : (gM X).name = "<init>") (h1 : M[x0]? = some (.inr (1, fs2))) (h4 : 3 ≤ fs2.length) (h6 : fs2.set 2 (.long 0) = fs5) (h8 : M.set x0 (.inr (1, fs5)) = M7) (h14 : fs5.set 0 (.ref x1) = fs13) (h16 : M7.set x0 (.inr (1, fs13)) = M15) (h23 : fs13.set 1 (.ref x2) = fs22) (h25 : M15.set x0 (.inr (1, fs22)) = M24) {l9 : Launch} {rm : Room} {M0 : List mC} {post : Option Value → List mC → Prop} (E : gE X l9 y_Pa_init rm 3 none M0 post) (hp : post (none) M24) (hk : k ≤ rm.cells) (hn : n ≤ rm.slots) : gg X M k n 4 [(0, .ref x0), (1, .ref x1), (2, .ref x2)] [] := by
  refine g_aload_n ok d_Pa_init_4 rfl (j := 0) rfl ?_
  refine g_lconst (v := 0) ok d_Pa_init_5 (by decide) ?_
  have h3 : 2 < fs2.length := Nat.lt_of_lt_of_le (by decide) h4
  refine pf_Pa_9 ok d_Pa_init_6 h1 h3 (fun _ => ⟨rfl, rfl⟩) ?_
  rw [h6]
  rw [h8]
  have h9 : M7[x0]? = some (.inr (1, fs5)) := by rw [← h8]; exact gs_eq h1
  have h10 : fs5[2]? = some (.long 0) := by rw [← h6]; exact List.getElem?_set_self h3
  have h11 : 3 ≤ fs5.length := by rw [← h6, List.length_set]; exact h4
  refine g_aload_n ok d_Pa_init_9 rfl (j := 0) rfl ?_
  refine g_aload_n ok d_Pa_init_10 rfl (j := 1) rfl ?_
  have h12 : 0 < fs5.length := Nat.lt_of_lt_of_le (by decide) h11
  refine pf_Pa_15 ok hin d_Pa_init_11 h9 h12 (fun _ => ⟨rfl, rfl⟩) ?_
  rw [h14]
  rw [h16]
  have h17 : M15[x0]? = some (.inr (1, fs13)) := by rw [← h16]; exact gs_eq h9
  have h18 : fs13[2]? = some (.long 0) := by rw [← h14]; exact (List.getElem?_set_ne (by decide : 0 ≠ 2)).trans h10
  have h19 : fs13[0]? = some (.ref x1) := by rw [← h14]; exact List.getElem?_set_self h12
  have h20 : 3 ≤ fs13.length := by rw [← h14, List.length_set]; exact h11
  refine g_aload_n ok d_Pa_init_14 rfl (j := 0) rfl ?_
  refine g_aload_n ok d_Pa_init_15 rfl (j := 2) rfl ?_
  have h21 : 1 < fs13.length := Nat.lt_of_lt_of_le (by decide) h20
  refine pf_Pa_19 ok hin d_Pa_init_16 h17 h21 (fun _ => ⟨rfl, rfl⟩) ?_
  rw [h23]
  rw [h25]
  have h26 : M24[x0]? = some (.inr (1, fs22)) := by rw [← h25]; exact gs_eq h17
  have h27 : fs22[2]? = some (.long 0) := by rw [← h23]; exact (List.getElem?_set_ne (by decide : 1 ≠ 2)).trans h18
  have h28 : fs22[0]? = some (.ref x1) := by rw [← h23]; exact (List.getElem?_set_ne (by decide : 1 ≠ 0)).trans h19
  have h29 : fs22[1]? = some (.ref x2) := by rw [← h23]; exact List.getElem?_set_self h21
  have h30 : 3 ≤ fs22.length := by rw [← h23, List.length_set]; exact h20
  exact g_vret ok E d_Pa_init_19 hp hk hn
theorem k_Pa_readQuery_0 {X : gC} {M : List mC} {k n : Nat} {x0 : Nat} {fs2 : List Value} {f3 : Nat} {fs6 : List Value} (ok : gO X c_Pa_readQuery "TripleStore$Parser" w_Pa_readQuery) (h1 : M[x0]? = some (.inr (1, fs2))) (h4 : fs2[1]? = some (.ref f3)) (h5 : M[f3]? = some (.inr (2, fs6))) {rm : Room} {post : Option Value → List mC → Prop} (hm : mm_ (gLa X) y_Qu_clear w_Qu_clear rm [.ref f3] M post) (hR : gF X rm 1 k n) (hlen : ∀ r M', post r M' → M'.length = M.length) (kk : ∀ r M', post r M' → gg X M' (k + rm.cells) (n + rm.slots) 7 [(0, .ref x0)] (r.toList ++ [])) : gg X M k n 0 [(0, .ref x0)] [] := by
  refine g_aload_n ok d_Pa_readQuery_0 rfl (j := 0) rfl ?_
  refine gf_Pa_19 ok d_Pa_readQuery_1 h1 h4 ?_
  exact gc_Pa_23 (As := []) (rest := []) ok d_Pa_readQuery_4 hm rfl rfl (Nat.le_of_ble_eq_true rfl) hR h5 hlen kk
theorem k_Pa_readQuery_7 {X : gC} {M : List mC} {k n : Nat} {x0 : Nat} {fs2 : List Value} {f3 : Nat} {fs6 : List Value} (ok : gO X c_Pa_readQuery "TripleStore$Parser" w_Pa_readQuery) (h1 : M[x0]? = some (.inr (1, fs2))) (h4 : fs2[0]? = some (.ref f3)) (h5 : M[f3]? = some (.inr (7, fs6))) {rm : Room} {post : Option Value → List mC → Prop} (hm : mm_ (gLa X) y_To_takeKey w_To_takeKey rm [.ref f3, .long 8315171469725532160] M post) (hR : gF X rm 4 k n) (hlen : ∀ r M', post r M' → M'.length = M.length) (kk : ∀ r M', post r M' → gg X M' (k + rm.cells) (n + rm.slots) 17 [(0, .ref x0)] (r.toList ++ [])) : gg X M k n 7 [(0, .ref x0)] [] := by
  refine g_aload_n ok d_Pa_readQuery_7 rfl (j := 0) rfl ?_
  refine gf_Pa_15 ok d_Pa_readQuery_8 h1 h4 ?_
  refine g_ldc2 (v := 8315171469725532160) ok (List.mem_cons_of_mem _ (gT_at 639 (by decide +kernel) (by decide +kernel))) d_Pa_readQuery_11 ?_
  exact gc_Pa_32 (As := [.long 8315171469725532160]) (rest := []) ok d_Pa_readQuery_14 hm rfl rfl (Nat.le_of_ble_eq_true rfl) hR h5 hlen kk
theorem k_Pa_readQuery_17 {X : gC} {M : List mC} {k n : Nat} {x0 : Nat} {s0 : Int32} (ok : gO X c_Pa_readQuery "TripleStore$Parser" w_Pa_readQuery)  (kt : s0 = 0 → gg X M k n 64 [] []) (kf : ¬ s0 = 0 → gg X M k n 20 [(0, .ref x0)] []) : gg X M k n 17 [(0, .ref x0)] [.int s0] := by
  exact g_if_eq (tgt := 64) ok d_Pa_readQuery_17 (by decide) (fun z => (gg_keep [] (kt z))) (fun z => (kf z))
theorem k_Pa_readQuery_20 {X : gC} {M : List mC} {k n : Nat} {x0 : Nat} {fs2 : List Value} (ok : gO X c_Pa_readQuery "TripleStore$Parser" w_Pa_readQuery) (h1 : M[x0]? = some (.inr (1, fs2))) {rm : Room} {post : Option Value → List mC → Prop} (hm : mm_ (gLa X) y_Pa_readSelected w_Pa_readSelected rm [.ref x0] M post) (hR : gF X rm 2 k n) (hlen : ∀ r M', post r M' → M'.length = M.length) (kk : ∀ r M', post r M' → gg X M' (k + rm.cells) (n + rm.slots) 24 [(0, .ref x0)] (r.toList ++ [])) : gg X M k n 20 [(0, .ref x0)] [] := by
  refine g_aload_n ok d_Pa_readQuery_20 rfl (j := 0) rfl ?_
  exact gc_Pa_36 (As := []) (rest := []) ok d_Pa_readQuery_21 hm rfl rfl (Nat.le_of_ble_eq_true rfl) hR h1 hlen kk
theorem k_Pa_readQuery_24 {X : gC} {M : List mC} {k n : Nat} {x0 : Nat} {s0 : Int32} (ok : gO X c_Pa_readQuery "TripleStore$Parser" w_Pa_readQuery)  (kt : s0 = 0 → gg X M k n 64 [] []) (kf : ¬ s0 = 0 → gg X M k n 27 [(0, .ref x0)] []) : gg X M k n 24 [(0, .ref x0)] [.int s0] := by
  exact g_if_eq (tgt := 64) ok d_Pa_readQuery_24 (by decide) (fun z => (gg_keep [] (kt z))) (fun z => (kf z))
theorem k_Pa_readQuery_27 {X : gC} {M : List mC} {k n : Nat} {x0 : Nat} {fs2 : List Value} (ok : gO X c_Pa_readQuery "TripleStore$Parser" w_Pa_readQuery) (h1 : M[x0]? = some (.inr (1, fs2))) {rm : Room} {post : Option Value → List mC → Prop} (hm : mm_ (gLa X) y_Pa_readGroup w_Pa_readGroup rm [.ref x0, .int (-1), .int 0] M post) (hR : gF X rm 5 k n) (hlen : ∀ r M', post r M' → M'.length = M.length) (kk : ∀ r M', post r M' → gg X M' (k + rm.cells) (n + rm.slots) 33 [(0, .ref x0)] (r.toList ++ [])) : gg X M k n 27 [(0, .ref x0)] [] := by
  refine g_aload_n ok d_Pa_readQuery_27 rfl (j := 0) rfl ?_
  refine g_iconst (v := (-1)) ok d_Pa_readQuery_28 (by decide) ?_
  refine g_iconst (v := 0) ok d_Pa_readQuery_29 (by decide) ?_
  exact gc_Pa_40 (As := [.int (-1), .int 0]) (rest := []) ok d_Pa_readQuery_30 hm rfl rfl (Nat.le_of_ble_eq_true rfl) hR h1 hlen kk
theorem k_Pa_readQuery_33 {X : gC} {M : List mC} {k n : Nat} {x0 : Nat} {s0 : Int32} (ok : gO X c_Pa_readQuery "TripleStore$Parser" w_Pa_readQuery)  (kt : s0 = 0 → gg X M k n 64 [] []) (kf : ¬ s0 = 0 → gg X M k n 36 [(0, .ref x0)] []) : gg X M k n 33 [(0, .ref x0)] [.int s0] := by
  exact g_if_eq (tgt := 64) ok d_Pa_readQuery_33 (by decide) (fun z => (gg_keep [] (kt z))) (fun z => (kf z))
theorem k_Pa_readQuery_36 {X : gC} {M : List mC} {k n : Nat} {x0 : Nat} {fs2 : List Value} (ok : gO X c_Pa_readQuery "TripleStore$Parser" w_Pa_readQuery) (h1 : M[x0]? = some (.inr (1, fs2))) {rm : Room} {post : Option Value → List mC → Prop} (hm : mm_ (gLa X) y_Pa_readOrder w_Pa_readOrder rm [.ref x0] M post) (hR : gF X rm 1 k n) (hlen : ∀ r M', post r M' → M'.length = M.length) (kk : ∀ r M', post r M' → gg X M' (k + rm.cells) (n + rm.slots) 40 [(0, .ref x0)] (r.toList ++ [])) : gg X M k n 36 [(0, .ref x0)] [] := by
  refine g_aload_n ok d_Pa_readQuery_36 rfl (j := 0) rfl ?_
  exact gc_Pa_44 (As := []) (rest := []) ok d_Pa_readQuery_37 hm rfl rfl (Nat.le_of_ble_eq_true rfl) hR h1 hlen kk
theorem k_Pa_readQuery_40 {X : gC} {M : List mC} {k n : Nat} {x0 : Nat} {s0 : Int32} (ok : gO X c_Pa_readQuery "TripleStore$Parser" w_Pa_readQuery)  (kt : s0 = 0 → gg X M k n 64 [] []) (kf : ¬ s0 = 0 → gg X M k n 43 [(0, .ref x0)] []) : gg X M k n 40 [(0, .ref x0)] [.int s0] := by
  exact g_if_eq (tgt := 64) ok d_Pa_readQuery_40 (by decide) (fun z => (gg_keep [] (kt z))) (fun z => (kf z))
theorem k_Pa_readQuery_43 {X : gC} {M : List mC} {k n : Nat} {x0 : Nat} {fs2 : List Value} (ok : gO X c_Pa_readQuery "TripleStore$Parser" w_Pa_readQuery) (h1 : M[x0]? = some (.inr (1, fs2))) {rm : Room} {post : Option Value → List mC → Prop} (hm : mm_ (gLa X) y_Pa_readLimit w_Pa_readLimit rm [.ref x0] M post) (hR : gF X rm 3 k n) (hlen : ∀ r M', post r M' → M'.length = M.length) (kk : ∀ r M', post r M' → gg X M' (k + rm.cells) (n + rm.slots) 47 [(0, .ref x0)] (r.toList ++ [])) : gg X M k n 43 [(0, .ref x0)] [] := by
  refine g_aload_n ok d_Pa_readQuery_43 rfl (j := 0) rfl ?_
  exact gc_Pa_47 (As := []) (rest := []) ok d_Pa_readQuery_44 hm rfl rfl (Nat.le_of_ble_eq_true rfl) hR h1 hlen kk
theorem k_Pa_readQuery_47 {X : gC} {M : List mC} {k n : Nat} {x0 : Nat} {s0 : Int32} (ok : gO X c_Pa_readQuery "TripleStore$Parser" w_Pa_readQuery)  (kt : s0 = 0 → gg X M k n 64 [] []) (kf : ¬ s0 = 0 → gg X M k n 50 [(0, .ref x0)] []) : gg X M k n 47 [(0, .ref x0)] [.int s0] := by
  exact g_if_eq (tgt := 64) ok d_Pa_readQuery_47 (by decide) (fun z => (gg_keep [] (kt z))) (fun z => (kf z))
theorem k_Pa_readQuery_50 {X : gC} {M : List mC} {k n : Nat} {x0 : Nat} {fs2 : List Value} {f3 : Nat} {fs6 : List Value} (ok : gO X c_Pa_readQuery "TripleStore$Parser" w_Pa_readQuery) (h1 : M[x0]? = some (.inr (1, fs2))) (h4 : fs2[0]? = some (.ref f3)) (h5 : M[f3]? = some (.inr (7, fs6))) {rm : Room} {post : Option Value → List mC → Prop} (hm : mm_ (gLa X) y_To_kind w_To_kind rm [.ref f3] M post) (hR : gF X rm 1 k n) (hlen : ∀ r M', post r M' → M'.length = M.length) (kk : ∀ r M', post r M' → gg X M' (k + rm.cells) (n + rm.slots) 57 [] (r.toList ++ [])) : gg X M k n 50 [(0, .ref x0)] [] := by
  refine g_aload_n ok d_Pa_readQuery_50 rfl (j := 0) rfl ?_
  refine gf_Pa_15 ok d_Pa_readQuery_51 h1 h4 ?_
  exact gc_Pa_50 (As := []) (rest := []) ok d_Pa_readQuery_54 hm rfl rfl (Nat.le_of_ble_eq_true rfl) hR h5 hlen (fun r M' q => (gg_keep [] (kk r M' q)))
theorem k_Pa_readQuery_57 {X : gC} {M : List mC} {k n : Nat} {s0 : Int32} (ok : gO X c_Pa_readQuery "TripleStore$Parser" w_Pa_readQuery)  (kt : ¬ s0 = 0 → gg X M k n 64 [] []) (kf : s0 = 0 → gg X M k n 60 [] []) : gg X M k n 57 [] [.int s0] := by
  exact g_if_ne (tgt := 64) ok d_Pa_readQuery_57 (by decide) (fun z => (kt z)) (fun z => (kf z))
theorem k_Pa_readQuery_60 {X : gC} {M : List mC} {k n : Nat}  (ok : gO X c_Pa_readQuery "TripleStore$Parser" w_Pa_readQuery)  (kk : gg X M k n 65 [] [.int 1]) : gg X M k n 60 [] [] := by
  refine g_iconst (v := 1) ok d_Pa_readQuery_60 (by decide) ?_
  exact g_goto (tgt := 65) ok d_Pa_readQuery_61 (by decide) kk
theorem k_Pa_readQuery_64 {X : gC} {M : List mC} {k n : Nat}  (ok : gO X c_Pa_readQuery "TripleStore$Parser" w_Pa_readQuery)  (kk : gg X M k n 65 [] [.int 0]) : gg X M k n 64 [] [] := by
  refine g_iconst (v := 0) ok d_Pa_readQuery_64 (by decide) ?_
  exact kk
theorem k_Pa_readQuery_65 {X : gC} {M : List mC} {k n : Nat} {s0 : Int32} (ok : gO X c_Pa_readQuery "TripleStore$Parser" w_Pa_readQuery)  {l9 : Launch} {rm : Room} {M0 : List mC} {post : Option Value → List mC → Prop} (E : gE X l9 y_Pa_readQuery rm 1 (some .boolean) M0 post) (hz : narrow .boolean (.int s0) = .int s0) (hp : post (some (.int s0)) M) (hk : k ≤ rm.cells) (hn : n ≤ rm.slots) : gg X M k n 65 [] [.int s0] := by
  exact g_zret ok E d_Pa_readQuery_65 hz hp hk hn
theorem k_Pa_readSelected_0 {X : gC} {M : List mC} {k n : Nat} {x0 : Nat} {fs2 : List Value} {f3 : Nat} {f5 : Nat} {fs8 : List Value} (ok : gO X c_Pa_readSelected "TripleStore$Parser" w_Pa_readSelected) (h1 : M[x0]? = some (.inr (1, fs2))) (h4 : fs2[1]? = some (.ref f3)) (h6 : fs2[0]? = some (.ref f5)) (h7 : M[f5]? = some (.inr (7, fs8))) {rm : Room} {post : Option Value → List mC → Prop} (hm : mm_ (gLa X) y_To_takeKey w_To_takeKey rm [.ref f5, .long 7235441220169655156] M post) (hR : gF X rm 4 k n) (hlen : ∀ r M', post r M' → M'.length = M.length) (kk : ∀ r M', post r M' → gg X M' (k + rm.cells) (n + rm.slots) 14 [(0, .ref x0)] (r.toList ++ [.ref f3])) : gg X M k n 0 [(0, .ref x0)] [] := by
  refine g_aload_n ok d_Pa_readSelected_0 rfl (j := 0) rfl ?_
  refine gf_Pa_19 ok d_Pa_readSelected_1 h1 h4 ?_
  refine g_aload_n ok d_Pa_readSelected_4 rfl (j := 0) rfl ?_
  refine gf_Pa_15 ok d_Pa_readSelected_5 h1 h6 ?_
  refine g_ldc2 (v := 7235441220169655156) ok (List.mem_cons_of_mem _ (gT_at 652 (by decide +kernel) (by decide +kernel))) d_Pa_readSelected_8 ?_
  exact gc_Pa_32 (As := [.long 7235441220169655156]) (rest := [.ref f3]) ok d_Pa_readSelected_11 hm rfl rfl (Nat.le_of_ble_eq_true rfl) hR h7 hlen kk
theorem k_Pa_readSelected_14 {X : gC} {M : List mC} {k n : Nat} {x0 : Nat} {s0 : Nat} {s1 : Int32} {fs2 : List Value} {fs6 : List Value} {M8 : List mC} (ok : gO X c_Pa_readSelected "TripleStore$Parser" w_Pa_readSelected) (hl : gL X = 2) (h1 : M[s0]? = some (.inr (2, fs2))) (h4 : 12 ≤ fs2.length) (h5 : narrow .boolean (.int s1) = .int s1 ∧ fits .boolean (.int s1) = true) (h7 : fs2.set 4 (.int s1) = fs6) (h9 : M.set s0 (.inr (2, fs6)) = M8) (kk : gg X M8 k n 19 [(0, .ref x0), (1, .int 0)] []) : gg X M k n 14 [(0, .ref x0)] [.int s1, .ref s0] := by
  have h3 : 4 < fs2.length := Nat.lt_of_lt_of_le (by decide) h4
  refine pf_Pa_56 ok d_Pa_readSelected_14 h1 h3 (fun _ => h5) ?_
  rw [h7]
  rw [h9]
  have h10 : M8[s0]? = some (.inr (2, fs6)) := by rw [← h9]; exact gs_eq h1
  have h11 : fs6[4]? = some (.int s1) := by rw [← h7]; exact List.getElem?_set_self h3
  have h12 : 12 ≤ fs6.length := by rw [← h7, List.length_set]; exact h4
  refine g_iconst (v := 0) ok d_Pa_readSelected_17 (by decide) ?_
  refine g_istore_n (L' := [(0, .ref x0), (1, .int 0)]) ok d_Pa_readSelected_18 rfl (by rw [hl]; decide) rfl ?_
  exact kk
theorem k_Pa_readSelected_19 {X : gC} {M : List mC} {k n : Nat} {x0 : Nat} {x1 : Int32} (ok : gO X c_Pa_readSelected "TripleStore$Parser" w_Pa_readSelected)  (kt : 6 ≤ x1 → gg X M k n 79 [(0, .ref x0)] []) (kf : ¬ 6 ≤ x1 → gg X M k n 25 [(0, .ref x0), (1, .int x1)] []) : gg X M k n 19 [(0, .ref x0), (1, .int x1)] [] := by
  refine g_iload_n ok d_Pa_readSelected_19 rfl (j := 1) rfl ?_
  refine g_bipush (v := 6) ok d_Pa_readSelected_20 (by decide) ?_
  exact g_icmp_ge (tgt := 79) ok d_Pa_readSelected_22 (by decide) (fun z => (gg_keep [0] (kt z))) (fun z => (kf z))
theorem k_Pa_readSelected_25 {X : gC} {M : List mC} {k n : Nat} {x0 : Nat} {x1 : Int32} {fs2 : List Value} {f3 : Nat} {fs6 : List Value} (ok : gO X c_Pa_readSelected "TripleStore$Parser" w_Pa_readSelected) (h1 : M[x0]? = some (.inr (1, fs2))) (h4 : fs2[0]? = some (.ref f3)) (h5 : M[f3]? = some (.inr (7, fs6))) {rm : Room} {post : Option Value → List mC → Prop} (hm : mm_ (gLa X) y_To_kind w_To_kind rm [.ref f3] M post) (hR : gF X rm 1 k n) (hlen : ∀ r M', post r M' → M'.length = M.length) (kk : ∀ r M', post r M' → gg X M' (k + rm.cells) (n + rm.slots) 32 [(0, .ref x0), (1, .int x1)] (r.toList ++ [])) : gg X M k n 25 [(0, .ref x0), (1, .int x1)] [] := by
  refine g_aload_n ok d_Pa_readSelected_25 rfl (j := 0) rfl ?_
  refine gf_Pa_15 ok d_Pa_readSelected_26 h1 h4 ?_
  exact gc_Pa_50 (As := []) (rest := []) ok d_Pa_readSelected_29 hm rfl rfl (Nat.le_of_ble_eq_true rfl) hR h5 hlen kk
theorem k_Pa_readSelected_32 {X : gC} {M : List mC} {k n : Nat} {x0 : Nat} {x1 : Int32} {s0 : Int32} (ok : gO X c_Pa_readSelected "TripleStore$Parser" w_Pa_readSelected)  (kt : ¬ s0 = 5 → gg X M k n 79 [(0, .ref x0)] []) (kf : s0 = 5 → gg X M k n 36 [(0, .ref x0), (1, .int x1)] []) : gg X M k n 32 [(0, .ref x0), (1, .int x1)] [.int s0] := by
  refine g_iconst (v := 5) ok d_Pa_readSelected_32 (by decide) ?_
  exact g_icmp_ne (tgt := 79) ok d_Pa_readSelected_33 (by decide) (fun z => (gg_keep [0] (kt z))) (fun z => (kf z))
theorem k_Pa_readSelected_36 {X : gC} {M : List mC} {k n : Nat} {x0 : Nat} {x1 : Int32} {fs2 : List Value} (ok : gO X c_Pa_readSelected "TripleStore$Parser" w_Pa_readSelected) (h1 : M[x0]? = some (.inr (1, fs2))) {rm : Room} {post : Option Value → List mC → Prop} (hm : mm_ (gLa X) y_Pa_readVariable w_Pa_readVariable rm [.ref x0] M post) (hR : gF X rm 2 k n) (hlen : ∀ r M', post r M' → M'.length = M.length) (kk : ∀ r M', post r M' → gg X M' (k + rm.cells) (n + rm.slots) 40 [(0, .ref x0), (1, .int x1)] (r.toList ++ [])) : gg X M k n 36 [(0, .ref x0), (1, .int x1)] [] := by
  refine g_aload_n ok d_Pa_readSelected_36 rfl (j := 0) rfl ?_
  exact gc_Pa_60 (As := []) (rest := []) ok d_Pa_readSelected_37 hm rfl rfl (Nat.le_of_ble_eq_true rfl) hR h1 hlen kk
theorem k_Pa_readSelected_40 {X : gC} {M : List mC} {k n : Nat} {x0 : Nat} {x1 : Int32} {s0 : Int32} (ok : gO X c_Pa_readSelected "TripleStore$Parser" w_Pa_readSelected)  (kt : ¬ s0 = 0 → gg X M k n 45 [(0, .ref x0), (1, .int x1)] []) (kf : s0 = 0 → gg X M k n 43 [] []) : gg X M k n 40 [(0, .ref x0), (1, .int x1)] [.int s0] := by
  exact g_if_ne (tgt := 45) ok d_Pa_readSelected_40 (by decide) (fun z => (kt z)) (fun z => (gg_keep [] (kf z)))
theorem k_Pa_readSelected_43 {X : gC} {M : List mC} {k n : Nat}  (ok : gO X c_Pa_readSelected "TripleStore$Parser" w_Pa_readSelected)  {l9 : Launch} {rm : Room} {M0 : List mC} {post : Option Value → List mC → Prop} (E : gE X l9 y_Pa_readSelected rm 2 (some .boolean) M0 post) (hp : post (some (.int 0)) M) (hk : k ≤ rm.cells) (hn : n ≤ rm.slots) : gg X M k n 43 [] [] := by
  refine g_iconst (v := 0) ok d_Pa_readSelected_43 (by decide) ?_
  exact g_zret ok E d_Pa_readSelected_44 rfl hp hk hn
theorem k_Pa_readSelected_45 {X : gC} {M : List mC} {k n : Nat} {x0 : Nat} {x1 : Int32} {fs2 : List Value} {f3 : Nat} {fs6 : List Value} {f7 : Nat} {f9 : Int64} {g12 : Nat → Int32} {N13 : Nat} {M15 : List mC} {fs22 : List Value} {M24 : List mC} (ok : gO X c_Pa_readSelected "TripleStore$Parser" w_Pa_readSelected) (hl : gL X = 2) (h1 : M[x0]? = some (.inr (1, fs2))) (h4 : fs2[1]? = some (.ref f3)) (h5 : M[f3]? = some (.inr (2, fs6))) (h8 : fs6[2]? = some (.ref f7)) (h10 : fs2[2]? = some (.long f9)) (h11 : M[f7]? = some (.inl (0, N13, .inl g12))) (h14 : vp_in x1 N13) (h16 : M.set f7 (.inl (0, N13, .inl (upd g12 x1.toNatClampNeg (((f9 ^^^ (-1)) : Int64).toInt32)))) = M15) (h21 : 12 ≤ fs6.length) (h23 : fs6.set 3 (.int (x1 + 1)) = fs22) (h25 : M15.set f3 (.inr (2, fs22)) = M24) (kk : gg X M24 k n 19 [(0, .ref x0), (1, .int (x1 + 1))] []) : gg X M k n 45 [(0, .ref x0), (1, .int x1)] [] := by
  refine g_aload_n ok d_Pa_readSelected_45 rfl (j := 0) rfl ?_
  refine gf_Pa_19 ok d_Pa_readSelected_46 h1 h4 ?_
  refine gf_Pa_63 ok d_Pa_readSelected_49 h5 h8 ?_
  refine g_iload_n ok d_Pa_readSelected_52 rfl (j := 1) rfl ?_
  refine g_aload_n ok d_Pa_readSelected_53 rfl (j := 0) rfl ?_
  refine gf_Pa_9 ok d_Pa_readSelected_54 h1 h10 ?_
  refine g_ldc2 (v := (-1)) ok (List.mem_cons_of_mem _ (gT_at 670 (by decide +kernel) (by decide +kernel))) d_Pa_readSelected_57 ?_
  refine g_lxor ok d_Pa_readSelected_60 ?_
  refine g_l2i ok d_Pa_readSelected_61 ?_
  refine g_iast (t := 0) ok rfl d_Pa_readSelected_62 h11 h14 ?_
  rw [h16]
  have h17 : M15[f7]? = some (.inl (0, N13, .inl (upd g12 x1.toNatClampNeg (((f9 ^^^ (-1)) : Int64).toInt32)))) := by rw [← h16]; exact gs_eq h11
  refine g_aload_n ok d_Pa_readSelected_63 rfl (j := 0) rfl ?_
  have h18 : M15[x0]? = some (.inr (1, fs2)) := by rw [← h16]; exact (gs_ne (ne_ao h11 h1)).trans h1
  refine gf_Pa_19 ok d_Pa_readSelected_64 h18 h4 ?_
  refine g_iload_n ok d_Pa_readSelected_67 rfl (j := 1) rfl ?_
  refine g_iconst (v := 1) ok d_Pa_readSelected_68 (by decide) ?_
  refine g_iadd ok d_Pa_readSelected_69 ?_
  have h19 : M15[f3]? = some (.inr (2, fs6)) := by rw [← h16]; exact (gs_ne (ne_ao h11 h5)).trans h5
  have h20 : 3 < fs6.length := Nat.lt_of_lt_of_le (by decide) h21
  refine pf_Pa_69 ok d_Pa_readSelected_70 h19 h20 (fun _ => ⟨rfl, rfl⟩) ?_
  rw [h23]
  rw [h25]
  have h26 : M24[f3]? = some (.inr (2, fs22)) := by rw [← h25]; exact gs_eq h19
  have h27 : fs22[2]? = some (.ref f7) := by rw [← h23]; exact (List.getElem?_set_ne (by decide : 3 ≠ 2)).trans h8
  have h28 : fs22[3]? = some (.int (x1 + 1)) := by rw [← h23]; exact List.getElem?_set_self h20
  have h29 : 12 ≤ fs22.length := by rw [← h23, List.length_set]; exact h21
  refine g_iinc (L' := [(0, .ref x0), (1, .int (x1 + 1))]) (v := (x1 + 1)) ok d_Pa_readSelected_73 (j := 1) rfl rfl (by rw [hl]; decide) rfl ?_
  exact g_goto (tgt := 19) ok d_Pa_readSelected_76 (by decide) kk
theorem k_Pa_readSelected_79 {X : gC} {M : List mC} {k n : Nat} {x0 : Nat} {fs2 : List Value} {f3 : Nat} {fs6 : List Value} {f7 : Int32} (ok : gO X c_Pa_readSelected "TripleStore$Parser" w_Pa_readSelected) (h1 : M[x0]? = some (.inr (1, fs2))) (h4 : fs2[1]? = some (.ref f3)) (h5 : M[f3]? = some (.inr (2, fs6))) (h8 : fs6[3]? = some (.int f7)) (kt : f7 ≤ 0 → gg X M k n 93 [] []) (kf : ¬ f7 ≤ 0 → gg X M k n 89 [] []) : gg X M k n 79 [(0, .ref x0)] [] := by
  refine g_aload_n ok d_Pa_readSelected_79 rfl (j := 0) rfl ?_
  refine gf_Pa_19 ok d_Pa_readSelected_80 h1 h4 ?_
  refine gf_Pa_69 ok d_Pa_readSelected_83 h5 h8 ?_
  exact g_if_le (tgt := 93) ok d_Pa_readSelected_86 (by decide) (fun z => (gg_keep [] (kt z))) (fun z => (gg_keep [] (kf z)))
theorem k_Pa_readSelected_89 {X : gC} {M : List mC} {k n : Nat}  (ok : gO X c_Pa_readSelected "TripleStore$Parser" w_Pa_readSelected)  (kk : gg X M k n 94 [] [.int 1]) : gg X M k n 89 [] [] := by
  refine g_iconst (v := 1) ok d_Pa_readSelected_89 (by decide) ?_
  exact g_goto (tgt := 94) ok d_Pa_readSelected_90 (by decide) kk
theorem k_Pa_readSelected_93 {X : gC} {M : List mC} {k n : Nat}  (ok : gO X c_Pa_readSelected "TripleStore$Parser" w_Pa_readSelected)  (kk : gg X M k n 94 [] [.int 0]) : gg X M k n 93 [] [] := by
  refine g_iconst (v := 0) ok d_Pa_readSelected_93 (by decide) ?_
  exact kk
theorem k_Pa_readSelected_94 {X : gC} {M : List mC} {k n : Nat} {s0 : Int32} (ok : gO X c_Pa_readSelected "TripleStore$Parser" w_Pa_readSelected)  {l9 : Launch} {rm : Room} {M0 : List mC} {post : Option Value → List mC → Prop} (E : gE X l9 y_Pa_readSelected rm 2 (some .boolean) M0 post) (hz : narrow .boolean (.int s0) = .int s0) (hp : post (some (.int s0)) M) (hk : k ≤ rm.cells) (hn : n ≤ rm.slots) : gg X M k n 94 [] [.int s0] := by
  exact g_zret ok E d_Pa_readSelected_94 hz hp hk hn
theorem k_Pa_readOrder_0 {X : gC} {M : List mC} {k n : Nat} {x0 : Nat} {fs2 : List Value} {f3 : Nat} {fs6 : List Value} (ok : gO X c_Pa_readOrder "TripleStore$Parser" w_Pa_readOrder) (h1 : M[x0]? = some (.inr (1, fs2))) (h4 : fs2[0]? = some (.ref f3)) (h5 : M[f3]? = some (.inr (7, fs6))) {rm : Room} {post : Option Value → List mC → Prop} (hm : mm_ (gLa X) y_To_takeKey w_To_takeKey rm [.ref f3, .long 8030591472422092800] M post) (hR : gF X rm 4 k n) (hlen : ∀ r M', post r M' → M'.length = M.length) (kk : ∀ r M', post r M' → gg X M' (k + rm.cells) (n + rm.slots) 10 [(0, .ref x0)] (r.toList ++ [])) : gg X M k n 0 [(0, .ref x0)] [] := by
  refine g_aload_n ok d_Pa_readOrder_0 rfl (j := 0) rfl ?_
  refine gf_Pa_15 ok d_Pa_readOrder_1 h1 h4 ?_
  refine g_ldc2 (v := 8030591472422092800) ok (List.mem_cons_of_mem _ (gT_at 734 (by decide +kernel) (by decide +kernel))) d_Pa_readOrder_4 ?_
  exact gc_Pa_32 (As := [.long 8030591472422092800]) (rest := []) ok d_Pa_readOrder_7 hm rfl rfl (Nat.le_of_ble_eq_true rfl) hR h5 hlen kk
theorem k_Pa_readOrder_10 {X : gC} {M : List mC} {k n : Nat} {x0 : Nat} {s0 : Int32} (ok : gO X c_Pa_readOrder "TripleStore$Parser" w_Pa_readOrder)  (kt : ¬ s0 = 0 → gg X M k n 15 [(0, .ref x0)] []) (kf : s0 = 0 → gg X M k n 13 [] []) : gg X M k n 10 [(0, .ref x0)] [.int s0] := by
  exact g_if_ne (tgt := 15) ok d_Pa_readOrder_10 (by decide) (fun z => (kt z)) (fun z => (gg_keep [] (kf z)))
theorem k_Pa_readOrder_13 {X : gC} {M : List mC} {k n : Nat}  (ok : gO X c_Pa_readOrder "TripleStore$Parser" w_Pa_readOrder)  {l9 : Launch} {rm : Room} {M0 : List mC} {post : Option Value → List mC → Prop} (E : gE X l9 y_Pa_readOrder rm 1 (some .boolean) M0 post) (hp : post (some (.int 1)) M) (hk : k ≤ rm.cells) (hn : n ≤ rm.slots) : gg X M k n 13 [] [] := by
  refine g_iconst (v := 1) ok d_Pa_readOrder_13 (by decide) ?_
  exact g_zret ok E d_Pa_readOrder_14 rfl hp hk hn
theorem k_Pa_readOrder_15 {X : gC} {M : List mC} {k n : Nat} {x0 : Nat} {fs2 : List Value} (ok : gO X c_Pa_readOrder "TripleStore$Parser" w_Pa_readOrder) (h1 : M[x0]? = some (.inr (1, fs2))) {rm : Room} {post : Option Value → List mC → Prop} (hm : mm_ (gLa X) y_Pa_readVariable w_Pa_readVariable rm [.ref x0] M post) (hR : gF X rm 2 k n) (hlen : ∀ r M', post r M' → M'.length = M.length) (kk : ∀ r M', post r M' → gg X M' (k + rm.cells) (n + rm.slots) 19 [(0, .ref x0)] (r.toList ++ [])) : gg X M k n 15 [(0, .ref x0)] [] := by
  refine g_aload_n ok d_Pa_readOrder_15 rfl (j := 0) rfl ?_
  exact gc_Pa_60 (As := []) (rest := []) ok d_Pa_readOrder_16 hm rfl rfl (Nat.le_of_ble_eq_true rfl) hR h1 hlen kk
theorem k_Pa_readOrder_19 {X : gC} {M : List mC} {k n : Nat} {x0 : Nat} {s0 : Int32} (ok : gO X c_Pa_readOrder "TripleStore$Parser" w_Pa_readOrder)  (kt : ¬ s0 = 0 → gg X M k n 24 [(0, .ref x0)] []) (kf : s0 = 0 → gg X M k n 22 [] []) : gg X M k n 19 [(0, .ref x0)] [.int s0] := by
  exact g_if_ne (tgt := 24) ok d_Pa_readOrder_19 (by decide) (fun z => (kt z)) (fun z => (gg_keep [] (kf z)))
theorem k_Pa_readOrder_22 {X : gC} {M : List mC} {k n : Nat}  (ok : gO X c_Pa_readOrder "TripleStore$Parser" w_Pa_readOrder)  {l9 : Launch} {rm : Room} {M0 : List mC} {post : Option Value → List mC → Prop} (E : gE X l9 y_Pa_readOrder rm 1 (some .boolean) M0 post) (hp : post (some (.int 0)) M) (hk : k ≤ rm.cells) (hn : n ≤ rm.slots) : gg X M k n 22 [] [] := by
  refine g_iconst (v := 0) ok d_Pa_readOrder_22 (by decide) ?_
  exact g_zret ok E d_Pa_readOrder_23 rfl hp hk hn
theorem k_Pa_readOrder_24 {X : gC} {M : List mC} {k n : Nat} {x0 : Nat} {fs2 : List Value} {f3 : Nat} {f5 : Int64} {fs8 : List Value} {fs11 : List Value} {M13 : List mC} {f20 : Nat} {fs23 : List Value} (ok : gO X c_Pa_readOrder "TripleStore$Parser" w_Pa_readOrder) (h1 : M[x0]? = some (.inr (1, fs2))) (h4 : fs2[1]? = some (.ref f3)) (h6 : fs2[2]? = some (.long f5)) (h7 : M[f3]? = some (.inr (2, fs8))) (h10 : 12 ≤ fs8.length) (h12 : fs8.set 5 (.int (((f5 ^^^ (-1)) : Int64).toInt32)) = fs11) (h14 : M.set f3 (.inr (2, fs11)) = M13) (h19 : f3 ≠ x0) (h21 : fs2[0]? = some (.ref f20)) (h22 : M[f20]? = some (.inr (7, fs23))) (h25 : f20 ≠ f3) {rm : Room} {post : Option Value → List mC → Prop} (hm : mm_ (gLa X) y_To_takeKey w_To_takeKey rm [.ref f20, .long 7234315245479526400] M13 post) (hR : gF X rm 4 k n) (hlen : ∀ r M', post r M' → M'.length = M13.length) (kk : ∀ r M', post r M' → gg X M' (k + rm.cells) (n + rm.slots) 54 [] (r.toList ++ [.ref f3])) : gg X M k n 24 [(0, .ref x0)] [] := by
  refine g_aload_n ok d_Pa_readOrder_24 rfl (j := 0) rfl ?_
  refine gf_Pa_19 ok d_Pa_readOrder_25 h1 h4 ?_
  refine g_aload_n ok d_Pa_readOrder_28 rfl (j := 0) rfl ?_
  refine gf_Pa_9 ok d_Pa_readOrder_29 h1 h6 ?_
  refine g_ldc2 (v := (-1)) ok (List.mem_cons_of_mem _ (gT_at 670 (by decide +kernel) (by decide +kernel))) d_Pa_readOrder_32 ?_
  refine g_lxor ok d_Pa_readOrder_35 ?_
  refine g_l2i ok d_Pa_readOrder_36 ?_
  have h9 : 5 < fs8.length := Nat.lt_of_lt_of_le (by decide) h10
  refine pf_Pa_75 ok d_Pa_readOrder_37 h7 h9 (fun _ => ⟨rfl, rfl⟩) ?_
  rw [h12]
  rw [h14]
  have h15 : M13[f3]? = some (.inr (2, fs11)) := by rw [← h14]; exact gs_eq h7
  have h16 : fs11[5]? = some (.int (((f5 ^^^ (-1)) : Int64).toInt32)) := by rw [← h12]; exact List.getElem?_set_self h9
  have h17 : 12 ≤ fs11.length := by rw [← h12, List.length_set]; exact h10
  refine g_aload_n ok d_Pa_readOrder_40 rfl (j := 0) rfl ?_
  have h18 : M13[x0]? = some (.inr (1, fs2)) := by rw [← h14]; exact (gs_ne h19).trans h1
  refine gf_Pa_19 ok d_Pa_readOrder_41 h18 h4 ?_
  refine g_aload_n ok d_Pa_readOrder_44 rfl (j := 0) rfl ?_
  refine gf_Pa_15 ok d_Pa_readOrder_45 h18 h21 ?_
  refine g_ldc2 (v := 7234315245479526400) ok (List.mem_cons_of_mem _ (gT_at 735 (by decide +kernel) (by decide +kernel))) d_Pa_readOrder_48 ?_
  have h24 : M13[f20]? = some (.inr (7, fs23)) := by rw [← h14]; exact (gs_ne (Ne.symm h25)).trans h22
  exact gc_Pa_32 (As := [.long 7234315245479526400]) (rest := [.ref f3]) ok d_Pa_readOrder_51 hm rfl rfl (Nat.le_of_ble_eq_true rfl) hR h24 hlen (fun r M' q => (gg_keep [] (kk r M' q)))
theorem k_Pa_readOrder_54 {X : gC} {M : List mC} {k n : Nat} {s0 : Nat} {s1 : Int32} {fs2 : List Value} {fs6 : List Value} {M8 : List mC} (ok : gO X c_Pa_readOrder "TripleStore$Parser" w_Pa_readOrder) (h1 : M[s0]? = some (.inr (2, fs2))) (h4 : 12 ≤ fs2.length) (h5 : narrow .boolean (.int s1) = .int s1 ∧ fits .boolean (.int s1) = true) (h7 : fs2.set 6 (.int s1) = fs6) (h9 : M.set s0 (.inr (2, fs6)) = M8) {l9 : Launch} {rm : Room} {M0 : List mC} {post : Option Value → List mC → Prop} (E : gE X l9 y_Pa_readOrder rm 1 (some .boolean) M0 post) (hp : post (some (.int 1)) M8) (hk : k ≤ rm.cells) (hn : n ≤ rm.slots) : gg X M k n 54 [] [.int s1, .ref s0] := by
  have h3 : 6 < fs2.length := Nat.lt_of_lt_of_le (by decide) h4
  refine pf_Pa_80 ok d_Pa_readOrder_54 h1 h3 (fun _ => h5) ?_
  rw [h7]
  rw [h9]
  have h10 : M8[s0]? = some (.inr (2, fs6)) := by rw [← h9]; exact gs_eq h1
  have h11 : fs6[6]? = some (.int s1) := by rw [← h7]; exact List.getElem?_set_self h3
  have h12 : 12 ≤ fs6.length := by rw [← h7, List.length_set]; exact h4
  refine g_iconst (v := 1) ok d_Pa_readOrder_57 (by decide) ?_
  exact g_zret ok E d_Pa_readOrder_58 rfl hp hk hn
theorem k_Pa_readLimit_0 {X : gC} {M : List mC} {k n : Nat} {x0 : Nat} {fs2 : List Value} {f3 : Nat} {fs6 : List Value} (ok : gO X c_Pa_readLimit "TripleStore$Parser" w_Pa_readLimit) (h1 : M[x0]? = some (.inr (1, fs2))) (h4 : fs2[0]? = some (.ref f3)) (h5 : M[f3]? = some (.inr (7, fs6))) {rm : Room} {post : Option Value → List mC → Prop} (hm : mm_ (gLa X) y_To_takeKey w_To_takeKey rm [.ref f3, .long 7811895328335986688] M post) (hR : gF X rm 4 k n) (hlen : ∀ r M', post r M' → M'.length = M.length) (kk : ∀ r M', post r M' → gg X M' (k + rm.cells) (n + rm.slots) 10 [(0, .ref x0)] (r.toList ++ [])) : gg X M k n 0 [(0, .ref x0)] [] := by
  refine g_aload_n ok d_Pa_readLimit_0 rfl (j := 0) rfl ?_
  refine gf_Pa_15 ok d_Pa_readLimit_1 h1 h4 ?_
  refine g_ldc2 (v := 7811895328335986688) ok (List.mem_cons_of_mem _ (gT_at 740 (by decide +kernel) (by decide +kernel))) d_Pa_readLimit_4 ?_
  exact gc_Pa_32 (As := [.long 7811895328335986688]) (rest := []) ok d_Pa_readLimit_7 hm rfl rfl (Nat.le_of_ble_eq_true rfl) hR h5 hlen kk
theorem k_Pa_readLimit_10 {X : gC} {M : List mC} {k n : Nat} {x0 : Nat} {s0 : Int32} (ok : gO X c_Pa_readLimit "TripleStore$Parser" w_Pa_readLimit)  (kt : ¬ s0 = 0 → gg X M k n 15 [(0, .ref x0)] []) (kf : s0 = 0 → gg X M k n 13 [] []) : gg X M k n 10 [(0, .ref x0)] [.int s0] := by
  exact g_if_ne (tgt := 15) ok d_Pa_readLimit_10 (by decide) (fun z => (kt z)) (fun z => (gg_keep [] (kf z)))
theorem k_Pa_readLimit_13 {X : gC} {M : List mC} {k n : Nat}  (ok : gO X c_Pa_readLimit "TripleStore$Parser" w_Pa_readLimit)  {l9 : Launch} {rm : Room} {M0 : List mC} {post : Option Value → List mC → Prop} (E : gE X l9 y_Pa_readLimit rm 3 (some .boolean) M0 post) (hp : post (some (.int 1)) M) (hk : k ≤ rm.cells) (hn : n ≤ rm.slots) : gg X M k n 13 [] [] := by
  refine g_iconst (v := 1) ok d_Pa_readLimit_13 (by decide) ?_
  exact g_zret ok E d_Pa_readLimit_14 rfl hp hk hn
theorem k_Pa_readLimit_15 {X : gC} {M : List mC} {k n : Nat} {x0 : Nat} {fs2 : List Value} {f3 : Nat} {fs6 : List Value} (ok : gO X c_Pa_readLimit "TripleStore$Parser" w_Pa_readLimit) (h1 : M[x0]? = some (.inr (1, fs2))) (h4 : fs2[0]? = some (.ref f3)) (h5 : M[f3]? = some (.inr (7, fs6))) {rm : Room} {post : Option Value → List mC → Prop} (hm : mm_ (gLa X) y_To_value w_To_value rm [.ref f3] M post) (hR : gF X rm 1 k n) (hlen : ∀ r M', post r M' → M'.length = M.length) (kk : ∀ r M', post r M' → gg X M' (k + rm.cells) (n + rm.slots) 22 [(0, .ref x0)] (r.toList ++ [])) : gg X M k n 15 [(0, .ref x0)] [] := by
  refine g_aload_n ok d_Pa_readLimit_15 rfl (j := 0) rfl ?_
  refine gf_Pa_15 ok d_Pa_readLimit_16 h1 h4 ?_
  exact gc_Pa_85 (As := []) (rest := []) ok d_Pa_readLimit_19 hm rfl rfl (Nat.le_of_ble_eq_true rfl) hR h5 hlen kk
theorem k_Pa_readLimit_22 {X : gC} {M : List mC} {k n : Nat} {x0 : Nat} {s0 : Int64} {fs2 : List Value} {f3 : Nat} {fs6 : List Value} (ok : gO X c_Pa_readLimit "TripleStore$Parser" w_Pa_readLimit) (hl : gL X = 3) (h1 : M[x0]? = some (.inr (1, fs2))) (h4 : fs2[0]? = some (.ref f3)) (h5 : M[f3]? = some (.inr (7, fs6))) {rm : Room} {post : Option Value → List mC → Prop} (hm : mm_ (gLa X) y_To_kind w_To_kind rm [.ref f3] M post) (hR : gF X rm 1 k n) (hlen : ∀ r M', post r M' → M'.length = M.length) (kk : ∀ r M', post r M' → gg X M' (k + rm.cells) (n + rm.slots) 30 [(0, .ref x0), (1, .long s0)] (r.toList ++ [])) : gg X M k n 22 [(0, .ref x0)] [.long s0] := by
  refine g_lstore_n (L' := [(0, .ref x0), (1, .long s0)]) ok d_Pa_readLimit_22 rfl (by rw [hl]; decide) rfl ?_
  refine g_aload_n ok d_Pa_readLimit_23 rfl (j := 0) rfl ?_
  refine gf_Pa_15 ok d_Pa_readLimit_24 h1 h4 ?_
  exact gc_Pa_50 (As := []) (rest := []) ok d_Pa_readLimit_27 hm rfl rfl (Nat.le_of_ble_eq_true rfl) hR h5 hlen kk
theorem k_Pa_readLimit_30 {X : gC} {M : List mC} {k n : Nat} {x0 : Nat} {x1 : Int64} {s0 : Int32} (ok : gO X c_Pa_readLimit "TripleStore$Parser" w_Pa_readLimit)  (kt : ¬ s0 = 4 → gg X M k n 41 [] []) (kf : s0 = 4 → gg X M k n 34 [(0, .ref x0), (1, .long x1)] []) : gg X M k n 30 [(0, .ref x0), (1, .long x1)] [.int s0] := by
  refine g_iconst (v := 4) ok d_Pa_readLimit_30 (by decide) ?_
  exact g_icmp_ne (tgt := 41) ok d_Pa_readLimit_31 (by decide) (fun z => (gg_keep [] (kt z))) (fun z => (kf z))
theorem k_Pa_readLimit_34 {X : gC} {M : List mC} {k n : Nat} {x0 : Nat} {x1 : Int64} (ok : gO X c_Pa_readLimit "TripleStore$Parser" w_Pa_readLimit)  {rm : Room} {post : Option Value → List mC → Prop} (hm : mm_ (gLa X) y_Te_isHeldNumber w_Te_isHeldNumber rm [.long x1] M post) (hR : gF X rm 2 k n) (hlen : ∀ r M', post r M' → M'.length = M.length) (kk : ∀ r M', post r M' → gg X M' (k + rm.cells) (n + rm.slots) 38 [(0, .ref x0), (1, .long x1)] (r.toList ++ [])) : gg X M k n 34 [(0, .ref x0), (1, .long x1)] [] := by
  refine g_lload_n ok d_Pa_readLimit_34 rfl (j := 1) rfl ?_
  exact gc_Pa_89 (As := [.long x1]) (rest := []) ok d_Pa_readLimit_35 hm rfl rfl (Nat.le_of_ble_eq_true rfl) hR hlen kk
theorem k_Pa_readLimit_38 {X : gC} {M : List mC} {k n : Nat} {x0 : Nat} {x1 : Int64} {s0 : Int32} (ok : gO X c_Pa_readLimit "TripleStore$Parser" w_Pa_readLimit)  (kt : ¬ s0 = 0 → gg X M k n 43 [(0, .ref x0), (1, .long x1)] []) (kf : s0 = 0 → gg X M k n 41 [] []) : gg X M k n 38 [(0, .ref x0), (1, .long x1)] [.int s0] := by
  exact g_if_ne (tgt := 43) ok d_Pa_readLimit_38 (by decide) (fun z => (kt z)) (fun z => (gg_keep [] (kf z)))
theorem k_Pa_readLimit_41 {X : gC} {M : List mC} {k n : Nat}  (ok : gO X c_Pa_readLimit "TripleStore$Parser" w_Pa_readLimit)  {l9 : Launch} {rm : Room} {M0 : List mC} {post : Option Value → List mC → Prop} (E : gE X l9 y_Pa_readLimit rm 3 (some .boolean) M0 post) (hp : post (some (.int 0)) M) (hk : k ≤ rm.cells) (hn : n ≤ rm.slots) : gg X M k n 41 [] [] := by
  refine g_iconst (v := 0) ok d_Pa_readLimit_41 (by decide) ?_
  exact g_zret ok E d_Pa_readLimit_42 rfl hp hk hn
theorem k_Pa_readLimit_43 {X : gC} {M : List mC} {k n : Nat} {x0 : Nat} {x1 : Int64} {fs2 : List Value} {f3 : Nat} {fs6 : List Value} {fs9 : List Value} {M11 : List mC} {f18 : Nat} {fs21 : List Value} (ok : gO X c_Pa_readLimit "TripleStore$Parser" w_Pa_readLimit) (h1 : M[x0]? = some (.inr (1, fs2))) (h4 : fs2[1]? = some (.ref f3)) (h5 : M[f3]? = some (.inr (2, fs6))) (h8 : 12 ≤ fs6.length) (h10 : fs6.set 7 (.int (((x1 : Int64).toInt32) - 1)) = fs9) (h12 : M.set f3 (.inr (2, fs9)) = M11) (h17 : f3 ≠ x0) (h19 : fs2[0]? = some (.ref f18)) (h20 : M[f18]? = some (.inr (7, fs21))) (h23 : f18 ≠ f3) {rm : Room} {post : Option Value → List mC → Prop} (hm : mm_ (gLa X) y_To_step w_To_step rm [.ref f18] M11 post) (hR : gF X rm 1 k n) (hlen : ∀ r M', post r M' → M'.length = M11.length) (kk : ∀ r M', post r M' → gg X M' (k + rm.cells) (n + rm.slots) 61 [] (r.toList ++ [])) : gg X M k n 43 [(0, .ref x0), (1, .long x1)] [] := by
  refine g_aload_n ok d_Pa_readLimit_43 rfl (j := 0) rfl ?_
  refine gf_Pa_19 ok d_Pa_readLimit_44 h1 h4 ?_
  refine g_lload_n ok d_Pa_readLimit_47 rfl (j := 1) rfl ?_
  refine g_l2i ok d_Pa_readLimit_48 ?_
  refine g_iconst (v := 1) ok d_Pa_readLimit_49 (by decide) ?_
  refine g_isub ok d_Pa_readLimit_50 ?_
  have h7 : 7 < fs6.length := Nat.lt_of_lt_of_le (by decide) h8
  refine pf_Pa_94 ok d_Pa_readLimit_51 h5 h7 (fun _ => ⟨rfl, rfl⟩) ?_
  rw [h10]
  rw [h12]
  have h13 : M11[f3]? = some (.inr (2, fs9)) := by rw [← h12]; exact gs_eq h5
  have h14 : fs9[7]? = some (.int (((x1 : Int64).toInt32) - 1)) := by rw [← h10]; exact List.getElem?_set_self h7
  have h15 : 12 ≤ fs9.length := by rw [← h10, List.length_set]; exact h8
  refine g_aload_n ok d_Pa_readLimit_54 rfl (j := 0) rfl ?_
  have h16 : M11[x0]? = some (.inr (1, fs2)) := by rw [← h12]; exact (gs_ne h17).trans h1
  refine gf_Pa_15 ok d_Pa_readLimit_55 h16 h19 ?_
  have h22 : M11[f18]? = some (.inr (7, fs21)) := by rw [← h12]; exact (gs_ne (Ne.symm h23)).trans h20
  exact gc_Pa_97 (As := []) (rest := []) ok d_Pa_readLimit_58 hm rfl rfl (Nat.le_of_ble_eq_true rfl) hR h22 hlen (fun r M' q => (gg_keep [] (kk r M' q)))
theorem k_Pa_readLimit_61 {X : gC} {M : List mC} {k n : Nat}  (ok : gO X c_Pa_readLimit "TripleStore$Parser" w_Pa_readLimit)  {l9 : Launch} {rm : Room} {M0 : List mC} {post : Option Value → List mC → Prop} (E : gE X l9 y_Pa_readLimit rm 3 (some .boolean) M0 post) (hp : post (some (.int 1)) M) (hk : k ≤ rm.cells) (hn : n ≤ rm.slots) : gg X M k n 61 [] [] := by
  refine g_iconst (v := 1) ok d_Pa_readLimit_61 (by decide) ?_
  exact g_zret ok E d_Pa_readLimit_62 rfl hp hk hn
theorem k_Pa_readGroup_0 {X : gC} {M : List mC} {k n : Nat} {x0 : Nat} {x1 : Int32} {x2 : Int32} {fs2 : List Value} {f3 : Nat} {fs6 : List Value} (ok : gO X c_Pa_readGroup "TripleStore$Parser" w_Pa_readGroup) (h1 : M[x0]? = some (.inr (1, fs2))) (h4 : fs2[0]? = some (.ref f3)) (h5 : M[f3]? = some (.inr (7, fs6))) {rm : Room} {post : Option Value → List mC → Prop} (hm : mm_ (gLa X) y_To_isAtSign w_To_isAtSign rm [.ref f3, .int 123] M post) (hR : gF X rm 2 k n) (hlen : ∀ r M', post r M' → M'.length = M.length) (kk : ∀ r M', post r M' → gg X M' (k + rm.cells) (n + rm.slots) 9 [(0, .ref x0), (1, .int x1), (2, .int x2)] (r.toList ++ [])) : gg X M k n 0 [(0, .ref x0), (1, .int x1), (2, .int x2)] [] := by
  refine g_aload_n ok d_Pa_readGroup_0 rfl (j := 0) rfl ?_
  refine gf_Pa_15 ok d_Pa_readGroup_1 h1 h4 ?_
  refine g_bipush (v := 123) ok d_Pa_readGroup_4 (by decide) ?_
  exact gc_Pa_100 (As := [.int 123]) (rest := []) ok d_Pa_readGroup_6 hm rfl rfl (Nat.le_of_ble_eq_true rfl) hR h5 hlen kk
theorem k_Pa_readGroup_9 {X : gC} {M : List mC} {k n : Nat} {x0 : Nat} {x1 : Int32} {x2 : Int32} {s0 : Int32} (ok : gO X c_Pa_readGroup "TripleStore$Parser" w_Pa_readGroup)  (kt : s0 = 0 → gg X M k n 17 [] []) (kf : ¬ s0 = 0 → gg X M k n 12 [(0, .ref x0), (1, .int x1), (2, .int x2)] []) : gg X M k n 9 [(0, .ref x0), (1, .int x1), (2, .int x2)] [.int s0] := by
  exact g_if_eq (tgt := 17) ok d_Pa_readGroup_9 (by decide) (fun z => (gg_keep [] (kt z))) (fun z => (kf z))
theorem k_Pa_readGroup_12 {X : gC} {M : List mC} {k n : Nat} {x0 : Nat} {x1 : Int32} {x2 : Int32} (ok : gO X c_Pa_readGroup "TripleStore$Parser" w_Pa_readGroup)  (kt : x2 < 4 → gg X M k n 19 [(0, .ref x0), (1, .int x1), (2, .int x2)] []) (kf : ¬ x2 < 4 → gg X M k n 17 [] []) : gg X M k n 12 [(0, .ref x0), (1, .int x1), (2, .int x2)] [] := by
  refine g_iload_n ok d_Pa_readGroup_12 rfl (j := 2) rfl ?_
  refine g_iconst (v := 4) ok d_Pa_readGroup_13 (by decide) ?_
  exact g_icmp_lt (tgt := 19) ok d_Pa_readGroup_14 (by decide) (fun z => (kt z)) (fun z => (gg_keep [] (kf z)))
theorem k_Pa_readGroup_17 {X : gC} {M : List mC} {k n : Nat}  (ok : gO X c_Pa_readGroup "TripleStore$Parser" w_Pa_readGroup)  {l9 : Launch} {rm : Room} {M0 : List mC} {post : Option Value → List mC → Prop} (E : gE X l9 y_Pa_readGroup rm 5 (some .boolean) M0 post) (hp : post (some (.int 0)) M) (hk : k ≤ rm.cells) (hn : n ≤ rm.slots) : gg X M k n 17 [] [] := by
  refine g_iconst (v := 0) ok d_Pa_readGroup_17 (by decide) ?_
  exact g_zret ok E d_Pa_readGroup_18 rfl hp hk hn
theorem k_Pa_readGroup_19 {X : gC} {M : List mC} {k n : Nat} {x0 : Nat} {x1 : Int32} {x2 : Int32} {fs2 : List Value} {f3 : Nat} {fs6 : List Value} (ok : gO X c_Pa_readGroup "TripleStore$Parser" w_Pa_readGroup) (h1 : M[x0]? = some (.inr (1, fs2))) (h4 : fs2[1]? = some (.ref f3)) (h5 : M[f3]? = some (.inr (2, fs6))) {rm : Room} {post : Option Value → List mC → Prop} (hm : mm_ (gLa X) y_Qu_newGroup w_Qu_newGroup rm [.ref f3, .int x1] M post) (hR : gF X rm 2 k n) (hlen : ∀ r M', post r M' → M'.length = M.length) (kk : ∀ r M', post r M' → gg X M' (k + rm.cells) (n + rm.slots) 27 [(0, .ref x0), (2, .int x2)] (r.toList ++ [])) : gg X M k n 19 [(0, .ref x0), (1, .int x1), (2, .int x2)] [] := by
  refine g_aload_n ok d_Pa_readGroup_19 rfl (j := 0) rfl ?_
  refine gf_Pa_19 ok d_Pa_readGroup_20 h1 h4 ?_
  refine g_iload_n ok d_Pa_readGroup_23 rfl (j := 1) rfl ?_
  exact gc_Pa_104 (As := [.int x1]) (rest := []) ok d_Pa_readGroup_24 hm rfl rfl (Nat.le_of_ble_eq_true rfl) hR h5 hlen (fun r M' q => (gg_keep [0, 2] (kk r M' q)))
theorem k_Pa_readGroup_27 {X : gC} {M : List mC} {k n : Nat} {x0 : Nat} {x2 : Int32} {s0 : Int32} (ok : gO X c_Pa_readGroup "TripleStore$Parser" w_Pa_readGroup) (hl : gL X = 5)  (kt : ¬ s0 = (-1) → gg X M k n 35 [(0, .ref x0), (2, .int x2), (3, .int s0)] []) (kf : s0 = (-1) → gg X M k n 33 [] []) : gg X M k n 27 [(0, .ref x0), (2, .int x2)] [.int s0] := by
  refine g_istore_n (L' := [(0, .ref x0), (2, .int x2), (3, .int s0)]) ok d_Pa_readGroup_27 rfl (by rw [hl]; decide) rfl ?_
  refine g_iload_n ok d_Pa_readGroup_28 rfl (j := 2) rfl ?_
  refine g_iconst (v := (-1)) ok d_Pa_readGroup_29 (by decide) ?_
  exact g_icmp_ne (tgt := 35) ok d_Pa_readGroup_30 (by decide) (fun z => (kt z)) (fun z => (gg_keep [] (kf z)))
theorem k_Pa_readGroup_33 {X : gC} {M : List mC} {k n : Nat}  (ok : gO X c_Pa_readGroup "TripleStore$Parser" w_Pa_readGroup)  {l9 : Launch} {rm : Room} {M0 : List mC} {post : Option Value → List mC → Prop} (E : gE X l9 y_Pa_readGroup rm 5 (some .boolean) M0 post) (hp : post (some (.int 0)) M) (hk : k ≤ rm.cells) (hn : n ≤ rm.slots) : gg X M k n 33 [] [] := by
  refine g_iconst (v := 0) ok d_Pa_readGroup_33 (by decide) ?_
  exact g_zret ok E d_Pa_readGroup_34 rfl hp hk hn
theorem k_Pa_readGroup_35 {X : gC} {M : List mC} {k n : Nat} {x0 : Nat} {x2 : Int32} {x3 : Int32} {fs2 : List Value} {f3 : Nat} {fs6 : List Value} (ok : gO X c_Pa_readGroup "TripleStore$Parser" w_Pa_readGroup) (h1 : M[x0]? = some (.inr (1, fs2))) (h4 : fs2[0]? = some (.ref f3)) (h5 : M[f3]? = some (.inr (7, fs6))) {rm : Room} {post : Option Value → List mC → Prop} (hm : mm_ (gLa X) y_To_step w_To_step rm [.ref f3] M post) (hR : gF X rm 1 k n) (hlen : ∀ r M', post r M' → M'.length = M.length) (kk : ∀ r M', post r M' → gg X M' (k + rm.cells) (n + rm.slots) 42 [(0, .ref x0), (2, .int x2), (3, .int x3)] (r.toList ++ [])) : gg X M k n 35 [(0, .ref x0), (2, .int x2), (3, .int x3)] [] := by
  refine g_aload_n ok d_Pa_readGroup_35 rfl (j := 0) rfl ?_
  refine gf_Pa_15 ok d_Pa_readGroup_36 h1 h4 ?_
  exact gc_Pa_97 (As := []) (rest := []) ok d_Pa_readGroup_39 hm rfl rfl (Nat.le_of_ble_eq_true rfl) hR h5 hlen kk
theorem k_Pa_readGroup_42 {X : gC} {M : List mC} {k n : Nat} {x0 : Nat} {x2 : Int32} {x3 : Int32} {fs2 : List Value} {f3 : Nat} {fs6 : List Value} (ok : gO X c_Pa_readGroup "TripleStore$Parser" w_Pa_readGroup) (h1 : M[x0]? = some (.inr (1, fs2))) (h4 : fs2[0]? = some (.ref f3)) (h5 : M[f3]? = some (.inr (7, fs6))) {rm : Room} {post : Option Value → List mC → Prop} (hm : mm_ (gLa X) y_To_takeSign w_To_takeSign rm [.ref f3, .int 125] M post) (hR : gF X rm 3 k n) (hlen : ∀ r M', post r M' → M'.length = M.length) (kk : ∀ r M', post r M' → gg X M' (k + rm.cells) (n + rm.slots) 51 [(0, .ref x0), (2, .int x2), (3, .int x3)] (r.toList ++ [])) : gg X M k n 42 [(0, .ref x0), (2, .int x2), (3, .int x3)] [] := by
  refine g_aload_n ok d_Pa_readGroup_42 rfl (j := 0) rfl ?_
  refine gf_Pa_15 ok d_Pa_readGroup_43 h1 h4 ?_
  refine g_bipush (v := 125) ok d_Pa_readGroup_46 (by decide) ?_
  exact gc_Pa_108 (As := [.int 125]) (rest := []) ok d_Pa_readGroup_48 hm rfl rfl (Nat.le_of_ble_eq_true rfl) hR h5 hlen kk
theorem k_Pa_readGroup_51 {X : gC} {M : List mC} {k n : Nat} {x0 : Nat} {x2 : Int32} {x3 : Int32} {s0 : Int32} (ok : gO X c_Pa_readGroup "TripleStore$Parser" w_Pa_readGroup)  (kt : s0 = 0 → gg X M k n 56 [(0, .ref x0), (2, .int x2), (3, .int x3)] []) (kf : ¬ s0 = 0 → gg X M k n 54 [] []) : gg X M k n 51 [(0, .ref x0), (2, .int x2), (3, .int x3)] [.int s0] := by
  exact g_if_eq (tgt := 56) ok d_Pa_readGroup_51 (by decide) (fun z => (kt z)) (fun z => (gg_keep [] (kf z)))
theorem k_Pa_readGroup_54 {X : gC} {M : List mC} {k n : Nat}  (ok : gO X c_Pa_readGroup "TripleStore$Parser" w_Pa_readGroup)  {l9 : Launch} {rm : Room} {M0 : List mC} {post : Option Value → List mC → Prop} (E : gE X l9 y_Pa_readGroup rm 5 (some .boolean) M0 post) (hp : post (some (.int 1)) M) (hk : k ≤ rm.cells) (hn : n ≤ rm.slots) : gg X M k n 54 [] [] := by
  refine g_iconst (v := 1) ok d_Pa_readGroup_54 (by decide) ?_
  exact g_zret ok E d_Pa_readGroup_55 rfl hp hk hn
theorem k_Pa_readGroup_56 {X : gC} {M : List mC} {k n : Nat} {x0 : Nat} {x2 : Int32} {x3 : Int32} (ok : gO X c_Pa_readGroup "TripleStore$Parser" w_Pa_readGroup) (hl : gL X = 5)  (kk : gg X M k n 59 [(0, .ref x0), (2, .int x2), (3, .int x3), (4, .int 0)] []) : gg X M k n 56 [(0, .ref x0), (2, .int x2), (3, .int x3)] [] := by
  refine g_iconst (v := 0) ok d_Pa_readGroup_56 (by decide) ?_
  refine g_istore (L' := [(0, .ref x0), (2, .int x2), (3, .int x3), (4, .int 0)]) ok d_Pa_readGroup_57 (by rw [hl]; decide) rfl ?_
  exact kk
theorem k_Pa_readGroup_59 {X : gC} {M : List mC} {k n : Nat} {x0 : Nat} {x2 : Int32} {x3 : Int32} {x4 : Int32} (ok : gO X c_Pa_readGroup "TripleStore$Parser" w_Pa_readGroup)  (kt : 12 ≤ x4 → gg X M k n 105 [] []) (kf : ¬ 12 ≤ x4 → gg X M k n 66 [(0, .ref x0), (2, .int x2), (3, .int x3), (4, .int x4)] []) : gg X M k n 59 [(0, .ref x0), (2, .int x2), (3, .int x3), (4, .int x4)] [] := by
  refine g_iload ok d_Pa_readGroup_59 (j := 3) rfl ?_
  refine g_bipush (v := 12) ok d_Pa_readGroup_61 (by decide) ?_
  exact g_icmp_ge (tgt := 105) ok d_Pa_readGroup_63 (by decide) (fun z => (gg_keep [] (kt z))) (fun z => (kf z))
theorem k_Pa_readGroup_66 {X : gC} {M : List mC} {k n : Nat} {x0 : Nat} {x2 : Int32} {x3 : Int32} {x4 : Int32} {fs2 : List Value} (ok : gO X c_Pa_readGroup "TripleStore$Parser" w_Pa_readGroup) (h1 : M[x0]? = some (.inr (1, fs2))) {rm : Room} {post : Option Value → List mC → Prop} (hm : mm_ (gLa X) y_Pa_readElement w_Pa_readElement rm [.ref x0, .int x3, .int x2] M post) (hR : gF X rm 5 k n) (hlen : ∀ r M', post r M' → M'.length = M.length) (kk : ∀ r M', post r M' → gg X M' (k + rm.cells) (n + rm.slots) 72 [(0, .ref x0), (2, .int x2), (3, .int x3), (4, .int x4)] (r.toList ++ [])) : gg X M k n 66 [(0, .ref x0), (2, .int x2), (3, .int x3), (4, .int x4)] [] := by
  refine g_aload_n ok d_Pa_readGroup_66 rfl (j := 0) rfl ?_
  refine g_iload_n ok d_Pa_readGroup_67 rfl (j := 2) rfl ?_
  refine g_iload_n ok d_Pa_readGroup_68 rfl (j := 1) rfl ?_
  exact gc_Pa_111 (As := [.int x3, .int x2]) (rest := []) ok d_Pa_readGroup_69 hm rfl rfl (Nat.le_of_ble_eq_true rfl) hR h1 hlen kk
theorem k_Pa_readGroup_72 {X : gC} {M : List mC} {k n : Nat} {x0 : Nat} {x2 : Int32} {x3 : Int32} {x4 : Int32} {s0 : Int32} (ok : gO X c_Pa_readGroup "TripleStore$Parser" w_Pa_readGroup)  (kt : ¬ s0 = 0 → gg X M k n 77 [(0, .ref x0), (2, .int x2), (3, .int x3), (4, .int x4)] []) (kf : s0 = 0 → gg X M k n 75 [] []) : gg X M k n 72 [(0, .ref x0), (2, .int x2), (3, .int x3), (4, .int x4)] [.int s0] := by
  exact g_if_ne (tgt := 77) ok d_Pa_readGroup_72 (by decide) (fun z => (kt z)) (fun z => (gg_keep [] (kf z)))
theorem k_Pa_readGroup_75 {X : gC} {M : List mC} {k n : Nat}  (ok : gO X c_Pa_readGroup "TripleStore$Parser" w_Pa_readGroup)  {l9 : Launch} {rm : Room} {M0 : List mC} {post : Option Value → List mC → Prop} (E : gE X l9 y_Pa_readGroup rm 5 (some .boolean) M0 post) (hp : post (some (.int 0)) M) (hk : k ≤ rm.cells) (hn : n ≤ rm.slots) : gg X M k n 75 [] [] := by
  refine g_iconst (v := 0) ok d_Pa_readGroup_75 (by decide) ?_
  exact g_zret ok E d_Pa_readGroup_76 rfl hp hk hn
theorem k_Pa_readGroup_77 {X : gC} {M : List mC} {k n : Nat} {x0 : Nat} {x2 : Int32} {x3 : Int32} {x4 : Int32} {fs2 : List Value} {f3 : Nat} {fs6 : List Value} (ok : gO X c_Pa_readGroup "TripleStore$Parser" w_Pa_readGroup) (h1 : M[x0]? = some (.inr (1, fs2))) (h4 : fs2[0]? = some (.ref f3)) (h5 : M[f3]? = some (.inr (7, fs6))) {rm : Room} {post : Option Value → List mC → Prop} (hm : mm_ (gLa X) y_To_takeSign w_To_takeSign rm [.ref f3, .int 46] M post) (hR : gF X rm 3 k n) (hlen : ∀ r M', post r M' → M'.length = M.length) (kk : ∀ r M', post r M' → gg X M' (k + rm.cells) (n + rm.slots) 86 [(0, .ref x0), (2, .int x2), (3, .int x3), (4, .int x4)] (r.toList ++ [])) : gg X M k n 77 [(0, .ref x0), (2, .int x2), (3, .int x3), (4, .int x4)] [] := by
  refine g_aload_n ok d_Pa_readGroup_77 rfl (j := 0) rfl ?_
  refine gf_Pa_15 ok d_Pa_readGroup_78 h1 h4 ?_
  refine g_bipush (v := 46) ok d_Pa_readGroup_81 (by decide) ?_
  exact gc_Pa_108 (As := [.int 46]) (rest := []) ok d_Pa_readGroup_83 hm rfl rfl (Nat.le_of_ble_eq_true rfl) hR h5 hlen kk
theorem k_Pa_readGroup_86 {X : gC} {M : List mC} {k n : Nat} {x0 : Nat} {x2 : Int32} {x3 : Int32} {x4 : Int32} {s0 : Int32} (ok : gO X c_Pa_readGroup "TripleStore$Parser" w_Pa_readGroup)  (kt : ¬ s0 = 0 → gg X M k n 99 [(0, .ref x0), (2, .int x2), (3, .int x3), (4, .int x4)] []) (kf : s0 = 0 → gg X M k n 89 [(0, .ref x0)] []) : gg X M k n 86 [(0, .ref x0), (2, .int x2), (3, .int x3), (4, .int x4)] [.int s0] := by
  exact g_if_ne (tgt := 99) ok d_Pa_readGroup_86 (by decide) (fun z => (kt z)) (fun z => (gg_keep [0] (kf z)))
theorem k_Pa_readGroup_89 {X : gC} {M : List mC} {k n : Nat} {x0 : Nat} {fs2 : List Value} {f3 : Nat} {fs6 : List Value} (ok : gO X c_Pa_readGroup "TripleStore$Parser" w_Pa_readGroup) (h1 : M[x0]? = some (.inr (1, fs2))) (h4 : fs2[0]? = some (.ref f3)) (h5 : M[f3]? = some (.inr (7, fs6))) {rm : Room} {post : Option Value → List mC → Prop} (hm : mm_ (gLa X) y_To_takeSign w_To_takeSign rm [.ref f3, .int 125] M post) (hR : gF X rm 3 k n) (hlen : ∀ r M', post r M' → M'.length = M.length) (kk : ∀ r M', post r M' → gg X M' (k + rm.cells) (n + rm.slots) 98 [] (r.toList ++ [])) : gg X M k n 89 [(0, .ref x0)] [] := by
  refine g_aload_n ok d_Pa_readGroup_89 rfl (j := 0) rfl ?_
  refine gf_Pa_15 ok d_Pa_readGroup_90 h1 h4 ?_
  refine g_bipush (v := 125) ok d_Pa_readGroup_93 (by decide) ?_
  exact gc_Pa_108 (As := [.int 125]) (rest := []) ok d_Pa_readGroup_95 hm rfl rfl (Nat.le_of_ble_eq_true rfl) hR h5 hlen (fun r M' q => (gg_keep [] (kk r M' q)))
theorem k_Pa_readGroup_98 {X : gC} {M : List mC} {k n : Nat} {s0 : Int32} (ok : gO X c_Pa_readGroup "TripleStore$Parser" w_Pa_readGroup)  {l9 : Launch} {rm : Room} {M0 : List mC} {post : Option Value → List mC → Prop} (E : gE X l9 y_Pa_readGroup rm 5 (some .boolean) M0 post) (hz : narrow .boolean (.int s0) = .int s0) (hp : post (some (.int s0)) M) (hk : k ≤ rm.cells) (hn : n ≤ rm.slots) : gg X M k n 98 [] [.int s0] := by
  exact g_zret ok E d_Pa_readGroup_98 hz hp hk hn
theorem k_Pa_readGroup_99 {X : gC} {M : List mC} {k n : Nat} {x0 : Nat} {x2 : Int32} {x3 : Int32} {x4 : Int32} (ok : gO X c_Pa_readGroup "TripleStore$Parser" w_Pa_readGroup) (hl : gL X = 5)  (kk : gg X M k n 59 [(0, .ref x0), (2, .int x2), (3, .int x3), (4, .int (x4 + 1))] []) : gg X M k n 99 [(0, .ref x0), (2, .int x2), (3, .int x3), (4, .int x4)] [] := by
  refine g_iinc (L' := [(0, .ref x0), (2, .int x2), (3, .int x3), (4, .int (x4 + 1))]) (v := (x4 + 1)) ok d_Pa_readGroup_99 (j := 3) rfl rfl (by rw [hl]; decide) rfl ?_
  exact g_goto (tgt := 59) ok d_Pa_readGroup_102 (by decide) kk
theorem k_Pa_readGroup_105 {X : gC} {M : List mC} {k n : Nat}  (ok : gO X c_Pa_readGroup "TripleStore$Parser" w_Pa_readGroup)  {l9 : Launch} {rm : Room} {M0 : List mC} {post : Option Value → List mC → Prop} (E : gE X l9 y_Pa_readGroup rm 5 (some .boolean) M0 post) (hp : post (some (.int 0)) M) (hk : k ≤ rm.cells) (hn : n ≤ rm.slots) : gg X M k n 105 [] [] := by
  refine g_iconst (v := 0) ok d_Pa_readGroup_105 (by decide) ?_
  exact g_zret ok E d_Pa_readGroup_106 rfl hp hk hn
theorem k_Pa_readElement_0 {X : gC} {M : List mC} {k n : Nat} {x0 : Nat} {x1 : Int32} {x2 : Int32} {fs2 : List Value} {f3 : Nat} {fs6 : List Value} (ok : gO X c_Pa_readElement "TripleStore$Parser" w_Pa_readElement) (h1 : M[x0]? = some (.inr (1, fs2))) (h4 : fs2[1]? = some (.ref f3)) (h5 : M[f3]? = some (.inr (2, fs6))) {rm : Room} {post : Option Value → List mC → Prop} (hm : mm_ (gLa X) y_Qu_newElement w_Qu_newElement rm [.ref f3, .int x1] M post) (hR : gF X rm 2 k n) (hlen : ∀ r M', post r M' → M'.length = M.length) (kk : ∀ r M', post r M' → gg X M' (k + rm.cells) (n + rm.slots) 8 [(0, .ref x0), (2, .int x2)] (r.toList ++ [])) : gg X M k n 0 [(0, .ref x0), (1, .int x1), (2, .int x2)] [] := by
  refine g_aload_n ok d_Pa_readElement_0 rfl (j := 0) rfl ?_
  refine gf_Pa_19 ok d_Pa_readElement_1 h1 h4 ?_
  refine g_iload_n ok d_Pa_readElement_4 rfl (j := 1) rfl ?_
  exact gc_Pa_114 (As := [.int x1]) (rest := []) ok d_Pa_readElement_5 hm rfl rfl (Nat.le_of_ble_eq_true rfl) hR h5 hlen (fun r M' q => (gg_keep [0, 2] (kk r M' q)))
theorem k_Pa_readElement_8 {X : gC} {M : List mC} {k n : Nat} {x0 : Nat} {x2 : Int32} {s0 : Int32} (ok : gO X c_Pa_readElement "TripleStore$Parser" w_Pa_readElement) (hl : gL X = 5)  (kt : ¬ s0 = (-1) → gg X M k n 16 [(0, .ref x0), (2, .int x2), (3, .int s0)] []) (kf : s0 = (-1) → gg X M k n 14 [] []) : gg X M k n 8 [(0, .ref x0), (2, .int x2)] [.int s0] := by
  refine g_istore_n (L' := [(0, .ref x0), (2, .int x2), (3, .int s0)]) ok d_Pa_readElement_8 rfl (by rw [hl]; decide) rfl ?_
  refine g_iload_n ok d_Pa_readElement_9 rfl (j := 2) rfl ?_
  refine g_iconst (v := (-1)) ok d_Pa_readElement_10 (by decide) ?_
  exact g_icmp_ne (tgt := 16) ok d_Pa_readElement_11 (by decide) (fun z => (kt z)) (fun z => (gg_keep [] (kf z)))
theorem k_Pa_readElement_14 {X : gC} {M : List mC} {k n : Nat}  (ok : gO X c_Pa_readElement "TripleStore$Parser" w_Pa_readElement)  {l9 : Launch} {rm : Room} {M0 : List mC} {post : Option Value → List mC → Prop} (E : gE X l9 y_Pa_readElement rm 5 (some .boolean) M0 post) (hp : post (some (.int 0)) M) (hk : k ≤ rm.cells) (hn : n ≤ rm.slots) : gg X M k n 14 [] [] := by
  refine g_iconst (v := 0) ok d_Pa_readElement_14 (by decide) ?_
  exact g_zret ok E d_Pa_readElement_15 rfl hp hk hn
theorem k_Pa_readElement_16 {X : gC} {M : List mC} {k n : Nat} {x0 : Nat} {x2 : Int32} {x3 : Int32} {fs2 : List Value} {f3 : Nat} {fs6 : List Value} {f7 : Nat} {g10 : Nat → Option Nat} {N11 : Nat} {o13 : Nat} {f15 : Nat} {fs18 : List Value} (ok : gO X c_Pa_readElement "TripleStore$Parser" w_Pa_readElement) (hl : gL X = 5) (h1 : M[x0]? = some (.inr (1, fs2))) (h4 : fs2[1]? = some (.ref f3)) (h5 : M[f3]? = some (.inr (2, fs6))) (h8 : fs6[8]? = some (.ref f7)) (h9 : M[f7]? = some (.inl (4, N11, .inr (.inr (.inr (.inr g10)))))) (h12 : vp_in x3 N11) (h14 : g10 x3.toNatClampNeg = some o13) (h16 : fs2[0]? = some (.ref f15)) (h17 : M[f15]? = some (.inr (7, fs18))) {rm : Room} {post : Option Value → List mC → Prop} (hm : mm_ (gLa X) y_To_takeKey w_To_takeKey rm [.ref f15, .long 7379548711597244416] M post) (hR : gF X rm 4 k n) (hlen : ∀ r M', post r M' → M'.length = M.length) (kk : ∀ r M', post r M' → gg X M' (k + rm.cells) (n + rm.slots) 37 [(0, .ref x0), (2, .int x2), (3, .int x3), (4, .ref o13)] (r.toList ++ [])) : gg X M k n 16 [(0, .ref x0), (2, .int x2), (3, .int x3)] [] := by
  refine g_aload_n ok d_Pa_readElement_16 rfl (j := 0) rfl ?_
  refine gf_Pa_19 ok d_Pa_readElement_17 h1 h4 ?_
  refine gf_Pa_117 ok d_Pa_readElement_20 h5 h8 ?_
  refine g_iload_n ok d_Pa_readElement_23 rfl (j := 2) rfl ?_
  refine g_aald (t := 4) ok rfl d_Pa_readElement_24 h9 h12 h14 ?_
  refine g_astore (L' := [(0, .ref x0), (2, .int x2), (3, .int x3), (4, .ref o13)]) ok d_Pa_readElement_25 (by rw [hl]; decide) rfl ?_
  refine g_aload_n ok d_Pa_readElement_27 rfl (j := 0) rfl ?_
  refine gf_Pa_15 ok d_Pa_readElement_28 h1 h16 ?_
  refine g_ldc2 (v := 7379548711597244416) ok (List.mem_cons_of_mem _ (gT_at 696 (by decide +kernel) (by decide +kernel))) d_Pa_readElement_31 ?_
  exact gc_Pa_32 (As := [.long 7379548711597244416]) (rest := []) ok d_Pa_readElement_34 hm rfl rfl (Nat.le_of_ble_eq_true rfl) hR h17 hlen kk
theorem k_Pa_readElement_37 {X : gC} {M : List mC} {k n : Nat} {x0 : Nat} {x2 : Int32} {x3 : Int32} {x4 : Nat} {s0 : Int32} (ok : gO X c_Pa_readElement "TripleStore$Parser" w_Pa_readElement)  (kt : s0 = 0 → gg X M k n 81 [(0, .ref x0), (2, .int x2), (3, .int x3), (4, .ref x4)] []) (kf : ¬ s0 = 0 → gg X M k n 40 [(0, .ref x0), (4, .ref x4)] []) : gg X M k n 37 [(0, .ref x0), (2, .int x2), (3, .int x3), (4, .ref x4)] [.int s0] := by
  exact g_if_eq (tgt := 81) ok d_Pa_readElement_37 (by decide) (fun z => (kt z)) (fun z => (gg_keep [0, 4] (kf z)))
theorem k_Pa_readElement_40 {X : gC} {M : List mC} {k n : Nat} {x0 : Nat} {x4 : Nat} {fs2 : List Value} {fs5 : List Value} {M7 : List mC} {fs13 : List Value} (ok : gO X c_Pa_readElement "TripleStore$Parser" w_Pa_readElement) (h1 : M[x4]? = some (.inr (0, fs2))) (h4 : 7 ≤ fs2.length) (h6 : fs2.set 0 (.int 1) = fs5) (h8 : M.set x4 (.inr (0, fs5)) = M7) (h12 : M[x0]? = some (.inr (1, fs13))) (h15 : x0 ≠ x4) {rm : Room} {post : Option Value → List mC → Prop} (hm : mm_ (gLa X) y_Pa_readNots w_Pa_readNots rm [.ref x0, .ref x4] M7 post) (hR : gF X rm 3 k n) (hlen : ∀ r M', post r M' → M'.length = M7.length) (kk : ∀ r M', post r M' → gg X M' (k + rm.cells) (n + rm.slots) 52 [(0, .ref x0), (4, .ref x4)] (r.toList ++ [])) : gg X M k n 40 [(0, .ref x0), (4, .ref x4)] [] := by
  refine g_aload ok d_Pa_readElement_40 (j := 1) rfl ?_
  refine g_iconst (v := 1) ok d_Pa_readElement_42 (by decide) ?_
  have h3 : 0 < fs2.length := Nat.lt_of_lt_of_le (by decide) h4
  refine pf_Pa_125 ok d_Pa_readElement_43 h1 h3 (fun _ => ⟨rfl, rfl⟩) ?_
  rw [h6]
  rw [h8]
  have h9 : M7[x4]? = some (.inr (0, fs5)) := by rw [← h8]; exact gs_eq h1
  have h10 : fs5[0]? = some (.int 1) := by rw [← h6]; exact List.getElem?_set_self h3
  have h11 : 7 ≤ fs5.length := by rw [← h6, List.length_set]; exact h4
  refine g_aload_n ok d_Pa_readElement_46 rfl (j := 0) rfl ?_
  refine g_aload ok d_Pa_readElement_47 (j := 1) rfl ?_
  have h14 : M7[x0]? = some (.inr (1, fs13)) := by rw [← h8]; exact (gs_ne (Ne.symm h15)).trans h12
  exact gc_Pa_127 (As := [.ref x4]) (rest := []) ok d_Pa_readElement_49 hm rfl rfl (Nat.le_of_ble_eq_true rfl) hR h14 hlen kk
theorem k_Pa_readElement_52 {X : gC} {M : List mC} {k n : Nat} {x0 : Nat} {x4 : Nat} {fs2 : List Value} {f3 : Nat} {fs6 : List Value} (ok : gO X c_Pa_readElement "TripleStore$Parser" w_Pa_readElement) (h1 : M[x0]? = some (.inr (1, fs2))) (h4 : fs2[0]? = some (.ref f3)) (h5 : M[f3]? = some (.inr (7, fs6))) {rm : Room} {post : Option Value → List mC → Prop} (hm : mm_ (gLa X) y_To_takeKey w_To_takeKey rm [.ref f3, .long 7093017055116394496] M post) (hR : gF X rm 4 k n) (hlen : ∀ r M', post r M' → M'.length = M.length) (kk : ∀ r M', post r M' → gg X M' (k + rm.cells) (n + rm.slots) 62 [(0, .ref x0), (4, .ref x4)] (r.toList ++ [])) : gg X M k n 52 [(0, .ref x0), (4, .ref x4)] [] := by
  refine g_aload_n ok d_Pa_readElement_52 rfl (j := 0) rfl ?_
  refine gf_Pa_15 ok d_Pa_readElement_53 h1 h4 ?_
  refine g_ldc2 (v := 7093017055116394496) ok (List.mem_cons_of_mem _ (gT_at 702 (by decide +kernel) (by decide +kernel))) d_Pa_readElement_56 ?_
  exact gc_Pa_32 (As := [.long 7093017055116394496]) (rest := []) ok d_Pa_readElement_59 hm rfl rfl (Nat.le_of_ble_eq_true rfl) hR h5 hlen kk
theorem k_Pa_readElement_62 {X : gC} {M : List mC} {k n : Nat} {x0 : Nat} {x4 : Nat} {s0 : Int32} (ok : gO X c_Pa_readElement "TripleStore$Parser" w_Pa_readElement)  (kt : s0 = 0 → gg X M k n 74 [(0, .ref x0), (4, .ref x4)] []) (kf : ¬ s0 = 0 → gg X M k n 65 [(0, .ref x0), (4, .ref x4)] []) : gg X M k n 62 [(0, .ref x0), (4, .ref x4)] [.int s0] := by
  exact g_if_eq (tgt := 74) ok d_Pa_readElement_62 (by decide) (fun z => (kt z)) (fun z => (kf z))
theorem k_Pa_readElement_65 {X : gC} {M : List mC} {k n : Nat} {x0 : Nat} {x4 : Nat} {fs2 : List Value} (ok : gO X c_Pa_readElement "TripleStore$Parser" w_Pa_readElement) (h1 : M[x0]? = some (.inr (1, fs2))) {rm : Room} {post : Option Value → List mC → Prop} (hm : mm_ (gLa X) y_Pa_readBound w_Pa_readBound rm [.ref x0, .ref x4] M post) (hR : gF X rm 3 k n) (hlen : ∀ r M', post r M' → M'.length = M.length) (kk : ∀ r M', post r M' → gg X M' (k + rm.cells) (n + rm.slots) 71 [] (r.toList ++ [])) : gg X M k n 65 [(0, .ref x0), (4, .ref x4)] [] := by
  refine g_aload_n ok d_Pa_readElement_65 rfl (j := 0) rfl ?_
  refine g_aload ok d_Pa_readElement_66 (j := 1) rfl ?_
  exact gc_Pa_133 (As := [.ref x4]) (rest := []) ok d_Pa_readElement_68 hm rfl rfl (Nat.le_of_ble_eq_true rfl) hR h1 hlen (fun r M' q => (gg_keep [] (kk r M' q)))
theorem k_Pa_readElement_71 {X : gC} {M : List mC} {k n : Nat} {s0 : Int32} (ok : gO X c_Pa_readElement "TripleStore$Parser" w_Pa_readElement)  (kk : gg X M k n 80 [] [.int s0]) : gg X M k n 71 [] [.int s0] := by
  exact g_goto (tgt := 80) ok d_Pa_readElement_71 (by decide) kk
theorem k_Pa_readElement_74 {X : gC} {M : List mC} {k n : Nat} {x0 : Nat} {x4 : Nat} {fs2 : List Value} (ok : gO X c_Pa_readElement "TripleStore$Parser" w_Pa_readElement) (h1 : M[x0]? = some (.inr (1, fs2))) {rm : Room} {post : Option Value → List mC → Prop} (hm : mm_ (gLa X) y_Pa_readComparison w_Pa_readComparison rm [.ref x0, .ref x4] M post) (hR : gF X rm 3 k n) (hlen : ∀ r M', post r M' → M'.length = M.length) (kk : ∀ r M', post r M' → gg X M' (k + rm.cells) (n + rm.slots) 80 [] (r.toList ++ [])) : gg X M k n 74 [(0, .ref x0), (4, .ref x4)] [] := by
  refine g_aload_n ok d_Pa_readElement_74 rfl (j := 0) rfl ?_
  refine g_aload ok d_Pa_readElement_75 (j := 1) rfl ?_
  exact gc_Pa_137 (As := [.ref x4]) (rest := []) ok d_Pa_readElement_77 hm rfl rfl (Nat.le_of_ble_eq_true rfl) hR h1 hlen (fun r M' q => (gg_keep [] (kk r M' q)))
theorem k_Pa_readElement_80 {X : gC} {M : List mC} {k n : Nat} {s0 : Int32} (ok : gO X c_Pa_readElement "TripleStore$Parser" w_Pa_readElement)  {l9 : Launch} {rm : Room} {M0 : List mC} {post : Option Value → List mC → Prop} (E : gE X l9 y_Pa_readElement rm 5 (some .boolean) M0 post) (hz : narrow .boolean (.int s0) = .int s0) (hp : post (some (.int s0)) M) (hk : k ≤ rm.cells) (hn : n ≤ rm.slots) : gg X M k n 80 [] [.int s0] := by
  exact g_zret ok E d_Pa_readElement_80 hz hp hk hn
theorem k_Pa_readElement_81 {X : gC} {M : List mC} {k n : Nat} {x0 : Nat} {x2 : Int32} {x3 : Int32} {x4 : Nat} {fs2 : List Value} {f3 : Nat} {fs6 : List Value} (ok : gO X c_Pa_readElement "TripleStore$Parser" w_Pa_readElement) (h1 : M[x0]? = some (.inr (1, fs2))) (h4 : fs2[0]? = some (.ref f3)) (h5 : M[f3]? = some (.inr (7, fs6))) {rm : Room} {post : Option Value → List mC → Prop} (hm : mm_ (gLa X) y_To_takeKey w_To_takeKey rm [.ref f3, .long 8030046131791487340] M post) (hR : gF X rm 4 k n) (hlen : ∀ r M', post r M' → M'.length = M.length) (kk : ∀ r M', post r M' → gg X M' (k + rm.cells) (n + rm.slots) 91 [(0, .ref x0), (2, .int x2), (3, .int x3), (4, .ref x4)] (r.toList ++ [])) : gg X M k n 81 [(0, .ref x0), (2, .int x2), (3, .int x3), (4, .ref x4)] [] := by
  refine g_aload_n ok d_Pa_readElement_81 rfl (j := 0) rfl ?_
  refine gf_Pa_15 ok d_Pa_readElement_82 h1 h4 ?_
  refine g_ldc2 (v := 8030046131791487340) ok (List.mem_cons_of_mem _ (gT_at 719 (by decide +kernel) (by decide +kernel))) d_Pa_readElement_85 ?_
  exact gc_Pa_32 (As := [.long 8030046131791487340]) (rest := []) ok d_Pa_readElement_88 hm rfl rfl (Nat.le_of_ble_eq_true rfl) hR h5 hlen kk
theorem k_Pa_readElement_91 {X : gC} {M : List mC} {k n : Nat} {x0 : Nat} {x2 : Int32} {x3 : Int32} {x4 : Nat} {s0 : Int32} (ok : gO X c_Pa_readElement "TripleStore$Parser" w_Pa_readElement)  (kt : s0 = 0 → gg X M k n 109 [(0, .ref x0), (2, .int x2), (3, .int x3), (4, .ref x4)] []) (kf : ¬ s0 = 0 → gg X M k n 94 [(0, .ref x0), (2, .int x2), (3, .int x3), (4, .ref x4)] []) : gg X M k n 91 [(0, .ref x0), (2, .int x2), (3, .int x3), (4, .ref x4)] [.int s0] := by
  exact g_if_eq (tgt := 109) ok d_Pa_readElement_91 (by decide) (fun z => (kt z)) (fun z => (kf z))
theorem k_Pa_readElement_94 {X : gC} {M : List mC} {k n : Nat} {x0 : Nat} {x2 : Int32} {x3 : Int32} {x4 : Nat} {fs2 : List Value} {fs5 : List Value} {M7 : List mC} {fs13 : List Value} (ok : gO X c_Pa_readElement "TripleStore$Parser" w_Pa_readElement) (h1 : M[x4]? = some (.inr (0, fs2))) (h4 : 7 ≤ fs2.length) (h6 : fs2.set 0 (.int 2) = fs5) (h8 : M.set x4 (.inr (0, fs5)) = M7) (h12 : M[x0]? = some (.inr (1, fs13))) (h15 : x0 ≠ x4) {rm : Room} {post : Option Value → List mC → Prop} (hm : mm_ (gLa X) y_Pa_readGroup w_Pa_readGroup rm [.ref x0, .int x3, .int (x2 + 1)] M7 post) (hR : gF X rm 5 k n) (hlen : ∀ r M', post r M' → M'.length = M7.length) (kk : ∀ r M', post r M' → gg X M' (k + rm.cells) (n + rm.slots) 108 [] (r.toList ++ [])) : gg X M k n 94 [(0, .ref x0), (2, .int x2), (3, .int x3), (4, .ref x4)] [] := by
  refine g_aload ok d_Pa_readElement_94 (j := 3) rfl ?_
  refine g_iconst (v := 2) ok d_Pa_readElement_96 (by decide) ?_
  have h3 : 0 < fs2.length := Nat.lt_of_lt_of_le (by decide) h4
  refine pf_Pa_125 ok d_Pa_readElement_97 h1 h3 (fun _ => ⟨rfl, rfl⟩) ?_
  rw [h6]
  rw [h8]
  have h9 : M7[x4]? = some (.inr (0, fs5)) := by rw [← h8]; exact gs_eq h1
  have h10 : fs5[0]? = some (.int 2) := by rw [← h6]; exact List.getElem?_set_self h3
  have h11 : 7 ≤ fs5.length := by rw [← h6, List.length_set]; exact h4
  refine g_aload_n ok d_Pa_readElement_100 rfl (j := 0) rfl ?_
  refine g_iload_n ok d_Pa_readElement_101 rfl (j := 2) rfl ?_
  refine g_iload_n ok d_Pa_readElement_102 rfl (j := 1) rfl ?_
  refine g_iconst (v := 1) ok d_Pa_readElement_103 (by decide) ?_
  refine g_iadd ok d_Pa_readElement_104 ?_
  have h14 : M7[x0]? = some (.inr (1, fs13)) := by rw [← h8]; exact (gs_ne (Ne.symm h15)).trans h12
  exact gc_Pa_40 (As := [.int x3, .int (x2 + 1)]) (rest := []) ok d_Pa_readElement_105 hm rfl rfl (Nat.le_of_ble_eq_true rfl) hR h14 hlen (fun r M' q => (gg_keep [] (kk r M' q)))
theorem k_Pa_readElement_108 {X : gC} {M : List mC} {k n : Nat} {s0 : Int32} (ok : gO X c_Pa_readElement "TripleStore$Parser" w_Pa_readElement)  {l9 : Launch} {rm : Room} {M0 : List mC} {post : Option Value → List mC → Prop} (E : gE X l9 y_Pa_readElement rm 5 (some .boolean) M0 post) (hz : narrow .boolean (.int s0) = .int s0) (hp : post (some (.int s0)) M) (hk : k ≤ rm.cells) (hn : n ≤ rm.slots) : gg X M k n 108 [] [.int s0] := by
  exact g_zret ok E d_Pa_readElement_108 hz hp hk hn
theorem k_Pa_readElement_109 {X : gC} {M : List mC} {k n : Nat} {x0 : Nat} {x2 : Int32} {x3 : Int32} {x4 : Nat} {fs2 : List Value} {f3 : Nat} {fs6 : List Value} (ok : gO X c_Pa_readElement "TripleStore$Parser" w_Pa_readElement) (h1 : M[x0]? = some (.inr (1, fs2))) (h4 : fs2[0]? = some (.ref f3)) (h5 : M[f3]? = some (.inr (7, fs6))) {rm : Room} {post : Option Value → List mC → Prop} (hm : mm_ (gLa X) y_To_takeKey w_To_takeKey rm [.ref f3, .long 7883954073408372736] M post) (hR : gF X rm 4 k n) (hlen : ∀ r M', post r M' → M'.length = M.length) (kk : ∀ r M', post r M' → gg X M' (k + rm.cells) (n + rm.slots) 119 [(0, .ref x0), (2, .int x2), (3, .int x3), (4, .ref x4)] (r.toList ++ [])) : gg X M k n 109 [(0, .ref x0), (2, .int x2), (3, .int x3), (4, .ref x4)] [] := by
  refine g_aload_n ok d_Pa_readElement_109 rfl (j := 0) rfl ?_
  refine gf_Pa_15 ok d_Pa_readElement_110 h1 h4 ?_
  refine g_ldc2 (v := 7883954073408372736) ok (List.mem_cons_of_mem _ (gT_at 720 (by decide +kernel) (by decide +kernel))) d_Pa_readElement_113 ?_
  exact gc_Pa_32 (As := [.long 7883954073408372736]) (rest := []) ok d_Pa_readElement_116 hm rfl rfl (Nat.le_of_ble_eq_true rfl) hR h5 hlen kk
theorem k_Pa_readElement_119 {X : gC} {M : List mC} {k n : Nat} {x0 : Nat} {x2 : Int32} {x3 : Int32} {x4 : Nat} {s0 : Int32} (ok : gO X c_Pa_readElement "TripleStore$Parser" w_Pa_readElement)  (kt : s0 = 0 → gg X M k n 137 [(0, .ref x0), (2, .int x2), (3, .int x3), (4, .ref x4)] []) (kf : ¬ s0 = 0 → gg X M k n 122 [(0, .ref x0), (2, .int x2), (3, .int x3), (4, .ref x4)] []) : gg X M k n 119 [(0, .ref x0), (2, .int x2), (3, .int x3), (4, .ref x4)] [.int s0] := by
  exact g_if_eq (tgt := 137) ok d_Pa_readElement_119 (by decide) (fun z => (kt z)) (fun z => (kf z))
theorem k_Pa_readElement_122 {X : gC} {M : List mC} {k n : Nat} {x0 : Nat} {x2 : Int32} {x3 : Int32} {x4 : Nat} {fs2 : List Value} {fs5 : List Value} {M7 : List mC} {fs13 : List Value} (ok : gO X c_Pa_readElement "TripleStore$Parser" w_Pa_readElement) (h1 : M[x4]? = some (.inr (0, fs2))) (h4 : 7 ≤ fs2.length) (h6 : fs2.set 0 (.int 3) = fs5) (h8 : M.set x4 (.inr (0, fs5)) = M7) (h12 : M[x0]? = some (.inr (1, fs13))) (h15 : x0 ≠ x4) {rm : Room} {post : Option Value → List mC → Prop} (hm : mm_ (gLa X) y_Pa_readGroup w_Pa_readGroup rm [.ref x0, .int x3, .int (x2 + 1)] M7 post) (hR : gF X rm 5 k n) (hlen : ∀ r M', post r M' → M'.length = M7.length) (kk : ∀ r M', post r M' → gg X M' (k + rm.cells) (n + rm.slots) 136 [] (r.toList ++ [])) : gg X M k n 122 [(0, .ref x0), (2, .int x2), (3, .int x3), (4, .ref x4)] [] := by
  refine g_aload ok d_Pa_readElement_122 (j := 3) rfl ?_
  refine g_iconst (v := 3) ok d_Pa_readElement_124 (by decide) ?_
  have h3 : 0 < fs2.length := Nat.lt_of_lt_of_le (by decide) h4
  refine pf_Pa_125 ok d_Pa_readElement_125 h1 h3 (fun _ => ⟨rfl, rfl⟩) ?_
  rw [h6]
  rw [h8]
  have h9 : M7[x4]? = some (.inr (0, fs5)) := by rw [← h8]; exact gs_eq h1
  have h10 : fs5[0]? = some (.int 3) := by rw [← h6]; exact List.getElem?_set_self h3
  have h11 : 7 ≤ fs5.length := by rw [← h6, List.length_set]; exact h4
  refine g_aload_n ok d_Pa_readElement_128 rfl (j := 0) rfl ?_
  refine g_iload_n ok d_Pa_readElement_129 rfl (j := 2) rfl ?_
  refine g_iload_n ok d_Pa_readElement_130 rfl (j := 1) rfl ?_
  refine g_iconst (v := 1) ok d_Pa_readElement_131 (by decide) ?_
  refine g_iadd ok d_Pa_readElement_132 ?_
  have h14 : M7[x0]? = some (.inr (1, fs13)) := by rw [← h8]; exact (gs_ne (Ne.symm h15)).trans h12
  exact gc_Pa_40 (As := [.int x3, .int (x2 + 1)]) (rest := []) ok d_Pa_readElement_133 hm rfl rfl (Nat.le_of_ble_eq_true rfl) hR h14 hlen (fun r M' q => (gg_keep [] (kk r M' q)))
theorem k_Pa_readElement_136 {X : gC} {M : List mC} {k n : Nat} {s0 : Int32} (ok : gO X c_Pa_readElement "TripleStore$Parser" w_Pa_readElement)  {l9 : Launch} {rm : Room} {M0 : List mC} {post : Option Value → List mC → Prop} (E : gE X l9 y_Pa_readElement rm 5 (some .boolean) M0 post) (hz : narrow .boolean (.int s0) = .int s0) (hp : post (some (.int s0)) M) (hk : k ≤ rm.cells) (hn : n ≤ rm.slots) : gg X M k n 136 [] [.int s0] := by
  exact g_zret ok E d_Pa_readElement_136 hz hp hk hn
theorem k_Pa_readElement_137 {X : gC} {M : List mC} {k n : Nat} {x0 : Nat} {x2 : Int32} {x3 : Int32} {x4 : Nat} {fs2 : List Value} {f3 : Nat} {fs6 : List Value} (ok : gO X c_Pa_readElement "TripleStore$Parser" w_Pa_readElement) (h1 : M[x0]? = some (.inr (1, fs2))) (h4 : fs2[0]? = some (.ref f3)) (h5 : M[f3]? = some (.inr (7, fs6))) {rm : Room} {post : Option Value → List mC → Prop} (hm : mm_ (gLa X) y_To_isAtSign w_To_isAtSign rm [.ref f3, .int 123] M post) (hR : gF X rm 2 k n) (hlen : ∀ r M', post r M' → M'.length = M.length) (kk : ∀ r M', post r M' → gg X M' (k + rm.cells) (n + rm.slots) 146 [(0, .ref x0), (2, .int x2), (3, .int x3), (4, .ref x4)] (r.toList ++ [])) : gg X M k n 137 [(0, .ref x0), (2, .int x2), (3, .int x3), (4, .ref x4)] [] := by
  refine g_aload_n ok d_Pa_readElement_137 rfl (j := 0) rfl ?_
  refine gf_Pa_15 ok d_Pa_readElement_138 h1 h4 ?_
  refine g_bipush (v := 123) ok d_Pa_readElement_141 (by decide) ?_
  exact gc_Pa_100 (As := [.int 123]) (rest := []) ok d_Pa_readElement_143 hm rfl rfl (Nat.le_of_ble_eq_true rfl) hR h5 hlen kk
theorem k_Pa_readElement_146 {X : gC} {M : List mC} {k n : Nat} {x0 : Nat} {x2 : Int32} {x3 : Int32} {x4 : Nat} {s0 : Int32} (ok : gO X c_Pa_readElement "TripleStore$Parser" w_Pa_readElement)  (kt : s0 = 0 → gg X M k n 164 [(0, .ref x0), (4, .ref x4)] []) (kf : ¬ s0 = 0 → gg X M k n 149 [(0, .ref x0), (2, .int x2), (3, .int x3), (4, .ref x4)] []) : gg X M k n 146 [(0, .ref x0), (2, .int x2), (3, .int x3), (4, .ref x4)] [.int s0] := by
  exact g_if_eq (tgt := 164) ok d_Pa_readElement_146 (by decide) (fun z => (gg_keep [0, 4] (kt z))) (fun z => (kf z))
theorem k_Pa_readElement_149 {X : gC} {M : List mC} {k n : Nat} {x0 : Nat} {x2 : Int32} {x3 : Int32} {x4 : Nat} {fs2 : List Value} {fs5 : List Value} {M7 : List mC} {fs13 : List Value} (ok : gO X c_Pa_readElement "TripleStore$Parser" w_Pa_readElement) (h1 : M[x4]? = some (.inr (0, fs2))) (h4 : 7 ≤ fs2.length) (h6 : fs2.set 0 (.int 4) = fs5) (h8 : M.set x4 (.inr (0, fs5)) = M7) (h12 : M[x0]? = some (.inr (1, fs13))) (h15 : x0 ≠ x4) {rm : Room} {post : Option Value → List mC → Prop} (hm : mm_ (gLa X) y_Pa_readUnion w_Pa_readUnion rm [.ref x0, .int x3, .int (x2 + 1)] M7 post) (hR : gF X rm 4 k n) (hlen : ∀ r M', post r M' → M'.length = M7.length) (kk : ∀ r M', post r M' → gg X M' (k + rm.cells) (n + rm.slots) 163 [] (r.toList ++ [])) : gg X M k n 149 [(0, .ref x0), (2, .int x2), (3, .int x3), (4, .ref x4)] [] := by
  refine g_aload ok d_Pa_readElement_149 (j := 3) rfl ?_
  refine g_iconst (v := 4) ok d_Pa_readElement_151 (by decide) ?_
  have h3 : 0 < fs2.length := Nat.lt_of_lt_of_le (by decide) h4
  refine pf_Pa_125 ok d_Pa_readElement_152 h1 h3 (fun _ => ⟨rfl, rfl⟩) ?_
  rw [h6]
  rw [h8]
  have h9 : M7[x4]? = some (.inr (0, fs5)) := by rw [← h8]; exact gs_eq h1
  have h10 : fs5[0]? = some (.int 4) := by rw [← h6]; exact List.getElem?_set_self h3
  have h11 : 7 ≤ fs5.length := by rw [← h6, List.length_set]; exact h4
  refine g_aload_n ok d_Pa_readElement_155 rfl (j := 0) rfl ?_
  refine g_iload_n ok d_Pa_readElement_156 rfl (j := 2) rfl ?_
  refine g_iload_n ok d_Pa_readElement_157 rfl (j := 1) rfl ?_
  refine g_iconst (v := 1) ok d_Pa_readElement_158 (by decide) ?_
  refine g_iadd ok d_Pa_readElement_159 ?_
  have h14 : M7[x0]? = some (.inr (1, fs13)) := by rw [← h8]; exact (gs_ne (Ne.symm h15)).trans h12
  exact gc_Pa_144 (As := [.int x3, .int (x2 + 1)]) (rest := []) ok d_Pa_readElement_160 hm rfl rfl (Nat.le_of_ble_eq_true rfl) hR h14 hlen (fun r M' q => (gg_keep [] (kk r M' q)))
theorem k_Pa_readElement_163 {X : gC} {M : List mC} {k n : Nat} {s0 : Int32} (ok : gO X c_Pa_readElement "TripleStore$Parser" w_Pa_readElement)  {l9 : Launch} {rm : Room} {M0 : List mC} {post : Option Value → List mC → Prop} (E : gE X l9 y_Pa_readElement rm 5 (some .boolean) M0 post) (hz : narrow .boolean (.int s0) = .int s0) (hp : post (some (.int s0)) M) (hk : k ≤ rm.cells) (hn : n ≤ rm.slots) : gg X M k n 163 [] [.int s0] := by
  exact g_zret ok E d_Pa_readElement_163 hz hp hk hn
theorem k_Pa_readElement_164 {X : gC} {M : List mC} {k n : Nat} {x0 : Nat} {x4 : Nat} {fs2 : List Value} {fs5 : List Value} {M7 : List mC} {fs13 : List Value} (ok : gO X c_Pa_readElement "TripleStore$Parser" w_Pa_readElement) (h1 : M[x4]? = some (.inr (0, fs2))) (h4 : 7 ≤ fs2.length) (h6 : fs2.set 0 (.int 0) = fs5) (h8 : M.set x4 (.inr (0, fs5)) = M7) (h12 : M[x0]? = some (.inr (1, fs13))) (h15 : x0 ≠ x4) {rm : Room} {post : Option Value → List mC → Prop} (hm : mm_ (gLa X) y_Pa_readPattern w_Pa_readPattern rm [.ref x0, .ref x4] M7 post) (hR : gF X rm 2 k n) (hlen : ∀ r M', post r M' → M'.length = M7.length) (kk : ∀ r M', post r M' → gg X M' (k + rm.cells) (n + rm.slots) 176 [] (r.toList ++ [])) : gg X M k n 164 [(0, .ref x0), (4, .ref x4)] [] := by
  refine g_aload ok d_Pa_readElement_164 (j := 1) rfl ?_
  refine g_iconst (v := 0) ok d_Pa_readElement_166 (by decide) ?_
  have h3 : 0 < fs2.length := Nat.lt_of_lt_of_le (by decide) h4
  refine pf_Pa_125 ok d_Pa_readElement_167 h1 h3 (fun _ => ⟨rfl, rfl⟩) ?_
  rw [h6]
  rw [h8]
  have h9 : M7[x4]? = some (.inr (0, fs5)) := by rw [← h8]; exact gs_eq h1
  have h10 : fs5[0]? = some (.int 0) := by rw [← h6]; exact List.getElem?_set_self h3
  have h11 : 7 ≤ fs5.length := by rw [← h6, List.length_set]; exact h4
  refine g_aload_n ok d_Pa_readElement_170 rfl (j := 0) rfl ?_
  refine g_aload ok d_Pa_readElement_171 (j := 1) rfl ?_
  have h14 : M7[x0]? = some (.inr (1, fs13)) := by rw [← h8]; exact (gs_ne (Ne.symm h15)).trans h12
  exact gc_Pa_147 (As := [.ref x4]) (rest := []) ok d_Pa_readElement_173 hm rfl rfl (Nat.le_of_ble_eq_true rfl) hR h14 hlen (fun r M' q => (gg_keep [] (kk r M' q)))
theorem k_Pa_readElement_176 {X : gC} {M : List mC} {k n : Nat} {s0 : Int32} (ok : gO X c_Pa_readElement "TripleStore$Parser" w_Pa_readElement)  {l9 : Launch} {rm : Room} {M0 : List mC} {post : Option Value → List mC → Prop} (E : gE X l9 y_Pa_readElement rm 5 (some .boolean) M0 post) (hz : narrow .boolean (.int s0) = .int s0) (hp : post (some (.int s0)) M) (hk : k ≤ rm.cells) (hn : n ≤ rm.slots) : gg X M k n 176 [] [.int s0] := by
  exact g_zret ok E d_Pa_readElement_176 hz hp hk hn
theorem k_Pa_readUnion_0 {X : gC} {M : List mC} {k n : Nat} {x0 : Nat} {x1 : Int32} {x2 : Int32} (ok : gO X c_Pa_readUnion "TripleStore$Parser" w_Pa_readUnion) (hl : gL X = 4)  (kk : gg X M k n 2 [(0, .ref x0), (1, .int x1), (2, .int x2), (3, .int 0)] []) : gg X M k n 0 [(0, .ref x0), (1, .int x1), (2, .int x2)] [] := by
  refine g_iconst (v := 0) ok d_Pa_readUnion_0 (by decide) ?_
  refine g_istore_n (L' := [(0, .ref x0), (1, .int x1), (2, .int x2), (3, .int 0)]) ok d_Pa_readUnion_1 rfl (by rw [hl]; decide) rfl ?_
  exact kk
theorem k_Pa_readUnion_2 {X : gC} {M : List mC} {k n : Nat} {x0 : Nat} {x1 : Int32} {x2 : Int32} {x3 : Int32} (ok : gO X c_Pa_readUnion "TripleStore$Parser" w_Pa_readUnion)  (kt : 12 ≤ x3 → gg X M k n 40 [] []) (kf : ¬ 12 ≤ x3 → gg X M k n 8 [(0, .ref x0), (1, .int x1), (2, .int x2), (3, .int x3)] []) : gg X M k n 2 [(0, .ref x0), (1, .int x1), (2, .int x2), (3, .int x3)] [] := by
  refine g_iload_n ok d_Pa_readUnion_2 rfl (j := 3) rfl ?_
  refine g_bipush (v := 12) ok d_Pa_readUnion_3 (by decide) ?_
  exact g_icmp_ge (tgt := 40) ok d_Pa_readUnion_5 (by decide) (fun z => (gg_keep [] (kt z))) (fun z => (kf z))
theorem k_Pa_readUnion_8 {X : gC} {M : List mC} {k n : Nat} {x0 : Nat} {x1 : Int32} {x2 : Int32} {x3 : Int32} {fs2 : List Value} (ok : gO X c_Pa_readUnion "TripleStore$Parser" w_Pa_readUnion) (h1 : M[x0]? = some (.inr (1, fs2))) {rm : Room} {post : Option Value → List mC → Prop} (hm : mm_ (gLa X) y_Pa_readGroup w_Pa_readGroup rm [.ref x0, .int x1, .int x2] M post) (hR : gF X rm 5 k n) (hlen : ∀ r M', post r M' → M'.length = M.length) (kk : ∀ r M', post r M' → gg X M' (k + rm.cells) (n + rm.slots) 14 [(0, .ref x0), (1, .int x1), (2, .int x2), (3, .int x3)] (r.toList ++ [])) : gg X M k n 8 [(0, .ref x0), (1, .int x1), (2, .int x2), (3, .int x3)] [] := by
  refine g_aload_n ok d_Pa_readUnion_8 rfl (j := 0) rfl ?_
  refine g_iload_n ok d_Pa_readUnion_9 rfl (j := 1) rfl ?_
  refine g_iload_n ok d_Pa_readUnion_10 rfl (j := 2) rfl ?_
  exact gc_Pa_40 (As := [.int x1, .int x2]) (rest := []) ok d_Pa_readUnion_11 hm rfl rfl (Nat.le_of_ble_eq_true rfl) hR h1 hlen kk
theorem k_Pa_readUnion_14 {X : gC} {M : List mC} {k n : Nat} {x0 : Nat} {x1 : Int32} {x2 : Int32} {x3 : Int32} {s0 : Int32} (ok : gO X c_Pa_readUnion "TripleStore$Parser" w_Pa_readUnion)  (kt : ¬ s0 = 0 → gg X M k n 19 [(0, .ref x0), (1, .int x1), (2, .int x2), (3, .int x3)] []) (kf : s0 = 0 → gg X M k n 17 [] []) : gg X M k n 14 [(0, .ref x0), (1, .int x1), (2, .int x2), (3, .int x3)] [.int s0] := by
  exact g_if_ne (tgt := 19) ok d_Pa_readUnion_14 (by decide) (fun z => (kt z)) (fun z => (gg_keep [] (kf z)))
theorem k_Pa_readUnion_17 {X : gC} {M : List mC} {k n : Nat}  (ok : gO X c_Pa_readUnion "TripleStore$Parser" w_Pa_readUnion)  {l9 : Launch} {rm : Room} {M0 : List mC} {post : Option Value → List mC → Prop} (E : gE X l9 y_Pa_readUnion rm 4 (some .boolean) M0 post) (hp : post (some (.int 0)) M) (hk : k ≤ rm.cells) (hn : n ≤ rm.slots) : gg X M k n 17 [] [] := by
  refine g_iconst (v := 0) ok d_Pa_readUnion_17 (by decide) ?_
  exact g_zret ok E d_Pa_readUnion_18 rfl hp hk hn
theorem k_Pa_readUnion_19 {X : gC} {M : List mC} {k n : Nat} {x0 : Nat} {x1 : Int32} {x2 : Int32} {x3 : Int32} {fs2 : List Value} {f3 : Nat} {fs6 : List Value} (ok : gO X c_Pa_readUnion "TripleStore$Parser" w_Pa_readUnion) (h1 : M[x0]? = some (.inr (1, fs2))) (h4 : fs2[0]? = some (.ref f3)) (h5 : M[f3]? = some (.inr (7, fs6))) {rm : Room} {post : Option Value → List mC → Prop} (hm : mm_ (gLa X) y_To_takeKey w_To_takeKey rm [.ref f3, .long 8461816677183520768] M post) (hR : gF X rm 4 k n) (hlen : ∀ r M', post r M' → M'.length = M.length) (kk : ∀ r M', post r M' → gg X M' (k + rm.cells) (n + rm.slots) 29 [(0, .ref x0), (1, .int x1), (2, .int x2), (3, .int x3)] (r.toList ++ [])) : gg X M k n 19 [(0, .ref x0), (1, .int x1), (2, .int x2), (3, .int x3)] [] := by
  refine g_aload_n ok d_Pa_readUnion_19 rfl (j := 0) rfl ?_
  refine gf_Pa_15 ok d_Pa_readUnion_20 h1 h4 ?_
  refine g_ldc2 (v := 8461816677183520768) ok (List.mem_cons_of_mem _ (gT_at 725 (by decide +kernel) (by decide +kernel))) d_Pa_readUnion_23 ?_
  exact gc_Pa_32 (As := [.long 8461816677183520768]) (rest := []) ok d_Pa_readUnion_26 hm rfl rfl (Nat.le_of_ble_eq_true rfl) hR h5 hlen kk
theorem k_Pa_readUnion_29 {X : gC} {M : List mC} {k n : Nat} {x0 : Nat} {x1 : Int32} {x2 : Int32} {x3 : Int32} {s0 : Int32} (ok : gO X c_Pa_readUnion "TripleStore$Parser" w_Pa_readUnion)  (kt : ¬ s0 = 0 → gg X M k n 34 [(0, .ref x0), (1, .int x1), (2, .int x2), (3, .int x3)] []) (kf : s0 = 0 → gg X M k n 32 [] []) : gg X M k n 29 [(0, .ref x0), (1, .int x1), (2, .int x2), (3, .int x3)] [.int s0] := by
  exact g_if_ne (tgt := 34) ok d_Pa_readUnion_29 (by decide) (fun z => (kt z)) (fun z => (gg_keep [] (kf z)))
theorem k_Pa_readUnion_32 {X : gC} {M : List mC} {k n : Nat}  (ok : gO X c_Pa_readUnion "TripleStore$Parser" w_Pa_readUnion)  {l9 : Launch} {rm : Room} {M0 : List mC} {post : Option Value → List mC → Prop} (E : gE X l9 y_Pa_readUnion rm 4 (some .boolean) M0 post) (hp : post (some (.int 1)) M) (hk : k ≤ rm.cells) (hn : n ≤ rm.slots) : gg X M k n 32 [] [] := by
  refine g_iconst (v := 1) ok d_Pa_readUnion_32 (by decide) ?_
  exact g_zret ok E d_Pa_readUnion_33 rfl hp hk hn
theorem k_Pa_readUnion_34 {X : gC} {M : List mC} {k n : Nat} {x0 : Nat} {x1 : Int32} {x2 : Int32} {x3 : Int32} (ok : gO X c_Pa_readUnion "TripleStore$Parser" w_Pa_readUnion) (hl : gL X = 4)  (kk : gg X M k n 2 [(0, .ref x0), (1, .int x1), (2, .int x2), (3, .int (x3 + 1))] []) : gg X M k n 34 [(0, .ref x0), (1, .int x1), (2, .int x2), (3, .int x3)] [] := by
  refine g_iinc (L' := [(0, .ref x0), (1, .int x1), (2, .int x2), (3, .int (x3 + 1))]) (v := (x3 + 1)) ok d_Pa_readUnion_34 (j := 3) rfl rfl (by rw [hl]; decide) rfl ?_
  exact g_goto (tgt := 2) ok d_Pa_readUnion_37 (by decide) kk
theorem k_Pa_readUnion_40 {X : gC} {M : List mC} {k n : Nat}  (ok : gO X c_Pa_readUnion "TripleStore$Parser" w_Pa_readUnion)  {l9 : Launch} {rm : Room} {M0 : List mC} {post : Option Value → List mC → Prop} (E : gE X l9 y_Pa_readUnion rm 4 (some .boolean) M0 post) (hp : post (some (.int 0)) M) (hk : k ≤ rm.cells) (hn : n ≤ rm.slots) : gg X M k n 40 [] [] := by
  refine g_iconst (v := 0) ok d_Pa_readUnion_40 (by decide) ?_
  exact g_zret ok E d_Pa_readUnion_41 rfl hp hk hn
theorem k_Pa_readPattern_0 {X : gC} {M : List mC} {k n : Nat} {x0 : Nat} {x1 : Nat} {fs2 : List Value} (ok : gO X c_Pa_readPattern "TripleStore$Parser" w_Pa_readPattern) (h1 : M[x0]? = some (.inr (1, fs2))) {rm : Room} {post : Option Value → List mC → Prop} (hm : mm_ (gLa X) y_Pa_readSide w_Pa_readSide rm [.ref x0] M post) (hR : gF X rm 1 k n) (hlen : ∀ r M', post r M' → M'.length = M.length) (kk : ∀ r M', post r M' → gg X M' (k + rm.cells) (n + rm.slots) 4 [(0, .ref x0), (1, .ref x1)] (r.toList ++ [])) : gg X M k n 0 [(0, .ref x0), (1, .ref x1)] [] := by
  refine g_aload_n ok d_Pa_readPattern_0 rfl (j := 0) rfl ?_
  exact gc_Pa_152 (As := []) (rest := []) ok d_Pa_readPattern_1 hm rfl rfl (Nat.le_of_ble_eq_true rfl) hR h1 hlen kk
theorem k_Pa_readPattern_4 {X : gC} {M : List mC} {k n : Nat} {x0 : Nat} {x1 : Nat} {s0 : Int32} (ok : gO X c_Pa_readPattern "TripleStore$Parser" w_Pa_readPattern)  (kt : ¬ s0 = 0 → gg X M k n 9 [(0, .ref x0), (1, .ref x1)] []) (kf : s0 = 0 → gg X M k n 7 [] []) : gg X M k n 4 [(0, .ref x0), (1, .ref x1)] [.int s0] := by
  exact g_if_ne (tgt := 9) ok d_Pa_readPattern_4 (by decide) (fun z => (kt z)) (fun z => (gg_keep [] (kf z)))
theorem k_Pa_readPattern_7 {X : gC} {M : List mC} {k n : Nat}  (ok : gO X c_Pa_readPattern "TripleStore$Parser" w_Pa_readPattern)  {l9 : Launch} {rm : Room} {M0 : List mC} {post : Option Value → List mC → Prop} (E : gE X l9 y_Pa_readPattern rm 2 (some .boolean) M0 post) (hp : post (some (.int 0)) M) (hk : k ≤ rm.cells) (hn : n ≤ rm.slots) : gg X M k n 7 [] [] := by
  refine g_iconst (v := 0) ok d_Pa_readPattern_7 (by decide) ?_
  exact g_zret ok E d_Pa_readPattern_8 rfl hp hk hn
theorem k_Pa_readPattern_9 {X : gC} {M : List mC} {k n : Nat} {x0 : Nat} {x1 : Nat} {fs2 : List Value} {f3 : Int64} {fs6 : List Value} {fs9 : List Value} {M11 : List mC} (ok : gO X c_Pa_readPattern "TripleStore$Parser" w_Pa_readPattern) (h1 : M[x0]? = some (.inr (1, fs2))) (h4 : fs2[2]? = some (.long f3)) (h5 : M[x1]? = some (.inr (0, fs6))) (h8 : 7 ≤ fs6.length) (h10 : fs6.set 2 (.long f3) = fs9) (h12 : M.set x1 (.inr (0, fs9)) = M11) (h17 : x0 ≠ x1) {rm : Room} {post : Option Value → List mC → Prop} (hm : mm_ (gLa X) y_Pa_readSide w_Pa_readSide rm [.ref x0] M11 post) (hR : gF X rm 1 k n) (hlen : ∀ r M', post r M' → M'.length = M11.length) (kk : ∀ r M', post r M' → gg X M' (k + rm.cells) (n + rm.slots) 21 [(0, .ref x0), (1, .ref x1)] (r.toList ++ [])) : gg X M k n 9 [(0, .ref x0), (1, .ref x1)] [] := by
  refine g_aload_n ok d_Pa_readPattern_9 rfl (j := 1) rfl ?_
  refine g_aload_n ok d_Pa_readPattern_10 rfl (j := 0) rfl ?_
  refine gf_Pa_9 ok d_Pa_readPattern_11 h1 h4 ?_
  have h7 : 2 < fs6.length := Nat.lt_of_lt_of_le (by decide) h8
  refine pf_Pa_155 ok d_Pa_readPattern_14 h5 h7 (fun _ => ⟨rfl, rfl⟩) ?_
  rw [h10]
  rw [h12]
  have h13 : M11[x1]? = some (.inr (0, fs9)) := by rw [← h12]; exact gs_eq h5
  have h14 : fs9[2]? = some (.long f3) := by rw [← h10]; exact List.getElem?_set_self h7
  have h15 : 7 ≤ fs9.length := by rw [← h10, List.length_set]; exact h8
  refine g_aload_n ok d_Pa_readPattern_17 rfl (j := 0) rfl ?_
  have h16 : M11[x0]? = some (.inr (1, fs2)) := by rw [← h12]; exact (gs_ne (Ne.symm h17)).trans h1
  exact gc_Pa_152 (As := []) (rest := []) ok d_Pa_readPattern_18 hm rfl rfl (Nat.le_of_ble_eq_true rfl) hR h16 hlen kk
theorem k_Pa_readPattern_21 {X : gC} {M : List mC} {k n : Nat} {x0 : Nat} {x1 : Nat} {s0 : Int32} (ok : gO X c_Pa_readPattern "TripleStore$Parser" w_Pa_readPattern)  (kt : ¬ s0 = 0 → gg X M k n 26 [(0, .ref x0), (1, .ref x1)] []) (kf : s0 = 0 → gg X M k n 24 [] []) : gg X M k n 21 [(0, .ref x0), (1, .ref x1)] [.int s0] := by
  exact g_if_ne (tgt := 26) ok d_Pa_readPattern_21 (by decide) (fun z => (kt z)) (fun z => (gg_keep [] (kf z)))
theorem k_Pa_readPattern_24 {X : gC} {M : List mC} {k n : Nat}  (ok : gO X c_Pa_readPattern "TripleStore$Parser" w_Pa_readPattern)  {l9 : Launch} {rm : Room} {M0 : List mC} {post : Option Value → List mC → Prop} (E : gE X l9 y_Pa_readPattern rm 2 (some .boolean) M0 post) (hp : post (some (.int 0)) M) (hk : k ≤ rm.cells) (hn : n ≤ rm.slots) : gg X M k n 24 [] [] := by
  refine g_iconst (v := 0) ok d_Pa_readPattern_24 (by decide) ?_
  exact g_zret ok E d_Pa_readPattern_25 rfl hp hk hn
theorem k_Pa_readPattern_26 {X : gC} {M : List mC} {k n : Nat} {x0 : Nat} {x1 : Nat} {fs2 : List Value} {f3 : Int64} {fs6 : List Value} {fs9 : List Value} {M11 : List mC} (ok : gO X c_Pa_readPattern "TripleStore$Parser" w_Pa_readPattern) (h1 : M[x0]? = some (.inr (1, fs2))) (h4 : fs2[2]? = some (.long f3)) (h5 : M[x1]? = some (.inr (0, fs6))) (h8 : 7 ≤ fs6.length) (h10 : fs6.set 3 (.long f3) = fs9) (h12 : M.set x1 (.inr (0, fs9)) = M11) (h17 : x0 ≠ x1) {rm : Room} {post : Option Value → List mC → Prop} (hm : mm_ (gLa X) y_Pa_readSide w_Pa_readSide rm [.ref x0] M11 post) (hR : gF X rm 1 k n) (hlen : ∀ r M', post r M' → M'.length = M11.length) (kk : ∀ r M', post r M' → gg X M' (k + rm.cells) (n + rm.slots) 38 [(0, .ref x0), (1, .ref x1)] (r.toList ++ [])) : gg X M k n 26 [(0, .ref x0), (1, .ref x1)] [] := by
  refine g_aload_n ok d_Pa_readPattern_26 rfl (j := 1) rfl ?_
  refine g_aload_n ok d_Pa_readPattern_27 rfl (j := 0) rfl ?_
  refine gf_Pa_9 ok d_Pa_readPattern_28 h1 h4 ?_
  have h7 : 3 < fs6.length := Nat.lt_of_lt_of_le (by decide) h8
  refine pf_Pa_158 ok d_Pa_readPattern_31 h5 h7 (fun _ => ⟨rfl, rfl⟩) ?_
  rw [h10]
  rw [h12]
  have h13 : M11[x1]? = some (.inr (0, fs9)) := by rw [← h12]; exact gs_eq h5
  have h14 : fs9[3]? = some (.long f3) := by rw [← h10]; exact List.getElem?_set_self h7
  have h15 : 7 ≤ fs9.length := by rw [← h10, List.length_set]; exact h8
  refine g_aload_n ok d_Pa_readPattern_34 rfl (j := 0) rfl ?_
  have h16 : M11[x0]? = some (.inr (1, fs2)) := by rw [← h12]; exact (gs_ne (Ne.symm h17)).trans h1
  exact gc_Pa_152 (As := []) (rest := []) ok d_Pa_readPattern_35 hm rfl rfl (Nat.le_of_ble_eq_true rfl) hR h16 hlen kk
theorem k_Pa_readPattern_38 {X : gC} {M : List mC} {k n : Nat} {x0 : Nat} {x1 : Nat} {s0 : Int32} (ok : gO X c_Pa_readPattern "TripleStore$Parser" w_Pa_readPattern)  (kt : ¬ s0 = 0 → gg X M k n 43 [(0, .ref x0), (1, .ref x1)] []) (kf : s0 = 0 → gg X M k n 41 [] []) : gg X M k n 38 [(0, .ref x0), (1, .ref x1)] [.int s0] := by
  exact g_if_ne (tgt := 43) ok d_Pa_readPattern_38 (by decide) (fun z => (kt z)) (fun z => (gg_keep [] (kf z)))
theorem k_Pa_readPattern_41 {X : gC} {M : List mC} {k n : Nat}  (ok : gO X c_Pa_readPattern "TripleStore$Parser" w_Pa_readPattern)  {l9 : Launch} {rm : Room} {M0 : List mC} {post : Option Value → List mC → Prop} (E : gE X l9 y_Pa_readPattern rm 2 (some .boolean) M0 post) (hp : post (some (.int 0)) M) (hk : k ≤ rm.cells) (hn : n ≤ rm.slots) : gg X M k n 41 [] [] := by
  refine g_iconst (v := 0) ok d_Pa_readPattern_41 (by decide) ?_
  exact g_zret ok E d_Pa_readPattern_42 rfl hp hk hn
theorem k_Pa_readPattern_43 {X : gC} {M : List mC} {k n : Nat} {x0 : Nat} {x1 : Nat} {fs2 : List Value} {f3 : Int64} {fs6 : List Value} {fs9 : List Value} {M11 : List mC} (ok : gO X c_Pa_readPattern "TripleStore$Parser" w_Pa_readPattern) (h1 : M[x0]? = some (.inr (1, fs2))) (h4 : fs2[2]? = some (.long f3)) (h5 : M[x1]? = some (.inr (0, fs6))) (h8 : 7 ≤ fs6.length) (h10 : fs6.set 4 (.long f3) = fs9) (h12 : M.set x1 (.inr (0, fs9)) = M11) {l9 : Launch} {rm : Room} {M0 : List mC} {post : Option Value → List mC → Prop} (E : gE X l9 y_Pa_readPattern rm 2 (some .boolean) M0 post) (hp : post (some (.int 1)) M11) (hk : k ≤ rm.cells) (hn : n ≤ rm.slots) : gg X M k n 43 [(0, .ref x0), (1, .ref x1)] [] := by
  refine g_aload_n ok d_Pa_readPattern_43 rfl (j := 1) rfl ?_
  refine g_aload_n ok d_Pa_readPattern_44 rfl (j := 0) rfl ?_
  refine gf_Pa_9 ok d_Pa_readPattern_45 h1 h4 ?_
  have h7 : 4 < fs6.length := Nat.lt_of_lt_of_le (by decide) h8
  refine pf_Pa_161 ok d_Pa_readPattern_48 h5 h7 (fun _ => ⟨rfl, rfl⟩) ?_
  rw [h10]
  rw [h12]
  have h13 : M11[x1]? = some (.inr (0, fs9)) := by rw [← h12]; exact gs_eq h5
  have h14 : fs9[4]? = some (.long f3) := by rw [← h10]; exact List.getElem?_set_self h7
  have h15 : 7 ≤ fs9.length := by rw [← h10, List.length_set]; exact h8
  refine g_iconst (v := 1) ok d_Pa_readPattern_51 (by decide) ?_
  exact g_zret ok E d_Pa_readPattern_52 rfl hp hk hn
theorem k_Pa_readNots_0 {X : gC} {M : List mC} {k n : Nat} {x0 : Nat} {x1 : Nat} {fs2 : List Value} {fs5 : List Value} {M7 : List mC} (ok : gO X c_Pa_readNots "TripleStore$Parser" w_Pa_readNots) (hl : gL X = 3) (h1 : M[x1]? = some (.inr (0, fs2))) (h4 : 7 ≤ fs2.length) (h6 : fs2.set 6 (.int 0) = fs5) (h8 : M.set x1 (.inr (0, fs5)) = M7) (kk : gg X M7 k n 7 [(0, .ref x0), (1, .ref x1), (2, .int 0)] []) : gg X M k n 0 [(0, .ref x0), (1, .ref x1)] [] := by
  refine g_aload_n ok d_Pa_readNots_0 rfl (j := 1) rfl ?_
  refine g_iconst (v := 0) ok d_Pa_readNots_1 (by decide) ?_
  have h3 : 6 < fs2.length := Nat.lt_of_lt_of_le (by decide) h4
  refine pf_Pa_164 ok d_Pa_readNots_2 h1 h3 (fun _ => ⟨rfl, rfl⟩) ?_
  rw [h6]
  rw [h8]
  have h9 : M7[x1]? = some (.inr (0, fs5)) := by rw [← h8]; exact gs_eq h1
  have h10 : fs5[6]? = some (.int 0) := by rw [← h6]; exact List.getElem?_set_self h3
  have h11 : 7 ≤ fs5.length := by rw [← h6, List.length_set]; exact h4
  refine g_iconst (v := 0) ok d_Pa_readNots_5 (by decide) ?_
  refine g_istore_n (L' := [(0, .ref x0), (1, .ref x1), (2, .int 0)]) ok d_Pa_readNots_6 rfl (by rw [hl]; decide) rfl ?_
  exact kk
theorem k_Pa_readNots_7 {X : gC} {M : List mC} {k n : Nat} {x0 : Nat} {x1 : Nat} {x2 : Int32} (ok : gO X c_Pa_readNots "TripleStore$Parser" w_Pa_readNots)  (kt : 4 ≤ x2 → gg X M k n 47 [] []) (kf : ¬ 4 ≤ x2 → gg X M k n 12 [(0, .ref x0), (1, .ref x1), (2, .int x2)] []) : gg X M k n 7 [(0, .ref x0), (1, .ref x1), (2, .int x2)] [] := by
  refine g_iload_n ok d_Pa_readNots_7 rfl (j := 2) rfl ?_
  refine g_iconst (v := 4) ok d_Pa_readNots_8 (by decide) ?_
  exact g_icmp_ge (tgt := 47) ok d_Pa_readNots_9 (by decide) (fun z => (gg_keep [] (kt z))) (fun z => (kf z))
theorem k_Pa_readNots_12 {X : gC} {M : List mC} {k n : Nat} {x0 : Nat} {x1 : Nat} {x2 : Int32} {fs2 : List Value} {f3 : Nat} {fs6 : List Value} (ok : gO X c_Pa_readNots "TripleStore$Parser" w_Pa_readNots) (h1 : M[x0]? = some (.inr (1, fs2))) (h4 : fs2[0]? = some (.ref f3)) (h5 : M[f3]? = some (.inr (7, fs6))) {rm : Room} {post : Option Value → List mC → Prop} (hm : mm_ (gLa X) y_To_takeKey w_To_takeKey rm [.ref f3, .long 7957706609935777792] M post) (hR : gF X rm 4 k n) (hlen : ∀ r M', post r M' → M'.length = M.length) (kk : ∀ r M', post r M' → gg X M' (k + rm.cells) (n + rm.slots) 22 [(0, .ref x0), (1, .ref x1), (2, .int x2)] (r.toList ++ [])) : gg X M k n 12 [(0, .ref x0), (1, .ref x1), (2, .int x2)] [] := by
  refine g_aload_n ok d_Pa_readNots_12 rfl (j := 0) rfl ?_
  refine gf_Pa_15 ok d_Pa_readNots_13 h1 h4 ?_
  refine g_ldc2 (v := 7957706609935777792) ok (List.mem_cons_of_mem _ (gT_at 701 (by decide +kernel) (by decide +kernel))) d_Pa_readNots_16 ?_
  exact gc_Pa_32 (As := [.long 7957706609935777792]) (rest := []) ok d_Pa_readNots_19 hm rfl rfl (Nat.le_of_ble_eq_true rfl) hR h5 hlen kk
theorem k_Pa_readNots_22 {X : gC} {M : List mC} {k n : Nat} {x0 : Nat} {x1 : Nat} {x2 : Int32} {s0 : Int32} (ok : gO X c_Pa_readNots "TripleStore$Parser" w_Pa_readNots)  (kt : s0 = 0 → gg X M k n 47 [] []) (kf : ¬ s0 = 0 → gg X M k n 25 [(0, .ref x0), (1, .ref x1), (2, .int x2)] []) : gg X M k n 22 [(0, .ref x0), (1, .ref x1), (2, .int x2)] [.int s0] := by
  exact g_if_eq (tgt := 47) ok d_Pa_readNots_22 (by decide) (fun z => (gg_keep [] (kt z))) (fun z => (kf z))
theorem k_Pa_readNots_25 {X : gC} {M : List mC} {k n : Nat} {x0 : Nat} {x1 : Nat} {x2 : Int32} {fs2 : List Value} {f3 : Int32} (ok : gO X c_Pa_readNots "TripleStore$Parser" w_Pa_readNots) (h1 : M[x1]? = some (.inr (0, fs2))) (h4 : fs2[6]? = some (.int f3)) (kt : ¬ f3 = 0 → gg X M k n 37 [(0, .ref x0), (1, .ref x1), (2, .int x2)] [.ref x1]) (kf : f3 = 0 → gg X M k n 33 [(0, .ref x0), (1, .ref x1), (2, .int x2)] [.ref x1]) : gg X M k n 25 [(0, .ref x0), (1, .ref x1), (2, .int x2)] [] := by
  refine g_aload_n ok d_Pa_readNots_25 rfl (j := 1) rfl ?_
  refine g_aload_n ok d_Pa_readNots_26 rfl (j := 1) rfl ?_
  refine gf_Pa_164 ok d_Pa_readNots_27 h1 h4 ?_
  exact g_if_ne (tgt := 37) ok d_Pa_readNots_30 (by decide) (fun z => (kt z)) (fun z => (kf z))
theorem k_Pa_readNots_33 {X : gC} {M : List mC} {k n : Nat} {x0 : Nat} {x1 : Nat} {x2 : Int32} (ok : gO X c_Pa_readNots "TripleStore$Parser" w_Pa_readNots)  (kk : gg X M k n 38 [(0, .ref x0), (1, .ref x1), (2, .int x2)] [.int 1, .ref x1]) : gg X M k n 33 [(0, .ref x0), (1, .ref x1), (2, .int x2)] [.ref x1] := by
  refine g_iconst (v := 1) ok d_Pa_readNots_33 (by decide) ?_
  exact g_goto (tgt := 38) ok d_Pa_readNots_34 (by decide) kk
theorem k_Pa_readNots_37 {X : gC} {M : List mC} {k n : Nat} {x0 : Nat} {x1 : Nat} {x2 : Int32} (ok : gO X c_Pa_readNots "TripleStore$Parser" w_Pa_readNots)  (kk : gg X M k n 38 [(0, .ref x0), (1, .ref x1), (2, .int x2)] [.int 0, .ref x1]) : gg X M k n 37 [(0, .ref x0), (1, .ref x1), (2, .int x2)] [.ref x1] := by
  refine g_iconst (v := 0) ok d_Pa_readNots_37 (by decide) ?_
  exact kk
theorem k_Pa_readNots_38 {X : gC} {M : List mC} {k n : Nat} {x0 : Nat} {x1 : Nat} {x2 : Int32} {s1 : Int32} {fs2 : List Value} {fs6 : List Value} {M8 : List mC} (ok : gO X c_Pa_readNots "TripleStore$Parser" w_Pa_readNots) (hl : gL X = 3) (h1 : M[x1]? = some (.inr (0, fs2))) (h4 : 7 ≤ fs2.length) (h5 : narrow .boolean (.int s1) = .int s1 ∧ fits .boolean (.int s1) = true) (h7 : fs2.set 6 (.int s1) = fs6) (h9 : M.set x1 (.inr (0, fs6)) = M8) (kk : gg X M8 k n 7 [(0, .ref x0), (1, .ref x1), (2, .int (x2 + 1))] []) : gg X M k n 38 [(0, .ref x0), (1, .ref x1), (2, .int x2)] [.int s1, .ref x1] := by
  have h3 : 6 < fs2.length := Nat.lt_of_lt_of_le (by decide) h4
  refine pf_Pa_164 ok d_Pa_readNots_38 h1 h3 (fun _ => h5) ?_
  rw [h7]
  rw [h9]
  have h10 : M8[x1]? = some (.inr (0, fs6)) := by rw [← h9]; exact gs_eq h1
  have h11 : fs6[6]? = some (.int s1) := by rw [← h7]; exact List.getElem?_set_self h3
  have h12 : 7 ≤ fs6.length := by rw [← h7, List.length_set]; exact h4
  refine g_iinc (L' := [(0, .ref x0), (1, .ref x1), (2, .int (x2 + 1))]) (v := (x2 + 1)) ok d_Pa_readNots_41 (j := 2) rfl rfl (by rw [hl]; decide) rfl ?_
  exact g_goto (tgt := 7) ok d_Pa_readNots_44 (by decide) kk
theorem k_Pa_readNots_47 {X : gC} {M : List mC} {k n : Nat}  (ok : gO X c_Pa_readNots "TripleStore$Parser" w_Pa_readNots)  {l9 : Launch} {rm : Room} {M0 : List mC} {post : Option Value → List mC → Prop} (E : gE X l9 y_Pa_readNots rm 3 none M0 post) (hp : post (none) M) (hk : k ≤ rm.cells) (hn : n ≤ rm.slots) : gg X M k n 47 [] [] := by
  exact g_vret ok E d_Pa_readNots_47 hp hk hn
theorem k_Pa_readBound_0 {X : gC} {M : List mC} {k n : Nat} {x0 : Nat} {x1 : Nat} {fs2 : List Value} (ok : gO X c_Pa_readBound "TripleStore$Parser" w_Pa_readBound) (h1 : M[x0]? = some (.inr (1, fs2))) {rm : Room} {post : Option Value → List mC → Prop} (hm : mm_ (gLa X) y_Pa_readVariable w_Pa_readVariable rm [.ref x0] M post) (hR : gF X rm 2 k n) (hlen : ∀ r M', post r M' → M'.length = M.length) (kk : ∀ r M', post r M' → gg X M' (k + rm.cells) (n + rm.slots) 4 [(0, .ref x0), (1, .ref x1)] (r.toList ++ [])) : gg X M k n 0 [(0, .ref x0), (1, .ref x1)] [] := by
  refine g_aload_n ok d_Pa_readBound_0 rfl (j := 0) rfl ?_
  exact gc_Pa_60 (As := []) (rest := []) ok d_Pa_readBound_1 hm rfl rfl (Nat.le_of_ble_eq_true rfl) hR h1 hlen kk
theorem k_Pa_readBound_4 {X : gC} {M : List mC} {k n : Nat} {x0 : Nat} {x1 : Nat} {s0 : Int32} {fs2 : List Value} {f3 : Int64} {fs6 : List Value} {fs9 : List Value} {M11 : List mC} {fs17 : List Value} {M19 : List mC} (ok : gO X c_Pa_readBound "TripleStore$Parser" w_Pa_readBound) (hl : gL X = 3) (h1 : M[x0]? = some (.inr (1, fs2))) (h4 : fs2[2]? = some (.long f3)) (h5 : M[x1]? = some (.inr (0, fs6))) (h8 : 7 ≤ fs6.length) (h10 : fs6.set 2 (.long f3) = fs9) (h12 : M.set x1 (.inr (0, fs9)) = M11) (h18 : fs9.set 5 (.int 98) = fs17) (h20 : M11.set x1 (.inr (0, fs17)) = M19) {l9 : Launch} {rm : Room} {M0 : List mC} {post : Option Value → List mC → Prop} (E : gE X l9 y_Pa_readBound rm 3 (some .boolean) M0 post) (hz : narrow .boolean (.int s0) = .int s0) (hp : post (some (.int s0)) M19) (hk : k ≤ rm.cells) (hn : n ≤ rm.slots) : gg X M k n 4 [(0, .ref x0), (1, .ref x1)] [.int s0] := by
  refine g_istore_n (L' := [(0, .ref x0), (1, .ref x1), (2, .int s0)]) ok d_Pa_readBound_4 rfl (by rw [hl]; decide) rfl ?_
  refine g_aload_n ok d_Pa_readBound_5 rfl (j := 1) rfl ?_
  refine g_aload_n ok d_Pa_readBound_6 rfl (j := 0) rfl ?_
  refine gf_Pa_9 ok d_Pa_readBound_7 h1 h4 ?_
  have h7 : 2 < fs6.length := Nat.lt_of_lt_of_le (by decide) h8
  refine pf_Pa_155 ok d_Pa_readBound_10 h5 h7 (fun _ => ⟨rfl, rfl⟩) ?_
  rw [h10]
  rw [h12]
  have h13 : M11[x1]? = some (.inr (0, fs9)) := by rw [← h12]; exact gs_eq h5
  have h14 : fs9[2]? = some (.long f3) := by rw [← h10]; exact List.getElem?_set_self h7
  have h15 : 7 ≤ fs9.length := by rw [← h10, List.length_set]; exact h8
  refine g_aload_n ok d_Pa_readBound_13 rfl (j := 1) rfl ?_
  refine g_bipush (v := 98) ok d_Pa_readBound_14 (by decide) ?_
  have h16 : 5 < fs9.length := Nat.lt_of_lt_of_le (by decide) h15
  refine pf_Pa_169 ok d_Pa_readBound_16 h13 h16 (fun _ => ⟨rfl, rfl⟩) ?_
  rw [h18]
  rw [h20]
  have h21 : M19[x1]? = some (.inr (0, fs17)) := by rw [← h20]; exact gs_eq h13
  have h22 : fs17[2]? = some (.long f3) := by rw [← h18]; exact (List.getElem?_set_ne (by decide : 5 ≠ 2)).trans h14
  have h23 : fs17[5]? = some (.int 98) := by rw [← h18]; exact List.getElem?_set_self h16
  have h24 : 7 ≤ fs17.length := by rw [← h18, List.length_set]; exact h15
  refine g_iload_n ok d_Pa_readBound_19 rfl (j := 2) rfl ?_
  exact g_zret ok E d_Pa_readBound_20 hz hp hk hn
theorem k_Pa_readComparison_0 {X : gC} {M : List mC} {k n : Nat} {x0 : Nat} {x1 : Nat} {fs2 : List Value} (ok : gO X c_Pa_readComparison "TripleStore$Parser" w_Pa_readComparison) (h1 : M[x0]? = some (.inr (1, fs2))) {rm : Room} {post : Option Value → List mC → Prop} (hm : mm_ (gLa X) y_Pa_readSide w_Pa_readSide rm [.ref x0] M post) (hR : gF X rm 1 k n) (hlen : ∀ r M', post r M' → M'.length = M.length) (kk : ∀ r M', post r M' → gg X M' (k + rm.cells) (n + rm.slots) 4 [(0, .ref x0), (1, .ref x1)] (r.toList ++ [])) : gg X M k n 0 [(0, .ref x0), (1, .ref x1)] [] := by
  refine g_aload_n ok d_Pa_readComparison_0 rfl (j := 0) rfl ?_
  exact gc_Pa_152 (As := []) (rest := []) ok d_Pa_readComparison_1 hm rfl rfl (Nat.le_of_ble_eq_true rfl) hR h1 hlen kk
theorem k_Pa_readComparison_4 {X : gC} {M : List mC} {k n : Nat} {x0 : Nat} {x1 : Nat} {s0 : Int32} (ok : gO X c_Pa_readComparison "TripleStore$Parser" w_Pa_readComparison)  (kt : ¬ s0 = 0 → gg X M k n 9 [(0, .ref x0), (1, .ref x1)] []) (kf : s0 = 0 → gg X M k n 7 [] []) : gg X M k n 4 [(0, .ref x0), (1, .ref x1)] [.int s0] := by
  exact g_if_ne (tgt := 9) ok d_Pa_readComparison_4 (by decide) (fun z => (kt z)) (fun z => (gg_keep [] (kf z)))
theorem k_Pa_readComparison_7 {X : gC} {M : List mC} {k n : Nat}  (ok : gO X c_Pa_readComparison "TripleStore$Parser" w_Pa_readComparison)  {l9 : Launch} {rm : Room} {M0 : List mC} {post : Option Value → List mC → Prop} (E : gE X l9 y_Pa_readComparison rm 3 (some .boolean) M0 post) (hp : post (some (.int 0)) M) (hk : k ≤ rm.cells) (hn : n ≤ rm.slots) : gg X M k n 7 [] [] := by
  refine g_iconst (v := 0) ok d_Pa_readComparison_7 (by decide) ?_
  exact g_zret ok E d_Pa_readComparison_8 rfl hp hk hn
theorem k_Pa_readComparison_9 {X : gC} {M : List mC} {k n : Nat} {x0 : Nat} {x1 : Nat} {fs2 : List Value} {f3 : Int64} {fs6 : List Value} {fs9 : List Value} {M11 : List mC} (ok : gO X c_Pa_readComparison "TripleStore$Parser" w_Pa_readComparison) (h1 : M[x0]? = some (.inr (1, fs2))) (h4 : fs2[2]? = some (.long f3)) (h5 : M[x1]? = some (.inr (0, fs6))) (h8 : 7 ≤ fs6.length) (h10 : fs6.set 2 (.long f3) = fs9) (h12 : M.set x1 (.inr (0, fs9)) = M11) (h17 : x0 ≠ x1) {rm : Room} {post : Option Value → List mC → Prop} (hm : mm_ (gLa X) y_Pa_isAtComparison w_Pa_isAtComparison rm [.ref x0] M11 post) (hR : gF X rm 1 k n) (hlen : ∀ r M', post r M' → M'.length = M11.length) (kk : ∀ r M', post r M' → gg X M' (k + rm.cells) (n + rm.slots) 21 [(0, .ref x0), (1, .ref x1)] (r.toList ++ [])) : gg X M k n 9 [(0, .ref x0), (1, .ref x1)] [] := by
  refine g_aload_n ok d_Pa_readComparison_9 rfl (j := 1) rfl ?_
  refine g_aload_n ok d_Pa_readComparison_10 rfl (j := 0) rfl ?_
  refine gf_Pa_9 ok d_Pa_readComparison_11 h1 h4 ?_
  have h7 : 2 < fs6.length := Nat.lt_of_lt_of_le (by decide) h8
  refine pf_Pa_155 ok d_Pa_readComparison_14 h5 h7 (fun _ => ⟨rfl, rfl⟩) ?_
  rw [h10]
  rw [h12]
  have h13 : M11[x1]? = some (.inr (0, fs9)) := by rw [← h12]; exact gs_eq h5
  have h14 : fs9[2]? = some (.long f3) := by rw [← h10]; exact List.getElem?_set_self h7
  have h15 : 7 ≤ fs9.length := by rw [← h10, List.length_set]; exact h8
  refine g_aload_n ok d_Pa_readComparison_17 rfl (j := 0) rfl ?_
  have h16 : M11[x0]? = some (.inr (1, fs2)) := by rw [← h12]; exact (gs_ne (Ne.symm h17)).trans h1
  exact gc_Pa_172 (As := []) (rest := []) ok d_Pa_readComparison_18 hm rfl rfl (Nat.le_of_ble_eq_true rfl) hR h16 hlen kk
theorem k_Pa_readComparison_21 {X : gC} {M : List mC} {k n : Nat} {x0 : Nat} {x1 : Nat} {s0 : Int32} (ok : gO X c_Pa_readComparison "TripleStore$Parser" w_Pa_readComparison)  (kt : ¬ s0 = 0 → gg X M k n 26 [(0, .ref x0), (1, .ref x1)] []) (kf : s0 = 0 → gg X M k n 24 [] []) : gg X M k n 21 [(0, .ref x0), (1, .ref x1)] [.int s0] := by
  exact g_if_ne (tgt := 26) ok d_Pa_readComparison_21 (by decide) (fun z => (kt z)) (fun z => (gg_keep [] (kf z)))
theorem k_Pa_readComparison_24 {X : gC} {M : List mC} {k n : Nat}  (ok : gO X c_Pa_readComparison "TripleStore$Parser" w_Pa_readComparison)  {l9 : Launch} {rm : Room} {M0 : List mC} {post : Option Value → List mC → Prop} (E : gE X l9 y_Pa_readComparison rm 3 (some .boolean) M0 post) (hp : post (some (.int 0)) M) (hk : k ≤ rm.cells) (hn : n ≤ rm.slots) : gg X M k n 24 [] [] := by
  refine g_iconst (v := 0) ok d_Pa_readComparison_24 (by decide) ?_
  exact g_zret ok E d_Pa_readComparison_25 rfl hp hk hn
theorem k_Pa_readComparison_26 {X : gC} {M : List mC} {k n : Nat} {x0 : Nat} {x1 : Nat} {fs2 : List Value} {f3 : Nat} {fs6 : List Value} (ok : gO X c_Pa_readComparison "TripleStore$Parser" w_Pa_readComparison) (h1 : M[x0]? = some (.inr (1, fs2))) (h4 : fs2[0]? = some (.ref f3)) (h5 : M[f3]? = some (.inr (7, fs6))) {rm : Room} {post : Option Value → List mC → Prop} (hm : mm_ (gLa X) y_To_value w_To_value rm [.ref f3] M post) (hR : gF X rm 1 k n) (hlen : ∀ r M', post r M' → M'.length = M.length) (kk : ∀ r M', post r M' → gg X M' (k + rm.cells) (n + rm.slots) 34 [(0, .ref x0), (1, .ref x1)] (r.toList ++ [.ref x1])) : gg X M k n 26 [(0, .ref x0), (1, .ref x1)] [] := by
  refine g_aload_n ok d_Pa_readComparison_26 rfl (j := 1) rfl ?_
  refine g_aload_n ok d_Pa_readComparison_27 rfl (j := 0) rfl ?_
  refine gf_Pa_15 ok d_Pa_readComparison_28 h1 h4 ?_
  exact gc_Pa_85 (As := []) (rest := [.ref x1]) ok d_Pa_readComparison_31 hm rfl rfl (Nat.le_of_ble_eq_true rfl) hR h5 hlen kk
theorem k_Pa_readComparison_34 {X : gC} {M : List mC} {k n : Nat} {x0 : Nat} {x1 : Nat} {s1 : Int64} {fs2 : List Value} {fs5 : List Value} {M7 : List mC} {fs13 : List Value} {f16 : Nat} {fs19 : List Value} (ok : gO X c_Pa_readComparison "TripleStore$Parser" w_Pa_readComparison) (h1 : M[x1]? = some (.inr (0, fs2))) (h4 : 7 ≤ fs2.length) (h6 : fs2.set 5 (.int ((s1 : Int64).toInt32)) = fs5) (h8 : M.set x1 (.inr (0, fs5)) = M7) (h12 : M[x0]? = some (.inr (1, fs13))) (h15 : x0 ≠ x1) (h17 : fs13[0]? = some (.ref f16)) (h18 : M[f16]? = some (.inr (7, fs19))) (h21 : f16 ≠ x1) {rm : Room} {post : Option Value → List mC → Prop} (hm : mm_ (gLa X) y_To_step w_To_step rm [.ref f16] M7 post) (hR : gF X rm 1 k n) (hlen : ∀ r M', post r M' → M'.length = M7.length) (kk : ∀ r M', post r M' → gg X M' (k + rm.cells) (n + rm.slots) 45 [(0, .ref x0), (1, .ref x1)] (r.toList ++ [])) : gg X M k n 34 [(0, .ref x0), (1, .ref x1)] [.long s1, .ref x1] := by
  refine g_l2i ok d_Pa_readComparison_34 ?_
  have h3 : 5 < fs2.length := Nat.lt_of_lt_of_le (by decide) h4
  refine pf_Pa_169 ok d_Pa_readComparison_35 h1 h3 (fun _ => ⟨rfl, rfl⟩) ?_
  rw [h6]
  rw [h8]
  have h9 : M7[x1]? = some (.inr (0, fs5)) := by rw [← h8]; exact gs_eq h1
  have h10 : fs5[5]? = some (.int ((s1 : Int64).toInt32)) := by rw [← h6]; exact List.getElem?_set_self h3
  have h11 : 7 ≤ fs5.length := by rw [← h6, List.length_set]; exact h4
  refine g_aload_n ok d_Pa_readComparison_38 rfl (j := 0) rfl ?_
  have h14 : M7[x0]? = some (.inr (1, fs13)) := by rw [← h8]; exact (gs_ne (Ne.symm h15)).trans h12
  refine gf_Pa_15 ok d_Pa_readComparison_39 h14 h17 ?_
  have h20 : M7[f16]? = some (.inr (7, fs19)) := by rw [← h8]; exact (gs_ne (Ne.symm h21)).trans h18
  exact gc_Pa_97 (As := []) (rest := []) ok d_Pa_readComparison_42 hm rfl rfl (Nat.le_of_ble_eq_true rfl) hR h20 hlen kk
theorem k_Pa_readComparison_45 {X : gC} {M : List mC} {k n : Nat} {x0 : Nat} {x1 : Nat} {fs2 : List Value} (ok : gO X c_Pa_readComparison "TripleStore$Parser" w_Pa_readComparison) (h1 : M[x0]? = some (.inr (1, fs2))) {rm : Room} {post : Option Value → List mC → Prop} (hm : mm_ (gLa X) y_Pa_readSide w_Pa_readSide rm [.ref x0] M post) (hR : gF X rm 1 k n) (hlen : ∀ r M', post r M' → M'.length = M.length) (kk : ∀ r M', post r M' → gg X M' (k + rm.cells) (n + rm.slots) 49 [(0, .ref x0), (1, .ref x1)] (r.toList ++ [])) : gg X M k n 45 [(0, .ref x0), (1, .ref x1)] [] := by
  refine g_aload_n ok d_Pa_readComparison_45 rfl (j := 0) rfl ?_
  exact gc_Pa_152 (As := []) (rest := []) ok d_Pa_readComparison_46 hm rfl rfl (Nat.le_of_ble_eq_true rfl) hR h1 hlen kk
theorem k_Pa_readComparison_49 {X : gC} {M : List mC} {k n : Nat} {x0 : Nat} {x1 : Nat} {s0 : Int32} {fs2 : List Value} {f3 : Int64} {fs6 : List Value} {fs9 : List Value} {M11 : List mC} (ok : gO X c_Pa_readComparison "TripleStore$Parser" w_Pa_readComparison) (hl : gL X = 3) (h1 : M[x0]? = some (.inr (1, fs2))) (h4 : fs2[2]? = some (.long f3)) (h5 : M[x1]? = some (.inr (0, fs6))) (h8 : 7 ≤ fs6.length) (h10 : fs6.set 3 (.long f3) = fs9) (h12 : M.set x1 (.inr (0, fs9)) = M11) {l9 : Launch} {rm : Room} {M0 : List mC} {post : Option Value → List mC → Prop} (E : gE X l9 y_Pa_readComparison rm 3 (some .boolean) M0 post) (hz : narrow .boolean (.int s0) = .int s0) (hp : post (some (.int s0)) M11) (hk : k ≤ rm.cells) (hn : n ≤ rm.slots) : gg X M k n 49 [(0, .ref x0), (1, .ref x1)] [.int s0] := by
  refine g_istore_n (L' := [(0, .ref x0), (1, .ref x1), (2, .int s0)]) ok d_Pa_readComparison_49 rfl (by rw [hl]; decide) rfl ?_
  refine g_aload_n ok d_Pa_readComparison_50 rfl (j := 1) rfl ?_
  refine g_aload_n ok d_Pa_readComparison_51 rfl (j := 0) rfl ?_
  refine gf_Pa_9 ok d_Pa_readComparison_52 h1 h4 ?_
  have h7 : 3 < fs6.length := Nat.lt_of_lt_of_le (by decide) h8
  refine pf_Pa_158 ok d_Pa_readComparison_55 h5 h7 (fun _ => ⟨rfl, rfl⟩) ?_
  rw [h10]
  rw [h12]
  have h13 : M11[x1]? = some (.inr (0, fs9)) := by rw [← h12]; exact gs_eq h5
  have h14 : fs9[3]? = some (.long f3) := by rw [← h10]; exact List.getElem?_set_self h7
  have h15 : 7 ≤ fs9.length := by rw [← h10, List.length_set]; exact h8
  refine g_iload_n ok d_Pa_readComparison_58 rfl (j := 2) rfl ?_
  exact g_zret ok E d_Pa_readComparison_59 hz hp hk hn
theorem k_Pa_isAtComparison_0 {X : gC} {M : List mC} {k n : Nat} {x0 : Nat} {fs2 : List Value} {f3 : Nat} {fs6 : List Value} (ok : gO X c_Pa_isAtComparison "TripleStore$Parser" w_Pa_isAtComparison) (h1 : M[x0]? = some (.inr (1, fs2))) (h4 : fs2[0]? = some (.ref f3)) (h5 : M[f3]? = some (.inr (7, fs6))) {rm : Room} {post : Option Value → List mC → Prop} (hm : mm_ (gLa X) y_To_isAtSign w_To_isAtSign rm [.ref f3, .int 61] M post) (hR : gF X rm 2 k n) (hlen : ∀ r M', post r M' → M'.length = M.length) (kk : ∀ r M', post r M' → gg X M' (k + rm.cells) (n + rm.slots) 9 [(0, .ref x0)] (r.toList ++ [])) : gg X M k n 0 [(0, .ref x0)] [] := by
  refine g_aload_n ok d_Pa_isAtComparison_0 rfl (j := 0) rfl ?_
  refine gf_Pa_15 ok d_Pa_isAtComparison_1 h1 h4 ?_
  refine g_bipush (v := 61) ok d_Pa_isAtComparison_4 (by decide) ?_
  exact gc_Pa_100 (As := [.int 61]) (rest := []) ok d_Pa_isAtComparison_6 hm rfl rfl (Nat.le_of_ble_eq_true rfl) hR h5 hlen kk
theorem k_Pa_isAtComparison_9 {X : gC} {M : List mC} {k n : Nat} {x0 : Nat} {s0 : Int32} (ok : gO X c_Pa_isAtComparison "TripleStore$Parser" w_Pa_isAtComparison)  (kt : ¬ s0 = 0 → gg X M k n 48 [] []) (kf : s0 = 0 → gg X M k n 12 [(0, .ref x0)] []) : gg X M k n 9 [(0, .ref x0)] [.int s0] := by
  exact g_if_ne (tgt := 48) ok d_Pa_isAtComparison_9 (by decide) (fun z => (gg_keep [] (kt z))) (fun z => (kf z))
theorem k_Pa_isAtComparison_12 {X : gC} {M : List mC} {k n : Nat} {x0 : Nat} {fs2 : List Value} {f3 : Nat} {fs6 : List Value} (ok : gO X c_Pa_isAtComparison "TripleStore$Parser" w_Pa_isAtComparison) (h1 : M[x0]? = some (.inr (1, fs2))) (h4 : fs2[0]? = some (.ref f3)) (h5 : M[f3]? = some (.inr (7, fs6))) {rm : Room} {post : Option Value → List mC → Prop} (hm : mm_ (gLa X) y_To_isAtSign w_To_isAtSign rm [.ref f3, .int 33] M post) (hR : gF X rm 2 k n) (hlen : ∀ r M', post r M' → M'.length = M.length) (kk : ∀ r M', post r M' → gg X M' (k + rm.cells) (n + rm.slots) 21 [(0, .ref x0)] (r.toList ++ [])) : gg X M k n 12 [(0, .ref x0)] [] := by
  refine g_aload_n ok d_Pa_isAtComparison_12 rfl (j := 0) rfl ?_
  refine gf_Pa_15 ok d_Pa_isAtComparison_13 h1 h4 ?_
  refine g_bipush (v := 33) ok d_Pa_isAtComparison_16 (by decide) ?_
  exact gc_Pa_100 (As := [.int 33]) (rest := []) ok d_Pa_isAtComparison_18 hm rfl rfl (Nat.le_of_ble_eq_true rfl) hR h5 hlen kk
theorem k_Pa_isAtComparison_21 {X : gC} {M : List mC} {k n : Nat} {x0 : Nat} {s0 : Int32} (ok : gO X c_Pa_isAtComparison "TripleStore$Parser" w_Pa_isAtComparison)  (kt : ¬ s0 = 0 → gg X M k n 48 [] []) (kf : s0 = 0 → gg X M k n 24 [(0, .ref x0)] []) : gg X M k n 21 [(0, .ref x0)] [.int s0] := by
  exact g_if_ne (tgt := 48) ok d_Pa_isAtComparison_21 (by decide) (fun z => (gg_keep [] (kt z))) (fun z => (kf z))
theorem k_Pa_isAtComparison_24 {X : gC} {M : List mC} {k n : Nat} {x0 : Nat} {fs2 : List Value} {f3 : Nat} {fs6 : List Value} (ok : gO X c_Pa_isAtComparison "TripleStore$Parser" w_Pa_isAtComparison) (h1 : M[x0]? = some (.inr (1, fs2))) (h4 : fs2[0]? = some (.ref f3)) (h5 : M[f3]? = some (.inr (7, fs6))) {rm : Room} {post : Option Value → List mC → Prop} (hm : mm_ (gLa X) y_To_isAtSign w_To_isAtSign rm [.ref f3, .int 60] M post) (hR : gF X rm 2 k n) (hlen : ∀ r M', post r M' → M'.length = M.length) (kk : ∀ r M', post r M' → gg X M' (k + rm.cells) (n + rm.slots) 33 [(0, .ref x0)] (r.toList ++ [])) : gg X M k n 24 [(0, .ref x0)] [] := by
  refine g_aload_n ok d_Pa_isAtComparison_24 rfl (j := 0) rfl ?_
  refine gf_Pa_15 ok d_Pa_isAtComparison_25 h1 h4 ?_
  refine g_bipush (v := 60) ok d_Pa_isAtComparison_28 (by decide) ?_
  exact gc_Pa_100 (As := [.int 60]) (rest := []) ok d_Pa_isAtComparison_30 hm rfl rfl (Nat.le_of_ble_eq_true rfl) hR h5 hlen kk
theorem k_Pa_isAtComparison_33 {X : gC} {M : List mC} {k n : Nat} {x0 : Nat} {s0 : Int32} (ok : gO X c_Pa_isAtComparison "TripleStore$Parser" w_Pa_isAtComparison)  (kt : ¬ s0 = 0 → gg X M k n 48 [] []) (kf : s0 = 0 → gg X M k n 36 [(0, .ref x0)] []) : gg X M k n 33 [(0, .ref x0)] [.int s0] := by
  exact g_if_ne (tgt := 48) ok d_Pa_isAtComparison_33 (by decide) (fun z => (gg_keep [] (kt z))) (fun z => (kf z))
theorem k_Pa_isAtComparison_36 {X : gC} {M : List mC} {k n : Nat} {x0 : Nat} {fs2 : List Value} {f3 : Nat} {fs6 : List Value} (ok : gO X c_Pa_isAtComparison "TripleStore$Parser" w_Pa_isAtComparison) (h1 : M[x0]? = some (.inr (1, fs2))) (h4 : fs2[0]? = some (.ref f3)) (h5 : M[f3]? = some (.inr (7, fs6))) {rm : Room} {post : Option Value → List mC → Prop} (hm : mm_ (gLa X) y_To_isAtSign w_To_isAtSign rm [.ref f3, .int 62] M post) (hR : gF X rm 2 k n) (hlen : ∀ r M', post r M' → M'.length = M.length) (kk : ∀ r M', post r M' → gg X M' (k + rm.cells) (n + rm.slots) 45 [] (r.toList ++ [])) : gg X M k n 36 [(0, .ref x0)] [] := by
  refine g_aload_n ok d_Pa_isAtComparison_36 rfl (j := 0) rfl ?_
  refine gf_Pa_15 ok d_Pa_isAtComparison_37 h1 h4 ?_
  refine g_bipush (v := 62) ok d_Pa_isAtComparison_40 (by decide) ?_
  exact gc_Pa_100 (As := [.int 62]) (rest := []) ok d_Pa_isAtComparison_42 hm rfl rfl (Nat.le_of_ble_eq_true rfl) hR h5 hlen (fun r M' q => (gg_keep [] (kk r M' q)))
theorem k_Pa_isAtComparison_45 {X : gC} {M : List mC} {k n : Nat} {s0 : Int32} (ok : gO X c_Pa_isAtComparison "TripleStore$Parser" w_Pa_isAtComparison)  (kt : s0 = 0 → gg X M k n 52 [] []) (kf : ¬ s0 = 0 → gg X M k n 48 [] []) : gg X M k n 45 [] [.int s0] := by
  exact g_if_eq (tgt := 52) ok d_Pa_isAtComparison_45 (by decide) (fun z => (kt z)) (fun z => (kf z))
theorem k_Pa_isAtComparison_48 {X : gC} {M : List mC} {k n : Nat}  (ok : gO X c_Pa_isAtComparison "TripleStore$Parser" w_Pa_isAtComparison)  (kk : gg X M k n 53 [] [.int 1]) : gg X M k n 48 [] [] := by
  refine g_iconst (v := 1) ok d_Pa_isAtComparison_48 (by decide) ?_
  exact g_goto (tgt := 53) ok d_Pa_isAtComparison_49 (by decide) kk
theorem k_Pa_isAtComparison_52 {X : gC} {M : List mC} {k n : Nat}  (ok : gO X c_Pa_isAtComparison "TripleStore$Parser" w_Pa_isAtComparison)  (kk : gg X M k n 53 [] [.int 0]) : gg X M k n 52 [] [] := by
  refine g_iconst (v := 0) ok d_Pa_isAtComparison_52 (by decide) ?_
  exact kk
theorem k_Pa_isAtComparison_53 {X : gC} {M : List mC} {k n : Nat} {s0 : Int32} (ok : gO X c_Pa_isAtComparison "TripleStore$Parser" w_Pa_isAtComparison)  {l9 : Launch} {rm : Room} {M0 : List mC} {post : Option Value → List mC → Prop} (E : gE X l9 y_Pa_isAtComparison rm 1 (some .boolean) M0 post) (hz : narrow .boolean (.int s0) = .int s0) (hp : post (some (.int s0)) M) (hk : k ≤ rm.cells) (hn : n ≤ rm.slots) : gg X M k n 53 [] [.int s0] := by
  exact g_zret ok E d_Pa_isAtComparison_53 hz hp hk hn
theorem k_Pa_readSide_0 {X : gC} {M : List mC} {k n : Nat} {x0 : Nat} {fs2 : List Value} {f3 : Nat} {fs6 : List Value} (ok : gO X c_Pa_readSide "TripleStore$Parser" w_Pa_readSide) (h1 : M[x0]? = some (.inr (1, fs2))) (h4 : fs2[0]? = some (.ref f3)) (h5 : M[f3]? = some (.inr (7, fs6))) {rm : Room} {post : Option Value → List mC → Prop} (hm : mm_ (gLa X) y_To_kind w_To_kind rm [.ref f3] M post) (hR : gF X rm 1 k n) (hlen : ∀ r M', post r M' → M'.length = M.length) (kk : ∀ r M', post r M' → gg X M' (k + rm.cells) (n + rm.slots) 7 [(0, .ref x0)] (r.toList ++ [])) : gg X M k n 0 [(0, .ref x0)] [] := by
  refine g_aload_n ok d_Pa_readSide_0 rfl (j := 0) rfl ?_
  refine gf_Pa_15 ok d_Pa_readSide_1 h1 h4 ?_
  exact gc_Pa_50 (As := []) (rest := []) ok d_Pa_readSide_4 hm rfl rfl (Nat.le_of_ble_eq_true rfl) hR h5 hlen kk
theorem k_Pa_readSide_7 {X : gC} {M : List mC} {k n : Nat} {x0 : Nat} {s0 : Int32} (ok : gO X c_Pa_readSide "TripleStore$Parser" w_Pa_readSide)  (kt : s0 = 4 → gg X M k n 16 [(0, .ref x0)] []) (kf : ¬ s0 = 4 → gg X M k n 11 [(0, .ref x0)] []) : gg X M k n 7 [(0, .ref x0)] [.int s0] := by
  refine g_iconst (v := 4) ok d_Pa_readSide_7 (by decide) ?_
  exact g_icmp_eq (tgt := 16) ok d_Pa_readSide_8 (by decide) (fun z => (kt z)) (fun z => (kf z))
theorem k_Pa_readSide_11 {X : gC} {M : List mC} {k n : Nat} {x0 : Nat} {fs2 : List Value} (ok : gO X c_Pa_readSide "TripleStore$Parser" w_Pa_readSide) (h1 : M[x0]? = some (.inr (1, fs2))) {rm : Room} {post : Option Value → List mC → Prop} (hm : mm_ (gLa X) y_Pa_readVariable w_Pa_readVariable rm [.ref x0] M post) (hR : gF X rm 2 k n) (hlen : ∀ r M', post r M' → M'.length = M.length) (kk : ∀ r M', post r M' → gg X M' (k + rm.cells) (n + rm.slots) 15 [] (r.toList ++ [])) : gg X M k n 11 [(0, .ref x0)] [] := by
  refine g_aload_n ok d_Pa_readSide_11 rfl (j := 0) rfl ?_
  exact gc_Pa_60 (As := []) (rest := []) ok d_Pa_readSide_12 hm rfl rfl (Nat.le_of_ble_eq_true rfl) hR h1 hlen (fun r M' q => (gg_keep [] (kk r M' q)))
theorem k_Pa_readSide_15 {X : gC} {M : List mC} {k n : Nat} {s0 : Int32} (ok : gO X c_Pa_readSide "TripleStore$Parser" w_Pa_readSide)  {l9 : Launch} {rm : Room} {M0 : List mC} {post : Option Value → List mC → Prop} (E : gE X l9 y_Pa_readSide rm 1 (some .boolean) M0 post) (hz : narrow .boolean (.int s0) = .int s0) (hp : post (some (.int s0)) M) (hk : k ≤ rm.cells) (hn : n ≤ rm.slots) : gg X M k n 15 [] [.int s0] := by
  exact g_zret ok E d_Pa_readSide_15 hz hp hk hn
theorem k_Pa_readSide_16 {X : gC} {M : List mC} {k n : Nat} {x0 : Nat} {fs2 : List Value} {f3 : Nat} {fs6 : List Value} (ok : gO X c_Pa_readSide "TripleStore$Parser" w_Pa_readSide) (h1 : M[x0]? = some (.inr (1, fs2))) (h4 : fs2[0]? = some (.ref f3)) (h5 : M[f3]? = some (.inr (7, fs6))) {rm : Room} {post : Option Value → List mC → Prop} (hm : mm_ (gLa X) y_To_value w_To_value rm [.ref f3] M post) (hR : gF X rm 1 k n) (hlen : ∀ r M', post r M' → M'.length = M.length) (kk : ∀ r M', post r M' → gg X M' (k + rm.cells) (n + rm.slots) 24 [(0, .ref x0)] (r.toList ++ [.ref x0])) : gg X M k n 16 [(0, .ref x0)] [] := by
  refine g_aload_n ok d_Pa_readSide_16 rfl (j := 0) rfl ?_
  refine g_aload_n ok d_Pa_readSide_17 rfl (j := 0) rfl ?_
  refine gf_Pa_15 ok d_Pa_readSide_18 h1 h4 ?_
  exact gc_Pa_85 (As := []) (rest := [.ref x0]) ok d_Pa_readSide_21 hm rfl rfl (Nat.le_of_ble_eq_true rfl) hR h5 hlen kk
theorem k_Pa_readSide_24 {X : gC} {M : List mC} {k n : Nat} {x0 : Nat} {s1 : Int64} {fs2 : List Value} {fs5 : List Value} {M7 : List mC} {f12 : Nat} {fs16 : List Value} (ok : gO X c_Pa_readSide "TripleStore$Parser" w_Pa_readSide) (h1 : M[x0]? = some (.inr (1, fs2))) (h4 : 3 ≤ fs2.length) (h6 : fs2.set 2 (.long s1) = fs5) (h8 : M.set x0 (.inr (1, fs5)) = M7) (h13 : fs2[0]? = some (.ref f12)) (h15 : M[f12]? = some (.inr (7, fs16))) (h18 : f12 ≠ x0) {rm : Room} {post : Option Value → List mC → Prop} (hm : mm_ (gLa X) y_To_step w_To_step rm [.ref f12] M7 post) (hR : gF X rm 1 k n) (hlen : ∀ r M', post r M' → M'.length = M7.length) (kk : ∀ r M', post r M' → gg X M' (k + rm.cells) (n + rm.slots) 34 [] (r.toList ++ [])) : gg X M k n 24 [(0, .ref x0)] [.long s1, .ref x0] := by
  have h3 : 2 < fs2.length := Nat.lt_of_lt_of_le (by decide) h4
  refine pf_Pa_9 ok d_Pa_readSide_24 h1 h3 (fun _ => ⟨rfl, rfl⟩) ?_
  rw [h6]
  rw [h8]
  have h9 : M7[x0]? = some (.inr (1, fs5)) := by rw [← h8]; exact gs_eq h1
  have h10 : fs5[2]? = some (.long s1) := by rw [← h6]; exact List.getElem?_set_self h3
  have h11 : 3 ≤ fs5.length := by rw [← h6, List.length_set]; exact h4
  refine g_aload_n ok d_Pa_readSide_27 rfl (j := 0) rfl ?_
  have h14 : fs5[0]? = some (.ref f12) := by rw [← h6]; exact (List.getElem?_set_ne (by decide : 2 ≠ 0)).trans h13
  refine gf_Pa_15 ok d_Pa_readSide_28 h9 h14 ?_
  have h17 : M7[f12]? = some (.inr (7, fs16)) := by rw [← h8]; exact (gs_ne (Ne.symm h18)).trans h15
  exact gc_Pa_97 (As := []) (rest := []) ok d_Pa_readSide_31 hm rfl rfl (Nat.le_of_ble_eq_true rfl) hR h17 hlen (fun r M' q => (gg_keep [] (kk r M' q)))
theorem k_Pa_readSide_34 {X : gC} {M : List mC} {k n : Nat}  (ok : gO X c_Pa_readSide "TripleStore$Parser" w_Pa_readSide)  {l9 : Launch} {rm : Room} {M0 : List mC} {post : Option Value → List mC → Prop} (E : gE X l9 y_Pa_readSide rm 1 (some .boolean) M0 post) (hp : post (some (.int 1)) M) (hk : k ≤ rm.cells) (hn : n ≤ rm.slots) : gg X M k n 34 [] [] := by
  refine g_iconst (v := 1) ok d_Pa_readSide_34 (by decide) ?_
  exact g_zret ok E d_Pa_readSide_35 rfl hp hk hn
theorem k_Pa_readVariable_0 {X : gC} {M : List mC} {k n : Nat} {x0 : Nat} {fs2 : List Value} {f3 : Nat} {fs6 : List Value} (ok : gO X c_Pa_readVariable "TripleStore$Parser" w_Pa_readVariable) (h1 : M[x0]? = some (.inr (1, fs2))) (h4 : fs2[0]? = some (.ref f3)) (h5 : M[f3]? = some (.inr (7, fs6))) {rm : Room} {post : Option Value → List mC → Prop} (hm : mm_ (gLa X) y_To_kind w_To_kind rm [.ref f3] M post) (hR : gF X rm 1 k n) (hlen : ∀ r M', post r M' → M'.length = M.length) (kk : ∀ r M', post r M' → gg X M' (k + rm.cells) (n + rm.slots) 7 [(0, .ref x0)] (r.toList ++ [])) : gg X M k n 0 [(0, .ref x0)] [] := by
  refine g_aload_n ok d_Pa_readVariable_0 rfl (j := 0) rfl ?_
  refine gf_Pa_15 ok d_Pa_readVariable_1 h1 h4 ?_
  exact gc_Pa_50 (As := []) (rest := []) ok d_Pa_readVariable_4 hm rfl rfl (Nat.le_of_ble_eq_true rfl) hR h5 hlen kk
theorem k_Pa_readVariable_7 {X : gC} {M : List mC} {k n : Nat} {x0 : Nat} {s0 : Int32} (ok : gO X c_Pa_readVariable "TripleStore$Parser" w_Pa_readVariable)  (kt : s0 = 5 → gg X M k n 13 [(0, .ref x0)] []) (kf : ¬ s0 = 5 → gg X M k n 11 [] []) : gg X M k n 7 [(0, .ref x0)] [.int s0] := by
  refine g_iconst (v := 5) ok d_Pa_readVariable_7 (by decide) ?_
  exact g_icmp_eq (tgt := 13) ok d_Pa_readVariable_8 (by decide) (fun z => (kt z)) (fun z => (gg_keep [] (kf z)))
theorem k_Pa_readVariable_11 {X : gC} {M : List mC} {k n : Nat}  (ok : gO X c_Pa_readVariable "TripleStore$Parser" w_Pa_readVariable)  {l9 : Launch} {rm : Room} {M0 : List mC} {post : Option Value → List mC → Prop} (E : gE X l9 y_Pa_readVariable rm 2 (some .boolean) M0 post) (hp : post (some (.int 0)) M) (hk : k ≤ rm.cells) (hn : n ≤ rm.slots) : gg X M k n 11 [] [] := by
  refine g_iconst (v := 0) ok d_Pa_readVariable_11 (by decide) ?_
  exact g_zret ok E d_Pa_readVariable_12 rfl hp hk hn
theorem k_Pa_readVariable_13 {X : gC} {M : List mC} {k n : Nat} {x0 : Nat} {fs2 : List Value} {f3 : Nat} {f5 : Nat} {fs8 : List Value} (ok : gO X c_Pa_readVariable "TripleStore$Parser" w_Pa_readVariable) (h1 : M[x0]? = some (.inr (1, fs2))) (h4 : fs2[1]? = some (.ref f3)) (h6 : fs2[0]? = some (.ref f5)) (h7 : M[f5]? = some (.inr (7, fs8))) {rm : Room} {post : Option Value → List mC → Prop} (hm : mm_ (gLa X) y_To_value w_To_value rm [.ref f5] M post) (hR : gF X rm 1 k n) (hlen : ∀ r M', post r M' → M'.length = M.length) (kk : ∀ r M', post r M' → gg X M' (k + rm.cells) (n + rm.slots) 24 [(0, .ref x0)] (r.toList ++ [.ref f3])) : gg X M k n 13 [(0, .ref x0)] [] := by
  refine g_aload_n ok d_Pa_readVariable_13 rfl (j := 0) rfl ?_
  refine gf_Pa_19 ok d_Pa_readVariable_14 h1 h4 ?_
  refine g_aload_n ok d_Pa_readVariable_17 rfl (j := 0) rfl ?_
  refine gf_Pa_15 ok d_Pa_readVariable_18 h1 h6 ?_
  exact gc_Pa_85 (As := []) (rest := [.ref f3]) ok d_Pa_readVariable_21 hm rfl rfl (Nat.le_of_ble_eq_true rfl) hR h7 hlen kk
theorem k_Pa_readVariable_24 {X : gC} {M : List mC} {k n : Nat} {x0 : Nat} {s0 : Nat} {s1 : Int64} {fs2 : List Value} (ok : gO X c_Pa_readVariable "TripleStore$Parser" w_Pa_readVariable) (h1 : M[s0]? = some (.inr (2, fs2))) {rm : Room} {post : Option Value → List mC → Prop} (hm : mm_ (gLa X) y_Qu_variable w_Qu_variable rm [.ref s0, .long s1] M post) (hR : gF X rm 4 k n) (hlen : ∀ r M', post r M' → M'.length = M.length) (kk : ∀ r M', post r M' → gg X M' (k + rm.cells) (n + rm.slots) 27 [(0, .ref x0)] (r.toList ++ [])) : gg X M k n 24 [(0, .ref x0)] [.long s1, .ref s0] := by
  exact gc_Pa_175 (As := [.long s1]) (rest := []) ok d_Pa_readVariable_24 hm rfl rfl (Nat.le_of_ble_eq_true rfl) hR h1 hlen kk
theorem k_Pa_readVariable_27 {X : gC} {M : List mC} {k n : Nat} {x0 : Nat} {s0 : Int32} (ok : gO X c_Pa_readVariable "TripleStore$Parser" w_Pa_readVariable) (hl : gL X = 2)  (kt : ¬ s0 = (-1) → gg X M k n 35 [(0, .ref x0), (1, .int s0)] []) (kf : s0 = (-1) → gg X M k n 33 [] []) : gg X M k n 27 [(0, .ref x0)] [.int s0] := by
  refine g_istore_n (L' := [(0, .ref x0), (1, .int s0)]) ok d_Pa_readVariable_27 rfl (by rw [hl]; decide) rfl ?_
  refine g_iload_n ok d_Pa_readVariable_28 rfl (j := 1) rfl ?_
  refine g_iconst (v := (-1)) ok d_Pa_readVariable_29 (by decide) ?_
  exact g_icmp_ne (tgt := 35) ok d_Pa_readVariable_30 (by decide) (fun z => (kt z)) (fun z => (gg_keep [] (kf z)))
theorem k_Pa_readVariable_33 {X : gC} {M : List mC} {k n : Nat}  (ok : gO X c_Pa_readVariable "TripleStore$Parser" w_Pa_readVariable)  {l9 : Launch} {rm : Room} {M0 : List mC} {post : Option Value → List mC → Prop} (E : gE X l9 y_Pa_readVariable rm 2 (some .boolean) M0 post) (hp : post (some (.int 0)) M) (hk : k ≤ rm.cells) (hn : n ≤ rm.slots) : gg X M k n 33 [] [] := by
  refine g_iconst (v := 0) ok d_Pa_readVariable_33 (by decide) ?_
  exact g_zret ok E d_Pa_readVariable_34 rfl hp hk hn
theorem k_Pa_readVariable_35 {X : gC} {M : List mC} {k n : Nat} {x0 : Nat} {x1 : Int32} {fs2 : List Value} {fs5 : List Value} {M7 : List mC} {f12 : Nat} {fs16 : List Value} (ok : gO X c_Pa_readVariable "TripleStore$Parser" w_Pa_readVariable) (h1 : M[x0]? = some (.inr (1, fs2))) (h4 : 3 ≤ fs2.length) (h6 : fs2.set 2 (.long (((x1 ^^^ (-1)) : Int32).toInt64)) = fs5) (h8 : M.set x0 (.inr (1, fs5)) = M7) (h13 : fs2[0]? = some (.ref f12)) (h15 : M[f12]? = some (.inr (7, fs16))) (h18 : f12 ≠ x0) {rm : Room} {post : Option Value → List mC → Prop} (hm : mm_ (gLa X) y_To_step w_To_step rm [.ref f12] M7 post) (hR : gF X rm 1 k n) (hlen : ∀ r M', post r M' → M'.length = M7.length) (kk : ∀ r M', post r M' → gg X M' (k + rm.cells) (n + rm.slots) 50 [] (r.toList ++ [])) : gg X M k n 35 [(0, .ref x0), (1, .int x1)] [] := by
  refine g_aload_n ok d_Pa_readVariable_35 rfl (j := 0) rfl ?_
  refine g_iload_n ok d_Pa_readVariable_36 rfl (j := 1) rfl ?_
  refine g_iconst (v := (-1)) ok d_Pa_readVariable_37 (by decide) ?_
  refine g_ixor ok d_Pa_readVariable_38 ?_
  refine g_i2l ok d_Pa_readVariable_39 ?_
  have h3 : 2 < fs2.length := Nat.lt_of_lt_of_le (by decide) h4
  refine pf_Pa_9 ok d_Pa_readVariable_40 h1 h3 (fun _ => ⟨rfl, rfl⟩) ?_
  rw [h6]
  rw [h8]
  have h9 : M7[x0]? = some (.inr (1, fs5)) := by rw [← h8]; exact gs_eq h1
  have h10 : fs5[2]? = some (.long (((x1 ^^^ (-1)) : Int32).toInt64)) := by rw [← h6]; exact List.getElem?_set_self h3
  have h11 : 3 ≤ fs5.length := by rw [← h6, List.length_set]; exact h4
  refine g_aload_n ok d_Pa_readVariable_43 rfl (j := 0) rfl ?_
  have h14 : fs5[0]? = some (.ref f12) := by rw [← h6]; exact (List.getElem?_set_ne (by decide : 2 ≠ 0)).trans h13
  refine gf_Pa_15 ok d_Pa_readVariable_44 h9 h14 ?_
  have h17 : M7[f12]? = some (.inr (7, fs16)) := by rw [← h8]; exact (gs_ne (Ne.symm h18)).trans h15
  exact gc_Pa_97 (As := []) (rest := []) ok d_Pa_readVariable_47 hm rfl rfl (Nat.le_of_ble_eq_true rfl) hR h17 hlen (fun r M' q => (gg_keep [] (kk r M' q)))
theorem k_Pa_readVariable_50 {X : gC} {M : List mC} {k n : Nat}  (ok : gO X c_Pa_readVariable "TripleStore$Parser" w_Pa_readVariable)  {l9 : Launch} {rm : Room} {M0 : List mC} {post : Option Value → List mC → Prop} (E : gE X l9 y_Pa_readVariable rm 2 (some .boolean) M0 post) (hp : post (some (.int 1)) M) (hk : k ≤ rm.cells) (hn : n ≤ rm.slots) : gg X M k n 50 [] [] := by
  refine g_iconst (v := 1) ok d_Pa_readVariable_50 (by decide) ?_
  exact g_zret ok E d_Pa_readVariable_51 rfl hp hk hn
theorem k_Qu_init_0 {X : gC} {M : List mC} {k n : Nat} {x0 : Nat} (ok : gO X c_Qu_init "TripleStore$Query" w_Qu_init)  (hf : 1 ≤ (gR X).frames) (hl2 : (([] : List Value).map fun v => v.category).sum + 12 ≤ (gR X).locals) (kk : gg X M k n 4 [(0, .ref x0)] []) : gg X M k n 0 [(0, .ref x0)] [] := by
  refine g_aload_n ok d_Qu_init_0 rfl (j := 0) rfl ?_
  exact g_objI ok ml_Qu_3 wn_Object i_Object d_Qu_init_1 hf hl2 kk
theorem k_Qu_init_4 {X : gC} {M : List mC} {k n : Nat} {x0 : Nat} {M4 : List mC} {q5 : Nat} {fs10 : List Value} {fs14 : List Value} {M16 : List mC} {fs22 : List Value} {M24 : List mC} {M33 : List mC} {q34 : Nat} {fs42 : List Value} {M44 : List mC} {fs52 : List Value} {M54 : List mC} {fs63 : List Value} {M65 : List mC} {fs75 : List Value} {M77 : List mC} {fs88 : List Value} {M90 : List mC} {fs102 : List Value} {M104 : List mC} {M119 : List mC} {q120 : Nat} {fs139 : List Value} {M141 : List mC} {fs155 : List Value} {M157 : List mC} {M174 : List mC} {q175 : Nat} {fs189 : List Value} {M191 : List mC} {fs207 : List Value} {M209 : List mC} (ok : gO X c_Qu_init "TripleStore$Query" w_Qu_init) (hl : gL X = 2) (hin : (gM X).name = "<init>") (h1 : k + 1 ≤ (gR X).cells) (h2 : n + 6 ≤ (gR X).slots) (h3 : gW M [(0, .ref x0)] [.ref x0]) (h6 : M ++ [.inl (1, 6, .inr (.inl (fun _ => 0)))] = M4) (h7 : M.length = q5) (h9 : M[x0]? = some (.inr (2, fs10))) (h13 : 12 ≤ fs10.length) (h15 : fs10.set 0 (.ref q5) = fs14) (h17 : M4.set x0 (.inr (2, fs14)) = M16) (h23 : fs14.set 1 (.int 0) = fs22) (h25 : M16.set x0 (.inr (2, fs22)) = M24) (h30 : k + 1 + 1 ≤ (gR X).cells) (h31 : n + 6 + 6 ≤ (gR X).slots) (h32 : gW M24 [(0, .ref x0)] [.ref x0]) (h35 : M24 ++ [.inl (0, 6, .inl (fun _ => 0))] = M33) (h36 : M24.length = q34) (h43 : fs22.set 2 (.ref q34) = fs42) (h45 : M33.set x0 (.inr (2, fs42)) = M44) (h53 : fs42.set 3 (.int 0) = fs52) (h55 : M44.set x0 (.inr (2, fs52)) = M54) (h64 : fs52.set 4 (.int 0) = fs63) (h66 : M54.set x0 (.inr (2, fs63)) = M65) (h76 : fs63.set 5 (.int (-1)) = fs75) (h78 : M65.set x0 (.inr (2, fs75)) = M77) (h89 : fs75.set 6 (.int 0) = fs88) (h91 : M77.set x0 (.inr (2, fs88)) = M90) (h103 : fs88.set 7 (.int 150) = fs102) (h105 : M90.set x0 (.inr (2, fs102)) = M104) (h116 : k + 1 + 1 + 1 ≤ (gR X).cells) (h117 : n + 6 + 6 + 12 ≤ (gR X).slots) (h118 : gW M104 [(0, .ref x0)] [.ref x0]) (h121 : M104 ++ [.inl (4, 12, .inr (.inr (.inr (.inr (fun _ => none)))))] = M119) (h122 : M104.length = q120) (h140 : fs102.set 8 (.ref q120) = fs139) (h142 : M119.set x0 (.inr (2, fs139)) = M141) (h156 : fs139.set 9 (.int 0) = fs155) (h158 : M141.set x0 (.inr (2, fs155)) = M157) (h171 : k + 1 + 1 + 1 + 1 ≤ (gR X).cells) (h172 : n + 6 + 6 + 12 + 145 ≤ (gR X).slots) (h173 : gW M157 [(0, .ref x0)] [.ref x0]) (h176 : M157 ++ [.inl (0, 145, .inl (fun _ => 0))] = M174) (h177 : M157.length = q175) (h190 : fs155.set 10 (.ref q175) = fs189) (h192 : M174.set x0 (.inr (2, fs189)) = M191) (h208 : fs189.set 11 (.int 0) = fs207) (h210 : M191.set x0 (.inr (2, fs207)) = M209) (kk : gg X M209 (k + 1 + 1 + 1 + 1) (n + 6 + 6 + 12 + 145) 82 [(0, .ref x0), (1, .int 0)] []) : gg X M k n 4 [(0, .ref x0)] [] := by
  refine g_aload_n ok d_Qu_init_4 rfl (j := 0) rfl ?_
  refine g_bipush (v := 6) ok d_Qu_init_5 (by decide) ?_
  refine g_newa (atype := .long) (ty := .long) (t := 1) (N := 6) (a0 := (6, .inr (.inl (fun _ => 0)))) ok (List.mem_cons_of_mem _ (gT_at 56 (by decide +kernel) (by decide +kernel))) rfl rfl (fun _ => rfl) (fun _ => rfl) (by decide) (by decide) (by decide) d_Qu_init_7 h1 h2 h3 ?_
  rw [h6, h7]
  have h8 : M4[q5]? = some (.inl (1, 6, .inr (.inl (fun _ => 0)))) := by rw [← h6, ← h7]; exact ga_new _ _
  have h11 : M4[x0]? = some (.inr (2, fs10)) := by rw [← h6]; exact ga_old h9
  have h12 : 0 < fs10.length := Nat.lt_of_lt_of_le (by decide) h13
  refine pf_Qu_9 ok hin d_Qu_init_9 h11 h12 (fun _ => ⟨rfl, rfl⟩) ?_
  rw [h15]
  rw [h17]
  have h18 : M16[x0]? = some (.inr (2, fs14)) := by rw [← h17]; exact gs_eq h11
  have h19 : fs14[0]? = some (.ref q5) := by rw [← h15]; exact List.getElem?_set_self h12
  have h20 : 12 ≤ fs14.length := by rw [← h15, List.length_set]; exact h13
  refine g_aload_n ok d_Qu_init_12 rfl (j := 0) rfl ?_
  refine g_iconst (v := 0) ok d_Qu_init_13 (by decide) ?_
  have h21 : 1 < fs14.length := Nat.lt_of_lt_of_le (by decide) h20
  refine pf_Qu_15 ok d_Qu_init_14 h18 h21 (fun _ => ⟨rfl, rfl⟩) ?_
  rw [h23]
  rw [h25]
  have h26 : M24[x0]? = some (.inr (2, fs22)) := by rw [← h25]; exact gs_eq h18
  have h27 : fs22[0]? = some (.ref q5) := by rw [← h23]; exact (List.getElem?_set_ne (by decide : 1 ≠ 0)).trans h19
  have h28 : fs22[1]? = some (.int 0) := by rw [← h23]; exact List.getElem?_set_self h21
  have h29 : 12 ≤ fs22.length := by rw [← h23, List.length_set]; exact h20
  refine g_aload_n ok d_Qu_init_17 rfl (j := 0) rfl ?_
  refine g_bipush (v := 6) ok d_Qu_init_18 (by decide) ?_
  refine g_newa (atype := .int) (ty := .int) (t := 0) (N := 6) (a0 := (6, .inl (fun _ => 0))) ok (List.mem_cons_of_mem _ (gT_at 83 (by decide +kernel) (by decide +kernel))) rfl rfl (fun _ => rfl) (fun _ => rfl) (by decide) (by decide) (by decide) d_Qu_init_20 h30 h31 h32 ?_
  rw [h35, h36]
  have h37 : M33[q34]? = some (.inl (0, 6, .inl (fun _ => 0))) := by rw [← h35, ← h36]; exact ga_new _ _
  have h38 : M16[q5]? = some (.inl (1, 6, .inr (.inl (fun _ => 0)))) := by rw [← h17]; exact (gs_ne (Ne.symm (ne_ao h8 h11))).trans h8
  have h39 : M24[q5]? = some (.inl (1, 6, .inr (.inl (fun _ => 0)))) := by rw [← h25]; exact (gs_ne (Ne.symm (ne_ao h38 h18))).trans h38
  have h40 : M33[x0]? = some (.inr (2, fs22)) := by rw [← h35]; exact ga_old h26
  have h41 : 2 < fs22.length := Nat.lt_of_lt_of_le (by decide) h29
  refine pf_Qu_19 ok hin d_Qu_init_22 h40 h41 (fun _ => ⟨rfl, rfl⟩) ?_
  rw [h43]
  rw [h45]
  have h46 : M44[x0]? = some (.inr (2, fs42)) := by rw [← h45]; exact gs_eq h40
  have h47 : fs42[0]? = some (.ref q5) := by rw [← h43]; exact (List.getElem?_set_ne (by decide : 2 ≠ 0)).trans h27
  have h48 : fs42[1]? = some (.int 0) := by rw [← h43]; exact (List.getElem?_set_ne (by decide : 2 ≠ 1)).trans h28
  have h49 : fs42[2]? = some (.ref q34) := by rw [← h43]; exact List.getElem?_set_self h41
  have h50 : 12 ≤ fs42.length := by rw [← h43, List.length_set]; exact h29
  refine g_aload_n ok d_Qu_init_25 rfl (j := 0) rfl ?_
  refine g_iconst (v := 0) ok d_Qu_init_26 (by decide) ?_
  have h51 : 3 < fs42.length := Nat.lt_of_lt_of_le (by decide) h50
  refine pf_Qu_23 ok d_Qu_init_27 h46 h51 (fun _ => ⟨rfl, rfl⟩) ?_
  rw [h53]
  rw [h55]
  have h56 : M54[x0]? = some (.inr (2, fs52)) := by rw [← h55]; exact gs_eq h46
  have h57 : fs52[0]? = some (.ref q5) := by rw [← h53]; exact (List.getElem?_set_ne (by decide : 3 ≠ 0)).trans h47
  have h58 : fs52[1]? = some (.int 0) := by rw [← h53]; exact (List.getElem?_set_ne (by decide : 3 ≠ 1)).trans h48
  have h59 : fs52[2]? = some (.ref q34) := by rw [← h53]; exact (List.getElem?_set_ne (by decide : 3 ≠ 2)).trans h49
  have h60 : fs52[3]? = some (.int 0) := by rw [← h53]; exact List.getElem?_set_self h51
  have h61 : 12 ≤ fs52.length := by rw [← h53, List.length_set]; exact h50
  refine g_aload_n ok d_Qu_init_30 rfl (j := 0) rfl ?_
  refine g_iconst (v := 0) ok d_Qu_init_31 (by decide) ?_
  have h62 : 4 < fs52.length := Nat.lt_of_lt_of_le (by decide) h61
  refine pf_Qu_26 ok d_Qu_init_32 h56 h62 (fun _ => ⟨rfl, rfl⟩) ?_
  rw [h64]
  rw [h66]
  have h67 : M65[x0]? = some (.inr (2, fs63)) := by rw [← h66]; exact gs_eq h56
  have h68 : fs63[0]? = some (.ref q5) := by rw [← h64]; exact (List.getElem?_set_ne (by decide : 4 ≠ 0)).trans h57
  have h69 : fs63[1]? = some (.int 0) := by rw [← h64]; exact (List.getElem?_set_ne (by decide : 4 ≠ 1)).trans h58
  have h70 : fs63[2]? = some (.ref q34) := by rw [← h64]; exact (List.getElem?_set_ne (by decide : 4 ≠ 2)).trans h59
  have h71 : fs63[3]? = some (.int 0) := by rw [← h64]; exact (List.getElem?_set_ne (by decide : 4 ≠ 3)).trans h60
  have h72 : fs63[4]? = some (.int 0) := by rw [← h64]; exact List.getElem?_set_self h62
  have h73 : 12 ≤ fs63.length := by rw [← h64, List.length_set]; exact h61
  refine g_aload_n ok d_Qu_init_35 rfl (j := 0) rfl ?_
  refine g_iconst (v := (-1)) ok d_Qu_init_36 (by decide) ?_
  have h74 : 5 < fs63.length := Nat.lt_of_lt_of_le (by decide) h73
  refine pf_Qu_30 ok d_Qu_init_37 h67 h74 (fun _ => ⟨rfl, rfl⟩) ?_
  rw [h76]
  rw [h78]
  have h79 : M77[x0]? = some (.inr (2, fs75)) := by rw [← h78]; exact gs_eq h67
  have h80 : fs75[0]? = some (.ref q5) := by rw [← h76]; exact (List.getElem?_set_ne (by decide : 5 ≠ 0)).trans h68
  have h81 : fs75[1]? = some (.int 0) := by rw [← h76]; exact (List.getElem?_set_ne (by decide : 5 ≠ 1)).trans h69
  have h82 : fs75[2]? = some (.ref q34) := by rw [← h76]; exact (List.getElem?_set_ne (by decide : 5 ≠ 2)).trans h70
  have h83 : fs75[3]? = some (.int 0) := by rw [← h76]; exact (List.getElem?_set_ne (by decide : 5 ≠ 3)).trans h71
  have h84 : fs75[4]? = some (.int 0) := by rw [← h76]; exact (List.getElem?_set_ne (by decide : 5 ≠ 4)).trans h72
  have h85 : fs75[5]? = some (.int (-1)) := by rw [← h76]; exact List.getElem?_set_self h74
  have h86 : 12 ≤ fs75.length := by rw [← h76, List.length_set]; exact h73
  refine g_aload_n ok d_Qu_init_40 rfl (j := 0) rfl ?_
  refine g_iconst (v := 0) ok d_Qu_init_41 (by decide) ?_
  have h87 : 6 < fs75.length := Nat.lt_of_lt_of_le (by decide) h86
  refine pf_Qu_33 ok d_Qu_init_42 h79 h87 (fun _ => ⟨rfl, rfl⟩) ?_
  rw [h89]
  rw [h91]
  have h92 : M90[x0]? = some (.inr (2, fs88)) := by rw [← h91]; exact gs_eq h79
  have h93 : fs88[0]? = some (.ref q5) := by rw [← h89]; exact (List.getElem?_set_ne (by decide : 6 ≠ 0)).trans h80
  have h94 : fs88[1]? = some (.int 0) := by rw [← h89]; exact (List.getElem?_set_ne (by decide : 6 ≠ 1)).trans h81
  have h95 : fs88[2]? = some (.ref q34) := by rw [← h89]; exact (List.getElem?_set_ne (by decide : 6 ≠ 2)).trans h82
  have h96 : fs88[3]? = some (.int 0) := by rw [← h89]; exact (List.getElem?_set_ne (by decide : 6 ≠ 3)).trans h83
  have h97 : fs88[4]? = some (.int 0) := by rw [← h89]; exact (List.getElem?_set_ne (by decide : 6 ≠ 4)).trans h84
  have h98 : fs88[5]? = some (.int (-1)) := by rw [← h89]; exact (List.getElem?_set_ne (by decide : 6 ≠ 5)).trans h85
  have h99 : fs88[6]? = some (.int 0) := by rw [← h89]; exact List.getElem?_set_self h87
  have h100 : 12 ≤ fs88.length := by rw [← h89, List.length_set]; exact h86
  refine g_aload_n ok d_Qu_init_45 rfl (j := 0) rfl ?_
  refine g_sipush (v := 150) ok d_Qu_init_46 (by decide) ?_
  have h101 : 7 < fs88.length := Nat.lt_of_lt_of_le (by decide) h100
  refine pf_Qu_36 ok d_Qu_init_49 h92 h101 (fun _ => ⟨rfl, rfl⟩) ?_
  rw [h103]
  rw [h105]
  have h106 : M104[x0]? = some (.inr (2, fs102)) := by rw [← h105]; exact gs_eq h92
  have h107 : fs102[0]? = some (.ref q5) := by rw [← h103]; exact (List.getElem?_set_ne (by decide : 7 ≠ 0)).trans h93
  have h108 : fs102[1]? = some (.int 0) := by rw [← h103]; exact (List.getElem?_set_ne (by decide : 7 ≠ 1)).trans h94
  have h109 : fs102[2]? = some (.ref q34) := by rw [← h103]; exact (List.getElem?_set_ne (by decide : 7 ≠ 2)).trans h95
  have h110 : fs102[3]? = some (.int 0) := by rw [← h103]; exact (List.getElem?_set_ne (by decide : 7 ≠ 3)).trans h96
  have h111 : fs102[4]? = some (.int 0) := by rw [← h103]; exact (List.getElem?_set_ne (by decide : 7 ≠ 4)).trans h97
  have h112 : fs102[5]? = some (.int (-1)) := by rw [← h103]; exact (List.getElem?_set_ne (by decide : 7 ≠ 5)).trans h98
  have h113 : fs102[6]? = some (.int 0) := by rw [← h103]; exact (List.getElem?_set_ne (by decide : 7 ≠ 6)).trans h99
  have h114 : fs102[7]? = some (.int 150) := by rw [← h103]; exact List.getElem?_set_self h101
  have h115 : 12 ≤ fs102.length := by rw [← h103, List.length_set]; exact h100
  refine g_aload_n ok d_Qu_init_52 rfl (j := 0) rfl ?_
  refine g_bipush (v := 12) ok d_Qu_init_53 (by decide) ?_
  refine g_newq (E := "TripleStore$Element") (t := 4) (N := 12) ok (List.mem_cons_of_mem _ (gT_at 113 (by decide +kernel) (by decide +kernel))) (yT_at 114 (by decide +kernel) (by decide +kernel)) rfl (by decide) (by decide) (by decide) d_Qu_init_55 h116 h117 h118 ?_
  rw [h121, h122]
  have h123 : M119[q120]? = some (.inl (4, 12, .inr (.inr (.inr (.inr (fun _ => none)))))) := by rw [← h121, ← h122]; exact ga_new _ _
  have h124 : M33[q5]? = some (.inl (1, 6, .inr (.inl (fun _ => 0)))) := by rw [← h35]; exact ga_old h39
  have h125 : M44[q5]? = some (.inl (1, 6, .inr (.inl (fun _ => 0)))) := by rw [← h45]; exact (gs_ne (Ne.symm (ne_ao h124 h40))).trans h124
  have h126 : M54[q5]? = some (.inl (1, 6, .inr (.inl (fun _ => 0)))) := by rw [← h55]; exact (gs_ne (Ne.symm (ne_ao h125 h46))).trans h125
  have h127 : M65[q5]? = some (.inl (1, 6, .inr (.inl (fun _ => 0)))) := by rw [← h66]; exact (gs_ne (Ne.symm (ne_ao h126 h56))).trans h126
  have h128 : M77[q5]? = some (.inl (1, 6, .inr (.inl (fun _ => 0)))) := by rw [← h78]; exact (gs_ne (Ne.symm (ne_ao h127 h67))).trans h127
  have h129 : M90[q5]? = some (.inl (1, 6, .inr (.inl (fun _ => 0)))) := by rw [← h91]; exact (gs_ne (Ne.symm (ne_ao h128 h79))).trans h128
  have h130 : M104[q5]? = some (.inl (1, 6, .inr (.inl (fun _ => 0)))) := by rw [← h105]; exact (gs_ne (Ne.symm (ne_ao h129 h92))).trans h129
  have h131 : M44[q34]? = some (.inl (0, 6, .inl (fun _ => 0))) := by rw [← h45]; exact (gs_ne (Ne.symm (ne_ao h37 h40))).trans h37
  have h132 : M54[q34]? = some (.inl (0, 6, .inl (fun _ => 0))) := by rw [← h55]; exact (gs_ne (Ne.symm (ne_ao h131 h46))).trans h131
  have h133 : M65[q34]? = some (.inl (0, 6, .inl (fun _ => 0))) := by rw [← h66]; exact (gs_ne (Ne.symm (ne_ao h132 h56))).trans h132
  have h134 : M77[q34]? = some (.inl (0, 6, .inl (fun _ => 0))) := by rw [← h78]; exact (gs_ne (Ne.symm (ne_ao h133 h67))).trans h133
  have h135 : M90[q34]? = some (.inl (0, 6, .inl (fun _ => 0))) := by rw [← h91]; exact (gs_ne (Ne.symm (ne_ao h134 h79))).trans h134
  have h136 : M104[q34]? = some (.inl (0, 6, .inl (fun _ => 0))) := by rw [← h105]; exact (gs_ne (Ne.symm (ne_ao h135 h92))).trans h135
  have h137 : M119[x0]? = some (.inr (2, fs102)) := by rw [← h121]; exact ga_old h106
  have h138 : 8 < fs102.length := Nat.lt_of_lt_of_le (by decide) h115
  refine pf_Qu_41 ok hin d_Qu_init_58 h137 h138 (fun _ => ⟨rfl, rfl⟩) ?_
  rw [h140]
  rw [h142]
  have h143 : M141[x0]? = some (.inr (2, fs139)) := by rw [← h142]; exact gs_eq h137
  have h144 : fs139[0]? = some (.ref q5) := by rw [← h140]; exact (List.getElem?_set_ne (by decide : 8 ≠ 0)).trans h107
  have h145 : fs139[1]? = some (.int 0) := by rw [← h140]; exact (List.getElem?_set_ne (by decide : 8 ≠ 1)).trans h108
  have h146 : fs139[2]? = some (.ref q34) := by rw [← h140]; exact (List.getElem?_set_ne (by decide : 8 ≠ 2)).trans h109
  have h147 : fs139[3]? = some (.int 0) := by rw [← h140]; exact (List.getElem?_set_ne (by decide : 8 ≠ 3)).trans h110
  have h148 : fs139[4]? = some (.int 0) := by rw [← h140]; exact (List.getElem?_set_ne (by decide : 8 ≠ 4)).trans h111
  have h149 : fs139[5]? = some (.int (-1)) := by rw [← h140]; exact (List.getElem?_set_ne (by decide : 8 ≠ 5)).trans h112
  have h150 : fs139[6]? = some (.int 0) := by rw [← h140]; exact (List.getElem?_set_ne (by decide : 8 ≠ 6)).trans h113
  have h151 : fs139[7]? = some (.int 150) := by rw [← h140]; exact (List.getElem?_set_ne (by decide : 8 ≠ 7)).trans h114
  have h152 : fs139[8]? = some (.ref q120) := by rw [← h140]; exact List.getElem?_set_self h138
  have h153 : 12 ≤ fs139.length := by rw [← h140, List.length_set]; exact h115
  refine g_aload_n ok d_Qu_init_61 rfl (j := 0) rfl ?_
  refine g_iconst (v := 0) ok d_Qu_init_62 (by decide) ?_
  have h154 : 9 < fs139.length := Nat.lt_of_lt_of_le (by decide) h153
  refine pf_Qu_45 ok d_Qu_init_63 h143 h154 (fun _ => ⟨rfl, rfl⟩) ?_
  rw [h156]
  rw [h158]
  have h159 : M157[x0]? = some (.inr (2, fs155)) := by rw [← h158]; exact gs_eq h143
  have h160 : fs155[0]? = some (.ref q5) := by rw [← h156]; exact (List.getElem?_set_ne (by decide : 9 ≠ 0)).trans h144
  have h161 : fs155[1]? = some (.int 0) := by rw [← h156]; exact (List.getElem?_set_ne (by decide : 9 ≠ 1)).trans h145
  have h162 : fs155[2]? = some (.ref q34) := by rw [← h156]; exact (List.getElem?_set_ne (by decide : 9 ≠ 2)).trans h146
  have h163 : fs155[3]? = some (.int 0) := by rw [← h156]; exact (List.getElem?_set_ne (by decide : 9 ≠ 3)).trans h147
  have h164 : fs155[4]? = some (.int 0) := by rw [← h156]; exact (List.getElem?_set_ne (by decide : 9 ≠ 4)).trans h148
  have h165 : fs155[5]? = some (.int (-1)) := by rw [← h156]; exact (List.getElem?_set_ne (by decide : 9 ≠ 5)).trans h149
  have h166 : fs155[6]? = some (.int 0) := by rw [← h156]; exact (List.getElem?_set_ne (by decide : 9 ≠ 6)).trans h150
  have h167 : fs155[7]? = some (.int 150) := by rw [← h156]; exact (List.getElem?_set_ne (by decide : 9 ≠ 7)).trans h151
  have h168 : fs155[8]? = some (.ref q120) := by rw [← h156]; exact (List.getElem?_set_ne (by decide : 9 ≠ 8)).trans h152
  have h169 : fs155[9]? = some (.int 0) := by rw [← h156]; exact List.getElem?_set_self h154
  have h170 : 12 ≤ fs155.length := by rw [← h156, List.length_set]; exact h153
  refine g_aload_n ok d_Qu_init_66 rfl (j := 0) rfl ?_
  refine g_sipush (v := 145) ok d_Qu_init_67 (by decide) ?_
  refine g_newa (atype := .int) (ty := .int) (t := 0) (N := 145) (a0 := (145, .inl (fun _ => 0))) ok (List.mem_cons_of_mem _ (gT_at 83 (by decide +kernel) (by decide +kernel))) rfl rfl (fun _ => rfl) (fun _ => rfl) (by decide) (by decide) (by decide) d_Qu_init_70 h171 h172 h173 ?_
  rw [h176, h177]
  have h178 : M174[q175]? = some (.inl (0, 145, .inl (fun _ => 0))) := by rw [← h176, ← h177]; exact ga_new _ _
  have h179 : M119[q5]? = some (.inl (1, 6, .inr (.inl (fun _ => 0)))) := by rw [← h121]; exact ga_old h130
  have h180 : M141[q5]? = some (.inl (1, 6, .inr (.inl (fun _ => 0)))) := by rw [← h142]; exact (gs_ne (Ne.symm (ne_ao h179 h137))).trans h179
  have h181 : M157[q5]? = some (.inl (1, 6, .inr (.inl (fun _ => 0)))) := by rw [← h158]; exact (gs_ne (Ne.symm (ne_ao h180 h143))).trans h180
  have h182 : M119[q34]? = some (.inl (0, 6, .inl (fun _ => 0))) := by rw [← h121]; exact ga_old h136
  have h183 : M141[q34]? = some (.inl (0, 6, .inl (fun _ => 0))) := by rw [← h142]; exact (gs_ne (Ne.symm (ne_ao h182 h137))).trans h182
  have h184 : M157[q34]? = some (.inl (0, 6, .inl (fun _ => 0))) := by rw [← h158]; exact (gs_ne (Ne.symm (ne_ao h183 h143))).trans h183
  have h185 : M141[q120]? = some (.inl (4, 12, .inr (.inr (.inr (.inr (fun _ => none)))))) := by rw [← h142]; exact (gs_ne (Ne.symm (ne_ao h123 h137))).trans h123
  have h186 : M157[q120]? = some (.inl (4, 12, .inr (.inr (.inr (.inr (fun _ => none)))))) := by rw [← h158]; exact (gs_ne (Ne.symm (ne_ao h185 h143))).trans h185
  have h187 : M174[x0]? = some (.inr (2, fs155)) := by rw [← h176]; exact ga_old h159
  have h188 : 10 < fs155.length := Nat.lt_of_lt_of_le (by decide) h170
  refine pf_Qu_48 ok hin d_Qu_init_72 h187 h188 (fun _ => ⟨rfl, rfl⟩) ?_
  rw [h190]
  rw [h192]
  have h193 : M191[x0]? = some (.inr (2, fs189)) := by rw [← h192]; exact gs_eq h187
  have h194 : fs189[0]? = some (.ref q5) := by rw [← h190]; exact (List.getElem?_set_ne (by decide : 10 ≠ 0)).trans h160
  have h195 : fs189[1]? = some (.int 0) := by rw [← h190]; exact (List.getElem?_set_ne (by decide : 10 ≠ 1)).trans h161
  have h196 : fs189[2]? = some (.ref q34) := by rw [← h190]; exact (List.getElem?_set_ne (by decide : 10 ≠ 2)).trans h162
  have h197 : fs189[3]? = some (.int 0) := by rw [← h190]; exact (List.getElem?_set_ne (by decide : 10 ≠ 3)).trans h163
  have h198 : fs189[4]? = some (.int 0) := by rw [← h190]; exact (List.getElem?_set_ne (by decide : 10 ≠ 4)).trans h164
  have h199 : fs189[5]? = some (.int (-1)) := by rw [← h190]; exact (List.getElem?_set_ne (by decide : 10 ≠ 5)).trans h165
  have h200 : fs189[6]? = some (.int 0) := by rw [← h190]; exact (List.getElem?_set_ne (by decide : 10 ≠ 6)).trans h166
  have h201 : fs189[7]? = some (.int 150) := by rw [← h190]; exact (List.getElem?_set_ne (by decide : 10 ≠ 7)).trans h167
  have h202 : fs189[8]? = some (.ref q120) := by rw [← h190]; exact (List.getElem?_set_ne (by decide : 10 ≠ 8)).trans h168
  have h203 : fs189[9]? = some (.int 0) := by rw [← h190]; exact (List.getElem?_set_ne (by decide : 10 ≠ 9)).trans h169
  have h204 : fs189[10]? = some (.ref q175) := by rw [← h190]; exact List.getElem?_set_self h188
  have h205 : 12 ≤ fs189.length := by rw [← h190, List.length_set]; exact h170
  refine g_aload_n ok d_Qu_init_75 rfl (j := 0) rfl ?_
  refine g_iconst (v := 0) ok d_Qu_init_76 (by decide) ?_
  have h206 : 11 < fs189.length := Nat.lt_of_lt_of_le (by decide) h205
  refine pf_Qu_51 ok d_Qu_init_77 h193 h206 (fun _ => ⟨rfl, rfl⟩) ?_
  rw [h208]
  rw [h210]
  have h211 : M209[x0]? = some (.inr (2, fs207)) := by rw [← h210]; exact gs_eq h193
  have h212 : fs207[0]? = some (.ref q5) := by rw [← h208]; exact (List.getElem?_set_ne (by decide : 11 ≠ 0)).trans h194
  have h213 : fs207[1]? = some (.int 0) := by rw [← h208]; exact (List.getElem?_set_ne (by decide : 11 ≠ 1)).trans h195
  have h214 : fs207[2]? = some (.ref q34) := by rw [← h208]; exact (List.getElem?_set_ne (by decide : 11 ≠ 2)).trans h196
  have h215 : fs207[3]? = some (.int 0) := by rw [← h208]; exact (List.getElem?_set_ne (by decide : 11 ≠ 3)).trans h197
  have h216 : fs207[4]? = some (.int 0) := by rw [← h208]; exact (List.getElem?_set_ne (by decide : 11 ≠ 4)).trans h198
  have h217 : fs207[5]? = some (.int (-1)) := by rw [← h208]; exact (List.getElem?_set_ne (by decide : 11 ≠ 5)).trans h199
  have h218 : fs207[6]? = some (.int 0) := by rw [← h208]; exact (List.getElem?_set_ne (by decide : 11 ≠ 6)).trans h200
  have h219 : fs207[7]? = some (.int 150) := by rw [← h208]; exact (List.getElem?_set_ne (by decide : 11 ≠ 7)).trans h201
  have h220 : fs207[8]? = some (.ref q120) := by rw [← h208]; exact (List.getElem?_set_ne (by decide : 11 ≠ 8)).trans h202
  have h221 : fs207[9]? = some (.int 0) := by rw [← h208]; exact (List.getElem?_set_ne (by decide : 11 ≠ 9)).trans h203
  have h222 : fs207[10]? = some (.ref q175) := by rw [← h208]; exact (List.getElem?_set_ne (by decide : 11 ≠ 10)).trans h204
  have h223 : fs207[11]? = some (.int 0) := by rw [← h208]; exact List.getElem?_set_self h206
  have h224 : 12 ≤ fs207.length := by rw [← h208, List.length_set]; exact h205
  refine g_iconst (v := 0) ok d_Qu_init_80 (by decide) ?_
  refine g_istore_n (L' := [(0, .ref x0), (1, .int 0)]) ok d_Qu_init_81 rfl (by rw [hl]; decide) rfl ?_
  exact kk
theorem k_Qu_init_82 {X : gC} {M : List mC} {k n : Nat} {x0 : Nat} {x1 : Int32} (ok : gO X c_Qu_init "TripleStore$Query" w_Qu_init)  (kt : 12 ≤ x1 → gg X M k n 107 [] []) (kf : ¬ 12 ≤ x1 → gg X M k n 88 [(0, .ref x0), (1, .int x1)] []) : gg X M k n 82 [(0, .ref x0), (1, .int x1)] [] := by
  refine g_iload_n ok d_Qu_init_82 rfl (j := 1) rfl ?_
  refine g_bipush (v := 12) ok d_Qu_init_83 (by decide) ?_
  exact g_icmp_ge (tgt := 107) ok d_Qu_init_85 (by decide) (fun z => (gg_keep [] (kt z))) (fun z => (kf z))
theorem k_Qu_init_88 {X : gC} {M : List mC} {k n : Nat} {x0 : Nat} {x1 : Int32} {fs2 : List Value} {f3 : Nat} {M8 : List mC} {q9 : Nat} (ok : gO X c_Qu_init "TripleStore$Query" w_Qu_init) (h1 : M[x0]? = some (.inr (2, fs2))) (h4 : fs2[8]? = some (.ref f3)) (h5 : k + 1 ≤ (gR X).cells) (h6 : n + 7 ≤ (gR X).slots) (h7 : gW M [(0, .ref x0), (1, .int x1)] [.int x1, .ref f3]) (h10 : M ++ [.inr (0, [.int 0, .int 0, .long 0, .long 0, .long 0, .int 0, .int 0])] = M8) (h11 : M.length = q9) {rm : Room} {post : Option Value → List mC → Prop} (hm : mm_ (gLa X) y_El_init w_El_init rm [.ref q9] M8 post) (hR : gF X rm 1 (k + 1) (n + 7)) (hL : ∀ q ∈ ([(0, .ref x0), (1, .int x1)] : List (Nat × Value)), mk_v M8.length q.2) (hrs : ∀ v ∈ ([.ref q9, .int x1, .ref f3] : List Value), mk_v M8.length v) (kk : ∀ r M', post r M' → gg X M' (k + 1 + rm.cells) (n + 7 + rm.slots) 100 [(0, .ref x0), (1, .int x1)] (r.toList ++ [.ref q9, .int x1, .ref f3])) : gg X M k n 88 [(0, .ref x0), (1, .int x1)] [] := by
  refine g_aload_n ok d_Qu_init_88 rfl (j := 0) rfl ?_
  refine gf_Qu_41 ok d_Qu_init_89 h1 h4 ?_
  refine g_iload_n ok d_Qu_init_92 rfl (j := 1) rfl ?_
  refine g_new (C := REl) (T := TEl) (N := 7) (ci := 0) (fs := [.int 0, .int 0, .long 0, .long 0, .long 0, .int 0, .int 0]) ok (fun w h => List.mem_cons_of_mem _ (inEl w h)) tyEl okEl (List.mem_cons_of_mem _ (gT_at 113 (by decide +kernel) (by decide +kernel))) (List.mem_cons_of_mem _ (gT_at 115 (by decide +kernel) (by decide +kernel))) (List.mem_cons_of_mem _ (gT_at 6 (by decide +kernel) (by decide +kernel))) rfl (by decide +kernel) (fun _ => rfl) d_Qu_init_93 h5 h6 h7 ?_
  rw [h10, h11]
  have h12 : M8[q9]? = some (.inr (0, [.int 0, .int 0, .long 0, .long 0, .long 0, .int 0, .int 0])) := by rw [← h10, ← h11]; exact ga_new _ _
  refine g_dup ok d_Qu_init_96 rfl ?_
  exact gc_Qu_54 (As := []) (rest := [.ref q9, .int x1, .ref f3]) ok d_Qu_init_97 hm rfl rfl (Nat.le_of_ble_eq_true rfl) hR hL hrs kk
theorem k_Qu_init_100 {X : gC} {M : List mC} {k n : Nat} {x0 : Nat} {x1 : Int32} {s0 : Nat} {s1 : Int32} {s2 : Nat} {g2 : Nat → Option Nat} {N3 : Nat} {fs6 : List Value} {M7 : List mC} (ok : gO X c_Qu_init "TripleStore$Query" w_Qu_init) (hl : gL X = 2) (h1 : M[s0]? = some (.inl (4, N3, .inr (.inr (.inr (.inr g2)))))) (h5 : M[s2]? = some (.inr (0, fs6))) (h4 : vp_in s1 N3) (h8 : M.set s0 (.inl (4, N3, .inr (.inr (.inr (.inr (va_up g2 s1.toNatClampNeg (some s2))))))) = M7) (kk : gg X M7 k n 82 [(0, .ref x0), (1, .int (x1 + 1))] []) : gg X M k n 100 [(0, .ref x0), (1, .int x1)] [.ref s2, .int s1, .ref s0] := by
  refine g_aast (t := 4) (ci := 0) (r := (REl, TEl, 7)) ok rfl rfl d_Qu_init_100 h1 h5 h4 ?_
  rw [h8]
  have h9 : M7[s0]? = some (.inl (4, N3, .inr (.inr (.inr (.inr (va_up g2 s1.toNatClampNeg (some s2))))))) := by rw [← h8]; exact gs_eq h1
  refine g_iinc (L' := [(0, .ref x0), (1, .int (x1 + 1))]) (v := (x1 + 1)) ok d_Qu_init_101 (j := 1) rfl rfl (by rw [hl]; decide) rfl ?_
  exact g_goto (tgt := 82) ok d_Qu_init_104 (by decide) kk
theorem k_Qu_init_107 {X : gC} {M : List mC} {k n : Nat}  (ok : gO X c_Qu_init "TripleStore$Query" w_Qu_init)  {l9 : Launch} {rm : Room} {M0 : List mC} {post : Option Value → List mC → Prop} (E : gE X l9 y_Qu_init rm 2 none M0 post) (hp : post (none) M) (hk : k ≤ rm.cells) (hn : n ≤ rm.slots) : gg X M k n 107 [] [] := by
  exact g_vret ok E d_Qu_init_107 hp hk hn
theorem k_Qu_clear_0 {X : gC} {M : List mC} {k n : Nat} {x0 : Nat} {fs2 : List Value} {fs5 : List Value} {M7 : List mC} {fs13 : List Value} {M15 : List mC} {fs22 : List Value} {M24 : List mC} {fs32 : List Value} {M34 : List mC} {fs43 : List Value} {M45 : List mC} {fs55 : List Value} {M57 : List mC} {fs68 : List Value} {M70 : List mC} {fs82 : List Value} {M84 : List mC} (ok : gO X c_Qu_clear "TripleStore$Query" w_Qu_clear) (h1 : M[x0]? = some (.inr (2, fs2))) (h4 : 12 ≤ fs2.length) (h6 : fs2.set 1 (.int 0) = fs5) (h8 : M.set x0 (.inr (2, fs5)) = M7) (h14 : fs5.set 3 (.int 0) = fs13) (h16 : M7.set x0 (.inr (2, fs13)) = M15) (h23 : fs13.set 4 (.int 0) = fs22) (h25 : M15.set x0 (.inr (2, fs22)) = M24) (h33 : fs22.set 5 (.int (-1)) = fs32) (h35 : M24.set x0 (.inr (2, fs32)) = M34) (h44 : fs32.set 6 (.int 0) = fs43) (h46 : M34.set x0 (.inr (2, fs43)) = M45) (h56 : fs43.set 7 (.int 150) = fs55) (h58 : M45.set x0 (.inr (2, fs55)) = M57) (h69 : fs55.set 9 (.int 0) = fs68) (h71 : M57.set x0 (.inr (2, fs68)) = M70) (h83 : fs68.set 11 (.int 0) = fs82) (h85 : M70.set x0 (.inr (2, fs82)) = M84) {l9 : Launch} {rm : Room} {M0 : List mC} {post : Option Value → List mC → Prop} (E : gE X l9 y_Qu_clear rm 1 none M0 post) (hp : post (none) M84) (hk : k ≤ rm.cells) (hn : n ≤ rm.slots) : gg X M k n 0 [(0, .ref x0)] [] := by
  refine g_aload_n ok d_Qu_clear_0 rfl (j := 0) rfl ?_
  refine g_iconst (v := 0) ok d_Qu_clear_1 (by decide) ?_
  have h3 : 1 < fs2.length := Nat.lt_of_lt_of_le (by decide) h4
  refine pf_Qu_15 ok d_Qu_clear_2 h1 h3 (fun _ => ⟨rfl, rfl⟩) ?_
  rw [h6]
  rw [h8]
  have h9 : M7[x0]? = some (.inr (2, fs5)) := by rw [← h8]; exact gs_eq h1
  have h10 : fs5[1]? = some (.int 0) := by rw [← h6]; exact List.getElem?_set_self h3
  have h11 : 12 ≤ fs5.length := by rw [← h6, List.length_set]; exact h4
  refine g_aload_n ok d_Qu_clear_5 rfl (j := 0) rfl ?_
  refine g_iconst (v := 0) ok d_Qu_clear_6 (by decide) ?_
  have h12 : 3 < fs5.length := Nat.lt_of_lt_of_le (by decide) h11
  refine pf_Qu_23 ok d_Qu_clear_7 h9 h12 (fun _ => ⟨rfl, rfl⟩) ?_
  rw [h14]
  rw [h16]
  have h17 : M15[x0]? = some (.inr (2, fs13)) := by rw [← h16]; exact gs_eq h9
  have h18 : fs13[1]? = some (.int 0) := by rw [← h14]; exact (List.getElem?_set_ne (by decide : 3 ≠ 1)).trans h10
  have h19 : fs13[3]? = some (.int 0) := by rw [← h14]; exact List.getElem?_set_self h12
  have h20 : 12 ≤ fs13.length := by rw [← h14, List.length_set]; exact h11
  refine g_aload_n ok d_Qu_clear_10 rfl (j := 0) rfl ?_
  refine g_iconst (v := 0) ok d_Qu_clear_11 (by decide) ?_
  have h21 : 4 < fs13.length := Nat.lt_of_lt_of_le (by decide) h20
  refine pf_Qu_26 ok d_Qu_clear_12 h17 h21 (fun _ => ⟨rfl, rfl⟩) ?_
  rw [h23]
  rw [h25]
  have h26 : M24[x0]? = some (.inr (2, fs22)) := by rw [← h25]; exact gs_eq h17
  have h27 : fs22[1]? = some (.int 0) := by rw [← h23]; exact (List.getElem?_set_ne (by decide : 4 ≠ 1)).trans h18
  have h28 : fs22[3]? = some (.int 0) := by rw [← h23]; exact (List.getElem?_set_ne (by decide : 4 ≠ 3)).trans h19
  have h29 : fs22[4]? = some (.int 0) := by rw [← h23]; exact List.getElem?_set_self h21
  have h30 : 12 ≤ fs22.length := by rw [← h23, List.length_set]; exact h20
  refine g_aload_n ok d_Qu_clear_15 rfl (j := 0) rfl ?_
  refine g_iconst (v := (-1)) ok d_Qu_clear_16 (by decide) ?_
  have h31 : 5 < fs22.length := Nat.lt_of_lt_of_le (by decide) h30
  refine pf_Qu_30 ok d_Qu_clear_17 h26 h31 (fun _ => ⟨rfl, rfl⟩) ?_
  rw [h33]
  rw [h35]
  have h36 : M34[x0]? = some (.inr (2, fs32)) := by rw [← h35]; exact gs_eq h26
  have h37 : fs32[1]? = some (.int 0) := by rw [← h33]; exact (List.getElem?_set_ne (by decide : 5 ≠ 1)).trans h27
  have h38 : fs32[3]? = some (.int 0) := by rw [← h33]; exact (List.getElem?_set_ne (by decide : 5 ≠ 3)).trans h28
  have h39 : fs32[4]? = some (.int 0) := by rw [← h33]; exact (List.getElem?_set_ne (by decide : 5 ≠ 4)).trans h29
  have h40 : fs32[5]? = some (.int (-1)) := by rw [← h33]; exact List.getElem?_set_self h31
  have h41 : 12 ≤ fs32.length := by rw [← h33, List.length_set]; exact h30
  refine g_aload_n ok d_Qu_clear_20 rfl (j := 0) rfl ?_
  refine g_iconst (v := 0) ok d_Qu_clear_21 (by decide) ?_
  have h42 : 6 < fs32.length := Nat.lt_of_lt_of_le (by decide) h41
  refine pf_Qu_33 ok d_Qu_clear_22 h36 h42 (fun _ => ⟨rfl, rfl⟩) ?_
  rw [h44]
  rw [h46]
  have h47 : M45[x0]? = some (.inr (2, fs43)) := by rw [← h46]; exact gs_eq h36
  have h48 : fs43[1]? = some (.int 0) := by rw [← h44]; exact (List.getElem?_set_ne (by decide : 6 ≠ 1)).trans h37
  have h49 : fs43[3]? = some (.int 0) := by rw [← h44]; exact (List.getElem?_set_ne (by decide : 6 ≠ 3)).trans h38
  have h50 : fs43[4]? = some (.int 0) := by rw [← h44]; exact (List.getElem?_set_ne (by decide : 6 ≠ 4)).trans h39
  have h51 : fs43[5]? = some (.int (-1)) := by rw [← h44]; exact (List.getElem?_set_ne (by decide : 6 ≠ 5)).trans h40
  have h52 : fs43[6]? = some (.int 0) := by rw [← h44]; exact List.getElem?_set_self h42
  have h53 : 12 ≤ fs43.length := by rw [← h44, List.length_set]; exact h41
  refine g_aload_n ok d_Qu_clear_25 rfl (j := 0) rfl ?_
  refine g_sipush (v := 150) ok d_Qu_clear_26 (by decide) ?_
  have h54 : 7 < fs43.length := Nat.lt_of_lt_of_le (by decide) h53
  refine pf_Qu_36 ok d_Qu_clear_29 h47 h54 (fun _ => ⟨rfl, rfl⟩) ?_
  rw [h56]
  rw [h58]
  have h59 : M57[x0]? = some (.inr (2, fs55)) := by rw [← h58]; exact gs_eq h47
  have h60 : fs55[1]? = some (.int 0) := by rw [← h56]; exact (List.getElem?_set_ne (by decide : 7 ≠ 1)).trans h48
  have h61 : fs55[3]? = some (.int 0) := by rw [← h56]; exact (List.getElem?_set_ne (by decide : 7 ≠ 3)).trans h49
  have h62 : fs55[4]? = some (.int 0) := by rw [← h56]; exact (List.getElem?_set_ne (by decide : 7 ≠ 4)).trans h50
  have h63 : fs55[5]? = some (.int (-1)) := by rw [← h56]; exact (List.getElem?_set_ne (by decide : 7 ≠ 5)).trans h51
  have h64 : fs55[6]? = some (.int 0) := by rw [← h56]; exact (List.getElem?_set_ne (by decide : 7 ≠ 6)).trans h52
  have h65 : fs55[7]? = some (.int 150) := by rw [← h56]; exact List.getElem?_set_self h54
  have h66 : 12 ≤ fs55.length := by rw [← h56, List.length_set]; exact h53
  refine g_aload_n ok d_Qu_clear_32 rfl (j := 0) rfl ?_
  refine g_iconst (v := 0) ok d_Qu_clear_33 (by decide) ?_
  have h67 : 9 < fs55.length := Nat.lt_of_lt_of_le (by decide) h66
  refine pf_Qu_45 ok d_Qu_clear_34 h59 h67 (fun _ => ⟨rfl, rfl⟩) ?_
  rw [h69]
  rw [h71]
  have h72 : M70[x0]? = some (.inr (2, fs68)) := by rw [← h71]; exact gs_eq h59
  have h73 : fs68[1]? = some (.int 0) := by rw [← h69]; exact (List.getElem?_set_ne (by decide : 9 ≠ 1)).trans h60
  have h74 : fs68[3]? = some (.int 0) := by rw [← h69]; exact (List.getElem?_set_ne (by decide : 9 ≠ 3)).trans h61
  have h75 : fs68[4]? = some (.int 0) := by rw [← h69]; exact (List.getElem?_set_ne (by decide : 9 ≠ 4)).trans h62
  have h76 : fs68[5]? = some (.int (-1)) := by rw [← h69]; exact (List.getElem?_set_ne (by decide : 9 ≠ 5)).trans h63
  have h77 : fs68[6]? = some (.int 0) := by rw [← h69]; exact (List.getElem?_set_ne (by decide : 9 ≠ 6)).trans h64
  have h78 : fs68[7]? = some (.int 150) := by rw [← h69]; exact (List.getElem?_set_ne (by decide : 9 ≠ 7)).trans h65
  have h79 : fs68[9]? = some (.int 0) := by rw [← h69]; exact List.getElem?_set_self h67
  have h80 : 12 ≤ fs68.length := by rw [← h69, List.length_set]; exact h66
  refine g_aload_n ok d_Qu_clear_37 rfl (j := 0) rfl ?_
  refine g_iconst (v := 0) ok d_Qu_clear_38 (by decide) ?_
  have h81 : 11 < fs68.length := Nat.lt_of_lt_of_le (by decide) h80
  refine pf_Qu_51 ok d_Qu_clear_39 h72 h81 (fun _ => ⟨rfl, rfl⟩) ?_
  rw [h83]
  rw [h85]
  have h86 : M84[x0]? = some (.inr (2, fs82)) := by rw [← h85]; exact gs_eq h72
  have h87 : fs82[1]? = some (.int 0) := by rw [← h83]; exact (List.getElem?_set_ne (by decide : 11 ≠ 1)).trans h73
  have h88 : fs82[3]? = some (.int 0) := by rw [← h83]; exact (List.getElem?_set_ne (by decide : 11 ≠ 3)).trans h74
  have h89 : fs82[4]? = some (.int 0) := by rw [← h83]; exact (List.getElem?_set_ne (by decide : 11 ≠ 4)).trans h75
  have h90 : fs82[5]? = some (.int (-1)) := by rw [← h83]; exact (List.getElem?_set_ne (by decide : 11 ≠ 5)).trans h76
  have h91 : fs82[6]? = some (.int 0) := by rw [← h83]; exact (List.getElem?_set_ne (by decide : 11 ≠ 6)).trans h77
  have h92 : fs82[7]? = some (.int 150) := by rw [← h83]; exact (List.getElem?_set_ne (by decide : 11 ≠ 7)).trans h78
  have h93 : fs82[9]? = some (.int 0) := by rw [← h83]; exact (List.getElem?_set_ne (by decide : 11 ≠ 9)).trans h79
  have h94 : fs82[11]? = some (.int 0) := by rw [← h83]; exact List.getElem?_set_self h81
  have h95 : 12 ≤ fs82.length := by rw [← h83, List.length_set]; exact h80
  exact g_vret ok E d_Qu_clear_42 hp hk hn
theorem k_Qu_variable_0 {X : gC} {M : List mC} {k n : Nat} {x0 : Nat} {x1 : Int64} (ok : gO X c_Qu_variable "TripleStore$Query" w_Qu_variable) (hl : gL X = 4)  (kk : gg X M k n 2 [(0, .ref x0), (1, .long x1), (3, .int 0)] []) : gg X M k n 0 [(0, .ref x0), (1, .long x1)] [] := by
  refine g_iconst (v := 0) ok d_Qu_variable_0 (by decide) ?_
  refine g_istore_n (L' := [(0, .ref x0), (1, .long x1), (3, .int 0)]) ok d_Qu_variable_1 rfl (by rw [hl]; decide) rfl ?_
  exact kk
theorem k_Qu_variable_2 {X : gC} {M : List mC} {k n : Nat} {x0 : Nat} {x1 : Int64} {x3 : Int32} {fs2 : List Value} {f3 : Int32} (ok : gO X c_Qu_variable "TripleStore$Query" w_Qu_variable) (h1 : M[x0]? = some (.inr (2, fs2))) (h4 : fs2[1]? = some (.int f3)) (kt : f3 ≤ x3 → gg X M k n 29 [(0, .ref x0), (1, .long x1)] []) (kf : ¬ f3 ≤ x3 → gg X M k n 10 [(0, .ref x0), (1, .long x1), (3, .int x3)] []) : gg X M k n 2 [(0, .ref x0), (1, .long x1), (3, .int x3)] [] := by
  refine g_iload_n ok d_Qu_variable_2 rfl (j := 2) rfl ?_
  refine g_aload_n ok d_Qu_variable_3 rfl (j := 0) rfl ?_
  refine gf_Qu_15 ok d_Qu_variable_4 h1 h4 ?_
  exact g_icmp_ge (tgt := 29) ok d_Qu_variable_7 (by decide) (fun z => (gg_keep [0, 1] (kt z))) (fun z => (kf z))
theorem k_Qu_variable_10 {X : gC} {M : List mC} {k n : Nat} {x0 : Nat} {x1 : Int64} {x3 : Int32} {fs2 : List Value} {f3 : Nat} {g6 : Nat → Int64} {N7 : Nat} (ok : gO X c_Qu_variable "TripleStore$Query" w_Qu_variable) (h1 : M[x0]? = some (.inr (2, fs2))) (h4 : fs2[0]? = some (.ref f3)) (h5 : M[f3]? = some (.inl (1, N7, .inr (.inl g6)))) (h8 : vp_in x3 N7) (kt : ¬ (g6 x3.toNatClampNeg) = x1 → gg X M k n 23 [(0, .ref x0), (1, .long x1), (3, .int x3)] []) (kf : (g6 x3.toNatClampNeg) = x1 → gg X M k n 21 [(3, .int x3)] []) : gg X M k n 10 [(0, .ref x0), (1, .long x1), (3, .int x3)] [] := by
  refine g_aload_n ok d_Qu_variable_10 rfl (j := 0) rfl ?_
  refine gf_Qu_9 ok d_Qu_variable_11 h1 h4 ?_
  refine g_iload_n ok d_Qu_variable_14 rfl (j := 2) rfl ?_
  refine g_lald (t := 1) ok rfl d_Qu_variable_15 h5 h8 ?_
  refine g_lload_n ok d_Qu_variable_16 rfl (j := 1) rfl ?_
  exact g_lc_ne (tgt := 23) ok d_Qu_variable_17 d_Qu_variable_18 (by decide) (fun z => (kt z)) (fun z => (gg_keep [3] (kf z)))
theorem k_Qu_variable_21 {X : gC} {M : List mC} {k n : Nat} {x3 : Int32} (ok : gO X c_Qu_variable "TripleStore$Query" w_Qu_variable)  {l9 : Launch} {rm : Room} {M0 : List mC} {post : Option Value → List mC → Prop} (E : gE X l9 y_Qu_variable rm 4 (some .int) M0 post) (hp : post (some (.int x3)) M) (hk : k ≤ rm.cells) (hn : n ≤ rm.slots) : gg X M k n 21 [(3, .int x3)] [] := by
  refine g_iload_n ok d_Qu_variable_21 rfl (j := 0) rfl ?_
  exact g_iret ok E d_Qu_variable_22 hp hk hn
theorem k_Qu_variable_23 {X : gC} {M : List mC} {k n : Nat} {x0 : Nat} {x1 : Int64} {x3 : Int32} (ok : gO X c_Qu_variable "TripleStore$Query" w_Qu_variable) (hl : gL X = 4)  (kk : gg X M k n 2 [(0, .ref x0), (1, .long x1), (3, .int (x3 + 1))] []) : gg X M k n 23 [(0, .ref x0), (1, .long x1), (3, .int x3)] [] := by
  refine g_iinc (L' := [(0, .ref x0), (1, .long x1), (3, .int (x3 + 1))]) (v := (x3 + 1)) ok d_Qu_variable_23 (j := 2) rfl rfl (by rw [hl]; decide) rfl ?_
  exact g_goto (tgt := 2) ok d_Qu_variable_26 (by decide) kk
theorem k_Qu_variable_29 {X : gC} {M : List mC} {k n : Nat} {x0 : Nat} {x1 : Int64} {fs2 : List Value} {f3 : Int32} (ok : gO X c_Qu_variable "TripleStore$Query" w_Qu_variable) (h1 : M[x0]? = some (.inr (2, fs2))) (h4 : fs2[1]? = some (.int f3)) (kt : f3 < 6 → gg X M k n 40 [(0, .ref x0), (1, .long x1)] []) (kf : ¬ f3 < 6 → gg X M k n 38 [] []) : gg X M k n 29 [(0, .ref x0), (1, .long x1)] [] := by
  refine g_aload_n ok d_Qu_variable_29 rfl (j := 0) rfl ?_
  refine gf_Qu_15 ok d_Qu_variable_30 h1 h4 ?_
  refine g_bipush (v := 6) ok d_Qu_variable_33 (by decide) ?_
  exact g_icmp_lt (tgt := 40) ok d_Qu_variable_35 (by decide) (fun z => (kt z)) (fun z => (gg_keep [] (kf z)))
theorem k_Qu_variable_38 {X : gC} {M : List mC} {k n : Nat}  (ok : gO X c_Qu_variable "TripleStore$Query" w_Qu_variable)  {l9 : Launch} {rm : Room} {M0 : List mC} {post : Option Value → List mC → Prop} (E : gE X l9 y_Qu_variable rm 4 (some .int) M0 post) (hp : post (some (.int (-1))) M) (hk : k ≤ rm.cells) (hn : n ≤ rm.slots) : gg X M k n 38 [] [] := by
  refine g_iconst (v := (-1)) ok d_Qu_variable_38 (by decide) ?_
  exact g_iret ok E d_Qu_variable_39 hp hk hn
theorem k_Qu_variable_40 {X : gC} {M : List mC} {k n : Nat} {x0 : Nat} {x1 : Int64} {fs2 : List Value} {f3 : Nat} {f5 : Int32} {g8 : Nat → Int64} {N9 : Nat} {M11 : List mC} {fs17 : List Value} {M19 : List mC} (ok : gO X c_Qu_variable "TripleStore$Query" w_Qu_variable) (h1 : M[x0]? = some (.inr (2, fs2))) (h4 : fs2[0]? = some (.ref f3)) (h6 : fs2[1]? = some (.int f5)) (h7 : M[f3]? = some (.inl (1, N9, .inr (.inl g8)))) (h10 : vp_in f5 N9) (h12 : M.set f3 (.inl (1, N9, .inr (.inl (vp_updL g8 f5.toNatClampNeg x1)))) = M11) (h16 : 12 ≤ fs2.length) (h18 : fs2.set 1 (.int (f5 + 1)) = fs17) (h20 : M11.set x0 (.inr (2, fs17)) = M19) {l9 : Launch} {rm : Room} {M0 : List mC} {post : Option Value → List mC → Prop} (E : gE X l9 y_Qu_variable rm 4 (some .int) M0 post) (hp : post (some (.int ((f5 + 1) - 1))) M19) (hk : k ≤ rm.cells) (hn : n ≤ rm.slots) : gg X M k n 40 [(0, .ref x0), (1, .long x1)] [] := by
  refine g_aload_n ok d_Qu_variable_40 rfl (j := 0) rfl ?_
  refine gf_Qu_9 ok d_Qu_variable_41 h1 h4 ?_
  refine g_aload_n ok d_Qu_variable_44 rfl (j := 0) rfl ?_
  refine gf_Qu_15 ok d_Qu_variable_45 h1 h6 ?_
  refine g_lload_n ok d_Qu_variable_48 rfl (j := 1) rfl ?_
  refine g_last (t := 1) ok rfl d_Qu_variable_49 h7 h10 ?_
  rw [h12]
  have h13 : M11[f3]? = some (.inl (1, N9, .inr (.inl (vp_updL g8 f5.toNatClampNeg x1)))) := by rw [← h12]; exact gs_eq h7
  refine g_aload_n ok d_Qu_variable_50 rfl (j := 0) rfl ?_
  refine g_dup ok d_Qu_variable_51 rfl ?_
  have h14 : M11[x0]? = some (.inr (2, fs2)) := by rw [← h12]; exact (gs_ne (ne_ao h7 h1)).trans h1
  refine gf_Qu_15 ok d_Qu_variable_52 h14 h6 ?_
  refine g_iconst (v := 1) ok d_Qu_variable_55 (by decide) ?_
  refine g_iadd ok d_Qu_variable_56 ?_
  have h15 : 1 < fs2.length := Nat.lt_of_lt_of_le (by decide) h16
  refine pf_Qu_15 ok d_Qu_variable_57 h14 h15 (fun _ => ⟨rfl, rfl⟩) ?_
  rw [h18]
  rw [h20]
  have h21 : M19[x0]? = some (.inr (2, fs17)) := by rw [← h20]; exact gs_eq h14
  have h22 : fs17[0]? = some (.ref f3) := by rw [← h18]; exact (List.getElem?_set_ne (by decide : 1 ≠ 0)).trans h4
  have h23 : fs17[1]? = some (.int (f5 + 1)) := by rw [← h18]; exact List.getElem?_set_self h15
  have h24 : 12 ≤ fs17.length := by rw [← h18, List.length_set]; exact h16
  refine g_aload_n ok d_Qu_variable_60 rfl (j := 0) rfl ?_
  refine gf_Qu_15 ok d_Qu_variable_61 h21 h23 ?_
  refine g_iconst (v := 1) ok d_Qu_variable_64 (by decide) ?_
  refine g_isub ok d_Qu_variable_65 ?_
  exact g_iret ok E d_Qu_variable_66 hp hk hn
theorem k_Qu_newElement_0 {X : gC} {M : List mC} {k n : Nat} {x0 : Nat} {x1 : Int32} {fs2 : List Value} {f3 : Int32} (ok : gO X c_Qu_newElement "TripleStore$Query" w_Qu_newElement) (h1 : M[x0]? = some (.inr (2, fs2))) (h4 : fs2[9]? = some (.int f3)) (kt : f3 < 12 → gg X M k n 11 [(0, .ref x0), (1, .int x1)] []) (kf : ¬ f3 < 12 → gg X M k n 9 [] []) : gg X M k n 0 [(0, .ref x0), (1, .int x1)] [] := by
  refine g_aload_n ok d_Qu_newElement_0 rfl (j := 0) rfl ?_
  refine gf_Qu_45 ok d_Qu_newElement_1 h1 h4 ?_
  refine g_bipush (v := 12) ok d_Qu_newElement_4 (by decide) ?_
  exact g_icmp_lt (tgt := 11) ok d_Qu_newElement_6 (by decide) (fun z => (kt z)) (fun z => (gg_keep [] (kf z)))
theorem k_Qu_newElement_9 {X : gC} {M : List mC} {k n : Nat}  (ok : gO X c_Qu_newElement "TripleStore$Query" w_Qu_newElement)  {l9 : Launch} {rm : Room} {M0 : List mC} {post : Option Value → List mC → Prop} (E : gE X l9 y_Qu_newElement rm 2 (some .int) M0 post) (hp : post (some (.int (-1))) M) (hk : k ≤ rm.cells) (hn : n ≤ rm.slots) : gg X M k n 9 [] [] := by
  refine g_iconst (v := (-1)) ok d_Qu_newElement_9 (by decide) ?_
  exact g_iret ok E d_Qu_newElement_10 hp hk hn
theorem k_Qu_newElement_11 {X : gC} {M : List mC} {k n : Nat} {x0 : Nat} {x1 : Int32} {fs2 : List Value} {f3 : Nat} {f5 : Int32} {g8 : Nat → Option Nat} {N9 : Nat} {o11 : Nat} {fs14 : List Value} {fs17 : List Value} {M19 : List mC} {fs28 : List Value} {M30 : List mC} (ok : gO X c_Qu_newElement "TripleStore$Query" w_Qu_newElement) (h1 : M[x0]? = some (.inr (2, fs2))) (h4 : fs2[8]? = some (.ref f3)) (h6 : fs2[9]? = some (.int f5)) (h7 : M[f3]? = some (.inl (4, N9, .inr (.inr (.inr (.inr g8)))))) (h10 : vp_in f5 N9) (h12 : g8 f5.toNatClampNeg = some o11) (h13 : M[o11]? = some (.inr (0, fs14))) (h16 : 7 ≤ fs14.length) (h18 : fs14.set 1 (.int x1) = fs17) (h20 : M.set o11 (.inr (0, fs17)) = M19) (h25 : o11 ≠ x0) (h27 : 12 ≤ fs2.length) (h29 : fs2.set 9 (.int (f5 + 1)) = fs28) (h31 : M19.set x0 (.inr (2, fs28)) = M30) {l9 : Launch} {rm : Room} {M0 : List mC} {post : Option Value → List mC → Prop} (E : gE X l9 y_Qu_newElement rm 2 (some .int) M0 post) (hp : post (some (.int ((f5 + 1) - 1))) M30) (hk : k ≤ rm.cells) (hn : n ≤ rm.slots) : gg X M k n 11 [(0, .ref x0), (1, .int x1)] [] := by
  refine g_aload_n ok d_Qu_newElement_11 rfl (j := 0) rfl ?_
  refine gf_Qu_41 ok d_Qu_newElement_12 h1 h4 ?_
  refine g_aload_n ok d_Qu_newElement_15 rfl (j := 0) rfl ?_
  refine gf_Qu_45 ok d_Qu_newElement_16 h1 h6 ?_
  refine g_aald (t := 4) ok rfl d_Qu_newElement_19 h7 h10 h12 ?_
  refine g_iload_n ok d_Qu_newElement_20 rfl (j := 1) rfl ?_
  have h15 : 1 < fs14.length := Nat.lt_of_lt_of_le (by decide) h16
  refine pf_Qu_55 ok d_Qu_newElement_21 h13 h15 (fun _ => ⟨rfl, rfl⟩) ?_
  rw [h18]
  rw [h20]
  have h21 : M19[o11]? = some (.inr (0, fs17)) := by rw [← h20]; exact gs_eq h13
  have h22 : fs17[1]? = some (.int x1) := by rw [← h18]; exact List.getElem?_set_self h15
  have h23 : 7 ≤ fs17.length := by rw [← h18, List.length_set]; exact h16
  refine g_aload_n ok d_Qu_newElement_24 rfl (j := 0) rfl ?_
  refine g_dup ok d_Qu_newElement_25 rfl ?_
  have h24 : M19[x0]? = some (.inr (2, fs2)) := by rw [← h20]; exact (gs_ne h25).trans h1
  refine gf_Qu_45 ok d_Qu_newElement_26 h24 h6 ?_
  refine g_iconst (v := 1) ok d_Qu_newElement_29 (by decide) ?_
  refine g_iadd ok d_Qu_newElement_30 ?_
  have h26 : 9 < fs2.length := Nat.lt_of_lt_of_le (by decide) h27
  refine pf_Qu_45 ok d_Qu_newElement_31 h24 h26 (fun _ => ⟨rfl, rfl⟩) ?_
  rw [h29]
  rw [h31]
  have h32 : M30[x0]? = some (.inr (2, fs28)) := by rw [← h31]; exact gs_eq h24
  have h33 : fs28[8]? = some (.ref f3) := by rw [← h29]; exact (List.getElem?_set_ne (by decide : 9 ≠ 8)).trans h4
  have h34 : fs28[9]? = some (.int (f5 + 1)) := by rw [← h29]; exact List.getElem?_set_self h26
  have h35 : 12 ≤ fs28.length := by rw [← h29, List.length_set]; exact h27
  refine g_aload_n ok d_Qu_newElement_34 rfl (j := 0) rfl ?_
  refine gf_Qu_45 ok d_Qu_newElement_35 h32 h34 ?_
  refine g_iconst (v := 1) ok d_Qu_newElement_38 (by decide) ?_
  refine g_isub ok d_Qu_newElement_39 ?_
  exact g_iret ok E d_Qu_newElement_40 hp hk hn
theorem k_Qu_newGroup_0 {X : gC} {M : List mC} {k n : Nat} {x0 : Nat} {x1 : Int32} {fs2 : List Value} {f3 : Int32} (ok : gO X c_Qu_newGroup "TripleStore$Query" w_Qu_newGroup) (h1 : M[x0]? = some (.inr (2, fs2))) (h4 : fs2[11]? = some (.int f3)) (kt : f3 < 145 → gg X M k n 12 [(0, .ref x0), (1, .int x1)] []) (kf : ¬ f3 < 145 → gg X M k n 10 [] []) : gg X M k n 0 [(0, .ref x0), (1, .int x1)] [] := by
  refine g_aload_n ok d_Qu_newGroup_0 rfl (j := 0) rfl ?_
  refine gf_Qu_51 ok d_Qu_newGroup_1 h1 h4 ?_
  refine g_sipush (v := 145) ok d_Qu_newGroup_4 (by decide) ?_
  exact g_icmp_lt (tgt := 12) ok d_Qu_newGroup_7 (by decide) (fun z => (kt z)) (fun z => (gg_keep [] (kf z)))
theorem k_Qu_newGroup_10 {X : gC} {M : List mC} {k n : Nat}  (ok : gO X c_Qu_newGroup "TripleStore$Query" w_Qu_newGroup)  {l9 : Launch} {rm : Room} {M0 : List mC} {post : Option Value → List mC → Prop} (E : gE X l9 y_Qu_newGroup rm 2 (some .int) M0 post) (hp : post (some (.int (-1))) M) (hk : k ≤ rm.cells) (hn : n ≤ rm.slots) : gg X M k n 10 [] [] := by
  refine g_iconst (v := (-1)) ok d_Qu_newGroup_10 (by decide) ?_
  exact g_iret ok E d_Qu_newGroup_11 hp hk hn
theorem k_Qu_newGroup_12 {X : gC} {M : List mC} {k n : Nat} {x0 : Nat} {x1 : Int32} {fs2 : List Value} {f3 : Nat} {f5 : Int32} {g8 : Nat → Int32} {N9 : Nat} {M11 : List mC} {fs17 : List Value} {M19 : List mC} (ok : gO X c_Qu_newGroup "TripleStore$Query" w_Qu_newGroup) (h1 : M[x0]? = some (.inr (2, fs2))) (h4 : fs2[10]? = some (.ref f3)) (h6 : fs2[11]? = some (.int f5)) (h7 : M[f3]? = some (.inl (0, N9, .inl g8))) (h10 : vp_in f5 N9) (h12 : M.set f3 (.inl (0, N9, .inl (upd g8 f5.toNatClampNeg x1))) = M11) (h16 : 12 ≤ fs2.length) (h18 : fs2.set 11 (.int (f5 + 1)) = fs17) (h20 : M11.set x0 (.inr (2, fs17)) = M19) {l9 : Launch} {rm : Room} {M0 : List mC} {post : Option Value → List mC → Prop} (E : gE X l9 y_Qu_newGroup rm 2 (some .int) M0 post) (hp : post (some (.int ((f5 + 1) - 1))) M19) (hk : k ≤ rm.cells) (hn : n ≤ rm.slots) : gg X M k n 12 [(0, .ref x0), (1, .int x1)] [] := by
  refine g_aload_n ok d_Qu_newGroup_12 rfl (j := 0) rfl ?_
  refine gf_Qu_48 ok d_Qu_newGroup_13 h1 h4 ?_
  refine g_aload_n ok d_Qu_newGroup_16 rfl (j := 0) rfl ?_
  refine gf_Qu_51 ok d_Qu_newGroup_17 h1 h6 ?_
  refine g_iload_n ok d_Qu_newGroup_20 rfl (j := 1) rfl ?_
  refine g_iast (t := 0) ok rfl d_Qu_newGroup_21 h7 h10 ?_
  rw [h12]
  have h13 : M11[f3]? = some (.inl (0, N9, .inl (upd g8 f5.toNatClampNeg x1))) := by rw [← h12]; exact gs_eq h7
  refine g_aload_n ok d_Qu_newGroup_22 rfl (j := 0) rfl ?_
  refine g_dup ok d_Qu_newGroup_23 rfl ?_
  have h14 : M11[x0]? = some (.inr (2, fs2)) := by rw [← h12]; exact (gs_ne (ne_ao h7 h1)).trans h1
  refine gf_Qu_51 ok d_Qu_newGroup_24 h14 h6 ?_
  refine g_iconst (v := 1) ok d_Qu_newGroup_27 (by decide) ?_
  refine g_iadd ok d_Qu_newGroup_28 ?_
  have h15 : 11 < fs2.length := Nat.lt_of_lt_of_le (by decide) h16
  refine pf_Qu_51 ok d_Qu_newGroup_29 h14 h15 (fun _ => ⟨rfl, rfl⟩) ?_
  rw [h18]
  rw [h20]
  have h21 : M19[x0]? = some (.inr (2, fs17)) := by rw [← h20]; exact gs_eq h14
  have h22 : fs17[10]? = some (.ref f3) := by rw [← h18]; exact (List.getElem?_set_ne (by decide : 11 ≠ 10)).trans h4
  have h23 : fs17[11]? = some (.int (f5 + 1)) := by rw [← h18]; exact List.getElem?_set_self h15
  have h24 : 12 ≤ fs17.length := by rw [← h18, List.length_set]; exact h16
  refine g_aload_n ok d_Qu_newGroup_32 rfl (j := 0) rfl ?_
  refine gf_Qu_51 ok d_Qu_newGroup_33 h21 h23 ?_
  refine g_iconst (v := 1) ok d_Qu_newGroup_36 (by decide) ?_
  refine g_isub ok d_Qu_newGroup_37 ?_
  exact g_iret ok E d_Qu_newGroup_38 hp hk hn
theorem k_To_init_0 {X : gC} {M : List mC} {k n : Nat} {x0 : Nat} (ok : gO X c_To_init "TripleStore$Tokens" w_To_init)  (hf : 1 ≤ (gR X).frames) (hl2 : (([] : List Value).map fun v => v.category).sum + 12 ≤ (gR X).locals) (kk : gg X M k n 4 [(0, .ref x0)] []) : gg X M k n 0 [(0, .ref x0)] [] := by
  refine g_aload_n ok d_To_init_0 rfl (j := 0) rfl ?_
  exact g_objI ok ml_To_3 wn_Object i_Object d_To_init_1 hf hl2 kk
theorem k_To_init_4 {X : gC} {M : List mC} {k n : Nat} {x0 : Nat} {M4 : List mC} {q5 : Nat} {fs10 : List Value} {fs14 : List Value} {M16 : List mC} {M24 : List mC} {q25 : Nat} {fs32 : List Value} {M34 : List mC} {M43 : List mC} {q44 : Nat} {fs53 : List Value} {M55 : List mC} {fs63 : List Value} {M65 : List mC} {fs74 : List Value} {M76 : List mC} (ok : gO X c_To_init "TripleStore$Tokens" w_To_init) (hin : (gM X).name = "<init>") (h1 : k + 1 ≤ (gR X).cells) (h2 : n + 161 ≤ (gR X).slots) (h3 : gW M [(0, .ref x0)] [.ref x0]) (h6 : M ++ [.inl (0, 161, .inl (fun _ => 0))] = M4) (h7 : M.length = q5) (h9 : M[x0]? = some (.inr (7, fs10))) (h13 : 5 ≤ fs10.length) (h15 : fs10.set 0 (.ref q5) = fs14) (h17 : M4.set x0 (.inr (7, fs14)) = M16) (h21 : k + 1 + 1 ≤ (gR X).cells) (h22 : n + 161 + 161 ≤ (gR X).slots) (h23 : gW M16 [(0, .ref x0)] [.ref x0]) (h26 : M16 ++ [.inl (1, 161, .inr (.inl (fun _ => 0)))] = M24) (h27 : M16.length = q25) (h33 : fs14.set 1 (.ref q25) = fs32) (h35 : M24.set x0 (.inr (7, fs32)) = M34) (h40 : k + 1 + 1 + 1 ≤ (gR X).cells) (h41 : n + 161 + 161 + 161 ≤ (gR X).slots) (h42 : gW M34 [(0, .ref x0)] [.ref x0]) (h45 : M34 ++ [.inl (0, 161, .inl (fun _ => 0))] = M43) (h46 : M34.length = q44) (h54 : fs32.set 2 (.ref q44) = fs53) (h56 : M43.set x0 (.inr (7, fs53)) = M55) (h64 : fs53.set 3 (.int 0) = fs63) (h66 : M55.set x0 (.inr (7, fs63)) = M65) (h75 : fs63.set 4 (.int 0) = fs74) (h77 : M65.set x0 (.inr (7, fs74)) = M76) {l9 : Launch} {rm : Room} {M0 : List mC} {post : Option Value → List mC → Prop} (E : gE X l9 y_To_init rm 1 none M0 post) (hp : post (none) M76) (hk : k + 1 + 1 + 1 ≤ rm.cells) (hn : n + 161 + 161 + 161 ≤ rm.slots) : gg X M k n 4 [(0, .ref x0)] [] := by
  refine g_aload_n ok d_To_init_4 rfl (j := 0) rfl ?_
  refine g_sipush (v := 161) ok d_To_init_5 (by decide) ?_
  refine g_newa (atype := .int) (ty := .int) (t := 0) (N := 161) (a0 := (161, .inl (fun _ => 0))) ok (List.mem_cons_of_mem _ (gT_at 83 (by decide +kernel) (by decide +kernel))) rfl rfl (fun _ => rfl) (fun _ => rfl) (by decide) (by decide) (by decide) d_To_init_8 h1 h2 h3 ?_
  rw [h6, h7]
  have h8 : M4[q5]? = some (.inl (0, 161, .inl (fun _ => 0))) := by rw [← h6, ← h7]; exact ga_new _ _
  have h11 : M4[x0]? = some (.inr (7, fs10)) := by rw [← h6]; exact ga_old h9
  have h12 : 0 < fs10.length := Nat.lt_of_lt_of_le (by decide) h13
  refine pf_To_9 ok hin d_To_init_10 h11 h12 (fun _ => ⟨rfl, rfl⟩) ?_
  rw [h15]
  rw [h17]
  have h18 : M16[x0]? = some (.inr (7, fs14)) := by rw [← h17]; exact gs_eq h11
  have h19 : fs14[0]? = some (.ref q5) := by rw [← h15]; exact List.getElem?_set_self h12
  have h20 : 5 ≤ fs14.length := by rw [← h15, List.length_set]; exact h13
  refine g_aload_n ok d_To_init_13 rfl (j := 0) rfl ?_
  refine g_sipush (v := 161) ok d_To_init_14 (by decide) ?_
  refine g_newa (atype := .long) (ty := .long) (t := 1) (N := 161) (a0 := (161, .inr (.inl (fun _ => 0)))) ok (List.mem_cons_of_mem _ (gT_at 56 (by decide +kernel) (by decide +kernel))) rfl rfl (fun _ => rfl) (fun _ => rfl) (by decide) (by decide) (by decide) d_To_init_17 h21 h22 h23 ?_
  rw [h26, h27]
  have h28 : M24[q25]? = some (.inl (1, 161, .inr (.inl (fun _ => 0)))) := by rw [← h26, ← h27]; exact ga_new _ _
  have h29 : M16[q5]? = some (.inl (0, 161, .inl (fun _ => 0))) := by rw [← h17]; exact (gs_ne (Ne.symm (ne_ao h8 h11))).trans h8
  have h30 : M24[x0]? = some (.inr (7, fs14)) := by rw [← h26]; exact ga_old h18
  have h31 : 1 < fs14.length := Nat.lt_of_lt_of_le (by decide) h20
  refine pf_To_15 ok hin d_To_init_19 h30 h31 (fun _ => ⟨rfl, rfl⟩) ?_
  rw [h33]
  rw [h35]
  have h36 : M34[x0]? = some (.inr (7, fs32)) := by rw [← h35]; exact gs_eq h30
  have h37 : fs32[0]? = some (.ref q5) := by rw [← h33]; exact (List.getElem?_set_ne (by decide : 1 ≠ 0)).trans h19
  have h38 : fs32[1]? = some (.ref q25) := by rw [← h33]; exact List.getElem?_set_self h31
  have h39 : 5 ≤ fs32.length := by rw [← h33, List.length_set]; exact h20
  refine g_aload_n ok d_To_init_22 rfl (j := 0) rfl ?_
  refine g_sipush (v := 161) ok d_To_init_23 (by decide) ?_
  refine g_newa (atype := .int) (ty := .int) (t := 0) (N := 161) (a0 := (161, .inl (fun _ => 0))) ok (List.mem_cons_of_mem _ (gT_at 83 (by decide +kernel) (by decide +kernel))) rfl rfl (fun _ => rfl) (fun _ => rfl) (by decide) (by decide) (by decide) d_To_init_26 h40 h41 h42 ?_
  rw [h45, h46]
  have h47 : M43[q44]? = some (.inl (0, 161, .inl (fun _ => 0))) := by rw [← h45, ← h46]; exact ga_new _ _
  have h48 : M24[q5]? = some (.inl (0, 161, .inl (fun _ => 0))) := by rw [← h26]; exact ga_old h29
  have h49 : M34[q5]? = some (.inl (0, 161, .inl (fun _ => 0))) := by rw [← h35]; exact (gs_ne (Ne.symm (ne_ao h48 h30))).trans h48
  have h50 : M34[q25]? = some (.inl (1, 161, .inr (.inl (fun _ => 0)))) := by rw [← h35]; exact (gs_ne (Ne.symm (ne_ao h28 h30))).trans h28
  have h51 : M43[x0]? = some (.inr (7, fs32)) := by rw [← h45]; exact ga_old h36
  have h52 : 2 < fs32.length := Nat.lt_of_lt_of_le (by decide) h39
  refine pf_To_19 ok hin d_To_init_28 h51 h52 (fun _ => ⟨rfl, rfl⟩) ?_
  rw [h54]
  rw [h56]
  have h57 : M55[x0]? = some (.inr (7, fs53)) := by rw [← h56]; exact gs_eq h51
  have h58 : fs53[0]? = some (.ref q5) := by rw [← h54]; exact (List.getElem?_set_ne (by decide : 2 ≠ 0)).trans h37
  have h59 : fs53[1]? = some (.ref q25) := by rw [← h54]; exact (List.getElem?_set_ne (by decide : 2 ≠ 1)).trans h38
  have h60 : fs53[2]? = some (.ref q44) := by rw [← h54]; exact List.getElem?_set_self h52
  have h61 : 5 ≤ fs53.length := by rw [← h54, List.length_set]; exact h39
  refine g_aload_n ok d_To_init_31 rfl (j := 0) rfl ?_
  refine g_iconst (v := 0) ok d_To_init_32 (by decide) ?_
  have h62 : 3 < fs53.length := Nat.lt_of_lt_of_le (by decide) h61
  refine pf_To_22 ok d_To_init_33 h57 h62 (fun _ => ⟨rfl, rfl⟩) ?_
  rw [h64]
  rw [h66]
  have h67 : M65[x0]? = some (.inr (7, fs63)) := by rw [← h66]; exact gs_eq h57
  have h68 : fs63[0]? = some (.ref q5) := by rw [← h64]; exact (List.getElem?_set_ne (by decide : 3 ≠ 0)).trans h58
  have h69 : fs63[1]? = some (.ref q25) := by rw [← h64]; exact (List.getElem?_set_ne (by decide : 3 ≠ 1)).trans h59
  have h70 : fs63[2]? = some (.ref q44) := by rw [← h64]; exact (List.getElem?_set_ne (by decide : 3 ≠ 2)).trans h60
  have h71 : fs63[3]? = some (.int 0) := by rw [← h64]; exact List.getElem?_set_self h62
  have h72 : 5 ≤ fs63.length := by rw [← h64, List.length_set]; exact h61
  refine g_aload_n ok d_To_init_36 rfl (j := 0) rfl ?_
  refine g_iconst (v := 0) ok d_To_init_37 (by decide) ?_
  have h73 : 4 < fs63.length := Nat.lt_of_lt_of_le (by decide) h72
  refine pf_To_26 ok d_To_init_38 h67 h73 (fun _ => ⟨rfl, rfl⟩) ?_
  rw [h75]
  rw [h77]
  have h78 : M76[x0]? = some (.inr (7, fs74)) := by rw [← h77]; exact gs_eq h67
  have h79 : fs74[0]? = some (.ref q5) := by rw [← h75]; exact (List.getElem?_set_ne (by decide : 4 ≠ 0)).trans h68
  have h80 : fs74[1]? = some (.ref q25) := by rw [← h75]; exact (List.getElem?_set_ne (by decide : 4 ≠ 1)).trans h69
  have h81 : fs74[2]? = some (.ref q44) := by rw [← h75]; exact (List.getElem?_set_ne (by decide : 4 ≠ 2)).trans h70
  have h82 : fs74[3]? = some (.int 0) := by rw [← h75]; exact (List.getElem?_set_ne (by decide : 4 ≠ 3)).trans h71
  have h83 : fs74[4]? = some (.int 0) := by rw [← h75]; exact List.getElem?_set_self h73
  have h84 : 5 ≤ fs74.length := by rw [← h75, List.length_set]; exact h72
  exact g_vret ok E d_To_init_41 hp hk hn
theorem k_To_kind_0 {X : gC} {M : List mC} {k n : Nat} {x0 : Nat} {fs2 : List Value} {f3 : Nat} {f5 : Int32} {g8 : Nat → Int32} {N9 : Nat} (ok : gO X c_To_kind "TripleStore$Tokens" w_To_kind) (h1 : M[x0]? = some (.inr (7, fs2))) (h4 : fs2[0]? = some (.ref f3)) (h6 : fs2[4]? = some (.int f5)) (h7 : M[f3]? = some (.inl (0, N9, .inl g8))) (h10 : vp_in f5 N9) {l9 : Launch} {rm : Room} {M0 : List mC} {post : Option Value → List mC → Prop} (E : gE X l9 y_To_kind rm 1 (some .int) M0 post) (hp : post (some (.int (g8 f5.toNatClampNeg))) M) (hk : k ≤ rm.cells) (hn : n ≤ rm.slots) : gg X M k n 0 [(0, .ref x0)] [] := by
  refine g_aload_n ok d_To_kind_0 rfl (j := 0) rfl ?_
  refine gf_To_9 ok d_To_kind_1 h1 h4 ?_
  refine g_aload_n ok d_To_kind_4 rfl (j := 0) rfl ?_
  refine gf_To_26 ok d_To_kind_5 h1 h6 ?_
  refine g_iald (t := 0) ok rfl d_To_kind_8 h7 h10 ?_
  exact g_iret ok E d_To_kind_9 hp hk hn
theorem k_To_value_0 {X : gC} {M : List mC} {k n : Nat} {x0 : Nat} {fs2 : List Value} {f3 : Nat} {f5 : Int32} {g8 : Nat → Int64} {N9 : Nat} (ok : gO X c_To_value "TripleStore$Tokens" w_To_value) (h1 : M[x0]? = some (.inr (7, fs2))) (h4 : fs2[1]? = some (.ref f3)) (h6 : fs2[4]? = some (.int f5)) (h7 : M[f3]? = some (.inl (1, N9, .inr (.inl g8)))) (h10 : vp_in f5 N9) {l9 : Launch} {rm : Room} {M0 : List mC} {post : Option Value → List mC → Prop} (E : gE X l9 y_To_value rm 1 (some .long) M0 post) (hp : post (some (.long (g8 f5.toNatClampNeg))) M) (hk : k ≤ rm.cells) (hn : n ≤ rm.slots) : gg X M k n 0 [(0, .ref x0)] [] := by
  refine g_aload_n ok d_To_value_0 rfl (j := 0) rfl ?_
  refine gf_To_15 ok d_To_value_1 h1 h4 ?_
  refine g_aload_n ok d_To_value_4 rfl (j := 0) rfl ?_
  refine gf_To_26 ok d_To_value_5 h1 h6 ?_
  refine g_lald (t := 1) ok rfl d_To_value_8 h7 h10 ?_
  exact g_lret ok E d_To_value_9 hp hk hn
theorem k_To_place_0 {X : gC} {M : List mC} {k n : Nat} {x0 : Nat} {fs2 : List Value} {f3 : Nat} {f5 : Int32} {g8 : Nat → Int32} {N9 : Nat} (ok : gO X c_To_place "TripleStore$Tokens" w_To_place) (h1 : M[x0]? = some (.inr (7, fs2))) (h4 : fs2[2]? = some (.ref f3)) (h6 : fs2[4]? = some (.int f5)) (h7 : M[f3]? = some (.inl (0, N9, .inl g8))) (h10 : vp_in f5 N9) {l9 : Launch} {rm : Room} {M0 : List mC} {post : Option Value → List mC → Prop} (E : gE X l9 y_To_place rm 1 (some .int) M0 post) (hp : post (some (.int (g8 f5.toNatClampNeg))) M) (hk : k ≤ rm.cells) (hn : n ≤ rm.slots) : gg X M k n 0 [(0, .ref x0)] [] := by
  refine g_aload_n ok d_To_place_0 rfl (j := 0) rfl ?_
  refine gf_To_19 ok d_To_place_1 h1 h4 ?_
  refine g_aload_n ok d_To_place_4 rfl (j := 0) rfl ?_
  refine gf_To_26 ok d_To_place_5 h1 h6 ?_
  refine g_iald (t := 0) ok rfl d_To_place_8 h7 h10 ?_
  exact g_iret ok E d_To_place_9 hp hk hn
theorem k_To_step_0 {X : gC} {M : List mC} {k n : Nat} {x0 : Nat} {fs2 : List Value} {f3 : Int32} {f5 : Int32} (ok : gO X c_To_step "TripleStore$Tokens" w_To_step) (h1 : M[x0]? = some (.inr (7, fs2))) (h4 : fs2[4]? = some (.int f3)) (h6 : fs2[3]? = some (.int f5)) (kt : (f5 - 1) ≤ f3 → gg X M k n 23 [] []) (kf : ¬ (f5 - 1) ≤ f3 → gg X M k n 13 [(0, .ref x0)] []) : gg X M k n 0 [(0, .ref x0)] [] := by
  refine g_aload_n ok d_To_step_0 rfl (j := 0) rfl ?_
  refine gf_To_26 ok d_To_step_1 h1 h4 ?_
  refine g_aload_n ok d_To_step_4 rfl (j := 0) rfl ?_
  refine gf_To_22 ok d_To_step_5 h1 h6 ?_
  refine g_iconst (v := 1) ok d_To_step_8 (by decide) ?_
  refine g_isub ok d_To_step_9 ?_
  exact g_icmp_ge (tgt := 23) ok d_To_step_10 (by decide) (fun z => (gg_keep [] (kt z))) (fun z => (kf z))
theorem k_To_step_13 {X : gC} {M : List mC} {k n : Nat} {x0 : Nat} {fs2 : List Value} {f3 : Int32} {fs7 : List Value} {M9 : List mC} (ok : gO X c_To_step "TripleStore$Tokens" w_To_step) (h1 : M[x0]? = some (.inr (7, fs2))) (h4 : fs2[4]? = some (.int f3)) (h6 : 5 ≤ fs2.length) (h8 : fs2.set 4 (.int (f3 + 1)) = fs7) (h10 : M.set x0 (.inr (7, fs7)) = M9) (kk : gg X M9 k n 23 [] []) : gg X M k n 13 [(0, .ref x0)] [] := by
  refine g_aload_n ok d_To_step_13 rfl (j := 0) rfl ?_
  refine g_dup ok d_To_step_14 rfl ?_
  refine gf_To_26 ok d_To_step_15 h1 h4 ?_
  refine g_iconst (v := 1) ok d_To_step_18 (by decide) ?_
  refine g_iadd ok d_To_step_19 ?_
  have h5 : 4 < fs2.length := Nat.lt_of_lt_of_le (by decide) h6
  refine pf_To_26 ok d_To_step_20 h1 h5 (fun _ => ⟨rfl, rfl⟩) ?_
  rw [h8]
  rw [h10]
  have h11 : M9[x0]? = some (.inr (7, fs7)) := by rw [← h10]; exact gs_eq h1
  have h12 : fs7[4]? = some (.int (f3 + 1)) := by rw [← h8]; exact List.getElem?_set_self h5
  have h13 : 5 ≤ fs7.length := by rw [← h8, List.length_set]; exact h6
  exact (gg_keep [] kk)
theorem k_To_step_23 {X : gC} {M : List mC} {k n : Nat}  (ok : gO X c_To_step "TripleStore$Tokens" w_To_step)  {l9 : Launch} {rm : Room} {M0 : List mC} {post : Option Value → List mC → Prop} (E : gE X l9 y_To_step rm 1 none M0 post) (hp : post (none) M) (hk : k ≤ rm.cells) (hn : n ≤ rm.slots) : gg X M k n 23 [] [] := by
  exact g_vret ok E d_To_step_23 hp hk hn
theorem k_To_isAtSign_0 {X : gC} {M : List mC} {k n : Nat} {x0 : Nat} {x1 : Int32} {fs2 : List Value} {f3 : Nat} {f5 : Int32} {g8 : Nat → Int32} {N9 : Nat} (ok : gO X c_To_isAtSign "TripleStore$Tokens" w_To_isAtSign) (h1 : M[x0]? = some (.inr (7, fs2))) (h4 : fs2[0]? = some (.ref f3)) (h6 : fs2[4]? = some (.int f5)) (h7 : M[f3]? = some (.inl (0, N9, .inl g8))) (h10 : vp_in f5 N9) (kt : ¬ (g8 f5.toNatClampNeg) = 3 → gg X M k n 32 [] []) (kf : (g8 f5.toNatClampNeg) = 3 → gg X M k n 13 [(0, .ref x0), (1, .int x1)] []) : gg X M k n 0 [(0, .ref x0), (1, .int x1)] [] := by
  refine g_aload_n ok d_To_isAtSign_0 rfl (j := 0) rfl ?_
  refine gf_To_9 ok d_To_isAtSign_1 h1 h4 ?_
  refine g_aload_n ok d_To_isAtSign_4 rfl (j := 0) rfl ?_
  refine gf_To_26 ok d_To_isAtSign_5 h1 h6 ?_
  refine g_iald (t := 0) ok rfl d_To_isAtSign_8 h7 h10 ?_
  refine g_iconst (v := 3) ok d_To_isAtSign_9 (by decide) ?_
  exact g_icmp_ne (tgt := 32) ok d_To_isAtSign_10 (by decide) (fun z => (gg_keep [] (kt z))) (fun z => (kf z))
theorem k_To_isAtSign_13 {X : gC} {M : List mC} {k n : Nat} {x0 : Nat} {x1 : Int32} {fs2 : List Value} {f3 : Nat} {f5 : Int32} {g8 : Nat → Int64} {N9 : Nat} (ok : gO X c_To_isAtSign "TripleStore$Tokens" w_To_isAtSign) (h1 : M[x0]? = some (.inr (7, fs2))) (h4 : fs2[1]? = some (.ref f3)) (h6 : fs2[4]? = some (.int f5)) (h7 : M[f3]? = some (.inl (1, N9, .inr (.inl g8)))) (h10 : vp_in f5 N9) (kt : ¬ (g8 f5.toNatClampNeg) = (x1.toInt64) → gg X M k n 32 [] []) (kf : (g8 f5.toNatClampNeg) = (x1.toInt64) → gg X M k n 28 [] []) : gg X M k n 13 [(0, .ref x0), (1, .int x1)] [] := by
  refine g_aload_n ok d_To_isAtSign_13 rfl (j := 0) rfl ?_
  refine gf_To_15 ok d_To_isAtSign_14 h1 h4 ?_
  refine g_aload_n ok d_To_isAtSign_17 rfl (j := 0) rfl ?_
  refine gf_To_26 ok d_To_isAtSign_18 h1 h6 ?_
  refine g_lald (t := 1) ok rfl d_To_isAtSign_21 h7 h10 ?_
  refine g_iload_n ok d_To_isAtSign_22 rfl (j := 1) rfl ?_
  refine g_i2l ok d_To_isAtSign_23 ?_
  exact g_lc_ne (tgt := 32) ok d_To_isAtSign_24 d_To_isAtSign_25 (by decide) (fun z => (gg_keep [] (kt z))) (fun z => (gg_keep [] (kf z)))
theorem k_To_isAtSign_28 {X : gC} {M : List mC} {k n : Nat}  (ok : gO X c_To_isAtSign "TripleStore$Tokens" w_To_isAtSign)  (kk : gg X M k n 33 [] [.int 1]) : gg X M k n 28 [] [] := by
  refine g_iconst (v := 1) ok d_To_isAtSign_28 (by decide) ?_
  exact g_goto (tgt := 33) ok d_To_isAtSign_29 (by decide) kk
theorem k_To_isAtSign_32 {X : gC} {M : List mC} {k n : Nat}  (ok : gO X c_To_isAtSign "TripleStore$Tokens" w_To_isAtSign)  (kk : gg X M k n 33 [] [.int 0]) : gg X M k n 32 [] [] := by
  refine g_iconst (v := 0) ok d_To_isAtSign_32 (by decide) ?_
  exact kk
theorem k_To_isAtSign_33 {X : gC} {M : List mC} {k n : Nat} {s0 : Int32} (ok : gO X c_To_isAtSign "TripleStore$Tokens" w_To_isAtSign)  {l9 : Launch} {rm : Room} {M0 : List mC} {post : Option Value → List mC → Prop} (E : gE X l9 y_To_isAtSign rm 2 (some .boolean) M0 post) (hz : narrow .boolean (.int s0) = .int s0) (hp : post (some (.int s0)) M) (hk : k ≤ rm.cells) (hn : n ≤ rm.slots) : gg X M k n 33 [] [.int s0] := by
  exact g_zret ok E d_To_isAtSign_33 hz hp hk hn
theorem k_To_takeSign_0 {X : gC} {M : List mC} {k n : Nat} {x0 : Nat} {x1 : Int32} {fs2 : List Value} (ok : gO X c_To_takeSign "TripleStore$Tokens" w_To_takeSign) (h1 : M[x0]? = some (.inr (7, fs2))) {rm : Room} {post : Option Value → List mC → Prop} (hm : mm_ (gLa X) y_To_isAtSign w_To_isAtSign rm [.ref x0, .int x1] M post) (hR : gF X rm 2 k n) (hlen : ∀ r M', post r M' → M'.length = M.length) (kk : ∀ r M', post r M' → gg X M' (k + rm.cells) (n + rm.slots) 5 [(0, .ref x0)] (r.toList ++ [])) : gg X M k n 0 [(0, .ref x0), (1, .int x1)] [] := by
  refine g_aload_n ok d_To_takeSign_0 rfl (j := 0) rfl ?_
  refine g_iload_n ok d_To_takeSign_1 rfl (j := 1) rfl ?_
  exact gc_To_29 (As := [.int x1]) (rest := []) ok d_To_takeSign_2 hm rfl rfl (Nat.le_of_ble_eq_true rfl) hR h1 hlen (fun r M' q => (gg_keep [0] (kk r M' q)))
theorem k_To_takeSign_5 {X : gC} {M : List mC} {k n : Nat} {x0 : Nat} {s0 : Int32} (ok : gO X c_To_takeSign "TripleStore$Tokens" w_To_takeSign) (hl : gL X = 3)  (kt : s0 = 0 → gg X M k n 14 [(2, .int s0)] []) (kf : ¬ s0 = 0 → gg X M k n 10 [(0, .ref x0), (2, .int s0)] []) : gg X M k n 5 [(0, .ref x0)] [.int s0] := by
  refine g_istore_n (L' := [(0, .ref x0), (2, .int s0)]) ok d_To_takeSign_5 rfl (by rw [hl]; decide) rfl ?_
  refine g_iload_n ok d_To_takeSign_6 rfl (j := 1) rfl ?_
  exact g_if_eq (tgt := 14) ok d_To_takeSign_7 (by decide) (fun z => (gg_keep [2] (kt z))) (fun z => (kf z))
theorem k_To_takeSign_10 {X : gC} {M : List mC} {k n : Nat} {x0 : Nat} {x2 : Int32} {fs2 : List Value} (ok : gO X c_To_takeSign "TripleStore$Tokens" w_To_takeSign) (h1 : M[x0]? = some (.inr (7, fs2))) {rm : Room} {post : Option Value → List mC → Prop} (hm : mm_ (gLa X) y_To_step w_To_step rm [.ref x0] M post) (hR : gF X rm 1 k n) (hlen : ∀ r M', post r M' → M'.length = M.length) (kk : ∀ r M', post r M' → gg X M' (k + rm.cells) (n + rm.slots) 14 [(2, .int x2)] (r.toList ++ [])) : gg X M k n 10 [(0, .ref x0), (2, .int x2)] [] := by
  refine g_aload_n ok d_To_takeSign_10 rfl (j := 0) rfl ?_
  exact gc_To_33 (As := []) (rest := []) ok d_To_takeSign_11 hm rfl rfl (Nat.le_of_ble_eq_true rfl) hR h1 hlen (fun r M' q => (gg_keep [2] (kk r M' q)))
theorem k_To_takeSign_14 {X : gC} {M : List mC} {k n : Nat} {x2 : Int32} (ok : gO X c_To_takeSign "TripleStore$Tokens" w_To_takeSign)  {l9 : Launch} {rm : Room} {M0 : List mC} {post : Option Value → List mC → Prop} (E : gE X l9 y_To_takeSign rm 3 (some .boolean) M0 post) (hz : narrow .boolean (.int x2) = .int x2) (hp : post (some (.int x2)) M) (hk : k ≤ rm.cells) (hn : n ≤ rm.slots) : gg X M k n 14 [(2, .int x2)] [] := by
  refine g_iload_n ok d_To_takeSign_14 rfl (j := 0) rfl ?_
  exact g_zret ok E d_To_takeSign_15 hz hp hk hn
theorem k_To_takeKey_0 {X : gC} {M : List mC} {k n : Nat} {x0 : Nat} {x1 : Int64} {fs2 : List Value} {f3 : Nat} {f5 : Int32} {g8 : Nat → Int32} {N9 : Nat} (ok : gO X c_To_takeKey "TripleStore$Tokens" w_To_takeKey) (h1 : M[x0]? = some (.inr (7, fs2))) (h4 : fs2[0]? = some (.ref f3)) (h6 : fs2[4]? = some (.int f5)) (h7 : M[f3]? = some (.inl (0, N9, .inl g8))) (h10 : vp_in f5 N9) (kt : ¬ (g8 f5.toNatClampNeg) = 2 → gg X M k n 31 [(0, .ref x0)] []) (kf : (g8 f5.toNatClampNeg) = 2 → gg X M k n 13 [(0, .ref x0), (1, .long x1)] []) : gg X M k n 0 [(0, .ref x0), (1, .long x1)] [] := by
  refine g_aload_n ok d_To_takeKey_0 rfl (j := 0) rfl ?_
  refine gf_To_9 ok d_To_takeKey_1 h1 h4 ?_
  refine g_aload_n ok d_To_takeKey_4 rfl (j := 0) rfl ?_
  refine gf_To_26 ok d_To_takeKey_5 h1 h6 ?_
  refine g_iald (t := 0) ok rfl d_To_takeKey_8 h7 h10 ?_
  refine g_iconst (v := 2) ok d_To_takeKey_9 (by decide) ?_
  exact g_icmp_ne (tgt := 31) ok d_To_takeKey_10 (by decide) (fun z => (gg_keep [0] (kt z))) (fun z => (kf z))
theorem k_To_takeKey_13 {X : gC} {M : List mC} {k n : Nat} {x0 : Nat} {x1 : Int64} {fs2 : List Value} {f3 : Nat} {f5 : Int32} {g8 : Nat → Int64} {N9 : Nat} (ok : gO X c_To_takeKey "TripleStore$Tokens" w_To_takeKey) (h1 : M[x0]? = some (.inr (7, fs2))) (h4 : fs2[1]? = some (.ref f3)) (h6 : fs2[4]? = some (.int f5)) (h7 : M[f3]? = some (.inl (1, N9, .inr (.inl g8)))) (h10 : vp_in f5 N9) (kt : ¬ (g8 f5.toNatClampNeg) = x1 → gg X M k n 31 [(0, .ref x0)] []) (kf : (g8 f5.toNatClampNeg) = x1 → gg X M k n 27 [(0, .ref x0)] []) : gg X M k n 13 [(0, .ref x0), (1, .long x1)] [] := by
  refine g_aload_n ok d_To_takeKey_13 rfl (j := 0) rfl ?_
  refine gf_To_15 ok d_To_takeKey_14 h1 h4 ?_
  refine g_aload_n ok d_To_takeKey_17 rfl (j := 0) rfl ?_
  refine gf_To_26 ok d_To_takeKey_18 h1 h6 ?_
  refine g_lald (t := 1) ok rfl d_To_takeKey_21 h7 h10 ?_
  refine g_lload_n ok d_To_takeKey_22 rfl (j := 1) rfl ?_
  exact g_lc_ne (tgt := 31) ok d_To_takeKey_23 d_To_takeKey_24 (by decide) (fun z => (gg_keep [0] (kt z))) (fun z => (gg_keep [0] (kf z)))
theorem k_To_takeKey_27 {X : gC} {M : List mC} {k n : Nat} {x0 : Nat} (ok : gO X c_To_takeKey "TripleStore$Tokens" w_To_takeKey)  (kk : gg X M k n 32 [(0, .ref x0)] [.int 1]) : gg X M k n 27 [(0, .ref x0)] [] := by
  refine g_iconst (v := 1) ok d_To_takeKey_27 (by decide) ?_
  exact g_goto (tgt := 32) ok d_To_takeKey_28 (by decide) kk
theorem k_To_takeKey_31 {X : gC} {M : List mC} {k n : Nat} {x0 : Nat} (ok : gO X c_To_takeKey "TripleStore$Tokens" w_To_takeKey)  (kk : gg X M k n 32 [(0, .ref x0)] [.int 0]) : gg X M k n 31 [(0, .ref x0)] [] := by
  refine g_iconst (v := 0) ok d_To_takeKey_31 (by decide) ?_
  exact kk
theorem k_To_takeKey_32 {X : gC} {M : List mC} {k n : Nat} {x0 : Nat} {s0 : Int32} (ok : gO X c_To_takeKey "TripleStore$Tokens" w_To_takeKey) (hl : gL X = 4)  (kt : s0 = 0 → gg X M k n 41 [(3, .int s0)] []) (kf : ¬ s0 = 0 → gg X M k n 37 [(0, .ref x0), (3, .int s0)] []) : gg X M k n 32 [(0, .ref x0)] [.int s0] := by
  refine g_istore_n (L' := [(0, .ref x0), (3, .int s0)]) ok d_To_takeKey_32 rfl (by rw [hl]; decide) rfl ?_
  refine g_iload_n ok d_To_takeKey_33 rfl (j := 1) rfl ?_
  exact g_if_eq (tgt := 41) ok d_To_takeKey_34 (by decide) (fun z => (gg_keep [3] (kt z))) (fun z => (kf z))
theorem k_To_takeKey_37 {X : gC} {M : List mC} {k n : Nat} {x0 : Nat} {x3 : Int32} {fs2 : List Value} (ok : gO X c_To_takeKey "TripleStore$Tokens" w_To_takeKey) (h1 : M[x0]? = some (.inr (7, fs2))) {rm : Room} {post : Option Value → List mC → Prop} (hm : mm_ (gLa X) y_To_step w_To_step rm [.ref x0] M post) (hR : gF X rm 1 k n) (hlen : ∀ r M', post r M' → M'.length = M.length) (kk : ∀ r M', post r M' → gg X M' (k + rm.cells) (n + rm.slots) 41 [(3, .int x3)] (r.toList ++ [])) : gg X M k n 37 [(0, .ref x0), (3, .int x3)] [] := by
  refine g_aload_n ok d_To_takeKey_37 rfl (j := 0) rfl ?_
  exact gc_To_33 (As := []) (rest := []) ok d_To_takeKey_38 hm rfl rfl (Nat.le_of_ble_eq_true rfl) hR h1 hlen (fun r M' q => (gg_keep [3] (kk r M' q)))
theorem k_To_takeKey_41 {X : gC} {M : List mC} {k n : Nat} {x3 : Int32} (ok : gO X c_To_takeKey "TripleStore$Tokens" w_To_takeKey)  {l9 : Launch} {rm : Room} {M0 : List mC} {post : Option Value → List mC → Prop} (E : gE X l9 y_To_takeKey rm 4 (some .boolean) M0 post) (hz : narrow .boolean (.int x3) = .int x3) (hp : post (some (.int x3)) M) (hk : k ≤ rm.cells) (hn : n ≤ rm.slots) : gg X M k n 41 [(3, .int x3)] [] := by
  refine g_iload_n ok d_To_takeKey_41 rfl (j := 0) rfl ?_
  exact g_zret ok E d_To_takeKey_42 hz hp hk hn
theorem k_To_readAll_0 {X : gC} {M : List mC} {k n : Nat} {x0 : Nat} {x1 : Nat} {x2 : Int32} {fs2 : List Value} {fs5 : List Value} {M7 : List mC} {fs13 : List Value} {M15 : List mC} (ok : gO X c_To_readAll "TripleStore$Tokens" w_To_readAll) (hl : gL X = 6) (h1 : M[x0]? = some (.inr (7, fs2))) (h4 : 5 ≤ fs2.length) (h6 : fs2.set 4 (.int 0) = fs5) (h8 : M.set x0 (.inr (7, fs5)) = M7) (h14 : fs5.set 3 (.int 0) = fs13) (h16 : M7.set x0 (.inr (7, fs13)) = M15) (kk : gg X M15 k n 18 [(0, .ref x0), (1, .ref x1), (2, .int x2), (3, .int 0), (4, .int 0), (5, .int 0)] []) : gg X M k n 0 [(0, .ref x0), (1, .ref x1), (2, .int x2)] [] := by
  refine g_iconst (v := 0) ok d_To_readAll_0 (by decide) ?_
  refine g_istore_n (L' := [(0, .ref x0), (1, .ref x1), (2, .int x2), (3, .int 0)]) ok d_To_readAll_1 rfl (by rw [hl]; decide) rfl ?_
  refine g_iconst (v := 0) ok d_To_readAll_2 (by decide) ?_
  refine g_istore (L' := [(0, .ref x0), (1, .ref x1), (2, .int x2), (3, .int 0), (4, .int 0)]) ok d_To_readAll_3 (by rw [hl]; decide) rfl ?_
  refine g_aload_n ok d_To_readAll_5 rfl (j := 0) rfl ?_
  refine g_iconst (v := 0) ok d_To_readAll_6 (by decide) ?_
  have h3 : 4 < fs2.length := Nat.lt_of_lt_of_le (by decide) h4
  refine pf_To_26 ok d_To_readAll_7 h1 h3 (fun _ => ⟨rfl, rfl⟩) ?_
  rw [h6]
  rw [h8]
  have h9 : M7[x0]? = some (.inr (7, fs5)) := by rw [← h8]; exact gs_eq h1
  have h10 : fs5[4]? = some (.int 0) := by rw [← h6]; exact List.getElem?_set_self h3
  have h11 : 5 ≤ fs5.length := by rw [← h6, List.length_set]; exact h4
  refine g_aload_n ok d_To_readAll_10 rfl (j := 0) rfl ?_
  refine g_iconst (v := 0) ok d_To_readAll_11 (by decide) ?_
  have h12 : 3 < fs5.length := Nat.lt_of_lt_of_le (by decide) h11
  refine pf_To_22 ok d_To_readAll_12 h9 h12 (fun _ => ⟨rfl, rfl⟩) ?_
  rw [h14]
  rw [h16]
  have h17 : M15[x0]? = some (.inr (7, fs13)) := by rw [← h16]; exact gs_eq h9
  have h18 : fs13[4]? = some (.int 0) := by rw [← h14]; exact (List.getElem?_set_ne (by decide : 3 ≠ 4)).trans h10
  have h19 : fs13[3]? = some (.int 0) := by rw [← h14]; exact List.getElem?_set_self h12
  have h20 : 5 ≤ fs13.length := by rw [← h14, List.length_set]; exact h11
  refine g_iconst (v := 0) ok d_To_readAll_15 (by decide) ?_
  refine g_istore (L' := [(0, .ref x0), (1, .ref x1), (2, .int x2), (3, .int 0), (4, .int 0), (5, .int 0)]) ok d_To_readAll_16 (by rw [hl]; decide) rfl ?_
  exact kk
theorem k_To_readAll_18 {X : gC} {M : List mC} {k n : Nat} {x0 : Nat} {x1 : Nat} {x2 : Int32} {x3 : Int32} {x4 : Int32} {x5 : Int32} (ok : gO X c_To_readAll "TripleStore$Tokens" w_To_readAll)  (kt : 160 ≤ x5 → gg X M k n 62 [(0, .ref x0), (4, .int x4)] []) (kf : ¬ 160 ≤ x5 → gg X M k n 26 [(0, .ref x0), (1, .ref x1), (2, .int x2), (3, .int x3), (4, .int x4), (5, .int x5)] []) : gg X M k n 18 [(0, .ref x0), (1, .ref x1), (2, .int x2), (3, .int x3), (4, .int x4), (5, .int x5)] [] := by
  refine g_iload ok d_To_readAll_18 (j := 5) rfl ?_
  refine g_sipush (v := 160) ok d_To_readAll_20 (by decide) ?_
  exact g_icmp_ge (tgt := 62) ok d_To_readAll_23 (by decide) (fun z => (gg_keep [0, 4] (kt z))) (fun z => (kf z))
theorem k_To_readAll_26 {X : gC} {M : List mC} {k n : Nat} {x0 : Nat} {x1 : Nat} {x2 : Int32} {x3 : Int32} {x4 : Int32} {x5 : Int32} (ok : gO X c_To_readAll "TripleStore$Tokens" w_To_readAll)  (kt : x2 ≤ x3 → gg X M k n 62 [(0, .ref x0), (4, .int x4)] []) (kf : ¬ x2 ≤ x3 → gg X M k n 31 [(0, .ref x0), (1, .ref x1), (2, .int x2), (3, .int x3), (4, .int x4), (5, .int x5)] []) : gg X M k n 26 [(0, .ref x0), (1, .ref x1), (2, .int x2), (3, .int x3), (4, .int x4), (5, .int x5)] [] := by
  refine g_iload_n ok d_To_readAll_26 rfl (j := 3) rfl ?_
  refine g_iload_n ok d_To_readAll_27 rfl (j := 2) rfl ?_
  exact g_icmp_ge (tgt := 62) ok d_To_readAll_28 (by decide) (fun z => (gg_keep [0, 4] (kt z))) (fun z => (kf z))
theorem k_To_readAll_31 {X : gC} {M : List mC} {k n : Nat} {x0 : Nat} {x1 : Nat} {x2 : Int32} {x3 : Int32} {x4 : Int32} {x5 : Int32} {g2 : Nat → Int32} {N3 : Nat} (ok : gO X c_To_readAll "TripleStore$Tokens" w_To_readAll) (h1 : M[x1]? = some (.inl (2, N3, .inl g2))) (h4 : vp_in x3 N3) (kt : ¬ (g2 x3.toNatClampNeg) = 32 → gg X M k n 45 [(0, .ref x0), (1, .ref x1), (2, .int x2), (3, .int x3), (5, .int x5)] []) (kf : (g2 x3.toNatClampNeg) = 32 → gg X M k n 39 [(0, .ref x0), (1, .ref x1), (2, .int x2), (3, .int x3), (4, .int x4), (5, .int x5)] []) : gg X M k n 31 [(0, .ref x0), (1, .ref x1), (2, .int x2), (3, .int x3), (4, .int x4), (5, .int x5)] [] := by
  refine g_aload_n ok d_To_readAll_31 rfl (j := 1) rfl ?_
  refine g_iload_n ok d_To_readAll_32 rfl (j := 3) rfl ?_
  refine g_cald (t := 2) ok rfl d_To_readAll_33 h1 h4 ?_
  refine g_bipush (v := 32) ok d_To_readAll_34 (by decide) ?_
  exact g_icmp_ne (tgt := 45) ok d_To_readAll_36 (by decide) (fun z => (gg_keep [0, 1, 2, 3, 5] (kt z))) (fun z => (kf z))
theorem k_To_readAll_39 {X : gC} {M : List mC} {k n : Nat} {x0 : Nat} {x1 : Nat} {x2 : Int32} {x3 : Int32} {x4 : Int32} {x5 : Int32} (ok : gO X c_To_readAll "TripleStore$Tokens" w_To_readAll) (hl : gL X = 6)  (kk : gg X M k n 56 [(0, .ref x0), (1, .ref x1), (2, .int x2), (3, .int (x3 + 1)), (4, .int x4), (5, .int x5)] []) : gg X M k n 39 [(0, .ref x0), (1, .ref x1), (2, .int x2), (3, .int x3), (4, .int x4), (5, .int x5)] [] := by
  refine g_iinc (L' := [(0, .ref x0), (1, .ref x1), (2, .int x2), (3, .int (x3 + 1)), (4, .int x4), (5, .int x5)]) (v := (x3 + 1)) ok d_To_readAll_39 (j := 3) rfl rfl (by rw [hl]; decide) rfl ?_
  exact g_goto (tgt := 56) ok d_To_readAll_42 (by decide) kk
theorem k_To_readAll_45 {X : gC} {M : List mC} {k n : Nat} {x0 : Nat} {x1 : Nat} {x2 : Int32} {x3 : Int32} {x5 : Int32} {fs2 : List Value} (ok : gO X c_To_readAll "TripleStore$Tokens" w_To_readAll) (h1 : M[x0]? = some (.inr (7, fs2))) {rm : Room} {post : Option Value → List mC → Prop} (hm : mm_ (gLa X) y_To_readToken w_To_readToken rm [.ref x0, .ref x1, .int x2, .int x3] M post) (hR : gF X rm 5 k n) (hlen : ∀ r M', post r M' → M'.length = M.length) (kk : ∀ r M', post r M' → gg X M' (k + rm.cells) (n + rm.slots) 52 [(0, .ref x0), (1, .ref x1), (2, .int x2), (5, .int x5)] (r.toList ++ [])) : gg X M k n 45 [(0, .ref x0), (1, .ref x1), (2, .int x2), (3, .int x3), (5, .int x5)] [] := by
  refine g_aload_n ok d_To_readAll_45 rfl (j := 0) rfl ?_
  refine g_aload_n ok d_To_readAll_46 rfl (j := 1) rfl ?_
  refine g_iload_n ok d_To_readAll_47 rfl (j := 2) rfl ?_
  refine g_iload_n ok d_To_readAll_48 rfl (j := 3) rfl ?_
  exact gc_To_36 (As := [.ref x1, .int x2, .int x3]) (rest := []) ok d_To_readAll_49 hm rfl rfl (Nat.le_of_ble_eq_true rfl) hR h1 hlen (fun r M' q => (gg_keep [0, 1, 2, 5] (kk r M' q)))
theorem k_To_readAll_52 {X : gC} {M : List mC} {k n : Nat} {x0 : Nat} {x1 : Nat} {x2 : Int32} {x5 : Int32} {s0 : Int32} (ok : gO X c_To_readAll "TripleStore$Tokens" w_To_readAll) (hl : gL X = 6)  (kk : gg X M k n 56 [(0, .ref x0), (1, .ref x1), (2, .int x2), (3, .int s0), (4, .int s0), (5, .int x5)] []) : gg X M k n 52 [(0, .ref x0), (1, .ref x1), (2, .int x2), (5, .int x5)] [.int s0] := by
  refine g_istore_n (L' := [(0, .ref x0), (1, .ref x1), (2, .int x2), (3, .int s0), (5, .int x5)]) ok d_To_readAll_52 rfl (by rw [hl]; decide) rfl ?_
  refine g_iload_n ok d_To_readAll_53 rfl (j := 3) rfl ?_
  refine g_istore (L' := [(0, .ref x0), (1, .ref x1), (2, .int x2), (3, .int s0), (4, .int s0), (5, .int x5)]) ok d_To_readAll_54 (by rw [hl]; decide) rfl ?_
  exact kk
theorem k_To_readAll_56 {X : gC} {M : List mC} {k n : Nat} {x0 : Nat} {x1 : Nat} {x2 : Int32} {x3 : Int32} {x4 : Int32} {x5 : Int32} (ok : gO X c_To_readAll "TripleStore$Tokens" w_To_readAll) (hl : gL X = 6)  (kk : gg X M k n 18 [(0, .ref x0), (1, .ref x1), (2, .int x2), (3, .int x3), (4, .int x4), (5, .int (x5 + 1))] []) : gg X M k n 56 [(0, .ref x0), (1, .ref x1), (2, .int x2), (3, .int x3), (4, .int x4), (5, .int x5)] [] := by
  refine g_iinc (L' := [(0, .ref x0), (1, .ref x1), (2, .int x2), (3, .int x3), (4, .int x4), (5, .int (x5 + 1))]) (v := (x5 + 1)) ok d_To_readAll_56 (j := 5) rfl rfl (by rw [hl]; decide) rfl ?_
  exact g_goto (tgt := 18) ok d_To_readAll_59 (by decide) kk
theorem k_To_readAll_62 {X : gC} {M : List mC} {k n : Nat} {x0 : Nat} {x4 : Int32} {fs2 : List Value} (ok : gO X c_To_readAll "TripleStore$Tokens" w_To_readAll) (h1 : M[x0]? = some (.inr (7, fs2))) {rm : Room} {post : Option Value → List mC → Prop} (hm : mm_ (gLa X) y_To_note w_To_note rm [.ref x0, .int 0, .long 0, .int x4] M post) (hR : gF X rm 5 k n) (hlen : ∀ r M', post r M' → M'.length = M.length) (kk : ∀ r M', post r M' → gg X M' (k + rm.cells) (n + rm.slots) 70 [] (r.toList ++ [])) : gg X M k n 62 [(0, .ref x0), (4, .int x4)] [] := by
  refine g_aload_n ok d_To_readAll_62 rfl (j := 0) rfl ?_
  refine g_iconst (v := 0) ok d_To_readAll_63 (by decide) ?_
  refine g_lconst (v := 0) ok d_To_readAll_64 (by decide) ?_
  refine g_iload ok d_To_readAll_65 (j := 1) rfl ?_
  exact gc_To_40 (As := [.int 0, .long 0, .int x4]) (rest := []) ok d_To_readAll_67 hm rfl rfl (Nat.le_of_ble_eq_true rfl) hR h1 hlen (fun r M' q => (gg_keep [] (kk r M' q)))
theorem k_To_readAll_70 {X : gC} {M : List mC} {k n : Nat}  (ok : gO X c_To_readAll "TripleStore$Tokens" w_To_readAll)  {l9 : Launch} {rm : Room} {M0 : List mC} {post : Option Value → List mC → Prop} (E : gE X l9 y_To_readAll rm 6 none M0 post) (hp : post (none) M) (hk : k ≤ rm.cells) (hn : n ≤ rm.slots) : gg X M k n 70 [] [] := by
  exact g_vret ok E d_To_readAll_70 hp hk hn
theorem k_To_note_0 {X : gC} {M : List mC} {k n : Nat} {x0 : Nat} {x1 : Int32} {x2 : Int64} {x4 : Int32} {fs2 : List Value} {f3 : Int32} (ok : gO X c_To_note "TripleStore$Tokens" w_To_note) (h1 : M[x0]? = some (.inr (7, fs2))) (h4 : fs2[3]? = some (.int f3)) (kt : f3 ≤ 160 → gg X M k n 11 [(0, .ref x0), (1, .int x1), (2, .long x2), (4, .int x4)] []) (kf : ¬ f3 ≤ 160 → gg X M k n 10 [] []) : gg X M k n 0 [(0, .ref x0), (1, .int x1), (2, .long x2), (4, .int x4)] [] := by
  refine g_aload_n ok d_To_note_0 rfl (j := 0) rfl ?_
  refine gf_To_22 ok d_To_note_1 h1 h4 ?_
  refine g_sipush (v := 160) ok d_To_note_4 (by decide) ?_
  exact g_icmp_le (tgt := 11) ok d_To_note_7 (by decide) (fun z => (kt z)) (fun z => (gg_keep [] (kf z)))
theorem k_To_note_10 {X : gC} {M : List mC} {k n : Nat}  (ok : gO X c_To_note "TripleStore$Tokens" w_To_note)  {l9 : Launch} {rm : Room} {M0 : List mC} {post : Option Value → List mC → Prop} (E : gE X l9 y_To_note rm 5 none M0 post) (hp : post (none) M) (hk : k ≤ rm.cells) (hn : n ≤ rm.slots) : gg X M k n 10 [] [] := by
  exact g_vret ok E d_To_note_10 hp hk hn
theorem k_To_note_11 {X : gC} {M : List mC} {k n : Nat} {x0 : Nat} {x1 : Int32} {x2 : Int64} {x4 : Int32} {fs2 : List Value} {f3 : Nat} {f5 : Int32} {g8 : Nat → Int32} {N9 : Nat} {M11 : List mC} {f15 : Nat} {g18 : Nat → Int64} {N19 : Nat} {M23 : List mC} {f27 : Nat} {g30 : Nat → Int32} {N31 : Nat} {M37 : List mC} {fs43 : List Value} {M45 : List mC} (ok : gO X c_To_note "TripleStore$Tokens" w_To_note) (h1 : M[x0]? = some (.inr (7, fs2))) (h4 : fs2[0]? = some (.ref f3)) (h6 : fs2[3]? = some (.int f5)) (h7 : M[f3]? = some (.inl (0, N9, .inl g8))) (h10 : vp_in f5 N9) (h12 : M.set f3 (.inl (0, N9, .inl (upd g8 f5.toNatClampNeg x1))) = M11) (h16 : fs2[1]? = some (.ref f15)) (h17 : M[f15]? = some (.inl (1, N19, .inr (.inl g18)))) (h21 : f15 ≠ f3) (h22 : vp_in f5 N19) (h24 : M11.set f15 (.inl (1, N19, .inr (.inl (vp_updL g18 f5.toNatClampNeg x2)))) = M23) (h28 : fs2[2]? = some (.ref f27)) (h29 : M[f27]? = some (.inl (0, N31, .inl g30))) (h33 : f27 ≠ f3) (h35 : f15 ≠ f27) (h36 : vp_in f5 N31) (h38 : M23.set f27 (.inl (0, N31, .inl (upd g30 f5.toNatClampNeg x4))) = M37) (h42 : 5 ≤ fs2.length) (h44 : fs2.set 3 (.int (f5 + 1)) = fs43) (h46 : M37.set x0 (.inr (7, fs43)) = M45) {l9 : Launch} {rm : Room} {M0 : List mC} {post : Option Value → List mC → Prop} (E : gE X l9 y_To_note rm 5 none M0 post) (hp : post (none) M45) (hk : k ≤ rm.cells) (hn : n ≤ rm.slots) : gg X M k n 11 [(0, .ref x0), (1, .int x1), (2, .long x2), (4, .int x4)] [] := by
  refine g_aload_n ok d_To_note_11 rfl (j := 0) rfl ?_
  refine gf_To_9 ok d_To_note_12 h1 h4 ?_
  refine g_aload_n ok d_To_note_15 rfl (j := 0) rfl ?_
  refine gf_To_22 ok d_To_note_16 h1 h6 ?_
  refine g_iload_n ok d_To_note_19 rfl (j := 1) rfl ?_
  refine g_iast (t := 0) ok rfl d_To_note_20 h7 h10 ?_
  rw [h12]
  have h13 : M11[f3]? = some (.inl (0, N9, .inl (upd g8 f5.toNatClampNeg x1))) := by rw [← h12]; exact gs_eq h7
  refine g_aload_n ok d_To_note_21 rfl (j := 0) rfl ?_
  have h14 : M11[x0]? = some (.inr (7, fs2)) := by rw [← h12]; exact (gs_ne (ne_ao h7 h1)).trans h1
  refine gf_To_15 ok d_To_note_22 h14 h16 ?_
  refine g_aload_n ok d_To_note_25 rfl (j := 0) rfl ?_
  refine gf_To_22 ok d_To_note_26 h14 h6 ?_
  refine g_lload_n ok d_To_note_29 rfl (j := 2) rfl ?_
  have h20 : M11[f15]? = some (.inl (1, N19, .inr (.inl g18))) := by rw [← h12]; exact (gs_ne (Ne.symm h21)).trans h17
  refine g_last (t := 1) ok rfl d_To_note_30 h20 h22 ?_
  rw [h24]
  have h25 : M23[f15]? = some (.inl (1, N19, .inr (.inl (vp_updL g18 f5.toNatClampNeg x2)))) := by rw [← h24]; exact gs_eq h20
  refine g_aload_n ok d_To_note_31 rfl (j := 0) rfl ?_
  have h26 : M23[x0]? = some (.inr (7, fs2)) := by rw [← h24]; exact (gs_ne (ne_ao h20 h14)).trans h14
  refine gf_To_19 ok d_To_note_32 h26 h28 ?_
  refine g_aload_n ok d_To_note_35 rfl (j := 0) rfl ?_
  refine gf_To_22 ok d_To_note_36 h26 h6 ?_
  refine g_iload ok d_To_note_39 (j := 3) rfl ?_
  have h32 : M11[f27]? = some (.inl (0, N31, .inl g30)) := by rw [← h12]; exact (gs_ne (Ne.symm h33)).trans h29
  have h34 : M23[f27]? = some (.inl (0, N31, .inl g30)) := by rw [← h24]; exact (gs_ne h35).trans h32
  refine g_iast (t := 0) ok rfl d_To_note_41 h34 h36 ?_
  rw [h38]
  have h39 : M37[f27]? = some (.inl (0, N31, .inl (upd g30 f5.toNatClampNeg x4))) := by rw [← h38]; exact gs_eq h34
  refine g_aload_n ok d_To_note_42 rfl (j := 0) rfl ?_
  refine g_dup ok d_To_note_43 rfl ?_
  have h40 : M37[x0]? = some (.inr (7, fs2)) := by rw [← h38]; exact (gs_ne (ne_ao h34 h26)).trans h26
  refine gf_To_22 ok d_To_note_44 h40 h6 ?_
  refine g_iconst (v := 1) ok d_To_note_47 (by decide) ?_
  refine g_iadd ok d_To_note_48 ?_
  have h41 : 3 < fs2.length := Nat.lt_of_lt_of_le (by decide) h42
  refine pf_To_22 ok d_To_note_49 h40 h41 (fun _ => ⟨rfl, rfl⟩) ?_
  rw [h44]
  rw [h46]
  have h47 : M45[x0]? = some (.inr (7, fs43)) := by rw [← h46]; exact gs_eq h40
  have h48 : fs43[0]? = some (.ref f3) := by rw [← h44]; exact (List.getElem?_set_ne (by decide : 3 ≠ 0)).trans h4
  have h49 : fs43[1]? = some (.ref f15) := by rw [← h44]; exact (List.getElem?_set_ne (by decide : 3 ≠ 1)).trans h16
  have h50 : fs43[2]? = some (.ref f27) := by rw [← h44]; exact (List.getElem?_set_ne (by decide : 3 ≠ 2)).trans h28
  have h51 : fs43[3]? = some (.int (f5 + 1)) := by rw [← h44]; exact List.getElem?_set_self h41
  have h52 : 5 ≤ fs43.length := by rw [← h44, List.length_set]; exact h42
  exact g_vret ok E d_To_note_52 hp hk hn
theorem k_To_readToken_0 {X : gC} {M : List mC} {k n : Nat} {x0 : Nat} {x1 : Nat} {x2 : Int32} {x3 : Int32} {g2 : Nat → Int32} {N3 : Nat} (ok : gO X c_To_readToken "TripleStore$Tokens" w_To_readToken) (hl : gL X = 5) (h1 : M[x1]? = some (.inl (2, N3, .inl g2))) (h4 : vp_in x3 N3) {rm : Room} {post : Option Value → List mC → Prop} (hm : mm_ (gLa X) y_Te_isLetter w_Te_isLetter rm [.int (g2 x3.toNatClampNeg)] M post) (hR : gF X rm 1 k n) (hlen : ∀ r M', post r M' → M'.length = M.length) (kk : ∀ r M', post r M' → gg X M' (k + rm.cells) (n + rm.slots) 10 [(0, .ref x0), (1, .ref x1), (2, .int x2), (3, .int x3), (4, .int (g2 x3.toNatClampNeg))] (r.toList ++ [])) : gg X M k n 0 [(0, .ref x0), (1, .ref x1), (2, .int x2), (3, .int x3)] [] := by
  refine g_aload_n ok d_To_readToken_0 rfl (j := 1) rfl ?_
  refine g_iload_n ok d_To_readToken_1 rfl (j := 3) rfl ?_
  refine g_cald (t := 2) ok rfl d_To_readToken_2 h1 h4 ?_
  refine g_istore (L' := [(0, .ref x0), (1, .ref x1), (2, .int x2), (3, .int x3), (4, .int (g2 x3.toNatClampNeg))]) ok d_To_readToken_3 (by rw [hl]; decide) rfl ?_
  refine g_iload ok d_To_readToken_5 (j := 4) rfl ?_
  exact gc_To_44 (As := [.int (g2 x3.toNatClampNeg)]) (rest := []) ok d_To_readToken_7 hm rfl rfl (Nat.le_of_ble_eq_true rfl) hR hlen kk
theorem k_To_readToken_10 {X : gC} {M : List mC} {k n : Nat} {x0 : Nat} {x1 : Nat} {x2 : Int32} {x3 : Int32} {x4 : Int32} {s0 : Int32} (ok : gO X c_To_readToken "TripleStore$Tokens" w_To_readToken)  (kt : s0 = 0 → gg X M k n 21 [(0, .ref x0), (1, .ref x1), (2, .int x2), (3, .int x3), (4, .int x4)] []) (kf : ¬ s0 = 0 → gg X M k n 13 [(0, .ref x0), (1, .ref x1), (2, .int x2), (3, .int x3)] []) : gg X M k n 10 [(0, .ref x0), (1, .ref x1), (2, .int x2), (3, .int x3), (4, .int x4)] [.int s0] := by
  exact g_if_eq (tgt := 21) ok d_To_readToken_10 (by decide) (fun z => (kt z)) (fun z => (gg_keep [0, 1, 2, 3] (kf z)))
theorem k_To_readToken_13 {X : gC} {M : List mC} {k n : Nat} {x0 : Nat} {x1 : Nat} {x2 : Int32} {x3 : Int32} {fs2 : List Value} (ok : gO X c_To_readToken "TripleStore$Tokens" w_To_readToken) (h1 : M[x0]? = some (.inr (7, fs2))) {rm : Room} {post : Option Value → List mC → Prop} (hm : mm_ (gLa X) y_To_readWord w_To_readWord rm [.ref x0, .ref x1, .int x2, .int x3] M post) (hR : gF X rm 7 k n) (hlen : ∀ r M', post r M' → M'.length = M.length) (kk : ∀ r M', post r M' → gg X M' (k + rm.cells) (n + rm.slots) 20 [] (r.toList ++ [])) : gg X M k n 13 [(0, .ref x0), (1, .ref x1), (2, .int x2), (3, .int x3)] [] := by
  refine g_aload_n ok d_To_readToken_13 rfl (j := 0) rfl ?_
  refine g_aload_n ok d_To_readToken_14 rfl (j := 1) rfl ?_
  refine g_iload_n ok d_To_readToken_15 rfl (j := 2) rfl ?_
  refine g_iload_n ok d_To_readToken_16 rfl (j := 3) rfl ?_
  exact gc_To_50 (As := [.ref x1, .int x2, .int x3]) (rest := []) ok d_To_readToken_17 hm rfl rfl (Nat.le_of_ble_eq_true rfl) hR h1 hlen (fun r M' q => (gg_keep [] (kk r M' q)))
theorem k_To_readToken_20 {X : gC} {M : List mC} {k n : Nat} {s0 : Int32} (ok : gO X c_To_readToken "TripleStore$Tokens" w_To_readToken)  {l9 : Launch} {rm : Room} {M0 : List mC} {post : Option Value → List mC → Prop} (E : gE X l9 y_To_readToken rm 5 (some .int) M0 post) (hp : post (some (.int s0)) M) (hk : k ≤ rm.cells) (hn : n ≤ rm.slots) : gg X M k n 20 [] [.int s0] := by
  exact g_iret ok E d_To_readToken_20 hp hk hn
theorem k_To_readToken_21 {X : gC} {M : List mC} {k n : Nat} {x0 : Nat} {x1 : Nat} {x2 : Int32} {x3 : Int32} {x4 : Int32} (ok : gO X c_To_readToken "TripleStore$Tokens" w_To_readToken)  {rm : Room} {post : Option Value → List mC → Prop} (hm : mm_ (gLa X) y_Te_isDigit w_Te_isDigit rm [.int x4] M post) (hR : gF X rm 1 k n) (hlen : ∀ r M', post r M' → M'.length = M.length) (kk : ∀ r M', post r M' → gg X M' (k + rm.cells) (n + rm.slots) 26 [(0, .ref x0), (1, .ref x1), (2, .int x2), (3, .int x3), (4, .int x4)] (r.toList ++ [])) : gg X M k n 21 [(0, .ref x0), (1, .ref x1), (2, .int x2), (3, .int x3), (4, .int x4)] [] := by
  refine g_iload ok d_To_readToken_21 (j := 4) rfl ?_
  exact gc_To_53 (As := [.int x4]) (rest := []) ok d_To_readToken_23 hm rfl rfl (Nat.le_of_ble_eq_true rfl) hR hlen kk
theorem k_To_readToken_26 {X : gC} {M : List mC} {k n : Nat} {x0 : Nat} {x1 : Nat} {x2 : Int32} {x3 : Int32} {x4 : Int32} {s0 : Int32} (ok : gO X c_To_readToken "TripleStore$Tokens" w_To_readToken)  (kt : s0 = 0 → gg X M k n 37 [(0, .ref x0), (1, .ref x1), (2, .int x2), (3, .int x3), (4, .int x4)] []) (kf : ¬ s0 = 0 → gg X M k n 29 [(0, .ref x0), (1, .ref x1), (2, .int x2), (3, .int x3)] []) : gg X M k n 26 [(0, .ref x0), (1, .ref x1), (2, .int x2), (3, .int x3), (4, .int x4)] [.int s0] := by
  exact g_if_eq (tgt := 37) ok d_To_readToken_26 (by decide) (fun z => (kt z)) (fun z => (gg_keep [0, 1, 2, 3] (kf z)))
theorem k_To_readToken_29 {X : gC} {M : List mC} {k n : Nat} {x0 : Nat} {x1 : Nat} {x2 : Int32} {x3 : Int32} {fs2 : List Value} (ok : gO X c_To_readToken "TripleStore$Tokens" w_To_readToken) (h1 : M[x0]? = some (.inr (7, fs2))) {rm : Room} {post : Option Value → List mC → Prop} (hm : mm_ (gLa X) y_To_readNumber w_To_readNumber rm [.ref x0, .ref x1, .int x2, .int x3] M post) (hR : gF X rm 6 k n) (hlen : ∀ r M', post r M' → M'.length = M.length) (kk : ∀ r M', post r M' → gg X M' (k + rm.cells) (n + rm.slots) 36 [] (r.toList ++ [])) : gg X M k n 29 [(0, .ref x0), (1, .ref x1), (2, .int x2), (3, .int x3)] [] := by
  refine g_aload_n ok d_To_readToken_29 rfl (j := 0) rfl ?_
  refine g_aload_n ok d_To_readToken_30 rfl (j := 1) rfl ?_
  refine g_iload_n ok d_To_readToken_31 rfl (j := 2) rfl ?_
  refine g_iload_n ok d_To_readToken_32 rfl (j := 3) rfl ?_
  exact gc_To_56 (As := [.ref x1, .int x2, .int x3]) (rest := []) ok d_To_readToken_33 hm rfl rfl (Nat.le_of_ble_eq_true rfl) hR h1 hlen (fun r M' q => (gg_keep [] (kk r M' q)))
theorem k_To_readToken_36 {X : gC} {M : List mC} {k n : Nat} {s0 : Int32} (ok : gO X c_To_readToken "TripleStore$Tokens" w_To_readToken)  {l9 : Launch} {rm : Room} {M0 : List mC} {post : Option Value → List mC → Prop} (E : gE X l9 y_To_readToken rm 5 (some .int) M0 post) (hp : post (some (.int s0)) M) (hk : k ≤ rm.cells) (hn : n ≤ rm.slots) : gg X M k n 36 [] [.int s0] := by
  exact g_iret ok E d_To_readToken_36 hp hk hn
theorem k_To_readToken_37 {X : gC} {M : List mC} {k n : Nat} {x0 : Nat} {x1 : Nat} {x2 : Int32} {x3 : Int32} {x4 : Int32} (ok : gO X c_To_readToken "TripleStore$Tokens" w_To_readToken)  (kt : ¬ x4 = 63 → gg X M k n 52 [(0, .ref x0), (3, .int x3), (4, .int x4)] []) (kf : x4 = 63 → gg X M k n 44 [(0, .ref x0), (1, .ref x1), (2, .int x2), (3, .int x3)] []) : gg X M k n 37 [(0, .ref x0), (1, .ref x1), (2, .int x2), (3, .int x3), (4, .int x4)] [] := by
  refine g_iload ok d_To_readToken_37 (j := 4) rfl ?_
  refine g_bipush (v := 63) ok d_To_readToken_39 (by decide) ?_
  exact g_icmp_ne (tgt := 52) ok d_To_readToken_41 (by decide) (fun z => (gg_keep [0, 3, 4] (kt z))) (fun z => (gg_keep [0, 1, 2, 3] (kf z)))
theorem k_To_readToken_44 {X : gC} {M : List mC} {k n : Nat} {x0 : Nat} {x1 : Nat} {x2 : Int32} {x3 : Int32} {fs2 : List Value} (ok : gO X c_To_readToken "TripleStore$Tokens" w_To_readToken) (h1 : M[x0]? = some (.inr (7, fs2))) {rm : Room} {post : Option Value → List mC → Prop} (hm : mm_ (gLa X) y_To_readVariable w_To_readVariable rm [.ref x0, .ref x1, .int x2, .int x3] M post) (hR : gF X rm 7 k n) (hlen : ∀ r M', post r M' → M'.length = M.length) (kk : ∀ r M', post r M' → gg X M' (k + rm.cells) (n + rm.slots) 51 [] (r.toList ++ [])) : gg X M k n 44 [(0, .ref x0), (1, .ref x1), (2, .int x2), (3, .int x3)] [] := by
  refine g_aload_n ok d_To_readToken_44 rfl (j := 0) rfl ?_
  refine g_aload_n ok d_To_readToken_45 rfl (j := 1) rfl ?_
  refine g_iload_n ok d_To_readToken_46 rfl (j := 2) rfl ?_
  refine g_iload_n ok d_To_readToken_47 rfl (j := 3) rfl ?_
  exact gc_To_59 (As := [.ref x1, .int x2, .int x3]) (rest := []) ok d_To_readToken_48 hm rfl rfl (Nat.le_of_ble_eq_true rfl) hR h1 hlen (fun r M' q => (gg_keep [] (kk r M' q)))
theorem k_To_readToken_51 {X : gC} {M : List mC} {k n : Nat} {s0 : Int32} (ok : gO X c_To_readToken "TripleStore$Tokens" w_To_readToken)  {l9 : Launch} {rm : Room} {M0 : List mC} {post : Option Value → List mC → Prop} (E : gE X l9 y_To_readToken rm 5 (some .int) M0 post) (hp : post (some (.int s0)) M) (hk : k ≤ rm.cells) (hn : n ≤ rm.slots) : gg X M k n 51 [] [.int s0] := by
  exact g_iret ok E d_To_readToken_51 hp hk hn
theorem k_To_readToken_52 {X : gC} {M : List mC} {k n : Nat} {x0 : Nat} {x3 : Int32} {x4 : Int32} (ok : gO X c_To_readToken "TripleStore$Tokens" w_To_readToken)  {rm : Room} {post : Option Value → List mC → Prop} (hm : mm_ (gLa X) y_To_isSign w_To_isSign rm [.int x4] M post) (hR : gF X rm 1 k n) (hlen : ∀ r M', post r M' → M'.length = M.length) (kk : ∀ r M', post r M' → gg X M' (k + rm.cells) (n + rm.slots) 58 [(0, .ref x0), (3, .int x3), (4, .int x4)] (r.toList ++ [.ref x0])) : gg X M k n 52 [(0, .ref x0), (3, .int x3), (4, .int x4)] [] := by
  refine g_aload_n ok d_To_readToken_52 rfl (j := 0) rfl ?_
  refine g_iload ok d_To_readToken_53 (j := 2) rfl ?_
  exact gc_To_62 (As := [.int x4]) (rest := [.ref x0]) ok d_To_readToken_55 hm rfl rfl (Nat.le_of_ble_eq_true rfl) hR hlen kk
theorem k_To_readToken_58 {X : gC} {M : List mC} {k n : Nat} {x0 : Nat} {x3 : Int32} {x4 : Int32} {s1 : Int32} (ok : gO X c_To_readToken "TripleStore$Tokens" w_To_readToken)  (kt : s1 = 0 → gg X M k n 65 [(0, .ref x0), (3, .int x3), (4, .int x4)] [.ref x0]) (kf : ¬ s1 = 0 → gg X M k n 61 [(0, .ref x0), (3, .int x3), (4, .int x4)] [.ref x0]) : gg X M k n 58 [(0, .ref x0), (3, .int x3), (4, .int x4)] [.int s1, .ref x0] := by
  exact g_if_eq (tgt := 65) ok d_To_readToken_58 (by decide) (fun z => (kt z)) (fun z => (kf z))
theorem k_To_readToken_61 {X : gC} {M : List mC} {k n : Nat} {x0 : Nat} {x3 : Int32} {x4 : Int32} (ok : gO X c_To_readToken "TripleStore$Tokens" w_To_readToken)  (kk : gg X M k n 66 [(0, .ref x0), (3, .int x3), (4, .int x4)] [.int 3, .ref x0]) : gg X M k n 61 [(0, .ref x0), (3, .int x3), (4, .int x4)] [.ref x0] := by
  refine g_iconst (v := 3) ok d_To_readToken_61 (by decide) ?_
  exact g_goto (tgt := 66) ok d_To_readToken_62 (by decide) kk
theorem k_To_readToken_65 {X : gC} {M : List mC} {k n : Nat} {x0 : Nat} {x3 : Int32} {x4 : Int32} (ok : gO X c_To_readToken "TripleStore$Tokens" w_To_readToken)  (kk : gg X M k n 66 [(0, .ref x0), (3, .int x3), (4, .int x4)] [.int 1, .ref x0]) : gg X M k n 65 [(0, .ref x0), (3, .int x3), (4, .int x4)] [.ref x0] := by
  refine g_iconst (v := 1) ok d_To_readToken_65 (by decide) ?_
  exact kk
theorem k_To_readToken_66 {X : gC} {M : List mC} {k n : Nat} {x0 : Nat} {x3 : Int32} {x4 : Int32} {s1 : Int32} {fs2 : List Value} (ok : gO X c_To_readToken "TripleStore$Tokens" w_To_readToken) (h1 : M[x0]? = some (.inr (7, fs2))) {rm : Room} {post : Option Value → List mC → Prop} (hm : mm_ (gLa X) y_To_note w_To_note rm [.ref x0, .int s1, .long (x4.toInt64), .int x3] M post) (hR : gF X rm 5 k n) (hlen : ∀ r M', post r M' → M'.length = M.length) (kk : ∀ r M', post r M' → gg X M' (k + rm.cells) (n + rm.slots) 73 [(3, .int x3)] (r.toList ++ [])) : gg X M k n 66 [(0, .ref x0), (3, .int x3), (4, .int x4)] [.int s1, .ref x0] := by
  refine g_iload ok d_To_readToken_66 (j := 2) rfl ?_
  refine g_i2l ok d_To_readToken_68 ?_
  refine g_iload_n ok d_To_readToken_69 rfl (j := 1) rfl ?_
  exact gc_To_40 (As := [.int s1, .long (x4.toInt64), .int x3]) (rest := []) ok d_To_readToken_70 hm rfl rfl (Nat.le_of_ble_eq_true rfl) hR h1 hlen (fun r M' q => (gg_keep [3] (kk r M' q)))
theorem k_To_readToken_73 {X : gC} {M : List mC} {k n : Nat} {x3 : Int32} (ok : gO X c_To_readToken "TripleStore$Tokens" w_To_readToken)  {l9 : Launch} {rm : Room} {M0 : List mC} {post : Option Value → List mC → Prop} (E : gE X l9 y_To_readToken rm 5 (some .int) M0 post) (hp : post (some (.int (x3 + 1))) M) (hk : k ≤ rm.cells) (hn : n ≤ rm.slots) : gg X M k n 73 [(3, .int x3)] [] := by
  refine g_iload_n ok d_To_readToken_73 rfl (j := 0) rfl ?_
  refine g_iconst (v := 1) ok d_To_readToken_74 (by decide) ?_
  refine g_iadd ok d_To_readToken_75 ?_
  exact g_iret ok E d_To_readToken_76 hp hk hn
theorem k_To_readWord_0 {X : gC} {M : List mC} {k n : Nat} {x0 : Nat} {x1 : Nat} {x2 : Int32} {x3 : Int32} (ok : gO X c_To_readWord "TripleStore$Tokens" w_To_readWord)  {rm : Room} {post : Option Value → List mC → Prop} (hm : mm_ (gLa X) y_To_endOfLetters w_To_endOfLetters rm [.ref x1, .int x2, .int x3] M post) (hR : gF X rm 4 k n) (hlen : ∀ r M', post r M' → M'.length = M.length) (kk : ∀ r M', post r M' → gg X M' (k + rm.cells) (n + rm.slots) 6 [(0, .ref x0), (1, .ref x1), (3, .int x3)] (r.toList ++ [])) : gg X M k n 0 [(0, .ref x0), (1, .ref x1), (2, .int x2), (3, .int x3)] [] := by
  refine g_aload_n ok d_To_readWord_0 rfl (j := 1) rfl ?_
  refine g_iload_n ok d_To_readWord_1 rfl (j := 2) rfl ?_
  refine g_iload_n ok d_To_readWord_2 rfl (j := 3) rfl ?_
  exact gc_To_65 (As := [.ref x1, .int x2, .int x3]) (rest := []) ok d_To_readWord_3 hm rfl rfl (Nat.le_of_ble_eq_true rfl) hR hlen (fun r M' q => (gg_keep [0, 1, 3] (kk r M' q)))
theorem k_To_readWord_6 {X : gC} {M : List mC} {k n : Nat} {x0 : Nat} {x1 : Nat} {x3 : Int32} {s0 : Int32} (ok : gO X c_To_readWord "TripleStore$Tokens" w_To_readWord) (hl : gL X = 7)  {rm : Room} {post : Option Value → List mC → Prop} (hm : mm_ (gLa X) y_To_packed w_To_packed rm [.ref x1, .int x3, .int s0] M post) (hR : gF X rm 6 k n) (hlen : ∀ r M', post r M' → M'.length = M.length) (kk : ∀ r M', post r M' → gg X M' (k + rm.cells) (n + rm.slots) 15 [(0, .ref x0), (3, .int x3), (4, .int s0)] (r.toList ++ [])) : gg X M k n 6 [(0, .ref x0), (1, .ref x1), (3, .int x3)] [.int s0] := by
  refine g_istore (L' := [(0, .ref x0), (1, .ref x1), (3, .int x3), (4, .int s0)]) ok d_To_readWord_6 (by rw [hl]; decide) rfl ?_
  refine g_aload_n ok d_To_readWord_8 rfl (j := 1) rfl ?_
  refine g_iload_n ok d_To_readWord_9 rfl (j := 2) rfl ?_
  refine g_iload ok d_To_readWord_10 (j := 3) rfl ?_
  exact gc_To_68 (As := [.ref x1, .int x3, .int s0]) (rest := []) ok d_To_readWord_12 hm rfl rfl (Nat.le_of_ble_eq_true rfl) hR hlen (fun r M' q => (gg_keep [0, 3, 4] (kk r M' q)))
theorem k_To_readWord_15 {X : gC} {M : List mC} {k n : Nat} {x0 : Nat} {x3 : Int32} {x4 : Int32} {s0 : Int64} (ok : gO X c_To_readWord "TripleStore$Tokens" w_To_readWord) (hl : gL X = 7)  (kt : (x4 - x3) ≤ 8 → gg X M k n 36 [(0, .ref x0), (3, .int x3), (4, .int x4), (5, .long s0)] []) (kf : ¬ (x4 - x3) ≤ 8 → gg X M k n 26 [(0, .ref x0), (3, .int x3), (4, .int x4)] []) : gg X M k n 15 [(0, .ref x0), (3, .int x3), (4, .int x4)] [.long s0] := by
  refine g_lstore (L' := [(0, .ref x0), (3, .int x3), (4, .int x4), (5, .long s0)]) ok d_To_readWord_15 (by rw [hl]; decide) rfl ?_
  refine g_iload ok d_To_readWord_17 (j := 2) rfl ?_
  refine g_iload_n ok d_To_readWord_19 rfl (j := 1) rfl ?_
  refine g_isub ok d_To_readWord_20 ?_
  refine g_bipush (v := 8) ok d_To_readWord_21 (by decide) ?_
  exact g_icmp_le (tgt := 36) ok d_To_readWord_23 (by decide) (fun z => (kt z)) (fun z => (gg_keep [0, 3, 4] (kf z)))
theorem k_To_readWord_26 {X : gC} {M : List mC} {k n : Nat} {x0 : Nat} {x3 : Int32} {x4 : Int32} {fs2 : List Value} (ok : gO X c_To_readWord "TripleStore$Tokens" w_To_readWord) (h1 : M[x0]? = some (.inr (7, fs2))) {rm : Room} {post : Option Value → List mC → Prop} (hm : mm_ (gLa X) y_To_note w_To_note rm [.ref x0, .int 1, .long 0, .int x3] M post) (hR : gF X rm 5 k n) (hlen : ∀ r M', post r M' → M'.length = M.length) (kk : ∀ r M', post r M' → gg X M' (k + rm.cells) (n + rm.slots) 33 [(4, .int x4)] (r.toList ++ [])) : gg X M k n 26 [(0, .ref x0), (3, .int x3), (4, .int x4)] [] := by
  refine g_aload_n ok d_To_readWord_26 rfl (j := 0) rfl ?_
  refine g_iconst (v := 1) ok d_To_readWord_27 (by decide) ?_
  refine g_lconst (v := 0) ok d_To_readWord_28 (by decide) ?_
  refine g_iload_n ok d_To_readWord_29 rfl (j := 1) rfl ?_
  exact gc_To_40 (As := [.int 1, .long 0, .int x3]) (rest := []) ok d_To_readWord_30 hm rfl rfl (Nat.le_of_ble_eq_true rfl) hR h1 hlen (fun r M' q => (gg_keep [4] (kk r M' q)))
theorem k_To_readWord_33 {X : gC} {M : List mC} {k n : Nat} {x4 : Int32} (ok : gO X c_To_readWord "TripleStore$Tokens" w_To_readWord)  (kk : gg X M k n 56 [(4, .int x4)] []) : gg X M k n 33 [(4, .int x4)] [] := by
  exact g_goto (tgt := 56) ok d_To_readWord_33 (by decide) kk
theorem k_To_readWord_36 {X : gC} {M : List mC} {k n : Nat} {x0 : Nat} {x3 : Int32} {x4 : Int32} {x5 : Int64} (ok : gO X c_To_readWord "TripleStore$Tokens" w_To_readWord)  {rm : Room} {post : Option Value → List mC → Prop} (hm : mm_ (gLa X) y_To_isKey w_To_isKey rm [.long x5] M post) (hR : gF X rm 2 k n) (hlen : ∀ r M', post r M' → M'.length = M.length) (kk : ∀ r M', post r M' → gg X M' (k + rm.cells) (n + rm.slots) 42 [(0, .ref x0), (3, .int x3), (4, .int x4), (5, .long x5)] (r.toList ++ [.ref x0])) : gg X M k n 36 [(0, .ref x0), (3, .int x3), (4, .int x4), (5, .long x5)] [] := by
  refine g_aload_n ok d_To_readWord_36 rfl (j := 0) rfl ?_
  refine g_lload ok d_To_readWord_37 (j := 3) rfl ?_
  exact gc_To_72 (As := [.long x5]) (rest := [.ref x0]) ok d_To_readWord_39 hm rfl rfl (Nat.le_of_ble_eq_true rfl) hR hlen kk
theorem k_To_readWord_42 {X : gC} {M : List mC} {k n : Nat} {x0 : Nat} {x3 : Int32} {x4 : Int32} {x5 : Int64} {s1 : Int32} (ok : gO X c_To_readWord "TripleStore$Tokens" w_To_readWord)  (kt : s1 = 0 → gg X M k n 49 [(0, .ref x0), (3, .int x3), (4, .int x4), (5, .long x5)] [.ref x0]) (kf : ¬ s1 = 0 → gg X M k n 45 [(0, .ref x0), (3, .int x3), (4, .int x4), (5, .long x5)] [.ref x0]) : gg X M k n 42 [(0, .ref x0), (3, .int x3), (4, .int x4), (5, .long x5)] [.int s1, .ref x0] := by
  exact g_if_eq (tgt := 49) ok d_To_readWord_42 (by decide) (fun z => (kt z)) (fun z => (kf z))
theorem k_To_readWord_45 {X : gC} {M : List mC} {k n : Nat} {x0 : Nat} {x3 : Int32} {x4 : Int32} {x5 : Int64} (ok : gO X c_To_readWord "TripleStore$Tokens" w_To_readWord)  (kk : gg X M k n 50 [(0, .ref x0), (3, .int x3), (4, .int x4), (5, .long x5)] [.int 2, .ref x0]) : gg X M k n 45 [(0, .ref x0), (3, .int x3), (4, .int x4), (5, .long x5)] [.ref x0] := by
  refine g_iconst (v := 2) ok d_To_readWord_45 (by decide) ?_
  exact g_goto (tgt := 50) ok d_To_readWord_46 (by decide) kk
theorem k_To_readWord_49 {X : gC} {M : List mC} {k n : Nat} {x0 : Nat} {x3 : Int32} {x4 : Int32} {x5 : Int64} (ok : gO X c_To_readWord "TripleStore$Tokens" w_To_readWord)  (kk : gg X M k n 50 [(0, .ref x0), (3, .int x3), (4, .int x4), (5, .long x5)] [.int 4, .ref x0]) : gg X M k n 49 [(0, .ref x0), (3, .int x3), (4, .int x4), (5, .long x5)] [.ref x0] := by
  refine g_iconst (v := 4) ok d_To_readWord_49 (by decide) ?_
  exact kk
theorem k_To_readWord_50 {X : gC} {M : List mC} {k n : Nat} {x0 : Nat} {x3 : Int32} {x4 : Int32} {x5 : Int64} {s1 : Int32} {fs2 : List Value} (ok : gO X c_To_readWord "TripleStore$Tokens" w_To_readWord) (h1 : M[x0]? = some (.inr (7, fs2))) {rm : Room} {post : Option Value → List mC → Prop} (hm : mm_ (gLa X) y_To_note w_To_note rm [.ref x0, .int s1, .long x5, .int x3] M post) (hR : gF X rm 5 k n) (hlen : ∀ r M', post r M' → M'.length = M.length) (kk : ∀ r M', post r M' → gg X M' (k + rm.cells) (n + rm.slots) 56 [(4, .int x4)] (r.toList ++ [])) : gg X M k n 50 [(0, .ref x0), (3, .int x3), (4, .int x4), (5, .long x5)] [.int s1, .ref x0] := by
  refine g_lload ok d_To_readWord_50 (j := 3) rfl ?_
  refine g_iload_n ok d_To_readWord_52 rfl (j := 1) rfl ?_
  exact gc_To_40 (As := [.int s1, .long x5, .int x3]) (rest := []) ok d_To_readWord_53 hm rfl rfl (Nat.le_of_ble_eq_true rfl) hR h1 hlen (fun r M' q => (gg_keep [4] (kk r M' q)))
theorem k_To_readWord_56 {X : gC} {M : List mC} {k n : Nat} {x4 : Int32} (ok : gO X c_To_readWord "TripleStore$Tokens" w_To_readWord)  {l9 : Launch} {rm : Room} {M0 : List mC} {post : Option Value → List mC → Prop} (E : gE X l9 y_To_readWord rm 7 (some .int) M0 post) (hp : post (some (.int x4)) M) (hk : k ≤ rm.cells) (hn : n ≤ rm.slots) : gg X M k n 56 [(4, .int x4)] [] := by
  refine g_iload ok d_To_readWord_56 (j := 0) rfl ?_
  exact g_iret ok E d_To_readWord_58 hp hk hn
theorem k_To_readVariable_0 {X : gC} {M : List mC} {k n : Nat} {x0 : Nat} {x1 : Nat} {x2 : Int32} {x3 : Int32} (ok : gO X c_To_readVariable "TripleStore$Tokens" w_To_readVariable)  {rm : Room} {post : Option Value → List mC → Prop} (hm : mm_ (gLa X) y_To_endOfLetters w_To_endOfLetters rm [.ref x1, .int x2, .int (x3 + 1)] M post) (hR : gF X rm 4 k n) (hlen : ∀ r M', post r M' → M'.length = M.length) (kk : ∀ r M', post r M' → gg X M' (k + rm.cells) (n + rm.slots) 8 [(0, .ref x0), (1, .ref x1), (3, .int x3)] (r.toList ++ [])) : gg X M k n 0 [(0, .ref x0), (1, .ref x1), (2, .int x2), (3, .int x3)] [] := by
  refine g_aload_n ok d_To_readVariable_0 rfl (j := 1) rfl ?_
  refine g_iload_n ok d_To_readVariable_1 rfl (j := 2) rfl ?_
  refine g_iload_n ok d_To_readVariable_2 rfl (j := 3) rfl ?_
  refine g_iconst (v := 1) ok d_To_readVariable_3 (by decide) ?_
  refine g_iadd ok d_To_readVariable_4 ?_
  exact gc_To_65 (As := [.ref x1, .int x2, .int (x3 + 1)]) (rest := []) ok d_To_readVariable_5 hm rfl rfl (Nat.le_of_ble_eq_true rfl) hR hlen (fun r M' q => (gg_keep [0, 1, 3] (kk r M' q)))
theorem k_To_readVariable_8 {X : gC} {M : List mC} {k n : Nat} {x0 : Nat} {x1 : Nat} {x3 : Int32} {s0 : Int32} (ok : gO X c_To_readVariable "TripleStore$Tokens" w_To_readVariable) (hl : gL X = 7)  (kt : ((s0 - x3) - 1) < 1 → gg X M k n 35 [(0, .ref x0), (1, .ref x1), (3, .int x3), (4, .int s0)] []) (kf : ¬ ((s0 - x3) - 1) < 1 → gg X M k n 24 [(0, .ref x0), (1, .ref x1), (3, .int x3), (4, .int s0), (5, .int ((s0 - x3) - 1))] []) : gg X M k n 8 [(0, .ref x0), (1, .ref x1), (3, .int x3)] [.int s0] := by
  refine g_istore (L' := [(0, .ref x0), (1, .ref x1), (3, .int x3), (4, .int s0)]) ok d_To_readVariable_8 (by rw [hl]; decide) rfl ?_
  refine g_iload ok d_To_readVariable_10 (j := 3) rfl ?_
  refine g_iload_n ok d_To_readVariable_12 rfl (j := 2) rfl ?_
  refine g_isub ok d_To_readVariable_13 ?_
  refine g_iconst (v := 1) ok d_To_readVariable_14 (by decide) ?_
  refine g_isub ok d_To_readVariable_15 ?_
  refine g_istore (L' := [(0, .ref x0), (1, .ref x1), (3, .int x3), (4, .int s0), (5, .int ((s0 - x3) - 1))]) ok d_To_readVariable_16 (by rw [hl]; decide) rfl ?_
  refine g_iload ok d_To_readVariable_18 (j := 4) rfl ?_
  refine g_iconst (v := 1) ok d_To_readVariable_20 (by decide) ?_
  exact g_icmp_lt (tgt := 35) ok d_To_readVariable_21 (by decide) (fun z => (gg_keep [0, 1, 3, 4] (kt z))) (fun z => (kf z))
theorem k_To_readVariable_24 {X : gC} {M : List mC} {k n : Nat} {x0 : Nat} {x1 : Nat} {x3 : Int32} {x4 : Int32} {x5 : Int32} (ok : gO X c_To_readVariable "TripleStore$Tokens" w_To_readVariable)  (kt : 8 < x5 → gg X M k n 35 [(0, .ref x0), (1, .ref x1), (3, .int x3), (4, .int x4)] []) (kf : ¬ 8 < x5 → gg X M k n 31 [(0, .ref x0), (1, .ref x1), (3, .int x3), (4, .int x4)] []) : gg X M k n 24 [(0, .ref x0), (1, .ref x1), (3, .int x3), (4, .int x4), (5, .int x5)] [] := by
  refine g_iload ok d_To_readVariable_24 (j := 4) rfl ?_
  refine g_bipush (v := 8) ok d_To_readVariable_26 (by decide) ?_
  exact g_icmp_gt (tgt := 35) ok d_To_readVariable_28 (by decide) (fun z => (gg_keep [0, 1, 3, 4] (kt z))) (fun z => (gg_keep [0, 1, 3, 4] (kf z)))
theorem k_To_readVariable_31 {X : gC} {M : List mC} {k n : Nat} {x0 : Nat} {x1 : Nat} {x3 : Int32} {x4 : Int32} (ok : gO X c_To_readVariable "TripleStore$Tokens" w_To_readVariable)  (kk : gg X M k n 36 [(0, .ref x0), (1, .ref x1), (3, .int x3), (4, .int x4)] [.int 1]) : gg X M k n 31 [(0, .ref x0), (1, .ref x1), (3, .int x3), (4, .int x4)] [] := by
  refine g_iconst (v := 1) ok d_To_readVariable_31 (by decide) ?_
  exact g_goto (tgt := 36) ok d_To_readVariable_32 (by decide) kk
theorem k_To_readVariable_35 {X : gC} {M : List mC} {k n : Nat} {x0 : Nat} {x1 : Nat} {x3 : Int32} {x4 : Int32} (ok : gO X c_To_readVariable "TripleStore$Tokens" w_To_readVariable)  (kk : gg X M k n 36 [(0, .ref x0), (1, .ref x1), (3, .int x3), (4, .int x4)] [.int 0]) : gg X M k n 35 [(0, .ref x0), (1, .ref x1), (3, .int x3), (4, .int x4)] [] := by
  refine g_iconst (v := 0) ok d_To_readVariable_35 (by decide) ?_
  exact kk
theorem k_To_readVariable_36 {X : gC} {M : List mC} {k n : Nat} {x0 : Nat} {x1 : Nat} {x3 : Int32} {x4 : Int32} {s0 : Int32} (ok : gO X c_To_readVariable "TripleStore$Tokens" w_To_readVariable) (hl : gL X = 7)  (kt : s0 = 0 → gg X M k n 48 [(0, .ref x0), (1, .ref x1), (3, .int x3), (4, .int x4)] [.ref x0]) (kf : ¬ s0 = 0 → gg X M k n 44 [(0, .ref x0), (1, .ref x1), (3, .int x3), (4, .int x4)] [.ref x0]) : gg X M k n 36 [(0, .ref x0), (1, .ref x1), (3, .int x3), (4, .int x4)] [.int s0] := by
  refine g_istore (L' := [(0, .ref x0), (1, .ref x1), (3, .int x3), (4, .int x4), (6, .int s0)]) ok d_To_readVariable_36 (by rw [hl]; decide) rfl ?_
  refine g_aload_n ok d_To_readVariable_38 rfl (j := 0) rfl ?_
  refine g_iload ok d_To_readVariable_39 (j := 4) rfl ?_
  exact g_if_eq (tgt := 48) ok d_To_readVariable_41 (by decide) (fun z => (gg_keep [0, 1, 3, 4] (kt z))) (fun z => (gg_keep [0, 1, 3, 4] (kf z)))
theorem k_To_readVariable_44 {X : gC} {M : List mC} {k n : Nat} {x0 : Nat} {x1 : Nat} {x3 : Int32} {x4 : Int32} (ok : gO X c_To_readVariable "TripleStore$Tokens" w_To_readVariable)  (kk : gg X M k n 49 [(0, .ref x0), (1, .ref x1), (3, .int x3), (4, .int x4)] [.int 5, .ref x0]) : gg X M k n 44 [(0, .ref x0), (1, .ref x1), (3, .int x3), (4, .int x4)] [.ref x0] := by
  refine g_iconst (v := 5) ok d_To_readVariable_44 (by decide) ?_
  exact g_goto (tgt := 49) ok d_To_readVariable_45 (by decide) kk
theorem k_To_readVariable_48 {X : gC} {M : List mC} {k n : Nat} {x0 : Nat} {x1 : Nat} {x3 : Int32} {x4 : Int32} (ok : gO X c_To_readVariable "TripleStore$Tokens" w_To_readVariable)  (kk : gg X M k n 49 [(0, .ref x0), (1, .ref x1), (3, .int x3), (4, .int x4)] [.int 1, .ref x0]) : gg X M k n 48 [(0, .ref x0), (1, .ref x1), (3, .int x3), (4, .int x4)] [.ref x0] := by
  refine g_iconst (v := 1) ok d_To_readVariable_48 (by decide) ?_
  exact kk
theorem k_To_readVariable_49 {X : gC} {M : List mC} {k n : Nat} {x0 : Nat} {x1 : Nat} {x3 : Int32} {x4 : Int32} {s1 : Int32} (ok : gO X c_To_readVariable "TripleStore$Tokens" w_To_readVariable)  {rm : Room} {post : Option Value → List mC → Prop} (hm : mm_ (gLa X) y_To_packed w_To_packed rm [.ref x1, .int (x3 + 1), .int x4] M post) (hR : gF X rm 6 k n) (hlen : ∀ r M', post r M' → M'.length = M.length) (kk : ∀ r M', post r M' → gg X M' (k + rm.cells) (n + rm.slots) 58 [(0, .ref x0), (3, .int x3), (4, .int x4)] (r.toList ++ [.int s1, .ref x0])) : gg X M k n 49 [(0, .ref x0), (1, .ref x1), (3, .int x3), (4, .int x4)] [.int s1, .ref x0] := by
  refine g_aload_n ok d_To_readVariable_49 rfl (j := 1) rfl ?_
  refine g_iload_n ok d_To_readVariable_50 rfl (j := 2) rfl ?_
  refine g_iconst (v := 1) ok d_To_readVariable_51 (by decide) ?_
  refine g_iadd ok d_To_readVariable_52 ?_
  refine g_iload ok d_To_readVariable_53 (j := 3) rfl ?_
  exact gc_To_68 (As := [.ref x1, .int (x3 + 1), .int x4]) (rest := [.int s1, .ref x0]) ok d_To_readVariable_55 hm rfl rfl (Nat.le_of_ble_eq_true rfl) hR hlen (fun r M' q => (gg_keep [0, 3, 4] (kk r M' q)))
theorem k_To_readVariable_58 {X : gC} {M : List mC} {k n : Nat} {x0 : Nat} {x3 : Int32} {x4 : Int32} {s1 : Int32} {s2 : Int64} {fs2 : List Value} (ok : gO X c_To_readVariable "TripleStore$Tokens" w_To_readVariable) (h1 : M[x0]? = some (.inr (7, fs2))) {rm : Room} {post : Option Value → List mC → Prop} (hm : mm_ (gLa X) y_To_note w_To_note rm [.ref x0, .int s1, .long s2, .int x3] M post) (hR : gF X rm 5 k n) (hlen : ∀ r M', post r M' → M'.length = M.length) (kk : ∀ r M', post r M' → gg X M' (k + rm.cells) (n + rm.slots) 62 [(4, .int x4)] (r.toList ++ [])) : gg X M k n 58 [(0, .ref x0), (3, .int x3), (4, .int x4)] [.long s2, .int s1, .ref x0] := by
  refine g_iload_n ok d_To_readVariable_58 rfl (j := 1) rfl ?_
  exact gc_To_40 (As := [.int s1, .long s2, .int x3]) (rest := []) ok d_To_readVariable_59 hm rfl rfl (Nat.le_of_ble_eq_true rfl) hR h1 hlen (fun r M' q => (gg_keep [4] (kk r M' q)))
theorem k_To_readVariable_62 {X : gC} {M : List mC} {k n : Nat} {x4 : Int32} (ok : gO X c_To_readVariable "TripleStore$Tokens" w_To_readVariable)  {l9 : Launch} {rm : Room} {M0 : List mC} {post : Option Value → List mC → Prop} (E : gE X l9 y_To_readVariable rm 7 (some .int) M0 post) (hp : post (some (.int x4)) M) (hk : k ≤ rm.cells) (hn : n ≤ rm.slots) : gg X M k n 62 [(4, .int x4)] [] := by
  refine g_iload ok d_To_readVariable_62 (j := 0) rfl ?_
  exact g_iret ok E d_To_readVariable_64 hp hk hn
theorem k_To_readNumber_0 {X : gC} {M : List mC} {k n : Nat} {x0 : Nat} {x1 : Nat} {x2 : Int32} {x3 : Int32} (ok : gO X c_To_readNumber "TripleStore$Tokens" w_To_readNumber) (hl : gL X = 6)  (kk : gg X M k n 6 [(0, .ref x0), (1, .ref x1), (2, .int x2), (3, .int x3), (4, .int x3), (5, .int 0)] []) : gg X M k n 0 [(0, .ref x0), (1, .ref x1), (2, .int x2), (3, .int x3)] [] := by
  refine g_iload_n ok d_To_readNumber_0 rfl (j := 3) rfl ?_
  refine g_istore (L' := [(0, .ref x0), (1, .ref x1), (2, .int x2), (3, .int x3), (4, .int x3)]) ok d_To_readNumber_1 (by rw [hl]; decide) rfl ?_
  refine g_iconst (v := 0) ok d_To_readNumber_3 (by decide) ?_
  refine g_istore (L' := [(0, .ref x0), (1, .ref x1), (2, .int x2), (3, .int x3), (4, .int x3), (5, .int 0)]) ok d_To_readNumber_4 (by rw [hl]; decide) rfl ?_
  exact kk
theorem k_To_readNumber_6 {X : gC} {M : List mC} {k n : Nat} {x0 : Nat} {x1 : Nat} {x2 : Int32} {x3 : Int32} {x4 : Int32} {x5 : Int32} (ok : gO X c_To_readNumber "TripleStore$Tokens" w_To_readNumber)  (kt : x2 ≤ x4 → gg X M k n 43 [(0, .ref x0), (3, .int x3), (4, .int x4), (5, .int x5)] []) (kf : ¬ x2 ≤ x4 → gg X M k n 12 [(0, .ref x0), (1, .ref x1), (2, .int x2), (3, .int x3), (4, .int x4), (5, .int x5)] []) : gg X M k n 6 [(0, .ref x0), (1, .ref x1), (2, .int x2), (3, .int x3), (4, .int x4), (5, .int x5)] [] := by
  refine g_iload ok d_To_readNumber_6 (j := 4) rfl ?_
  refine g_iload_n ok d_To_readNumber_8 rfl (j := 2) rfl ?_
  exact g_icmp_ge (tgt := 43) ok d_To_readNumber_9 (by decide) (fun z => (gg_keep [0, 3, 4, 5] (kt z))) (fun z => (kf z))
theorem k_To_readNumber_12 {X : gC} {M : List mC} {k n : Nat} {x0 : Nat} {x1 : Nat} {x2 : Int32} {x3 : Int32} {x4 : Int32} {x5 : Int32} {g2 : Nat → Int32} {N3 : Nat} (ok : gO X c_To_readNumber "TripleStore$Tokens" w_To_readNumber) (h1 : M[x1]? = some (.inl (2, N3, .inl g2))) (h4 : vp_in x4 N3) {rm : Room} {post : Option Value → List mC → Prop} (hm : mm_ (gLa X) y_Te_isDigit w_Te_isDigit rm [.int (g2 x4.toNatClampNeg)] M post) (hR : gF X rm 1 k n) (hlen : ∀ r M', post r M' → M'.length = M.length) (kk : ∀ r M', post r M' → gg X M' (k + rm.cells) (n + rm.slots) 19 [(0, .ref x0), (1, .ref x1), (2, .int x2), (3, .int x3), (4, .int x4), (5, .int x5)] (r.toList ++ [])) : gg X M k n 12 [(0, .ref x0), (1, .ref x1), (2, .int x2), (3, .int x3), (4, .int x4), (5, .int x5)] [] := by
  refine g_aload_n ok d_To_readNumber_12 rfl (j := 1) rfl ?_
  refine g_iload ok d_To_readNumber_13 (j := 4) rfl ?_
  refine g_cald (t := 2) ok rfl d_To_readNumber_15 h1 h4 ?_
  exact gc_To_53 (As := [.int (g2 x4.toNatClampNeg)]) (rest := []) ok d_To_readNumber_16 hm rfl rfl (Nat.le_of_ble_eq_true rfl) hR hlen kk
theorem k_To_readNumber_19 {X : gC} {M : List mC} {k n : Nat} {x0 : Nat} {x1 : Nat} {x2 : Int32} {x3 : Int32} {x4 : Int32} {x5 : Int32} {s0 : Int32} (ok : gO X c_To_readNumber "TripleStore$Tokens" w_To_readNumber)  (kt : s0 = 0 → gg X M k n 43 [(0, .ref x0), (3, .int x3), (4, .int x4), (5, .int x5)] []) (kf : ¬ s0 = 0 → gg X M k n 22 [(0, .ref x0), (1, .ref x1), (2, .int x2), (3, .int x3), (4, .int x4), (5, .int x5)] []) : gg X M k n 19 [(0, .ref x0), (1, .ref x1), (2, .int x2), (3, .int x3), (4, .int x4), (5, .int x5)] [.int s0] := by
  exact g_if_eq (tgt := 43) ok d_To_readNumber_19 (by decide) (fun z => (gg_keep [0, 3, 4, 5] (kt z))) (fun z => (kf z))
theorem k_To_readNumber_22 {X : gC} {M : List mC} {k n : Nat} {x0 : Nat} {x1 : Nat} {x2 : Int32} {x3 : Int32} {x4 : Int32} {x5 : Int32} {g2 : Nat → Int32} {N3 : Nat} (ok : gO X c_To_readNumber "TripleStore$Tokens" w_To_readNumber) (hl : gL X = 6) (h1 : M[x1]? = some (.inl (2, N3, .inl g2))) (h4 : vp_in x4 N3) (kk : gg X M k n 6 [(0, .ref x0), (1, .ref x1), (2, .int x2), (3, .int x3), (4, .int (x4 + 1)), (5, .int ((x5 * 10) + ((g2 x4.toNatClampNeg) - 48)))] []) : gg X M k n 22 [(0, .ref x0), (1, .ref x1), (2, .int x2), (3, .int x3), (4, .int x4), (5, .int x5)] [] := by
  refine g_iload ok d_To_readNumber_22 (j := 5) rfl ?_
  refine g_bipush (v := 10) ok d_To_readNumber_24 (by decide) ?_
  refine g_imul ok d_To_readNumber_26 ?_
  refine g_aload_n ok d_To_readNumber_27 rfl (j := 1) rfl ?_
  refine g_iload ok d_To_readNumber_28 (j := 4) rfl ?_
  refine g_cald (t := 2) ok rfl d_To_readNumber_30 h1 h4 ?_
  refine g_bipush (v := 48) ok d_To_readNumber_31 (by decide) ?_
  refine g_isub ok d_To_readNumber_33 ?_
  refine g_iadd ok d_To_readNumber_34 ?_
  refine g_istore (L' := [(0, .ref x0), (1, .ref x1), (2, .int x2), (3, .int x3), (4, .int x4), (5, .int ((x5 * 10) + ((g2 x4.toNatClampNeg) - 48)))]) ok d_To_readNumber_35 (by rw [hl]; decide) rfl ?_
  refine g_iinc (L' := [(0, .ref x0), (1, .ref x1), (2, .int x2), (3, .int x3), (4, .int (x4 + 1)), (5, .int ((x5 * 10) + ((g2 x4.toNatClampNeg) - 48)))]) (v := (x4 + 1)) ok d_To_readNumber_37 (j := 4) rfl rfl (by rw [hl]; decide) rfl ?_
  exact g_goto (tgt := 6) ok d_To_readNumber_40 (by decide) kk
theorem k_To_readNumber_43 {X : gC} {M : List mC} {k n : Nat} {x0 : Nat} {x3 : Int32} {x4 : Int32} {x5 : Int32} (ok : gO X c_To_readNumber "TripleStore$Tokens" w_To_readNumber)  (kt : 4 < (x4 - x3) → gg X M k n 56 [(0, .ref x0), (3, .int x3), (4, .int x4), (5, .int x5)] [.ref x0]) (kf : ¬ 4 < (x4 - x3) → gg X M k n 52 [(0, .ref x0), (3, .int x3), (4, .int x4), (5, .int x5)] [.ref x0]) : gg X M k n 43 [(0, .ref x0), (3, .int x3), (4, .int x4), (5, .int x5)] [] := by
  refine g_aload_n ok d_To_readNumber_43 rfl (j := 0) rfl ?_
  refine g_iload ok d_To_readNumber_44 (j := 2) rfl ?_
  refine g_iload_n ok d_To_readNumber_46 rfl (j := 1) rfl ?_
  refine g_isub ok d_To_readNumber_47 ?_
  refine g_iconst (v := 4) ok d_To_readNumber_48 (by decide) ?_
  exact g_icmp_gt (tgt := 56) ok d_To_readNumber_49 (by decide) (fun z => (kt z)) (fun z => (kf z))
theorem k_To_readNumber_52 {X : gC} {M : List mC} {k n : Nat} {x0 : Nat} {x3 : Int32} {x4 : Int32} {x5 : Int32} (ok : gO X c_To_readNumber "TripleStore$Tokens" w_To_readNumber)  (kk : gg X M k n 57 [(0, .ref x0), (3, .int x3), (4, .int x4), (5, .int x5)] [.int 4, .ref x0]) : gg X M k n 52 [(0, .ref x0), (3, .int x3), (4, .int x4), (5, .int x5)] [.ref x0] := by
  refine g_iconst (v := 4) ok d_To_readNumber_52 (by decide) ?_
  exact g_goto (tgt := 57) ok d_To_readNumber_53 (by decide) kk
theorem k_To_readNumber_56 {X : gC} {M : List mC} {k n : Nat} {x0 : Nat} {x3 : Int32} {x4 : Int32} {x5 : Int32} (ok : gO X c_To_readNumber "TripleStore$Tokens" w_To_readNumber)  (kk : gg X M k n 57 [(0, .ref x0), (3, .int x3), (4, .int x4), (5, .int x5)] [.int 1, .ref x0]) : gg X M k n 56 [(0, .ref x0), (3, .int x3), (4, .int x4), (5, .int x5)] [.ref x0] := by
  refine g_iconst (v := 1) ok d_To_readNumber_56 (by decide) ?_
  exact kk
theorem k_To_readNumber_57 {X : gC} {M : List mC} {k n : Nat} {x0 : Nat} {x3 : Int32} {x4 : Int32} {x5 : Int32} {s1 : Int32} {fs2 : List Value} (ok : gO X c_To_readNumber "TripleStore$Tokens" w_To_readNumber) (h1 : M[x0]? = some (.inr (7, fs2))) {rm : Room} {post : Option Value → List mC → Prop} (hm : mm_ (gLa X) y_To_note w_To_note rm [.ref x0, .int s1, .long (((x5 + 1) : Int32).toInt64), .int x3] M post) (hR : gF X rm 5 k n) (hlen : ∀ r M', post r M' → M'.length = M.length) (kk : ∀ r M', post r M' → gg X M' (k + rm.cells) (n + rm.slots) 66 [(4, .int x4)] (r.toList ++ [])) : gg X M k n 57 [(0, .ref x0), (3, .int x3), (4, .int x4), (5, .int x5)] [.int s1, .ref x0] := by
  refine g_iload ok d_To_readNumber_57 (j := 3) rfl ?_
  refine g_iconst (v := 1) ok d_To_readNumber_59 (by decide) ?_
  refine g_iadd ok d_To_readNumber_60 ?_
  refine g_i2l ok d_To_readNumber_61 ?_
  refine g_iload_n ok d_To_readNumber_62 rfl (j := 1) rfl ?_
  exact gc_To_40 (As := [.int s1, .long (((x5 + 1) : Int32).toInt64), .int x3]) (rest := []) ok d_To_readNumber_63 hm rfl rfl (Nat.le_of_ble_eq_true rfl) hR h1 hlen (fun r M' q => (gg_keep [4] (kk r M' q)))
theorem k_To_readNumber_66 {X : gC} {M : List mC} {k n : Nat} {x4 : Int32} (ok : gO X c_To_readNumber "TripleStore$Tokens" w_To_readNumber)  {l9 : Launch} {rm : Room} {M0 : List mC} {post : Option Value → List mC → Prop} (E : gE X l9 y_To_readNumber rm 6 (some .int) M0 post) (hp : post (some (.int x4)) M) (hk : k ≤ rm.cells) (hn : n ≤ rm.slots) : gg X M k n 66 [(4, .int x4)] [] := by
  refine g_iload ok d_To_readNumber_66 (j := 0) rfl ?_
  exact g_iret ok E d_To_readNumber_68 hp hk hn
theorem k_To_endOfLetters_0 {X : gC} {M : List mC} {k n : Nat} {x0 : Nat} {x1 : Int32} {x2 : Int32} (ok : gO X c_To_endOfLetters "TripleStore$Tokens" w_To_endOfLetters) (hl : gL X = 4)  (kk : gg X M k n 2 [(0, .ref x0), (1, .int x1), (3, .int x2)] []) : gg X M k n 0 [(0, .ref x0), (1, .int x1), (2, .int x2)] [] := by
  refine g_iload_n ok d_To_endOfLetters_0 rfl (j := 2) rfl ?_
  refine g_istore_n (L' := [(0, .ref x0), (1, .int x1), (2, .int x2), (3, .int x2)]) ok d_To_endOfLetters_1 rfl (by rw [hl]; decide) rfl ?_
  exact (gg_keep [0, 1, 3] kk)
theorem k_To_endOfLetters_2 {X : gC} {M : List mC} {k n : Nat} {x0 : Nat} {x1 : Int32} {x3 : Int32} (ok : gO X c_To_endOfLetters "TripleStore$Tokens" w_To_endOfLetters)  (kt : x1 ≤ x3 → gg X M k n 22 [(3, .int x3)] []) (kf : ¬ x1 ≤ x3 → gg X M k n 7 [(0, .ref x0), (1, .int x1), (3, .int x3)] []) : gg X M k n 2 [(0, .ref x0), (1, .int x1), (3, .int x3)] [] := by
  refine g_iload_n ok d_To_endOfLetters_2 rfl (j := 2) rfl ?_
  refine g_iload_n ok d_To_endOfLetters_3 rfl (j := 1) rfl ?_
  exact g_icmp_ge (tgt := 22) ok d_To_endOfLetters_4 (by decide) (fun z => (gg_keep [3] (kt z))) (fun z => (kf z))
theorem k_To_endOfLetters_7 {X : gC} {M : List mC} {k n : Nat} {x0 : Nat} {x1 : Int32} {x3 : Int32} {g2 : Nat → Int32} {N3 : Nat} (ok : gO X c_To_endOfLetters "TripleStore$Tokens" w_To_endOfLetters) (h1 : M[x0]? = some (.inl (2, N3, .inl g2))) (h4 : vp_in x3 N3) {rm : Room} {post : Option Value → List mC → Prop} (hm : mm_ (gLa X) y_Te_isLetter w_Te_isLetter rm [.int (g2 x3.toNatClampNeg)] M post) (hR : gF X rm 1 k n) (hlen : ∀ r M', post r M' → M'.length = M.length) (kk : ∀ r M', post r M' → gg X M' (k + rm.cells) (n + rm.slots) 13 [(0, .ref x0), (1, .int x1), (3, .int x3)] (r.toList ++ [])) : gg X M k n 7 [(0, .ref x0), (1, .int x1), (3, .int x3)] [] := by
  refine g_aload_n ok d_To_endOfLetters_7 rfl (j := 0) rfl ?_
  refine g_iload_n ok d_To_endOfLetters_8 rfl (j := 2) rfl ?_
  refine g_cald (t := 2) ok rfl d_To_endOfLetters_9 h1 h4 ?_
  exact gc_To_44 (As := [.int (g2 x3.toNatClampNeg)]) (rest := []) ok d_To_endOfLetters_10 hm rfl rfl (Nat.le_of_ble_eq_true rfl) hR hlen kk
theorem k_To_endOfLetters_13 {X : gC} {M : List mC} {k n : Nat} {x0 : Nat} {x1 : Int32} {x3 : Int32} {s0 : Int32} (ok : gO X c_To_endOfLetters "TripleStore$Tokens" w_To_endOfLetters)  (kt : s0 = 0 → gg X M k n 22 [(3, .int x3)] []) (kf : ¬ s0 = 0 → gg X M k n 16 [(0, .ref x0), (1, .int x1), (3, .int x3)] []) : gg X M k n 13 [(0, .ref x0), (1, .int x1), (3, .int x3)] [.int s0] := by
  exact g_if_eq (tgt := 22) ok d_To_endOfLetters_13 (by decide) (fun z => (gg_keep [3] (kt z))) (fun z => (kf z))
theorem k_To_endOfLetters_16 {X : gC} {M : List mC} {k n : Nat} {x0 : Nat} {x1 : Int32} {x3 : Int32} (ok : gO X c_To_endOfLetters "TripleStore$Tokens" w_To_endOfLetters) (hl : gL X = 4)  (kk : gg X M k n 2 [(0, .ref x0), (1, .int x1), (3, .int (x3 + 1))] []) : gg X M k n 16 [(0, .ref x0), (1, .int x1), (3, .int x3)] [] := by
  refine g_iinc (L' := [(0, .ref x0), (1, .int x1), (3, .int (x3 + 1))]) (v := (x3 + 1)) ok d_To_endOfLetters_16 (j := 2) rfl rfl (by rw [hl]; decide) rfl ?_
  exact g_goto (tgt := 2) ok d_To_endOfLetters_19 (by decide) kk
theorem k_To_endOfLetters_22 {X : gC} {M : List mC} {k n : Nat} {x3 : Int32} (ok : gO X c_To_endOfLetters "TripleStore$Tokens" w_To_endOfLetters)  {l9 : Launch} {rm : Room} {M0 : List mC} {post : Option Value → List mC → Prop} (E : gE X l9 y_To_endOfLetters rm 4 (some .int) M0 post) (hp : post (some (.int x3)) M) (hk : k ≤ rm.cells) (hn : n ≤ rm.slots) : gg X M k n 22 [(3, .int x3)] [] := by
  refine g_iload_n ok d_To_endOfLetters_22 rfl (j := 0) rfl ?_
  exact g_iret ok E d_To_endOfLetters_23 hp hk hn
theorem k_To_packed_0 {X : gC} {M : List mC} {k n : Nat} {x0 : Nat} {x1 : Int32} {x2 : Int32} (ok : gO X c_To_packed "TripleStore$Tokens" w_To_packed) (hl : gL X = 6)  (kk : gg X M k n 5 [(0, .ref x0), (1, .int x1), (2, .int x2), (3, .long 0), (5, .int x1)] []) : gg X M k n 0 [(0, .ref x0), (1, .int x1), (2, .int x2)] [] := by
  refine g_lconst (v := 0) ok d_To_packed_0 (by decide) ?_
  refine g_lstore_n (L' := [(0, .ref x0), (1, .int x1), (2, .int x2), (3, .long 0)]) ok d_To_packed_1 rfl (by rw [hl]; decide) rfl ?_
  refine g_iload_n ok d_To_packed_2 rfl (j := 1) rfl ?_
  refine g_istore (L' := [(0, .ref x0), (1, .int x1), (2, .int x2), (3, .long 0), (5, .int x1)]) ok d_To_packed_3 (by rw [hl]; decide) rfl ?_
  exact kk
theorem k_To_packed_5 {X : gC} {M : List mC} {k n : Nat} {x0 : Nat} {x1 : Int32} {x2 : Int32} {x3 : Int64} {x5 : Int32} (ok : gO X c_To_packed "TripleStore$Tokens" w_To_packed)  (kt : (x1 + 8) ≤ x5 → gg X M k n 41 [(3, .long x3)] []) (kf : ¬ (x1 + 8) ≤ x5 → gg X M k n 14 [(0, .ref x0), (1, .int x1), (2, .int x2), (3, .long x3), (5, .int x5)] []) : gg X M k n 5 [(0, .ref x0), (1, .int x1), (2, .int x2), (3, .long x3), (5, .int x5)] [] := by
  refine g_iload ok d_To_packed_5 (j := 4) rfl ?_
  refine g_iload_n ok d_To_packed_7 rfl (j := 1) rfl ?_
  refine g_bipush (v := 8) ok d_To_packed_8 (by decide) ?_
  refine g_iadd ok d_To_packed_10 ?_
  exact g_icmp_ge (tgt := 41) ok d_To_packed_11 (by decide) (fun z => (gg_keep [3] (kt z))) (fun z => (kf z))
theorem k_To_packed_14 {X : gC} {M : List mC} {k n : Nat} {x0 : Nat} {x1 : Int32} {x2 : Int32} {x3 : Int64} {x5 : Int32} (ok : gO X c_To_packed "TripleStore$Tokens" w_To_packed)  (kt : x2 ≤ x5 → gg X M k n 31 [(0, .ref x0), (1, .int x1), (2, .int x2), (5, .int x5)] [.long (x3 <<< ((8 : Int32).toInt64 &&& 63))]) (kf : ¬ x2 ≤ x5 → gg X M k n 24 [(0, .ref x0), (1, .int x1), (2, .int x2), (5, .int x5)] [.long (x3 <<< ((8 : Int32).toInt64 &&& 63))]) : gg X M k n 14 [(0, .ref x0), (1, .int x1), (2, .int x2), (3, .long x3), (5, .int x5)] [] := by
  refine g_lload_n ok d_To_packed_14 rfl (j := 3) rfl ?_
  refine g_bipush (v := 8) ok d_To_packed_15 (by decide) ?_
  refine g_lshl ok d_To_packed_17 ?_
  refine g_iload ok d_To_packed_18 (j := 4) rfl ?_
  refine g_iload_n ok d_To_packed_20 rfl (j := 2) rfl ?_
  exact g_icmp_ge (tgt := 31) ok d_To_packed_21 (by decide) (fun z => (gg_keep [0, 1, 2, 5] (kt z))) (fun z => (gg_keep [0, 1, 2, 5] (kf z)))
theorem k_To_packed_24 {X : gC} {M : List mC} {k n : Nat} {x0 : Nat} {x1 : Int32} {x2 : Int32} {x5 : Int32} {s0 : Int64} {g2 : Nat → Int32} {N3 : Nat} (ok : gO X c_To_packed "TripleStore$Tokens" w_To_packed) (h1 : M[x0]? = some (.inl (2, N3, .inl g2))) (h4 : vp_in x5 N3) (kk : gg X M k n 32 [(0, .ref x0), (1, .int x1), (2, .int x2), (5, .int x5)] [.int (g2 x5.toNatClampNeg), .long s0]) : gg X M k n 24 [(0, .ref x0), (1, .int x1), (2, .int x2), (5, .int x5)] [.long s0] := by
  refine g_aload_n ok d_To_packed_24 rfl (j := 0) rfl ?_
  refine g_iload ok d_To_packed_25 (j := 3) rfl ?_
  refine g_cald (t := 2) ok rfl d_To_packed_27 h1 h4 ?_
  exact g_goto (tgt := 32) ok d_To_packed_28 (by decide) kk
theorem k_To_packed_31 {X : gC} {M : List mC} {k n : Nat} {x0 : Nat} {x1 : Int32} {x2 : Int32} {x5 : Int32} {s0 : Int64} (ok : gO X c_To_packed "TripleStore$Tokens" w_To_packed)  (kk : gg X M k n 32 [(0, .ref x0), (1, .int x1), (2, .int x2), (5, .int x5)] [.int 0, .long s0]) : gg X M k n 31 [(0, .ref x0), (1, .int x1), (2, .int x2), (5, .int x5)] [.long s0] := by
  refine g_iconst (v := 0) ok d_To_packed_31 (by decide) ?_
  exact kk
theorem k_To_packed_32 {X : gC} {M : List mC} {k n : Nat} {x0 : Nat} {x1 : Int32} {x2 : Int32} {x5 : Int32} {s0 : Int64} {s1 : Int32} (ok : gO X c_To_packed "TripleStore$Tokens" w_To_packed) (hl : gL X = 6)  (kk : gg X M k n 5 [(0, .ref x0), (1, .int x1), (2, .int x2), (3, .long (s0 ||| (s1.toInt64))), (5, .int (x5 + 1))] []) : gg X M k n 32 [(0, .ref x0), (1, .int x1), (2, .int x2), (5, .int x5)] [.int s1, .long s0] := by
  refine g_i2l ok d_To_packed_32 ?_
  refine g_lor ok d_To_packed_33 ?_
  refine g_lstore_n (L' := [(0, .ref x0), (1, .int x1), (2, .int x2), (3, .long (s0 ||| (s1.toInt64))), (5, .int x5)]) ok d_To_packed_34 rfl (by rw [hl]; decide) rfl ?_
  refine g_iinc (L' := [(0, .ref x0), (1, .int x1), (2, .int x2), (3, .long (s0 ||| (s1.toInt64))), (5, .int (x5 + 1))]) (v := (x5 + 1)) ok d_To_packed_35 (j := 4) rfl rfl (by rw [hl]; decide) rfl ?_
  exact g_goto (tgt := 5) ok d_To_packed_38 (by decide) kk
theorem k_To_packed_41 {X : gC} {M : List mC} {k n : Nat} {x3 : Int64} (ok : gO X c_To_packed "TripleStore$Tokens" w_To_packed)  {l9 : Launch} {rm : Room} {M0 : List mC} {post : Option Value → List mC → Prop} (E : gE X l9 y_To_packed rm 6 (some .long) M0 post) (hp : post (some (.long x3)) M) (hk : k ≤ rm.cells) (hn : n ≤ rm.slots) : gg X M k n 41 [(3, .long x3)] [] := by
  refine g_lload_n ok d_To_packed_41 rfl (j := 0) rfl ?_
  exact g_lret ok E d_To_packed_42 hp hk hn
theorem k_To_isSign_0 {X : gC} {M : List mC} {k n : Nat} {x0 : Int32} (ok : gO X c_To_isSign "TripleStore$Tokens" w_To_isSign)  (kt : x0 = 123 → gg X M k n 42 [] []) (kf : ¬ x0 = 123 → gg X M k n 6 [(0, .int x0)] []) : gg X M k n 0 [(0, .int x0)] [] := by
  refine g_iload_n ok d_To_isSign_0 rfl (j := 0) rfl ?_
  refine g_bipush (v := 123) ok d_To_isSign_1 (by decide) ?_
  exact g_icmp_eq (tgt := 42) ok d_To_isSign_3 (by decide) (fun z => (gg_keep [] (kt z))) (fun z => (kf z))
theorem k_To_isSign_6 {X : gC} {M : List mC} {k n : Nat} {x0 : Int32} (ok : gO X c_To_isSign "TripleStore$Tokens" w_To_isSign)  (kt : x0 = 125 → gg X M k n 42 [] []) (kf : ¬ x0 = 125 → gg X M k n 12 [(0, .int x0)] []) : gg X M k n 6 [(0, .int x0)] [] := by
  refine g_iload_n ok d_To_isSign_6 rfl (j := 0) rfl ?_
  refine g_bipush (v := 125) ok d_To_isSign_7 (by decide) ?_
  exact g_icmp_eq (tgt := 42) ok d_To_isSign_9 (by decide) (fun z => (gg_keep [] (kt z))) (fun z => (kf z))
theorem k_To_isSign_12 {X : gC} {M : List mC} {k n : Nat} {x0 : Int32} (ok : gO X c_To_isSign "TripleStore$Tokens" w_To_isSign)  (kt : x0 = 46 → gg X M k n 42 [] []) (kf : ¬ x0 = 46 → gg X M k n 18 [(0, .int x0)] []) : gg X M k n 12 [(0, .int x0)] [] := by
  refine g_iload_n ok d_To_isSign_12 rfl (j := 0) rfl ?_
  refine g_bipush (v := 46) ok d_To_isSign_13 (by decide) ?_
  exact g_icmp_eq (tgt := 42) ok d_To_isSign_15 (by decide) (fun z => (gg_keep [] (kt z))) (fun z => (kf z))
theorem k_To_isSign_18 {X : gC} {M : List mC} {k n : Nat} {x0 : Int32} (ok : gO X c_To_isSign "TripleStore$Tokens" w_To_isSign)  (kt : x0 = 61 → gg X M k n 42 [] []) (kf : ¬ x0 = 61 → gg X M k n 24 [(0, .int x0)] []) : gg X M k n 18 [(0, .int x0)] [] := by
  refine g_iload_n ok d_To_isSign_18 rfl (j := 0) rfl ?_
  refine g_bipush (v := 61) ok d_To_isSign_19 (by decide) ?_
  exact g_icmp_eq (tgt := 42) ok d_To_isSign_21 (by decide) (fun z => (gg_keep [] (kt z))) (fun z => (kf z))
theorem k_To_isSign_24 {X : gC} {M : List mC} {k n : Nat} {x0 : Int32} (ok : gO X c_To_isSign "TripleStore$Tokens" w_To_isSign)  (kt : x0 = 60 → gg X M k n 42 [] []) (kf : ¬ x0 = 60 → gg X M k n 30 [(0, .int x0)] []) : gg X M k n 24 [(0, .int x0)] [] := by
  refine g_iload_n ok d_To_isSign_24 rfl (j := 0) rfl ?_
  refine g_bipush (v := 60) ok d_To_isSign_25 (by decide) ?_
  exact g_icmp_eq (tgt := 42) ok d_To_isSign_27 (by decide) (fun z => (gg_keep [] (kt z))) (fun z => (kf z))
theorem k_To_isSign_30 {X : gC} {M : List mC} {k n : Nat} {x0 : Int32} (ok : gO X c_To_isSign "TripleStore$Tokens" w_To_isSign)  (kt : x0 = 62 → gg X M k n 42 [] []) (kf : ¬ x0 = 62 → gg X M k n 36 [(0, .int x0)] []) : gg X M k n 30 [(0, .int x0)] [] := by
  refine g_iload_n ok d_To_isSign_30 rfl (j := 0) rfl ?_
  refine g_bipush (v := 62) ok d_To_isSign_31 (by decide) ?_
  exact g_icmp_eq (tgt := 42) ok d_To_isSign_33 (by decide) (fun z => (gg_keep [] (kt z))) (fun z => (kf z))
theorem k_To_isSign_36 {X : gC} {M : List mC} {k n : Nat} {x0 : Int32} (ok : gO X c_To_isSign "TripleStore$Tokens" w_To_isSign)  (kt : ¬ x0 = 33 → gg X M k n 46 [] []) (kf : x0 = 33 → gg X M k n 42 [] []) : gg X M k n 36 [(0, .int x0)] [] := by
  refine g_iload_n ok d_To_isSign_36 rfl (j := 0) rfl ?_
  refine g_bipush (v := 33) ok d_To_isSign_37 (by decide) ?_
  exact g_icmp_ne (tgt := 46) ok d_To_isSign_39 (by decide) (fun z => (gg_keep [] (kt z))) (fun z => (gg_keep [] (kf z)))
theorem k_To_isSign_42 {X : gC} {M : List mC} {k n : Nat}  (ok : gO X c_To_isSign "TripleStore$Tokens" w_To_isSign)  (kk : gg X M k n 47 [] [.int 1]) : gg X M k n 42 [] [] := by
  refine g_iconst (v := 1) ok d_To_isSign_42 (by decide) ?_
  exact g_goto (tgt := 47) ok d_To_isSign_43 (by decide) kk
theorem k_To_isSign_46 {X : gC} {M : List mC} {k n : Nat}  (ok : gO X c_To_isSign "TripleStore$Tokens" w_To_isSign)  (kk : gg X M k n 47 [] [.int 0]) : gg X M k n 46 [] [] := by
  refine g_iconst (v := 0) ok d_To_isSign_46 (by decide) ?_
  exact kk
theorem k_To_isSign_47 {X : gC} {M : List mC} {k n : Nat} {s0 : Int32} (ok : gO X c_To_isSign "TripleStore$Tokens" w_To_isSign)  {l9 : Launch} {rm : Room} {M0 : List mC} {post : Option Value → List mC → Prop} (E : gE X l9 y_To_isSign rm 1 (some .boolean) M0 post) (hz : narrow .boolean (.int s0) = .int s0) (hp : post (some (.int s0)) M) (hk : k ≤ rm.cells) (hn : n ≤ rm.slots) : gg X M k n 47 [] [.int s0] := by
  exact g_zret ok E d_To_isSign_47 hz hp hk hn
theorem k_To_isKey_0 {X : gC} {M : List mC} {k n : Nat} {x0 : Int64} (ok : gO X c_To_isKey "TripleStore$Tokens" w_To_isKey)  (kt : x0 = 8315171469725532160 → gg X M k n 88 [] []) (kf : ¬ x0 = 8315171469725532160 → gg X M k n 8 [(0, .long x0)] []) : gg X M k n 0 [(0, .long x0)] [] := by
  refine g_lload_n ok d_To_isKey_0 rfl (j := 0) rfl ?_
  refine g_ldc2 (v := 8315171469725532160) ok (List.mem_cons_of_mem _ (gT_at 606 (by decide +kernel) (by decide +kernel))) d_To_isKey_1 ?_
  exact g_lc_eq (tgt := 88) ok d_To_isKey_4 d_To_isKey_5 (by decide) (fun z => (gg_keep [] (kt z))) (fun z => (kf z))
theorem k_To_isKey_8 {X : gC} {M : List mC} {k n : Nat} {x0 : Int64} (ok : gO X c_To_isKey "TripleStore$Tokens" w_To_isKey)  (kt : x0 = 7235441220169655156 → gg X M k n 88 [] []) (kf : ¬ x0 = 7235441220169655156 → gg X M k n 16 [(0, .long x0)] []) : gg X M k n 8 [(0, .long x0)] [] := by
  refine g_lload_n ok d_To_isKey_8 rfl (j := 0) rfl ?_
  refine g_ldc2 (v := 7235441220169655156) ok (List.mem_cons_of_mem _ (gT_at 607 (by decide +kernel) (by decide +kernel))) d_To_isKey_9 ?_
  exact g_lc_eq (tgt := 88) ok d_To_isKey_12 d_To_isKey_13 (by decide) (fun z => (gg_keep [] (kt z))) (fun z => (kf z))
theorem k_To_isKey_16 {X : gC} {M : List mC} {k n : Nat} {x0 : Int64} (ok : gO X c_To_isKey "TripleStore$Tokens" w_To_isKey)  (kt : x0 = 8030591472422092800 → gg X M k n 88 [] []) (kf : ¬ x0 = 8030591472422092800 → gg X M k n 24 [(0, .long x0)] []) : gg X M k n 16 [(0, .long x0)] [] := by
  refine g_lload_n ok d_To_isKey_16 rfl (j := 0) rfl ?_
  refine g_ldc2 (v := 8030591472422092800) ok (List.mem_cons_of_mem _ (gT_at 608 (by decide +kernel) (by decide +kernel))) d_To_isKey_17 ?_
  exact g_lc_eq (tgt := 88) ok d_To_isKey_20 d_To_isKey_21 (by decide) (fun z => (gg_keep [] (kt z))) (fun z => (kf z))
theorem k_To_isKey_24 {X : gC} {M : List mC} {k n : Nat} {x0 : Int64} (ok : gO X c_To_isKey "TripleStore$Tokens" w_To_isKey)  (kt : x0 = 7234315245479526400 → gg X M k n 88 [] []) (kf : ¬ x0 = 7234315245479526400 → gg X M k n 32 [(0, .long x0)] []) : gg X M k n 24 [(0, .long x0)] [] := by
  refine g_lload_n ok d_To_isKey_24 rfl (j := 0) rfl ?_
  refine g_ldc2 (v := 7234315245479526400) ok (List.mem_cons_of_mem _ (gT_at 609 (by decide +kernel) (by decide +kernel))) d_To_isKey_25 ?_
  exact g_lc_eq (tgt := 88) ok d_To_isKey_28 d_To_isKey_29 (by decide) (fun z => (gg_keep [] (kt z))) (fun z => (kf z))
theorem k_To_isKey_32 {X : gC} {M : List mC} {k n : Nat} {x0 : Int64} (ok : gO X c_To_isKey "TripleStore$Tokens" w_To_isKey)  (kt : x0 = 7811895328335986688 → gg X M k n 88 [] []) (kf : ¬ x0 = 7811895328335986688 → gg X M k n 40 [(0, .long x0)] []) : gg X M k n 32 [(0, .long x0)] [] := by
  refine g_lload_n ok d_To_isKey_32 rfl (j := 0) rfl ?_
  refine g_ldc2 (v := 7811895328335986688) ok (List.mem_cons_of_mem _ (gT_at 610 (by decide +kernel) (by decide +kernel))) d_To_isKey_33 ?_
  exact g_lc_eq (tgt := 88) ok d_To_isKey_36 d_To_isKey_37 (by decide) (fun z => (gg_keep [] (kt z))) (fun z => (kf z))
theorem k_To_isKey_40 {X : gC} {M : List mC} {k n : Nat} {x0 : Int64} (ok : gO X c_To_isKey "TripleStore$Tokens" w_To_isKey)  (kt : x0 = 7379548711597244416 → gg X M k n 88 [] []) (kf : ¬ x0 = 7379548711597244416 → gg X M k n 48 [(0, .long x0)] []) : gg X M k n 40 [(0, .long x0)] [] := by
  refine g_lload_n ok d_To_isKey_40 rfl (j := 0) rfl ?_
  refine g_ldc2 (v := 7379548711597244416) ok (List.mem_cons_of_mem _ (gT_at 611 (by decide +kernel) (by decide +kernel))) d_To_isKey_41 ?_
  exact g_lc_eq (tgt := 88) ok d_To_isKey_44 d_To_isKey_45 (by decide) (fun z => (gg_keep [] (kt z))) (fun z => (kf z))
theorem k_To_isKey_48 {X : gC} {M : List mC} {k n : Nat} {x0 : Int64} (ok : gO X c_To_isKey "TripleStore$Tokens" w_To_isKey)  (kt : x0 = 8030046131791487340 → gg X M k n 88 [] []) (kf : ¬ x0 = 8030046131791487340 → gg X M k n 56 [(0, .long x0)] []) : gg X M k n 48 [(0, .long x0)] [] := by
  refine g_lload_n ok d_To_isKey_48 rfl (j := 0) rfl ?_
  refine g_ldc2 (v := 8030046131791487340) ok (List.mem_cons_of_mem _ (gT_at 612 (by decide +kernel) (by decide +kernel))) d_To_isKey_49 ?_
  exact g_lc_eq (tgt := 88) ok d_To_isKey_52 d_To_isKey_53 (by decide) (fun z => (gg_keep [] (kt z))) (fun z => (kf z))
theorem k_To_isKey_56 {X : gC} {M : List mC} {k n : Nat} {x0 : Int64} (ok : gO X c_To_isKey "TripleStore$Tokens" w_To_isKey)  (kt : x0 = 7883954073408372736 → gg X M k n 88 [] []) (kf : ¬ x0 = 7883954073408372736 → gg X M k n 64 [(0, .long x0)] []) : gg X M k n 56 [(0, .long x0)] [] := by
  refine g_lload_n ok d_To_isKey_56 rfl (j := 0) rfl ?_
  refine g_ldc2 (v := 7883954073408372736) ok (List.mem_cons_of_mem _ (gT_at 613 (by decide +kernel) (by decide +kernel))) d_To_isKey_57 ?_
  exact g_lc_eq (tgt := 88) ok d_To_isKey_60 d_To_isKey_61 (by decide) (fun z => (gg_keep [] (kt z))) (fun z => (kf z))
theorem k_To_isKey_64 {X : gC} {M : List mC} {k n : Nat} {x0 : Int64} (ok : gO X c_To_isKey "TripleStore$Tokens" w_To_isKey)  (kt : x0 = 8461816677183520768 → gg X M k n 88 [] []) (kf : ¬ x0 = 8461816677183520768 → gg X M k n 72 [(0, .long x0)] []) : gg X M k n 64 [(0, .long x0)] [] := by
  refine g_lload_n ok d_To_isKey_64 rfl (j := 0) rfl ?_
  refine g_ldc2 (v := 8461816677183520768) ok (List.mem_cons_of_mem _ (gT_at 614 (by decide +kernel) (by decide +kernel))) d_To_isKey_65 ?_
  exact g_lc_eq (tgt := 88) ok d_To_isKey_68 d_To_isKey_69 (by decide) (fun z => (gg_keep [] (kt z))) (fun z => (kf z))
theorem k_To_isKey_72 {X : gC} {M : List mC} {k n : Nat} {x0 : Int64} (ok : gO X c_To_isKey "TripleStore$Tokens" w_To_isKey)  (kt : x0 = 7957706609935777792 → gg X M k n 88 [] []) (kf : ¬ x0 = 7957706609935777792 → gg X M k n 80 [(0, .long x0)] []) : gg X M k n 72 [(0, .long x0)] [] := by
  refine g_lload_n ok d_To_isKey_72 rfl (j := 0) rfl ?_
  refine g_ldc2 (v := 7957706609935777792) ok (List.mem_cons_of_mem _ (gT_at 615 (by decide +kernel) (by decide +kernel))) d_To_isKey_73 ?_
  exact g_lc_eq (tgt := 88) ok d_To_isKey_76 d_To_isKey_77 (by decide) (fun z => (gg_keep [] (kt z))) (fun z => (kf z))
theorem k_To_isKey_80 {X : gC} {M : List mC} {k n : Nat} {x0 : Int64} (ok : gO X c_To_isKey "TripleStore$Tokens" w_To_isKey)  (kt : ¬ x0 = 7093017055116394496 → gg X M k n 92 [] []) (kf : x0 = 7093017055116394496 → gg X M k n 88 [] []) : gg X M k n 80 [(0, .long x0)] [] := by
  refine g_lload_n ok d_To_isKey_80 rfl (j := 0) rfl ?_
  refine g_ldc2 (v := 7093017055116394496) ok (List.mem_cons_of_mem _ (gT_at 616 (by decide +kernel) (by decide +kernel))) d_To_isKey_81 ?_
  exact g_lc_ne (tgt := 92) ok d_To_isKey_84 d_To_isKey_85 (by decide) (fun z => (gg_keep [] (kt z))) (fun z => (gg_keep [] (kf z)))
theorem k_To_isKey_88 {X : gC} {M : List mC} {k n : Nat}  (ok : gO X c_To_isKey "TripleStore$Tokens" w_To_isKey)  (kk : gg X M k n 93 [] [.int 1]) : gg X M k n 88 [] [] := by
  refine g_iconst (v := 1) ok d_To_isKey_88 (by decide) ?_
  exact g_goto (tgt := 93) ok d_To_isKey_89 (by decide) kk
theorem k_To_isKey_92 {X : gC} {M : List mC} {k n : Nat}  (ok : gO X c_To_isKey "TripleStore$Tokens" w_To_isKey)  (kk : gg X M k n 93 [] [.int 0]) : gg X M k n 92 [] [] := by
  refine g_iconst (v := 0) ok d_To_isKey_92 (by decide) ?_
  exact kk
theorem k_To_isKey_93 {X : gC} {M : List mC} {k n : Nat} {s0 : Int32} (ok : gO X c_To_isKey "TripleStore$Tokens" w_To_isKey)  {l9 : Launch} {rm : Room} {M0 : List mC} {post : Option Value → List mC → Prop} (E : gE X l9 y_To_isKey rm 2 (some .boolean) M0 post) (hz : narrow .boolean (.int s0) = .int s0) (hp : post (some (.int s0)) M) (hk : k ≤ rm.cells) (hn : n ≤ rm.slots) : gg X M k n 93 [] [.int s0] := by
  exact g_zret ok E d_To_isKey_93 hz hp hk hn
