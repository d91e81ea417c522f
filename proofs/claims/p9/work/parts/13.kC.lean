theorem k_TS_init_0 {X : gC} {M : List mC} {k n : Nat} {x0 : Nat} (ok : gO X c_TS_init "TripleStore" w_TS_init)  (hf : 1 ≤ (gR X).frames) (hl2 : (([] : List Value).map fun v => v.category).sum + 12 ≤ (gR X).locals) (kk : gg X M k n 4 [(0, .ref x0)] []) : gg X M k n 0 [(0, .ref x0)] [] := by
  refine g_aload_n ok d_TS_init_0 rfl (j := 0) rfl ?_
  exact g_objI ok ml_TS_3 wn_Object i_Object d_TS_init_1 hf hl2 kk
theorem k_TS_init_4 {X : gC} {M : List mC} {k n : Nat} {x0 : Nat} {M4 : List mC} {q5 : Nat} (ok : gO X c_TS_init "TripleStore" w_TS_init) (h1 : k + 1 ≤ (gR X).cells) (h2 : n + 8 ≤ (gR X).slots) (h3 : gW M [(0, .ref x0)] [.ref x0]) (h6 : M ++ [.inr (6, [.null, .null, .null, .null, .int 0, .int 0, .int 0, .int 0])] = M4) (h7 : M.length = q5) {rm : Room} {post : Option Value → List mC → Prop} (hm : mm_ (gLa X) y_St_init w_St_init rm [.ref q5] M4 post) (hR : gF X rm 1 (k + 1) (n + 8)) (hL : ∀ q ∈ ([(0, .ref x0)] : List (Nat × Value)), mk_v M4.length q.2) (hrs : ∀ v ∈ ([.ref q5, .ref x0] : List Value), mk_v M4.length v) (kk : ∀ r M', post r M' → gg X M' (k + 1 + rm.cells) (n + 8 + rm.slots) 12 [(0, .ref x0)] (r.toList ++ [.ref q5, .ref x0])) : gg X M k n 4 [(0, .ref x0)] [] := by
  refine g_aload_n ok d_TS_init_4 rfl (j := 0) rfl ?_
  refine g_new (C := RSt) (T := TSt) (N := 8) (ci := 6) (fs := [.null, .null, .null, .null, .int 0, .int 0, .int 0, .int 0]) ok (fun w h => List.mem_cons_of_mem _ (inSt w h)) tySt okSt (List.mem_cons_of_mem _ (gT_at 31 (by decide +kernel) (by decide +kernel))) (List.mem_cons_of_mem _ (gT_at 32 (by decide +kernel) (by decide +kernel))) (List.mem_cons_of_mem _ (gT_at 2 (by decide +kernel) (by decide +kernel))) rfl (by decide +kernel) (fun _ => rfl) d_TS_init_5 h1 h2 h3 ?_
  rw [h6, h7]
  have h8 : M4[q5]? = some (.inr (6, [.null, .null, .null, .null, .int 0, .int 0, .int 0, .int 0])) := by rw [← h6, ← h7]; exact ga_new _ _
  refine g_dup ok d_TS_init_8 rfl ?_
  exact gc_TS_11 (As := []) (rest := [.ref q5, .ref x0]) ok d_TS_init_9 hm rfl rfl (Nat.le_of_ble_eq_true rfl) hR hL hrs kk
theorem k_TS_init_12 {X : gC} {M : List mC} {k n : Nat} {x0 : Nat} {s1 : Nat} {fs2 : List Value} {fs5 : List Value} {M7 : List mC} {M15 : List mC} {q16 : Nat} {fs22 : List Value} {M24 : List mC} {M33 : List mC} {q34 : Nat} (ok : gO X c_TS_init "TripleStore" w_TS_init) (hin : (gM X).name = "<init>") (h1 : M[x0]? = some (.inr (9, fs2))) (h4 : 9 ≤ fs2.length) (h6 : fs2.set 0 (.ref s1) = fs5) (h8 : M.set x0 (.inr (9, fs5)) = M7) (h12 : k + 1 ≤ (gR X).cells) (h13 : n + 160 ≤ (gR X).slots) (h14 : gW M7 [(0, .ref x0)] [.ref x0]) (h17 : M7 ++ [.inl (2, 160, .inl (fun _ => 0))] = M15) (h18 : M7.length = q16) (h23 : fs5.set 1 (.ref q16) = fs22) (h25 : M15.set x0 (.inr (9, fs22)) = M24) (h30 : k + 1 + 1 ≤ (gR X).cells) (h31 : n + 160 + 5 ≤ (gR X).slots) (h32 : gW M24 [(0, .ref x0)] [.ref x0]) (h35 : M24 ++ [.inr (7, [.null, .null, .null, .int 0, .int 0])] = M33) (h36 : M24.length = q34) {rm : Room} {post : Option Value → List mC → Prop} (hm : mm_ (gLa X) y_To_init w_To_init rm [.ref q34] M33 post) (hR : gF X rm 1 (k + 1 + 1) (n + 160 + 5)) (hL : ∀ q ∈ ([(0, .ref x0)] : List (Nat × Value)), mk_v M33.length q.2) (hrs : ∀ v ∈ ([.ref q34, .ref x0] : List Value), mk_v M33.length v) (kk : ∀ r M', post r M' → gg X M' (k + 1 + 1 + rm.cells) (n + 160 + 5 + rm.slots) 32 [(0, .ref x0)] (r.toList ++ [.ref q34, .ref x0])) : gg X M k n 12 [(0, .ref x0)] [.ref s1, .ref x0] := by
  have h3 : 0 < fs2.length := Nat.lt_of_lt_of_le (by decide) h4
  refine pf_TS_12 ok hin d_TS_init_12 h1 h3 (fun _ => ⟨rfl, rfl⟩) ?_
  rw [h6]
  rw [h8]
  have h9 : M7[x0]? = some (.inr (9, fs5)) := by rw [← h8]; exact gs_eq h1
  have h10 : fs5[0]? = some (.ref s1) := by rw [← h6]; exact List.getElem?_set_self h3
  have h11 : 9 ≤ fs5.length := by rw [← h6, List.length_set]; exact h4
  refine g_aload_n ok d_TS_init_15 rfl (j := 0) rfl ?_
  refine g_sipush (v := 160) ok d_TS_init_16 (by decide) ?_
  refine g_newa (atype := .char) (ty := .char) (t := 2) (N := 160) (a0 := (160, .inl (fun _ => 0))) ok (List.mem_cons_of_mem _ (gT_at 106 (by decide +kernel) (by decide +kernel))) rfl rfl (fun _ => rfl) (fun _ => rfl) (by decide) (by decide) (by decide) d_TS_init_19 h12 h13 h14 ?_
  rw [h17, h18]
  have h19 : M15[q16]? = some (.inl (2, 160, .inl (fun _ => 0))) := by rw [← h17, ← h18]; exact ga_new _ _
  have h20 : M15[x0]? = some (.inr (9, fs5)) := by rw [← h17]; exact ga_old h9
  have h21 : 1 < fs5.length := Nat.lt_of_lt_of_le (by decide) h11
  refine pf_TS_16 ok hin d_TS_init_21 h20 h21 (fun _ => ⟨rfl, rfl⟩) ?_
  rw [h23]
  rw [h25]
  have h26 : M24[x0]? = some (.inr (9, fs22)) := by rw [← h25]; exact gs_eq h20
  have h27 : fs22[0]? = some (.ref s1) := by rw [← h23]; exact (List.getElem?_set_ne (by decide : 1 ≠ 0)).trans h10
  have h28 : fs22[1]? = some (.ref q16) := by rw [← h23]; exact List.getElem?_set_self h21
  have h29 : 9 ≤ fs22.length := by rw [← h23, List.length_set]; exact h11
  refine g_aload_n ok d_TS_init_24 rfl (j := 0) rfl ?_
  refine g_new (C := RTo) (T := TTo) (N := 5) (ci := 7) (fs := [.null, .null, .null, .int 0, .int 0]) ok (fun w h => List.mem_cons_of_mem _ (inTo w h)) tyTo okTo (List.mem_cons_of_mem _ (gT_at 84 (by decide +kernel) (by decide +kernel))) (List.mem_cons_of_mem _ (gT_at 85 (by decide +kernel) (by decide +kernel))) (List.mem_cons_of_mem _ (gT_at 4 (by decide +kernel) (by decide +kernel))) rfl (by decide +kernel) (fun _ => rfl) d_TS_init_25 h30 h31 h32 ?_
  rw [h35, h36]
  have h37 : M33[q34]? = some (.inr (7, [.null, .null, .null, .int 0, .int 0])) := by rw [← h35, ← h36]; exact ga_new _ _
  have h38 : M24[q16]? = some (.inl (2, 160, .inl (fun _ => 0))) := by rw [← h25]; exact (gs_ne (Ne.symm (ne_ao h19 h20))).trans h19
  refine g_dup ok d_TS_init_28 rfl ?_
  exact gc_TS_22 (As := []) (rest := [.ref q34, .ref x0]) ok d_TS_init_29 hm rfl rfl (Nat.le_of_ble_eq_true rfl) hR hL hrs kk
theorem k_TS_init_32 {X : gC} {M : List mC} {k n : Nat} {x0 : Nat} {s1 : Nat} {fs2 : List Value} {fs5 : List Value} {M7 : List mC} {M15 : List mC} {q16 : Nat} (ok : gO X c_TS_init "TripleStore" w_TS_init) (hin : (gM X).name = "<init>") (h1 : M[x0]? = some (.inr (9, fs2))) (h4 : 9 ≤ fs2.length) (h6 : fs2.set 2 (.ref s1) = fs5) (h8 : M.set x0 (.inr (9, fs5)) = M7) (h12 : k + 1 ≤ (gR X).cells) (h13 : n + 12 ≤ (gR X).slots) (h14 : gW M7 [(0, .ref x0)] [.ref x0]) (h17 : M7 ++ [.inr (2, [.null, .int 0, .null, .int 0, .int 0, .int 0, .int 0, .int 0, .null, .int 0, .null, .int 0])] = M15) (h18 : M7.length = q16) {rm : Room} {post : Option Value → List mC → Prop} (hm : mm_ (gLa X) y_Qu_init w_Qu_init rm [.ref q16] M15 post) (hR : gF X rm 2 (k + 1) (n + 12)) (hL : ∀ q ∈ ([(0, .ref x0)] : List (Nat × Value)), mk_v M15.length q.2) (hrs : ∀ v ∈ ([.ref q16, .ref x0] : List Value), mk_v M15.length v) (kk : ∀ r M', post r M' → gg X M' (k + 1 + rm.cells) (n + 12 + rm.slots) 43 [(0, .ref x0)] (r.toList ++ [.ref q16, .ref x0])) : gg X M k n 32 [(0, .ref x0)] [.ref s1, .ref x0] := by
  have h3 : 2 < fs2.length := Nat.lt_of_lt_of_le (by decide) h4
  refine pf_TS_23 ok hin d_TS_init_32 h1 h3 (fun _ => ⟨rfl, rfl⟩) ?_
  rw [h6]
  rw [h8]
  have h9 : M7[x0]? = some (.inr (9, fs5)) := by rw [← h8]; exact gs_eq h1
  have h10 : fs5[2]? = some (.ref s1) := by rw [← h6]; exact List.getElem?_set_self h3
  have h11 : 9 ≤ fs5.length := by rw [← h6, List.length_set]; exact h4
  refine g_aload_n ok d_TS_init_35 rfl (j := 0) rfl ?_
  refine g_new (C := RQu) (T := TQu) (N := 12) (ci := 2) (fs := [.null, .int 0, .null, .int 0, .int 0, .int 0, .int 0, .int 0, .null, .int 0, .null, .int 0]) ok (fun w h => List.mem_cons_of_mem _ (inQu w h)) tyQu okQu (List.mem_cons_of_mem _ (gT_at 107 (by decide +kernel) (by decide +kernel))) (List.mem_cons_of_mem _ (gT_at 108 (by decide +kernel) (by decide +kernel))) (List.mem_cons_of_mem _ (gT_at 5 (by decide +kernel) (by decide +kernel))) rfl (by decide +kernel) (fun _ => rfl) d_TS_init_36 h12 h13 h14 ?_
  rw [h17, h18]
  have h19 : M15[q16]? = some (.inr (2, [.null, .int 0, .null, .int 0, .int 0, .int 0, .int 0, .int 0, .null, .int 0, .null, .int 0])) := by rw [← h17, ← h18]; exact ga_new _ _
  refine g_dup ok d_TS_init_39 rfl ?_
  exact gc_TS_29 (As := []) (rest := [.ref q16, .ref x0]) ok d_TS_init_40 hm rfl rfl (Nat.le_of_ble_eq_true rfl) hR hL hrs kk
theorem k_TS_init_43 {X : gC} {M : List mC} {k n : Nat} {x0 : Nat} {s1 : Nat} {fs2 : List Value} {fs5 : List Value} {M7 : List mC} {M15 : List mC} {q16 : Nat} {f21 : Nat} (ok : gO X c_TS_init "TripleStore" w_TS_init) (hin : (gM X).name = "<init>") (h1 : M[x0]? = some (.inr (9, fs2))) (h4 : 9 ≤ fs2.length) (h6 : fs2.set 3 (.ref s1) = fs5) (h8 : M.set x0 (.inr (9, fs5)) = M7) (h12 : k + 1 ≤ (gR X).cells) (h13 : n + 3 ≤ (gR X).slots) (h14 : gW M7 [(0, .ref x0)] [.ref x0]) (h17 : M7 ++ [.inr (1, [.null, .null, .long 0])] = M15) (h18 : M7.length = q16) (h22 : fs2[2]? = some (.ref f21)) {rm : Room} {post : Option Value → List mC → Prop} (hm : mm_ (gLa X) y_Pa_init w_Pa_init rm [.ref q16, .ref f21, .ref s1] M15 post) (hR : gF X rm 3 (k + 1) (n + 3)) (hL : ∀ q ∈ ([(0, .ref x0)] : List (Nat × Value)), mk_v M15.length q.2) (hrs : ∀ v ∈ ([.ref q16, .ref x0] : List Value), mk_v M15.length v) (kk : ∀ r M', post r M' → gg X M' (k + 1 + rm.cells) (n + 3 + rm.slots) 62 [(0, .ref x0)] (r.toList ++ [.ref q16, .ref x0])) : gg X M k n 43 [(0, .ref x0)] [.ref s1, .ref x0] := by
  have h3 : 3 < fs2.length := Nat.lt_of_lt_of_le (by decide) h4
  refine pf_TS_30 ok hin d_TS_init_43 h1 h3 (fun _ => ⟨rfl, rfl⟩) ?_
  rw [h6]
  rw [h8]
  have h9 : M7[x0]? = some (.inr (9, fs5)) := by rw [← h8]; exact gs_eq h1
  have h10 : fs5[3]? = some (.ref s1) := by rw [← h6]; exact List.getElem?_set_self h3
  have h11 : 9 ≤ fs5.length := by rw [← h6, List.length_set]; exact h4
  refine g_aload_n ok d_TS_init_46 rfl (j := 0) rfl ?_
  refine g_new (C := RPa) (T := TPa) (N := 3) (ci := 1) (fs := [.null, .null, .long 0]) ok (fun w h => List.mem_cons_of_mem _ (inPa w h)) tyPa okPa (List.mem_cons_of_mem _ (gT_at 210 (by decide +kernel) (by decide +kernel))) (List.mem_cons_of_mem _ (gT_at 211 (by decide +kernel) (by decide +kernel))) (List.mem_cons_of_mem _ (gT_at 7 (by decide +kernel) (by decide +kernel))) rfl (by decide +kernel) (fun _ => rfl) d_TS_init_47 h12 h13 h14 ?_
  rw [h17, h18]
  have h19 : M15[q16]? = some (.inr (1, [.null, .null, .long 0])) := by rw [← h17, ← h18]; exact ga_new _ _
  refine g_dup ok d_TS_init_50 rfl ?_
  refine g_aload_n ok d_TS_init_51 rfl (j := 0) rfl ?_
  have h20 : M15[x0]? = some (.inr (9, fs5)) := by rw [← h17]; exact ga_old h9
  have h23 : fs5[2]? = some (.ref f21) := by rw [← h6]; exact (List.getElem?_set_ne (by decide : 3 ≠ 2)).trans h22
  refine gf_TS_23 ok d_TS_init_52 h20 h23 ?_
  refine g_aload_n ok d_TS_init_55 rfl (j := 0) rfl ?_
  refine gf_TS_30 ok d_TS_init_56 h20 h10 ?_
  exact gc_TS_36 (As := [.ref f21, .ref s1]) (rest := [.ref q16, .ref x0]) ok d_TS_init_59 hm rfl rfl (Nat.le_of_ble_eq_true rfl) hR hL hrs kk
theorem k_TS_init_62 {X : gC} {M : List mC} {k n : Nat} {x0 : Nat} {s1 : Nat} {fs2 : List Value} {fs5 : List Value} {M7 : List mC} {M15 : List mC} {q16 : Nat} {f21 : Nat} {f24 : Nat} (ok : gO X c_TS_init "TripleStore" w_TS_init) (hin : (gM X).name = "<init>") (h1 : M[x0]? = some (.inr (9, fs2))) (h4 : 9 ≤ fs2.length) (h6 : fs2.set 4 (.ref s1) = fs5) (h8 : M.set x0 (.inr (9, fs5)) = M7) (h12 : k + 1 ≤ (gR X).cells) (h13 : n + 5 ≤ (gR X).slots) (h14 : gW M7 [(0, .ref x0)] [.ref x0]) (h17 : M7 ++ [.inr (5, [.null, .null, .null, .null, .null])] = M15) (h18 : M7.length = q16) (h22 : fs2[0]? = some (.ref f21)) (h25 : fs2[3]? = some (.ref f24)) {rm : Room} {post : Option Value → List mC → Prop} (hm : mm_ (gLa X) y_Sv_init w_Sv_init rm [.ref q16, .ref f21, .ref f24] M15 post) (hR : gF X rm 4 (k + 1) (n + 5)) (hL : ∀ q ∈ ([(0, .ref x0)] : List (Nat × Value)), mk_v M15.length q.2) (hrs : ∀ v ∈ ([.ref q16, .ref x0] : List Value), mk_v M15.length v) (kk : ∀ r M', post r M' → gg X M' (k + 1 + rm.cells) (n + 5 + rm.slots) 81 [(0, .ref x0)] (r.toList ++ [.ref q16, .ref x0])) : gg X M k n 62 [(0, .ref x0)] [.ref s1, .ref x0] := by
  have h3 : 4 < fs2.length := Nat.lt_of_lt_of_le (by decide) h4
  refine pf_TS_39 ok hin d_TS_init_62 h1 h3 (fun _ => ⟨rfl, rfl⟩) ?_
  rw [h6]
  rw [h8]
  have h9 : M7[x0]? = some (.inr (9, fs5)) := by rw [← h8]; exact gs_eq h1
  have h10 : fs5[4]? = some (.ref s1) := by rw [← h6]; exact List.getElem?_set_self h3
  have h11 : 9 ≤ fs5.length := by rw [← h6, List.length_set]; exact h4
  refine g_aload_n ok d_TS_init_65 rfl (j := 0) rfl ?_
  refine g_new (C := RSv) (T := TSv) (N := 5) (ci := 5) (fs := [.null, .null, .null, .null, .null]) ok (fun w h => List.mem_cons_of_mem _ (inSv w h)) tySv okSv (List.mem_cons_of_mem _ (gT_at 226 (by decide +kernel) (by decide +kernel))) (List.mem_cons_of_mem _ (gT_at 227 (by decide +kernel) (by decide +kernel))) (List.mem_cons_of_mem _ (gT_at 8 (by decide +kernel) (by decide +kernel))) rfl (by decide +kernel) (fun _ => rfl) d_TS_init_66 h12 h13 h14 ?_
  rw [h17, h18]
  have h19 : M15[q16]? = some (.inr (5, [.null, .null, .null, .null, .null])) := by rw [← h17, ← h18]; exact ga_new _ _
  refine g_dup ok d_TS_init_69 rfl ?_
  refine g_aload_n ok d_TS_init_70 rfl (j := 0) rfl ?_
  have h20 : M15[x0]? = some (.inr (9, fs5)) := by rw [← h17]; exact ga_old h9
  have h23 : fs5[0]? = some (.ref f21) := by rw [← h6]; exact (List.getElem?_set_ne (by decide : 4 ≠ 0)).trans h22
  refine gf_TS_12 ok d_TS_init_71 h20 h23 ?_
  refine g_aload_n ok d_TS_init_74 rfl (j := 0) rfl ?_
  have h26 : fs5[3]? = some (.ref f24) := by rw [← h6]; exact (List.getElem?_set_ne (by decide : 4 ≠ 3)).trans h25
  refine gf_TS_30 ok d_TS_init_75 h20 h26 ?_
  exact gc_TS_45 (As := [.ref f21, .ref f24]) (rest := [.ref q16, .ref x0]) ok d_TS_init_78 hm rfl rfl (Nat.le_of_ble_eq_true rfl) hR hL hrs kk
theorem k_TS_init_81 {X : gC} {M : List mC} {k n : Nat} {x0 : Nat} {s1 : Nat} {fs2 : List Value} {fs5 : List Value} {M7 : List mC} {M15 : List mC} {q16 : Nat} (ok : gO X c_TS_init "TripleStore" w_TS_init) (hin : (gM X).name = "<init>") (h1 : M[x0]? = some (.inr (9, fs2))) (h4 : 9 ≤ fs2.length) (h6 : fs2.set 5 (.ref s1) = fs5) (h8 : M.set x0 (.inr (9, fs5)) = M7) (h12 : k + 1 ≤ (gR X).cells) (h13 : n + 4 ≤ (gR X).slots) (h14 : gW M7 [(0, .ref x0)] [.ref x0]) (h17 : M7 ++ [.inr (3, [.null, .null, .int 0, .int 0])] = M15) (h18 : M7.length = q16) {rm : Room} {post : Option Value → List mC → Prop} (hm : mm_ (gLa X) y_Ro_init w_Ro_init rm [.ref q16] M15 post) (hR : gF X rm 1 (k + 1) (n + 4)) (hL : ∀ q ∈ ([(0, .ref x0)] : List (Nat × Value)), mk_v M15.length q.2) (hrs : ∀ v ∈ ([.ref q16, .ref x0] : List Value), mk_v M15.length v) (kk : ∀ r M', post r M' → gg X M' (k + 1 + rm.cells) (n + 4 + rm.slots) 92 [(0, .ref x0)] (r.toList ++ [.ref q16, .ref x0])) : gg X M k n 81 [(0, .ref x0)] [.ref s1, .ref x0] := by
  have h3 : 5 < fs2.length := Nat.lt_of_lt_of_le (by decide) h4
  refine pf_TS_48 ok hin d_TS_init_81 h1 h3 (fun _ => ⟨rfl, rfl⟩) ?_
  rw [h6]
  rw [h8]
  have h9 : M7[x0]? = some (.inr (9, fs5)) := by rw [← h8]; exact gs_eq h1
  have h10 : fs5[5]? = some (.ref s1) := by rw [← h6]; exact List.getElem?_set_self h3
  have h11 : 9 ≤ fs5.length := by rw [← h6, List.length_set]; exact h4
  refine g_aload_n ok d_TS_init_84 rfl (j := 0) rfl ?_
  refine g_new (C := RRo) (T := TRo) (N := 4) (ci := 3) (fs := [.null, .null, .int 0, .int 0]) ok (fun w h => List.mem_cons_of_mem _ (inRo w h)) tyRo okRo (List.mem_cons_of_mem _ (gT_at 262 (by decide +kernel) (by decide +kernel))) (List.mem_cons_of_mem _ (gT_at 263 (by decide +kernel) (by decide +kernel))) (List.mem_cons_of_mem _ (gT_at 10 (by decide +kernel) (by decide +kernel))) rfl (by decide +kernel) (fun _ => rfl) d_TS_init_85 h12 h13 h14 ?_
  rw [h17, h18]
  have h19 : M15[q16]? = some (.inr (3, [.null, .null, .int 0, .int 0])) := by rw [← h17, ← h18]; exact ga_new _ _
  refine g_dup ok d_TS_init_88 rfl ?_
  exact gc_TS_54 (As := []) (rest := [.ref q16, .ref x0]) ok d_TS_init_89 hm rfl rfl (Nat.le_of_ble_eq_true rfl) hR hL hrs kk
theorem k_TS_init_92 {X : gC} {M : List mC} {k n : Nat} {x0 : Nat} {s1 : Nat} {fs2 : List Value} {fs5 : List Value} {M7 : List mC} {fs13 : List Value} {M15 : List mC} {fs22 : List Value} {M24 : List mC} (ok : gO X c_TS_init "TripleStore" w_TS_init) (hin : (gM X).name = "<init>") (h1 : M[x0]? = some (.inr (9, fs2))) (h4 : 9 ≤ fs2.length) (h6 : fs2.set 6 (.ref s1) = fs5) (h8 : M.set x0 (.inr (9, fs5)) = M7) (h14 : fs5.set 7 (.int 0) = fs13) (h16 : M7.set x0 (.inr (9, fs13)) = M15) (h23 : fs13.set 8 (.int (-1)) = fs22) (h25 : M15.set x0 (.inr (9, fs22)) = M24) {l9 : Launch} {rm : Room} {M0 : List mC} {post : Option Value → List mC → Prop} (E : gE X l9 y_TS_init rm 1 none M0 post) (hp : post (none) M24) (hk : k ≤ rm.cells) (hn : n ≤ rm.slots) : gg X M k n 92 [(0, .ref x0)] [.ref s1, .ref x0] := by
  have h3 : 6 < fs2.length := Nat.lt_of_lt_of_le (by decide) h4
  refine pf_TS_55 ok hin d_TS_init_92 h1 h3 (fun _ => ⟨rfl, rfl⟩) ?_
  rw [h6]
  rw [h8]
  have h9 : M7[x0]? = some (.inr (9, fs5)) := by rw [← h8]; exact gs_eq h1
  have h10 : fs5[6]? = some (.ref s1) := by rw [← h6]; exact List.getElem?_set_self h3
  have h11 : 9 ≤ fs5.length := by rw [← h6, List.length_set]; exact h4
  refine g_aload_n ok d_TS_init_95 rfl (j := 0) rfl ?_
  refine g_iconst (v := 0) ok d_TS_init_96 (by decide) ?_
  have h12 : 7 < fs5.length := Nat.lt_of_lt_of_le (by decide) h11
  refine pf_TS_59 ok d_TS_init_97 h9 h12 (fun _ => ⟨rfl, rfl⟩) ?_
  rw [h14]
  rw [h16]
  have h17 : M15[x0]? = some (.inr (9, fs13)) := by rw [← h16]; exact gs_eq h9
  have h18 : fs13[6]? = some (.ref s1) := by rw [← h14]; exact (List.getElem?_set_ne (by decide : 7 ≠ 6)).trans h10
  have h19 : fs13[7]? = some (.int 0) := by rw [← h14]; exact List.getElem?_set_self h12
  have h20 : 9 ≤ fs13.length := by rw [← h14, List.length_set]; exact h11
  refine g_aload_n ok d_TS_init_100 rfl (j := 0) rfl ?_
  refine g_iconst (v := (-1)) ok d_TS_init_101 (by decide) ?_
  have h21 : 8 < fs13.length := Nat.lt_of_lt_of_le (by decide) h20
  refine pf_TS_63 ok d_TS_init_102 h17 h21 (fun _ => ⟨rfl, rfl⟩) ?_
  rw [h23]
  rw [h25]
  have h26 : M24[x0]? = some (.inr (9, fs22)) := by rw [← h25]; exact gs_eq h17
  have h27 : fs22[6]? = some (.ref s1) := by rw [← h23]; exact (List.getElem?_set_ne (by decide : 8 ≠ 6)).trans h18
  have h28 : fs22[7]? = some (.int 0) := by rw [← h23]; exact (List.getElem?_set_ne (by decide : 8 ≠ 7)).trans h19
  have h29 : fs22[8]? = some (.int (-1)) := by rw [← h23]; exact List.getElem?_set_self h21
  have h30 : 9 ≤ fs22.length := by rw [← h23, List.length_set]; exact h20
  exact g_vret ok E d_TS_init_105 hp hk hn
theorem k_TS_add_0 {X : gC} {M : List mC} {k n : Nat} {x0 : Nat} {x1 : Int64} {x3 : Int64} {x5 : Int64} (ok : gO X c_TS_add "TripleStore" w_TS_add)  {rm : Room} {post : Option Value → List mC → Prop} (hm : mm_ (gLa X) y_Te_isTriple w_Te_isTriple rm [.long x1, .long x3, .long x5] M post) (hR : gF X rm 6 k n) (hlen : ∀ r M', post r M' → M'.length = M.length) (kk : ∀ r M', post r M' → gg X M' (k + rm.cells) (n + rm.slots) 7 [(0, .ref x0), (1, .long x1), (3, .long x3), (5, .long x5)] (r.toList ++ [])) : gg X M k n 0 [(0, .ref x0), (1, .long x1), (3, .long x3), (5, .long x5)] [] := by
  refine g_lload_n ok d_TS_add_0 rfl (j := 1) rfl ?_
  refine g_lload_n ok d_TS_add_1 rfl (j := 2) rfl ?_
  refine g_lload ok d_TS_add_2 (j := 3) rfl ?_
  exact gc_TS_66 (As := [.long x1, .long x3, .long x5]) (rest := []) ok d_TS_add_4 hm rfl rfl (Nat.le_of_ble_eq_true rfl) hR hlen kk
theorem k_TS_add_7 {X : gC} {M : List mC} {k n : Nat} {x0 : Nat} {x1 : Int64} {x3 : Int64} {x5 : Int64} {s0 : Int32} (ok : gO X c_TS_add "TripleStore" w_TS_add)  (kt : ¬ s0 = 0 → gg X M k n 20 [(0, .ref x0), (1, .long x1), (3, .long x3), (5, .long x5)] []) (kf : s0 = 0 → gg X M k n 10 [] []) : gg X M k n 7 [(0, .ref x0), (1, .long x1), (3, .long x3), (5, .long x5)] [.int s0] := by
  exact g_if_ne (tgt := 20) ok d_TS_add_7 (by decide) (fun z => (kt z)) (fun z => (gg_keep [] (kf z)))
theorem k_TS_add_20 {X : gC} {M : List mC} {k n : Nat} {x0 : Nat} {x1 : Int64} {x3 : Int64} {x5 : Int64} (ok : gO X c_TS_add "TripleStore" w_TS_add)  {rm : Room} {post : Option Value → List mC → Prop} (hm : mm_ (gLa X) y_Te_held w_Te_held rm [.long x1] M post) (hR : gF X rm 5 k n) (hlen : ∀ r M', post r M' → M'.length = M.length) (kk : ∀ r M', post r M' → gg X M' (k + rm.cells) (n + rm.slots) 24 [(0, .ref x0), (3, .long x3), (5, .long x5)] (r.toList ++ [])) : gg X M k n 20 [(0, .ref x0), (1, .long x1), (3, .long x3), (5, .long x5)] [] := by
  refine g_lload_n ok d_TS_add_20 rfl (j := 1) rfl ?_
  exact gc_TS_79 (As := [.long x1]) (rest := []) ok d_TS_add_21 hm rfl rfl (Nat.le_of_ble_eq_true rfl) hR hlen (fun r M' q => (gg_keep [0, 3, 5] (kk r M' q)))
theorem k_TS_add_24 {X : gC} {M : List mC} {k n : Nat} {x0 : Nat} {x3 : Int64} {x5 : Int64} {s0 : Int64} (ok : gO X c_TS_add "TripleStore" w_TS_add) (hl : gL X = 13)  {rm : Room} {post : Option Value → List mC → Prop} (hm : mm_ (gLa X) y_Te_held w_Te_held rm [.long x3] M post) (hR : gF X rm 5 k n) (hlen : ∀ r M', post r M' → M'.length = M.length) (kk : ∀ r M', post r M' → gg X M' (k + rm.cells) (n + rm.slots) 30 [(0, .ref x0), (5, .long x5), (7, .long s0)] (r.toList ++ [])) : gg X M k n 24 [(0, .ref x0), (3, .long x3), (5, .long x5)] [.long s0] := by
  refine g_lstore (L' := [(0, .ref x0), (3, .long x3), (5, .long x5), (7, .long s0)]) ok d_TS_add_24 (by rw [hl]; decide) rfl ?_
  refine g_lload_n ok d_TS_add_26 rfl (j := 1) rfl ?_
  exact gc_TS_79 (As := [.long x3]) (rest := []) ok d_TS_add_27 hm rfl rfl (Nat.le_of_ble_eq_true rfl) hR hlen (fun r M' q => (gg_keep [0, 5, 7] (kk r M' q)))
theorem k_TS_add_30 {X : gC} {M : List mC} {k n : Nat} {x0 : Nat} {x5 : Int64} {x7 : Int64} {s0 : Int64} (ok : gO X c_TS_add "TripleStore" w_TS_add) (hl : gL X = 13)  {rm : Room} {post : Option Value → List mC → Prop} (hm : mm_ (gLa X) y_Te_held w_Te_held rm [.long x5] M post) (hR : gF X rm 5 k n) (hlen : ∀ r M', post r M' → M'.length = M.length) (kk : ∀ r M', post r M' → gg X M' (k + rm.cells) (n + rm.slots) 37 [(0, .ref x0), (7, .long x7), (9, .long s0)] (r.toList ++ [])) : gg X M k n 30 [(0, .ref x0), (5, .long x5), (7, .long x7)] [.long s0] := by
  refine g_lstore (L' := [(0, .ref x0), (5, .long x5), (7, .long x7), (9, .long s0)]) ok d_TS_add_30 (by rw [hl]; decide) rfl ?_
  refine g_lload ok d_TS_add_32 (j := 1) rfl ?_
  exact gc_TS_79 (As := [.long x5]) (rest := []) ok d_TS_add_34 hm rfl rfl (Nat.le_of_ble_eq_true rfl) hR hlen (fun r M' q => (gg_keep [0, 7, 9] (kk r M' q)))
theorem k_TS_add_37 {X : gC} {M : List mC} {k n : Nat} {x0 : Nat} {x7 : Int64} {x9 : Int64} {s0 : Int64} {fs2 : List Value} {f3 : Nat} {fs6 : List Value} (ok : gO X c_TS_add "TripleStore" w_TS_add) (hl : gL X = 13) (h1 : M[x0]? = some (.inr (9, fs2))) (h4 : fs2[0]? = some (.ref f3)) (h5 : M[f3]? = some (.inr (6, fs6))) {rm : Room} {post : Option Value → List mC → Prop} (hm : mm_ (gLa X) y_St_has w_St_has rm [.ref f3, .long x7, .long x9, .long s0] M post) (hR : gF X rm 7 k n) (hlen : ∀ r M', post r M' → M'.length = M.length) (kk : ∀ r M', post r M' → gg X M' (k + rm.cells) (n + rm.slots) 52 [(0, .ref x0), (7, .long x7), (9, .long x9), (11, .long s0)] (r.toList ++ [])) : gg X M k n 37 [(0, .ref x0), (7, .long x7), (9, .long x9)] [.long s0] := by
  refine g_lstore (L' := [(0, .ref x0), (7, .long x7), (9, .long x9), (11, .long s0)]) ok d_TS_add_37 (by rw [hl]; decide) rfl ?_
  refine g_aload_n ok d_TS_add_39 rfl (j := 0) rfl ?_
  refine gf_TS_12 ok d_TS_add_40 h1 h4 ?_
  refine g_lload ok d_TS_add_43 (j := 1) rfl ?_
  refine g_lload ok d_TS_add_45 (j := 2) rfl ?_
  refine g_lload ok d_TS_add_47 (j := 3) rfl ?_
  exact gc_TS_83 (As := [.long x7, .long x9, .long s0]) (rest := []) ok d_TS_add_49 hm rfl rfl (Nat.le_of_ble_eq_true rfl) hR h5 hlen kk
theorem k_TS_add_52 {X : gC} {M : List mC} {k n : Nat} {x0 : Nat} {x7 : Int64} {x9 : Int64} {x11 : Int64} {s0 : Int32} (ok : gO X c_TS_add "TripleStore" w_TS_add)  (kt : s0 = 0 → gg X M k n 57 [(0, .ref x0), (7, .long x7), (9, .long x9), (11, .long x11)] []) (kf : ¬ s0 = 0 → gg X M k n 55 [] []) : gg X M k n 52 [(0, .ref x0), (7, .long x7), (9, .long x9), (11, .long x11)] [.int s0] := by
  exact g_if_eq (tgt := 57) ok d_TS_add_52 (by decide) (fun z => (kt z)) (fun z => (gg_keep [] (kf z)))
theorem k_TS_add_55 {X : gC} {M : List mC} {k n : Nat}  (ok : gO X c_TS_add "TripleStore" w_TS_add)  {l9 : Launch} {rm : Room} {M0 : List mC} {post : Option Value → List mC → Prop} (E : gE X l9 y_TS_add rm 13 (some .int) M0 post) (hp : post (some (.int 0)) M) (hk : k ≤ rm.cells) (hn : n ≤ rm.slots) : gg X M k n 55 [] [] := by
  refine g_iconst (v := 0) ok d_TS_add_55 (by decide) ?_
  exact g_iret ok E d_TS_add_56 hp hk hn
theorem k_TS_add_57 {X : gC} {M : List mC} {k n : Nat} {x0 : Nat} {x7 : Int64} {x9 : Int64} {x11 : Int64} {fs2 : List Value} {f3 : Nat} {fs6 : List Value} (ok : gO X c_TS_add "TripleStore" w_TS_add) (h1 : M[x0]? = some (.inr (9, fs2))) (h4 : fs2[0]? = some (.ref f3)) (h5 : M[f3]? = some (.inr (6, fs6))) {rm : Room} {post : Option Value → List mC → Prop} (hm : mm_ (gLa X) y_St_size w_St_size rm [.ref f3] M post) (hR : gF X rm 1 k n) (hlen : ∀ r M', post r M' → M'.length = M.length) (kk : ∀ r M', post r M' → gg X M' (k + rm.cells) (n + rm.slots) 64 [(0, .ref x0), (7, .long x7), (9, .long x9), (11, .long x11)] (r.toList ++ [])) : gg X M k n 57 [(0, .ref x0), (7, .long x7), (9, .long x9), (11, .long x11)] [] := by
  refine g_aload_n ok d_TS_add_57 rfl (j := 0) rfl ?_
  refine gf_TS_12 ok d_TS_add_58 h1 h4 ?_
  exact gc_TS_86 (As := []) (rest := []) ok d_TS_add_61 hm rfl rfl (Nat.le_of_ble_eq_true rfl) hR h5 hlen kk
theorem k_TS_add_64 {X : gC} {M : List mC} {k n : Nat} {x0 : Nat} {x7 : Int64} {x9 : Int64} {x11 : Int64} {s0 : Int32} (ok : gO X c_TS_add "TripleStore" w_TS_add)  (kt : s0 < 48 → gg X M k n 79 [(0, .ref x0), (7, .long x7), (9, .long x9), (11, .long x11)] []) (kf : ¬ s0 < 48 → gg X M k n 69 [] []) : gg X M k n 64 [(0, .ref x0), (7, .long x7), (9, .long x9), (11, .long x11)] [.int s0] := by
  refine g_bipush (v := 48) ok d_TS_add_64 (by decide) ?_
  exact g_icmp_lt (tgt := 79) ok d_TS_add_66 (by decide) (fun z => (kt z)) (fun z => (gg_keep [] (kf z)))
theorem k_TS_add_79 {X : gC} {M : List mC} {k n : Nat} {x0 : Nat} {x7 : Int64} {x9 : Int64} {x11 : Int64} {fs2 : List Value} {f3 : Nat} {fs6 : List Value} (ok : gO X c_TS_add "TripleStore" w_TS_add) (h1 : M[x0]? = some (.inr (9, fs2))) (h4 : fs2[0]? = some (.ref f3)) (h5 : M[f3]? = some (.inr (6, fs6))) {rm : Room} {post : Option Value → List mC → Prop} (hm : mm_ (gLa X) y_St_insert w_St_insert rm [.ref f3, .long x7, .long x9, .long x11] M post) (hR : gF X rm 7 k n) (hlen : ∀ r M', post r M' → M'.length = M.length) (kk : ∀ r M', post r M' → gg X M' (k + rm.cells) (n + rm.slots) 92 [] (r.toList ++ [])) : gg X M k n 79 [(0, .ref x0), (7, .long x7), (9, .long x9), (11, .long x11)] [] := by
  refine g_aload_n ok d_TS_add_79 rfl (j := 0) rfl ?_
  refine gf_TS_12 ok d_TS_add_80 h1 h4 ?_
  refine g_lload ok d_TS_add_83 (j := 1) rfl ?_
  refine g_lload ok d_TS_add_85 (j := 2) rfl ?_
  refine g_lload ok d_TS_add_87 (j := 3) rfl ?_
  exact gc_TS_95 (As := [.long x7, .long x9, .long x11]) (rest := []) ok d_TS_add_89 hm rfl rfl (Nat.le_of_ble_eq_true rfl) hR h5 hlen (fun r M' q => (gg_keep [] (kk r M' q)))
theorem k_TS_add_92 {X : gC} {M : List mC} {k n : Nat} {s0 : Int32} (ok : gO X c_TS_add "TripleStore" w_TS_add)  {l9 : Launch} {rm : Room} {M0 : List mC} {post : Option Value → List mC → Prop} (E : gE X l9 y_TS_add rm 13 (some .int) M0 post) (hp : post (some (.int s0)) M) (hk : k ≤ rm.cells) (hn : n ≤ rm.slots) : gg X M k n 92 [] [.int s0] := by
  exact g_iret ok E d_TS_add_92 hp hk hn
theorem k_TS_remove_0 {X : gC} {M : List mC} {k n : Nat} {x0 : Nat} {x1 : Int64} {x3 : Int64} {x5 : Int64} (ok : gO X c_TS_remove "TripleStore" w_TS_remove)  {rm : Room} {post : Option Value → List mC → Prop} (hm : mm_ (gLa X) y_Te_isTriple w_Te_isTriple rm [.long x1, .long x3, .long x5] M post) (hR : gF X rm 6 k n) (hlen : ∀ r M', post r M' → M'.length = M.length) (kk : ∀ r M', post r M' → gg X M' (k + rm.cells) (n + rm.slots) 7 [(0, .ref x0), (1, .long x1), (3, .long x3), (5, .long x5)] (r.toList ++ [])) : gg X M k n 0 [(0, .ref x0), (1, .long x1), (3, .long x3), (5, .long x5)] [] := by
  refine g_lload_n ok d_TS_remove_0 rfl (j := 1) rfl ?_
  refine g_lload_n ok d_TS_remove_1 rfl (j := 2) rfl ?_
  refine g_lload ok d_TS_remove_2 (j := 3) rfl ?_
  exact gc_TS_66 (As := [.long x1, .long x3, .long x5]) (rest := []) ok d_TS_remove_4 hm rfl rfl (Nat.le_of_ble_eq_true rfl) hR hlen kk
theorem k_TS_remove_7 {X : gC} {M : List mC} {k n : Nat} {x0 : Nat} {x1 : Int64} {x3 : Int64} {x5 : Int64} {s0 : Int32} (ok : gO X c_TS_remove "TripleStore" w_TS_remove)  (kt : ¬ s0 = 0 → gg X M k n 20 [(0, .ref x0), (1, .long x1), (3, .long x3), (5, .long x5)] []) (kf : s0 = 0 → gg X M k n 10 [] []) : gg X M k n 7 [(0, .ref x0), (1, .long x1), (3, .long x3), (5, .long x5)] [.int s0] := by
  exact g_if_ne (tgt := 20) ok d_TS_remove_7 (by decide) (fun z => (kt z)) (fun z => (gg_keep [] (kf z)))
theorem k_TS_remove_20 {X : gC} {M : List mC} {k n : Nat} {x0 : Nat} {x1 : Int64} {x3 : Int64} {x5 : Int64} {fs2 : List Value} {f3 : Nat} (ok : gO X c_TS_remove "TripleStore" w_TS_remove) (h1 : M[x0]? = some (.inr (9, fs2))) (h4 : fs2[0]? = some (.ref f3)) {rm : Room} {post : Option Value → List mC → Prop} (hm : mm_ (gLa X) y_Te_held w_Te_held rm [.long x1] M post) (hR : gF X rm 5 k n) (hlen : ∀ r M', post r M' → M'.length = M.length) (kk : ∀ r M', post r M' → gg X M' (k + rm.cells) (n + rm.slots) 28 [(3, .long x3), (5, .long x5)] (r.toList ++ [.ref f3])) : gg X M k n 20 [(0, .ref x0), (1, .long x1), (3, .long x3), (5, .long x5)] [] := by
  refine g_aload_n ok d_TS_remove_20 rfl (j := 0) rfl ?_
  refine gf_TS_12 ok d_TS_remove_21 h1 h4 ?_
  refine g_lload_n ok d_TS_remove_24 rfl (j := 1) rfl ?_
  exact gc_TS_79 (As := [.long x1]) (rest := [.ref f3]) ok d_TS_remove_25 hm rfl rfl (Nat.le_of_ble_eq_true rfl) hR hlen (fun r M' q => (gg_keep [3, 5] (kk r M' q)))
theorem k_TS_remove_28 {X : gC} {M : List mC} {k n : Nat} {x3 : Int64} {x5 : Int64} {s0 : Nat} {s1 : Int64} (ok : gO X c_TS_remove "TripleStore" w_TS_remove)  {rm : Room} {post : Option Value → List mC → Prop} (hm : mm_ (gLa X) y_Te_held w_Te_held rm [.long x3] M post) (hR : gF X rm 5 k n) (hlen : ∀ r M', post r M' → M'.length = M.length) (kk : ∀ r M', post r M' → gg X M' (k + rm.cells) (n + rm.slots) 32 [(5, .long x5)] (r.toList ++ [.long s1, .ref s0])) : gg X M k n 28 [(3, .long x3), (5, .long x5)] [.long s1, .ref s0] := by
  refine g_lload_n ok d_TS_remove_28 rfl (j := 0) rfl ?_
  exact gc_TS_79 (As := [.long x3]) (rest := [.long s1, .ref s0]) ok d_TS_remove_29 hm rfl rfl (Nat.le_of_ble_eq_true rfl) hR hlen (fun r M' q => (gg_keep [5] (kk r M' q)))
theorem k_TS_remove_32 {X : gC} {M : List mC} {k n : Nat} {x5 : Int64} {s0 : Nat} {s1 : Int64} {s2 : Int64} (ok : gO X c_TS_remove "TripleStore" w_TS_remove)  {rm : Room} {post : Option Value → List mC → Prop} (hm : mm_ (gLa X) y_Te_held w_Te_held rm [.long x5] M post) (hR : gF X rm 5 k n) (hlen : ∀ r M', post r M' → M'.length = M.length) (kk : ∀ r M', post r M' → gg X M' (k + rm.cells) (n + rm.slots) 37 [] (r.toList ++ [.long s2, .long s1, .ref s0])) : gg X M k n 32 [(5, .long x5)] [.long s2, .long s1, .ref s0] := by
  refine g_lload ok d_TS_remove_32 (j := 0) rfl ?_
  exact gc_TS_79 (As := [.long x5]) (rest := [.long s2, .long s1, .ref s0]) ok d_TS_remove_34 hm rfl rfl (Nat.le_of_ble_eq_true rfl) hR hlen (fun r M' q => (gg_keep [] (kk r M' q)))
theorem k_TS_remove_37 {X : gC} {M : List mC} {k n : Nat} {s0 : Nat} {s1 : Int64} {s2 : Int64} {s3 : Int64} {fs2 : List Value} (ok : gO X c_TS_remove "TripleStore" w_TS_remove) (h1 : M[s0]? = some (.inr (6, fs2))) {rm : Room} {post : Option Value → List mC → Prop} (hm : mm_ (gLa X) y_St_delete w_St_delete rm [.ref s0, .long s1, .long s2, .long s3] M post) (hR : gF X rm 8 k n) (hlen : ∀ r M', post r M' → M'.length = M.length) (kk : ∀ r M', post r M' → gg X M' (k + rm.cells) (n + rm.slots) 40 [] (r.toList ++ [])) : gg X M k n 37 [] [.long s3, .long s2, .long s1, .ref s0] := by
  exact gc_TS_99 (As := [.long s1, .long s2, .long s3]) (rest := []) ok d_TS_remove_37 hm rfl rfl (Nat.le_of_ble_eq_true rfl) hR h1 hlen kk
theorem k_TS_remove_40 {X : gC} {M : List mC} {k n : Nat} {s0 : Int32} (ok : gO X c_TS_remove "TripleStore" w_TS_remove)  {l9 : Launch} {rm : Room} {M0 : List mC} {post : Option Value → List mC → Prop} (E : gE X l9 y_TS_remove rm 7 (some .int) M0 post) (hp : post (some (.int s0)) M) (hk : k ≤ rm.cells) (hn : n ≤ rm.slots) : gg X M k n 40 [] [.int s0] := by
  exact g_iret ok E d_TS_remove_40 hp hk hn
theorem k_TS_begin_0 {X : gC} {M : List mC} {k n : Nat} {x0 : Nat} {fs2 : List Value} {f3 : Nat} {fs6 : List Value} (ok : gO X c_TS_begin "TripleStore" w_TS_begin) (h1 : M[x0]? = some (.inr (9, fs2))) (h4 : fs2[0]? = some (.ref f3)) (h5 : M[f3]? = some (.inr (6, fs6))) {rm : Room} {post : Option Value → List mC → Prop} (hm : mm_ (gLa X) y_St_isOpen w_St_isOpen rm [.ref f3] M post) (hR : gF X rm 1 k n) (hlen : ∀ r M', post r M' → M'.length = M.length) (kk : ∀ r M', post r M' → gg X M' (k + rm.cells) (n + rm.slots) 7 [(0, .ref x0)] (r.toList ++ [])) : gg X M k n 0 [(0, .ref x0)] [] := by
  refine g_aload_n ok d_TS_begin_0 rfl (j := 0) rfl ?_
  refine gf_TS_12 ok d_TS_begin_1 h1 h4 ?_
  exact gc_TS_102 (As := []) (rest := []) ok d_TS_begin_4 hm rfl rfl (Nat.le_of_ble_eq_true rfl) hR h5 hlen kk
theorem k_TS_begin_7 {X : gC} {M : List mC} {k n : Nat} {x0 : Nat} {s0 : Int32} (ok : gO X c_TS_begin "TripleStore" w_TS_begin)  (kt : s0 = 0 → gg X M k n 20 [(0, .ref x0)] []) (kf : ¬ s0 = 0 → gg X M k n 10 [] []) : gg X M k n 7 [(0, .ref x0)] [.int s0] := by
  exact g_if_eq (tgt := 20) ok d_TS_begin_7 (by decide) (fun z => (kt z)) (fun z => (gg_keep [] (kf z)))
theorem k_TS_begin_20 {X : gC} {M : List mC} {k n : Nat} {x0 : Nat} {fs2 : List Value} {f3 : Nat} {fs6 : List Value} (ok : gO X c_TS_begin "TripleStore" w_TS_begin) (h1 : M[x0]? = some (.inr (9, fs2))) (h4 : fs2[0]? = some (.ref f3)) (h5 : M[f3]? = some (.inr (6, fs6))) {rm : Room} {post : Option Value → List mC → Prop} (hm : mm_ (gLa X) y_St_openTransaction w_St_openTransaction rm [.ref f3] M post) (hR : gF X rm 1 k n) (hlen : ∀ r M', post r M' → M'.length = M.length) (kk : ∀ r M', post r M' → gg X M' (k + rm.cells) (n + rm.slots) 27 [] (r.toList ++ [])) : gg X M k n 20 [(0, .ref x0)] [] := by
  refine g_aload_n ok d_TS_begin_20 rfl (j := 0) rfl ?_
  refine gf_TS_12 ok d_TS_begin_21 h1 h4 ?_
  exact gc_TS_108 (As := []) (rest := []) ok d_TS_begin_24 hm rfl rfl (Nat.le_of_ble_eq_true rfl) hR h5 hlen (fun r M' q => (gg_keep [] (kk r M' q)))
theorem k_TS_begin_27 {X : gC} {M : List mC} {k n : Nat} {s0 : Int32} (ok : gO X c_TS_begin "TripleStore" w_TS_begin)  {l9 : Launch} {rm : Room} {M0 : List mC} {post : Option Value → List mC → Prop} (E : gE X l9 y_TS_begin rm 1 (some .int) M0 post) (hp : post (some (.int s0)) M) (hk : k ≤ rm.cells) (hn : n ≤ rm.slots) : gg X M k n 27 [] [.int s0] := by
  exact g_iret ok E d_TS_begin_27 hp hk hn
theorem k_TS_commit_0 {X : gC} {M : List mC} {k n : Nat} {x0 : Nat} {fs2 : List Value} {f3 : Nat} {fs6 : List Value} (ok : gO X c_TS_commit "TripleStore" w_TS_commit) (h1 : M[x0]? = some (.inr (9, fs2))) (h4 : fs2[0]? = some (.ref f3)) (h5 : M[f3]? = some (.inr (6, fs6))) {rm : Room} {post : Option Value → List mC → Prop} (hm : mm_ (gLa X) y_St_isOpen w_St_isOpen rm [.ref f3] M post) (hR : gF X rm 1 k n) (hlen : ∀ r M', post r M' → M'.length = M.length) (kk : ∀ r M', post r M' → gg X M' (k + rm.cells) (n + rm.slots) 7 [(0, .ref x0)] (r.toList ++ [])) : gg X M k n 0 [(0, .ref x0)] [] := by
  refine g_aload_n ok d_TS_commit_0 rfl (j := 0) rfl ?_
  refine gf_TS_12 ok d_TS_commit_1 h1 h4 ?_
  exact gc_TS_102 (As := []) (rest := []) ok d_TS_commit_4 hm rfl rfl (Nat.le_of_ble_eq_true rfl) hR h5 hlen kk
theorem k_TS_commit_7 {X : gC} {M : List mC} {k n : Nat} {x0 : Nat} {s0 : Int32} (ok : gO X c_TS_commit "TripleStore" w_TS_commit)  (kt : ¬ s0 = 0 → gg X M k n 20 [(0, .ref x0)] []) (kf : s0 = 0 → gg X M k n 10 [] []) : gg X M k n 7 [(0, .ref x0)] [.int s0] := by
  exact g_if_ne (tgt := 20) ok d_TS_commit_7 (by decide) (fun z => (kt z)) (fun z => (gg_keep [] (kf z)))
theorem k_TS_commit_20 {X : gC} {M : List mC} {k n : Nat} {x0 : Nat} {fs2 : List Value} {f3 : Nat} {fs6 : List Value} (ok : gO X c_TS_commit "TripleStore" w_TS_commit) (h1 : M[x0]? = some (.inr (9, fs2))) (h4 : fs2[0]? = some (.ref f3)) (h5 : M[f3]? = some (.inr (6, fs6))) {rm : Room} {post : Option Value → List mC → Prop} (hm : mm_ (gLa X) y_St_commitOpen w_St_commitOpen rm [.ref f3] M post) (hR : gF X rm 2 k n) (hlen : ∀ r M', post r M' → M'.length = M.length) (kk : ∀ r M', post r M' → gg X M' (k + rm.cells) (n + rm.slots) 27 [] (r.toList ++ [])) : gg X M k n 20 [(0, .ref x0)] [] := by
  refine g_aload_n ok d_TS_commit_20 rfl (j := 0) rfl ?_
  refine gf_TS_12 ok d_TS_commit_21 h1 h4 ?_
  exact gc_TS_113 (As := []) (rest := []) ok d_TS_commit_24 hm rfl rfl (Nat.le_of_ble_eq_true rfl) hR h5 hlen (fun r M' q => (gg_keep [] (kk r M' q)))
theorem k_TS_commit_27 {X : gC} {M : List mC} {k n : Nat} {s0 : Int32} (ok : gO X c_TS_commit "TripleStore" w_TS_commit)  {l9 : Launch} {rm : Room} {M0 : List mC} {post : Option Value → List mC → Prop} (E : gE X l9 y_TS_commit rm 1 (some .int) M0 post) (hp : post (some (.int s0)) M) (hk : k ≤ rm.cells) (hn : n ≤ rm.slots) : gg X M k n 27 [] [.int s0] := by
  exact g_iret ok E d_TS_commit_27 hp hk hn
theorem k_TS_rollback_0 {X : gC} {M : List mC} {k n : Nat} {x0 : Nat} {fs2 : List Value} {f3 : Nat} {fs6 : List Value} (ok : gO X c_TS_rollback "TripleStore" w_TS_rollback) (h1 : M[x0]? = some (.inr (9, fs2))) (h4 : fs2[0]? = some (.ref f3)) (h5 : M[f3]? = some (.inr (6, fs6))) {rm : Room} {post : Option Value → List mC → Prop} (hm : mm_ (gLa X) y_St_isOpen w_St_isOpen rm [.ref f3] M post) (hR : gF X rm 1 k n) (hlen : ∀ r M', post r M' → M'.length = M.length) (kk : ∀ r M', post r M' → gg X M' (k + rm.cells) (n + rm.slots) 7 [(0, .ref x0)] (r.toList ++ [])) : gg X M k n 0 [(0, .ref x0)] [] := by
  refine g_aload_n ok d_TS_rollback_0 rfl (j := 0) rfl ?_
  refine gf_TS_12 ok d_TS_rollback_1 h1 h4 ?_
  exact gc_TS_102 (As := []) (rest := []) ok d_TS_rollback_4 hm rfl rfl (Nat.le_of_ble_eq_true rfl) hR h5 hlen kk
theorem k_TS_rollback_7 {X : gC} {M : List mC} {k n : Nat} {x0 : Nat} {s0 : Int32} (ok : gO X c_TS_rollback "TripleStore" w_TS_rollback)  (kt : ¬ s0 = 0 → gg X M k n 20 [(0, .ref x0)] []) (kf : s0 = 0 → gg X M k n 10 [] []) : gg X M k n 7 [(0, .ref x0)] [.int s0] := by
  exact g_if_ne (tgt := 20) ok d_TS_rollback_7 (by decide) (fun z => (kt z)) (fun z => (gg_keep [] (kf z)))
theorem k_TS_rollback_20 {X : gC} {M : List mC} {k n : Nat} {x0 : Nat} {fs2 : List Value} {f3 : Nat} {fs6 : List Value} (ok : gO X c_TS_rollback "TripleStore" w_TS_rollback) (h1 : M[x0]? = some (.inr (9, fs2))) (h4 : fs2[0]? = some (.ref f3)) (h5 : M[f3]? = some (.inr (6, fs6))) {rm : Room} {post : Option Value → List mC → Prop} (hm : mm_ (gLa X) y_St_undoOpen w_St_undoOpen rm [.ref f3] M post) (hR : gF X rm 2 k n) (hlen : ∀ r M', post r M' → M'.length = M.length) (kk : ∀ r M', post r M' → gg X M' (k + rm.cells) (n + rm.slots) 27 [] (r.toList ++ [])) : gg X M k n 20 [(0, .ref x0)] [] := by
  refine g_aload_n ok d_TS_rollback_20 rfl (j := 0) rfl ?_
  refine gf_TS_12 ok d_TS_rollback_21 h1 h4 ?_
  exact gc_TS_116 (As := []) (rest := []) ok d_TS_rollback_24 hm rfl rfl (Nat.le_of_ble_eq_true rfl) hR h5 hlen (fun r M' q => (gg_keep [] (kk r M' q)))
theorem k_TS_rollback_27 {X : gC} {M : List mC} {k n : Nat} {s0 : Int32} (ok : gO X c_TS_rollback "TripleStore" w_TS_rollback)  {l9 : Launch} {rm : Room} {M0 : List mC} {post : Option Value → List mC → Prop} (E : gE X l9 y_TS_rollback rm 1 (some .int) M0 post) (hp : post (some (.int s0)) M) (hk : k ≤ rm.cells) (hn : n ≤ rm.slots) : gg X M k n 27 [] [.int s0] := by
  exact g_iret ok E d_TS_rollback_27 hp hk hn
theorem k_TS_sync_0 {X : gC} {M : List mC} {k n : Nat} {x0 : Nat} {fs2 : List Value} {f3 : Nat} {fs6 : List Value} (ok : gO X c_TS_sync "TripleStore" w_TS_sync) (h1 : M[x0]? = some (.inr (9, fs2))) (h4 : fs2[0]? = some (.ref f3)) (h5 : M[f3]? = some (.inr (6, fs6))) {rm : Room} {post : Option Value → List mC → Prop} (hm : mm_ (gLa X) y_St_syncAll w_St_syncAll rm [.ref f3] M post) (hR : gF X rm 2 k n) (hlen : ∀ r M', post r M' → M'.length = M.length) (kk : ∀ r M', post r M' → gg X M' (k + rm.cells) (n + rm.slots) 7 [] (r.toList ++ [])) : gg X M k n 0 [(0, .ref x0)] [] := by
  refine g_aload_n ok d_TS_sync_0 rfl (j := 0) rfl ?_
  refine gf_TS_12 ok d_TS_sync_1 h1 h4 ?_
  exact gc_TS_119 (As := []) (rest := []) ok d_TS_sync_4 hm rfl rfl (Nat.le_of_ble_eq_true rfl) hR h5 hlen (fun r M' q => (gg_keep [] (kk r M' q)))
theorem k_TS_sync_7 {X : gC} {M : List mC} {k n : Nat} {s0 : Int32} (ok : gO X c_TS_sync "TripleStore" w_TS_sync)  {l9 : Launch} {rm : Room} {M0 : List mC} {post : Option Value → List mC → Prop} (E : gE X l9 y_TS_sync rm 1 (some .int) M0 post) (hp : post (some (.int s0)) M) (hk : k ≤ rm.cells) (hn : n ≤ rm.slots) : gg X M k n 7 [] [.int s0] := by
  exact g_iret ok E d_TS_sync_7 hp hk hn
theorem k_TS_crash_0 {X : gC} {M : List mC} {k n : Nat} {x0 : Nat} {x1 : Int32} (ok : gO X c_TS_crash "TripleStore" w_TS_crash)  (kt : x1 < 0 → gg X M k n 11 [] []) (kf : ¬ x1 < 0 → gg X M k n 4 [(0, .ref x0), (1, .int x1)] []) : gg X M k n 0 [(0, .ref x0), (1, .int x1)] [] := by
  refine g_iload_n ok d_TS_crash_0 rfl (j := 1) rfl ?_
  exact g_if_lt (tgt := 11) ok d_TS_crash_1 (by decide) (fun z => (gg_keep [] (kt z))) (fun z => (kf z))
theorem k_TS_crash_4 {X : gC} {M : List mC} {k n : Nat} {x0 : Nat} {x1 : Int32} (ok : gO X c_TS_crash "TripleStore" w_TS_crash)  (kt : x1 ≤ 1000 → gg X M k n 21 [(0, .ref x0), (1, .int x1)] []) (kf : ¬ x1 ≤ 1000 → gg X M k n 11 [] []) : gg X M k n 4 [(0, .ref x0), (1, .int x1)] [] := by
  refine g_iload_n ok d_TS_crash_4 rfl (j := 1) rfl ?_
  refine g_sipush (v := 1000) ok d_TS_crash_5 (by decide) ?_
  exact g_icmp_le (tgt := 21) ok d_TS_crash_8 (by decide) (fun z => (kt z)) (fun z => (gg_keep [] (kf z)))
theorem k_TS_crash_21 {X : gC} {M : List mC} {k n : Nat} {x0 : Nat} {x1 : Int32} {fs2 : List Value} {f3 : Nat} {fs6 : List Value} (ok : gO X c_TS_crash "TripleStore" w_TS_crash) (h1 : M[x0]? = some (.inr (9, fs2))) (h4 : fs2[0]? = some (.ref f3)) (h5 : M[f3]? = some (.inr (6, fs6))) {rm : Room} {post : Option Value → List mC → Prop} (hm : mm_ (gLa X) y_St_loseBut w_St_loseBut rm [.ref f3, .int x1] M post) (hR : gF X rm 2 k n) (hlen : ∀ r M', post r M' → M'.length = M.length) (kk : ∀ r M', post r M' → gg X M' (k + rm.cells) (n + rm.slots) 29 [(0, .ref x0)] (r.toList ++ [])) : gg X M k n 21 [(0, .ref x0), (1, .int x1)] [] := by
  refine g_aload_n ok d_TS_crash_21 rfl (j := 0) rfl ?_
  refine gf_TS_12 ok d_TS_crash_22 h1 h4 ?_
  refine g_iload_n ok d_TS_crash_25 rfl (j := 1) rfl ?_
  exact gc_TS_124 (As := [.int x1]) (rest := []) ok d_TS_crash_26 hm rfl rfl (Nat.le_of_ble_eq_true rfl) hR h5 hlen (fun r M' q => (gg_keep [0] (kk r M' q)))
theorem k_TS_crash_29 {X : gC} {M : List mC} {k n : Nat} {x0 : Nat} {fs2 : List Value} {f3 : Nat} {fs6 : List Value} (ok : gO X c_TS_crash "TripleStore" w_TS_crash) (h1 : M[x0]? = some (.inr (9, fs2))) (h4 : fs2[0]? = some (.ref f3)) (h5 : M[f3]? = some (.inr (6, fs6))) {rm : Room} {post : Option Value → List mC → Prop} (hm : mm_ (gLa X) y_St_size w_St_size rm [.ref f3] M post) (hR : gF X rm 1 k n) (hlen : ∀ r M', post r M' → M'.length = M.length) (kk : ∀ r M', post r M' → gg X M' (k + rm.cells) (n + rm.slots) 36 [] (r.toList ++ [])) : gg X M k n 29 [(0, .ref x0)] [] := by
  refine g_aload_n ok d_TS_crash_29 rfl (j := 0) rfl ?_
  refine gf_TS_12 ok d_TS_crash_30 h1 h4 ?_
  exact gc_TS_86 (As := []) (rest := []) ok d_TS_crash_33 hm rfl rfl (Nat.le_of_ble_eq_true rfl) hR h5 hlen (fun r M' q => (gg_keep [] (kk r M' q)))
theorem k_TS_crash_36 {X : gC} {M : List mC} {k n : Nat} {s0 : Int32} (ok : gO X c_TS_crash "TripleStore" w_TS_crash)  {l9 : Launch} {rm : Room} {M0 : List mC} {post : Option Value → List mC → Prop} (E : gE X l9 y_TS_crash rm 2 (some .int) M0 post) (hp : post (some (.int s0)) M) (hk : k ≤ rm.cells) (hn : n ≤ rm.slots) : gg X M k n 36 [] [.int s0] := by
  exact g_iret ok E d_TS_crash_36 hp hk hn
theorem k_TS_append_0 {X : gC} {M : List mC} {k n : Nat} {x0 : Nat} {x1 : Int64} {x3 : Int32} (ok : gO X c_TS_append "TripleStore" w_TS_append)  (kt : x3 < 1 → gg X M k n 19 [] []) (kf : ¬ x3 < 1 → gg X M k n 5 [(0, .ref x0), (1, .long x1), (3, .int x3)] []) : gg X M k n 0 [(0, .ref x0), (1, .long x1), (3, .int x3)] [] := by
  refine g_iload_n ok d_TS_append_0 rfl (j := 2) rfl ?_
  refine g_iconst (v := 1) ok d_TS_append_1 (by decide) ?_
  exact g_icmp_lt (tgt := 19) ok d_TS_append_2 (by decide) (fun z => (gg_keep [] (kt z))) (fun z => (kf z))
theorem k_TS_append_5 {X : gC} {M : List mC} {k n : Nat} {x0 : Nat} {x1 : Int64} {x3 : Int32} (ok : gO X c_TS_append "TripleStore" w_TS_append)  (kt : 8 < x3 → gg X M k n 19 [] []) (kf : ¬ 8 < x3 → gg X M k n 11 [(0, .ref x0), (1, .long x1), (3, .int x3)] []) : gg X M k n 5 [(0, .ref x0), (1, .long x1), (3, .int x3)] [] := by
  refine g_iload_n ok d_TS_append_5 rfl (j := 2) rfl ?_
  refine g_bipush (v := 8) ok d_TS_append_6 (by decide) ?_
  exact g_icmp_gt (tgt := 19) ok d_TS_append_8 (by decide) (fun z => (gg_keep [] (kt z))) (fun z => (kf z))
theorem k_TS_append_11 {X : gC} {M : List mC} {k n : Nat} {x0 : Nat} {x1 : Int64} {x3 : Int32} (ok : gO X c_TS_append "TripleStore" w_TS_append)  {rm : Room} {post : Option Value → List mC → Prop} (hm : mm_ (gLa X) y_TS_areTextCodes w_TS_areTextCodes rm [.long x1, .int x3] M post) (hR : gF X rm 5 k n) (hlen : ∀ r M', post r M' → M'.length = M.length) (kk : ∀ r M', post r M' → gg X M' (k + rm.cells) (n + rm.slots) 16 [(0, .ref x0), (1, .long x1), (3, .int x3)] (r.toList ++ [])) : gg X M k n 11 [(0, .ref x0), (1, .long x1), (3, .int x3)] [] := by
  refine g_lload_n ok d_TS_append_11 rfl (j := 1) rfl ?_
  refine g_iload_n ok d_TS_append_12 rfl (j := 2) rfl ?_
  exact gc_TS_128 (As := [.long x1, .int x3]) (rest := []) ok d_TS_append_13 hm rfl rfl (Nat.le_of_ble_eq_true rfl) hR hlen kk
theorem k_TS_append_16 {X : gC} {M : List mC} {k n : Nat} {x0 : Nat} {x1 : Int64} {x3 : Int32} {s0 : Int32} (ok : gO X c_TS_append "TripleStore" w_TS_append)  (kt : ¬ s0 = 0 → gg X M k n 29 [(0, .ref x0), (1, .long x1), (3, .int x3)] []) (kf : s0 = 0 → gg X M k n 19 [] []) : gg X M k n 16 [(0, .ref x0), (1, .long x1), (3, .int x3)] [.int s0] := by
  exact g_if_ne (tgt := 29) ok d_TS_append_16 (by decide) (fun z => (kt z)) (fun z => (gg_keep [] (kf z)))
theorem k_TS_append_29 {X : gC} {M : List mC} {k n : Nat} {x0 : Nat} {x1 : Int64} {x3 : Int32} {fs2 : List Value} {f3 : Int32} (ok : gO X c_TS_append "TripleStore" w_TS_append) (h1 : M[x0]? = some (.inr (9, fs2))) (h4 : fs2[7]? = some (.int f3)) (kt : (f3 + x3) ≤ 160 → gg X M k n 51 [(0, .ref x0), (1, .long x1), (3, .int x3)] []) (kf : ¬ (f3 + x3) ≤ 160 → gg X M k n 41 [] []) : gg X M k n 29 [(0, .ref x0), (1, .long x1), (3, .int x3)] [] := by
  refine g_aload_n ok d_TS_append_29 rfl (j := 0) rfl ?_
  refine gf_TS_59 ok d_TS_append_30 h1 h4 ?_
  refine g_iload_n ok d_TS_append_33 rfl (j := 2) rfl ?_
  refine g_iadd ok d_TS_append_34 ?_
  refine g_sipush (v := 160) ok d_TS_append_35 (by decide) ?_
  exact g_icmp_le (tgt := 51) ok d_TS_append_38 (by decide) (fun z => (kt z)) (fun z => (gg_keep [] (kf z)))
theorem k_TS_append_51 {X : gC} {M : List mC} {k n : Nat} {x0 : Nat} {x1 : Int64} {x3 : Int32} (ok : gO X c_TS_append "TripleStore" w_TS_append) (hl : gL X = 5)  (kk : gg X M k n 56 [(0, .ref x0), (1, .long x1), (4, .int (x3 - 1))] []) : gg X M k n 51 [(0, .ref x0), (1, .long x1), (3, .int x3)] [] := by
  refine g_iload_n ok d_TS_append_51 rfl (j := 2) rfl ?_
  refine g_iconst (v := 1) ok d_TS_append_52 (by decide) ?_
  refine g_isub ok d_TS_append_53 ?_
  refine g_istore (L' := [(0, .ref x0), (1, .long x1), (3, .int x3), (4, .int (x3 - 1))]) ok d_TS_append_54 (by rw [hl]; decide) rfl ?_
  exact (gg_keep [0, 1, 4] kk)
theorem k_TS_append_56 {X : gC} {M : List mC} {k n : Nat} {x0 : Nat} {x1 : Int64} {x4 : Int32} (ok : gO X c_TS_append "TripleStore" w_TS_append)  (kt : x4 < 0 → gg X M k n 93 [(0, .ref x0)] []) (kf : ¬ x4 < 0 → gg X M k n 61 [(0, .ref x0), (1, .long x1), (4, .int x4)] []) : gg X M k n 56 [(0, .ref x0), (1, .long x1), (4, .int x4)] [] := by
  refine g_iload ok d_TS_append_56 (j := 2) rfl ?_
  exact g_if_lt (tgt := 93) ok d_TS_append_58 (by decide) (fun z => (gg_keep [0] (kt z))) (fun z => (kf z))
theorem k_TS_append_61 {X : gC} {M : List mC} {k n : Nat} {x0 : Nat} {x1 : Int64} {x4 : Int32} {fs2 : List Value} {f3 : Nat} {f5 : Int32} (ok : gO X c_TS_append "TripleStore" w_TS_append) (h1 : M[x0]? = some (.inr (9, fs2))) (h4 : fs2[1]? = some (.ref f3)) (h6 : fs2[7]? = some (.int f5)) {rm : Room} {post : Option Value → List mC → Prop} (hm : mm_ (gLa X) y_TS_byteAt w_TS_byteAt rm [.long x1, .int x4] M post) (hR : gF X rm 3 k n) (hlen : ∀ r M', post r M' → M'.length = M.length) (kk : ∀ r M', post r M' → gg X M' (k + rm.cells) (n + rm.slots) 75 [(0, .ref x0), (1, .long x1), (4, .int x4)] (r.toList ++ [.int f5, .ref f3])) : gg X M k n 61 [(0, .ref x0), (1, .long x1), (4, .int x4)] [] := by
  refine g_aload_n ok d_TS_append_61 rfl (j := 0) rfl ?_
  refine gf_TS_16 ok d_TS_append_62 h1 h4 ?_
  refine g_aload_n ok d_TS_append_65 rfl (j := 0) rfl ?_
  refine gf_TS_59 ok d_TS_append_66 h1 h6 ?_
  refine g_lload_n ok d_TS_append_69 rfl (j := 1) rfl ?_
  refine g_iload ok d_TS_append_70 (j := 2) rfl ?_
  exact gc_TS_136 (As := [.long x1, .int x4]) (rest := [.int f5, .ref f3]) ok d_TS_append_72 hm rfl rfl (Nat.le_of_ble_eq_true rfl) hR hlen kk
theorem k_TS_append_75 {X : gC} {M : List mC} {k n : Nat} {x0 : Nat} {x1 : Int64} {x4 : Int32} {s0 : Nat} {s1 : Int32} {s2 : Int32} {g2 : Nat → Int32} {N3 : Nat} {M5 : List mC} {fs9 : List Value} {f11 : Int32} {fs15 : List Value} {M17 : List mC} (ok : gO X c_TS_append "TripleStore" w_TS_append) (hl : gL X = 5) (h1 : M[s0]? = some (.inl (2, N3, .inl g2))) (h4 : vp_in s1 N3) (h6 : M.set s0 (.inl (2, N3, .inl (upd g2 s1.toNatClampNeg (vp_nar .char (((s2 : Int32).toUInt32 % 65536).toInt32))))) = M5) (h8 : M[x0]? = some (.inr (9, fs9))) (h12 : fs9[7]? = some (.int f11)) (h14 : 9 ≤ fs9.length) (h16 : fs9.set 7 (.int (f11 + 1)) = fs15) (h18 : M5.set x0 (.inr (9, fs15)) = M17) (kk : gg X M17 k n 56 [(0, .ref x0), (1, .long x1), (4, .int (x4 + (-1)))] []) : gg X M k n 75 [(0, .ref x0), (1, .long x1), (4, .int x4)] [.int s2, .int s1, .ref s0] := by
  refine g_i2c ok d_TS_append_75 ?_
  refine g_cast (t := 2) ok rfl d_TS_append_76 h1 h4 ?_
  rw [h6]
  have h7 : M5[s0]? = some (.inl (2, N3, .inl (upd g2 s1.toNatClampNeg (vp_nar .char (((s2 : Int32).toUInt32 % 65536).toInt32))))) := by rw [← h6]; exact gs_eq h1
  refine g_aload_n ok d_TS_append_77 rfl (j := 0) rfl ?_
  refine g_dup ok d_TS_append_78 rfl ?_
  have h10 : M5[x0]? = some (.inr (9, fs9)) := by rw [← h6]; exact (gs_ne (ne_ao h1 h8)).trans h8
  refine gf_TS_59 ok d_TS_append_79 h10 h12 ?_
  refine g_iconst (v := 1) ok d_TS_append_82 (by decide) ?_
  refine g_iadd ok d_TS_append_83 ?_
  have h13 : 7 < fs9.length := Nat.lt_of_lt_of_le (by decide) h14
  refine pf_TS_59 ok d_TS_append_84 h10 h13 (fun _ => ⟨rfl, rfl⟩) ?_
  rw [h16]
  rw [h18]
  have h19 : M17[x0]? = some (.inr (9, fs15)) := by rw [← h18]; exact gs_eq h10
  have h20 : fs15[7]? = some (.int (f11 + 1)) := by rw [← h16]; exact List.getElem?_set_self h13
  have h21 : 9 ≤ fs15.length := by rw [← h16, List.length_set]; exact h14
  refine g_iinc (L' := [(0, .ref x0), (1, .long x1), (4, .int (x4 + (-1)))]) (v := (x4 + (-1))) ok d_TS_append_87 (j := 2) rfl rfl (by rw [hl]; decide) rfl ?_
  exact g_goto (tgt := 56) ok d_TS_append_90 (by decide) kk
theorem k_TS_append_93 {X : gC} {M : List mC} {k n : Nat} {x0 : Nat} {fs2 : List Value} {f3 : Int32} (ok : gO X c_TS_append "TripleStore" w_TS_append) (h1 : M[x0]? = some (.inr (9, fs2))) (h4 : fs2[7]? = some (.int f3)) {l9 : Launch} {rm : Room} {M0 : List mC} {post : Option Value → List mC → Prop} (E : gE X l9 y_TS_append rm 5 (some .int) M0 post) (hp : post (some (.int f3)) M) (hk : k ≤ rm.cells) (hn : n ≤ rm.slots) : gg X M k n 93 [(0, .ref x0)] [] := by
  refine g_aload_n ok d_TS_append_93 rfl (j := 0) rfl ?_
  refine gf_TS_59 ok d_TS_append_94 h1 h4 ?_
  exact g_iret ok E d_TS_append_97 hp hk hn
theorem k_TS_ask_0 {X : gC} {M : List mC} {k n : Nat} {x0 : Nat} {fs2 : List Value} {f3 : Nat} {f5 : Nat} {f7 : Int32} {fs10 : List Value} (ok : gO X c_TS_ask "TripleStore" w_TS_ask) (h1 : M[x0]? = some (.inr (9, fs2))) (h4 : fs2[2]? = some (.ref f3)) (h6 : fs2[1]? = some (.ref f5)) (h8 : fs2[7]? = some (.int f7)) (h9 : M[f3]? = some (.inr (7, fs10))) {rm : Room} {post : Option Value → List mC → Prop} (hm : mm_ (gLa X) y_To_readAll w_To_readAll rm [.ref f3, .ref f5, .int f7] M post) (hR : gF X rm 6 k n) (hlen : ∀ r M', post r M' → M'.length = M.length) (kk : ∀ r M', post r M' → gg X M' (k + rm.cells) (n + rm.slots) 15 [(0, .ref x0)] (r.toList ++ [])) : gg X M k n 0 [(0, .ref x0)] [] := by
  refine g_aload_n ok d_TS_ask_0 rfl (j := 0) rfl ?_
  refine gf_TS_23 ok d_TS_ask_1 h1 h4 ?_
  refine g_aload_n ok d_TS_ask_4 rfl (j := 0) rfl ?_
  refine gf_TS_16 ok d_TS_ask_5 h1 h6 ?_
  refine g_aload_n ok d_TS_ask_8 rfl (j := 0) rfl ?_
  refine gf_TS_59 ok d_TS_ask_9 h1 h8 ?_
  exact gc_TS_140 (As := [.ref f5, .int f7]) (rest := []) ok d_TS_ask_12 hm rfl rfl (Nat.le_of_ble_eq_true rfl) hR h9 hlen kk
theorem k_TS_ask_15 {X : gC} {M : List mC} {k n : Nat} {x0 : Nat} {fs2 : List Value} {fs5 : List Value} {M7 : List mC} {f12 : Nat} {fs16 : List Value} (ok : gO X c_TS_ask "TripleStore" w_TS_ask) (h1 : M[x0]? = some (.inr (9, fs2))) (h4 : 9 ≤ fs2.length) (h6 : fs2.set 7 (.int 0) = fs5) (h8 : M.set x0 (.inr (9, fs5)) = M7) (h13 : fs2[4]? = some (.ref f12)) (h15 : M[f12]? = some (.inr (1, fs16))) (h18 : f12 ≠ x0) {rm : Room} {post : Option Value → List mC → Prop} (hm : mm_ (gLa X) y_Pa_readQuery w_Pa_readQuery rm [.ref f12] M7 post) (hR : gF X rm 1 k n) (hlen : ∀ r M', post r M' → M'.length = M7.length) (kk : ∀ r M', post r M' → gg X M' (k + rm.cells) (n + rm.slots) 27 [(0, .ref x0)] (r.toList ++ [])) : gg X M k n 15 [(0, .ref x0)] [] := by
  refine g_aload_n ok d_TS_ask_15 rfl (j := 0) rfl ?_
  refine g_iconst (v := 0) ok d_TS_ask_16 (by decide) ?_
  have h3 : 7 < fs2.length := Nat.lt_of_lt_of_le (by decide) h4
  refine pf_TS_59 ok d_TS_ask_17 h1 h3 (fun _ => ⟨rfl, rfl⟩) ?_
  rw [h6]
  rw [h8]
  have h9 : M7[x0]? = some (.inr (9, fs5)) := by rw [← h8]; exact gs_eq h1
  have h10 : fs5[7]? = some (.int 0) := by rw [← h6]; exact List.getElem?_set_self h3
  have h11 : 9 ≤ fs5.length := by rw [← h6, List.length_set]; exact h4
  refine g_aload_n ok d_TS_ask_20 rfl (j := 0) rfl ?_
  have h14 : fs5[4]? = some (.ref f12) := by rw [← h6]; exact (List.getElem?_set_ne (by decide : 7 ≠ 4)).trans h13
  refine gf_TS_39 ok d_TS_ask_21 h9 h14 ?_
  have h17 : M7[f12]? = some (.inr (1, fs16)) := by rw [← h8]; exact (gs_ne (Ne.symm h18)).trans h15
  exact gc_TS_144 (As := []) (rest := []) ok d_TS_ask_24 hm rfl rfl (Nat.le_of_ble_eq_true rfl) hR h17 hlen kk
theorem k_TS_ask_27 {X : gC} {M : List mC} {k n : Nat} {x0 : Nat} {s0 : Int32} (ok : gO X c_TS_ask "TripleStore" w_TS_ask) (hl : gL X = 2)  (kt : s0 = 0 → gg X M k n 37 [(0, .ref x0), (1, .int s0)] [.ref x0]) (kf : ¬ s0 = 0 → gg X M k n 33 [(0, .ref x0), (1, .int s0)] [.ref x0]) : gg X M k n 27 [(0, .ref x0)] [.int s0] := by
  refine g_istore_n (L' := [(0, .ref x0), (1, .int s0)]) ok d_TS_ask_27 rfl (by rw [hl]; decide) rfl ?_
  refine g_aload_n ok d_TS_ask_28 rfl (j := 0) rfl ?_
  refine g_iload_n ok d_TS_ask_29 rfl (j := 1) rfl ?_
  exact g_if_eq (tgt := 37) ok d_TS_ask_30 (by decide) (fun z => (kt z)) (fun z => (kf z))
theorem k_TS_ask_33 {X : gC} {M : List mC} {k n : Nat} {x0 : Nat} {x1 : Int32} (ok : gO X c_TS_ask "TripleStore" w_TS_ask)  (kk : gg X M k n 44 [(0, .ref x0), (1, .int x1)] [.int (-1), .ref x0]) : gg X M k n 33 [(0, .ref x0), (1, .int x1)] [.ref x0] := by
  refine g_iconst (v := (-1)) ok d_TS_ask_33 (by decide) ?_
  exact g_goto (tgt := 44) ok d_TS_ask_34 (by decide) kk
theorem k_TS_ask_37 {X : gC} {M : List mC} {k n : Nat} {x0 : Nat} {x1 : Int32} {fs2 : List Value} {f3 : Nat} {fs6 : List Value} (ok : gO X c_TS_ask "TripleStore" w_TS_ask) (h1 : M[x0]? = some (.inr (9, fs2))) (h4 : fs2[2]? = some (.ref f3)) (h5 : M[f3]? = some (.inr (7, fs6))) {rm : Room} {post : Option Value → List mC → Prop} (hm : mm_ (gLa X) y_To_place w_To_place rm [.ref f3] M post) (hR : gF X rm 1 k n) (hlen : ∀ r M', post r M' → M'.length = M.length) (kk : ∀ r M', post r M' → gg X M' (k + rm.cells) (n + rm.slots) 44 [(0, .ref x0), (1, .int x1)] (r.toList ++ [.ref x0])) : gg X M k n 37 [(0, .ref x0), (1, .int x1)] [.ref x0] := by
  refine g_aload_n ok d_TS_ask_37 rfl (j := 0) rfl ?_
  refine gf_TS_23 ok d_TS_ask_38 h1 h4 ?_
  exact gc_TS_147 (As := []) (rest := [.ref x0]) ok d_TS_ask_41 hm rfl rfl (Nat.le_of_ble_eq_true rfl) hR h5 hlen kk
theorem k_TS_ask_44 {X : gC} {M : List mC} {k n : Nat} {x0 : Nat} {x1 : Int32} {s1 : Int32} {fs2 : List Value} {fs5 : List Value} {M7 : List mC} (ok : gO X c_TS_ask "TripleStore" w_TS_ask) (h1 : M[x0]? = some (.inr (9, fs2))) (h4 : 9 ≤ fs2.length) (h6 : fs2.set 8 (.int s1) = fs5) (h8 : M.set x0 (.inr (9, fs5)) = M7) (kt : ¬ x1 = 0 → gg X M7 k n 61 [(0, .ref x0)] []) (kf : x1 = 0 → gg X M7 k n 51 [] []) : gg X M k n 44 [(0, .ref x0), (1, .int x1)] [.int s1, .ref x0] := by
  have h3 : 8 < fs2.length := Nat.lt_of_lt_of_le (by decide) h4
  refine pf_TS_63 ok d_TS_ask_44 h1 h3 (fun _ => ⟨rfl, rfl⟩) ?_
  rw [h6]
  rw [h8]
  have h9 : M7[x0]? = some (.inr (9, fs5)) := by rw [← h8]; exact gs_eq h1
  have h10 : fs5[8]? = some (.int s1) := by rw [← h6]; exact List.getElem?_set_self h3
  have h11 : 9 ≤ fs5.length := by rw [← h6, List.length_set]; exact h4
  refine g_iload_n ok d_TS_ask_47 rfl (j := 1) rfl ?_
  exact g_if_ne (tgt := 61) ok d_TS_ask_48 (by decide) (fun z => (gg_keep [0] (kt z))) (fun z => (gg_keep [] (kf z)))
theorem k_TS_ask_61 {X : gC} {M : List mC} {k n : Nat} {x0 : Nat} {fs2 : List Value} {f3 : Nat} {f5 : Nat} {fs8 : List Value} {f9 : Int32} {fs12 : List Value} (ok : gO X c_TS_ask "TripleStore" w_TS_ask) (h1 : M[x0]? = some (.inr (9, fs2))) (h4 : fs2[6]? = some (.ref f3)) (h6 : fs2[3]? = some (.ref f5)) (h7 : M[f5]? = some (.inr (2, fs8))) (h10 : fs8[3]? = some (.int f9)) (h11 : M[f3]? = some (.inr (3, fs12))) {rm : Room} {post : Option Value → List mC → Prop} (hm : mm_ (gLa X) y_Ro_clear w_Ro_clear rm [.ref f3, .int f9] M post) (hR : gF X rm 2 k n) (hlen : ∀ r M', post r M' → M'.length = M.length) (kk : ∀ r M', post r M' → gg X M' (k + rm.cells) (n + rm.slots) 75 [(0, .ref x0)] (r.toList ++ [])) : gg X M k n 61 [(0, .ref x0)] [] := by
  refine g_aload_n ok d_TS_ask_61 rfl (j := 0) rfl ?_
  refine gf_TS_55 ok d_TS_ask_62 h1 h4 ?_
  refine g_aload_n ok d_TS_ask_65 rfl (j := 0) rfl ?_
  refine gf_TS_30 ok d_TS_ask_66 h1 h6 ?_
  refine gf_TS_152 ok d_TS_ask_69 h7 h10 ?_
  exact gc_TS_155 (As := [.int f9]) (rest := []) ok d_TS_ask_72 hm rfl rfl (Nat.le_of_ble_eq_true rfl) hR h11 hlen kk
theorem k_TS_ask_75 {X : gC} {M : List mC} {k n : Nat} {x0 : Nat} {fs2 : List Value} {f3 : Nat} {fs6 : List Value} (ok : gO X c_TS_ask "TripleStore" w_TS_ask) (h1 : M[x0]? = some (.inr (9, fs2))) (h4 : fs2[5]? = some (.ref f3)) (h5 : M[f3]? = some (.inr (5, fs6))) {rm : Room} {post : Option Value → List mC → Prop} (hm : mm_ (gLa X) y_Sv_solveGroup w_Sv_solveGroup rm [.ref f3, .int 0, .int 0] M post) (hR : gF X rm 6 k n) (hlen : ∀ r M', post r M' → M'.length = M.length) (kk : ∀ r M', post r M' → gg X M' (k + rm.cells) (n + rm.slots) 84 [(0, .ref x0)] (r.toList ++ [])) : gg X M k n 75 [(0, .ref x0)] [] := by
  refine g_aload_n ok d_TS_ask_75 rfl (j := 0) rfl ?_
  refine gf_TS_48 ok d_TS_ask_76 h1 h4 ?_
  refine g_iconst (v := 0) ok d_TS_ask_79 (by decide) ?_
  refine g_iconst (v := 0) ok d_TS_ask_80 (by decide) ?_
  exact gc_TS_158 (As := [.int 0, .int 0]) (rest := []) ok d_TS_ask_81 hm rfl rfl (Nat.le_of_ble_eq_true rfl) hR h5 hlen kk
theorem k_TS_ask_84 {X : gC} {M : List mC} {k n : Nat} {x0 : Nat} {s0 : Int32} (ok : gO X c_TS_ask "TripleStore" w_TS_ask)  (kt : ¬ s0 = 0 → gg X M k n 97 [(0, .ref x0)] []) (kf : s0 = 0 → gg X M k n 87 [] []) : gg X M k n 84 [(0, .ref x0)] [.int s0] := by
  exact g_if_ne (tgt := 97) ok d_TS_ask_84 (by decide) (fun z => (kt z)) (fun z => (gg_keep [] (kf z)))
theorem k_TS_ask_97 {X : gC} {M : List mC} {k n : Nat} {x0 : Nat} {fs2 : List Value} {f3 : Nat} {f5 : Nat} {f7 : Nat} {fs10 : List Value} (ok : gO X c_TS_ask "TripleStore" w_TS_ask) (h1 : M[x0]? = some (.inr (9, fs2))) (h4 : fs2[6]? = some (.ref f3)) (h6 : fs2[3]? = some (.ref f5)) (h8 : fs2[5]? = some (.ref f7)) (h9 : M[f7]? = some (.inr (5, fs10))) {rm : Room} {post : Option Value → List mC → Prop} (hm : mm_ (gLa X) y_Sv_solutions w_Sv_solutions rm [.ref f7] M post) (hR : gF X rm 1 k n) (hlen : ∀ r M', post r M' → M'.length = M.length) (kk : ∀ r M', post r M' → gg X M' (k + rm.cells) (n + rm.slots) 112 [(0, .ref x0)] (r.toList ++ [.ref f5, .ref f3])) : gg X M k n 97 [(0, .ref x0)] [] := by
  refine g_aload_n ok d_TS_ask_97 rfl (j := 0) rfl ?_
  refine gf_TS_55 ok d_TS_ask_98 h1 h4 ?_
  refine g_aload_n ok d_TS_ask_101 rfl (j := 0) rfl ?_
  refine gf_TS_30 ok d_TS_ask_102 h1 h6 ?_
  refine g_aload_n ok d_TS_ask_105 rfl (j := 0) rfl ?_
  refine gf_TS_48 ok d_TS_ask_106 h1 h8 ?_
  exact gc_TS_164 (As := []) (rest := [.ref f5, .ref f3]) ok d_TS_ask_109 hm rfl rfl (Nat.le_of_ble_eq_true rfl) hR h9 hlen kk
theorem k_TS_ask_112 {X : gC} {M : List mC} {k n : Nat} {x0 : Nat} {s0 : Nat} {s1 : Nat} {s2 : Nat} {fs2 : List Value} (ok : gO X c_TS_ask "TripleStore" w_TS_ask) (h1 : M[s0]? = some (.inr (3, fs2))) {rm : Room} {post : Option Value → List mC → Prop} (hm : mm_ (gLa X) y_Ro_fill w_Ro_fill rm [.ref s0, .ref s1, .ref s2] M post) (hR : gF X rm 4 k n) (hlen : ∀ r M', post r M' → M'.length = M.length) (kk : ∀ r M', post r M' → gg X M' (k + rm.cells) (n + rm.slots) 115 [(0, .ref x0)] (r.toList ++ [])) : gg X M k n 112 [(0, .ref x0)] [.ref s2, .ref s1, .ref s0] := by
  exact gc_TS_168 (As := [.ref s1, .ref s2]) (rest := []) ok d_TS_ask_112 hm rfl rfl (Nat.le_of_ble_eq_true rfl) hR h1 hlen kk
theorem k_TS_ask_115 {X : gC} {M : List mC} {k n : Nat} {x0 : Nat} {fs2 : List Value} {f3 : Nat} {fs6 : List Value} (ok : gO X c_TS_ask "TripleStore" w_TS_ask) (h1 : M[x0]? = some (.inr (9, fs2))) (h4 : fs2[6]? = some (.ref f3)) (h5 : M[f3]? = some (.inr (3, fs6))) {rm : Room} {post : Option Value → List mC → Prop} (hm : mm_ (gLa X) y_Ro_size w_Ro_size rm [.ref f3] M post) (hR : gF X rm 1 k n) (hlen : ∀ r M', post r M' → M'.length = M.length) (kk : ∀ r M', post r M' → gg X M' (k + rm.cells) (n + rm.slots) 122 [] (r.toList ++ [])) : gg X M k n 115 [(0, .ref x0)] [] := by
  refine g_aload_n ok d_TS_ask_115 rfl (j := 0) rfl ?_
  refine gf_TS_55 ok d_TS_ask_116 h1 h4 ?_
  exact gc_TS_172 (As := []) (rest := []) ok d_TS_ask_119 hm rfl rfl (Nat.le_of_ble_eq_true rfl) hR h5 hlen (fun r M' q => (gg_keep [] (kk r M' q)))
theorem k_TS_ask_122 {X : gC} {M : List mC} {k n : Nat} {s0 : Int32} (ok : gO X c_TS_ask "TripleStore" w_TS_ask)  {l9 : Launch} {rm : Room} {M0 : List mC} {post : Option Value → List mC → Prop} (E : gE X l9 y_TS_ask rm 2 (some .int) M0 post) (hp : post (some (.int s0)) M) (hk : k ≤ rm.cells) (hn : n ≤ rm.slots) : gg X M k n 122 [] [.int s0] := by
  exact g_iret ok E d_TS_ask_122 hp hk hn
theorem k_TS_fault_0 {X : gC} {M : List mC} {k n : Nat} {x0 : Nat} {fs2 : List Value} {f3 : Int32} (ok : gO X c_TS_fault "TripleStore" w_TS_fault) (h1 : M[x0]? = some (.inr (9, fs2))) (h4 : fs2[8]? = some (.int f3)) {l9 : Launch} {rm : Room} {M0 : List mC} {post : Option Value → List mC → Prop} (E : gE X l9 y_TS_fault rm 1 (some .int) M0 post) (hp : post (some (.int f3)) M) (hk : k ≤ rm.cells) (hn : n ≤ rm.slots) : gg X M k n 0 [(0, .ref x0)] [] := by
  refine g_aload_n ok d_TS_fault_0 rfl (j := 0) rfl ?_
  refine gf_TS_63 ok d_TS_fault_1 h1 h4 ?_
  exact g_iret ok E d_TS_fault_4 hp hk hn
theorem k_TS_cell_0 {X : gC} {M : List mC} {k n : Nat} {x0 : Nat} {x1 : Int32} {x2 : Int32} {fs2 : List Value} {f3 : Nat} {fs6 : List Value} (ok : gO X c_TS_cell "TripleStore" w_TS_cell) (h1 : M[x0]? = some (.inr (9, fs2))) (h4 : fs2[6]? = some (.ref f3)) (h5 : M[f3]? = some (.inr (3, fs6))) {rm : Room} {post : Option Value → List mC → Prop} (hm : mm_ (gLa X) y_Ro_hasPlace w_Ro_hasPlace rm [.ref f3, .int x1, .int x2] M post) (hR : gF X rm 3 k n) (hlen : ∀ r M', post r M' → M'.length = M.length) (kk : ∀ r M', post r M' → gg X M' (k + rm.cells) (n + rm.slots) 9 [(0, .ref x0), (1, .int x1), (2, .int x2)] (r.toList ++ [])) : gg X M k n 0 [(0, .ref x0), (1, .int x1), (2, .int x2)] [] := by
  refine g_aload_n ok d_TS_cell_0 rfl (j := 0) rfl ?_
  refine gf_TS_55 ok d_TS_cell_1 h1 h4 ?_
  refine g_iload_n ok d_TS_cell_4 rfl (j := 1) rfl ?_
  refine g_iload_n ok d_TS_cell_5 rfl (j := 2) rfl ?_
  exact gc_TS_173 (As := [.int x1, .int x2]) (rest := []) ok d_TS_cell_6 hm rfl rfl (Nat.le_of_ble_eq_true rfl) hR h5 hlen kk
theorem k_TS_cell_9 {X : gC} {M : List mC} {k n : Nat} {x0 : Nat} {x1 : Int32} {x2 : Int32} {s0 : Int32} (ok : gO X c_TS_cell "TripleStore" w_TS_cell)  (kt : ¬ s0 = 0 → gg X M k n 22 [(0, .ref x0), (1, .int x1), (2, .int x2)] []) (kf : s0 = 0 → gg X M k n 12 [] []) : gg X M k n 9 [(0, .ref x0), (1, .int x1), (2, .int x2)] [.int s0] := by
  exact g_if_ne (tgt := 22) ok d_TS_cell_9 (by decide) (fun z => (kt z)) (fun z => (gg_keep [] (kf z)))
theorem k_TS_cell_22 {X : gC} {M : List mC} {k n : Nat} {x0 : Nat} {x1 : Int32} {x2 : Int32} {fs2 : List Value} {f3 : Nat} {fs6 : List Value} (ok : gO X c_TS_cell "TripleStore" w_TS_cell) (h1 : M[x0]? = some (.inr (9, fs2))) (h4 : fs2[6]? = some (.ref f3)) (h5 : M[f3]? = some (.inr (3, fs6))) {rm : Room} {post : Option Value → List mC → Prop} (hm : mm_ (gLa X) y_Ro_term w_Ro_term rm [.ref f3, .int x1, .int x2] M post) (hR : gF X rm 3 k n) (hlen : ∀ r M', post r M' → M'.length = M.length) (kk : ∀ r M', post r M' → gg X M' (k + rm.cells) (n + rm.slots) 31 [] (r.toList ++ [])) : gg X M k n 22 [(0, .ref x0), (1, .int x1), (2, .int x2)] [] := by
  refine g_aload_n ok d_TS_cell_22 rfl (j := 0) rfl ?_
  refine gf_TS_55 ok d_TS_cell_23 h1 h4 ?_
  refine g_iload_n ok d_TS_cell_26 rfl (j := 1) rfl ?_
  refine g_iload_n ok d_TS_cell_27 rfl (j := 2) rfl ?_
  exact gc_TS_181 (As := [.int x1, .int x2]) (rest := []) ok d_TS_cell_28 hm rfl rfl (Nat.le_of_ble_eq_true rfl) hR h5 hlen (fun r M' q => (gg_keep [] (kk r M' q)))
theorem k_TS_cell_31 {X : gC} {M : List mC} {k n : Nat} {s0 : Int64} (ok : gO X c_TS_cell "TripleStore" w_TS_cell) (hl : gL X = 5)  (kt : ¬ s0 = 0 → gg X M k n 48 [(3, .long s0)] []) (kf : s0 = 0 → gg X M k n 38 [] []) : gg X M k n 31 [] [.long s0] := by
  refine g_lstore_n (L' := [(3, .long s0)]) ok d_TS_cell_31 rfl (by rw [hl]; decide) rfl ?_
  refine g_lload_n ok d_TS_cell_32 rfl (j := 0) rfl ?_
  refine g_lconst (v := 0) ok d_TS_cell_33 (by decide) ?_
  exact g_lc_ne (tgt := 48) ok d_TS_cell_34 d_TS_cell_35 (by decide) (fun z => (kt z)) (fun z => (gg_keep [] (kf z)))
theorem k_TS_cell_48 {X : gC} {M : List mC} {k n : Nat} {x3 : Int64} (ok : gO X c_TS_cell "TripleStore" w_TS_cell)  {rm : Room} {post : Option Value → List mC → Prop} (hm : mm_ (gLa X) y_Te_shown w_Te_shown rm [.long x3] M post) (hR : gF X rm 5 k n) (hlen : ∀ r M', post r M' → M'.length = M.length) (kk : ∀ r M', post r M' → gg X M' (k + rm.cells) (n + rm.slots) 52 [] (r.toList ++ [])) : gg X M k n 48 [(3, .long x3)] [] := by
  refine g_lload_n ok d_TS_cell_48 rfl (j := 0) rfl ?_
  exact gc_TS_190 (As := [.long x3]) (rest := []) ok d_TS_cell_49 hm rfl rfl (Nat.le_of_ble_eq_true rfl) hR hlen (fun r M' q => (gg_keep [] (kk r M' q)))
theorem k_TS_cell_52 {X : gC} {M : List mC} {k n : Nat} {s0 : Int64} (ok : gO X c_TS_cell "TripleStore" w_TS_cell)  {l9 : Launch} {rm : Room} {M0 : List mC} {post : Option Value → List mC → Prop} (E : gE X l9 y_TS_cell rm 5 (some .long) M0 post) (hp : post (some (.long s0)) M) (hk : k ≤ rm.cells) (hn : n ≤ rm.slots) : gg X M k n 52 [] [.long s0] := by
  exact g_lret ok E d_TS_cell_52 hp hk hn
theorem k_TS_count_44 {X : gC} {M : List mC} {k n : Nat} {x0 : Nat} {fs2 : List Value} {f3 : Nat} {fs6 : List Value} (ok : gO X c_TS_count "TripleStore" w_TS_count) (h1 : M[x0]? = some (.inr (9, fs2))) (h4 : fs2[0]? = some (.ref f3)) (h5 : M[f3]? = some (.inr (6, fs6))) {rm : Room} {post : Option Value → List mC → Prop} (hm : mm_ (gLa X) y_St_size w_St_size rm [.ref f3] M post) (hR : gF X rm 1 k n) (hlen : ∀ r M', post r M' → M'.length = M.length) (kk : ∀ r M', post r M' → gg X M' (k + rm.cells) (n + rm.slots) 51 [] (r.toList ++ [])) : gg X M k n 44 [(0, .ref x0)] [] := by
  refine g_aload_n ok d_TS_count_44 rfl (j := 0) rfl ?_
  refine gf_TS_12 ok d_TS_count_45 h1 h4 ?_
  exact gc_TS_86 (As := []) (rest := []) ok d_TS_count_48 hm rfl rfl (Nat.le_of_ble_eq_true rfl) hR h5 hlen (fun r M' q => (gg_keep [] (kk r M' q)))
theorem k_TS_count_51 {X : gC} {M : List mC} {k n : Nat} {s0 : Int32} (ok : gO X c_TS_count "TripleStore" w_TS_count)  {l9 : Launch} {rm : Room} {M0 : List mC} {post : Option Value → List mC → Prop} (E : gE X l9 y_TS_count rm 2 (some .int) M0 post) (hp : post (some (.int s0)) M) (hk : k ≤ rm.cells) (hn : n ≤ rm.slots) : gg X M k n 51 [] [.int s0] := by
  exact g_iret ok E d_TS_count_51 hp hk hn
theorem k_TS_count_52 {X : gC} {M : List mC} {k n : Nat} {x0 : Nat} {fs2 : List Value} {f3 : Nat} {fs6 : List Value} (ok : gO X c_TS_count "TripleStore" w_TS_count) (h1 : M[x0]? = some (.inr (9, fs2))) (h4 : fs2[6]? = some (.ref f3)) (h5 : M[f3]? = some (.inr (3, fs6))) {rm : Room} {post : Option Value → List mC → Prop} (hm : mm_ (gLa X) y_Ro_columns w_Ro_columns rm [.ref f3] M post) (hR : gF X rm 1 k n) (hlen : ∀ r M', post r M' → M'.length = M.length) (kk : ∀ r M', post r M' → gg X M' (k + rm.cells) (n + rm.slots) 59 [] (r.toList ++ [])) : gg X M k n 52 [(0, .ref x0)] [] := by
  refine g_aload_n ok d_TS_count_52 rfl (j := 0) rfl ?_
  refine gf_TS_55 ok d_TS_count_53 h1 h4 ?_
  exact gc_TS_193 (As := []) (rest := []) ok d_TS_count_56 hm rfl rfl (Nat.le_of_ble_eq_true rfl) hR h5 hlen (fun r M' q => (gg_keep [] (kk r M' q)))
theorem k_TS_count_59 {X : gC} {M : List mC} {k n : Nat} {s0 : Int32} (ok : gO X c_TS_count "TripleStore" w_TS_count)  {l9 : Launch} {rm : Room} {M0 : List mC} {post : Option Value → List mC → Prop} (E : gE X l9 y_TS_count rm 2 (some .int) M0 post) (hp : post (some (.int s0)) M) (hk : k ≤ rm.cells) (hn : n ≤ rm.slots) : gg X M k n 59 [] [.int s0] := by
  exact g_iret ok E d_TS_count_59 hp hk hn
theorem k_TS_count_60 {X : gC} {M : List mC} {k n : Nat} {x0 : Nat} {fs2 : List Value} {f3 : Nat} {fs6 : List Value} (ok : gO X c_TS_count "TripleStore" w_TS_count) (h1 : M[x0]? = some (.inr (9, fs2))) (h4 : fs2[6]? = some (.ref f3)) (h5 : M[f3]? = some (.inr (3, fs6))) {rm : Room} {post : Option Value → List mC → Prop} (hm : mm_ (gLa X) y_Ro_size w_Ro_size rm [.ref f3] M post) (hR : gF X rm 1 k n) (hlen : ∀ r M', post r M' → M'.length = M.length) (kk : ∀ r M', post r M' → gg X M' (k + rm.cells) (n + rm.slots) 67 [] (r.toList ++ [])) : gg X M k n 60 [(0, .ref x0)] [] := by
  refine g_aload_n ok d_TS_count_60 rfl (j := 0) rfl ?_
  refine gf_TS_55 ok d_TS_count_61 h1 h4 ?_
  exact gc_TS_172 (As := []) (rest := []) ok d_TS_count_64 hm rfl rfl (Nat.le_of_ble_eq_true rfl) hR h5 hlen (fun r M' q => (gg_keep [] (kk r M' q)))
theorem k_TS_count_67 {X : gC} {M : List mC} {k n : Nat} {s0 : Int32} (ok : gO X c_TS_count "TripleStore" w_TS_count)  {l9 : Launch} {rm : Room} {M0 : List mC} {post : Option Value → List mC → Prop} (E : gE X l9 y_TS_count rm 2 (some .int) M0 post) (hp : post (some (.int s0)) M) (hk : k ≤ rm.cells) (hn : n ≤ rm.slots) : gg X M k n 67 [] [.int s0] := by
  exact g_iret ok E d_TS_count_67 hp hk hn
theorem k_TS_count_68 {X : gC} {M : List mC} {k n : Nat} {x0 : Nat} {fs2 : List Value} {f3 : Nat} {fs6 : List Value} (ok : gO X c_TS_count "TripleStore" w_TS_count) (h1 : M[x0]? = some (.inr (9, fs2))) (h4 : fs2[0]? = some (.ref f3)) (h5 : M[f3]? = some (.inr (6, fs6))) {rm : Room} {post : Option Value → List mC → Prop} (hm : mm_ (gLa X) y_St_committed w_St_committed rm [.ref f3] M post) (hR : gF X rm 1 k n) (hlen : ∀ r M', post r M' → M'.length = M.length) (kk : ∀ r M', post r M' → gg X M' (k + rm.cells) (n + rm.slots) 75 [] (r.toList ++ [])) : gg X M k n 68 [(0, .ref x0)] [] := by
  refine g_aload_n ok d_TS_count_68 rfl (j := 0) rfl ?_
  refine gf_TS_12 ok d_TS_count_69 h1 h4 ?_
  exact gc_TS_195 (As := []) (rest := []) ok d_TS_count_72 hm rfl rfl (Nat.le_of_ble_eq_true rfl) hR h5 hlen (fun r M' q => (gg_keep [] (kk r M' q)))
theorem k_TS_count_75 {X : gC} {M : List mC} {k n : Nat} {s0 : Int32} (ok : gO X c_TS_count "TripleStore" w_TS_count)  {l9 : Launch} {rm : Room} {M0 : List mC} {post : Option Value → List mC → Prop} (E : gE X l9 y_TS_count rm 2 (some .int) M0 post) (hp : post (some (.int s0)) M) (hk : k ≤ rm.cells) (hn : n ≤ rm.slots) : gg X M k n 75 [] [.int s0] := by
  exact g_iret ok E d_TS_count_75 hp hk hn
theorem k_TS_count_76 {X : gC} {M : List mC} {k n : Nat} {x0 : Nat} {fs2 : List Value} {f3 : Nat} {fs6 : List Value} (ok : gO X c_TS_count "TripleStore" w_TS_count) (h1 : M[x0]? = some (.inr (9, fs2))) (h4 : fs2[0]? = some (.ref f3)) (h5 : M[f3]? = some (.inr (6, fs6))) {rm : Room} {post : Option Value → List mC → Prop} (hm : mm_ (gLa X) y_St_unsynced w_St_unsynced rm [.ref f3] M post) (hR : gF X rm 1 k n) (hlen : ∀ r M', post r M' → M'.length = M.length) (kk : ∀ r M', post r M' → gg X M' (k + rm.cells) (n + rm.slots) 83 [] (r.toList ++ [])) : gg X M k n 76 [(0, .ref x0)] [] := by
  refine g_aload_n ok d_TS_count_76 rfl (j := 0) rfl ?_
  refine gf_TS_12 ok d_TS_count_77 h1 h4 ?_
  exact gc_TS_198 (As := []) (rest := []) ok d_TS_count_80 hm rfl rfl (Nat.le_of_ble_eq_true rfl) hR h5 hlen (fun r M' q => (gg_keep [] (kk r M' q)))
theorem k_TS_count_83 {X : gC} {M : List mC} {k n : Nat} {s0 : Int32} (ok : gO X c_TS_count "TripleStore" w_TS_count)  {l9 : Launch} {rm : Room} {M0 : List mC} {post : Option Value → List mC → Prop} (E : gE X l9 y_TS_count rm 2 (some .int) M0 post) (hp : post (some (.int s0)) M) (hk : k ≤ rm.cells) (hn : n ≤ rm.slots) : gg X M k n 83 [] [.int s0] := by
  exact g_iret ok E d_TS_count_83 hp hk hn
theorem k_TS_count_84 {X : gC} {M : List mC} {k n : Nat} {x0 : Nat} {fs2 : List Value} {f3 : Nat} {fs6 : List Value} (ok : gO X c_TS_count "TripleStore" w_TS_count) (h1 : M[x0]? = some (.inr (9, fs2))) (h4 : fs2[0]? = some (.ref f3)) (h5 : M[f3]? = some (.inr (6, fs6))) {rm : Room} {post : Option Value → List mC → Prop} (hm : mm_ (gLa X) y_St_changes w_St_changes rm [.ref f3] M post) (hR : gF X rm 1 k n) (hlen : ∀ r M', post r M' → M'.length = M.length) (kk : ∀ r M', post r M' → gg X M' (k + rm.cells) (n + rm.slots) 91 [] (r.toList ++ [])) : gg X M k n 84 [(0, .ref x0)] [] := by
  refine g_aload_n ok d_TS_count_84 rfl (j := 0) rfl ?_
  refine gf_TS_12 ok d_TS_count_85 h1 h4 ?_
  exact gc_TS_201 (As := []) (rest := []) ok d_TS_count_88 hm rfl rfl (Nat.le_of_ble_eq_true rfl) hR h5 hlen (fun r M' q => (gg_keep [] (kk r M' q)))
theorem k_TS_count_91 {X : gC} {M : List mC} {k n : Nat} {s0 : Int32} (ok : gO X c_TS_count "TripleStore" w_TS_count)  {l9 : Launch} {rm : Room} {M0 : List mC} {post : Option Value → List mC → Prop} (E : gE X l9 y_TS_count rm 2 (some .int) M0 post) (hp : post (some (.int s0)) M) (hk : k ≤ rm.cells) (hn : n ≤ rm.slots) : gg X M k n 91 [] [.int s0] := by
  exact g_iret ok E d_TS_count_91 hp hk hn
theorem k_TS_count_92 {X : gC} {M : List mC} {k n : Nat} {x0 : Nat} {fs2 : List Value} {f3 : Int32} (ok : gO X c_TS_count "TripleStore" w_TS_count) (h1 : M[x0]? = some (.inr (9, fs2))) (h4 : fs2[7]? = some (.int f3)) {l9 : Launch} {rm : Room} {M0 : List mC} {post : Option Value → List mC → Prop} (E : gE X l9 y_TS_count rm 2 (some .int) M0 post) (hp : post (some (.int f3)) M) (hk : k ≤ rm.cells) (hn : n ≤ rm.slots) : gg X M k n 92 [(0, .ref x0)] [] := by
  refine g_aload_n ok d_TS_count_92 rfl (j := 0) rfl ?_
  refine gf_TS_59 ok d_TS_count_93 h1 h4 ?_
  exact g_iret ok E d_TS_count_96 hp hk hn
theorem k_TS_areTextCodes_0 {X : gC} {M : List mC} {k n : Nat} {x0 : Int64} {x2 : Int32} (ok : gO X c_TS_areTextCodes "TripleStore" w_TS_areTextCodes) (hl : gL X = 5)  (kk : gg X M k n 2 [(0, .long x0), (2, .int x2), (3, .int 0)] []) : gg X M k n 0 [(0, .long x0), (2, .int x2)] [] := by
  refine g_iconst (v := 0) ok d_TS_areTextCodes_0 (by decide) ?_
  refine g_istore_n (L' := [(0, .long x0), (2, .int x2), (3, .int 0)]) ok d_TS_areTextCodes_1 rfl (by rw [hl]; decide) rfl ?_
  exact kk
theorem k_TS_areTextCodes_2 {X : gC} {M : List mC} {k n : Nat} {x0 : Int64} {x2 : Int32} {x3 : Int32} (ok : gO X c_TS_areTextCodes "TripleStore" w_TS_areTextCodes)  (kt : x2 ≤ x3 → gg X M k n 36 [] []) (kf : ¬ x2 ≤ x3 → gg X M k n 7 [(0, .long x0), (2, .int x2), (3, .int x3)] []) : gg X M k n 2 [(0, .long x0), (2, .int x2), (3, .int x3)] [] := by
  refine g_iload_n ok d_TS_areTextCodes_2 rfl (j := 2) rfl ?_
  refine g_iload_n ok d_TS_areTextCodes_3 rfl (j := 1) rfl ?_
  exact g_icmp_ge (tgt := 36) ok d_TS_areTextCodes_4 (by decide) (fun z => (gg_keep [] (kt z))) (fun z => (kf z))
theorem k_TS_areTextCodes_7 {X : gC} {M : List mC} {k n : Nat} {x0 : Int64} {x2 : Int32} {x3 : Int32} (ok : gO X c_TS_areTextCodes "TripleStore" w_TS_areTextCodes)  {rm : Room} {post : Option Value → List mC → Prop} (hm : mm_ (gLa X) y_TS_byteAt w_TS_byteAt rm [.long x0, .int x3] M post) (hR : gF X rm 3 k n) (hlen : ∀ r M', post r M' → M'.length = M.length) (kk : ∀ r M', post r M' → gg X M' (k + rm.cells) (n + rm.slots) 12 [(0, .long x0), (2, .int x2), (3, .int x3)] (r.toList ++ [])) : gg X M k n 7 [(0, .long x0), (2, .int x2), (3, .int x3)] [] := by
  refine g_lload_n ok d_TS_areTextCodes_7 rfl (j := 0) rfl ?_
  refine g_iload_n ok d_TS_areTextCodes_8 rfl (j := 2) rfl ?_
  exact gc_TS_136 (As := [.long x0, .int x3]) (rest := []) ok d_TS_areTextCodes_9 hm rfl rfl (Nat.le_of_ble_eq_true rfl) hR hlen kk
theorem k_TS_areTextCodes_12 {X : gC} {M : List mC} {k n : Nat} {x0 : Int64} {x2 : Int32} {x3 : Int32} {s0 : Int32} (ok : gO X c_TS_areTextCodes "TripleStore" w_TS_areTextCodes) (hl : gL X = 5)  (kt : s0 < 32 → gg X M k n 28 [] []) (kf : ¬ s0 < 32 → gg X M k n 21 [(0, .long x0), (2, .int x2), (3, .int x3), (4, .int s0)] []) : gg X M k n 12 [(0, .long x0), (2, .int x2), (3, .int x3)] [.int s0] := by
  refine g_istore (L' := [(0, .long x0), (2, .int x2), (3, .int x3), (4, .int s0)]) ok d_TS_areTextCodes_12 (by rw [hl]; decide) rfl ?_
  refine g_iload ok d_TS_areTextCodes_14 (j := 3) rfl ?_
  refine g_bipush (v := 32) ok d_TS_areTextCodes_16 (by decide) ?_
  exact g_icmp_lt (tgt := 28) ok d_TS_areTextCodes_18 (by decide) (fun z => (gg_keep [] (kt z))) (fun z => (kf z))
theorem k_TS_areTextCodes_21 {X : gC} {M : List mC} {k n : Nat} {x0 : Int64} {x2 : Int32} {x3 : Int32} {x4 : Int32} (ok : gO X c_TS_areTextCodes "TripleStore" w_TS_areTextCodes)  (kt : x4 ≤ 126 → gg X M k n 30 [(0, .long x0), (2, .int x2), (3, .int x3)] []) (kf : ¬ x4 ≤ 126 → gg X M k n 28 [] []) : gg X M k n 21 [(0, .long x0), (2, .int x2), (3, .int x3), (4, .int x4)] [] := by
  refine g_iload ok d_TS_areTextCodes_21 (j := 3) rfl ?_
  refine g_bipush (v := 126) ok d_TS_areTextCodes_23 (by decide) ?_
  exact g_icmp_le (tgt := 30) ok d_TS_areTextCodes_25 (by decide) (fun z => (gg_keep [0, 2, 3] (kt z))) (fun z => (gg_keep [] (kf z)))
theorem k_TS_areTextCodes_28 {X : gC} {M : List mC} {k n : Nat}  (ok : gO X c_TS_areTextCodes "TripleStore" w_TS_areTextCodes)  {l9 : Launch} {rm : Room} {M0 : List mC} {post : Option Value → List mC → Prop} (E : gE X l9 y_TS_areTextCodes rm 5 (some .boolean) M0 post) (hp : post (some (.int 0)) M) (hk : k ≤ rm.cells) (hn : n ≤ rm.slots) : gg X M k n 28 [] [] := by
  refine g_iconst (v := 0) ok d_TS_areTextCodes_28 (by decide) ?_
  exact g_zret ok E d_TS_areTextCodes_29 rfl hp hk hn
theorem k_TS_areTextCodes_30 {X : gC} {M : List mC} {k n : Nat} {x0 : Int64} {x2 : Int32} {x3 : Int32} (ok : gO X c_TS_areTextCodes "TripleStore" w_TS_areTextCodes) (hl : gL X = 5)  (kk : gg X M k n 2 [(0, .long x0), (2, .int x2), (3, .int (x3 + 1))] []) : gg X M k n 30 [(0, .long x0), (2, .int x2), (3, .int x3)] [] := by
  refine g_iinc (L' := [(0, .long x0), (2, .int x2), (3, .int (x3 + 1))]) (v := (x3 + 1)) ok d_TS_areTextCodes_30 (j := 2) rfl rfl (by rw [hl]; decide) rfl ?_
  exact g_goto (tgt := 2) ok d_TS_areTextCodes_33 (by decide) kk
theorem k_TS_areTextCodes_36 {X : gC} {M : List mC} {k n : Nat}  (ok : gO X c_TS_areTextCodes "TripleStore" w_TS_areTextCodes)  {l9 : Launch} {rm : Room} {M0 : List mC} {post : Option Value → List mC → Prop} (E : gE X l9 y_TS_areTextCodes rm 5 (some .boolean) M0 post) (hp : post (some (.int 1)) M) (hk : k ≤ rm.cells) (hn : n ≤ rm.slots) : gg X M k n 36 [] [] := by
  refine g_iconst (v := 1) ok d_TS_areTextCodes_36 (by decide) ?_
  exact g_zret ok E d_TS_areTextCodes_37 rfl hp hk hn
theorem k_TS_byteAt_0 {X : gC} {M : List mC} {k n : Nat} {x0 : Int64} {x2 : Int32} (ok : gO X c_TS_byteAt "TripleStore" w_TS_byteAt)  {l9 : Launch} {rm : Room} {M0 : List mC} {post : Option Value → List mC → Prop} (E : gE X l9 y_TS_byteAt rm 3 (some .int) M0 post) (hp : post (some (.int ((((((x0).toUInt64 >>> (((8 * x2) : Int32).toInt64.toUInt64 &&& Int64.toUInt64 63)).toInt64) : Int64).toInt32) &&& 255))) M) (hk : k ≤ rm.cells) (hn : n ≤ rm.slots) : gg X M k n 0 [(0, .long x0), (2, .int x2)] [] := by
  refine g_lload_n ok d_TS_byteAt_0 rfl (j := 0) rfl ?_
  refine g_bipush (v := 8) ok d_TS_byteAt_1 (by decide) ?_
  refine g_iload_n ok d_TS_byteAt_3 rfl (j := 1) rfl ?_
  refine g_imul ok d_TS_byteAt_4 ?_
  refine g_lushr ok d_TS_byteAt_5 ?_
  refine g_l2i ok d_TS_byteAt_6 ?_
  refine g_sipush (v := 255) ok d_TS_byteAt_7 (by decide) ?_
  refine g_iand ok d_TS_byteAt_10 ?_
  exact g_iret ok E d_TS_byteAt_11 hp hk hn
theorem k_Ro_init_0 {X : gC} {M : List mC} {k n : Nat} {x0 : Nat} (ok : gO X c_Ro_init "TripleStore$Rows" w_Ro_init)  (hf : 1 ≤ (gR X).frames) (hl2 : (([] : List Value).map fun v => v.category).sum + 12 ≤ (gR X).locals) (kk : gg X M k n 4 [(0, .ref x0)] []) : gg X M k n 0 [(0, .ref x0)] [] := by
  refine g_aload_n ok d_Ro_init_0 rfl (j := 0) rfl ?_
  exact g_objI ok ml_Ro_3 wn_Object i_Object d_Ro_init_1 hf hl2 kk
theorem k_Ro_init_4 {X : gC} {M : List mC} {k n : Nat} {x0 : Nat} {M4 : List mC} {q5 : Nat} {fs10 : List Value} {fs14 : List Value} {M16 : List mC} {M24 : List mC} {q25 : Nat} {fs32 : List Value} {M34 : List mC} {fs41 : List Value} {M43 : List mC} {fs51 : List Value} {M53 : List mC} (ok : gO X c_Ro_init "TripleStore$Rows" w_Ro_init) (hin : (gM X).name = "<init>") (h1 : k + 1 ≤ (gR X).cells) (h2 : n + 900 ≤ (gR X).slots) (h3 : gW M [(0, .ref x0)] [.ref x0]) (h6 : M ++ [.inl (1, 900, .inr (.inl (fun _ => 0)))] = M4) (h7 : M.length = q5) (h9 : M[x0]? = some (.inr (3, fs10))) (h13 : 4 ≤ fs10.length) (h15 : fs10.set 0 (.ref q5) = fs14) (h17 : M4.set x0 (.inr (3, fs14)) = M16) (h21 : k + 1 + 1 ≤ (gR X).cells) (h22 : n + 900 + 150 ≤ (gR X).slots) (h23 : gW M16 [(0, .ref x0)] [.ref x0]) (h26 : M16 ++ [.inl (0, 150, .inl (fun _ => 0))] = M24) (h27 : M16.length = q25) (h33 : fs14.set 1 (.ref q25) = fs32) (h35 : M24.set x0 (.inr (3, fs32)) = M34) (h42 : fs32.set 2 (.int 0) = fs41) (h44 : M34.set x0 (.inr (3, fs41)) = M43) (h52 : fs41.set 3 (.int 0) = fs51) (h54 : M43.set x0 (.inr (3, fs51)) = M53) {l9 : Launch} {rm : Room} {M0 : List mC} {post : Option Value → List mC → Prop} (E : gE X l9 y_Ro_init rm 1 none M0 post) (hp : post (none) M53) (hk : k + 1 + 1 ≤ rm.cells) (hn : n + 900 + 150 ≤ rm.slots) : gg X M k n 4 [(0, .ref x0)] [] := by
  refine g_aload_n ok d_Ro_init_4 rfl (j := 0) rfl ?_
  refine g_sipush (v := 900) ok d_Ro_init_5 (by decide) ?_
  refine g_newa (atype := .long) (ty := .long) (t := 1) (N := 900) (a0 := (900, .inr (.inl (fun _ => 0)))) ok (List.mem_cons_of_mem _ (gT_at 56 (by decide +kernel) (by decide +kernel))) rfl rfl (fun _ => rfl) (fun _ => rfl) (by decide) (by decide) (by decide) d_Ro_init_8 h1 h2 h3 ?_
  rw [h6, h7]
  have h8 : M4[q5]? = some (.inl (1, 900, .inr (.inl (fun _ => 0)))) := by rw [← h6, ← h7]; exact ga_new _ _
  have h11 : M4[x0]? = some (.inr (3, fs10)) := by rw [← h6]; exact ga_old h9
  have h12 : 0 < fs10.length := Nat.lt_of_lt_of_le (by decide) h13
  refine pf_Ro_9 ok hin d_Ro_init_10 h11 h12 (fun _ => ⟨rfl, rfl⟩) ?_
  rw [h15]
  rw [h17]
  have h18 : M16[x0]? = some (.inr (3, fs14)) := by rw [← h17]; exact gs_eq h11
  have h19 : fs14[0]? = some (.ref q5) := by rw [← h15]; exact List.getElem?_set_self h12
  have h20 : 4 ≤ fs14.length := by rw [← h15, List.length_set]; exact h13
  refine g_aload_n ok d_Ro_init_13 rfl (j := 0) rfl ?_
  refine g_sipush (v := 150) ok d_Ro_init_14 (by decide) ?_
  refine g_newa (atype := .int) (ty := .int) (t := 0) (N := 150) (a0 := (150, .inl (fun _ => 0))) ok (List.mem_cons_of_mem _ (gT_at 83 (by decide +kernel) (by decide +kernel))) rfl rfl (fun _ => rfl) (fun _ => rfl) (by decide) (by decide) (by decide) d_Ro_init_17 h21 h22 h23 ?_
  rw [h26, h27]
  have h28 : M24[q25]? = some (.inl (0, 150, .inl (fun _ => 0))) := by rw [← h26, ← h27]; exact ga_new _ _
  have h29 : M16[q5]? = some (.inl (1, 900, .inr (.inl (fun _ => 0)))) := by rw [← h17]; exact (gs_ne (Ne.symm (ne_ao h8 h11))).trans h8
  have h30 : M24[x0]? = some (.inr (3, fs14)) := by rw [← h26]; exact ga_old h18
  have h31 : 1 < fs14.length := Nat.lt_of_lt_of_le (by decide) h20
  refine pf_Ro_15 ok hin d_Ro_init_19 h30 h31 (fun _ => ⟨rfl, rfl⟩) ?_
  rw [h33]
  rw [h35]
  have h36 : M34[x0]? = some (.inr (3, fs32)) := by rw [← h35]; exact gs_eq h30
  have h37 : fs32[0]? = some (.ref q5) := by rw [← h33]; exact (List.getElem?_set_ne (by decide : 1 ≠ 0)).trans h19
  have h38 : fs32[1]? = some (.ref q25) := by rw [← h33]; exact List.getElem?_set_self h31
  have h39 : 4 ≤ fs32.length := by rw [← h33, List.length_set]; exact h20
  refine g_aload_n ok d_Ro_init_22 rfl (j := 0) rfl ?_
  refine g_iconst (v := 0) ok d_Ro_init_23 (by decide) ?_
  have h40 : 2 < fs32.length := Nat.lt_of_lt_of_le (by decide) h39
  refine pf_Ro_19 ok d_Ro_init_24 h36 h40 (fun _ => ⟨rfl, rfl⟩) ?_
  rw [h42]
  rw [h44]
  have h45 : M43[x0]? = some (.inr (3, fs41)) := by rw [← h44]; exact gs_eq h36
  have h46 : fs41[0]? = some (.ref q5) := by rw [← h42]; exact (List.getElem?_set_ne (by decide : 2 ≠ 0)).trans h37
  have h47 : fs41[1]? = some (.ref q25) := by rw [← h42]; exact (List.getElem?_set_ne (by decide : 2 ≠ 1)).trans h38
  have h48 : fs41[2]? = some (.int 0) := by rw [← h42]; exact List.getElem?_set_self h40
  have h49 : 4 ≤ fs41.length := by rw [← h42, List.length_set]; exact h39
  refine g_aload_n ok d_Ro_init_27 rfl (j := 0) rfl ?_
  refine g_iconst (v := 0) ok d_Ro_init_28 (by decide) ?_
  have h50 : 3 < fs41.length := Nat.lt_of_lt_of_le (by decide) h49
  refine pf_Ro_23 ok d_Ro_init_29 h45 h50 (fun _ => ⟨rfl, rfl⟩) ?_
  rw [h52]
  rw [h54]
  have h55 : M53[x0]? = some (.inr (3, fs51)) := by rw [← h54]; exact gs_eq h45
  have h56 : fs51[0]? = some (.ref q5) := by rw [← h52]; exact (List.getElem?_set_ne (by decide : 3 ≠ 0)).trans h46
  have h57 : fs51[1]? = some (.ref q25) := by rw [← h52]; exact (List.getElem?_set_ne (by decide : 3 ≠ 1)).trans h47
  have h58 : fs51[2]? = some (.int 0) := by rw [← h52]; exact (List.getElem?_set_ne (by decide : 3 ≠ 2)).trans h48
  have h59 : fs51[3]? = some (.int 0) := by rw [← h52]; exact List.getElem?_set_self h50
  have h60 : 4 ≤ fs51.length := by rw [← h52, List.length_set]; exact h49
  exact g_vret ok E d_Ro_init_32 hp hk hn
theorem k_Ro_columns_0 {X : gC} {M : List mC} {k n : Nat} {x0 : Nat} {fs2 : List Value} {f3 : Int32} (ok : gO X c_Ro_columns "TripleStore$Rows" w_Ro_columns) (h1 : M[x0]? = some (.inr (3, fs2))) (h4 : fs2[2]? = some (.int f3)) {l9 : Launch} {rm : Room} {M0 : List mC} {post : Option Value → List mC → Prop} (E : gE X l9 y_Ro_columns rm 1 (some .int) M0 post) (hp : post (some (.int f3)) M) (hk : k ≤ rm.cells) (hn : n ≤ rm.slots) : gg X M k n 0 [(0, .ref x0)] [] := by
  refine g_aload_n ok d_Ro_columns_0 rfl (j := 0) rfl ?_
  refine gf_Ro_19 ok d_Ro_columns_1 h1 h4 ?_
  exact g_iret ok E d_Ro_columns_4 hp hk hn
theorem k_Ro_size_0 {X : gC} {M : List mC} {k n : Nat} {x0 : Nat} {fs2 : List Value} {f3 : Int32} (ok : gO X c_Ro_size "TripleStore$Rows" w_Ro_size) (h1 : M[x0]? = some (.inr (3, fs2))) (h4 : fs2[3]? = some (.int f3)) {l9 : Launch} {rm : Room} {M0 : List mC} {post : Option Value → List mC → Prop} (E : gE X l9 y_Ro_size rm 1 (some .int) M0 post) (hp : post (some (.int f3)) M) (hk : k ≤ rm.cells) (hn : n ≤ rm.slots) : gg X M k n 0 [(0, .ref x0)] [] := by
  refine g_aload_n ok d_Ro_size_0 rfl (j := 0) rfl ?_
  refine gf_Ro_23 ok d_Ro_size_1 h1 h4 ?_
  exact g_iret ok E d_Ro_size_4 hp hk hn
theorem k_Ro_hasPlace_0 {X : gC} {M : List mC} {k n : Nat} {x0 : Nat} {x1 : Int32} {x2 : Int32} (ok : gO X c_Ro_hasPlace "TripleStore$Rows" w_Ro_hasPlace)  (kt : x1 < 0 → gg X M k n 28 [] []) (kf : ¬ x1 < 0 → gg X M k n 4 [(0, .ref x0), (1, .int x1), (2, .int x2)] []) : gg X M k n 0 [(0, .ref x0), (1, .int x1), (2, .int x2)] [] := by
  refine g_iload_n ok d_Ro_hasPlace_0 rfl (j := 1) rfl ?_
  exact g_if_lt (tgt := 28) ok d_Ro_hasPlace_1 (by decide) (fun z => (gg_keep [] (kt z))) (fun z => (kf z))
theorem k_Ro_hasPlace_4 {X : gC} {M : List mC} {k n : Nat} {x0 : Nat} {x1 : Int32} {x2 : Int32} {fs2 : List Value} {f3 : Int32} (ok : gO X c_Ro_hasPlace "TripleStore$Rows" w_Ro_hasPlace) (h1 : M[x0]? = some (.inr (3, fs2))) (h4 : fs2[3]? = some (.int f3)) (kt : f3 ≤ x1 → gg X M k n 28 [] []) (kf : ¬ f3 ≤ x1 → gg X M k n 12 [(0, .ref x0), (2, .int x2)] []) : gg X M k n 4 [(0, .ref x0), (1, .int x1), (2, .int x2)] [] := by
  refine g_iload_n ok d_Ro_hasPlace_4 rfl (j := 1) rfl ?_
  refine g_aload_n ok d_Ro_hasPlace_5 rfl (j := 0) rfl ?_
  refine gf_Ro_23 ok d_Ro_hasPlace_6 h1 h4 ?_
  exact g_icmp_ge (tgt := 28) ok d_Ro_hasPlace_9 (by decide) (fun z => (gg_keep [] (kt z))) (fun z => (gg_keep [0, 2] (kf z)))
theorem k_Ro_hasPlace_12 {X : gC} {M : List mC} {k n : Nat} {x0 : Nat} {x2 : Int32} (ok : gO X c_Ro_hasPlace "TripleStore$Rows" w_Ro_hasPlace)  (kt : x2 < 0 → gg X M k n 28 [] []) (kf : ¬ x2 < 0 → gg X M k n 16 [(0, .ref x0), (2, .int x2)] []) : gg X M k n 12 [(0, .ref x0), (2, .int x2)] [] := by
  refine g_iload_n ok d_Ro_hasPlace_12 rfl (j := 1) rfl ?_
  exact g_if_lt (tgt := 28) ok d_Ro_hasPlace_13 (by decide) (fun z => (gg_keep [] (kt z))) (fun z => (kf z))
theorem k_Ro_hasPlace_16 {X : gC} {M : List mC} {k n : Nat} {x0 : Nat} {x2 : Int32} {fs2 : List Value} {f3 : Int32} (ok : gO X c_Ro_hasPlace "TripleStore$Rows" w_Ro_hasPlace) (h1 : M[x0]? = some (.inr (3, fs2))) (h4 : fs2[2]? = some (.int f3)) (kt : f3 ≤ x2 → gg X M k n 28 [] []) (kf : ¬ f3 ≤ x2 → gg X M k n 24 [] []) : gg X M k n 16 [(0, .ref x0), (2, .int x2)] [] := by
  refine g_iload_n ok d_Ro_hasPlace_16 rfl (j := 1) rfl ?_
  refine g_aload_n ok d_Ro_hasPlace_17 rfl (j := 0) rfl ?_
  refine gf_Ro_19 ok d_Ro_hasPlace_18 h1 h4 ?_
  exact g_icmp_ge (tgt := 28) ok d_Ro_hasPlace_21 (by decide) (fun z => (gg_keep [] (kt z))) (fun z => (gg_keep [] (kf z)))
theorem k_Ro_hasPlace_24 {X : gC} {M : List mC} {k n : Nat}  (ok : gO X c_Ro_hasPlace "TripleStore$Rows" w_Ro_hasPlace)  (kk : gg X M k n 29 [] [.int 1]) : gg X M k n 24 [] [] := by
  refine g_iconst (v := 1) ok d_Ro_hasPlace_24 (by decide) ?_
  exact g_goto (tgt := 29) ok d_Ro_hasPlace_25 (by decide) kk
theorem k_Ro_hasPlace_28 {X : gC} {M : List mC} {k n : Nat}  (ok : gO X c_Ro_hasPlace "TripleStore$Rows" w_Ro_hasPlace)  (kk : gg X M k n 29 [] [.int 0]) : gg X M k n 28 [] [] := by
  refine g_iconst (v := 0) ok d_Ro_hasPlace_28 (by decide) ?_
  exact kk
theorem k_Ro_hasPlace_29 {X : gC} {M : List mC} {k n : Nat} {s0 : Int32} (ok : gO X c_Ro_hasPlace "TripleStore$Rows" w_Ro_hasPlace)  {l9 : Launch} {rm : Room} {M0 : List mC} {post : Option Value → List mC → Prop} (E : gE X l9 y_Ro_hasPlace rm 3 (some .boolean) M0 post) (hz : narrow .boolean (.int s0) = .int s0) (hp : post (some (.int s0)) M) (hk : k ≤ rm.cells) (hn : n ≤ rm.slots) : gg X M k n 29 [] [.int s0] := by
  exact g_zret ok E d_Ro_hasPlace_29 hz hp hk hn
theorem k_Ro_term_0 {X : gC} {M : List mC} {k n : Nat} {x0 : Nat} {x1 : Int32} {x2 : Int32} {fs2 : List Value} (ok : gO X c_Ro_term "TripleStore$Rows" w_Ro_term) (h1 : M[x0]? = some (.inr (3, fs2))) {rm : Room} {post : Option Value → List mC → Prop} (hm : mm_ (gLa X) y_Ro_hasPlace w_Ro_hasPlace rm [.ref x0, .int x1, .int x2] M post) (hR : gF X rm 3 k n) (hlen : ∀ r M', post r M' → M'.length = M.length) (kk : ∀ r M', post r M' → gg X M' (k + rm.cells) (n + rm.slots) 6 [(0, .ref x0), (1, .int x1), (2, .int x2)] (r.toList ++ [])) : gg X M k n 0 [(0, .ref x0), (1, .int x1), (2, .int x2)] [] := by
  refine g_aload_n ok d_Ro_term_0 rfl (j := 0) rfl ?_
  refine g_iload_n ok d_Ro_term_1 rfl (j := 1) rfl ?_
  refine g_iload_n ok d_Ro_term_2 rfl (j := 2) rfl ?_
  exact gc_Ro_26 (As := [.int x1, .int x2]) (rest := []) ok d_Ro_term_3 hm rfl rfl (Nat.le_of_ble_eq_true rfl) hR h1 hlen kk
theorem k_Ro_term_6 {X : gC} {M : List mC} {k n : Nat} {x0 : Nat} {x1 : Int32} {x2 : Int32} {s0 : Int32} (ok : gO X c_Ro_term "TripleStore$Rows" w_Ro_term)  (kt : s0 = 0 → gg X M k n 23 [] []) (kf : ¬ s0 = 0 → gg X M k n 9 [(0, .ref x0), (1, .int x1), (2, .int x2)] []) : gg X M k n 6 [(0, .ref x0), (1, .int x1), (2, .int x2)] [.int s0] := by
  exact g_if_eq (tgt := 23) ok d_Ro_term_6 (by decide) (fun z => (gg_keep [] (kt z))) (fun z => (kf z))
theorem k_Ro_term_9 {X : gC} {M : List mC} {k n : Nat} {x0 : Nat} {x1 : Int32} {x2 : Int32} {fs2 : List Value} {f3 : Nat} {g6 : Nat → Int64} {N7 : Nat} (ok : gO X c_Ro_term "TripleStore$Rows" w_Ro_term) (h1 : M[x0]? = some (.inr (3, fs2))) (h4 : fs2[0]? = some (.ref f3)) (h5 : M[f3]? = some (.inl (1, N7, .inr (.inl g6)))) (h8 : vp_in ((x1 * 6) + x2) N7) (kk : gg X M k n 24 [] [.long (g6 ((x1 * 6) + x2).toNatClampNeg)]) : gg X M k n 9 [(0, .ref x0), (1, .int x1), (2, .int x2)] [] := by
  refine g_aload_n ok d_Ro_term_9 rfl (j := 0) rfl ?_
  refine gf_Ro_9 ok d_Ro_term_10 h1 h4 ?_
  refine g_iload_n ok d_Ro_term_13 rfl (j := 1) rfl ?_
  refine g_bipush (v := 6) ok d_Ro_term_14 (by decide) ?_
  refine g_imul ok d_Ro_term_16 ?_
  refine g_iload_n ok d_Ro_term_17 rfl (j := 2) rfl ?_
  refine g_iadd ok d_Ro_term_18 ?_
  refine g_lald (t := 1) ok rfl d_Ro_term_19 h5 h8 ?_
  exact g_goto (tgt := 24) ok d_Ro_term_20 (by decide) (gg_keep [] kk)
theorem k_Ro_term_23 {X : gC} {M : List mC} {k n : Nat}  (ok : gO X c_Ro_term "TripleStore$Rows" w_Ro_term)  (kk : gg X M k n 24 [] [.long 0]) : gg X M k n 23 [] [] := by
  refine g_lconst (v := 0) ok d_Ro_term_23 (by decide) ?_
  exact kk
theorem k_Ro_term_24 {X : gC} {M : List mC} {k n : Nat} {s0 : Int64} (ok : gO X c_Ro_term "TripleStore$Rows" w_Ro_term)  {l9 : Launch} {rm : Room} {M0 : List mC} {post : Option Value → List mC → Prop} (E : gE X l9 y_Ro_term rm 3 (some .long) M0 post) (hp : post (some (.long s0)) M) (hk : k ≤ rm.cells) (hn : n ≤ rm.slots) : gg X M k n 24 [] [.long s0] := by
  exact g_lret ok E d_Ro_term_24 hp hk hn
theorem k_Ro_clear_0 {X : gC} {M : List mC} {k n : Nat} {x0 : Nat} {x1 : Int32} (ok : gO X c_Ro_clear "TripleStore$Rows" w_Ro_clear)  (hf : 1 ≤ (gR X).frames) (hl2 : (([.ref x0] : List Value).map fun v => v.category).sum + 13 ≤ (gR X).locals) (hk1 : k ≤ (gR X).cells) (hk2 : n ≤ (gR X).slots) (kk : gg X M k n 7 [(0, .ref x0)] [.int (if 6 < x1 then 6 else x1), .ref x0]) : gg X M k n 0 [(0, .ref x0), (1, .int x1)] [] := by
  refine g_aload_n ok d_Ro_clear_0 rfl (j := 0) rfl ?_
  refine g_iload_n ok d_Ro_clear_1 rfl (j := 1) rfl ?_
  refine g_bipush (v := 6) ok d_Ro_clear_2 (by decide) ?_
  exact g_mmin ok ml_Ro_32 d_Ro_clear_4 hf hl2 hk1 hk2 (gg_keep [0] kk)
theorem k_Ro_clear_7 {X : gC} {M : List mC} {k n : Nat} {x0 : Nat} {s1 : Int32} {fs2 : List Value} {fs5 : List Value} {M7 : List mC} {fs13 : List Value} {M15 : List mC} (ok : gO X c_Ro_clear "TripleStore$Rows" w_Ro_clear) (h1 : M[x0]? = some (.inr (3, fs2))) (h4 : 4 ≤ fs2.length) (h6 : fs2.set 2 (.int s1) = fs5) (h8 : M.set x0 (.inr (3, fs5)) = M7) (h14 : fs5.set 3 (.int 0) = fs13) (h16 : M7.set x0 (.inr (3, fs13)) = M15) {l9 : Launch} {rm : Room} {M0 : List mC} {post : Option Value → List mC → Prop} (E : gE X l9 y_Ro_clear rm 2 none M0 post) (hp : post (none) M15) (hk : k ≤ rm.cells) (hn : n ≤ rm.slots) : gg X M k n 7 [(0, .ref x0)] [.int s1, .ref x0] := by
  have h3 : 2 < fs2.length := Nat.lt_of_lt_of_le (by decide) h4
  refine pf_Ro_19 ok d_Ro_clear_7 h1 h3 (fun _ => ⟨rfl, rfl⟩) ?_
  rw [h6]
  rw [h8]
  have h9 : M7[x0]? = some (.inr (3, fs5)) := by rw [← h8]; exact gs_eq h1
  have h10 : fs5[2]? = some (.int s1) := by rw [← h6]; exact List.getElem?_set_self h3
  have h11 : 4 ≤ fs5.length := by rw [← h6, List.length_set]; exact h4
  refine g_aload_n ok d_Ro_clear_10 rfl (j := 0) rfl ?_
  refine g_iconst (v := 0) ok d_Ro_clear_11 (by decide) ?_
  have h12 : 3 < fs5.length := Nat.lt_of_lt_of_le (by decide) h11
  refine pf_Ro_23 ok d_Ro_clear_12 h9 h12 (fun _ => ⟨rfl, rfl⟩) ?_
  rw [h14]
  rw [h16]
  have h17 : M15[x0]? = some (.inr (3, fs13)) := by rw [← h16]; exact gs_eq h9
  have h18 : fs13[2]? = some (.int s1) := by rw [← h14]; exact (List.getElem?_set_ne (by decide : 3 ≠ 2)).trans h10
  have h19 : fs13[3]? = some (.int 0) := by rw [← h14]; exact List.getElem?_set_self h12
  have h20 : 4 ≤ fs13.length := by rw [← h14, List.length_set]; exact h11
  exact g_vret ok E d_Ro_clear_15 hp hk hn
theorem k_Ro_fill_0 {X : gC} {M : List mC} {k n : Nat} {x0 : Nat} {x1 : Nat} {x2 : Nat} {fs2 : List Value} (ok : gO X c_Ro_fill "TripleStore$Rows" w_Ro_fill) (h1 : M[x0]? = some (.inr (3, fs2))) {rm : Room} {post : Option Value → List mC → Prop} (hm : mm_ (gLa X) y_Ro_sort w_Ro_sort rm [.ref x0, .ref x1, .ref x2] M post) (hR : gF X rm 5 k n) (hlen : ∀ r M', post r M' → M'.length = M.length) (kk : ∀ r M', post r M' → gg X M' (k + rm.cells) (n + rm.slots) 6 [(0, .ref x0), (1, .ref x1), (2, .ref x2)] (r.toList ++ [])) : gg X M k n 0 [(0, .ref x0), (1, .ref x1), (2, .ref x2)] [] := by
  refine g_aload_n ok d_Ro_fill_0 rfl (j := 0) rfl ?_
  refine g_aload_n ok d_Ro_fill_1 rfl (j := 1) rfl ?_
  refine g_aload_n ok d_Ro_fill_2 rfl (j := 2) rfl ?_
  exact gc_Ro_38 (As := [.ref x1, .ref x2]) (rest := []) ok d_Ro_fill_3 hm rfl rfl (Nat.le_of_ble_eq_true rfl) hR h1 hlen kk
theorem k_Ro_fill_6 {X : gC} {M : List mC} {k n : Nat} {x0 : Nat} {x1 : Nat} {x2 : Nat} (ok : gO X c_Ro_fill "TripleStore$Rows" w_Ro_fill) (hl : gL X = 4)  (kk : gg X M k n 8 [(0, .ref x0), (1, .ref x1), (2, .ref x2), (3, .int 0)] []) : gg X M k n 6 [(0, .ref x0), (1, .ref x1), (2, .ref x2)] [] := by
  refine g_iconst (v := 0) ok d_Ro_fill_6 (by decide) ?_
  refine g_istore_n (L' := [(0, .ref x0), (1, .ref x1), (2, .ref x2), (3, .int 0)]) ok d_Ro_fill_7 rfl (by rw [hl]; decide) rfl ?_
  exact kk
theorem k_Ro_fill_8 {X : gC} {M : List mC} {k n : Nat} {x0 : Nat} {x1 : Nat} {x2 : Nat} {x3 : Int32} {fs2 : List Value} (ok : gO X c_Ro_fill "TripleStore$Rows" w_Ro_fill) (h1 : M[x2]? = some (.inr (4, fs2))) {rm : Room} {post : Option Value → List mC → Prop} (hm : mm_ (gLa X) y_So_size w_So_size rm [.ref x2] M post) (hR : gF X rm 1 k n) (hlen : ∀ r M', post r M' → M'.length = M.length) (kk : ∀ r M', post r M' → gg X M' (k + rm.cells) (n + rm.slots) 13 [(0, .ref x0), (1, .ref x1), (2, .ref x2), (3, .int x3)] (r.toList ++ [.int x3])) : gg X M k n 8 [(0, .ref x0), (1, .ref x1), (2, .ref x2), (3, .int x3)] [] := by
  refine g_iload_n ok d_Ro_fill_8 rfl (j := 3) rfl ?_
  refine g_aload_n ok d_Ro_fill_9 rfl (j := 2) rfl ?_
  exact gc_Ro_42 (As := []) (rest := [.int x3]) ok d_Ro_fill_10 hm rfl rfl (Nat.le_of_ble_eq_true rfl) hR h1 hlen kk
theorem k_Ro_fill_13 {X : gC} {M : List mC} {k n : Nat} {x0 : Nat} {x1 : Nat} {x2 : Nat} {x3 : Int32} {s0 : Int32} {s1 : Int32} (ok : gO X c_Ro_fill "TripleStore$Rows" w_Ro_fill)  (kt : s1 ≤ s0 → gg X M k n 69 [] []) (kf : ¬ s1 ≤ s0 → gg X M k n 16 [(0, .ref x0), (1, .ref x1), (2, .ref x2), (3, .int x3)] []) : gg X M k n 13 [(0, .ref x0), (1, .ref x1), (2, .ref x2), (3, .int x3)] [.int s1, .int s0] := by
  exact g_icmp_ge (tgt := 69) ok d_Ro_fill_13 (by decide) (fun z => (gg_keep [] (kt z))) (fun z => (kf z))
theorem k_Ro_fill_16 {X : gC} {M : List mC} {k n : Nat} {x0 : Nat} {x1 : Nat} {x2 : Nat} {x3 : Int32} {fs2 : List Value} {f3 : Int32} {fs6 : List Value} {f7 : Int32} (ok : gO X c_Ro_fill "TripleStore$Rows" w_Ro_fill) (h1 : M[x0]? = some (.inr (3, fs2))) (h4 : fs2[3]? = some (.int f3)) (h5 : M[x1]? = some (.inr (2, fs6))) (h8 : fs6[7]? = some (.int f7)) (kt : f7 ≤ f3 → gg X M k n 69 [] []) (kf : ¬ f7 ≤ f3 → gg X M k n 27 [(0, .ref x0), (1, .ref x1), (2, .ref x2), (3, .int x3)] []) : gg X M k n 16 [(0, .ref x0), (1, .ref x1), (2, .ref x2), (3, .int x3)] [] := by
  refine g_aload_n ok d_Ro_fill_16 rfl (j := 0) rfl ?_
  refine gf_Ro_23 ok d_Ro_fill_17 h1 h4 ?_
  refine g_aload_n ok d_Ro_fill_20 rfl (j := 1) rfl ?_
  refine gf_Ro_47 ok d_Ro_fill_21 h5 h8 ?_
  exact g_icmp_ge (tgt := 69) ok d_Ro_fill_24 (by decide) (fun z => (gg_keep [] (kt z))) (fun z => (kf z))
theorem k_Ro_fill_27 {X : gC} {M : List mC} {k n : Nat} {x0 : Nat} {x1 : Nat} {x2 : Nat} {x3 : Int32} {fs2 : List Value} {f3 : Nat} {g6 : Nat → Int32} {N7 : Nat} (ok : gO X c_Ro_fill "TripleStore$Rows" w_Ro_fill) (h1 : M[x0]? = some (.inr (3, fs2))) (h4 : fs2[1]? = some (.ref f3)) (h5 : M[f3]? = some (.inl (0, N7, .inl g6))) (h8 : vp_in x3 N7) {rm : Room} {post : Option Value → List mC → Prop} (hm : mm_ (gLa X) y_Ro_takeRow w_Ro_takeRow rm [.ref x0, .ref x1, .ref x2, .int (g6 x3.toNatClampNeg)] M post) (hR : gF X rm 5 k n) (hlen : ∀ r M', post r M' → M'.length = M.length) (kk : ∀ r M', post r M' → gg X M' (k + rm.cells) (n + rm.slots) 39 [(0, .ref x0), (1, .ref x1), (2, .ref x2), (3, .int x3)] (r.toList ++ [])) : gg X M k n 27 [(0, .ref x0), (1, .ref x1), (2, .ref x2), (3, .int x3)] [] := by
  refine g_aload_n ok d_Ro_fill_27 rfl (j := 0) rfl ?_
  refine g_aload_n ok d_Ro_fill_28 rfl (j := 1) rfl ?_
  refine g_aload_n ok d_Ro_fill_29 rfl (j := 2) rfl ?_
  refine g_aload_n ok d_Ro_fill_30 rfl (j := 0) rfl ?_
  refine gf_Ro_15 ok d_Ro_fill_31 h1 h4 ?_
  refine g_iload_n ok d_Ro_fill_34 rfl (j := 3) rfl ?_
  refine g_iald (t := 0) ok rfl d_Ro_fill_35 h5 h8 ?_
  exact gc_Ro_52 (As := [.ref x1, .ref x2, .int (g6 x3.toNatClampNeg)]) (rest := []) ok d_Ro_fill_36 hm rfl rfl (Nat.le_of_ble_eq_true rfl) hR h1 hlen kk
theorem k_Ro_fill_39 {X : gC} {M : List mC} {k n : Nat} {x0 : Nat} {x1 : Nat} {x2 : Nat} {x3 : Int32} {fs2 : List Value} {f3 : Int32} (ok : gO X c_Ro_fill "TripleStore$Rows" w_Ro_fill) (h1 : M[x1]? = some (.inr (2, fs2))) (h4 : fs2[4]? = some (.int f3)) (kt : f3 = 0 → gg X M k n 53 [(0, .ref x0), (1, .ref x1), (2, .ref x2), (3, .int x3)] []) (kf : ¬ f3 = 0 → gg X M k n 46 [(0, .ref x0), (1, .ref x1), (2, .ref x2), (3, .int x3)] []) : gg X M k n 39 [(0, .ref x0), (1, .ref x1), (2, .ref x2), (3, .int x3)] [] := by
  refine g_aload_n ok d_Ro_fill_39 rfl (j := 1) rfl ?_
  refine gf_Ro_56 ok d_Ro_fill_40 h1 h4 ?_
  exact g_if_eq (tgt := 53) ok d_Ro_fill_43 (by decide) (fun z => (kt z)) (fun z => (kf z))
theorem k_Ro_fill_46 {X : gC} {M : List mC} {k n : Nat} {x0 : Nat} {x1 : Nat} {x2 : Nat} {x3 : Int32} {fs2 : List Value} (ok : gO X c_Ro_fill "TripleStore$Rows" w_Ro_fill) (h1 : M[x0]? = some (.inr (3, fs2))) {rm : Room} {post : Option Value → List mC → Prop} (hm : mm_ (gLa X) y_Ro_isLastKnown w_Ro_isLastKnown rm [.ref x0] M post) (hR : gF X rm 2 k n) (hlen : ∀ r M', post r M' → M'.length = M.length) (kk : ∀ r M', post r M' → gg X M' (k + rm.cells) (n + rm.slots) 50 [(0, .ref x0), (1, .ref x1), (2, .ref x2), (3, .int x3)] (r.toList ++ [])) : gg X M k n 46 [(0, .ref x0), (1, .ref x1), (2, .ref x2), (3, .int x3)] [] := by
  refine g_aload_n ok d_Ro_fill_46 rfl (j := 0) rfl ?_
  exact gc_Ro_60 (As := []) (rest := []) ok d_Ro_fill_47 hm rfl rfl (Nat.le_of_ble_eq_true rfl) hR h1 hlen kk
theorem k_Ro_fill_50 {X : gC} {M : List mC} {k n : Nat} {x0 : Nat} {x1 : Nat} {x2 : Nat} {x3 : Int32} {s0 : Int32} (ok : gO X c_Ro_fill "TripleStore$Rows" w_Ro_fill)  (kt : ¬ s0 = 0 → gg X M k n 63 [(0, .ref x0), (1, .ref x1), (2, .ref x2), (3, .int x3)] []) (kf : s0 = 0 → gg X M k n 53 [(0, .ref x0), (1, .ref x1), (2, .ref x2), (3, .int x3)] []) : gg X M k n 50 [(0, .ref x0), (1, .ref x1), (2, .ref x2), (3, .int x3)] [.int s0] := by
  exact g_if_ne (tgt := 63) ok d_Ro_fill_50 (by decide) (fun z => (kt z)) (fun z => (kf z))
theorem k_Ro_fill_53 {X : gC} {M : List mC} {k n : Nat} {x0 : Nat} {x1 : Nat} {x2 : Nat} {x3 : Int32} {fs2 : List Value} {f3 : Int32} {fs7 : List Value} {M9 : List mC} (ok : gO X c_Ro_fill "TripleStore$Rows" w_Ro_fill) (h1 : M[x0]? = some (.inr (3, fs2))) (h4 : fs2[3]? = some (.int f3)) (h6 : 4 ≤ fs2.length) (h8 : fs2.set 3 (.int (f3 + 1)) = fs7) (h10 : M.set x0 (.inr (3, fs7)) = M9) (kk : gg X M9 k n 63 [(0, .ref x0), (1, .ref x1), (2, .ref x2), (3, .int x3)] []) : gg X M k n 53 [(0, .ref x0), (1, .ref x1), (2, .ref x2), (3, .int x3)] [] := by
  refine g_aload_n ok d_Ro_fill_53 rfl (j := 0) rfl ?_
  refine g_dup ok d_Ro_fill_54 rfl ?_
  refine gf_Ro_23 ok d_Ro_fill_55 h1 h4 ?_
  refine g_iconst (v := 1) ok d_Ro_fill_58 (by decide) ?_
  refine g_iadd ok d_Ro_fill_59 ?_
  have h5 : 3 < fs2.length := Nat.lt_of_lt_of_le (by decide) h6
  refine pf_Ro_23 ok d_Ro_fill_60 h1 h5 (fun _ => ⟨rfl, rfl⟩) ?_
  rw [h8]
  rw [h10]
  have h11 : M9[x0]? = some (.inr (3, fs7)) := by rw [← h10]; exact gs_eq h1
  have h12 : fs7[3]? = some (.int (f3 + 1)) := by rw [← h8]; exact List.getElem?_set_self h5
  have h13 : 4 ≤ fs7.length := by rw [← h8, List.length_set]; exact h6
  exact kk
theorem k_Ro_fill_63 {X : gC} {M : List mC} {k n : Nat} {x0 : Nat} {x1 : Nat} {x2 : Nat} {x3 : Int32} (ok : gO X c_Ro_fill "TripleStore$Rows" w_Ro_fill) (hl : gL X = 4)  (kk : gg X M k n 8 [(0, .ref x0), (1, .ref x1), (2, .ref x2), (3, .int (x3 + 1))] []) : gg X M k n 63 [(0, .ref x0), (1, .ref x1), (2, .ref x2), (3, .int x3)] [] := by
  refine g_iinc (L' := [(0, .ref x0), (1, .ref x1), (2, .ref x2), (3, .int (x3 + 1))]) (v := (x3 + 1)) ok d_Ro_fill_63 (j := 3) rfl rfl (by rw [hl]; decide) rfl ?_
  exact g_goto (tgt := 8) ok d_Ro_fill_66 (by decide) kk
theorem k_Ro_fill_69 {X : gC} {M : List mC} {k n : Nat}  (ok : gO X c_Ro_fill "TripleStore$Rows" w_Ro_fill)  {l9 : Launch} {rm : Room} {M0 : List mC} {post : Option Value → List mC → Prop} (E : gE X l9 y_Ro_fill rm 4 none M0 post) (hp : post (none) M) (hk : k ≤ rm.cells) (hn : n ≤ rm.slots) : gg X M k n 69 [] [] := by
  exact g_vret ok E d_Ro_fill_69 hp hk hn
theorem k_Ro_takeRow_0 {X : gC} {M : List mC} {k n : Nat} {x0 : Nat} {x1 : Nat} {x2 : Nat} {x3 : Int32} {fs2 : List Value} {f3 : Int32} (ok : gO X c_Ro_takeRow "TripleStore$Rows" w_Ro_takeRow) (h1 : M[x0]? = some (.inr (3, fs2))) (h4 : fs2[3]? = some (.int f3)) (kt : f3 < 150 → gg X M k n 11 [(0, .ref x0), (1, .ref x1), (2, .ref x2), (3, .int x3)] []) (kf : ¬ f3 < 150 → gg X M k n 10 [] []) : gg X M k n 0 [(0, .ref x0), (1, .ref x1), (2, .ref x2), (3, .int x3)] [] := by
  refine g_aload_n ok d_Ro_takeRow_0 rfl (j := 0) rfl ?_
  refine gf_Ro_23 ok d_Ro_takeRow_1 h1 h4 ?_
  refine g_sipush (v := 150) ok d_Ro_takeRow_4 (by decide) ?_
  exact g_icmp_lt (tgt := 11) ok d_Ro_takeRow_7 (by decide) (fun z => (kt z)) (fun z => (gg_keep [] (kf z)))
theorem k_Ro_takeRow_10 {X : gC} {M : List mC} {k n : Nat}  (ok : gO X c_Ro_takeRow "TripleStore$Rows" w_Ro_takeRow)  {l9 : Launch} {rm : Room} {M0 : List mC} {post : Option Value → List mC → Prop} (E : gE X l9 y_Ro_takeRow rm 5 none M0 post) (hp : post (none) M) (hk : k ≤ rm.cells) (hn : n ≤ rm.slots) : gg X M k n 10 [] [] := by
  exact g_vret ok E d_Ro_takeRow_10 hp hk hn
theorem k_Ro_takeRow_11 {X : gC} {M : List mC} {k n : Nat} {x0 : Nat} {x1 : Nat} {x2 : Nat} {x3 : Int32} (ok : gO X c_Ro_takeRow "TripleStore$Rows" w_Ro_takeRow) (hl : gL X = 5)  (kk : gg X M k n 14 [(0, .ref x0), (1, .ref x1), (2, .ref x2), (3, .int x3), (4, .int 0)] []) : gg X M k n 11 [(0, .ref x0), (1, .ref x1), (2, .ref x2), (3, .int x3)] [] := by
  refine g_iconst (v := 0) ok d_Ro_takeRow_11 (by decide) ?_
  refine g_istore (L' := [(0, .ref x0), (1, .ref x1), (2, .ref x2), (3, .int x3), (4, .int 0)]) ok d_Ro_takeRow_12 (by rw [hl]; decide) rfl ?_
  exact kk
theorem k_Ro_takeRow_14 {X : gC} {M : List mC} {k n : Nat} {x0 : Nat} {x1 : Nat} {x2 : Nat} {x3 : Int32} {x4 : Int32} {fs2 : List Value} {f3 : Int32} (ok : gO X c_Ro_takeRow "TripleStore$Rows" w_Ro_takeRow) (h1 : M[x0]? = some (.inr (3, fs2))) (h4 : fs2[2]? = some (.int f3)) (kt : f3 ≤ x4 → gg X M k n 56 [] []) (kf : ¬ f3 ≤ x4 → gg X M k n 23 [(0, .ref x0), (1, .ref x1), (2, .ref x2), (3, .int x3), (4, .int x4)] []) : gg X M k n 14 [(0, .ref x0), (1, .ref x1), (2, .ref x2), (3, .int x3), (4, .int x4)] [] := by
  refine g_iload ok d_Ro_takeRow_14 (j := 4) rfl ?_
  refine g_aload_n ok d_Ro_takeRow_16 rfl (j := 0) rfl ?_
  refine gf_Ro_19 ok d_Ro_takeRow_17 h1 h4 ?_
  exact g_icmp_ge (tgt := 56) ok d_Ro_takeRow_20 (by decide) (fun z => (gg_keep [] (kt z))) (fun z => (kf z))
theorem k_Ro_takeRow_23 {X : gC} {M : List mC} {k n : Nat} {x0 : Nat} {x1 : Nat} {x2 : Nat} {x3 : Int32} {x4 : Int32} {fs2 : List Value} {f3 : Nat} {f5 : Int32} {fs8 : List Value} {f9 : Nat} {g12 : Nat → Int32} {N13 : Nat} {fs16 : List Value} (ok : gO X c_Ro_takeRow "TripleStore$Rows" w_Ro_takeRow) (h1 : M[x0]? = some (.inr (3, fs2))) (h4 : fs2[0]? = some (.ref f3)) (h6 : fs2[3]? = some (.int f5)) (h7 : M[x1]? = some (.inr (2, fs8))) (h10 : fs8[2]? = some (.ref f9)) (h11 : M[f9]? = some (.inl (0, N13, .inl g12))) (h14 : vp_in x4 N13) (h15 : M[x2]? = some (.inr (4, fs16))) {rm : Room} {post : Option Value → List mC → Prop} (hm : mm_ (gLa X) y_So_term w_So_term rm [.ref x2, .int x3, .int (g12 x4.toNatClampNeg)] M post) (hR : gF X rm 3 k n) (hlen : ∀ r M', post r M' → M'.length = M.length) (kk : ∀ r M', post r M' → gg X M' (k + rm.cells) (n + rm.slots) 49 [(0, .ref x0), (1, .ref x1), (2, .ref x2), (3, .int x3), (4, .int x4)] (r.toList ++ [.int ((f5 * 6) + x4), .ref f3])) : gg X M k n 23 [(0, .ref x0), (1, .ref x1), (2, .ref x2), (3, .int x3), (4, .int x4)] [] := by
  refine g_aload_n ok d_Ro_takeRow_23 rfl (j := 0) rfl ?_
  refine gf_Ro_9 ok d_Ro_takeRow_24 h1 h4 ?_
  refine g_aload_n ok d_Ro_takeRow_27 rfl (j := 0) rfl ?_
  refine gf_Ro_23 ok d_Ro_takeRow_28 h1 h6 ?_
  refine g_bipush (v := 6) ok d_Ro_takeRow_31 (by decide) ?_
  refine g_imul ok d_Ro_takeRow_33 ?_
  refine g_iload ok d_Ro_takeRow_34 (j := 4) rfl ?_
  refine g_iadd ok d_Ro_takeRow_36 ?_
  refine g_aload_n ok d_Ro_takeRow_37 rfl (j := 2) rfl ?_
  refine g_iload_n ok d_Ro_takeRow_38 rfl (j := 3) rfl ?_
  refine g_aload_n ok d_Ro_takeRow_39 rfl (j := 1) rfl ?_
  refine gf_Ro_64 ok d_Ro_takeRow_40 h7 h10 ?_
  refine g_iload ok d_Ro_takeRow_43 (j := 4) rfl ?_
  refine g_iald (t := 0) ok rfl d_Ro_takeRow_45 h11 h14 ?_
  exact gc_Ro_67 (As := [.int x3, .int (g12 x4.toNatClampNeg)]) (rest := [.int ((f5 * 6) + x4), .ref f3]) ok d_Ro_takeRow_46 hm rfl rfl (Nat.le_of_ble_eq_true rfl) hR h15 hlen kk
theorem k_Ro_takeRow_49 {X : gC} {M : List mC} {k n : Nat} {x0 : Nat} {x1 : Nat} {x2 : Nat} {x3 : Int32} {x4 : Int32} {s0 : Nat} {s1 : Int32} {s2 : Int64} {g2 : Nat → Int64} {N3 : Nat} {M5 : List mC} (ok : gO X c_Ro_takeRow "TripleStore$Rows" w_Ro_takeRow) (hl : gL X = 5) (h1 : M[s0]? = some (.inl (1, N3, .inr (.inl g2)))) (h4 : vp_in s1 N3) (h6 : M.set s0 (.inl (1, N3, .inr (.inl (vp_updL g2 s1.toNatClampNeg s2)))) = M5) (kk : gg X M5 k n 14 [(0, .ref x0), (1, .ref x1), (2, .ref x2), (3, .int x3), (4, .int (x4 + 1))] []) : gg X M k n 49 [(0, .ref x0), (1, .ref x1), (2, .ref x2), (3, .int x3), (4, .int x4)] [.long s2, .int s1, .ref s0] := by
  refine g_last (t := 1) ok rfl d_Ro_takeRow_49 h1 h4 ?_
  rw [h6]
  have h7 : M5[s0]? = some (.inl (1, N3, .inr (.inl (vp_updL g2 s1.toNatClampNeg s2)))) := by rw [← h6]; exact gs_eq h1
  refine g_iinc (L' := [(0, .ref x0), (1, .ref x1), (2, .ref x2), (3, .int x3), (4, .int (x4 + 1))]) (v := (x4 + 1)) ok d_Ro_takeRow_50 (j := 4) rfl rfl (by rw [hl]; decide) rfl ?_
  exact g_goto (tgt := 14) ok d_Ro_takeRow_53 (by decide) kk
theorem k_Ro_takeRow_56 {X : gC} {M : List mC} {k n : Nat}  (ok : gO X c_Ro_takeRow "TripleStore$Rows" w_Ro_takeRow)  {l9 : Launch} {rm : Room} {M0 : List mC} {post : Option Value → List mC → Prop} (E : gE X l9 y_Ro_takeRow rm 5 none M0 post) (hp : post (none) M) (hk : k ≤ rm.cells) (hn : n ≤ rm.slots) : gg X M k n 56 [] [] := by
  exact g_vret ok E d_Ro_takeRow_56 hp hk hn
theorem k_Ro_isLastKnown_0 {X : gC} {M : List mC} {k n : Nat} {x0 : Nat} (ok : gO X c_Ro_isLastKnown "TripleStore$Rows" w_Ro_isLastKnown) (hl : gL X = 2)  (kk : gg X M k n 2 [(0, .ref x0), (1, .int 0)] []) : gg X M k n 0 [(0, .ref x0)] [] := by
  refine g_iconst (v := 0) ok d_Ro_isLastKnown_0 (by decide) ?_
  refine g_istore_n (L' := [(0, .ref x0), (1, .int 0)]) ok d_Ro_isLastKnown_1 rfl (by rw [hl]; decide) rfl ?_
  exact kk
theorem k_Ro_isLastKnown_2 {X : gC} {M : List mC} {k n : Nat} {x0 : Nat} {x1 : Int32} {fs2 : List Value} {f3 : Int32} (ok : gO X c_Ro_isLastKnown "TripleStore$Rows" w_Ro_isLastKnown) (h1 : M[x0]? = some (.inr (3, fs2))) (h4 : fs2[3]? = some (.int f3)) (kt : f3 ≤ x1 → gg X M k n 30 [] []) (kf : ¬ f3 ≤ x1 → gg X M k n 10 [(0, .ref x0), (1, .int x1)] []) : gg X M k n 2 [(0, .ref x0), (1, .int x1)] [] := by
  refine g_iload_n ok d_Ro_isLastKnown_2 rfl (j := 1) rfl ?_
  refine g_aload_n ok d_Ro_isLastKnown_3 rfl (j := 0) rfl ?_
  refine gf_Ro_23 ok d_Ro_isLastKnown_4 h1 h4 ?_
  exact g_icmp_ge (tgt := 30) ok d_Ro_isLastKnown_7 (by decide) (fun z => (gg_keep [] (kt z))) (fun z => (kf z))
theorem k_Ro_isLastKnown_10 {X : gC} {M : List mC} {k n : Nat} {x0 : Nat} {x1 : Int32} {fs2 : List Value} {f3 : Int32} (ok : gO X c_Ro_isLastKnown "TripleStore$Rows" w_Ro_isLastKnown) (h1 : M[x0]? = some (.inr (3, fs2))) (h4 : fs2[3]? = some (.int f3)) {rm : Room} {post : Option Value → List mC → Prop} (hm : mm_ (gLa X) y_Ro_isSameRow w_Ro_isSameRow rm [.ref x0, .int x1, .int f3] M post) (hR : gF X rm 4 k n) (hlen : ∀ r M', post r M' → M'.length = M.length) (kk : ∀ r M', post r M' → gg X M' (k + rm.cells) (n + rm.slots) 19 [(0, .ref x0), (1, .int x1)] (r.toList ++ [])) : gg X M k n 10 [(0, .ref x0), (1, .int x1)] [] := by
  refine g_aload_n ok d_Ro_isLastKnown_10 rfl (j := 0) rfl ?_
  refine g_iload_n ok d_Ro_isLastKnown_11 rfl (j := 1) rfl ?_
  refine g_aload_n ok d_Ro_isLastKnown_12 rfl (j := 0) rfl ?_
  refine gf_Ro_23 ok d_Ro_isLastKnown_13 h1 h4 ?_
  exact gc_Ro_71 (As := [.int x1, .int f3]) (rest := []) ok d_Ro_isLastKnown_16 hm rfl rfl (Nat.le_of_ble_eq_true rfl) hR h1 hlen kk
theorem k_Ro_isLastKnown_19 {X : gC} {M : List mC} {k n : Nat} {x0 : Nat} {x1 : Int32} {s0 : Int32} (ok : gO X c_Ro_isLastKnown "TripleStore$Rows" w_Ro_isLastKnown)  (kt : s0 = 0 → gg X M k n 24 [(0, .ref x0), (1, .int x1)] []) (kf : ¬ s0 = 0 → gg X M k n 22 [] []) : gg X M k n 19 [(0, .ref x0), (1, .int x1)] [.int s0] := by
  exact g_if_eq (tgt := 24) ok d_Ro_isLastKnown_19 (by decide) (fun z => (kt z)) (fun z => (gg_keep [] (kf z)))
theorem k_Ro_isLastKnown_22 {X : gC} {M : List mC} {k n : Nat}  (ok : gO X c_Ro_isLastKnown "TripleStore$Rows" w_Ro_isLastKnown)  {l9 : Launch} {rm : Room} {M0 : List mC} {post : Option Value → List mC → Prop} (E : gE X l9 y_Ro_isLastKnown rm 2 (some .boolean) M0 post) (hp : post (some (.int 1)) M) (hk : k ≤ rm.cells) (hn : n ≤ rm.slots) : gg X M k n 22 [] [] := by
  refine g_iconst (v := 1) ok d_Ro_isLastKnown_22 (by decide) ?_
  exact g_zret ok E d_Ro_isLastKnown_23 rfl hp hk hn
theorem k_Ro_isLastKnown_24 {X : gC} {M : List mC} {k n : Nat} {x0 : Nat} {x1 : Int32} (ok : gO X c_Ro_isLastKnown "TripleStore$Rows" w_Ro_isLastKnown) (hl : gL X = 2)  (kk : gg X M k n 2 [(0, .ref x0), (1, .int (x1 + 1))] []) : gg X M k n 24 [(0, .ref x0), (1, .int x1)] [] := by
  refine g_iinc (L' := [(0, .ref x0), (1, .int (x1 + 1))]) (v := (x1 + 1)) ok d_Ro_isLastKnown_24 (j := 1) rfl rfl (by rw [hl]; decide) rfl ?_
  exact g_goto (tgt := 2) ok d_Ro_isLastKnown_27 (by decide) kk
theorem k_Ro_isLastKnown_30 {X : gC} {M : List mC} {k n : Nat}  (ok : gO X c_Ro_isLastKnown "TripleStore$Rows" w_Ro_isLastKnown)  {l9 : Launch} {rm : Room} {M0 : List mC} {post : Option Value → List mC → Prop} (E : gE X l9 y_Ro_isLastKnown rm 2 (some .boolean) M0 post) (hp : post (some (.int 0)) M) (hk : k ≤ rm.cells) (hn : n ≤ rm.slots) : gg X M k n 30 [] [] := by
  refine g_iconst (v := 0) ok d_Ro_isLastKnown_30 (by decide) ?_
  exact g_zret ok E d_Ro_isLastKnown_31 rfl hp hk hn
theorem k_Ro_isSameRow_0 {X : gC} {M : List mC} {k n : Nat} {x0 : Nat} {x1 : Int32} {x2 : Int32} (ok : gO X c_Ro_isSameRow "TripleStore$Rows" w_Ro_isSameRow)  (kt : 150 ≤ x1 → gg X M k n 14 [] []) (kf : ¬ 150 ≤ x1 → gg X M k n 7 [(0, .ref x0), (1, .int x1), (2, .int x2)] []) : gg X M k n 0 [(0, .ref x0), (1, .int x1), (2, .int x2)] [] := by
  refine g_iload_n ok d_Ro_isSameRow_0 rfl (j := 1) rfl ?_
  refine g_sipush (v := 150) ok d_Ro_isSameRow_1 (by decide) ?_
  exact g_icmp_ge (tgt := 14) ok d_Ro_isSameRow_4 (by decide) (fun z => (gg_keep [] (kt z))) (fun z => (kf z))
theorem k_Ro_isSameRow_7 {X : gC} {M : List mC} {k n : Nat} {x0 : Nat} {x1 : Int32} {x2 : Int32} (ok : gO X c_Ro_isSameRow "TripleStore$Rows" w_Ro_isSameRow)  (kt : x2 < 150 → gg X M k n 16 [(0, .ref x0), (1, .int x1), (2, .int x2)] []) (kf : ¬ x2 < 150 → gg X M k n 14 [] []) : gg X M k n 7 [(0, .ref x0), (1, .int x1), (2, .int x2)] [] := by
  refine g_iload_n ok d_Ro_isSameRow_7 rfl (j := 2) rfl ?_
  refine g_sipush (v := 150) ok d_Ro_isSameRow_8 (by decide) ?_
  exact g_icmp_lt (tgt := 16) ok d_Ro_isSameRow_11 (by decide) (fun z => (kt z)) (fun z => (gg_keep [] (kf z)))
theorem k_Ro_isSameRow_14 {X : gC} {M : List mC} {k n : Nat}  (ok : gO X c_Ro_isSameRow "TripleStore$Rows" w_Ro_isSameRow)  {l9 : Launch} {rm : Room} {M0 : List mC} {post : Option Value → List mC → Prop} (E : gE X l9 y_Ro_isSameRow rm 4 (some .boolean) M0 post) (hp : post (some (.int 0)) M) (hk : k ≤ rm.cells) (hn : n ≤ rm.slots) : gg X M k n 14 [] [] := by
  refine g_iconst (v := 0) ok d_Ro_isSameRow_14 (by decide) ?_
  exact g_zret ok E d_Ro_isSameRow_15 rfl hp hk hn
theorem k_Ro_isSameRow_16 {X : gC} {M : List mC} {k n : Nat} {x0 : Nat} {x1 : Int32} {x2 : Int32} (ok : gO X c_Ro_isSameRow "TripleStore$Rows" w_Ro_isSameRow) (hl : gL X = 4)  (kk : gg X M k n 18 [(0, .ref x0), (1, .int x1), (2, .int x2), (3, .int 0)] []) : gg X M k n 16 [(0, .ref x0), (1, .int x1), (2, .int x2)] [] := by
  refine g_iconst (v := 0) ok d_Ro_isSameRow_16 (by decide) ?_
  refine g_istore_n (L' := [(0, .ref x0), (1, .int x1), (2, .int x2), (3, .int 0)]) ok d_Ro_isSameRow_17 rfl (by rw [hl]; decide) rfl ?_
  exact kk
theorem k_Ro_isSameRow_18 {X : gC} {M : List mC} {k n : Nat} {x0 : Nat} {x1 : Int32} {x2 : Int32} {x3 : Int32} {fs2 : List Value} {f3 : Int32} (ok : gO X c_Ro_isSameRow "TripleStore$Rows" w_Ro_isSameRow) (h1 : M[x0]? = some (.inr (3, fs2))) (h4 : fs2[2]? = some (.int f3)) (kt : f3 ≤ x3 → gg X M k n 60 [] []) (kf : ¬ f3 ≤ x3 → gg X M k n 26 [(0, .ref x0), (1, .int x1), (2, .int x2), (3, .int x3)] []) : gg X M k n 18 [(0, .ref x0), (1, .int x1), (2, .int x2), (3, .int x3)] [] := by
  refine g_iload_n ok d_Ro_isSameRow_18 rfl (j := 3) rfl ?_
  refine g_aload_n ok d_Ro_isSameRow_19 rfl (j := 0) rfl ?_
  refine gf_Ro_19 ok d_Ro_isSameRow_20 h1 h4 ?_
  exact g_icmp_ge (tgt := 60) ok d_Ro_isSameRow_23 (by decide) (fun z => (gg_keep [] (kt z))) (fun z => (kf z))
theorem k_Ro_isSameRow_26 {X : gC} {M : List mC} {k n : Nat} {x0 : Nat} {x1 : Int32} {x2 : Int32} {x3 : Int32} {fs2 : List Value} {f3 : Nat} {g6 : Nat → Int64} {N7 : Nat} (ok : gO X c_Ro_isSameRow "TripleStore$Rows" w_Ro_isSameRow) (h1 : M[x0]? = some (.inr (3, fs2))) (h4 : fs2[0]? = some (.ref f3)) (h5 : M[f3]? = some (.inl (1, N7, .inr (.inl g6)))) (h8 : vp_in ((x1 * 6) + x3) N7) (h9 : vp_in ((x2 * 6) + x3) N7) (kt : (g6 ((x1 * 6) + x3).toNatClampNeg) = (g6 ((x2 * 6) + x3).toNatClampNeg) → gg X M k n 54 [(0, .ref x0), (1, .int x1), (2, .int x2), (3, .int x3)] []) (kf : ¬ (g6 ((x1 * 6) + x3).toNatClampNeg) = (g6 ((x2 * 6) + x3).toNatClampNeg) → gg X M k n 52 [] []) : gg X M k n 26 [(0, .ref x0), (1, .int x1), (2, .int x2), (3, .int x3)] [] := by
  refine g_aload_n ok d_Ro_isSameRow_26 rfl (j := 0) rfl ?_
  refine gf_Ro_9 ok d_Ro_isSameRow_27 h1 h4 ?_
  refine g_iload_n ok d_Ro_isSameRow_30 rfl (j := 1) rfl ?_
  refine g_bipush (v := 6) ok d_Ro_isSameRow_31 (by decide) ?_
  refine g_imul ok d_Ro_isSameRow_33 ?_
  refine g_iload_n ok d_Ro_isSameRow_34 rfl (j := 3) rfl ?_
  refine g_iadd ok d_Ro_isSameRow_35 ?_
  refine g_lald (t := 1) ok rfl d_Ro_isSameRow_36 h5 h8 ?_
  refine g_aload_n ok d_Ro_isSameRow_37 rfl (j := 0) rfl ?_
  refine gf_Ro_9 ok d_Ro_isSameRow_38 h1 h4 ?_
  refine g_iload_n ok d_Ro_isSameRow_41 rfl (j := 2) rfl ?_
  refine g_bipush (v := 6) ok d_Ro_isSameRow_42 (by decide) ?_
  refine g_imul ok d_Ro_isSameRow_44 ?_
  refine g_iload_n ok d_Ro_isSameRow_45 rfl (j := 3) rfl ?_
  refine g_iadd ok d_Ro_isSameRow_46 ?_
  refine g_lald (t := 1) ok rfl d_Ro_isSameRow_47 h5 h9 ?_
  exact g_lc_eq (tgt := 54) ok d_Ro_isSameRow_48 d_Ro_isSameRow_49 (by decide) (fun z => (kt z)) (fun z => (gg_keep [] (kf z)))
theorem k_Ro_isSameRow_52 {X : gC} {M : List mC} {k n : Nat}  (ok : gO X c_Ro_isSameRow "TripleStore$Rows" w_Ro_isSameRow)  {l9 : Launch} {rm : Room} {M0 : List mC} {post : Option Value → List mC → Prop} (E : gE X l9 y_Ro_isSameRow rm 4 (some .boolean) M0 post) (hp : post (some (.int 0)) M) (hk : k ≤ rm.cells) (hn : n ≤ rm.slots) : gg X M k n 52 [] [] := by
  refine g_iconst (v := 0) ok d_Ro_isSameRow_52 (by decide) ?_
  exact g_zret ok E d_Ro_isSameRow_53 rfl hp hk hn
theorem k_Ro_isSameRow_54 {X : gC} {M : List mC} {k n : Nat} {x0 : Nat} {x1 : Int32} {x2 : Int32} {x3 : Int32} (ok : gO X c_Ro_isSameRow "TripleStore$Rows" w_Ro_isSameRow) (hl : gL X = 4)  (kk : gg X M k n 18 [(0, .ref x0), (1, .int x1), (2, .int x2), (3, .int (x3 + 1))] []) : gg X M k n 54 [(0, .ref x0), (1, .int x1), (2, .int x2), (3, .int x3)] [] := by
  refine g_iinc (L' := [(0, .ref x0), (1, .int x1), (2, .int x2), (3, .int (x3 + 1))]) (v := (x3 + 1)) ok d_Ro_isSameRow_54 (j := 3) rfl rfl (by rw [hl]; decide) rfl ?_
  exact g_goto (tgt := 18) ok d_Ro_isSameRow_57 (by decide) kk
theorem k_Ro_isSameRow_60 {X : gC} {M : List mC} {k n : Nat}  (ok : gO X c_Ro_isSameRow "TripleStore$Rows" w_Ro_isSameRow)  {l9 : Launch} {rm : Room} {M0 : List mC} {post : Option Value → List mC → Prop} (E : gE X l9 y_Ro_isSameRow rm 4 (some .boolean) M0 post) (hp : post (some (.int 1)) M) (hk : k ≤ rm.cells) (hn : n ≤ rm.slots) : gg X M k n 60 [] [] := by
  refine g_iconst (v := 1) ok d_Ro_isSameRow_60 (by decide) ?_
  exact g_zret ok E d_Ro_isSameRow_61 rfl hp hk hn
theorem k_Ro_sort_0 {X : gC} {M : List mC} {k n : Nat} {x0 : Nat} {x1 : Nat} {x2 : Nat} (ok : gO X c_Ro_sort "TripleStore$Rows" w_Ro_sort) (hl : gL X = 5)  (kk : gg X M k n 2 [(0, .ref x0), (1, .ref x1), (2, .ref x2), (3, .int 0)] []) : gg X M k n 0 [(0, .ref x0), (1, .ref x1), (2, .ref x2)] [] := by
  refine g_iconst (v := 0) ok d_Ro_sort_0 (by decide) ?_
  refine g_istore_n (L' := [(0, .ref x0), (1, .ref x1), (2, .ref x2), (3, .int 0)]) ok d_Ro_sort_1 rfl (by rw [hl]; decide) rfl ?_
  exact kk
theorem k_Ro_sort_2 {X : gC} {M : List mC} {k n : Nat} {x0 : Nat} {x1 : Nat} {x2 : Nat} {x3 : Int32} {fs2 : List Value} (ok : gO X c_Ro_sort "TripleStore$Rows" w_Ro_sort) (h1 : M[x2]? = some (.inr (4, fs2))) {rm : Room} {post : Option Value → List mC → Prop} (hm : mm_ (gLa X) y_So_size w_So_size rm [.ref x2] M post) (hR : gF X rm 1 k n) (hlen : ∀ r M', post r M' → M'.length = M.length) (kk : ∀ r M', post r M' → gg X M' (k + rm.cells) (n + rm.slots) 7 [(0, .ref x0), (1, .ref x1), (2, .ref x2), (3, .int x3)] (r.toList ++ [.int x3])) : gg X M k n 2 [(0, .ref x0), (1, .ref x1), (2, .ref x2), (3, .int x3)] [] := by
  refine g_iload_n ok d_Ro_sort_2 rfl (j := 3) rfl ?_
  refine g_aload_n ok d_Ro_sort_3 rfl (j := 2) rfl ?_
  exact gc_Ro_42 (As := []) (rest := [.int x3]) ok d_Ro_sort_4 hm rfl rfl (Nat.le_of_ble_eq_true rfl) hR h1 hlen kk
theorem k_Ro_sort_7 {X : gC} {M : List mC} {k n : Nat} {x0 : Nat} {x1 : Nat} {x2 : Nat} {x3 : Int32} {s0 : Int32} {s1 : Int32} (ok : gO X c_Ro_sort "TripleStore$Rows" w_Ro_sort)  (kt : s1 ≤ s0 → gg X M k n 73 [] []) (kf : ¬ s1 ≤ s0 → gg X M k n 10 [(0, .ref x0), (1, .ref x1), (2, .ref x2), (3, .int x3)] []) : gg X M k n 7 [(0, .ref x0), (1, .ref x1), (2, .ref x2), (3, .int x3)] [.int s1, .int s0] := by
  exact g_icmp_ge (tgt := 73) ok d_Ro_sort_7 (by decide) (fun z => (gg_keep [] (kt z))) (fun z => (kf z))
theorem k_Ro_sort_10 {X : gC} {M : List mC} {k n : Nat} {x0 : Nat} {x1 : Nat} {x2 : Nat} {x3 : Int32} (ok : gO X c_Ro_sort "TripleStore$Rows" w_Ro_sort) (hl : gL X = 5)  (kk : gg X M k n 13 [(0, .ref x0), (1, .ref x1), (2, .ref x2), (3, .int x3), (4, .int x3)] []) : gg X M k n 10 [(0, .ref x0), (1, .ref x1), (2, .ref x2), (3, .int x3)] [] := by
  refine g_iload_n ok d_Ro_sort_10 rfl (j := 3) rfl ?_
  refine g_istore (L' := [(0, .ref x0), (1, .ref x1), (2, .ref x2), (3, .int x3), (4, .int x3)]) ok d_Ro_sort_11 (by rw [hl]; decide) rfl ?_
  exact kk
theorem k_Ro_sort_13 {X : gC} {M : List mC} {k n : Nat} {x0 : Nat} {x1 : Nat} {x2 : Nat} {x3 : Int32} {x4 : Int32} (ok : gO X c_Ro_sort "TripleStore$Rows" w_Ro_sort)  (kt : x4 ≤ 0 → gg X M k n 59 [(0, .ref x0), (1, .ref x1), (2, .ref x2), (3, .int x3), (4, .int x4)] []) (kf : ¬ x4 ≤ 0 → gg X M k n 18 [(0, .ref x0), (1, .ref x1), (2, .ref x2), (3, .int x3), (4, .int x4)] []) : gg X M k n 13 [(0, .ref x0), (1, .ref x1), (2, .ref x2), (3, .int x3), (4, .int x4)] [] := by
  refine g_iload ok d_Ro_sort_13 (j := 4) rfl ?_
  exact g_if_le (tgt := 59) ok d_Ro_sort_15 (by decide) (fun z => (kt z)) (fun z => (kf z))
theorem k_Ro_sort_18 {X : gC} {M : List mC} {k n : Nat} {x0 : Nat} {x1 : Nat} {x2 : Nat} {x3 : Int32} {x4 : Int32} {fs2 : List Value} {f3 : Nat} {g6 : Nat → Int32} {N7 : Nat} (ok : gO X c_Ro_sort "TripleStore$Rows" w_Ro_sort) (h1 : M[x0]? = some (.inr (3, fs2))) (h4 : fs2[1]? = some (.ref f3)) (h5 : M[f3]? = some (.inl (0, N7, .inl g6))) (h8 : vp_in (x4 - 1) N7) {rm : Room} {post : Option Value → List mC → Prop} (hm : mm_ (gLa X) y_Ro_standsBefore w_Ro_standsBefore rm [.ref x0, .ref x1, .ref x2, .int x3, .int (g6 (x4 - 1).toNatClampNeg)] M post) (hR : gF X rm 10 k n) (hlen : ∀ r M', post r M' → M'.length = M.length) (kk : ∀ r M', post r M' → gg X M' (k + rm.cells) (n + rm.slots) 34 [(0, .ref x0), (1, .ref x1), (2, .ref x2), (3, .int x3), (4, .int x4)] (r.toList ++ [])) : gg X M k n 18 [(0, .ref x0), (1, .ref x1), (2, .ref x2), (3, .int x3), (4, .int x4)] [] := by
  refine g_aload_n ok d_Ro_sort_18 rfl (j := 0) rfl ?_
  refine g_aload_n ok d_Ro_sort_19 rfl (j := 1) rfl ?_
  refine g_aload_n ok d_Ro_sort_20 rfl (j := 2) rfl ?_
  refine g_iload_n ok d_Ro_sort_21 rfl (j := 3) rfl ?_
  refine g_aload_n ok d_Ro_sort_22 rfl (j := 0) rfl ?_
  refine gf_Ro_15 ok d_Ro_sort_23 h1 h4 ?_
  refine g_iload ok d_Ro_sort_26 (j := 4) rfl ?_
  refine g_iconst (v := 1) ok d_Ro_sort_28 (by decide) ?_
  refine g_isub ok d_Ro_sort_29 ?_
  refine g_iald (t := 0) ok rfl d_Ro_sort_30 h5 h8 ?_
  exact gc_Ro_74 (As := [.ref x1, .ref x2, .int x3, .int (g6 (x4 - 1).toNatClampNeg)]) (rest := []) ok d_Ro_sort_31 hm rfl rfl (Nat.le_of_ble_eq_true rfl) hR h1 hlen kk
theorem k_Ro_sort_34 {X : gC} {M : List mC} {k n : Nat} {x0 : Nat} {x1 : Nat} {x2 : Nat} {x3 : Int32} {x4 : Int32} {s0 : Int32} (ok : gO X c_Ro_sort "TripleStore$Rows" w_Ro_sort)  (kt : s0 = 0 → gg X M k n 59 [(0, .ref x0), (1, .ref x1), (2, .ref x2), (3, .int x3), (4, .int x4)] []) (kf : ¬ s0 = 0 → gg X M k n 37 [(0, .ref x0), (1, .ref x1), (2, .ref x2), (3, .int x3), (4, .int x4)] []) : gg X M k n 34 [(0, .ref x0), (1, .ref x1), (2, .ref x2), (3, .int x3), (4, .int x4)] [.int s0] := by
  exact g_if_eq (tgt := 59) ok d_Ro_sort_34 (by decide) (fun z => (kt z)) (fun z => (kf z))
theorem k_Ro_sort_37 {X : gC} {M : List mC} {k n : Nat} {x0 : Nat} {x1 : Nat} {x2 : Nat} {x3 : Int32} {x4 : Int32} {fs2 : List Value} {f3 : Nat} {g6 : Nat → Int32} {N7 : Nat} {M10 : List mC} (ok : gO X c_Ro_sort "TripleStore$Rows" w_Ro_sort) (hl : gL X = 5) (h1 : M[x0]? = some (.inr (3, fs2))) (h4 : fs2[1]? = some (.ref f3)) (h5 : M[f3]? = some (.inl (0, N7, .inl g6))) (h8 : vp_in (x4 - 1) N7) (h9 : vp_in x4 N7) (h11 : M.set f3 (.inl (0, N7, .inl (upd g6 x4.toNatClampNeg (g6 (x4 - 1).toNatClampNeg)))) = M10) (kk : gg X M10 k n 13 [(0, .ref x0), (1, .ref x1), (2, .ref x2), (3, .int x3), (4, .int (x4 + (-1)))] []) : gg X M k n 37 [(0, .ref x0), (1, .ref x1), (2, .ref x2), (3, .int x3), (4, .int x4)] [] := by
  refine g_aload_n ok d_Ro_sort_37 rfl (j := 0) rfl ?_
  refine gf_Ro_15 ok d_Ro_sort_38 h1 h4 ?_
  refine g_iload ok d_Ro_sort_41 (j := 4) rfl ?_
  refine g_aload_n ok d_Ro_sort_43 rfl (j := 0) rfl ?_
  refine gf_Ro_15 ok d_Ro_sort_44 h1 h4 ?_
  refine g_iload ok d_Ro_sort_47 (j := 4) rfl ?_
  refine g_iconst (v := 1) ok d_Ro_sort_49 (by decide) ?_
  refine g_isub ok d_Ro_sort_50 ?_
  refine g_iald (t := 0) ok rfl d_Ro_sort_51 h5 h8 ?_
  refine g_iast (t := 0) ok rfl d_Ro_sort_52 h5 h9 ?_
  rw [h11]
  have h12 : M10[f3]? = some (.inl (0, N7, .inl (upd g6 x4.toNatClampNeg (g6 (x4 - 1).toNatClampNeg)))) := by rw [← h11]; exact gs_eq h5
  refine g_iinc (L' := [(0, .ref x0), (1, .ref x1), (2, .ref x2), (3, .int x3), (4, .int (x4 + (-1)))]) (v := (x4 + (-1))) ok d_Ro_sort_53 (j := 4) rfl rfl (by rw [hl]; decide) rfl ?_
  exact g_goto (tgt := 13) ok d_Ro_sort_56 (by decide) kk
theorem k_Ro_sort_59 {X : gC} {M : List mC} {k n : Nat} {x0 : Nat} {x1 : Nat} {x2 : Nat} {x3 : Int32} {x4 : Int32} {fs2 : List Value} {f3 : Nat} {g6 : Nat → Int32} {N7 : Nat} {M9 : List mC} (ok : gO X c_Ro_sort "TripleStore$Rows" w_Ro_sort) (hl : gL X = 5) (h1 : M[x0]? = some (.inr (3, fs2))) (h4 : fs2[1]? = some (.ref f3)) (h5 : M[f3]? = some (.inl (0, N7, .inl g6))) (h8 : vp_in x4 N7) (h10 : M.set f3 (.inl (0, N7, .inl (upd g6 x4.toNatClampNeg x3))) = M9) (kk : gg X M9 k n 2 [(0, .ref x0), (1, .ref x1), (2, .ref x2), (3, .int (x3 + 1))] []) : gg X M k n 59 [(0, .ref x0), (1, .ref x1), (2, .ref x2), (3, .int x3), (4, .int x4)] [] := by
  refine g_aload_n ok d_Ro_sort_59 rfl (j := 0) rfl ?_
  refine gf_Ro_15 ok d_Ro_sort_60 h1 h4 ?_
  refine g_iload ok d_Ro_sort_63 (j := 4) rfl ?_
  refine g_iload_n ok d_Ro_sort_65 rfl (j := 3) rfl ?_
  refine g_iast (t := 0) ok rfl d_Ro_sort_66 h5 h8 ?_
  rw [h10]
  have h11 : M9[f3]? = some (.inl (0, N7, .inl (upd g6 x4.toNatClampNeg x3))) := by rw [← h10]; exact gs_eq h5
  refine g_iinc (L' := [(0, .ref x0), (1, .ref x1), (2, .ref x2), (3, .int (x3 + 1)), (4, .int x4)]) (v := (x3 + 1)) ok d_Ro_sort_67 (j := 3) rfl rfl (by rw [hl]; decide) rfl ?_
  exact g_goto (tgt := 2) ok d_Ro_sort_70 (by decide) (gg_keep [0, 1, 2, 3] kk)
theorem k_Ro_sort_73 {X : gC} {M : List mC} {k n : Nat}  (ok : gO X c_Ro_sort "TripleStore$Rows" w_Ro_sort)  {l9 : Launch} {rm : Room} {M0 : List mC} {post : Option Value → List mC → Prop} (E : gE X l9 y_Ro_sort rm 5 none M0 post) (hp : post (none) M) (hk : k ≤ rm.cells) (hn : n ≤ rm.slots) : gg X M k n 73 [] [] := by
  exact g_vret ok E d_Ro_sort_73 hp hk hn
theorem k_Ro_standsBefore_0 {X : gC} {M : List mC} {k n : Nat} {x0 : Nat} {x1 : Nat} {x2 : Nat} {x3 : Int32} {x4 : Int32} {fs2 : List Value} {f3 : Int32} {fs6 : List Value} (ok : gO X c_Ro_standsBefore "TripleStore$Rows" w_Ro_standsBefore) (h1 : M[x1]? = some (.inr (2, fs2))) (h4 : fs2[5]? = some (.int f3)) (h5 : M[x2]? = some (.inr (4, fs6))) {rm : Room} {post : Option Value → List mC → Prop} (hm : mm_ (gLa X) y_So_term w_So_term rm [.ref x2, .int x3, .int f3] M post) (hR : gF X rm 3 k n) (hlen : ∀ r M', post r M' → M'.length = M.length) (kk : ∀ r M', post r M' → gg X M' (k + rm.cells) (n + rm.slots) 9 [(0, .ref x0), (1, .ref x1), (2, .ref x2), (3, .int x3), (4, .int x4)] (r.toList ++ [])) : gg X M k n 0 [(0, .ref x0), (1, .ref x1), (2, .ref x2), (3, .int x3), (4, .int x4)] [] := by
  refine g_aload_n ok d_Ro_standsBefore_0 rfl (j := 2) rfl ?_
  refine g_iload_n ok d_Ro_standsBefore_1 rfl (j := 3) rfl ?_
  refine g_aload_n ok d_Ro_standsBefore_2 rfl (j := 1) rfl ?_
  refine gf_Ro_78 ok d_Ro_standsBefore_3 h1 h4 ?_
  exact gc_Ro_67 (As := [.int x3, .int f3]) (rest := []) ok d_Ro_standsBefore_6 hm rfl rfl (Nat.le_of_ble_eq_true rfl) hR h5 hlen kk
theorem k_Ro_standsBefore_9 {X : gC} {M : List mC} {k n : Nat} {x0 : Nat} {x1 : Nat} {x2 : Nat} {x3 : Int32} {x4 : Int32} {s0 : Int64} {fs2 : List Value} {f3 : Int32} {fs6 : List Value} (ok : gO X c_Ro_standsBefore "TripleStore$Rows" w_Ro_standsBefore) (hl : gL X = 10) (h1 : M[x1]? = some (.inr (2, fs2))) (h4 : fs2[5]? = some (.int f3)) (h5 : M[x2]? = some (.inr (4, fs6))) {rm : Room} {post : Option Value → List mC → Prop} (hm : mm_ (gLa X) y_So_term w_So_term rm [.ref x2, .int x4, .int f3] M post) (hR : gF X rm 3 k n) (hlen : ∀ r M', post r M' → M'.length = M.length) (kk : ∀ r M', post r M' → gg X M' (k + rm.cells) (n + rm.slots) 21 [(0, .ref x0), (1, .ref x1), (2, .ref x2), (3, .int x3), (4, .int x4), (5, .long s0)] (r.toList ++ [])) : gg X M k n 9 [(0, .ref x0), (1, .ref x1), (2, .ref x2), (3, .int x3), (4, .int x4)] [.long s0] := by
  refine g_lstore (L' := [(0, .ref x0), (1, .ref x1), (2, .ref x2), (3, .int x3), (4, .int x4), (5, .long s0)]) ok d_Ro_standsBefore_9 (by rw [hl]; decide) rfl ?_
  refine g_aload_n ok d_Ro_standsBefore_11 rfl (j := 2) rfl ?_
  refine g_iload ok d_Ro_standsBefore_12 (j := 4) rfl ?_
  refine g_aload_n ok d_Ro_standsBefore_14 rfl (j := 1) rfl ?_
  refine gf_Ro_78 ok d_Ro_standsBefore_15 h1 h4 ?_
  exact gc_Ro_67 (As := [.int x4, .int f3]) (rest := []) ok d_Ro_standsBefore_18 hm rfl rfl (Nat.le_of_ble_eq_true rfl) hR h5 hlen kk
theorem k_Ro_standsBefore_21 {X : gC} {M : List mC} {k n : Nat} {x0 : Nat} {x1 : Nat} {x2 : Nat} {x3 : Int32} {x4 : Int32} {x5 : Int64} {s0 : Int64} (ok : gO X c_Ro_standsBefore "TripleStore$Rows" w_Ro_standsBefore) (hl : gL X = 10)  (kt : x5 = s0 → gg X M k n 68 [(0, .ref x0), (1, .ref x1), (2, .ref x2), (3, .int x3), (4, .int x4)] []) (kf : ¬ x5 = s0 → gg X M k n 31 [(1, .ref x1), (5, .long x5), (7, .long s0)] []) : gg X M k n 21 [(0, .ref x0), (1, .ref x1), (2, .ref x2), (3, .int x3), (4, .int x4), (5, .long x5)] [.long s0] := by
  refine g_lstore (L' := [(0, .ref x0), (1, .ref x1), (2, .ref x2), (3, .int x3), (4, .int x4), (5, .long x5), (7, .long s0)]) ok d_Ro_standsBefore_21 (by rw [hl]; decide) rfl ?_
  refine g_lload ok d_Ro_standsBefore_23 (j := 5) rfl ?_
  refine g_lload ok d_Ro_standsBefore_25 (j := 6) rfl ?_
  exact g_lc_eq (tgt := 68) ok d_Ro_standsBefore_27 d_Ro_standsBefore_28 (by decide) (fun z => (gg_keep [0, 1, 2, 3, 4] (kt z))) (fun z => (gg_keep [1, 5, 7] (kf z)))
theorem k_Ro_standsBefore_31 {X : gC} {M : List mC} {k n : Nat} {x1 : Nat} {x5 : Int64} {x7 : Int64} {fs2 : List Value} {f3 : Int32} (ok : gO X c_Ro_standsBefore "TripleStore$Rows" w_Ro_standsBefore) (h1 : M[x1]? = some (.inr (2, fs2))) (h4 : fs2[6]? = some (.int f3)) (kt : f3 = 0 → gg X M k n 54 [(5, .long x5), (7, .long x7)] []) (kf : ¬ f3 = 0 → gg X M k n 38 [(5, .long x5), (7, .long x7)] []) : gg X M k n 31 [(1, .ref x1), (5, .long x5), (7, .long x7)] [] := by
  refine g_aload_n ok d_Ro_standsBefore_31 rfl (j := 0) rfl ?_
  refine gf_Ro_81 ok d_Ro_standsBefore_32 h1 h4 ?_
  exact g_if_eq (tgt := 54) ok d_Ro_standsBefore_35 (by decide) (fun z => (gg_keep [5, 7] (kt z))) (fun z => (gg_keep [5, 7] (kf z)))
theorem k_Ro_standsBefore_38 {X : gC} {M : List mC} {k n : Nat} {x5 : Int64} {x7 : Int64} (ok : gO X c_Ro_standsBefore "TripleStore$Rows" w_Ro_standsBefore)  (kt : x5 ≤ x7 → gg X M k n 50 [] []) (kf : ¬ x5 ≤ x7 → gg X M k n 46 [] []) : gg X M k n 38 [(5, .long x5), (7, .long x7)] [] := by
  refine g_lload ok d_Ro_standsBefore_38 (j := 0) rfl ?_
  refine g_lload ok d_Ro_standsBefore_40 (j := 1) rfl ?_
  exact g_lc_le (tgt := 50) ok d_Ro_standsBefore_42 d_Ro_standsBefore_43 (by decide) (fun z => (gg_keep [] (kt z))) (fun z => (gg_keep [] (kf z)))
theorem k_Ro_standsBefore_46 {X : gC} {M : List mC} {k n : Nat}  (ok : gO X c_Ro_standsBefore "TripleStore$Rows" w_Ro_standsBefore)  (kk : gg X M k n 67 [] [.int 1]) : gg X M k n 46 [] [] := by
  refine g_iconst (v := 1) ok d_Ro_standsBefore_46 (by decide) ?_
  exact g_goto (tgt := 67) ok d_Ro_standsBefore_47 (by decide) kk
theorem k_Ro_standsBefore_50 {X : gC} {M : List mC} {k n : Nat}  (ok : gO X c_Ro_standsBefore "TripleStore$Rows" w_Ro_standsBefore)  (kk : gg X M k n 67 [] [.int 0]) : gg X M k n 50 [] [] := by
  refine g_iconst (v := 0) ok d_Ro_standsBefore_50 (by decide) ?_
  exact g_goto (tgt := 67) ok d_Ro_standsBefore_51 (by decide) kk
theorem k_Ro_standsBefore_54 {X : gC} {M : List mC} {k n : Nat} {x5 : Int64} {x7 : Int64} (ok : gO X c_Ro_standsBefore "TripleStore$Rows" w_Ro_standsBefore)  (kt : x7 ≤ x5 → gg X M k n 66 [] []) (kf : ¬ x7 ≤ x5 → gg X M k n 62 [] []) : gg X M k n 54 [(5, .long x5), (7, .long x7)] [] := by
  refine g_lload ok d_Ro_standsBefore_54 (j := 0) rfl ?_
  refine g_lload ok d_Ro_standsBefore_56 (j := 1) rfl ?_
  exact g_lc_ge (tgt := 66) ok d_Ro_standsBefore_58 d_Ro_standsBefore_59 (by decide) (fun z => (gg_keep [] (kt z))) (fun z => (gg_keep [] (kf z)))
theorem k_Ro_standsBefore_62 {X : gC} {M : List mC} {k n : Nat}  (ok : gO X c_Ro_standsBefore "TripleStore$Rows" w_Ro_standsBefore)  (kk : gg X M k n 67 [] [.int 1]) : gg X M k n 62 [] [] := by
  refine g_iconst (v := 1) ok d_Ro_standsBefore_62 (by decide) ?_
  exact g_goto (tgt := 67) ok d_Ro_standsBefore_63 (by decide) kk
theorem k_Ro_standsBefore_66 {X : gC} {M : List mC} {k n : Nat}  (ok : gO X c_Ro_standsBefore "TripleStore$Rows" w_Ro_standsBefore)  (kk : gg X M k n 67 [] [.int 0]) : gg X M k n 66 [] [] := by
  refine g_iconst (v := 0) ok d_Ro_standsBefore_66 (by decide) ?_
  exact kk
theorem k_Ro_standsBefore_67 {X : gC} {M : List mC} {k n : Nat} {s0 : Int32} (ok : gO X c_Ro_standsBefore "TripleStore$Rows" w_Ro_standsBefore)  {l9 : Launch} {rm : Room} {M0 : List mC} {post : Option Value → List mC → Prop} (E : gE X l9 y_Ro_standsBefore rm 10 (some .boolean) M0 post) (hz : narrow .boolean (.int s0) = .int s0) (hp : post (some (.int s0)) M) (hk : k ≤ rm.cells) (hn : n ≤ rm.slots) : gg X M k n 67 [] [.int s0] := by
  exact g_zret ok E d_Ro_standsBefore_67 hz hp hk hn
theorem k_Ro_standsBefore_68 {X : gC} {M : List mC} {k n : Nat} {x0 : Nat} {x1 : Nat} {x2 : Nat} {x3 : Int32} {x4 : Int32} (ok : gO X c_Ro_standsBefore "TripleStore$Rows" w_Ro_standsBefore) (hl : gL X = 10)  (kk : gg X M k n 71 [(0, .ref x0), (1, .ref x1), (2, .ref x2), (3, .int x3), (4, .int x4), (9, .int 0)] []) : gg X M k n 68 [(0, .ref x0), (1, .ref x1), (2, .ref x2), (3, .int x3), (4, .int x4)] [] := by
  refine g_iconst (v := 0) ok d_Ro_standsBefore_68 (by decide) ?_
  refine g_istore (L' := [(0, .ref x0), (1, .ref x1), (2, .ref x2), (3, .int x3), (4, .int x4), (9, .int 0)]) ok d_Ro_standsBefore_69 (by rw [hl]; decide) rfl ?_
  exact kk
theorem k_Ro_standsBefore_71 {X : gC} {M : List mC} {k n : Nat} {x0 : Nat} {x1 : Nat} {x2 : Nat} {x3 : Int32} {x4 : Int32} {x9 : Int32} {fs2 : List Value} {f3 : Int32} (ok : gO X c_Ro_standsBefore "TripleStore$Rows" w_Ro_standsBefore) (h1 : M[x0]? = some (.inr (3, fs2))) (h4 : fs2[2]? = some (.int f3)) (kt : f3 ≤ x9 → gg X M k n 137 [] []) (kf : ¬ f3 ≤ x9 → gg X M k n 80 [(0, .ref x0), (1, .ref x1), (2, .ref x2), (3, .int x3), (4, .int x4), (9, .int x9)] []) : gg X M k n 71 [(0, .ref x0), (1, .ref x1), (2, .ref x2), (3, .int x3), (4, .int x4), (9, .int x9)] [] := by
  refine g_iload ok d_Ro_standsBefore_71 (j := 5) rfl ?_
  refine g_aload_n ok d_Ro_standsBefore_73 rfl (j := 0) rfl ?_
  refine gf_Ro_19 ok d_Ro_standsBefore_74 h1 h4 ?_
  exact g_icmp_ge (tgt := 137) ok d_Ro_standsBefore_77 (by decide) (fun z => (gg_keep [] (kt z))) (fun z => (kf z))
theorem k_Ro_standsBefore_80 {X : gC} {M : List mC} {k n : Nat} {x0 : Nat} {x1 : Nat} {x2 : Nat} {x3 : Int32} {x4 : Int32} {x9 : Int32} {fs2 : List Value} {f3 : Nat} {g6 : Nat → Int32} {N7 : Nat} {fs10 : List Value} (ok : gO X c_Ro_standsBefore "TripleStore$Rows" w_Ro_standsBefore) (h1 : M[x1]? = some (.inr (2, fs2))) (h4 : fs2[2]? = some (.ref f3)) (h5 : M[f3]? = some (.inl (0, N7, .inl g6))) (h8 : vp_in x9 N7) (h9 : M[x2]? = some (.inr (4, fs10))) {rm : Room} {post : Option Value → List mC → Prop} (hm : mm_ (gLa X) y_So_term w_So_term rm [.ref x2, .int x3, .int (g6 x9.toNatClampNeg)] M post) (hR : gF X rm 3 k n) (hlen : ∀ r M', post r M' → M'.length = M.length) (kk : ∀ r M', post r M' → gg X M' (k + rm.cells) (n + rm.slots) 92 [(0, .ref x0), (1, .ref x1), (2, .ref x2), (3, .int x3), (4, .int x4), (9, .int x9)] (r.toList ++ [])) : gg X M k n 80 [(0, .ref x0), (1, .ref x1), (2, .ref x2), (3, .int x3), (4, .int x4), (9, .int x9)] [] := by
  refine g_aload_n ok d_Ro_standsBefore_80 rfl (j := 2) rfl ?_
  refine g_iload_n ok d_Ro_standsBefore_81 rfl (j := 3) rfl ?_
  refine g_aload_n ok d_Ro_standsBefore_82 rfl (j := 1) rfl ?_
  refine gf_Ro_64 ok d_Ro_standsBefore_83 h1 h4 ?_
  refine g_iload ok d_Ro_standsBefore_86 (j := 5) rfl ?_
  refine g_iald (t := 0) ok rfl d_Ro_standsBefore_88 h5 h8 ?_
  exact gc_Ro_67 (As := [.int x3, .int (g6 x9.toNatClampNeg)]) (rest := []) ok d_Ro_standsBefore_89 hm rfl rfl (Nat.le_of_ble_eq_true rfl) hR h9 hlen kk
theorem k_Ro_standsBefore_92 {X : gC} {M : List mC} {k n : Nat} {x0 : Nat} {x1 : Nat} {x2 : Nat} {x3 : Int32} {x4 : Int32} {x9 : Int32} {s0 : Int64} {fs2 : List Value} {f3 : Nat} {g6 : Nat → Int32} {N7 : Nat} {fs10 : List Value} (ok : gO X c_Ro_standsBefore "TripleStore$Rows" w_Ro_standsBefore) (hl : gL X = 10) (h1 : M[x1]? = some (.inr (2, fs2))) (h4 : fs2[2]? = some (.ref f3)) (h5 : M[f3]? = some (.inl (0, N7, .inl g6))) (h8 : vp_in x9 N7) (h9 : M[x2]? = some (.inr (4, fs10))) {rm : Room} {post : Option Value → List mC → Prop} (hm : mm_ (gLa X) y_So_term w_So_term rm [.ref x2, .int x4, .int (g6 x9.toNatClampNeg)] M post) (hR : gF X rm 3 k n) (hlen : ∀ r M', post r M' → M'.length = M.length) (kk : ∀ r M', post r M' → gg X M' (k + rm.cells) (n + rm.slots) 107 [(0, .ref x0), (1, .ref x1), (2, .ref x2), (3, .int x3), (4, .int x4), (5, .long s0), (9, .int x9)] (r.toList ++ [])) : gg X M k n 92 [(0, .ref x0), (1, .ref x1), (2, .ref x2), (3, .int x3), (4, .int x4), (9, .int x9)] [.long s0] := by
  refine g_lstore (L' := [(0, .ref x0), (1, .ref x1), (2, .ref x2), (3, .int x3), (4, .int x4), (5, .long s0), (9, .int x9)]) ok d_Ro_standsBefore_92 (by rw [hl]; decide) rfl ?_
  refine g_aload_n ok d_Ro_standsBefore_94 rfl (j := 2) rfl ?_
  refine g_iload ok d_Ro_standsBefore_95 (j := 4) rfl ?_
  refine g_aload_n ok d_Ro_standsBefore_97 rfl (j := 1) rfl ?_
  refine gf_Ro_64 ok d_Ro_standsBefore_98 h1 h4 ?_
  refine g_iload ok d_Ro_standsBefore_101 (j := 6) rfl ?_
  refine g_iald (t := 0) ok rfl d_Ro_standsBefore_103 h5 h8 ?_
  exact gc_Ro_67 (As := [.int x4, .int (g6 x9.toNatClampNeg)]) (rest := []) ok d_Ro_standsBefore_104 hm rfl rfl (Nat.le_of_ble_eq_true rfl) hR h9 hlen kk
theorem k_Ro_standsBefore_107 {X : gC} {M : List mC} {k n : Nat} {x0 : Nat} {x1 : Nat} {x2 : Nat} {x3 : Int32} {x4 : Int32} {x5 : Int64} {x9 : Int32} {s0 : Int64} (ok : gO X c_Ro_standsBefore "TripleStore$Rows" w_Ro_standsBefore) (hl : gL X = 10)  (kt : x5 = s0 → gg X M k n 131 [(0, .ref x0), (1, .ref x1), (2, .ref x2), (3, .int x3), (4, .int x4), (9, .int x9)] []) (kf : ¬ x5 = s0 → gg X M k n 117 [(5, .long x5), (7, .long s0)] []) : gg X M k n 107 [(0, .ref x0), (1, .ref x1), (2, .ref x2), (3, .int x3), (4, .int x4), (5, .long x5), (9, .int x9)] [.long s0] := by
  refine g_lstore (L' := [(0, .ref x0), (1, .ref x1), (2, .ref x2), (3, .int x3), (4, .int x4), (5, .long x5), (7, .long s0), (9, .int x9)]) ok d_Ro_standsBefore_107 (by rw [hl]; decide) rfl ?_
  refine g_lload ok d_Ro_standsBefore_109 (j := 5) rfl ?_
  refine g_lload ok d_Ro_standsBefore_111 (j := 6) rfl ?_
  exact g_lc_eq (tgt := 131) ok d_Ro_standsBefore_113 d_Ro_standsBefore_114 (by decide) (fun z => (gg_keep [0, 1, 2, 3, 4, 9] (kt z))) (fun z => (gg_keep [5, 7] (kf z)))
theorem k_Ro_standsBefore_117 {X : gC} {M : List mC} {k n : Nat} {x5 : Int64} {x7 : Int64} (ok : gO X c_Ro_standsBefore "TripleStore$Rows" w_Ro_standsBefore)  (kt : x7 ≤ x5 → gg X M k n 129 [] []) (kf : ¬ x7 ≤ x5 → gg X M k n 125 [] []) : gg X M k n 117 [(5, .long x5), (7, .long x7)] [] := by
  refine g_lload ok d_Ro_standsBefore_117 (j := 0) rfl ?_
  refine g_lload ok d_Ro_standsBefore_119 (j := 1) rfl ?_
  exact g_lc_ge (tgt := 129) ok d_Ro_standsBefore_121 d_Ro_standsBefore_122 (by decide) (fun z => (gg_keep [] (kt z))) (fun z => (gg_keep [] (kf z)))
theorem k_Ro_standsBefore_125 {X : gC} {M : List mC} {k n : Nat}  (ok : gO X c_Ro_standsBefore "TripleStore$Rows" w_Ro_standsBefore)  (kk : gg X M k n 130 [] [.int 1]) : gg X M k n 125 [] [] := by
  refine g_iconst (v := 1) ok d_Ro_standsBefore_125 (by decide) ?_
  exact g_goto (tgt := 130) ok d_Ro_standsBefore_126 (by decide) kk
theorem k_Ro_standsBefore_129 {X : gC} {M : List mC} {k n : Nat}  (ok : gO X c_Ro_standsBefore "TripleStore$Rows" w_Ro_standsBefore)  (kk : gg X M k n 130 [] [.int 0]) : gg X M k n 129 [] [] := by
  refine g_iconst (v := 0) ok d_Ro_standsBefore_129 (by decide) ?_
  exact kk
theorem k_Ro_standsBefore_130 {X : gC} {M : List mC} {k n : Nat} {s0 : Int32} (ok : gO X c_Ro_standsBefore "TripleStore$Rows" w_Ro_standsBefore)  {l9 : Launch} {rm : Room} {M0 : List mC} {post : Option Value → List mC → Prop} (E : gE X l9 y_Ro_standsBefore rm 10 (some .boolean) M0 post) (hz : narrow .boolean (.int s0) = .int s0) (hp : post (some (.int s0)) M) (hk : k ≤ rm.cells) (hn : n ≤ rm.slots) : gg X M k n 130 [] [.int s0] := by
  exact g_zret ok E d_Ro_standsBefore_130 hz hp hk hn
theorem k_Ro_standsBefore_131 {X : gC} {M : List mC} {k n : Nat} {x0 : Nat} {x1 : Nat} {x2 : Nat} {x3 : Int32} {x4 : Int32} {x9 : Int32} (ok : gO X c_Ro_standsBefore "TripleStore$Rows" w_Ro_standsBefore) (hl : gL X = 10)  (kk : gg X M k n 71 [(0, .ref x0), (1, .ref x1), (2, .ref x2), (3, .int x3), (4, .int x4), (9, .int (x9 + 1))] []) : gg X M k n 131 [(0, .ref x0), (1, .ref x1), (2, .ref x2), (3, .int x3), (4, .int x4), (9, .int x9)] [] := by
  refine g_iinc (L' := [(0, .ref x0), (1, .ref x1), (2, .ref x2), (3, .int x3), (4, .int x4), (9, .int (x9 + 1))]) (v := (x9 + 1)) ok d_Ro_standsBefore_131 (j := 5) rfl rfl (by rw [hl]; decide) rfl ?_
  exact g_goto (tgt := 71) ok d_Ro_standsBefore_134 (by decide) kk
theorem k_Ro_standsBefore_137 {X : gC} {M : List mC} {k n : Nat}  (ok : gO X c_Ro_standsBefore "TripleStore$Rows" w_Ro_standsBefore)  {l9 : Launch} {rm : Room} {M0 : List mC} {post : Option Value → List mC → Prop} (E : gE X l9 y_Ro_standsBefore rm 10 (some .boolean) M0 post) (hp : post (some (.int 0)) M) (hk : k ≤ rm.cells) (hn : n ≤ rm.slots) : gg X M k n 137 [] [] := by
  refine g_iconst (v := 0) ok d_Ro_standsBefore_137 (by decide) ?_
  exact g_zret ok E d_Ro_standsBefore_138 rfl hp hk hn
theorem k_Sv_init_0 {X : gC} {M : List mC} {k n : Nat} {x0 : Nat} {x1 : Nat} {x2 : Nat} (ok : gO X c_Sv_init "TripleStore$Solver" w_Sv_init)  (hf : 1 ≤ (gR X).frames) (hl2 : (([] : List Value).map fun v => v.category).sum + 12 ≤ (gR X).locals) (kk : gg X M k n 4 [(0, .ref x0), (1, .ref x1), (2, .ref x2)] []) : gg X M k n 0 [(0, .ref x0), (1, .ref x1), (2, .ref x2)] [] := by
  refine g_aload_n ok d_Sv_init_0 rfl (j := 0) rfl ?_
  exact g_objI ok ml_Sv_3 wn_Object i_Object d_Sv_init_1 hf hl2 kk
theorem k_Sv_init_4 {X : gC} {M : List mC} {k n : Nat} {x0 : Nat} {x1 : Nat} {x2 : Nat} {M4 : List mC} {q5 : Nat} {fs10 : List Value} {fs14 : List Value} {M16 : List mC} {M24 : List mC} {q25 : Nat} {fs32 : List Value} {M34 : List mC} {M43 : List mC} {q44 : Nat} {fs53 : List Value} {M55 : List mC} {fs63 : List Value} {M65 : List mC} {fs74 : List Value} {M76 : List mC} (ok : gO X c_Sv_init "TripleStore$Solver" w_Sv_init) (hl : gL X = 4) (hin : (gM X).name = "<init>") (h1 : k + 1 ≤ (gR X).cells) (h2 : n + 4 ≤ (gR X).slots) (h3 : gW M [(0, .ref x0), (1, .ref x1), (2, .ref x2)] [.ref x0]) (h6 : M ++ [.inl (5, 4, .inr (.inr (.inr (.inr (fun _ => none)))))] = M4) (h7 : M.length = q5) (h9 : M[x0]? = some (.inr (5, fs10))) (h13 : 5 ≤ fs10.length) (h15 : fs10.set 2 (.ref q5) = fs14) (h17 : M4.set x0 (.inr (5, fs14)) = M16) (h21 : k + 1 + 1 ≤ (gR X).cells) (h22 : n + 4 + 4 ≤ (gR X).slots) (h23 : gW M16 [(0, .ref x0), (1, .ref x1), (2, .ref x2)] [.ref x0]) (h26 : M16 ++ [.inl (5, 4, .inr (.inr (.inr (.inr (fun _ => none)))))] = M24) (h27 : M16.length = q25) (h33 : fs14.set 3 (.ref q25) = fs32) (h35 : M24.set x0 (.inr (5, fs32)) = M34) (h40 : k + 1 + 1 + 1 ≤ (gR X).cells) (h41 : n + 4 + 4 + 6 ≤ (gR X).slots) (h42 : gW M34 [(0, .ref x0), (1, .ref x1), (2, .ref x2)] [.ref x0]) (h45 : M34 ++ [.inl (1, 6, .inr (.inl (fun _ => 0)))] = M43) (h46 : M34.length = q44) (h54 : fs32.set 4 (.ref q44) = fs53) (h56 : M43.set x0 (.inr (5, fs53)) = M55) (h64 : fs53.set 0 (.ref x1) = fs63) (h66 : M55.set x0 (.inr (5, fs63)) = M65) (h75 : fs63.set 1 (.ref x2) = fs74) (h77 : M65.set x0 (.inr (5, fs74)) = M76) (kk : gg X M76 (k + 1 + 1 + 1) (n + 4 + 4 + 6) 40 [(0, .ref x0), (3, .int 0)] []) : gg X M k n 4 [(0, .ref x0), (1, .ref x1), (2, .ref x2)] [] := by
  refine g_aload_n ok d_Sv_init_4 rfl (j := 0) rfl ?_
  refine g_iconst (v := 4) ok d_Sv_init_5 (by decide) ?_
  refine g_newq (E := "TripleStore$Solutions") (t := 5) (N := 4) ok (List.mem_cons_of_mem _ (gT_at 232 (by decide +kernel) (by decide +kernel))) (yT_at 233 (by decide +kernel) (by decide +kernel)) rfl (by decide) (by decide) (by decide) d_Sv_init_6 h1 h2 h3 ?_
  rw [h6, h7]
  have h8 : M4[q5]? = some (.inl (5, 4, .inr (.inr (.inr (.inr (fun _ => none)))))) := by rw [← h6, ← h7]; exact ga_new _ _
  have h11 : M4[x0]? = some (.inr (5, fs10)) := by rw [← h6]; exact ga_old h9
  have h12 : 2 < fs10.length := Nat.lt_of_lt_of_le (by decide) h13
  refine pf_Sv_11 ok hin d_Sv_init_9 h11 h12 (fun _ => ⟨rfl, rfl⟩) ?_
  rw [h15]
  rw [h17]
  have h18 : M16[x0]? = some (.inr (5, fs14)) := by rw [← h17]; exact gs_eq h11
  have h19 : fs14[2]? = some (.ref q5) := by rw [← h15]; exact List.getElem?_set_self h12
  have h20 : 5 ≤ fs14.length := by rw [← h15, List.length_set]; exact h13
  refine g_aload_n ok d_Sv_init_12 rfl (j := 0) rfl ?_
  refine g_iconst (v := 4) ok d_Sv_init_13 (by decide) ?_
  refine g_newq (E := "TripleStore$Solutions") (t := 5) (N := 4) ok (List.mem_cons_of_mem _ (gT_at 232 (by decide +kernel) (by decide +kernel))) (yT_at 233 (by decide +kernel) (by decide +kernel)) rfl (by decide) (by decide) (by decide) d_Sv_init_14 h21 h22 h23 ?_
  rw [h26, h27]
  have h28 : M24[q25]? = some (.inl (5, 4, .inr (.inr (.inr (.inr (fun _ => none)))))) := by rw [← h26, ← h27]; exact ga_new _ _
  have h29 : M16[q5]? = some (.inl (5, 4, .inr (.inr (.inr (.inr (fun _ => none)))))) := by rw [← h17]; exact (gs_ne (Ne.symm (ne_ao h8 h11))).trans h8
  have h30 : M24[x0]? = some (.inr (5, fs14)) := by rw [← h26]; exact ga_old h18
  have h31 : 3 < fs14.length := Nat.lt_of_lt_of_le (by decide) h20
  refine pf_Sv_17 ok hin d_Sv_init_17 h30 h31 (fun _ => ⟨rfl, rfl⟩) ?_
  rw [h33]
  rw [h35]
  have h36 : M34[x0]? = some (.inr (5, fs32)) := by rw [← h35]; exact gs_eq h30
  have h37 : fs32[2]? = some (.ref q5) := by rw [← h33]; exact (List.getElem?_set_ne (by decide : 3 ≠ 2)).trans h19
  have h38 : fs32[3]? = some (.ref q25) := by rw [← h33]; exact List.getElem?_set_self h31
  have h39 : 5 ≤ fs32.length := by rw [← h33, List.length_set]; exact h20
  refine g_aload_n ok d_Sv_init_20 rfl (j := 0) rfl ?_
  refine g_bipush (v := 6) ok d_Sv_init_21 (by decide) ?_
  refine g_newa (atype := .long) (ty := .long) (t := 1) (N := 6) (a0 := (6, .inr (.inl (fun _ => 0)))) ok (List.mem_cons_of_mem _ (gT_at 56 (by decide +kernel) (by decide +kernel))) rfl rfl (fun _ => rfl) (fun _ => rfl) (by decide) (by decide) (by decide) d_Sv_init_23 h40 h41 h42 ?_
  rw [h45, h46]
  have h47 : M43[q44]? = some (.inl (1, 6, .inr (.inl (fun _ => 0)))) := by rw [← h45, ← h46]; exact ga_new _ _
  have h48 : M24[q5]? = some (.inl (5, 4, .inr (.inr (.inr (.inr (fun _ => none)))))) := by rw [← h26]; exact ga_old h29
  have h49 : M34[q5]? = some (.inl (5, 4, .inr (.inr (.inr (.inr (fun _ => none)))))) := by rw [← h35]; exact (gs_ne (Ne.symm (ne_ao h48 h30))).trans h48
  have h50 : M34[q25]? = some (.inl (5, 4, .inr (.inr (.inr (.inr (fun _ => none)))))) := by rw [← h35]; exact (gs_ne (Ne.symm (ne_ao h28 h30))).trans h28
  have h51 : M43[x0]? = some (.inr (5, fs32)) := by rw [← h45]; exact ga_old h36
  have h52 : 4 < fs32.length := Nat.lt_of_lt_of_le (by decide) h39
  refine pf_Sv_20 ok hin d_Sv_init_25 h51 h52 (fun _ => ⟨rfl, rfl⟩) ?_
  rw [h54]
  rw [h56]
  have h57 : M55[x0]? = some (.inr (5, fs53)) := by rw [← h56]; exact gs_eq h51
  have h58 : fs53[2]? = some (.ref q5) := by rw [← h54]; exact (List.getElem?_set_ne (by decide : 4 ≠ 2)).trans h37
  have h59 : fs53[3]? = some (.ref q25) := by rw [← h54]; exact (List.getElem?_set_ne (by decide : 4 ≠ 3)).trans h38
  have h60 : fs53[4]? = some (.ref q44) := by rw [← h54]; exact List.getElem?_set_self h52
  have h61 : 5 ≤ fs53.length := by rw [← h54, List.length_set]; exact h39
  refine g_aload_n ok d_Sv_init_28 rfl (j := 0) rfl ?_
  refine g_aload_n ok d_Sv_init_29 rfl (j := 1) rfl ?_
  have h62 : 0 < fs53.length := Nat.lt_of_lt_of_le (by decide) h61
  refine pf_Sv_24 ok hin d_Sv_init_30 h57 h62 (fun _ => ⟨rfl, rfl⟩) ?_
  rw [h64]
  rw [h66]
  have h67 : M65[x0]? = some (.inr (5, fs63)) := by rw [← h66]; exact gs_eq h57
  have h68 : fs63[2]? = some (.ref q5) := by rw [← h64]; exact (List.getElem?_set_ne (by decide : 0 ≠ 2)).trans h58
  have h69 : fs63[3]? = some (.ref q25) := by rw [← h64]; exact (List.getElem?_set_ne (by decide : 0 ≠ 3)).trans h59
  have h70 : fs63[4]? = some (.ref q44) := by rw [← h64]; exact (List.getElem?_set_ne (by decide : 0 ≠ 4)).trans h60
  have h71 : fs63[0]? = some (.ref x1) := by rw [← h64]; exact List.getElem?_set_self h62
  have h72 : 5 ≤ fs63.length := by rw [← h64, List.length_set]; exact h61
  refine g_aload_n ok d_Sv_init_33 rfl (j := 0) rfl ?_
  refine g_aload_n ok d_Sv_init_34 rfl (j := 2) rfl ?_
  have h73 : 1 < fs63.length := Nat.lt_of_lt_of_le (by decide) h72
  refine pf_Sv_28 ok hin d_Sv_init_35 h67 h73 (fun _ => ⟨rfl, rfl⟩) ?_
  rw [h75]
  rw [h77]
  have h78 : M76[x0]? = some (.inr (5, fs74)) := by rw [← h77]; exact gs_eq h67
  have h79 : fs74[2]? = some (.ref q5) := by rw [← h75]; exact (List.getElem?_set_ne (by decide : 1 ≠ 2)).trans h68
  have h80 : fs74[3]? = some (.ref q25) := by rw [← h75]; exact (List.getElem?_set_ne (by decide : 1 ≠ 3)).trans h69
  have h81 : fs74[4]? = some (.ref q44) := by rw [← h75]; exact (List.getElem?_set_ne (by decide : 1 ≠ 4)).trans h70
  have h82 : fs74[0]? = some (.ref x1) := by rw [← h75]; exact (List.getElem?_set_ne (by decide : 1 ≠ 0)).trans h71
  have h83 : fs74[1]? = some (.ref x2) := by rw [← h75]; exact List.getElem?_set_self h73
  have h84 : 5 ≤ fs74.length := by rw [← h75, List.length_set]; exact h72
  refine g_iconst (v := 0) ok d_Sv_init_38 (by decide) ?_
  refine g_istore_n (L' := [(0, .ref x0), (1, .ref x1), (2, .ref x2), (3, .int 0)]) ok d_Sv_init_39 rfl (by rw [hl]; decide) rfl ?_
  exact (gg_keep [0, 3] kk)
theorem k_Sv_init_40 {X : gC} {M : List mC} {k n : Nat} {x0 : Nat} {x3 : Int32} (ok : gO X c_Sv_init "TripleStore$Solver" w_Sv_init)  (kt : 4 ≤ x3 → gg X M k n 77 [] []) (kf : ¬ 4 ≤ x3 → gg X M k n 45 [(0, .ref x0), (3, .int x3)] []) : gg X M k n 40 [(0, .ref x0), (3, .int x3)] [] := by
  refine g_iload_n ok d_Sv_init_40 rfl (j := 1) rfl ?_
  refine g_iconst (v := 4) ok d_Sv_init_41 (by decide) ?_
  exact g_icmp_ge (tgt := 77) ok d_Sv_init_42 (by decide) (fun z => (gg_keep [] (kt z))) (fun z => (kf z))
theorem k_Sv_init_45 {X : gC} {M : List mC} {k n : Nat} {x0 : Nat} {x3 : Int32} {fs2 : List Value} {f3 : Nat} {M8 : List mC} {q9 : Nat} (ok : gO X c_Sv_init "TripleStore$Solver" w_Sv_init) (h1 : M[x0]? = some (.inr (5, fs2))) (h4 : fs2[2]? = some (.ref f3)) (h5 : k + 1 ≤ (gR X).cells) (h6 : n + 2 ≤ (gR X).slots) (h7 : gW M [(0, .ref x0), (3, .int x3)] [.int x3, .ref f3]) (h10 : M ++ [.inr (4, [.null, .int 0])] = M8) (h11 : M.length = q9) {rm : Room} {post : Option Value → List mC → Prop} (hm : mm_ (gLa X) y_So_init w_So_init rm [.ref q9] M8 post) (hR : gF X rm 1 (k + 1) (n + 2)) (hL : ∀ q ∈ ([(0, .ref x0), (3, .int x3)] : List (Nat × Value)), mk_v M8.length q.2) (hrs : ∀ v ∈ ([.ref q9, .int x3, .ref f3] : List Value), mk_v M8.length v) (kk : ∀ r M', post r M' → gg X M' (k + 1 + rm.cells) (n + 2 + rm.slots) 57 [(0, .ref x0), (3, .int x3)] (r.toList ++ [.ref q9, .int x3, .ref f3])) : gg X M k n 45 [(0, .ref x0), (3, .int x3)] [] := by
  refine g_aload_n ok d_Sv_init_45 rfl (j := 0) rfl ?_
  refine gf_Sv_11 ok d_Sv_init_46 h1 h4 ?_
  refine g_iload_n ok d_Sv_init_49 rfl (j := 1) rfl ?_
  refine g_new (C := RSo) (T := TSo) (N := 2) (ci := 4) (fs := [.null, .int 0]) ok (fun w h => List.mem_cons_of_mem _ (inSo w h)) tySo okSo (List.mem_cons_of_mem _ (gT_at 232 (by decide +kernel) (by decide +kernel))) (List.mem_cons_of_mem _ (gT_at 234 (by decide +kernel) (by decide +kernel))) (List.mem_cons_of_mem _ (gT_at 9 (by decide +kernel) (by decide +kernel))) rfl (by decide +kernel) (fun _ => rfl) d_Sv_init_50 h5 h6 h7 ?_
  rw [h10, h11]
  have h12 : M8[q9]? = some (.inr (4, [.null, .int 0])) := by rw [← h10, ← h11]; exact ga_new _ _
  refine g_dup ok d_Sv_init_53 rfl ?_
  exact gc_Sv_32 (As := []) (rest := [.ref q9, .int x3, .ref f3]) ok d_Sv_init_54 hm rfl rfl (Nat.le_of_ble_eq_true rfl) hR hL hrs kk
theorem k_Sv_init_57 {X : gC} {M : List mC} {k n : Nat} {x0 : Nat} {x3 : Int32} {s0 : Nat} {s1 : Int32} {s2 : Nat} {g2 : Nat → Option Nat} {N3 : Nat} {fs6 : List Value} {M7 : List mC} {fs11 : List Value} {f13 : Nat} {M18 : List mC} {q19 : Nat} (ok : gO X c_Sv_init "TripleStore$Solver" w_Sv_init) (h1 : M[s0]? = some (.inl (5, N3, .inr (.inr (.inr (.inr g2)))))) (h5 : M[s2]? = some (.inr (4, fs6))) (h4 : vp_in s1 N3) (h8 : M.set s0 (.inl (5, N3, .inr (.inr (.inr (.inr (va_up g2 s1.toNatClampNeg (some s2))))))) = M7) (h10 : M[x0]? = some (.inr (5, fs11))) (h14 : fs11[3]? = some (.ref f13)) (h15 : k + 1 ≤ (gR X).cells) (h16 : n + 2 ≤ (gR X).slots) (h17 : gW M7 [(0, .ref x0), (3, .int x3)] [.int x3, .ref f13]) (h20 : M7 ++ [.inr (4, [.null, .int 0])] = M18) (h21 : M7.length = q19) {rm : Room} {post : Option Value → List mC → Prop} (hm : mm_ (gLa X) y_So_init w_So_init rm [.ref q19] M18 post) (hR : gF X rm 1 (k + 1) (n + 2)) (hL : ∀ q ∈ ([(0, .ref x0), (3, .int x3)] : List (Nat × Value)), mk_v M18.length q.2) (hrs : ∀ v ∈ ([.ref q19, .int x3, .ref f13] : List Value), mk_v M18.length v) (kk : ∀ r M', post r M' → gg X M' (k + 1 + rm.cells) (n + 2 + rm.slots) 70 [(0, .ref x0), (3, .int x3)] (r.toList ++ [.ref q19, .int x3, .ref f13])) : gg X M k n 57 [(0, .ref x0), (3, .int x3)] [.ref s2, .int s1, .ref s0] := by
  refine g_aast (t := 5) (ci := 4) (r := (RSo, TSo, 2)) ok rfl rfl d_Sv_init_57 h1 h5 h4 ?_
  rw [h8]
  have h9 : M7[s0]? = some (.inl (5, N3, .inr (.inr (.inr (.inr (va_up g2 s1.toNatClampNeg (some s2))))))) := by rw [← h8]; exact gs_eq h1
  refine g_aload_n ok d_Sv_init_58 rfl (j := 0) rfl ?_
  have h12 : M7[x0]? = some (.inr (5, fs11)) := by rw [← h8]; exact (gs_ne (ne_ao h1 h10)).trans h10
  refine gf_Sv_17 ok d_Sv_init_59 h12 h14 ?_
  refine g_iload_n ok d_Sv_init_62 rfl (j := 1) rfl ?_
  refine g_new (C := RSo) (T := TSo) (N := 2) (ci := 4) (fs := [.null, .int 0]) ok (fun w h => List.mem_cons_of_mem _ (inSo w h)) tySo okSo (List.mem_cons_of_mem _ (gT_at 232 (by decide +kernel) (by decide +kernel))) (List.mem_cons_of_mem _ (gT_at 234 (by decide +kernel) (by decide +kernel))) (List.mem_cons_of_mem _ (gT_at 9 (by decide +kernel) (by decide +kernel))) rfl (by decide +kernel) (fun _ => rfl) d_Sv_init_63 h15 h16 h17 ?_
  rw [h20, h21]
  have h22 : M18[q19]? = some (.inr (4, [.null, .int 0])) := by rw [← h20, ← h21]; exact ga_new _ _
  have h23 : M7[s2]? = some (.inr (4, fs6)) := by rw [← h8]; exact (gs_ne (ne_ao h1 h5)).trans h5
  refine g_dup ok d_Sv_init_66 rfl ?_
  exact gc_Sv_32 (As := []) (rest := [.ref q19, .int x3, .ref f13]) ok d_Sv_init_67 hm rfl rfl (Nat.le_of_ble_eq_true rfl) hR hL hrs kk
theorem k_Sv_init_70 {X : gC} {M : List mC} {k n : Nat} {x0 : Nat} {x3 : Int32} {s0 : Nat} {s1 : Int32} {s2 : Nat} {g2 : Nat → Option Nat} {N3 : Nat} {fs6 : List Value} {M7 : List mC} (ok : gO X c_Sv_init "TripleStore$Solver" w_Sv_init) (hl : gL X = 4) (h1 : M[s0]? = some (.inl (5, N3, .inr (.inr (.inr (.inr g2)))))) (h5 : M[s2]? = some (.inr (4, fs6))) (h4 : vp_in s1 N3) (h8 : M.set s0 (.inl (5, N3, .inr (.inr (.inr (.inr (va_up g2 s1.toNatClampNeg (some s2))))))) = M7) (kk : gg X M7 k n 40 [(0, .ref x0), (3, .int (x3 + 1))] []) : gg X M k n 70 [(0, .ref x0), (3, .int x3)] [.ref s2, .int s1, .ref s0] := by
  refine g_aast (t := 5) (ci := 4) (r := (RSo, TSo, 2)) ok rfl rfl d_Sv_init_70 h1 h5 h4 ?_
  rw [h8]
  have h9 : M7[s0]? = some (.inl (5, N3, .inr (.inr (.inr (.inr (va_up g2 s1.toNatClampNeg (some s2))))))) := by rw [← h8]; exact gs_eq h1
  refine g_iinc (L' := [(0, .ref x0), (3, .int (x3 + 1))]) (v := (x3 + 1)) ok d_Sv_init_71 (j := 1) rfl rfl (by rw [hl]; decide) rfl ?_
  exact g_goto (tgt := 40) ok d_Sv_init_74 (by decide) kk
theorem k_Sv_init_77 {X : gC} {M : List mC} {k n : Nat}  (ok : gO X c_Sv_init "TripleStore$Solver" w_Sv_init)  {l9 : Launch} {rm : Room} {M0 : List mC} {post : Option Value → List mC → Prop} (E : gE X l9 y_Sv_init rm 4 none M0 post) (hp : post (none) M) (hk : k ≤ rm.cells) (hn : n ≤ rm.slots) : gg X M k n 77 [] [] := by
  exact g_vret ok E d_Sv_init_77 hp hk hn
theorem k_Sv_solutions_0 {X : gC} {M : List mC} {k n : Nat} {x0 : Nat} {fs2 : List Value} {f3 : Nat} {g6 : Nat → Option Nat} {N7 : Nat} {o9 : Nat} (ok : gO X c_Sv_solutions "TripleStore$Solver" w_Sv_solutions) (h1 : M[x0]? = some (.inr (5, fs2))) (h4 : fs2[2]? = some (.ref f3)) (h5 : M[f3]? = some (.inl (5, N7, .inr (.inr (.inr (.inr g6)))))) (h8 : vp_in 0 N7) (h10 : g6 (0 : Int32).toNatClampNeg = some o9) {l9 : Launch} {rm : Room} {M0 : List mC} {post : Option Value → List mC → Prop} (E : gE X l9 y_Sv_solutions rm 1 (some (.object "TripleStore$Solutions")) M0 post) (hp : post (some (.ref o9)) M) (hk : k ≤ rm.cells) (hn : n ≤ rm.slots) : gg X M k n 0 [(0, .ref x0)] [] := by
  refine g_aload_n ok d_Sv_solutions_0 rfl (j := 0) rfl ?_
  refine gf_Sv_11 ok d_Sv_solutions_1 h1 h4 ?_
  refine g_iconst (v := 0) ok d_Sv_solutions_4 (by decide) ?_
  refine g_aald (t := 5) ok rfl d_Sv_solutions_5 h5 h8 h10 ?_
  exact g_aret ok E d_Sv_solutions_6 (Or.inl ⟨_, rfl⟩) hp hk hn
theorem k_Sv_solveGroup_0 {X : gC} {M : List mC} {k n : Nat} {x0 : Nat} {x1 : Int32} {x2 : Int32} (ok : gO X c_Sv_solveGroup "TripleStore$Solver" w_Sv_solveGroup)  (kt : x2 < 0 → gg X M k n 9 [] []) (kf : ¬ x2 < 0 → gg X M k n 4 [(0, .ref x0), (1, .int x1), (2, .int x2)] []) : gg X M k n 0 [(0, .ref x0), (1, .int x1), (2, .int x2)] [] := by
  refine g_iload_n ok d_Sv_solveGroup_0 rfl (j := 2) rfl ?_
  exact g_if_lt (tgt := 9) ok d_Sv_solveGroup_1 (by decide) (fun z => (gg_keep [] (kt z))) (fun z => (kf z))
theorem k_Sv_solveGroup_4 {X : gC} {M : List mC} {k n : Nat} {x0 : Nat} {x1 : Int32} {x2 : Int32} (ok : gO X c_Sv_solveGroup "TripleStore$Solver" w_Sv_solveGroup)  (kt : x2 < 4 → gg X M k n 11 [(0, .ref x0), (1, .int x1), (2, .int x2)] []) (kf : ¬ x2 < 4 → gg X M k n 9 [] []) : gg X M k n 4 [(0, .ref x0), (1, .int x1), (2, .int x2)] [] := by
  refine g_iload_n ok d_Sv_solveGroup_4 rfl (j := 2) rfl ?_
  refine g_iconst (v := 4) ok d_Sv_solveGroup_5 (by decide) ?_
  exact g_icmp_lt (tgt := 11) ok d_Sv_solveGroup_6 (by decide) (fun z => (kt z)) (fun z => (gg_keep [] (kf z)))
theorem k_Sv_solveGroup_9 {X : gC} {M : List mC} {k n : Nat}  (ok : gO X c_Sv_solveGroup "TripleStore$Solver" w_Sv_solveGroup)  {l9 : Launch} {rm : Room} {M0 : List mC} {post : Option Value → List mC → Prop} (E : gE X l9 y_Sv_solveGroup rm 6 (some .boolean) M0 post) (hp : post (some (.int 0)) M) (hk : k ≤ rm.cells) (hn : n ≤ rm.slots) : gg X M k n 9 [] [] := by
  refine g_iconst (v := 0) ok d_Sv_solveGroup_9 (by decide) ?_
  exact g_zret ok E d_Sv_solveGroup_10 rfl hp hk hn
theorem k_Sv_solveGroup_11 {X : gC} {M : List mC} {k n : Nat} {x0 : Nat} {x1 : Int32} {x2 : Int32} {fs2 : List Value} {f3 : Nat} (ok : gO X c_Sv_solveGroup "TripleStore$Solver" w_Sv_solveGroup) (h1 : M[x0]? = some (.inr (5, fs2))) (h4 : fs2[4]? = some (.ref f3)) {rm : Room} {post : Option Value → List mC → Prop} (hm : mm_ (gLa X) y_Ar_fill w_Ar_fill rm [.ref f3, .long 0] M post) (hR : gF X rm 5 k n) (hlen : ∀ r M', post r M' → M'.length = M.length) (kk : ∀ r M', post r M' → gg X M' (k + rm.cells) (n + rm.slots) 19 [(0, .ref x0), (1, .int x1), (2, .int x2)] (r.toList ++ [])) : gg X M k n 11 [(0, .ref x0), (1, .int x1), (2, .int x2)] [] := by
  refine g_aload_n ok d_Sv_solveGroup_11 rfl (j := 0) rfl ?_
  refine gf_Sv_20 ok d_Sv_solveGroup_12 h1 h4 ?_
  refine g_lconst (v := 0) ok d_Sv_solveGroup_15 (by decide) ?_
  exact gc_Sv_35 (As := [.ref f3, .long 0]) (rest := []) ok d_Sv_solveGroup_16 hm rfl rfl (Nat.le_of_ble_eq_true rfl) hR hlen kk
theorem k_Sv_solveGroup_19 {X : gC} {M : List mC} {k n : Nat} {x0 : Nat} {x1 : Int32} {x2 : Int32} {fs2 : List Value} {f3 : Nat} {g6 : Nat → Option Nat} {N7 : Nat} {o9 : Nat} {fs12 : List Value} (ok : gO X c_Sv_solveGroup "TripleStore$Solver" w_Sv_solveGroup) (h1 : M[x0]? = some (.inr (5, fs2))) (h4 : fs2[2]? = some (.ref f3)) (h5 : M[f3]? = some (.inl (5, N7, .inr (.inr (.inr (.inr g6)))))) (h8 : vp_in x2 N7) (h10 : g6 x2.toNatClampNeg = some o9) (h11 : M[o9]? = some (.inr (4, fs12))) {rm : Room} {post : Option Value → List mC → Prop} (hm : mm_ (gLa X) y_So_clear w_So_clear rm [.ref o9] M post) (hR : gF X rm 1 k n) (hlen : ∀ r M', post r M' → M'.length = M.length) (kk : ∀ r M', post r M' → gg X M' (k + rm.cells) (n + rm.slots) 28 [(0, .ref x0), (1, .int x1), (2, .int x2)] (r.toList ++ [])) : gg X M k n 19 [(0, .ref x0), (1, .int x1), (2, .int x2)] [] := by
  refine g_aload_n ok d_Sv_solveGroup_19 rfl (j := 0) rfl ?_
  refine gf_Sv_11 ok d_Sv_solveGroup_20 h1 h4 ?_
  refine g_iload_n ok d_Sv_solveGroup_23 rfl (j := 2) rfl ?_
  refine g_aald (t := 5) ok rfl d_Sv_solveGroup_24 h5 h8 h10 ?_
  exact gc_Sv_41 (As := []) (rest := []) ok d_Sv_solveGroup_25 hm rfl rfl (Nat.le_of_ble_eq_true rfl) hR h11 hlen kk
theorem k_Sv_solveGroup_28 {X : gC} {M : List mC} {k n : Nat} {x0 : Nat} {x1 : Int32} {x2 : Int32} {fs2 : List Value} {f3 : Nat} {g6 : Nat → Option Nat} {N7 : Nat} {o9 : Nat} {f11 : Nat} {fs14 : List Value} (ok : gO X c_Sv_solveGroup "TripleStore$Solver" w_Sv_solveGroup) (h1 : M[x0]? = some (.inr (5, fs2))) (h4 : fs2[2]? = some (.ref f3)) (h5 : M[f3]? = some (.inl (5, N7, .inr (.inr (.inr (.inr g6)))))) (h8 : vp_in x2 N7) (h10 : g6 x2.toNatClampNeg = some o9) (h12 : fs2[4]? = some (.ref f11)) (h13 : M[o9]? = some (.inr (4, fs14))) {rm : Room} {post : Option Value → List mC → Prop} (hm : mm_ (gLa X) y_So_put w_So_put rm [.ref o9, .ref f11] M post) (hR : gF X rm 2 k n) (hlen : ∀ r M', post r M' → M'.length = M.length) (kk : ∀ r M', post r M' → gg X M' (k + rm.cells) (n + rm.slots) 41 [(0, .ref x0), (1, .int x1), (2, .int x2)] (r.toList ++ [])) : gg X M k n 28 [(0, .ref x0), (1, .int x1), (2, .int x2)] [] := by
  refine g_aload_n ok d_Sv_solveGroup_28 rfl (j := 0) rfl ?_
  refine gf_Sv_11 ok d_Sv_solveGroup_29 h1 h4 ?_
  refine g_iload_n ok d_Sv_solveGroup_32 rfl (j := 2) rfl ?_
  refine g_aald (t := 5) ok rfl d_Sv_solveGroup_33 h5 h8 h10 ?_
  refine g_aload_n ok d_Sv_solveGroup_34 rfl (j := 0) rfl ?_
  refine gf_Sv_20 ok d_Sv_solveGroup_35 h1 h12 ?_
  exact gc_Sv_44 (As := [.ref f11]) (rest := []) ok d_Sv_solveGroup_38 hm rfl rfl (Nat.le_of_ble_eq_true rfl) hR h13 hlen kk
theorem k_Sv_solveGroup_41 {X : gC} {M : List mC} {k n : Nat} {x0 : Nat} {x1 : Int32} {x2 : Int32} {s0 : Int32} (ok : gO X c_Sv_solveGroup "TripleStore$Solver" w_Sv_solveGroup) (hl : gL X = 6)  (kk : gg X M k n 44 [(0, .ref x0), (1, .int x1), (2, .int x2), (3, .int 0)] []) : gg X M k n 41 [(0, .ref x0), (1, .int x1), (2, .int x2)] [.int s0] := by
  refine g_pop ok d_Sv_solveGroup_41 rfl ?_
  refine g_iconst (v := 0) ok d_Sv_solveGroup_42 (by decide) ?_
  refine g_istore_n (L' := [(0, .ref x0), (1, .int x1), (2, .int x2), (3, .int 0)]) ok d_Sv_solveGroup_43 rfl (by rw [hl]; decide) rfl ?_
  exact kk
theorem k_Sv_solveGroup_44 {X : gC} {M : List mC} {k n : Nat} {x0 : Nat} {x1 : Int32} {x2 : Int32} {x3 : Int32} {fs2 : List Value} {f3 : Nat} {fs6 : List Value} {f7 : Int32} (ok : gO X c_Sv_solveGroup "TripleStore$Solver" w_Sv_solveGroup) (h1 : M[x0]? = some (.inr (5, fs2))) (h4 : fs2[1]? = some (.ref f3)) (h5 : M[f3]? = some (.inr (2, fs6))) (h8 : fs6[9]? = some (.int f7)) (kt : f7 ≤ x3 → gg X M k n 161 [(0, .ref x0), (1, .int x1), (2, .int x2)] []) (kf : ¬ f7 ≤ x3 → gg X M k n 55 [(0, .ref x0), (1, .int x1), (2, .int x2), (3, .int x3)] []) : gg X M k n 44 [(0, .ref x0), (1, .int x1), (2, .int x2), (3, .int x3)] [] := by
  refine g_iload_n ok d_Sv_solveGroup_44 rfl (j := 3) rfl ?_
  refine g_aload_n ok d_Sv_solveGroup_45 rfl (j := 0) rfl ?_
  refine gf_Sv_28 ok d_Sv_solveGroup_46 h1 h4 ?_
  refine gf_Sv_48 ok d_Sv_solveGroup_49 h5 h8 ?_
  exact g_icmp_ge (tgt := 161) ok d_Sv_solveGroup_52 (by decide) (fun z => (gg_keep [0, 1, 2] (kt z))) (fun z => (kf z))
theorem k_Sv_solveGroup_55 {X : gC} {M : List mC} {k n : Nat} {x0 : Nat} {x1 : Int32} {x2 : Int32} {x3 : Int32} {fs2 : List Value} {f3 : Nat} {fs6 : List Value} {f7 : Nat} {g10 : Nat → Option Nat} {N11 : Nat} {o13 : Nat} {fs16 : List Value} {f17 : Int32} {o20 : Nat} {fs23 : List Value} {f24 : Int32} (ok : gO X c_Sv_solveGroup "TripleStore$Solver" w_Sv_solveGroup) (hl : gL X = 6) (h1 : M[x0]? = some (.inr (5, fs2))) (h4 : fs2[1]? = some (.ref f3)) (h5 : M[f3]? = some (.inr (2, fs6))) (h8 : fs6[8]? = some (.ref f7)) (h9 : M[f7]? = some (.inl (4, N11, .inr (.inr (.inr (.inr g10)))))) (h12 : vp_in x3 N11) (h14 : g10 x3.toNatClampNeg = some o13) (h15 : M[o13]? = some (.inr (0, fs16))) (h18 : fs16[0]? = some (.int f17)) (h19 : vp_in x3 N11) (h21 : g10 x3.toNatClampNeg = some o20) (h22 : M[o20]? = some (.inr (0, fs23))) (h25 : fs23[1]? = some (.int f24)) (kt : ¬ f24 = x1 → gg X M k n 155 [(0, .ref x0), (1, .int x1), (2, .int x2), (3, .int x3)] []) (kf : f24 = x1 → gg X M k n 85 [(0, .ref x0), (1, .int x1), (2, .int x2), (3, .int x3), (4, .int f17)] []) : gg X M k n 55 [(0, .ref x0), (1, .int x1), (2, .int x2), (3, .int x3)] [] := by
  refine g_aload_n ok d_Sv_solveGroup_55 rfl (j := 0) rfl ?_
  refine gf_Sv_28 ok d_Sv_solveGroup_56 h1 h4 ?_
  refine gf_Sv_54 ok d_Sv_solveGroup_59 h5 h8 ?_
  refine g_iload_n ok d_Sv_solveGroup_62 rfl (j := 3) rfl ?_
  refine g_aald (t := 4) ok rfl d_Sv_solveGroup_63 h9 h12 h14 ?_
  refine gf_Sv_58 ok d_Sv_solveGroup_64 h15 h18 ?_
  refine g_istore (L' := [(0, .ref x0), (1, .int x1), (2, .int x2), (3, .int x3), (4, .int f17)]) ok d_Sv_solveGroup_67 (by rw [hl]; decide) rfl ?_
  refine g_aload_n ok d_Sv_solveGroup_69 rfl (j := 0) rfl ?_
  refine gf_Sv_28 ok d_Sv_solveGroup_70 h1 h4 ?_
  refine gf_Sv_54 ok d_Sv_solveGroup_73 h5 h8 ?_
  refine g_iload_n ok d_Sv_solveGroup_76 rfl (j := 3) rfl ?_
  refine g_aald (t := 4) ok rfl d_Sv_solveGroup_77 h9 h19 h21 ?_
  refine gf_Sv_63 ok d_Sv_solveGroup_78 h22 h25 ?_
  refine g_iload_n ok d_Sv_solveGroup_81 rfl (j := 1) rfl ?_
  exact g_icmp_ne (tgt := 155) ok d_Sv_solveGroup_82 (by decide) (fun z => (gg_keep [0, 1, 2, 3] (kt z))) (fun z => (kf z))
theorem k_Sv_solveGroup_85 {X : gC} {M : List mC} {k n : Nat} {x0 : Nat} {x1 : Int32} {x2 : Int32} {x3 : Int32} {x4 : Int32} (ok : gO X c_Sv_solveGroup "TripleStore$Solver" w_Sv_solveGroup)  (kt : x4 = 1 → gg X M k n 155 [(0, .ref x0), (1, .int x1), (2, .int x2), (3, .int x3)] []) (kf : ¬ x4 = 1 → gg X M k n 91 [(0, .ref x0), (1, .int x1), (2, .int x2), (3, .int x3), (4, .int x4)] []) : gg X M k n 85 [(0, .ref x0), (1, .int x1), (2, .int x2), (3, .int x3), (4, .int x4)] [] := by
  refine g_iload ok d_Sv_solveGroup_85 (j := 4) rfl ?_
  refine g_iconst (v := 1) ok d_Sv_solveGroup_87 (by decide) ?_
  exact g_icmp_eq (tgt := 155) ok d_Sv_solveGroup_88 (by decide) (fun z => (gg_keep [0, 1, 2, 3] (kt z))) (fun z => (kf z))
theorem k_Sv_solveGroup_91 {X : gC} {M : List mC} {k n : Nat} {x0 : Nat} {x1 : Int32} {x2 : Int32} {x3 : Int32} {x4 : Int32} {fs2 : List Value} {f3 : Nat} {g6 : Nat → Option Nat} {N7 : Nat} {o9 : Nat} {fs12 : List Value} (ok : gO X c_Sv_solveGroup "TripleStore$Solver" w_Sv_solveGroup) (h1 : M[x0]? = some (.inr (5, fs2))) (h4 : fs2[3]? = some (.ref f3)) (h5 : M[f3]? = some (.inl (5, N7, .inr (.inr (.inr (.inr g6)))))) (h8 : vp_in x2 N7) (h10 : g6 x2.toNatClampNeg = some o9) (h11 : M[o9]? = some (.inr (4, fs12))) {rm : Room} {post : Option Value → List mC → Prop} (hm : mm_ (gLa X) y_So_clear w_So_clear rm [.ref o9] M post) (hR : gF X rm 1 k n) (hlen : ∀ r M', post r M' → M'.length = M.length) (kk : ∀ r M', post r M' → gg X M' (k + rm.cells) (n + rm.slots) 100 [(0, .ref x0), (1, .int x1), (2, .int x2), (3, .int x3), (4, .int x4)] (r.toList ++ [])) : gg X M k n 91 [(0, .ref x0), (1, .int x1), (2, .int x2), (3, .int x3), (4, .int x4)] [] := by
  refine g_aload_n ok d_Sv_solveGroup_91 rfl (j := 0) rfl ?_
  refine gf_Sv_17 ok d_Sv_solveGroup_92 h1 h4 ?_
  refine g_iload_n ok d_Sv_solveGroup_95 rfl (j := 2) rfl ?_
  refine g_aald (t := 5) ok rfl d_Sv_solveGroup_96 h5 h8 h10 ?_
  exact gc_Sv_41 (As := []) (rest := []) ok d_Sv_solveGroup_97 hm rfl rfl (Nat.le_of_ble_eq_true rfl) hR h11 hlen kk
theorem k_Sv_solveGroup_100 {X : gC} {M : List mC} {k n : Nat} {x0 : Nat} {x1 : Int32} {x2 : Int32} {x3 : Int32} {x4 : Int32} (ok : gO X c_Sv_solveGroup "TripleStore$Solver" w_Sv_solveGroup)  (kt : ¬ x4 = 0 → gg X M k n 133 [(0, .ref x0), (1, .int x1), (2, .int x2), (3, .int x3), (4, .int x4)] []) (kf : x4 = 0 → gg X M k n 105 [(0, .ref x0), (1, .int x1), (2, .int x2), (3, .int x3)] []) : gg X M k n 100 [(0, .ref x0), (1, .int x1), (2, .int x2), (3, .int x3), (4, .int x4)] [] := by
  refine g_iload ok d_Sv_solveGroup_100 (j := 4) rfl ?_
  exact g_if_ne (tgt := 133) ok d_Sv_solveGroup_102 (by decide) (fun z => (kt z)) (fun z => (gg_keep [0, 1, 2, 3] (kf z)))
theorem k_Sv_solveGroup_105 {X : gC} {M : List mC} {k n : Nat} {x0 : Nat} {x1 : Int32} {x2 : Int32} {x3 : Int32} {fs2 : List Value} {f3 : Nat} {fs6 : List Value} {f7 : Nat} {g10 : Nat → Option Nat} {N11 : Nat} {o13 : Nat} {f15 : Nat} {g18 : Nat → Option Nat} {N19 : Nat} {o21 : Nat} {f23 : Nat} {g26 : Nat → Option Nat} {N27 : Nat} {o29 : Nat} (ok : gO X c_Sv_solveGroup "TripleStore$Solver" w_Sv_solveGroup) (h1 : M[x0]? = some (.inr (5, fs2))) (h4 : fs2[1]? = some (.ref f3)) (h5 : M[f3]? = some (.inr (2, fs6))) (h8 : fs6[8]? = some (.ref f7)) (h9 : M[f7]? = some (.inl (4, N11, .inr (.inr (.inr (.inr g10)))))) (h12 : vp_in x3 N11) (h14 : g10 x3.toNatClampNeg = some o13) (h16 : fs2[2]? = some (.ref f15)) (h17 : M[f15]? = some (.inl (5, N19, .inr (.inr (.inr (.inr g18)))))) (h20 : vp_in x2 N19) (h22 : g18 x2.toNatClampNeg = some o21) (h24 : fs2[3]? = some (.ref f23)) (h25 : M[f23]? = some (.inl (5, N27, .inr (.inr (.inr (.inr g26)))))) (h28 : vp_in x2 N27) (h30 : g26 x2.toNatClampNeg = some o29) {rm : Room} {post : Option Value → List mC → Prop} (hm : mm_ (gLa X) y_Sv_joinPattern w_Sv_joinPattern rm [.ref x0, .ref o13, .ref o21, .ref o29] M post) (hR : gF X rm 6 k n) (hlen : ∀ r M', post r M' → M'.length = M.length) (kk : ∀ r M', post r M' → gg X M' (k + rm.cells) (n + rm.slots) 130 [(0, .ref x0), (1, .int x1), (2, .int x2), (3, .int x3)] (r.toList ++ [])) : gg X M k n 105 [(0, .ref x0), (1, .int x1), (2, .int x2), (3, .int x3)] [] := by
  refine g_aload_n ok d_Sv_solveGroup_105 rfl (j := 0) rfl ?_
  refine g_aload_n ok d_Sv_solveGroup_106 rfl (j := 0) rfl ?_
  refine gf_Sv_28 ok d_Sv_solveGroup_107 h1 h4 ?_
  refine gf_Sv_54 ok d_Sv_solveGroup_110 h5 h8 ?_
  refine g_iload_n ok d_Sv_solveGroup_113 rfl (j := 3) rfl ?_
  refine g_aald (t := 4) ok rfl d_Sv_solveGroup_114 h9 h12 h14 ?_
  refine g_aload_n ok d_Sv_solveGroup_115 rfl (j := 0) rfl ?_
  refine gf_Sv_11 ok d_Sv_solveGroup_116 h1 h16 ?_
  refine g_iload_n ok d_Sv_solveGroup_119 rfl (j := 2) rfl ?_
  refine g_aald (t := 5) ok rfl d_Sv_solveGroup_120 h17 h20 h22 ?_
  refine g_aload_n ok d_Sv_solveGroup_121 rfl (j := 0) rfl ?_
  refine gf_Sv_17 ok d_Sv_solveGroup_122 h1 h24 ?_
  refine g_iload_n ok d_Sv_solveGroup_125 rfl (j := 2) rfl ?_
  refine g_aald (t := 5) ok rfl d_Sv_solveGroup_126 h25 h28 h30 ?_
  exact gc_Sv_66 (As := [.ref o13, .ref o21, .ref o29]) (rest := []) ok d_Sv_solveGroup_127 hm rfl rfl (Nat.le_of_ble_eq_true rfl) hR h1 hlen kk
theorem k_Sv_solveGroup_130 {X : gC} {M : List mC} {k n : Nat} {x0 : Nat} {x1 : Int32} {x2 : Int32} {x3 : Int32} {s0 : Int32} (ok : gO X c_Sv_solveGroup "TripleStore$Solver" w_Sv_solveGroup)  (kk : gg X M k n 141 [(0, .ref x0), (1, .int x1), (2, .int x2), (3, .int x3)] [.int s0]) : gg X M k n 130 [(0, .ref x0), (1, .int x1), (2, .int x2), (3, .int x3)] [.int s0] := by
  exact g_goto (tgt := 141) ok d_Sv_solveGroup_130 (by decide) kk
theorem k_Sv_solveGroup_133 {X : gC} {M : List mC} {k n : Nat} {x0 : Nat} {x1 : Int32} {x2 : Int32} {x3 : Int32} {x4 : Int32} {fs2 : List Value} (ok : gO X c_Sv_solveGroup "TripleStore$Solver" w_Sv_solveGroup) (h1 : M[x0]? = some (.inr (5, fs2))) {rm : Room} {post : Option Value → List mC → Prop} (hm : mm_ (gLa X) y_Sv_applyGroups w_Sv_applyGroups rm [.ref x0, .int x3, .int x4, .int x2] M post) (hR : gF X rm 6 k n) (hlen : ∀ r M', post r M' → M'.length = M.length) (kk : ∀ r M', post r M' → gg X M' (k + rm.cells) (n + rm.slots) 141 [(0, .ref x0), (1, .int x1), (2, .int x2), (3, .int x3)] (r.toList ++ [])) : gg X M k n 133 [(0, .ref x0), (1, .int x1), (2, .int x2), (3, .int x3), (4, .int x4)] [] := by
  refine g_aload_n ok d_Sv_solveGroup_133 rfl (j := 0) rfl ?_
  refine g_iload_n ok d_Sv_solveGroup_134 rfl (j := 3) rfl ?_
  refine g_iload ok d_Sv_solveGroup_135 (j := 4) rfl ?_
  refine g_iload_n ok d_Sv_solveGroup_137 rfl (j := 2) rfl ?_
  exact gc_Sv_70 (As := [.int x3, .int x4, .int x2]) (rest := []) ok d_Sv_solveGroup_138 hm rfl rfl (Nat.le_of_ble_eq_true rfl) hR h1 hlen (fun r M' q => (gg_keep [0, 1, 2, 3] (kk r M' q)))
theorem k_Sv_solveGroup_141 {X : gC} {M : List mC} {k n : Nat} {x0 : Nat} {x1 : Int32} {x2 : Int32} {x3 : Int32} {s0 : Int32} (ok : gO X c_Sv_solveGroup "TripleStore$Solver" w_Sv_solveGroup) (hl : gL X = 6)  (kt : ¬ s0 = 0 → gg X M k n 150 [(0, .ref x0), (1, .int x1), (2, .int x2), (3, .int x3)] []) (kf : s0 = 0 → gg X M k n 148 [] []) : gg X M k n 141 [(0, .ref x0), (1, .int x1), (2, .int x2), (3, .int x3)] [.int s0] := by
  refine g_istore (L' := [(0, .ref x0), (1, .int x1), (2, .int x2), (3, .int x3), (5, .int s0)]) ok d_Sv_solveGroup_141 (by rw [hl]; decide) rfl ?_
  refine g_iload ok d_Sv_solveGroup_143 (j := 4) rfl ?_
  exact g_if_ne (tgt := 150) ok d_Sv_solveGroup_145 (by decide) (fun z => (gg_keep [0, 1, 2, 3] (kt z))) (fun z => (gg_keep [] (kf z)))
theorem k_Sv_solveGroup_148 {X : gC} {M : List mC} {k n : Nat}  (ok : gO X c_Sv_solveGroup "TripleStore$Solver" w_Sv_solveGroup)  {l9 : Launch} {rm : Room} {M0 : List mC} {post : Option Value → List mC → Prop} (E : gE X l9 y_Sv_solveGroup rm 6 (some .boolean) M0 post) (hp : post (some (.int 0)) M) (hk : k ≤ rm.cells) (hn : n ≤ rm.slots) : gg X M k n 148 [] [] := by
  refine g_iconst (v := 0) ok d_Sv_solveGroup_148 (by decide) ?_
  exact g_zret ok E d_Sv_solveGroup_149 rfl hp hk hn
theorem k_Sv_solveGroup_150 {X : gC} {M : List mC} {k n : Nat} {x0 : Nat} {x1 : Int32} {x2 : Int32} {x3 : Int32} {fs2 : List Value} (ok : gO X c_Sv_solveGroup "TripleStore$Solver" w_Sv_solveGroup) (h1 : M[x0]? = some (.inr (5, fs2))) {rm : Room} {post : Option Value → List mC → Prop} (hm : mm_ (gLa X) y_Sv_turn w_Sv_turn rm [.ref x0, .int x2] M post) (hR : gF X rm 3 k n) (hlen : ∀ r M', post r M' → M'.length = M.length) (kk : ∀ r M', post r M' → gg X M' (k + rm.cells) (n + rm.slots) 155 [(0, .ref x0), (1, .int x1), (2, .int x2), (3, .int x3)] (r.toList ++ [])) : gg X M k n 150 [(0, .ref x0), (1, .int x1), (2, .int x2), (3, .int x3)] [] := by
  refine g_aload_n ok d_Sv_solveGroup_150 rfl (j := 0) rfl ?_
  refine g_iload_n ok d_Sv_solveGroup_151 rfl (j := 2) rfl ?_
  exact gc_Sv_74 (As := [.int x2]) (rest := []) ok d_Sv_solveGroup_152 hm rfl rfl (Nat.le_of_ble_eq_true rfl) hR h1 hlen kk
theorem k_Sv_solveGroup_155 {X : gC} {M : List mC} {k n : Nat} {x0 : Nat} {x1 : Int32} {x2 : Int32} {x3 : Int32} (ok : gO X c_Sv_solveGroup "TripleStore$Solver" w_Sv_solveGroup) (hl : gL X = 6)  (kk : gg X M k n 44 [(0, .ref x0), (1, .int x1), (2, .int x2), (3, .int (x3 + 1))] []) : gg X M k n 155 [(0, .ref x0), (1, .int x1), (2, .int x2), (3, .int x3)] [] := by
  refine g_iinc (L' := [(0, .ref x0), (1, .int x1), (2, .int x2), (3, .int (x3 + 1))]) (v := (x3 + 1)) ok d_Sv_solveGroup_155 (j := 3) rfl rfl (by rw [hl]; decide) rfl ?_
  exact g_goto (tgt := 44) ok d_Sv_solveGroup_158 (by decide) kk
theorem k_Sv_solveGroup_161 {X : gC} {M : List mC} {k n : Nat} {x0 : Nat} {x1 : Int32} {x2 : Int32} {fs2 : List Value} {f3 : Nat} {g6 : Nat → Option Nat} {N7 : Nat} {o9 : Nat} {fs12 : List Value} (ok : gO X c_Sv_solveGroup "TripleStore$Solver" w_Sv_solveGroup) (h1 : M[x0]? = some (.inr (5, fs2))) (h4 : fs2[3]? = some (.ref f3)) (h5 : M[f3]? = some (.inl (5, N7, .inr (.inr (.inr (.inr g6)))))) (h8 : vp_in x2 N7) (h10 : g6 x2.toNatClampNeg = some o9) (h11 : M[o9]? = some (.inr (4, fs12))) {rm : Room} {post : Option Value → List mC → Prop} (hm : mm_ (gLa X) y_So_clear w_So_clear rm [.ref o9] M post) (hR : gF X rm 1 k n) (hlen : ∀ r M', post r M' → M'.length = M.length) (kk : ∀ r M', post r M' → gg X M' (k + rm.cells) (n + rm.slots) 170 [(0, .ref x0), (1, .int x1), (2, .int x2)] (r.toList ++ [])) : gg X M k n 161 [(0, .ref x0), (1, .int x1), (2, .int x2)] [] := by
  refine g_aload_n ok d_Sv_solveGroup_161 rfl (j := 0) rfl ?_
  refine gf_Sv_17 ok d_Sv_solveGroup_162 h1 h4 ?_
  refine g_iload_n ok d_Sv_solveGroup_165 rfl (j := 2) rfl ?_
  refine g_aald (t := 5) ok rfl d_Sv_solveGroup_166 h5 h8 h10 ?_
  exact gc_Sv_41 (As := []) (rest := []) ok d_Sv_solveGroup_167 hm rfl rfl (Nat.le_of_ble_eq_true rfl) hR h11 hlen kk
theorem k_Sv_solveGroup_170 {X : gC} {M : List mC} {k n : Nat} {x0 : Nat} {x1 : Int32} {x2 : Int32} {fs2 : List Value} {f3 : Nat} {g6 : Nat → Option Nat} {N7 : Nat} {o9 : Nat} {f11 : Nat} {g14 : Nat → Option Nat} {N15 : Nat} {o17 : Nat} (ok : gO X c_Sv_solveGroup "TripleStore$Solver" w_Sv_solveGroup) (h1 : M[x0]? = some (.inr (5, fs2))) (h4 : fs2[2]? = some (.ref f3)) (h5 : M[f3]? = some (.inl (5, N7, .inr (.inr (.inr (.inr g6)))))) (h8 : vp_in x2 N7) (h10 : g6 x2.toNatClampNeg = some o9) (h12 : fs2[3]? = some (.ref f11)) (h13 : M[f11]? = some (.inl (5, N15, .inr (.inr (.inr (.inr g14)))))) (h16 : vp_in x2 N15) (h18 : g14 x2.toNatClampNeg = some o17) {rm : Room} {post : Option Value → List mC → Prop} (hm : mm_ (gLa X) y_Sv_keepPassing w_Sv_keepPassing rm [.ref x0, .int x1, .ref o9, .ref o17] M post) (hR : gF X rm 5 k n) (hlen : ∀ r M', post r M' → M'.length = M.length) (kk : ∀ r M', post r M' → gg X M' (k + rm.cells) (n + rm.slots) 187 [(0, .ref x0), (2, .int x2)] (r.toList ++ [])) : gg X M k n 170 [(0, .ref x0), (1, .int x1), (2, .int x2)] [] := by
  refine g_aload_n ok d_Sv_solveGroup_170 rfl (j := 0) rfl ?_
  refine g_iload_n ok d_Sv_solveGroup_171 rfl (j := 1) rfl ?_
  refine g_aload_n ok d_Sv_solveGroup_172 rfl (j := 0) rfl ?_
  refine gf_Sv_11 ok d_Sv_solveGroup_173 h1 h4 ?_
  refine g_iload_n ok d_Sv_solveGroup_176 rfl (j := 2) rfl ?_
  refine g_aald (t := 5) ok rfl d_Sv_solveGroup_177 h5 h8 h10 ?_
  refine g_aload_n ok d_Sv_solveGroup_178 rfl (j := 0) rfl ?_
  refine gf_Sv_17 ok d_Sv_solveGroup_179 h1 h12 ?_
  refine g_iload_n ok d_Sv_solveGroup_182 rfl (j := 2) rfl ?_
  refine g_aald (t := 5) ok rfl d_Sv_solveGroup_183 h13 h16 h18 ?_
  exact gc_Sv_78 (As := [.int x1, .ref o9, .ref o17]) (rest := []) ok d_Sv_solveGroup_184 hm rfl rfl (Nat.le_of_ble_eq_true rfl) hR h1 hlen (fun r M' q => (gg_keep [0, 2] (kk r M' q)))
theorem k_Sv_solveGroup_187 {X : gC} {M : List mC} {k n : Nat} {x0 : Nat} {x2 : Int32} {fs2 : List Value} (ok : gO X c_Sv_solveGroup "TripleStore$Solver" w_Sv_solveGroup) (h1 : M[x0]? = some (.inr (5, fs2))) {rm : Room} {post : Option Value → List mC → Prop} (hm : mm_ (gLa X) y_Sv_turn w_Sv_turn rm [.ref x0, .int x2] M post) (hR : gF X rm 3 k n) (hlen : ∀ r M', post r M' → M'.length = M.length) (kk : ∀ r M', post r M' → gg X M' (k + rm.cells) (n + rm.slots) 192 [] (r.toList ++ [])) : gg X M k n 187 [(0, .ref x0), (2, .int x2)] [] := by
  refine g_aload_n ok d_Sv_solveGroup_187 rfl (j := 0) rfl ?_
  refine g_iload_n ok d_Sv_solveGroup_188 rfl (j := 1) rfl ?_
  exact gc_Sv_74 (As := [.int x2]) (rest := []) ok d_Sv_solveGroup_189 hm rfl rfl (Nat.le_of_ble_eq_true rfl) hR h1 hlen (fun r M' q => (gg_keep [] (kk r M' q)))
theorem k_Sv_solveGroup_192 {X : gC} {M : List mC} {k n : Nat}  (ok : gO X c_Sv_solveGroup "TripleStore$Solver" w_Sv_solveGroup)  {l9 : Launch} {rm : Room} {M0 : List mC} {post : Option Value → List mC → Prop} (E : gE X l9 y_Sv_solveGroup rm 6 (some .boolean) M0 post) (hp : post (some (.int 1)) M) (hk : k ≤ rm.cells) (hn : n ≤ rm.slots) : gg X M k n 192 [] [] := by
  refine g_iconst (v := 1) ok d_Sv_solveGroup_192 (by decide) ?_
  exact g_zret ok E d_Sv_solveGroup_193 rfl hp hk hn
theorem k_Sv_turn_0 {X : gC} {M : List mC} {k n : Nat} {x0 : Nat} {x1 : Int32} {fs2 : List Value} {f3 : Nat} {g6 : Nat → Option Nat} {N7 : Nat} {o9 : Nat} {f11 : Nat} {g14 : Nat → Option Nat} {N15 : Nat} {o17 : Nat} {fs21 : List Value} {M22 : List mC} {fs30 : List Value} {M32 : List mC} (ok : gO X c_Sv_turn "TripleStore$Solver" w_Sv_turn) (hl : gL X = 3) (h1 : M[x0]? = some (.inr (5, fs2))) (h4 : fs2[2]? = some (.ref f3)) (h5 : M[f3]? = some (.inl (5, N7, .inr (.inr (.inr (.inr g6)))))) (h8 : vp_in x1 N7) (h10 : g6 x1.toNatClampNeg = some o9) (h12 : fs2[3]? = some (.ref f11)) (h13 : M[f11]? = some (.inl (5, N15, .inr (.inr (.inr (.inr g14)))))) (h16 : vp_in x1 N15) (h18 : g14 x1.toNatClampNeg = some o17) (h20 : M[o17]? = some (.inr (4, fs21))) (h19 : vp_in x1 N7) (h23 : M.set f3 (.inl (5, N7, .inr (.inr (.inr (.inr (va_up g6 x1.toNatClampNeg (some o17))))))) = M22) (h27 : f11 ≠ f3) (h29 : M[o9]? = some (.inr (4, fs30))) (h28 : vp_in x1 N15) (h33 : M22.set f11 (.inl (5, N15, .inr (.inr (.inr (.inr (va_up g14 x1.toNatClampNeg (some o9))))))) = M32) {l9 : Launch} {rm : Room} {M0 : List mC} {post : Option Value → List mC → Prop} (E : gE X l9 y_Sv_turn rm 3 none M0 post) (hp : post (none) M32) (hk : k ≤ rm.cells) (hn : n ≤ rm.slots) : gg X M k n 0 [(0, .ref x0), (1, .int x1)] [] := by
  refine g_aload_n ok d_Sv_turn_0 rfl (j := 0) rfl ?_
  refine gf_Sv_11 ok d_Sv_turn_1 h1 h4 ?_
  refine g_iload_n ok d_Sv_turn_4 rfl (j := 1) rfl ?_
  refine g_aald (t := 5) ok rfl d_Sv_turn_5 h5 h8 h10 ?_
  refine g_astore_n (L' := [(0, .ref x0), (1, .int x1), (2, .ref o9)]) ok d_Sv_turn_6 rfl (by rw [hl]; decide) rfl ?_
  refine g_aload_n ok d_Sv_turn_7 rfl (j := 0) rfl ?_
  refine gf_Sv_11 ok d_Sv_turn_8 h1 h4 ?_
  refine g_iload_n ok d_Sv_turn_11 rfl (j := 1) rfl ?_
  refine g_aload_n ok d_Sv_turn_12 rfl (j := 0) rfl ?_
  refine gf_Sv_17 ok d_Sv_turn_13 h1 h12 ?_
  refine g_iload_n ok d_Sv_turn_16 rfl (j := 1) rfl ?_
  refine g_aald (t := 5) ok rfl d_Sv_turn_17 h13 h16 h18 ?_
  refine g_aast (t := 5) (ci := 4) (r := (RSo, TSo, 2)) ok rfl rfl d_Sv_turn_18 h5 h20 h19 ?_
  rw [h23]
  have h24 : M22[f3]? = some (.inl (5, N7, .inr (.inr (.inr (.inr (va_up g6 x1.toNatClampNeg (some o17))))))) := by rw [← h23]; exact gs_eq h5
  refine g_aload_n ok d_Sv_turn_19 rfl (j := 0) rfl ?_
  have h25 : M22[x0]? = some (.inr (5, fs2)) := by rw [← h23]; exact (gs_ne (ne_ao h5 h1)).trans h1
  refine gf_Sv_17 ok d_Sv_turn_20 h25 h12 ?_
  refine g_iload_n ok d_Sv_turn_23 rfl (j := 1) rfl ?_
  refine g_aload_n ok d_Sv_turn_24 rfl (j := 2) rfl ?_
  have h26 : M22[f11]? = some (.inl (5, N15, .inr (.inr (.inr (.inr g14))))) := by rw [← h23]; exact (gs_ne (Ne.symm h27)).trans h13
  have h31 : M22[o9]? = some (.inr (4, fs30)) := by rw [← h23]; exact (gs_ne (ne_ao h5 h29)).trans h29
  refine g_aast (t := 5) (ci := 4) (r := (RSo, TSo, 2)) ok rfl rfl d_Sv_turn_25 h26 h31 h28 ?_
  rw [h33]
  have h34 : M32[f11]? = some (.inl (5, N15, .inr (.inr (.inr (.inr (va_up g14 x1.toNatClampNeg (some o9))))))) := by rw [← h33]; exact gs_eq h26
  exact g_vret ok E d_Sv_turn_26 hp hk hn
theorem k_Sv_joinPattern_0 {X : gC} {M : List mC} {k n : Nat} {x0 : Nat} {x1 : Nat} {x2 : Nat} {x3 : Nat} (ok : gO X c_Sv_joinPattern "TripleStore$Solver" w_Sv_joinPattern) (hl : gL X = 6)  (kk : gg X M k n 3 [(0, .ref x0), (1, .ref x1), (2, .ref x2), (3, .ref x3), (4, .int 0)] []) : gg X M k n 0 [(0, .ref x0), (1, .ref x1), (2, .ref x2), (3, .ref x3)] [] := by
  refine g_iconst (v := 0) ok d_Sv_joinPattern_0 (by decide) ?_
  refine g_istore (L' := [(0, .ref x0), (1, .ref x1), (2, .ref x2), (3, .ref x3), (4, .int 0)]) ok d_Sv_joinPattern_1 (by rw [hl]; decide) rfl ?_
  exact kk
theorem k_Sv_joinPattern_3 {X : gC} {M : List mC} {k n : Nat} {x0 : Nat} {x1 : Nat} {x2 : Nat} {x3 : Nat} {x4 : Int32} {fs2 : List Value} (ok : gO X c_Sv_joinPattern "TripleStore$Solver" w_Sv_joinPattern) (h1 : M[x2]? = some (.inr (4, fs2))) {rm : Room} {post : Option Value → List mC → Prop} (hm : mm_ (gLa X) y_So_size w_So_size rm [.ref x2] M post) (hR : gF X rm 1 k n) (hlen : ∀ r M', post r M' → M'.length = M.length) (kk : ∀ r M', post r M' → gg X M' (k + rm.cells) (n + rm.slots) 9 [(0, .ref x0), (1, .ref x1), (2, .ref x2), (3, .ref x3), (4, .int x4)] (r.toList ++ [.int x4])) : gg X M k n 3 [(0, .ref x0), (1, .ref x1), (2, .ref x2), (3, .ref x3), (4, .int x4)] [] := by
  refine g_iload ok d_Sv_joinPattern_3 (j := 4) rfl ?_
  refine g_aload_n ok d_Sv_joinPattern_5 rfl (j := 2) rfl ?_
  exact gc_Sv_82 (As := []) (rest := [.int x4]) ok d_Sv_joinPattern_6 hm rfl rfl (Nat.le_of_ble_eq_true rfl) hR h1 hlen kk
theorem k_Sv_joinPattern_9 {X : gC} {M : List mC} {k n : Nat} {x0 : Nat} {x1 : Nat} {x2 : Nat} {x3 : Nat} {x4 : Int32} {s0 : Int32} {s1 : Int32} (ok : gO X c_Sv_joinPattern "TripleStore$Solver" w_Sv_joinPattern)  (kt : s1 ≤ s0 → gg X M k n 72 [] []) (kf : ¬ s1 ≤ s0 → gg X M k n 12 [(0, .ref x0), (1, .ref x1), (2, .ref x2), (3, .ref x3), (4, .int x4)] []) : gg X M k n 9 [(0, .ref x0), (1, .ref x1), (2, .ref x2), (3, .ref x3), (4, .int x4)] [.int s1, .int s0] := by
  exact g_icmp_ge (tgt := 72) ok d_Sv_joinPattern_9 (by decide) (fun z => (gg_keep [] (kt z))) (fun z => (kf z))
theorem k_Sv_joinPattern_12 {X : gC} {M : List mC} {k n : Nat} {x0 : Nat} {x1 : Nat} {x2 : Nat} {x3 : Nat} {x4 : Int32} (ok : gO X c_Sv_joinPattern "TripleStore$Solver" w_Sv_joinPattern) (hl : gL X = 6)  (kk : gg X M k n 15 [(0, .ref x0), (1, .ref x1), (2, .ref x2), (3, .ref x3), (4, .int x4), (5, .int 0)] []) : gg X M k n 12 [(0, .ref x0), (1, .ref x1), (2, .ref x2), (3, .ref x3), (4, .int x4)] [] := by
  refine g_iconst (v := 0) ok d_Sv_joinPattern_12 (by decide) ?_
  refine g_istore (L' := [(0, .ref x0), (1, .ref x1), (2, .ref x2), (3, .ref x3), (4, .int x4), (5, .int 0)]) ok d_Sv_joinPattern_13 (by rw [hl]; decide) rfl ?_
  exact kk
theorem k_Sv_joinPattern_15 {X : gC} {M : List mC} {k n : Nat} {x0 : Nat} {x1 : Nat} {x2 : Nat} {x3 : Nat} {x4 : Int32} {x5 : Int32} {fs2 : List Value} {f3 : Nat} {fs6 : List Value} (ok : gO X c_Sv_joinPattern "TripleStore$Solver" w_Sv_joinPattern) (h1 : M[x0]? = some (.inr (5, fs2))) (h4 : fs2[0]? = some (.ref f3)) (h5 : M[f3]? = some (.inr (6, fs6))) {rm : Room} {post : Option Value → List mC → Prop} (hm : mm_ (gLa X) y_St_size w_St_size rm [.ref f3] M post) (hR : gF X rm 1 k n) (hlen : ∀ r M', post r M' → M'.length = M.length) (kk : ∀ r M', post r M' → gg X M' (k + rm.cells) (n + rm.slots) 24 [(0, .ref x0), (1, .ref x1), (2, .ref x2), (3, .ref x3), (4, .int x4), (5, .int x5)] (r.toList ++ [.int x5])) : gg X M k n 15 [(0, .ref x0), (1, .ref x1), (2, .ref x2), (3, .ref x3), (4, .int x4), (5, .int x5)] [] := by
  refine g_iload ok d_Sv_joinPattern_15 (j := 5) rfl ?_
  refine g_aload_n ok d_Sv_joinPattern_17 rfl (j := 0) rfl ?_
  refine gf_Sv_24 ok d_Sv_joinPattern_18 h1 h4 ?_
  exact gc_Sv_86 (As := []) (rest := [.int x5]) ok d_Sv_joinPattern_21 hm rfl rfl (Nat.le_of_ble_eq_true rfl) hR h5 hlen kk
theorem k_Sv_joinPattern_24 {X : gC} {M : List mC} {k n : Nat} {x0 : Nat} {x1 : Nat} {x2 : Nat} {x3 : Nat} {x4 : Int32} {x5 : Int32} {s0 : Int32} {s1 : Int32} (ok : gO X c_Sv_joinPattern "TripleStore$Solver" w_Sv_joinPattern)  (kt : s1 ≤ s0 → gg X M k n 66 [(0, .ref x0), (1, .ref x1), (2, .ref x2), (3, .ref x3), (4, .int x4)] []) (kf : ¬ s1 ≤ s0 → gg X M k n 27 [(0, .ref x0), (1, .ref x1), (2, .ref x2), (3, .ref x3), (4, .int x4), (5, .int x5)] []) : gg X M k n 24 [(0, .ref x0), (1, .ref x1), (2, .ref x2), (3, .ref x3), (4, .int x4), (5, .int x5)] [.int s1, .int s0] := by
  exact g_icmp_ge (tgt := 66) ok d_Sv_joinPattern_24 (by decide) (fun z => (gg_keep [0, 1, 2, 3, 4] (kt z))) (fun z => (kf z))
theorem k_Sv_joinPattern_27 {X : gC} {M : List mC} {k n : Nat} {x0 : Nat} {x1 : Nat} {x2 : Nat} {x3 : Nat} {x4 : Int32} {x5 : Int32} {fs2 : List Value} {f3 : Nat} {fs6 : List Value} (ok : gO X c_Sv_joinPattern "TripleStore$Solver" w_Sv_joinPattern) (h1 : M[x0]? = some (.inr (5, fs2))) (h4 : fs2[4]? = some (.ref f3)) (h5 : M[x2]? = some (.inr (4, fs6))) {rm : Room} {post : Option Value → List mC → Prop} (hm : mm_ (gLa X) y_So_copy w_So_copy rm [.ref x2, .int x4, .ref f3] M post) (hR : gF X rm 3 k n) (hlen : ∀ r M', post r M' → M'.length = M.length) (kk : ∀ r M', post r M' → gg X M' (k + rm.cells) (n + rm.slots) 37 [(0, .ref x0), (1, .ref x1), (2, .ref x2), (3, .ref x3), (4, .int x4), (5, .int x5)] (r.toList ++ [])) : gg X M k n 27 [(0, .ref x0), (1, .ref x1), (2, .ref x2), (3, .ref x3), (4, .int x4), (5, .int x5)] [] := by
  refine g_aload_n ok d_Sv_joinPattern_27 rfl (j := 2) rfl ?_
  refine g_iload ok d_Sv_joinPattern_28 (j := 4) rfl ?_
  refine g_aload_n ok d_Sv_joinPattern_30 rfl (j := 0) rfl ?_
  refine gf_Sv_20 ok d_Sv_joinPattern_31 h1 h4 ?_
  exact gc_Sv_89 (As := [.int x4, .ref f3]) (rest := []) ok d_Sv_joinPattern_34 hm rfl rfl (Nat.le_of_ble_eq_true rfl) hR h5 hlen kk
theorem k_Sv_joinPattern_37 {X : gC} {M : List mC} {k n : Nat} {x0 : Nat} {x1 : Nat} {x2 : Nat} {x3 : Nat} {x4 : Int32} {x5 : Int32} {fs2 : List Value} (ok : gO X c_Sv_joinPattern "TripleStore$Solver" w_Sv_joinPattern) (h1 : M[x0]? = some (.inr (5, fs2))) {rm : Room} {post : Option Value → List mC → Prop} (hm : mm_ (gLa X) y_Sv_fitsTriple w_Sv_fitsTriple rm [.ref x0, .ref x1, .int x5] M post) (hR : gF X rm 3 k n) (hlen : ∀ r M', post r M' → M'.length = M.length) (kk : ∀ r M', post r M' → gg X M' (k + rm.cells) (n + rm.slots) 44 [(0, .ref x0), (1, .ref x1), (2, .ref x2), (3, .ref x3), (4, .int x4), (5, .int x5)] (r.toList ++ [])) : gg X M k n 37 [(0, .ref x0), (1, .ref x1), (2, .ref x2), (3, .ref x3), (4, .int x4), (5, .int x5)] [] := by
  refine g_aload_n ok d_Sv_joinPattern_37 rfl (j := 0) rfl ?_
  refine g_aload_n ok d_Sv_joinPattern_38 rfl (j := 1) rfl ?_
  refine g_iload ok d_Sv_joinPattern_39 (j := 5) rfl ?_
  exact gc_Sv_93 (As := [.ref x1, .int x5]) (rest := []) ok d_Sv_joinPattern_41 hm rfl rfl (Nat.le_of_ble_eq_true rfl) hR h1 hlen kk
theorem k_Sv_joinPattern_44 {X : gC} {M : List mC} {k n : Nat} {x0 : Nat} {x1 : Nat} {x2 : Nat} {x3 : Nat} {x4 : Int32} {x5 : Int32} {s0 : Int32} (ok : gO X c_Sv_joinPattern "TripleStore$Solver" w_Sv_joinPattern)  (kt : s0 = 0 → gg X M k n 60 [(0, .ref x0), (1, .ref x1), (2, .ref x2), (3, .ref x3), (4, .int x4), (5, .int x5)] []) (kf : ¬ s0 = 0 → gg X M k n 47 [(0, .ref x0), (1, .ref x1), (2, .ref x2), (3, .ref x3), (4, .int x4), (5, .int x5)] []) : gg X M k n 44 [(0, .ref x0), (1, .ref x1), (2, .ref x2), (3, .ref x3), (4, .int x4), (5, .int x5)] [.int s0] := by
  exact g_if_eq (tgt := 60) ok d_Sv_joinPattern_44 (by decide) (fun z => (kt z)) (fun z => (kf z))
theorem k_Sv_joinPattern_47 {X : gC} {M : List mC} {k n : Nat} {x0 : Nat} {x1 : Nat} {x2 : Nat} {x3 : Nat} {x4 : Int32} {x5 : Int32} {fs2 : List Value} {f3 : Nat} {fs6 : List Value} (ok : gO X c_Sv_joinPattern "TripleStore$Solver" w_Sv_joinPattern) (h1 : M[x0]? = some (.inr (5, fs2))) (h4 : fs2[4]? = some (.ref f3)) (h5 : M[x3]? = some (.inr (4, fs6))) {rm : Room} {post : Option Value → List mC → Prop} (hm : mm_ (gLa X) y_So_put w_So_put rm [.ref x3, .ref f3] M post) (hR : gF X rm 2 k n) (hlen : ∀ r M', post r M' → M'.length = M.length) (kk : ∀ r M', post r M' → gg X M' (k + rm.cells) (n + rm.slots) 55 [(0, .ref x0), (1, .ref x1), (2, .ref x2), (3, .ref x3), (4, .int x4), (5, .int x5)] (r.toList ++ [])) : gg X M k n 47 [(0, .ref x0), (1, .ref x1), (2, .ref x2), (3, .ref x3), (4, .int x4), (5, .int x5)] [] := by
  refine g_aload_n ok d_Sv_joinPattern_47 rfl (j := 3) rfl ?_
  refine g_aload_n ok d_Sv_joinPattern_48 rfl (j := 0) rfl ?_
  refine gf_Sv_20 ok d_Sv_joinPattern_49 h1 h4 ?_
  exact gc_Sv_44 (As := [.ref f3]) (rest := []) ok d_Sv_joinPattern_52 hm rfl rfl (Nat.le_of_ble_eq_true rfl) hR h5 hlen kk
theorem k_Sv_joinPattern_55 {X : gC} {M : List mC} {k n : Nat} {x0 : Nat} {x1 : Nat} {x2 : Nat} {x3 : Nat} {x4 : Int32} {x5 : Int32} {s0 : Int32} (ok : gO X c_Sv_joinPattern "TripleStore$Solver" w_Sv_joinPattern)  (kt : ¬ s0 = 0 → gg X M k n 60 [(0, .ref x0), (1, .ref x1), (2, .ref x2), (3, .ref x3), (4, .int x4), (5, .int x5)] []) (kf : s0 = 0 → gg X M k n 58 [] []) : gg X M k n 55 [(0, .ref x0), (1, .ref x1), (2, .ref x2), (3, .ref x3), (4, .int x4), (5, .int x5)] [.int s0] := by
  exact g_if_ne (tgt := 60) ok d_Sv_joinPattern_55 (by decide) (fun z => (kt z)) (fun z => (gg_keep [] (kf z)))
theorem k_Sv_joinPattern_58 {X : gC} {M : List mC} {k n : Nat}  (ok : gO X c_Sv_joinPattern "TripleStore$Solver" w_Sv_joinPattern)  {l9 : Launch} {rm : Room} {M0 : List mC} {post : Option Value → List mC → Prop} (E : gE X l9 y_Sv_joinPattern rm 6 (some .boolean) M0 post) (hp : post (some (.int 0)) M) (hk : k ≤ rm.cells) (hn : n ≤ rm.slots) : gg X M k n 58 [] [] := by
  refine g_iconst (v := 0) ok d_Sv_joinPattern_58 (by decide) ?_
  exact g_zret ok E d_Sv_joinPattern_59 rfl hp hk hn
theorem k_Sv_joinPattern_60 {X : gC} {M : List mC} {k n : Nat} {x0 : Nat} {x1 : Nat} {x2 : Nat} {x3 : Nat} {x4 : Int32} {x5 : Int32} (ok : gO X c_Sv_joinPattern "TripleStore$Solver" w_Sv_joinPattern) (hl : gL X = 6)  (kk : gg X M k n 15 [(0, .ref x0), (1, .ref x1), (2, .ref x2), (3, .ref x3), (4, .int x4), (5, .int (x5 + 1))] []) : gg X M k n 60 [(0, .ref x0), (1, .ref x1), (2, .ref x2), (3, .ref x3), (4, .int x4), (5, .int x5)] [] := by
  refine g_iinc (L' := [(0, .ref x0), (1, .ref x1), (2, .ref x2), (3, .ref x3), (4, .int x4), (5, .int (x5 + 1))]) (v := (x5 + 1)) ok d_Sv_joinPattern_60 (j := 5) rfl rfl (by rw [hl]; decide) rfl ?_
  exact g_goto (tgt := 15) ok d_Sv_joinPattern_63 (by decide) kk
theorem k_Sv_joinPattern_66 {X : gC} {M : List mC} {k n : Nat} {x0 : Nat} {x1 : Nat} {x2 : Nat} {x3 : Nat} {x4 : Int32} (ok : gO X c_Sv_joinPattern "TripleStore$Solver" w_Sv_joinPattern) (hl : gL X = 6)  (kk : gg X M k n 3 [(0, .ref x0), (1, .ref x1), (2, .ref x2), (3, .ref x3), (4, .int (x4 + 1))] []) : gg X M k n 66 [(0, .ref x0), (1, .ref x1), (2, .ref x2), (3, .ref x3), (4, .int x4)] [] := by
  refine g_iinc (L' := [(0, .ref x0), (1, .ref x1), (2, .ref x2), (3, .ref x3), (4, .int (x4 + 1))]) (v := (x4 + 1)) ok d_Sv_joinPattern_66 (j := 4) rfl rfl (by rw [hl]; decide) rfl ?_
  exact g_goto (tgt := 3) ok d_Sv_joinPattern_69 (by decide) kk
theorem k_Sv_joinPattern_72 {X : gC} {M : List mC} {k n : Nat}  (ok : gO X c_Sv_joinPattern "TripleStore$Solver" w_Sv_joinPattern)  {l9 : Launch} {rm : Room} {M0 : List mC} {post : Option Value → List mC → Prop} (E : gE X l9 y_Sv_joinPattern rm 6 (some .boolean) M0 post) (hp : post (some (.int 1)) M) (hk : k ≤ rm.cells) (hn : n ≤ rm.slots) : gg X M k n 72 [] [] := by
  refine g_iconst (v := 1) ok d_Sv_joinPattern_72 (by decide) ?_
  exact g_zret ok E d_Sv_joinPattern_73 rfl hp hk hn
theorem k_Sv_fitsTriple_0 {X : gC} {M : List mC} {k n : Nat} {x0 : Nat} {x1 : Nat} {x2 : Int32} {fs2 : List Value} {f3 : Int64} {fs6 : List Value} {f7 : Nat} {fs10 : List Value} (ok : gO X c_Sv_fitsTriple "TripleStore$Solver" w_Sv_fitsTriple) (h1 : M[x1]? = some (.inr (0, fs2))) (h4 : fs2[2]? = some (.long f3)) (h5 : M[x0]? = some (.inr (5, fs6))) (h8 : fs6[0]? = some (.ref f7)) (h9 : M[f7]? = some (.inr (6, fs10))) {rm : Room} {post : Option Value → List mC → Prop} (hm : mm_ (gLa X) y_St_subject w_St_subject rm [.ref f7, .int x2] M post) (hR : gF X rm 2 k n) (hlen : ∀ r M', post r M' → M'.length = M.length) (kk : ∀ r M', post r M' → gg X M' (k + rm.cells) (n + rm.slots) 13 [(0, .ref x0), (1, .ref x1), (2, .int x2)] (r.toList ++ [.long f3, .ref x0])) : gg X M k n 0 [(0, .ref x0), (1, .ref x1), (2, .int x2)] [] := by
  refine g_aload_n ok d_Sv_fitsTriple_0 rfl (j := 0) rfl ?_
  refine g_aload_n ok d_Sv_fitsTriple_1 rfl (j := 1) rfl ?_
  refine gf_Sv_97 ok d_Sv_fitsTriple_2 h1 h4 ?_
  refine g_aload_n ok d_Sv_fitsTriple_5 rfl (j := 0) rfl ?_
  refine gf_Sv_24 ok d_Sv_fitsTriple_6 h5 h8 ?_
  refine g_iload_n ok d_Sv_fitsTriple_9 rfl (j := 2) rfl ?_
  exact gc_Sv_101 (As := [.int x2]) (rest := [.long f3, .ref x0]) ok d_Sv_fitsTriple_10 hm rfl rfl (Nat.le_of_ble_eq_true rfl) hR h9 hlen kk
theorem k_Sv_fitsTriple_13 {X : gC} {M : List mC} {k n : Nat} {x0 : Nat} {x1 : Nat} {x2 : Int32} {s1 : Int64} {s2 : Int64} {fs2 : List Value} (ok : gO X c_Sv_fitsTriple "TripleStore$Solver" w_Sv_fitsTriple) (h1 : M[x0]? = some (.inr (5, fs2))) {rm : Room} {post : Option Value → List mC → Prop} (hm : mm_ (gLa X) y_Sv_fitsTerm w_Sv_fitsTerm rm [.ref x0, .long s1, .long s2] M post) (hR : gF X rm 8 k n) (hlen : ∀ r M', post r M' → M'.length = M.length) (kk : ∀ r M', post r M' → gg X M' (k + rm.cells) (n + rm.slots) 16 [(0, .ref x0), (1, .ref x1), (2, .int x2)] (r.toList ++ [])) : gg X M k n 13 [(0, .ref x0), (1, .ref x1), (2, .int x2)] [.long s2, .long s1, .ref x0] := by
  exact gc_Sv_105 (As := [.long s1, .long s2]) (rest := []) ok d_Sv_fitsTriple_13 hm rfl rfl (Nat.le_of_ble_eq_true rfl) hR h1 hlen kk
theorem k_Sv_fitsTriple_16 {X : gC} {M : List mC} {k n : Nat} {x0 : Nat} {x1 : Nat} {x2 : Int32} {s0 : Int32} (ok : gO X c_Sv_fitsTriple "TripleStore$Solver" w_Sv_fitsTriple)  (kt : s0 = 0 → gg X M k n 61 [] []) (kf : ¬ s0 = 0 → gg X M k n 19 [(0, .ref x0), (1, .ref x1), (2, .int x2)] []) : gg X M k n 16 [(0, .ref x0), (1, .ref x1), (2, .int x2)] [.int s0] := by
  exact g_if_eq (tgt := 61) ok d_Sv_fitsTriple_16 (by decide) (fun z => (gg_keep [] (kt z))) (fun z => (kf z))
theorem k_Sv_fitsTriple_19 {X : gC} {M : List mC} {k n : Nat} {x0 : Nat} {x1 : Nat} {x2 : Int32} {fs2 : List Value} {f3 : Int64} {fs6 : List Value} {f7 : Nat} {fs10 : List Value} (ok : gO X c_Sv_fitsTriple "TripleStore$Solver" w_Sv_fitsTriple) (h1 : M[x1]? = some (.inr (0, fs2))) (h4 : fs2[3]? = some (.long f3)) (h5 : M[x0]? = some (.inr (5, fs6))) (h8 : fs6[0]? = some (.ref f7)) (h9 : M[f7]? = some (.inr (6, fs10))) {rm : Room} {post : Option Value → List mC → Prop} (hm : mm_ (gLa X) y_St_predicate w_St_predicate rm [.ref f7, .int x2] M post) (hR : gF X rm 2 k n) (hlen : ∀ r M', post r M' → M'.length = M.length) (kk : ∀ r M', post r M' → gg X M' (k + rm.cells) (n + rm.slots) 32 [(0, .ref x0), (1, .ref x1), (2, .int x2)] (r.toList ++ [.long f3, .ref x0])) : gg X M k n 19 [(0, .ref x0), (1, .ref x1), (2, .int x2)] [] := by
  refine g_aload_n ok d_Sv_fitsTriple_19 rfl (j := 0) rfl ?_
  refine g_aload_n ok d_Sv_fitsTriple_20 rfl (j := 1) rfl ?_
  refine gf_Sv_109 ok d_Sv_fitsTriple_21 h1 h4 ?_
  refine g_aload_n ok d_Sv_fitsTriple_24 rfl (j := 0) rfl ?_
  refine gf_Sv_24 ok d_Sv_fitsTriple_25 h5 h8 ?_
  refine g_iload_n ok d_Sv_fitsTriple_28 rfl (j := 2) rfl ?_
  exact gc_Sv_112 (As := [.int x2]) (rest := [.long f3, .ref x0]) ok d_Sv_fitsTriple_29 hm rfl rfl (Nat.le_of_ble_eq_true rfl) hR h9 hlen kk
theorem k_Sv_fitsTriple_32 {X : gC} {M : List mC} {k n : Nat} {x0 : Nat} {x1 : Nat} {x2 : Int32} {s1 : Int64} {s2 : Int64} {fs2 : List Value} (ok : gO X c_Sv_fitsTriple "TripleStore$Solver" w_Sv_fitsTriple) (h1 : M[x0]? = some (.inr (5, fs2))) {rm : Room} {post : Option Value → List mC → Prop} (hm : mm_ (gLa X) y_Sv_fitsTerm w_Sv_fitsTerm rm [.ref x0, .long s1, .long s2] M post) (hR : gF X rm 8 k n) (hlen : ∀ r M', post r M' → M'.length = M.length) (kk : ∀ r M', post r M' → gg X M' (k + rm.cells) (n + rm.slots) 35 [(0, .ref x0), (1, .ref x1), (2, .int x2)] (r.toList ++ [])) : gg X M k n 32 [(0, .ref x0), (1, .ref x1), (2, .int x2)] [.long s2, .long s1, .ref x0] := by
  exact gc_Sv_105 (As := [.long s1, .long s2]) (rest := []) ok d_Sv_fitsTriple_32 hm rfl rfl (Nat.le_of_ble_eq_true rfl) hR h1 hlen kk
theorem k_Sv_fitsTriple_35 {X : gC} {M : List mC} {k n : Nat} {x0 : Nat} {x1 : Nat} {x2 : Int32} {s0 : Int32} (ok : gO X c_Sv_fitsTriple "TripleStore$Solver" w_Sv_fitsTriple)  (kt : s0 = 0 → gg X M k n 61 [] []) (kf : ¬ s0 = 0 → gg X M k n 38 [(0, .ref x0), (1, .ref x1), (2, .int x2)] []) : gg X M k n 35 [(0, .ref x0), (1, .ref x1), (2, .int x2)] [.int s0] := by
  exact g_if_eq (tgt := 61) ok d_Sv_fitsTriple_35 (by decide) (fun z => (gg_keep [] (kt z))) (fun z => (kf z))
theorem k_Sv_fitsTriple_38 {X : gC} {M : List mC} {k n : Nat} {x0 : Nat} {x1 : Nat} {x2 : Int32} {fs2 : List Value} {f3 : Int64} {fs6 : List Value} {f7 : Nat} {fs10 : List Value} (ok : gO X c_Sv_fitsTriple "TripleStore$Solver" w_Sv_fitsTriple) (h1 : M[x1]? = some (.inr (0, fs2))) (h4 : fs2[4]? = some (.long f3)) (h5 : M[x0]? = some (.inr (5, fs6))) (h8 : fs6[0]? = some (.ref f7)) (h9 : M[f7]? = some (.inr (6, fs10))) {rm : Room} {post : Option Value → List mC → Prop} (hm : mm_ (gLa X) y_St_object w_St_object rm [.ref f7, .int x2] M post) (hR : gF X rm 2 k n) (hlen : ∀ r M', post r M' → M'.length = M.length) (kk : ∀ r M', post r M' → gg X M' (k + rm.cells) (n + rm.slots) 51 [(0, .ref x0)] (r.toList ++ [.long f3, .ref x0])) : gg X M k n 38 [(0, .ref x0), (1, .ref x1), (2, .int x2)] [] := by
  refine g_aload_n ok d_Sv_fitsTriple_38 rfl (j := 0) rfl ?_
  refine g_aload_n ok d_Sv_fitsTriple_39 rfl (j := 1) rfl ?_
  refine gf_Sv_115 ok d_Sv_fitsTriple_40 h1 h4 ?_
  refine g_aload_n ok d_Sv_fitsTriple_43 rfl (j := 0) rfl ?_
  refine gf_Sv_24 ok d_Sv_fitsTriple_44 h5 h8 ?_
  refine g_iload_n ok d_Sv_fitsTriple_47 rfl (j := 2) rfl ?_
  exact gc_Sv_118 (As := [.int x2]) (rest := [.long f3, .ref x0]) ok d_Sv_fitsTriple_48 hm rfl rfl (Nat.le_of_ble_eq_true rfl) hR h9 hlen (fun r M' q => (gg_keep [0] (kk r M' q)))
theorem k_Sv_fitsTriple_51 {X : gC} {M : List mC} {k n : Nat} {x0 : Nat} {s1 : Int64} {s2 : Int64} {fs2 : List Value} (ok : gO X c_Sv_fitsTriple "TripleStore$Solver" w_Sv_fitsTriple) (h1 : M[x0]? = some (.inr (5, fs2))) {rm : Room} {post : Option Value → List mC → Prop} (hm : mm_ (gLa X) y_Sv_fitsTerm w_Sv_fitsTerm rm [.ref x0, .long s1, .long s2] M post) (hR : gF X rm 8 k n) (hlen : ∀ r M', post r M' → M'.length = M.length) (kk : ∀ r M', post r M' → gg X M' (k + rm.cells) (n + rm.slots) 54 [] (r.toList ++ [])) : gg X M k n 51 [(0, .ref x0)] [.long s2, .long s1, .ref x0] := by
  exact gc_Sv_105 (As := [.long s1, .long s2]) (rest := []) ok d_Sv_fitsTriple_51 hm rfl rfl (Nat.le_of_ble_eq_true rfl) hR h1 hlen (fun r M' q => (gg_keep [] (kk r M' q)))
theorem k_Sv_fitsTriple_54 {X : gC} {M : List mC} {k n : Nat} {s0 : Int32} (ok : gO X c_Sv_fitsTriple "TripleStore$Solver" w_Sv_fitsTriple)  (kt : s0 = 0 → gg X M k n 61 [] []) (kf : ¬ s0 = 0 → gg X M k n 57 [] []) : gg X M k n 54 [] [.int s0] := by
  exact g_if_eq (tgt := 61) ok d_Sv_fitsTriple_54 (by decide) (fun z => (kt z)) (fun z => (kf z))
theorem k_Sv_fitsTriple_57 {X : gC} {M : List mC} {k n : Nat}  (ok : gO X c_Sv_fitsTriple "TripleStore$Solver" w_Sv_fitsTriple)  (kk : gg X M k n 62 [] [.int 1]) : gg X M k n 57 [] [] := by
  refine g_iconst (v := 1) ok d_Sv_fitsTriple_57 (by decide) ?_
  exact g_goto (tgt := 62) ok d_Sv_fitsTriple_58 (by decide) kk
theorem k_Sv_fitsTriple_61 {X : gC} {M : List mC} {k n : Nat}  (ok : gO X c_Sv_fitsTriple "TripleStore$Solver" w_Sv_fitsTriple)  (kk : gg X M k n 62 [] [.int 0]) : gg X M k n 61 [] [] := by
  refine g_iconst (v := 0) ok d_Sv_fitsTriple_61 (by decide) ?_
  exact kk
theorem k_Sv_fitsTriple_62 {X : gC} {M : List mC} {k n : Nat} {s0 : Int32} (ok : gO X c_Sv_fitsTriple "TripleStore$Solver" w_Sv_fitsTriple)  {l9 : Launch} {rm : Room} {M0 : List mC} {post : Option Value → List mC → Prop} (E : gE X l9 y_Sv_fitsTriple rm 3 (some .boolean) M0 post) (hz : narrow .boolean (.int s0) = .int s0) (hp : post (some (.int s0)) M) (hk : k ≤ rm.cells) (hn : n ≤ rm.slots) : gg X M k n 62 [] [.int s0] := by
  exact g_zret ok E d_Sv_fitsTriple_62 hz hp hk hn
theorem k_Sv_fitsTerm_0 {X : gC} {M : List mC} {k n : Nat} {x0 : Nat} {x1 : Int64} {x3 : Int64} {fs2 : List Value} (ok : gO X c_Sv_fitsTerm "TripleStore$Solver" w_Sv_fitsTerm) (h1 : M[x0]? = some (.inr (5, fs2))) {rm : Room} {post : Option Value → List mC → Prop} (hm : mm_ (gLa X) y_Sv_termOf w_Sv_termOf rm [.ref x0, .long x1] M post) (hR : gF X rm 4 k n) (hlen : ∀ r M', post r M' → M'.length = M.length) (kk : ∀ r M', post r M' → gg X M' (k + rm.cells) (n + rm.slots) 5 [(0, .ref x0), (1, .long x1), (3, .long x3)] (r.toList ++ [])) : gg X M k n 0 [(0, .ref x0), (1, .long x1), (3, .long x3)] [] := by
  refine g_aload_n ok d_Sv_fitsTerm_0 rfl (j := 0) rfl ?_
  refine g_lload_n ok d_Sv_fitsTerm_1 rfl (j := 1) rfl ?_
  exact gc_Sv_121 (As := [.long x1]) (rest := []) ok d_Sv_fitsTerm_2 hm rfl rfl (Nat.le_of_ble_eq_true rfl) hR h1 hlen kk
theorem k_Sv_fitsTerm_5 {X : gC} {M : List mC} {k n : Nat} {x0 : Nat} {x1 : Int64} {x3 : Int64} {s0 : Int64} (ok : gO X c_Sv_fitsTerm "TripleStore$Solver" w_Sv_fitsTerm) (hl : gL X = 8)  (kt : s0 = 0 → gg X M k n 27 [(0, .ref x0), (1, .long x1), (3, .long x3)] []) (kf : ¬ s0 = 0 → gg X M k n 14 [(3, .long x3), (5, .long s0)] []) : gg X M k n 5 [(0, .ref x0), (1, .long x1), (3, .long x3)] [.long s0] := by
  refine g_lstore (L' := [(0, .ref x0), (1, .long x1), (3, .long x3), (5, .long s0)]) ok d_Sv_fitsTerm_5 (by rw [hl]; decide) rfl ?_
  refine g_lload ok d_Sv_fitsTerm_7 (j := 3) rfl ?_
  refine g_lconst (v := 0) ok d_Sv_fitsTerm_9 (by decide) ?_
  exact g_lc_eq (tgt := 27) ok d_Sv_fitsTerm_10 d_Sv_fitsTerm_11 (by decide) (fun z => (gg_keep [0, 1, 3] (kt z))) (fun z => (gg_keep [3, 5] (kf z)))
theorem k_Sv_fitsTerm_14 {X : gC} {M : List mC} {k n : Nat} {x3 : Int64} {x5 : Int64} (ok : gO X c_Sv_fitsTerm "TripleStore$Solver" w_Sv_fitsTerm)  (kt : ¬ x5 = x3 → gg X M k n 25 [] []) (kf : x5 = x3 → gg X M k n 21 [] []) : gg X M k n 14 [(3, .long x3), (5, .long x5)] [] := by
  refine g_lload ok d_Sv_fitsTerm_14 (j := 1) rfl ?_
  refine g_lload_n ok d_Sv_fitsTerm_16 rfl (j := 0) rfl ?_
  exact g_lc_ne (tgt := 25) ok d_Sv_fitsTerm_17 d_Sv_fitsTerm_18 (by decide) (fun z => (gg_keep [] (kt z))) (fun z => (gg_keep [] (kf z)))
theorem k_Sv_fitsTerm_21 {X : gC} {M : List mC} {k n : Nat}  (ok : gO X c_Sv_fitsTerm "TripleStore$Solver" w_Sv_fitsTerm)  (kk : gg X M k n 26 [] [.int 1]) : gg X M k n 21 [] [] := by
  refine g_iconst (v := 1) ok d_Sv_fitsTerm_21 (by decide) ?_
  exact g_goto (tgt := 26) ok d_Sv_fitsTerm_22 (by decide) kk
theorem k_Sv_fitsTerm_25 {X : gC} {M : List mC} {k n : Nat}  (ok : gO X c_Sv_fitsTerm "TripleStore$Solver" w_Sv_fitsTerm)  (kk : gg X M k n 26 [] [.int 0]) : gg X M k n 25 [] [] := by
  refine g_iconst (v := 0) ok d_Sv_fitsTerm_25 (by decide) ?_
  exact kk
theorem k_Sv_fitsTerm_26 {X : gC} {M : List mC} {k n : Nat} {s0 : Int32} (ok : gO X c_Sv_fitsTerm "TripleStore$Solver" w_Sv_fitsTerm)  {l9 : Launch} {rm : Room} {M0 : List mC} {post : Option Value → List mC → Prop} (E : gE X l9 y_Sv_fitsTerm rm 8 (some .boolean) M0 post) (hz : narrow .boolean (.int s0) = .int s0) (hp : post (some (.int s0)) M) (hk : k ≤ rm.cells) (hn : n ≤ rm.slots) : gg X M k n 26 [] [.int s0] := by
  exact g_zret ok E d_Sv_fitsTerm_26 hz hp hk hn
theorem k_Sv_fitsTerm_27 {X : gC} {M : List mC} {k n : Nat} {x0 : Nat} {x1 : Int64} {x3 : Int64} (ok : gO X c_Sv_fitsTerm "TripleStore$Solver" w_Sv_fitsTerm) (hl : gL X = 8)  (kt : (((x1 ^^^ (-1)) : Int64).toInt32) < 0 → gg X M k n 55 [] []) (kf : ¬ (((x1 ^^^ (-1)) : Int64).toInt32) < 0 → gg X M k n 40 [(0, .ref x0), (3, .long x3), (7, .int (((x1 ^^^ (-1)) : Int64).toInt32))] []) : gg X M k n 27 [(0, .ref x0), (1, .long x1), (3, .long x3)] [] := by
  refine g_lload_n ok d_Sv_fitsTerm_27 rfl (j := 1) rfl ?_
  refine g_ldc2 (v := (-1)) ok (List.mem_cons_of_mem _ (gT_at 802 (by decide +kernel) (by decide +kernel))) d_Sv_fitsTerm_28 ?_
  refine g_lxor ok d_Sv_fitsTerm_31 ?_
  refine g_l2i ok d_Sv_fitsTerm_32 ?_
  refine g_istore (L' := [(0, .ref x0), (1, .long x1), (3, .long x3), (7, .int (((x1 ^^^ (-1)) : Int64).toInt32))]) ok d_Sv_fitsTerm_33 (by rw [hl]; decide) rfl ?_
  refine g_iload ok d_Sv_fitsTerm_35 (j := 3) rfl ?_
  exact g_if_lt (tgt := 55) ok d_Sv_fitsTerm_37 (by decide) (fun z => (gg_keep [] (kt z))) (fun z => (gg_keep [0, 3, 7] (kf z)))
theorem k_Sv_fitsTerm_40 {X : gC} {M : List mC} {k n : Nat} {x0 : Nat} {x3 : Int64} {x7 : Int32} (ok : gO X c_Sv_fitsTerm "TripleStore$Solver" w_Sv_fitsTerm)  (kt : 6 ≤ x7 → gg X M k n 55 [] []) (kf : ¬ 6 ≤ x7 → gg X M k n 47 [(0, .ref x0), (3, .long x3), (7, .int x7)] []) : gg X M k n 40 [(0, .ref x0), (3, .long x3), (7, .int x7)] [] := by
  refine g_iload ok d_Sv_fitsTerm_40 (j := 2) rfl ?_
  refine g_bipush (v := 6) ok d_Sv_fitsTerm_42 (by decide) ?_
  exact g_icmp_ge (tgt := 55) ok d_Sv_fitsTerm_44 (by decide) (fun z => (gg_keep [] (kt z))) (fun z => (kf z))
theorem k_Sv_fitsTerm_47 {X : gC} {M : List mC} {k n : Nat} {x0 : Nat} {x3 : Int64} {x7 : Int32} {fs2 : List Value} {f3 : Nat} {g6 : Nat → Int64} {N7 : Nat} {M9 : List mC} (ok : gO X c_Sv_fitsTerm "TripleStore$Solver" w_Sv_fitsTerm) (h1 : M[x0]? = some (.inr (5, fs2))) (h4 : fs2[4]? = some (.ref f3)) (h5 : M[f3]? = some (.inl (1, N7, .inr (.inl g6)))) (h8 : vp_in x7 N7) (h10 : M.set f3 (.inl (1, N7, .inr (.inl (vp_updL g6 x7.toNatClampNeg x3)))) = M9) (kk : gg X M9 k n 55 [] []) : gg X M k n 47 [(0, .ref x0), (3, .long x3), (7, .int x7)] [] := by
  refine g_aload_n ok d_Sv_fitsTerm_47 rfl (j := 0) rfl ?_
  refine gf_Sv_20 ok d_Sv_fitsTerm_48 h1 h4 ?_
  refine g_iload ok d_Sv_fitsTerm_51 (j := 2) rfl ?_
  refine g_lload_n ok d_Sv_fitsTerm_53 rfl (j := 1) rfl ?_
  refine g_last (t := 1) ok rfl d_Sv_fitsTerm_54 h5 h8 ?_
  rw [h10]
  have h11 : M9[f3]? = some (.inl (1, N7, .inr (.inl (vp_updL g6 x7.toNatClampNeg x3)))) := by rw [← h10]; exact gs_eq h5
  exact (gg_keep [] kk)
theorem k_Sv_fitsTerm_55 {X : gC} {M : List mC} {k n : Nat}  (ok : gO X c_Sv_fitsTerm "TripleStore$Solver" w_Sv_fitsTerm)  {l9 : Launch} {rm : Room} {M0 : List mC} {post : Option Value → List mC → Prop} (E : gE X l9 y_Sv_fitsTerm rm 8 (some .boolean) M0 post) (hp : post (some (.int 1)) M) (hk : k ≤ rm.cells) (hn : n ≤ rm.slots) : gg X M k n 55 [] [] := by
  refine g_iconst (v := 1) ok d_Sv_fitsTerm_55 (by decide) ?_
  exact g_zret ok E d_Sv_fitsTerm_56 rfl hp hk hn
theorem k_Sv_termOf_0 {X : gC} {M : List mC} {k n : Nat} {x0 : Nat} {x1 : Int64} (ok : gO X c_Sv_termOf "TripleStore$Solver" w_Sv_termOf)  (kt : x1 < 0 → gg X M k n 8 [(0, .ref x0), (1, .long x1)] []) (kf : ¬ x1 < 0 → gg X M k n 6 [(1, .long x1)] []) : gg X M k n 0 [(0, .ref x0), (1, .long x1)] [] := by
  refine g_lload_n ok d_Sv_termOf_0 rfl (j := 1) rfl ?_
  refine g_lconst (v := 0) ok d_Sv_termOf_1 (by decide) ?_
  exact g_lc_lt (tgt := 8) ok d_Sv_termOf_2 d_Sv_termOf_3 (by decide) (fun z => (kt z)) (fun z => (gg_keep [1] (kf z)))
theorem k_Sv_termOf_6 {X : gC} {M : List mC} {k n : Nat} {x1 : Int64} (ok : gO X c_Sv_termOf "TripleStore$Solver" w_Sv_termOf)  {l9 : Launch} {rm : Room} {M0 : List mC} {post : Option Value → List mC → Prop} (E : gE X l9 y_Sv_termOf rm 4 (some .long) M0 post) (hp : post (some (.long x1)) M) (hk : k ≤ rm.cells) (hn : n ≤ rm.slots) : gg X M k n 6 [(1, .long x1)] [] := by
  refine g_lload_n ok d_Sv_termOf_6 rfl (j := 0) rfl ?_
  exact g_lret ok E d_Sv_termOf_7 hp hk hn
theorem k_Sv_termOf_8 {X : gC} {M : List mC} {k n : Nat} {x0 : Nat} {x1 : Int64} (ok : gO X c_Sv_termOf "TripleStore$Solver" w_Sv_termOf) (hl : gL X = 4)  (kt : (((x1 ^^^ (-1)) : Int64).toInt32) < 0 → gg X M k n 34 [] []) (kf : ¬ (((x1 ^^^ (-1)) : Int64).toInt32) < 0 → gg X M k n 19 [(0, .ref x0), (3, .int (((x1 ^^^ (-1)) : Int64).toInt32))] []) : gg X M k n 8 [(0, .ref x0), (1, .long x1)] [] := by
  refine g_lload_n ok d_Sv_termOf_8 rfl (j := 1) rfl ?_
  refine g_ldc2 (v := (-1)) ok (List.mem_cons_of_mem _ (gT_at 802 (by decide +kernel) (by decide +kernel))) d_Sv_termOf_9 ?_
  refine g_lxor ok d_Sv_termOf_12 ?_
  refine g_l2i ok d_Sv_termOf_13 ?_
  refine g_istore_n (L' := [(0, .ref x0), (1, .long x1), (3, .int (((x1 ^^^ (-1)) : Int64).toInt32))]) ok d_Sv_termOf_14 rfl (by rw [hl]; decide) rfl ?_
  refine g_iload_n ok d_Sv_termOf_15 rfl (j := 2) rfl ?_
  exact g_if_lt (tgt := 34) ok d_Sv_termOf_16 (by decide) (fun z => (gg_keep [] (kt z))) (fun z => (gg_keep [0, 3] (kf z)))
theorem k_Sv_termOf_19 {X : gC} {M : List mC} {k n : Nat} {x0 : Nat} {x3 : Int32} (ok : gO X c_Sv_termOf "TripleStore$Solver" w_Sv_termOf)  (kt : 6 ≤ x3 → gg X M k n 34 [] []) (kf : ¬ 6 ≤ x3 → gg X M k n 25 [(0, .ref x0), (3, .int x3)] []) : gg X M k n 19 [(0, .ref x0), (3, .int x3)] [] := by
  refine g_iload_n ok d_Sv_termOf_19 rfl (j := 1) rfl ?_
  refine g_bipush (v := 6) ok d_Sv_termOf_20 (by decide) ?_
  exact g_icmp_ge (tgt := 34) ok d_Sv_termOf_22 (by decide) (fun z => (gg_keep [] (kt z))) (fun z => (kf z))
theorem k_Sv_termOf_25 {X : gC} {M : List mC} {k n : Nat} {x0 : Nat} {x3 : Int32} {fs2 : List Value} {f3 : Nat} {g6 : Nat → Int64} {N7 : Nat} (ok : gO X c_Sv_termOf "TripleStore$Solver" w_Sv_termOf) (h1 : M[x0]? = some (.inr (5, fs2))) (h4 : fs2[4]? = some (.ref f3)) (h5 : M[f3]? = some (.inl (1, N7, .inr (.inl g6)))) (h8 : vp_in x3 N7) (kk : gg X M k n 35 [] [.long (g6 x3.toNatClampNeg)]) : gg X M k n 25 [(0, .ref x0), (3, .int x3)] [] := by
  refine g_aload_n ok d_Sv_termOf_25 rfl (j := 0) rfl ?_
  refine gf_Sv_20 ok d_Sv_termOf_26 h1 h4 ?_
  refine g_iload_n ok d_Sv_termOf_29 rfl (j := 1) rfl ?_
  refine g_lald (t := 1) ok rfl d_Sv_termOf_30 h5 h8 ?_
  exact g_goto (tgt := 35) ok d_Sv_termOf_31 (by decide) (gg_keep [] kk)
theorem k_Sv_termOf_34 {X : gC} {M : List mC} {k n : Nat}  (ok : gO X c_Sv_termOf "TripleStore$Solver" w_Sv_termOf)  (kk : gg X M k n 35 [] [.long 0]) : gg X M k n 34 [] [] := by
  refine g_lconst (v := 0) ok d_Sv_termOf_34 (by decide) ?_
  exact kk
theorem k_Sv_termOf_35 {X : gC} {M : List mC} {k n : Nat} {s0 : Int64} (ok : gO X c_Sv_termOf "TripleStore$Solver" w_Sv_termOf)  {l9 : Launch} {rm : Room} {M0 : List mC} {post : Option Value → List mC → Prop} (E : gE X l9 y_Sv_termOf rm 4 (some .long) M0 post) (hp : post (some (.long s0)) M) (hk : k ≤ rm.cells) (hn : n ≤ rm.slots) : gg X M k n 35 [] [.long s0] := by
  exact g_lret ok E d_Sv_termOf_35 hp hk hn
theorem k_Sv_applyGroups_0 {X : gC} {M : List mC} {k n : Nat} {x0 : Nat} {x1 : Int32} {x2 : Int32} {x3 : Int32} (ok : gO X c_Sv_applyGroups "TripleStore$Solver" w_Sv_applyGroups) (hl : gL X = 6)  (kt : (x3 + 1) < 4 → gg X M k n 13 [(0, .ref x0), (1, .int x1), (2, .int x2), (3, .int x3), (4, .int (x3 + 1))] []) (kf : ¬ (x3 + 1) < 4 → gg X M k n 11 [] []) : gg X M k n 0 [(0, .ref x0), (1, .int x1), (2, .int x2), (3, .int x3)] [] := by
  refine g_iload_n ok d_Sv_applyGroups_0 rfl (j := 3) rfl ?_
  refine g_iconst (v := 1) ok d_Sv_applyGroups_1 (by decide) ?_
  refine g_iadd ok d_Sv_applyGroups_2 ?_
  refine g_istore (L' := [(0, .ref x0), (1, .int x1), (2, .int x2), (3, .int x3), (4, .int (x3 + 1))]) ok d_Sv_applyGroups_3 (by rw [hl]; decide) rfl ?_
  refine g_iload ok d_Sv_applyGroups_5 (j := 4) rfl ?_
  refine g_iconst (v := 4) ok d_Sv_applyGroups_7 (by decide) ?_
  exact g_icmp_lt (tgt := 13) ok d_Sv_applyGroups_8 (by decide) (fun z => (kt z)) (fun z => (gg_keep [] (kf z)))
theorem k_Sv_applyGroups_11 {X : gC} {M : List mC} {k n : Nat}  (ok : gO X c_Sv_applyGroups "TripleStore$Solver" w_Sv_applyGroups)  {l9 : Launch} {rm : Room} {M0 : List mC} {post : Option Value → List mC → Prop} (E : gE X l9 y_Sv_applyGroups rm 6 (some .boolean) M0 post) (hp : post (some (.int 0)) M) (hk : k ≤ rm.cells) (hn : n ≤ rm.slots) : gg X M k n 11 [] [] := by
  refine g_iconst (v := 0) ok d_Sv_applyGroups_11 (by decide) ?_
  exact g_zret ok E d_Sv_applyGroups_12 rfl hp hk hn
theorem k_Sv_applyGroups_13 {X : gC} {M : List mC} {k n : Nat} {x0 : Nat} {x1 : Int32} {x2 : Int32} {x3 : Int32} {x4 : Int32} (ok : gO X c_Sv_applyGroups "TripleStore$Solver" w_Sv_applyGroups) (hl : gL X = 6)  (kk : gg X M k n 16 [(0, .ref x0), (1, .int x1), (2, .int x2), (3, .int x3), (4, .int x4), (5, .int 0)] []) : gg X M k n 13 [(0, .ref x0), (1, .int x1), (2, .int x2), (3, .int x3), (4, .int x4)] [] := by
  refine g_iconst (v := 0) ok d_Sv_applyGroups_13 (by decide) ?_
  refine g_istore (L' := [(0, .ref x0), (1, .int x1), (2, .int x2), (3, .int x3), (4, .int x4), (5, .int 0)]) ok d_Sv_applyGroups_14 (by rw [hl]; decide) rfl ?_
  exact kk
theorem k_Sv_applyGroups_16 {X : gC} {M : List mC} {k n : Nat} {x0 : Nat} {x1 : Int32} {x2 : Int32} {x3 : Int32} {x4 : Int32} {x5 : Int32} {fs2 : List Value} {f3 : Nat} {fs6 : List Value} {f7 : Int32} (ok : gO X c_Sv_applyGroups "TripleStore$Solver" w_Sv_applyGroups) (h1 : M[x0]? = some (.inr (5, fs2))) (h4 : fs2[1]? = some (.ref f3)) (h5 : M[f3]? = some (.inr (2, fs6))) (h8 : fs6[11]? = some (.int f7)) (kt : f7 ≤ x5 → gg X M k n 88 [] []) (kf : ¬ f7 ≤ x5 → gg X M k n 28 [(0, .ref x0), (1, .int x1), (2, .int x2), (3, .int x3), (4, .int x4), (5, .int x5)] []) : gg X M k n 16 [(0, .ref x0), (1, .int x1), (2, .int x2), (3, .int x3), (4, .int x4), (5, .int x5)] [] := by
  refine g_iload ok d_Sv_applyGroups_16 (j := 5) rfl ?_
  refine g_aload_n ok d_Sv_applyGroups_18 rfl (j := 0) rfl ?_
  refine gf_Sv_28 ok d_Sv_applyGroups_19 h1 h4 ?_
  refine gf_Sv_127 ok d_Sv_applyGroups_22 h5 h8 ?_
  exact g_icmp_ge (tgt := 88) ok d_Sv_applyGroups_25 (by decide) (fun z => (gg_keep [] (kt z))) (fun z => (kf z))
theorem k_Sv_applyGroups_28 {X : gC} {M : List mC} {k n : Nat} {x0 : Nat} {x1 : Int32} {x2 : Int32} {x3 : Int32} {x4 : Int32} {x5 : Int32} {fs2 : List Value} {f3 : Nat} {fs6 : List Value} {f7 : Nat} {g10 : Nat → Int32} {N11 : Nat} (ok : gO X c_Sv_applyGroups "TripleStore$Solver" w_Sv_applyGroups) (h1 : M[x0]? = some (.inr (5, fs2))) (h4 : fs2[1]? = some (.ref f3)) (h5 : M[f3]? = some (.inr (2, fs6))) (h8 : fs6[10]? = some (.ref f7)) (h9 : M[f7]? = some (.inl (0, N11, .inl g10))) (h12 : vp_in x5 N11) (kt : ¬ (g10 x5.toNatClampNeg) = x1 → gg X M k n 82 [(0, .ref x0), (1, .int x1), (2, .int x2), (3, .int x3), (4, .int x4), (5, .int x5)] []) (kf : (g10 x5.toNatClampNeg) = x1 → gg X M k n 42 [(0, .ref x0), (1, .int x1), (2, .int x2), (3, .int x3), (4, .int x4), (5, .int x5)] []) : gg X M k n 28 [(0, .ref x0), (1, .int x1), (2, .int x2), (3, .int x3), (4, .int x4), (5, .int x5)] [] := by
  refine g_aload_n ok d_Sv_applyGroups_28 rfl (j := 0) rfl ?_
  refine gf_Sv_28 ok d_Sv_applyGroups_29 h1 h4 ?_
  refine gf_Sv_130 ok d_Sv_applyGroups_32 h5 h8 ?_
  refine g_iload ok d_Sv_applyGroups_35 (j := 5) rfl ?_
  refine g_iald (t := 0) ok rfl d_Sv_applyGroups_37 h9 h12 ?_
  refine g_iload_n ok d_Sv_applyGroups_38 rfl (j := 1) rfl ?_
  exact g_icmp_ne (tgt := 82) ok d_Sv_applyGroups_39 (by decide) (fun z => (kt z)) (fun z => (kf z))
theorem k_Sv_applyGroups_42 {X : gC} {M : List mC} {k n : Nat} {x0 : Nat} {x1 : Int32} {x2 : Int32} {x3 : Int32} {x4 : Int32} {x5 : Int32} {fs2 : List Value} (ok : gO X c_Sv_applyGroups "TripleStore$Solver" w_Sv_applyGroups) (h1 : M[x0]? = some (.inr (5, fs2))) {rm : Room} {post : Option Value → List mC → Prop} (hm : mm_ (gLa X) y_Sv_solveGroup w_Sv_solveGroup rm [.ref x0, .int x5, .int x4] M post) (hR : gF X rm 6 k n) (hlen : ∀ r M', post r M' → M'.length = M.length) (kk : ∀ r M', post r M' → gg X M' (k + rm.cells) (n + rm.slots) 50 [(0, .ref x0), (1, .int x1), (2, .int x2), (3, .int x3), (4, .int x4), (5, .int x5)] (r.toList ++ [])) : gg X M k n 42 [(0, .ref x0), (1, .int x1), (2, .int x2), (3, .int x3), (4, .int x4), (5, .int x5)] [] := by
  refine g_aload_n ok d_Sv_applyGroups_42 rfl (j := 0) rfl ?_
  refine g_iload ok d_Sv_applyGroups_43 (j := 5) rfl ?_
  refine g_iload ok d_Sv_applyGroups_45 (j := 4) rfl ?_
  exact gc_Sv_134 (As := [.int x5, .int x4]) (rest := []) ok d_Sv_applyGroups_47 hm rfl rfl (Nat.le_of_ble_eq_true rfl) hR h1 hlen kk
theorem k_Sv_applyGroups_50 {X : gC} {M : List mC} {k n : Nat} {x0 : Nat} {x1 : Int32} {x2 : Int32} {x3 : Int32} {x4 : Int32} {x5 : Int32} {s0 : Int32} (ok : gO X c_Sv_applyGroups "TripleStore$Solver" w_Sv_applyGroups)  (kt : s0 = 0 → gg X M k n 80 [] []) (kf : ¬ s0 = 0 → gg X M k n 53 [(0, .ref x0), (1, .int x1), (2, .int x2), (3, .int x3), (4, .int x4), (5, .int x5)] []) : gg X M k n 50 [(0, .ref x0), (1, .int x1), (2, .int x2), (3, .int x3), (4, .int x4), (5, .int x5)] [.int s0] := by
  exact g_if_eq (tgt := 80) ok d_Sv_applyGroups_50 (by decide) (fun z => (gg_keep [] (kt z))) (fun z => (kf z))
theorem k_Sv_applyGroups_53 {X : gC} {M : List mC} {k n : Nat} {x0 : Nat} {x1 : Int32} {x2 : Int32} {x3 : Int32} {x4 : Int32} {x5 : Int32} {fs2 : List Value} {f3 : Nat} {g6 : Nat → Option Nat} {N7 : Nat} {o9 : Nat} {o12 : Nat} {f14 : Nat} {g17 : Nat → Option Nat} {N18 : Nat} {o20 : Nat} (ok : gO X c_Sv_applyGroups "TripleStore$Solver" w_Sv_applyGroups) (h1 : M[x0]? = some (.inr (5, fs2))) (h4 : fs2[2]? = some (.ref f3)) (h5 : M[f3]? = some (.inl (5, N7, .inr (.inr (.inr (.inr g6)))))) (h8 : vp_in x3 N7) (h10 : g6 x3.toNatClampNeg = some o9) (h11 : vp_in x4 N7) (h13 : g6 x4.toNatClampNeg = some o12) (h15 : fs2[3]? = some (.ref f14)) (h16 : M[f14]? = some (.inl (5, N18, .inr (.inr (.inr (.inr g17)))))) (h19 : vp_in x3 N18) (h21 : g17 x3.toNatClampNeg = some o20) {rm : Room} {post : Option Value → List mC → Prop} (hm : mm_ (gLa X) y_Sv_applySolved w_Sv_applySolved rm [.ref x0, .int x2, .ref o9, .ref o12, .ref o20] M post) (hR : gF X rm 8 k n) (hlen : ∀ r M', post r M' → M'.length = M.length) (kk : ∀ r M', post r M' → gg X M' (k + rm.cells) (n + rm.slots) 77 [(0, .ref x0), (1, .int x1), (2, .int x2), (3, .int x3), (4, .int x4), (5, .int x5)] (r.toList ++ [])) : gg X M k n 53 [(0, .ref x0), (1, .int x1), (2, .int x2), (3, .int x3), (4, .int x4), (5, .int x5)] [] := by
  refine g_aload_n ok d_Sv_applyGroups_53 rfl (j := 0) rfl ?_
  refine g_iload_n ok d_Sv_applyGroups_54 rfl (j := 2) rfl ?_
  refine g_aload_n ok d_Sv_applyGroups_55 rfl (j := 0) rfl ?_
  refine gf_Sv_11 ok d_Sv_applyGroups_56 h1 h4 ?_
  refine g_iload_n ok d_Sv_applyGroups_59 rfl (j := 3) rfl ?_
  refine g_aald (t := 5) ok rfl d_Sv_applyGroups_60 h5 h8 h10 ?_
  refine g_aload_n ok d_Sv_applyGroups_61 rfl (j := 0) rfl ?_
  refine gf_Sv_11 ok d_Sv_applyGroups_62 h1 h4 ?_
  refine g_iload ok d_Sv_applyGroups_65 (j := 4) rfl ?_
  refine g_aald (t := 5) ok rfl d_Sv_applyGroups_67 h5 h11 h13 ?_
  refine g_aload_n ok d_Sv_applyGroups_68 rfl (j := 0) rfl ?_
  refine gf_Sv_17 ok d_Sv_applyGroups_69 h1 h15 ?_
  refine g_iload_n ok d_Sv_applyGroups_72 rfl (j := 3) rfl ?_
  refine g_aald (t := 5) ok rfl d_Sv_applyGroups_73 h16 h19 h21 ?_
  exact gc_Sv_138 (As := [.int x2, .ref o9, .ref o12, .ref o20]) (rest := []) ok d_Sv_applyGroups_74 hm rfl rfl (Nat.le_of_ble_eq_true rfl) hR h1 hlen kk
theorem k_Sv_applyGroups_77 {X : gC} {M : List mC} {k n : Nat} {x0 : Nat} {x1 : Int32} {x2 : Int32} {x3 : Int32} {x4 : Int32} {x5 : Int32} {s0 : Int32} (ok : gO X c_Sv_applyGroups "TripleStore$Solver" w_Sv_applyGroups)  (kt : ¬ s0 = 0 → gg X M k n 82 [(0, .ref x0), (1, .int x1), (2, .int x2), (3, .int x3), (4, .int x4), (5, .int x5)] []) (kf : s0 = 0 → gg X M k n 80 [] []) : gg X M k n 77 [(0, .ref x0), (1, .int x1), (2, .int x2), (3, .int x3), (4, .int x4), (5, .int x5)] [.int s0] := by
  exact g_if_ne (tgt := 82) ok d_Sv_applyGroups_77 (by decide) (fun z => (kt z)) (fun z => (gg_keep [] (kf z)))
theorem k_Sv_applyGroups_80 {X : gC} {M : List mC} {k n : Nat}  (ok : gO X c_Sv_applyGroups "TripleStore$Solver" w_Sv_applyGroups)  {l9 : Launch} {rm : Room} {M0 : List mC} {post : Option Value → List mC → Prop} (E : gE X l9 y_Sv_applyGroups rm 6 (some .boolean) M0 post) (hp : post (some (.int 0)) M) (hk : k ≤ rm.cells) (hn : n ≤ rm.slots) : gg X M k n 80 [] [] := by
  refine g_iconst (v := 0) ok d_Sv_applyGroups_80 (by decide) ?_
  exact g_zret ok E d_Sv_applyGroups_81 rfl hp hk hn
theorem k_Sv_applyGroups_82 {X : gC} {M : List mC} {k n : Nat} {x0 : Nat} {x1 : Int32} {x2 : Int32} {x3 : Int32} {x4 : Int32} {x5 : Int32} (ok : gO X c_Sv_applyGroups "TripleStore$Solver" w_Sv_applyGroups) (hl : gL X = 6)  (kk : gg X M k n 16 [(0, .ref x0), (1, .int x1), (2, .int x2), (3, .int x3), (4, .int x4), (5, .int (x5 + 1))] []) : gg X M k n 82 [(0, .ref x0), (1, .int x1), (2, .int x2), (3, .int x3), (4, .int x4), (5, .int x5)] [] := by
  refine g_iinc (L' := [(0, .ref x0), (1, .int x1), (2, .int x2), (3, .int x3), (4, .int x4), (5, .int (x5 + 1))]) (v := (x5 + 1)) ok d_Sv_applyGroups_82 (j := 5) rfl rfl (by rw [hl]; decide) rfl ?_
  exact g_goto (tgt := 16) ok d_Sv_applyGroups_85 (by decide) kk
theorem k_Sv_applyGroups_88 {X : gC} {M : List mC} {k n : Nat}  (ok : gO X c_Sv_applyGroups "TripleStore$Solver" w_Sv_applyGroups)  {l9 : Launch} {rm : Room} {M0 : List mC} {post : Option Value → List mC → Prop} (E : gE X l9 y_Sv_applyGroups rm 6 (some .boolean) M0 post) (hp : post (some (.int 1)) M) (hk : k ≤ rm.cells) (hn : n ≤ rm.slots) : gg X M k n 88 [] [] := by
  refine g_iconst (v := 1) ok d_Sv_applyGroups_88 (by decide) ?_
  exact g_zret ok E d_Sv_applyGroups_89 rfl hp hk hn
theorem k_Sv_applySolved_0 {X : gC} {M : List mC} {k n : Nat} {x0 : Nat} {x1 : Int32} {x2 : Nat} {x3 : Nat} {x4 : Nat} (ok : gO X c_Sv_applySolved "TripleStore$Solver" w_Sv_applySolved)  (kt : ¬ x1 = 3 → gg X M k n 9 [(0, .ref x0), (1, .int x1), (2, .ref x2), (3, .ref x3), (4, .ref x4)] []) (kf : x1 = 3 → gg X M k n 5 [(0, .ref x0), (1, .int x1), (2, .ref x2), (3, .ref x3), (4, .ref x4)] []) : gg X M k n 0 [(0, .ref x0), (1, .int x1), (2, .ref x2), (3, .ref x3), (4, .ref x4)] [] := by
  refine g_iload_n ok d_Sv_applySolved_0 rfl (j := 1) rfl ?_
  refine g_iconst (v := 3) ok d_Sv_applySolved_1 (by decide) ?_
  exact g_icmp_ne (tgt := 9) ok d_Sv_applySolved_2 (by decide) (fun z => (kt z)) (fun z => (kf z))
theorem k_Sv_applySolved_5 {X : gC} {M : List mC} {k n : Nat} {x0 : Nat} {x1 : Int32} {x2 : Nat} {x3 : Nat} {x4 : Nat} (ok : gO X c_Sv_applySolved "TripleStore$Solver" w_Sv_applySolved)  (kk : gg X M k n 10 [(0, .ref x0), (1, .int x1), (2, .ref x2), (3, .ref x3), (4, .ref x4)] [.int 1]) : gg X M k n 5 [(0, .ref x0), (1, .int x1), (2, .ref x2), (3, .ref x3), (4, .ref x4)] [] := by
  refine g_iconst (v := 1) ok d_Sv_applySolved_5 (by decide) ?_
  exact g_goto (tgt := 10) ok d_Sv_applySolved_6 (by decide) kk
theorem k_Sv_applySolved_9 {X : gC} {M : List mC} {k n : Nat} {x0 : Nat} {x1 : Int32} {x2 : Nat} {x3 : Nat} {x4 : Nat} (ok : gO X c_Sv_applySolved "TripleStore$Solver" w_Sv_applySolved)  (kk : gg X M k n 10 [(0, .ref x0), (1, .int x1), (2, .ref x2), (3, .ref x3), (4, .ref x4)] [.int 0]) : gg X M k n 9 [(0, .ref x0), (1, .int x1), (2, .ref x2), (3, .ref x3), (4, .ref x4)] [] := by
  refine g_iconst (v := 0) ok d_Sv_applySolved_9 (by decide) ?_
  exact kk
theorem k_Sv_applySolved_10 {X : gC} {M : List mC} {k n : Nat} {x0 : Nat} {x1 : Int32} {x2 : Nat} {x3 : Nat} {x4 : Nat} {s0 : Int32} (ok : gO X c_Sv_applySolved "TripleStore$Solver" w_Sv_applySolved) (hl : gL X = 8)  (kk : gg X M k n 15 [(0, .ref x0), (1, .int x1), (2, .ref x2), (3, .ref x3), (4, .ref x4), (5, .int s0), (6, .int 0)] []) : gg X M k n 10 [(0, .ref x0), (1, .int x1), (2, .ref x2), (3, .ref x3), (4, .ref x4)] [.int s0] := by
  refine g_istore (L' := [(0, .ref x0), (1, .int x1), (2, .ref x2), (3, .ref x3), (4, .ref x4), (5, .int s0)]) ok d_Sv_applySolved_10 (by rw [hl]; decide) rfl ?_
  refine g_iconst (v := 0) ok d_Sv_applySolved_12 (by decide) ?_
  refine g_istore (L' := [(0, .ref x0), (1, .int x1), (2, .ref x2), (3, .ref x3), (4, .ref x4), (5, .int s0), (6, .int 0)]) ok d_Sv_applySolved_13 (by rw [hl]; decide) rfl ?_
  exact kk
theorem k_Sv_applySolved_15 {X : gC} {M : List mC} {k n : Nat} {x0 : Nat} {x1 : Int32} {x2 : Nat} {x3 : Nat} {x4 : Nat} {x5 : Int32} {x6 : Int32} {fs2 : List Value} (ok : gO X c_Sv_applySolved "TripleStore$Solver" w_Sv_applySolved) (h1 : M[x2]? = some (.inr (4, fs2))) {rm : Room} {post : Option Value → List mC → Prop} (hm : mm_ (gLa X) y_So_size w_So_size rm [.ref x2] M post) (hR : gF X rm 1 k n) (hlen : ∀ r M', post r M' → M'.length = M.length) (kk : ∀ r M', post r M' → gg X M' (k + rm.cells) (n + rm.slots) 21 [(0, .ref x0), (1, .int x1), (2, .ref x2), (3, .ref x3), (4, .ref x4), (5, .int x5), (6, .int x6)] (r.toList ++ [.int x6])) : gg X M k n 15 [(0, .ref x0), (1, .int x1), (2, .ref x2), (3, .ref x3), (4, .ref x4), (5, .int x5), (6, .int x6)] [] := by
  refine g_iload ok d_Sv_applySolved_15 (j := 6) rfl ?_
  refine g_aload_n ok d_Sv_applySolved_17 rfl (j := 2) rfl ?_
  exact gc_Sv_82 (As := []) (rest := [.int x6]) ok d_Sv_applySolved_18 hm rfl rfl (Nat.le_of_ble_eq_true rfl) hR h1 hlen kk
theorem k_Sv_applySolved_21 {X : gC} {M : List mC} {k n : Nat} {x0 : Nat} {x1 : Int32} {x2 : Nat} {x3 : Nat} {x4 : Nat} {x5 : Int32} {x6 : Int32} {s0 : Int32} {s1 : Int32} (ok : gO X c_Sv_applySolved "TripleStore$Solver" w_Sv_applySolved)  (kt : s1 ≤ s0 → gg X M k n 104 [] []) (kf : ¬ s1 ≤ s0 → gg X M k n 24 [(0, .ref x0), (1, .int x1), (2, .ref x2), (3, .ref x3), (4, .ref x4), (5, .int x5), (6, .int x6)] []) : gg X M k n 21 [(0, .ref x0), (1, .int x1), (2, .ref x2), (3, .ref x3), (4, .ref x4), (5, .int x5), (6, .int x6)] [.int s1, .int s0] := by
  exact g_icmp_ge (tgt := 104) ok d_Sv_applySolved_21 (by decide) (fun z => (gg_keep [] (kt z))) (fun z => (kf z))
theorem k_Sv_applySolved_24 {X : gC} {M : List mC} {k n : Nat} {x0 : Nat} {x1 : Int32} {x2 : Nat} {x3 : Nat} {x4 : Nat} {x5 : Int32} {x6 : Int32} (ok : gO X c_Sv_applySolved "TripleStore$Solver" w_Sv_applySolved)  (kt : x1 = 4 → gg X M k n 66 [(0, .ref x0), (1, .int x1), (2, .ref x2), (3, .ref x3), (4, .ref x4), (5, .int x5), (6, .int x6)] []) (kf : ¬ x1 = 4 → gg X M k n 29 [(0, .ref x0), (1, .int x1), (2, .ref x2), (3, .ref x3), (4, .ref x4), (5, .int x5), (6, .int x6)] []) : gg X M k n 24 [(0, .ref x0), (1, .int x1), (2, .ref x2), (3, .ref x3), (4, .ref x4), (5, .int x5), (6, .int x6)] [] := by
  refine g_iload_n ok d_Sv_applySolved_24 rfl (j := 1) rfl ?_
  refine g_iconst (v := 4) ok d_Sv_applySolved_25 (by decide) ?_
  exact g_icmp_eq (tgt := 66) ok d_Sv_applySolved_26 (by decide) (fun z => (kt z)) (fun z => (kf z))
theorem k_Sv_applySolved_29 {X : gC} {M : List mC} {k n : Nat} {x0 : Nat} {x1 : Int32} {x2 : Nat} {x3 : Nat} {x4 : Nat} {x5 : Int32} {x6 : Int32} {fs2 : List Value} (ok : gO X c_Sv_applySolved "TripleStore$Solver" w_Sv_applySolved) (h1 : M[x0]? = some (.inr (5, fs2))) {rm : Room} {post : Option Value → List mC → Prop} (hm : mm_ (gLa X) y_Sv_hasPartner w_Sv_hasPartner rm [.ref x0, .ref x2, .int x6, .ref x3, .int x5] M post) (hR : gF X rm 6 k n) (hlen : ∀ r M', post r M' → M'.length = M.length) (kk : ∀ r M', post r M' → gg X M' (k + rm.cells) (n + rm.slots) 39 [(0, .ref x0), (1, .int x1), (2, .ref x2), (3, .ref x3), (4, .ref x4), (5, .int x5), (6, .int x6)] (r.toList ++ [])) : gg X M k n 29 [(0, .ref x0), (1, .int x1), (2, .ref x2), (3, .ref x3), (4, .ref x4), (5, .int x5), (6, .int x6)] [] := by
  refine g_aload_n ok d_Sv_applySolved_29 rfl (j := 0) rfl ?_
  refine g_aload_n ok d_Sv_applySolved_30 rfl (j := 2) rfl ?_
  refine g_iload ok d_Sv_applySolved_31 (j := 6) rfl ?_
  refine g_aload_n ok d_Sv_applySolved_33 rfl (j := 3) rfl ?_
  refine g_iload ok d_Sv_applySolved_34 (j := 5) rfl ?_
  exact gc_Sv_142 (As := [.ref x2, .int x6, .ref x3, .int x5]) (rest := []) ok d_Sv_applySolved_36 hm rfl rfl (Nat.le_of_ble_eq_true rfl) hR h1 hlen kk
theorem k_Sv_applySolved_39 {X : gC} {M : List mC} {k n : Nat} {x0 : Nat} {x1 : Int32} {x2 : Nat} {x3 : Nat} {x4 : Nat} {x5 : Int32} {x6 : Int32} {s0 : Int32} (ok : gO X c_Sv_applySolved "TripleStore$Solver" w_Sv_applySolved)  (kt : ¬ s0 = 0 → gg X M k n 66 [(0, .ref x0), (1, .int x1), (2, .ref x2), (3, .ref x3), (4, .ref x4), (5, .int x5), (6, .int x6)] []) (kf : s0 = 0 → gg X M k n 42 [(0, .ref x0), (1, .int x1), (2, .ref x2), (3, .ref x3), (4, .ref x4), (5, .int x5), (6, .int x6)] []) : gg X M k n 39 [(0, .ref x0), (1, .int x1), (2, .ref x2), (3, .ref x3), (4, .ref x4), (5, .int x5), (6, .int x6)] [.int s0] := by
  exact g_if_ne (tgt := 66) ok d_Sv_applySolved_39 (by decide) (fun z => (kt z)) (fun z => (kf z))
theorem k_Sv_applySolved_42 {X : gC} {M : List mC} {k n : Nat} {x0 : Nat} {x1 : Int32} {x2 : Nat} {x3 : Nat} {x4 : Nat} {x5 : Int32} {x6 : Int32} {fs2 : List Value} {f3 : Nat} {fs6 : List Value} (ok : gO X c_Sv_applySolved "TripleStore$Solver" w_Sv_applySolved) (h1 : M[x0]? = some (.inr (5, fs2))) (h4 : fs2[4]? = some (.ref f3)) (h5 : M[x2]? = some (.inr (4, fs6))) {rm : Room} {post : Option Value → List mC → Prop} (hm : mm_ (gLa X) y_So_copy w_So_copy rm [.ref x2, .int x6, .ref f3] M post) (hR : gF X rm 3 k n) (hlen : ∀ r M', post r M' → M'.length = M.length) (kk : ∀ r M', post r M' → gg X M' (k + rm.cells) (n + rm.slots) 52 [(0, .ref x0), (1, .int x1), (2, .ref x2), (3, .ref x3), (4, .ref x4), (5, .int x5), (6, .int x6)] (r.toList ++ [])) : gg X M k n 42 [(0, .ref x0), (1, .int x1), (2, .ref x2), (3, .ref x3), (4, .ref x4), (5, .int x5), (6, .int x6)] [] := by
  refine g_aload_n ok d_Sv_applySolved_42 rfl (j := 2) rfl ?_
  refine g_iload ok d_Sv_applySolved_43 (j := 6) rfl ?_
  refine g_aload_n ok d_Sv_applySolved_45 rfl (j := 0) rfl ?_
  refine gf_Sv_20 ok d_Sv_applySolved_46 h1 h4 ?_
  exact gc_Sv_89 (As := [.int x6, .ref f3]) (rest := []) ok d_Sv_applySolved_49 hm rfl rfl (Nat.le_of_ble_eq_true rfl) hR h5 hlen kk
theorem k_Sv_applySolved_52 {X : gC} {M : List mC} {k n : Nat} {x0 : Nat} {x1 : Int32} {x2 : Nat} {x3 : Nat} {x4 : Nat} {x5 : Int32} {x6 : Int32} {fs2 : List Value} {f3 : Nat} {fs6 : List Value} (ok : gO X c_Sv_applySolved "TripleStore$Solver" w_Sv_applySolved) (h1 : M[x0]? = some (.inr (5, fs2))) (h4 : fs2[4]? = some (.ref f3)) (h5 : M[x4]? = some (.inr (4, fs6))) {rm : Room} {post : Option Value → List mC → Prop} (hm : mm_ (gLa X) y_So_put w_So_put rm [.ref x4, .ref f3] M post) (hR : gF X rm 2 k n) (hlen : ∀ r M', post r M' → M'.length = M.length) (kk : ∀ r M', post r M' → gg X M' (k + rm.cells) (n + rm.slots) 61 [(0, .ref x0), (1, .int x1), (2, .ref x2), (3, .ref x3), (4, .ref x4), (5, .int x5), (6, .int x6)] (r.toList ++ [])) : gg X M k n 52 [(0, .ref x0), (1, .int x1), (2, .ref x2), (3, .ref x3), (4, .ref x4), (5, .int x5), (6, .int x6)] [] := by
  refine g_aload ok d_Sv_applySolved_52 (j := 4) rfl ?_
  refine g_aload_n ok d_Sv_applySolved_54 rfl (j := 0) rfl ?_
  refine gf_Sv_20 ok d_Sv_applySolved_55 h1 h4 ?_
  exact gc_Sv_44 (As := [.ref f3]) (rest := []) ok d_Sv_applySolved_58 hm rfl rfl (Nat.le_of_ble_eq_true rfl) hR h5 hlen kk
theorem k_Sv_applySolved_61 {X : gC} {M : List mC} {k n : Nat} {x0 : Nat} {x1 : Int32} {x2 : Nat} {x3 : Nat} {x4 : Nat} {x5 : Int32} {x6 : Int32} {s0 : Int32} (ok : gO X c_Sv_applySolved "TripleStore$Solver" w_Sv_applySolved) (hl : gL X = 8)  (kk : gg X M k n 91 [(0, .ref x0), (1, .int x1), (2, .ref x2), (3, .ref x3), (4, .ref x4), (5, .int x5), (6, .int x6), (7, .int s0)] []) : gg X M k n 61 [(0, .ref x0), (1, .int x1), (2, .ref x2), (3, .ref x3), (4, .ref x4), (5, .int x5), (6, .int x6)] [.int s0] := by
  refine g_istore (L' := [(0, .ref x0), (1, .int x1), (2, .ref x2), (3, .ref x3), (4, .ref x4), (5, .int x5), (6, .int x6), (7, .int s0)]) ok d_Sv_applySolved_61 (by rw [hl]; decide) rfl ?_
  exact g_goto (tgt := 91) ok d_Sv_applySolved_63 (by decide) kk
theorem k_Sv_applySolved_66 {X : gC} {M : List mC} {k n : Nat} {x0 : Nat} {x1 : Int32} {x2 : Nat} {x3 : Nat} {x4 : Nat} {x5 : Int32} {x6 : Int32} (ok : gO X c_Sv_applySolved "TripleStore$Solver" w_Sv_applySolved)  (kt : ¬ x5 = 0 → gg X M k n 84 [(0, .ref x0), (1, .int x1), (2, .ref x2), (3, .ref x3), (4, .ref x4), (5, .int x5), (6, .int x6)] []) (kf : x5 = 0 → gg X M k n 71 [(0, .ref x0), (1, .int x1), (2, .ref x2), (3, .ref x3), (4, .ref x4), (5, .int x5), (6, .int x6)] []) : gg X M k n 66 [(0, .ref x0), (1, .int x1), (2, .ref x2), (3, .ref x3), (4, .ref x4), (5, .int x5), (6, .int x6)] [] := by
  refine g_iload ok d_Sv_applySolved_66 (j := 5) rfl ?_
  exact g_if_ne (tgt := 84) ok d_Sv_applySolved_68 (by decide) (fun z => (kt z)) (fun z => (kf z))
theorem k_Sv_applySolved_71 {X : gC} {M : List mC} {k n : Nat} {x0 : Nat} {x1 : Int32} {x2 : Nat} {x3 : Nat} {x4 : Nat} {x5 : Int32} {x6 : Int32} {fs2 : List Value} (ok : gO X c_Sv_applySolved "TripleStore$Solver" w_Sv_applySolved) (h1 : M[x0]? = some (.inr (5, fs2))) {rm : Room} {post : Option Value → List mC → Prop} (hm : mm_ (gLa X) y_Sv_joinAll w_Sv_joinAll rm [.ref x0, .ref x2, .int x6, .ref x3, .ref x4] M post) (hR : gF X rm 6 k n) (hlen : ∀ r M', post r M' → M'.length = M.length) (kk : ∀ r M', post r M' → gg X M' (k + rm.cells) (n + rm.slots) 81 [(0, .ref x0), (1, .int x1), (2, .ref x2), (3, .ref x3), (4, .ref x4), (5, .int x5), (6, .int x6)] (r.toList ++ [])) : gg X M k n 71 [(0, .ref x0), (1, .int x1), (2, .ref x2), (3, .ref x3), (4, .ref x4), (5, .int x5), (6, .int x6)] [] := by
  refine g_aload_n ok d_Sv_applySolved_71 rfl (j := 0) rfl ?_
  refine g_aload_n ok d_Sv_applySolved_72 rfl (j := 2) rfl ?_
  refine g_iload ok d_Sv_applySolved_73 (j := 6) rfl ?_
  refine g_aload_n ok d_Sv_applySolved_75 rfl (j := 3) rfl ?_
  refine g_aload ok d_Sv_applySolved_76 (j := 4) rfl ?_
  exact gc_Sv_146 (As := [.ref x2, .int x6, .ref x3, .ref x4]) (rest := []) ok d_Sv_applySolved_78 hm rfl rfl (Nat.le_of_ble_eq_true rfl) hR h1 hlen kk
theorem k_Sv_applySolved_81 {X : gC} {M : List mC} {k n : Nat} {x0 : Nat} {x1 : Int32} {x2 : Nat} {x3 : Nat} {x4 : Nat} {x5 : Int32} {x6 : Int32} {s0 : Int32} (ok : gO X c_Sv_applySolved "TripleStore$Solver" w_Sv_applySolved)  (kt : s0 = 0 → gg X M k n 88 [(0, .ref x0), (1, .int x1), (2, .ref x2), (3, .ref x3), (4, .ref x4), (5, .int x5), (6, .int x6)] []) (kf : ¬ s0 = 0 → gg X M k n 84 [(0, .ref x0), (1, .int x1), (2, .ref x2), (3, .ref x3), (4, .ref x4), (5, .int x5), (6, .int x6)] []) : gg X M k n 81 [(0, .ref x0), (1, .int x1), (2, .ref x2), (3, .ref x3), (4, .ref x4), (5, .int x5), (6, .int x6)] [.int s0] := by
  exact g_if_eq (tgt := 88) ok d_Sv_applySolved_81 (by decide) (fun z => (kt z)) (fun z => (kf z))
theorem k_Sv_applySolved_84 {X : gC} {M : List mC} {k n : Nat} {x0 : Nat} {x1 : Int32} {x2 : Nat} {x3 : Nat} {x4 : Nat} {x5 : Int32} {x6 : Int32} (ok : gO X c_Sv_applySolved "TripleStore$Solver" w_Sv_applySolved)  (kk : gg X M k n 89 [(0, .ref x0), (1, .int x1), (2, .ref x2), (3, .ref x3), (4, .ref x4), (5, .int x5), (6, .int x6)] [.int 1]) : gg X M k n 84 [(0, .ref x0), (1, .int x1), (2, .ref x2), (3, .ref x3), (4, .ref x4), (5, .int x5), (6, .int x6)] [] := by
  refine g_iconst (v := 1) ok d_Sv_applySolved_84 (by decide) ?_
  exact g_goto (tgt := 89) ok d_Sv_applySolved_85 (by decide) kk
theorem k_Sv_applySolved_88 {X : gC} {M : List mC} {k n : Nat} {x0 : Nat} {x1 : Int32} {x2 : Nat} {x3 : Nat} {x4 : Nat} {x5 : Int32} {x6 : Int32} (ok : gO X c_Sv_applySolved "TripleStore$Solver" w_Sv_applySolved)  (kk : gg X M k n 89 [(0, .ref x0), (1, .int x1), (2, .ref x2), (3, .ref x3), (4, .ref x4), (5, .int x5), (6, .int x6)] [.int 0]) : gg X M k n 88 [(0, .ref x0), (1, .int x1), (2, .ref x2), (3, .ref x3), (4, .ref x4), (5, .int x5), (6, .int x6)] [] := by
  refine g_iconst (v := 0) ok d_Sv_applySolved_88 (by decide) ?_
  exact kk
theorem k_Sv_applySolved_89 {X : gC} {M : List mC} {k n : Nat} {x0 : Nat} {x1 : Int32} {x2 : Nat} {x3 : Nat} {x4 : Nat} {x5 : Int32} {x6 : Int32} {s0 : Int32} (ok : gO X c_Sv_applySolved "TripleStore$Solver" w_Sv_applySolved) (hl : gL X = 8)  (kk : gg X M k n 91 [(0, .ref x0), (1, .int x1), (2, .ref x2), (3, .ref x3), (4, .ref x4), (5, .int x5), (6, .int x6), (7, .int s0)] []) : gg X M k n 89 [(0, .ref x0), (1, .int x1), (2, .ref x2), (3, .ref x3), (4, .ref x4), (5, .int x5), (6, .int x6)] [.int s0] := by
  refine g_istore (L' := [(0, .ref x0), (1, .int x1), (2, .ref x2), (3, .ref x3), (4, .ref x4), (5, .int x5), (6, .int x6), (7, .int s0)]) ok d_Sv_applySolved_89 (by rw [hl]; decide) rfl ?_
  exact kk
theorem k_Sv_applySolved_91 {X : gC} {M : List mC} {k n : Nat} {x0 : Nat} {x1 : Int32} {x2 : Nat} {x3 : Nat} {x4 : Nat} {x5 : Int32} {x6 : Int32} {x7 : Int32} (ok : gO X c_Sv_applySolved "TripleStore$Solver" w_Sv_applySolved)  (kt : ¬ x7 = 0 → gg X M k n 98 [(0, .ref x0), (1, .int x1), (2, .ref x2), (3, .ref x3), (4, .ref x4), (5, .int x5), (6, .int x6)] []) (kf : x7 = 0 → gg X M k n 96 [] []) : gg X M k n 91 [(0, .ref x0), (1, .int x1), (2, .ref x2), (3, .ref x3), (4, .ref x4), (5, .int x5), (6, .int x6), (7, .int x7)] [] := by
  refine g_iload ok d_Sv_applySolved_91 (j := 7) rfl ?_
  exact g_if_ne (tgt := 98) ok d_Sv_applySolved_93 (by decide) (fun z => (gg_keep [0, 1, 2, 3, 4, 5, 6] (kt z))) (fun z => (gg_keep [] (kf z)))
theorem k_Sv_applySolved_96 {X : gC} {M : List mC} {k n : Nat}  (ok : gO X c_Sv_applySolved "TripleStore$Solver" w_Sv_applySolved)  {l9 : Launch} {rm : Room} {M0 : List mC} {post : Option Value → List mC → Prop} (E : gE X l9 y_Sv_applySolved rm 8 (some .boolean) M0 post) (hp : post (some (.int 0)) M) (hk : k ≤ rm.cells) (hn : n ≤ rm.slots) : gg X M k n 96 [] [] := by
  refine g_iconst (v := 0) ok d_Sv_applySolved_96 (by decide) ?_
  exact g_zret ok E d_Sv_applySolved_97 rfl hp hk hn
theorem k_Sv_applySolved_98 {X : gC} {M : List mC} {k n : Nat} {x0 : Nat} {x1 : Int32} {x2 : Nat} {x3 : Nat} {x4 : Nat} {x5 : Int32} {x6 : Int32} (ok : gO X c_Sv_applySolved "TripleStore$Solver" w_Sv_applySolved) (hl : gL X = 8)  (kk : gg X M k n 15 [(0, .ref x0), (1, .int x1), (2, .ref x2), (3, .ref x3), (4, .ref x4), (5, .int x5), (6, .int (x6 + 1))] []) : gg X M k n 98 [(0, .ref x0), (1, .int x1), (2, .ref x2), (3, .ref x3), (4, .ref x4), (5, .int x5), (6, .int x6)] [] := by
  refine g_iinc (L' := [(0, .ref x0), (1, .int x1), (2, .ref x2), (3, .ref x3), (4, .ref x4), (5, .int x5), (6, .int (x6 + 1))]) (v := (x6 + 1)) ok d_Sv_applySolved_98 (j := 6) rfl rfl (by rw [hl]; decide) rfl ?_
  exact g_goto (tgt := 15) ok d_Sv_applySolved_101 (by decide) kk
theorem k_Sv_applySolved_104 {X : gC} {M : List mC} {k n : Nat}  (ok : gO X c_Sv_applySolved "TripleStore$Solver" w_Sv_applySolved)  {l9 : Launch} {rm : Room} {M0 : List mC} {post : Option Value → List mC → Prop} (E : gE X l9 y_Sv_applySolved rm 8 (some .boolean) M0 post) (hp : post (some (.int 1)) M) (hk : k ≤ rm.cells) (hn : n ≤ rm.slots) : gg X M k n 104 [] [] := by
  refine g_iconst (v := 1) ok d_Sv_applySolved_104 (by decide) ?_
  exact g_zret ok E d_Sv_applySolved_105 rfl hp hk hn
theorem k_Sv_joinAll_0 {X : gC} {M : List mC} {k n : Nat} {x0 : Nat} {x1 : Nat} {x2 : Int32} {x3 : Nat} {x4 : Nat} (ok : gO X c_Sv_joinAll "TripleStore$Solver" w_Sv_joinAll) (hl : gL X = 6)  (kk : gg X M k n 3 [(0, .ref x0), (1, .ref x1), (2, .int x2), (3, .ref x3), (4, .ref x4), (5, .int 0)] []) : gg X M k n 0 [(0, .ref x0), (1, .ref x1), (2, .int x2), (3, .ref x3), (4, .ref x4)] [] := by
  refine g_iconst (v := 0) ok d_Sv_joinAll_0 (by decide) ?_
  refine g_istore (L' := [(0, .ref x0), (1, .ref x1), (2, .int x2), (3, .ref x3), (4, .ref x4), (5, .int 0)]) ok d_Sv_joinAll_1 (by rw [hl]; decide) rfl ?_
  exact kk
theorem k_Sv_joinAll_3 {X : gC} {M : List mC} {k n : Nat} {x0 : Nat} {x1 : Nat} {x2 : Int32} {x3 : Nat} {x4 : Nat} {x5 : Int32} {fs2 : List Value} (ok : gO X c_Sv_joinAll "TripleStore$Solver" w_Sv_joinAll) (h1 : M[x3]? = some (.inr (4, fs2))) {rm : Room} {post : Option Value → List mC → Prop} (hm : mm_ (gLa X) y_So_size w_So_size rm [.ref x3] M post) (hR : gF X rm 1 k n) (hlen : ∀ r M', post r M' → M'.length = M.length) (kk : ∀ r M', post r M' → gg X M' (k + rm.cells) (n + rm.slots) 9 [(0, .ref x0), (1, .ref x1), (2, .int x2), (3, .ref x3), (4, .ref x4), (5, .int x5)] (r.toList ++ [.int x5])) : gg X M k n 3 [(0, .ref x0), (1, .ref x1), (2, .int x2), (3, .ref x3), (4, .ref x4), (5, .int x5)] [] := by
  refine g_iload ok d_Sv_joinAll_3 (j := 5) rfl ?_
  refine g_aload_n ok d_Sv_joinAll_5 rfl (j := 3) rfl ?_
  exact gc_Sv_82 (As := []) (rest := [.int x5]) ok d_Sv_joinAll_6 hm rfl rfl (Nat.le_of_ble_eq_true rfl) hR h1 hlen kk
theorem k_Sv_joinAll_9 {X : gC} {M : List mC} {k n : Nat} {x0 : Nat} {x1 : Nat} {x2 : Int32} {x3 : Nat} {x4 : Nat} {x5 : Int32} {s0 : Int32} {s1 : Int32} (ok : gO X c_Sv_joinAll "TripleStore$Solver" w_Sv_joinAll)  (kt : s1 ≤ s0 → gg X M k n 54 [] []) (kf : ¬ s1 ≤ s0 → gg X M k n 12 [(0, .ref x0), (1, .ref x1), (2, .int x2), (3, .ref x3), (4, .ref x4), (5, .int x5)] []) : gg X M k n 9 [(0, .ref x0), (1, .ref x1), (2, .int x2), (3, .ref x3), (4, .ref x4), (5, .int x5)] [.int s1, .int s0] := by
  exact g_icmp_ge (tgt := 54) ok d_Sv_joinAll_9 (by decide) (fun z => (gg_keep [] (kt z))) (fun z => (kf z))
theorem k_Sv_joinAll_12 {X : gC} {M : List mC} {k n : Nat} {x0 : Nat} {x1 : Nat} {x2 : Int32} {x3 : Nat} {x4 : Nat} {x5 : Int32} {fs2 : List Value} {f3 : Nat} {fs6 : List Value} (ok : gO X c_Sv_joinAll "TripleStore$Solver" w_Sv_joinAll) (h1 : M[x0]? = some (.inr (5, fs2))) (h4 : fs2[4]? = some (.ref f3)) (h5 : M[x1]? = some (.inr (4, fs6))) {rm : Room} {post : Option Value → List mC → Prop} (hm : mm_ (gLa X) y_So_copy w_So_copy rm [.ref x1, .int x2, .ref f3] M post) (hR : gF X rm 3 k n) (hlen : ∀ r M', post r M' → M'.length = M.length) (kk : ∀ r M', post r M' → gg X M' (k + rm.cells) (n + rm.slots) 21 [(0, .ref x0), (1, .ref x1), (2, .int x2), (3, .ref x3), (4, .ref x4), (5, .int x5)] (r.toList ++ [])) : gg X M k n 12 [(0, .ref x0), (1, .ref x1), (2, .int x2), (3, .ref x3), (4, .ref x4), (5, .int x5)] [] := by
  refine g_aload_n ok d_Sv_joinAll_12 rfl (j := 1) rfl ?_
  refine g_iload_n ok d_Sv_joinAll_13 rfl (j := 2) rfl ?_
  refine g_aload_n ok d_Sv_joinAll_14 rfl (j := 0) rfl ?_
  refine gf_Sv_20 ok d_Sv_joinAll_15 h1 h4 ?_
  exact gc_Sv_89 (As := [.int x2, .ref f3]) (rest := []) ok d_Sv_joinAll_18 hm rfl rfl (Nat.le_of_ble_eq_true rfl) hR h5 hlen kk
theorem k_Sv_joinAll_21 {X : gC} {M : List mC} {k n : Nat} {x0 : Nat} {x1 : Nat} {x2 : Int32} {x3 : Nat} {x4 : Nat} {x5 : Int32} {fs2 : List Value} {f3 : Nat} {fs6 : List Value} (ok : gO X c_Sv_joinAll "TripleStore$Solver" w_Sv_joinAll) (h1 : M[x0]? = some (.inr (5, fs2))) (h4 : fs2[4]? = some (.ref f3)) (h5 : M[x3]? = some (.inr (4, fs6))) {rm : Room} {post : Option Value → List mC → Prop} (hm : mm_ (gLa X) y_So_joinInto w_So_joinInto rm [.ref x3, .int x5, .ref f3] M post) (hR : gF X rm 6 k n) (hlen : ∀ r M', post r M' → M'.length = M.length) (kk : ∀ r M', post r M' → gg X M' (k + rm.cells) (n + rm.slots) 31 [(0, .ref x0), (1, .ref x1), (2, .int x2), (3, .ref x3), (4, .ref x4), (5, .int x5)] (r.toList ++ [])) : gg X M k n 21 [(0, .ref x0), (1, .ref x1), (2, .int x2), (3, .ref x3), (4, .ref x4), (5, .int x5)] [] := by
  refine g_aload_n ok d_Sv_joinAll_21 rfl (j := 3) rfl ?_
  refine g_iload ok d_Sv_joinAll_22 (j := 5) rfl ?_
  refine g_aload_n ok d_Sv_joinAll_24 rfl (j := 0) rfl ?_
  refine gf_Sv_20 ok d_Sv_joinAll_25 h1 h4 ?_
  exact gc_Sv_150 (As := [.int x5, .ref f3]) (rest := []) ok d_Sv_joinAll_28 hm rfl rfl (Nat.le_of_ble_eq_true rfl) hR h5 hlen kk
theorem k_Sv_joinAll_31 {X : gC} {M : List mC} {k n : Nat} {x0 : Nat} {x1 : Nat} {x2 : Int32} {x3 : Nat} {x4 : Nat} {x5 : Int32} {s0 : Int32} (ok : gO X c_Sv_joinAll "TripleStore$Solver" w_Sv_joinAll)  (kt : s0 = 0 → gg X M k n 48 [(0, .ref x0), (1, .ref x1), (2, .int x2), (3, .ref x3), (4, .ref x4), (5, .int x5)] []) (kf : ¬ s0 = 0 → gg X M k n 34 [(0, .ref x0), (1, .ref x1), (2, .int x2), (3, .ref x3), (4, .ref x4), (5, .int x5)] []) : gg X M k n 31 [(0, .ref x0), (1, .ref x1), (2, .int x2), (3, .ref x3), (4, .ref x4), (5, .int x5)] [.int s0] := by
  exact g_if_eq (tgt := 48) ok d_Sv_joinAll_31 (by decide) (fun z => (kt z)) (fun z => (kf z))
theorem k_Sv_joinAll_34 {X : gC} {M : List mC} {k n : Nat} {x0 : Nat} {x1 : Nat} {x2 : Int32} {x3 : Nat} {x4 : Nat} {x5 : Int32} {fs2 : List Value} {f3 : Nat} {fs6 : List Value} (ok : gO X c_Sv_joinAll "TripleStore$Solver" w_Sv_joinAll) (h1 : M[x0]? = some (.inr (5, fs2))) (h4 : fs2[4]? = some (.ref f3)) (h5 : M[x4]? = some (.inr (4, fs6))) {rm : Room} {post : Option Value → List mC → Prop} (hm : mm_ (gLa X) y_So_put w_So_put rm [.ref x4, .ref f3] M post) (hR : gF X rm 2 k n) (hlen : ∀ r M', post r M' → M'.length = M.length) (kk : ∀ r M', post r M' → gg X M' (k + rm.cells) (n + rm.slots) 43 [(0, .ref x0), (1, .ref x1), (2, .int x2), (3, .ref x3), (4, .ref x4), (5, .int x5)] (r.toList ++ [])) : gg X M k n 34 [(0, .ref x0), (1, .ref x1), (2, .int x2), (3, .ref x3), (4, .ref x4), (5, .int x5)] [] := by
  refine g_aload ok d_Sv_joinAll_34 (j := 4) rfl ?_
  refine g_aload_n ok d_Sv_joinAll_36 rfl (j := 0) rfl ?_
  refine gf_Sv_20 ok d_Sv_joinAll_37 h1 h4 ?_
  exact gc_Sv_44 (As := [.ref f3]) (rest := []) ok d_Sv_joinAll_40 hm rfl rfl (Nat.le_of_ble_eq_true rfl) hR h5 hlen kk
theorem k_Sv_joinAll_43 {X : gC} {M : List mC} {k n : Nat} {x0 : Nat} {x1 : Nat} {x2 : Int32} {x3 : Nat} {x4 : Nat} {x5 : Int32} {s0 : Int32} (ok : gO X c_Sv_joinAll "TripleStore$Solver" w_Sv_joinAll)  (kt : ¬ s0 = 0 → gg X M k n 48 [(0, .ref x0), (1, .ref x1), (2, .int x2), (3, .ref x3), (4, .ref x4), (5, .int x5)] []) (kf : s0 = 0 → gg X M k n 46 [] []) : gg X M k n 43 [(0, .ref x0), (1, .ref x1), (2, .int x2), (3, .ref x3), (4, .ref x4), (5, .int x5)] [.int s0] := by
  exact g_if_ne (tgt := 48) ok d_Sv_joinAll_43 (by decide) (fun z => (kt z)) (fun z => (gg_keep [] (kf z)))
theorem k_Sv_joinAll_46 {X : gC} {M : List mC} {k n : Nat}  (ok : gO X c_Sv_joinAll "TripleStore$Solver" w_Sv_joinAll)  {l9 : Launch} {rm : Room} {M0 : List mC} {post : Option Value → List mC → Prop} (E : gE X l9 y_Sv_joinAll rm 6 (some .boolean) M0 post) (hp : post (some (.int 0)) M) (hk : k ≤ rm.cells) (hn : n ≤ rm.slots) : gg X M k n 46 [] [] := by
  refine g_iconst (v := 0) ok d_Sv_joinAll_46 (by decide) ?_
  exact g_zret ok E d_Sv_joinAll_47 rfl hp hk hn
theorem k_Sv_joinAll_48 {X : gC} {M : List mC} {k n : Nat} {x0 : Nat} {x1 : Nat} {x2 : Int32} {x3 : Nat} {x4 : Nat} {x5 : Int32} (ok : gO X c_Sv_joinAll "TripleStore$Solver" w_Sv_joinAll) (hl : gL X = 6)  (kk : gg X M k n 3 [(0, .ref x0), (1, .ref x1), (2, .int x2), (3, .ref x3), (4, .ref x4), (5, .int (x5 + 1))] []) : gg X M k n 48 [(0, .ref x0), (1, .ref x1), (2, .int x2), (3, .ref x3), (4, .ref x4), (5, .int x5)] [] := by
  refine g_iinc (L' := [(0, .ref x0), (1, .ref x1), (2, .int x2), (3, .ref x3), (4, .ref x4), (5, .int (x5 + 1))]) (v := (x5 + 1)) ok d_Sv_joinAll_48 (j := 5) rfl rfl (by rw [hl]; decide) rfl ?_
  exact g_goto (tgt := 3) ok d_Sv_joinAll_51 (by decide) kk
theorem k_Sv_joinAll_54 {X : gC} {M : List mC} {k n : Nat}  (ok : gO X c_Sv_joinAll "TripleStore$Solver" w_Sv_joinAll)  {l9 : Launch} {rm : Room} {M0 : List mC} {post : Option Value → List mC → Prop} (E : gE X l9 y_Sv_joinAll rm 6 (some .boolean) M0 post) (hp : post (some (.int 1)) M) (hk : k ≤ rm.cells) (hn : n ≤ rm.slots) : gg X M k n 54 [] [] := by
  refine g_iconst (v := 1) ok d_Sv_joinAll_54 (by decide) ?_
  exact g_zret ok E d_Sv_joinAll_55 rfl hp hk hn
theorem k_Sv_hasPartner_0 {X : gC} {M : List mC} {k n : Nat} {x0 : Nat} {x1 : Nat} {x2 : Int32} {x3 : Nat} {x4 : Int32} (ok : gO X c_Sv_hasPartner "TripleStore$Solver" w_Sv_hasPartner) (hl : gL X = 6)  (kk : gg X M k n 3 [(0, .ref x0), (1, .ref x1), (2, .int x2), (3, .ref x3), (4, .int x4), (5, .int 0)] []) : gg X M k n 0 [(0, .ref x0), (1, .ref x1), (2, .int x2), (3, .ref x3), (4, .int x4)] [] := by
  refine g_iconst (v := 0) ok d_Sv_hasPartner_0 (by decide) ?_
  refine g_istore (L' := [(0, .ref x0), (1, .ref x1), (2, .int x2), (3, .ref x3), (4, .int x4), (5, .int 0)]) ok d_Sv_hasPartner_1 (by rw [hl]; decide) rfl ?_
  exact kk
theorem k_Sv_hasPartner_3 {X : gC} {M : List mC} {k n : Nat} {x0 : Nat} {x1 : Nat} {x2 : Int32} {x3 : Nat} {x4 : Int32} {x5 : Int32} {fs2 : List Value} (ok : gO X c_Sv_hasPartner "TripleStore$Solver" w_Sv_hasPartner) (h1 : M[x3]? = some (.inr (4, fs2))) {rm : Room} {post : Option Value → List mC → Prop} (hm : mm_ (gLa X) y_So_size w_So_size rm [.ref x3] M post) (hR : gF X rm 1 k n) (hlen : ∀ r M', post r M' → M'.length = M.length) (kk : ∀ r M', post r M' → gg X M' (k + rm.cells) (n + rm.slots) 9 [(0, .ref x0), (1, .ref x1), (2, .int x2), (3, .ref x3), (4, .int x4), (5, .int x5)] (r.toList ++ [.int x5])) : gg X M k n 3 [(0, .ref x0), (1, .ref x1), (2, .int x2), (3, .ref x3), (4, .int x4), (5, .int x5)] [] := by
  refine g_iload ok d_Sv_hasPartner_3 (j := 5) rfl ?_
  refine g_aload_n ok d_Sv_hasPartner_5 rfl (j := 3) rfl ?_
  exact gc_Sv_82 (As := []) (rest := [.int x5]) ok d_Sv_hasPartner_6 hm rfl rfl (Nat.le_of_ble_eq_true rfl) hR h1 hlen kk
theorem k_Sv_hasPartner_9 {X : gC} {M : List mC} {k n : Nat} {x0 : Nat} {x1 : Nat} {x2 : Int32} {x3 : Nat} {x4 : Int32} {x5 : Int32} {s0 : Int32} {s1 : Int32} (ok : gO X c_Sv_hasPartner "TripleStore$Solver" w_Sv_hasPartner)  (kt : s1 ≤ s0 → gg X M k n 60 [] []) (kf : ¬ s1 ≤ s0 → gg X M k n 12 [(0, .ref x0), (1, .ref x1), (2, .int x2), (3, .ref x3), (4, .int x4), (5, .int x5)] []) : gg X M k n 9 [(0, .ref x0), (1, .ref x1), (2, .int x2), (3, .ref x3), (4, .int x4), (5, .int x5)] [.int s1, .int s0] := by
  exact g_icmp_ge (tgt := 60) ok d_Sv_hasPartner_9 (by decide) (fun z => (gg_keep [] (kt z))) (fun z => (kf z))
theorem k_Sv_hasPartner_12 {X : gC} {M : List mC} {k n : Nat} {x0 : Nat} {x1 : Nat} {x2 : Int32} {x3 : Nat} {x4 : Int32} {x5 : Int32} {fs2 : List Value} {f3 : Nat} {fs6 : List Value} (ok : gO X c_Sv_hasPartner "TripleStore$Solver" w_Sv_hasPartner) (h1 : M[x0]? = some (.inr (5, fs2))) (h4 : fs2[4]? = some (.ref f3)) (h5 : M[x1]? = some (.inr (4, fs6))) {rm : Room} {post : Option Value → List mC → Prop} (hm : mm_ (gLa X) y_So_copy w_So_copy rm [.ref x1, .int x2, .ref f3] M post) (hR : gF X rm 3 k n) (hlen : ∀ r M', post r M' → M'.length = M.length) (kk : ∀ r M', post r M' → gg X M' (k + rm.cells) (n + rm.slots) 21 [(0, .ref x0), (1, .ref x1), (2, .int x2), (3, .ref x3), (4, .int x4), (5, .int x5)] (r.toList ++ [])) : gg X M k n 12 [(0, .ref x0), (1, .ref x1), (2, .int x2), (3, .ref x3), (4, .int x4), (5, .int x5)] [] := by
  refine g_aload_n ok d_Sv_hasPartner_12 rfl (j := 1) rfl ?_
  refine g_iload_n ok d_Sv_hasPartner_13 rfl (j := 2) rfl ?_
  refine g_aload_n ok d_Sv_hasPartner_14 rfl (j := 0) rfl ?_
  refine gf_Sv_20 ok d_Sv_hasPartner_15 h1 h4 ?_
  exact gc_Sv_89 (As := [.int x2, .ref f3]) (rest := []) ok d_Sv_hasPartner_18 hm rfl rfl (Nat.le_of_ble_eq_true rfl) hR h5 hlen kk
theorem k_Sv_hasPartner_21 {X : gC} {M : List mC} {k n : Nat} {x0 : Nat} {x1 : Nat} {x2 : Int32} {x3 : Nat} {x4 : Int32} {x5 : Int32} (ok : gO X c_Sv_hasPartner "TripleStore$Solver" w_Sv_hasPartner)  (kt : x4 = 0 → gg X M k n 39 [(0, .ref x0), (1, .ref x1), (2, .int x2), (3, .ref x3), (4, .int x4), (5, .int x5)] []) (kf : ¬ x4 = 0 → gg X M k n 26 [(0, .ref x0), (1, .ref x1), (2, .int x2), (3, .ref x3), (4, .int x4), (5, .int x5)] []) : gg X M k n 21 [(0, .ref x0), (1, .ref x1), (2, .int x2), (3, .ref x3), (4, .int x4), (5, .int x5)] [] := by
  refine g_iload ok d_Sv_hasPartner_21 (j := 4) rfl ?_
  exact g_if_eq (tgt := 39) ok d_Sv_hasPartner_23 (by decide) (fun z => (kt z)) (fun z => (kf z))
theorem k_Sv_hasPartner_26 {X : gC} {M : List mC} {k n : Nat} {x0 : Nat} {x1 : Nat} {x2 : Int32} {x3 : Nat} {x4 : Int32} {x5 : Int32} {fs2 : List Value} {f3 : Nat} {fs6 : List Value} (ok : gO X c_Sv_hasPartner "TripleStore$Solver" w_Sv_hasPartner) (h1 : M[x0]? = some (.inr (5, fs2))) (h4 : fs2[4]? = some (.ref f3)) (h5 : M[x3]? = some (.inr (4, fs6))) {rm : Room} {post : Option Value → List mC → Prop} (hm : mm_ (gLa X) y_So_sharesVariable w_So_sharesVariable rm [.ref x3, .int x5, .ref f3] M post) (hR : gF X rm 4 k n) (hlen : ∀ r M', post r M' → M'.length = M.length) (kk : ∀ r M', post r M' → gg X M' (k + rm.cells) (n + rm.slots) 36 [(0, .ref x0), (1, .ref x1), (2, .int x2), (3, .ref x3), (4, .int x4), (5, .int x5)] (r.toList ++ [])) : gg X M k n 26 [(0, .ref x0), (1, .ref x1), (2, .int x2), (3, .ref x3), (4, .int x4), (5, .int x5)] [] := by
  refine g_aload_n ok d_Sv_hasPartner_26 rfl (j := 3) rfl ?_
  refine g_iload ok d_Sv_hasPartner_27 (j := 5) rfl ?_
  refine g_aload_n ok d_Sv_hasPartner_29 rfl (j := 0) rfl ?_
  refine gf_Sv_20 ok d_Sv_hasPartner_30 h1 h4 ?_
  exact gc_Sv_154 (As := [.int x5, .ref f3]) (rest := []) ok d_Sv_hasPartner_33 hm rfl rfl (Nat.le_of_ble_eq_true rfl) hR h5 hlen kk
theorem k_Sv_hasPartner_36 {X : gC} {M : List mC} {k n : Nat} {x0 : Nat} {x1 : Nat} {x2 : Int32} {x3 : Nat} {x4 : Int32} {x5 : Int32} {s0 : Int32} (ok : gO X c_Sv_hasPartner "TripleStore$Solver" w_Sv_hasPartner)  (kt : s0 = 0 → gg X M k n 54 [(0, .ref x0), (1, .ref x1), (2, .int x2), (3, .ref x3), (4, .int x4), (5, .int x5)] []) (kf : ¬ s0 = 0 → gg X M k n 39 [(0, .ref x0), (1, .ref x1), (2, .int x2), (3, .ref x3), (4, .int x4), (5, .int x5)] []) : gg X M k n 36 [(0, .ref x0), (1, .ref x1), (2, .int x2), (3, .ref x3), (4, .int x4), (5, .int x5)] [.int s0] := by
  exact g_if_eq (tgt := 54) ok d_Sv_hasPartner_36 (by decide) (fun z => (kt z)) (fun z => (kf z))
theorem k_Sv_hasPartner_39 {X : gC} {M : List mC} {k n : Nat} {x0 : Nat} {x1 : Nat} {x2 : Int32} {x3 : Nat} {x4 : Int32} {x5 : Int32} {fs2 : List Value} {f3 : Nat} {fs6 : List Value} (ok : gO X c_Sv_hasPartner "TripleStore$Solver" w_Sv_hasPartner) (h1 : M[x0]? = some (.inr (5, fs2))) (h4 : fs2[4]? = some (.ref f3)) (h5 : M[x3]? = some (.inr (4, fs6))) {rm : Room} {post : Option Value → List mC → Prop} (hm : mm_ (gLa X) y_So_joinInto w_So_joinInto rm [.ref x3, .int x5, .ref f3] M post) (hR : gF X rm 6 k n) (hlen : ∀ r M', post r M' → M'.length = M.length) (kk : ∀ r M', post r M' → gg X M' (k + rm.cells) (n + rm.slots) 49 [(0, .ref x0), (1, .ref x1), (2, .int x2), (3, .ref x3), (4, .int x4), (5, .int x5)] (r.toList ++ [])) : gg X M k n 39 [(0, .ref x0), (1, .ref x1), (2, .int x2), (3, .ref x3), (4, .int x4), (5, .int x5)] [] := by
  refine g_aload_n ok d_Sv_hasPartner_39 rfl (j := 3) rfl ?_
  refine g_iload ok d_Sv_hasPartner_40 (j := 5) rfl ?_
  refine g_aload_n ok d_Sv_hasPartner_42 rfl (j := 0) rfl ?_
  refine gf_Sv_20 ok d_Sv_hasPartner_43 h1 h4 ?_
  exact gc_Sv_150 (As := [.int x5, .ref f3]) (rest := []) ok d_Sv_hasPartner_46 hm rfl rfl (Nat.le_of_ble_eq_true rfl) hR h5 hlen kk
theorem k_Sv_hasPartner_49 {X : gC} {M : List mC} {k n : Nat} {x0 : Nat} {x1 : Nat} {x2 : Int32} {x3 : Nat} {x4 : Int32} {x5 : Int32} {s0 : Int32} (ok : gO X c_Sv_hasPartner "TripleStore$Solver" w_Sv_hasPartner)  (kt : s0 = 0 → gg X M k n 54 [(0, .ref x0), (1, .ref x1), (2, .int x2), (3, .ref x3), (4, .int x4), (5, .int x5)] []) (kf : ¬ s0 = 0 → gg X M k n 52 [] []) : gg X M k n 49 [(0, .ref x0), (1, .ref x1), (2, .int x2), (3, .ref x3), (4, .int x4), (5, .int x5)] [.int s0] := by
  exact g_if_eq (tgt := 54) ok d_Sv_hasPartner_49 (by decide) (fun z => (kt z)) (fun z => (gg_keep [] (kf z)))
theorem k_Sv_hasPartner_52 {X : gC} {M : List mC} {k n : Nat}  (ok : gO X c_Sv_hasPartner "TripleStore$Solver" w_Sv_hasPartner)  {l9 : Launch} {rm : Room} {M0 : List mC} {post : Option Value → List mC → Prop} (E : gE X l9 y_Sv_hasPartner rm 6 (some .boolean) M0 post) (hp : post (some (.int 1)) M) (hk : k ≤ rm.cells) (hn : n ≤ rm.slots) : gg X M k n 52 [] [] := by
  refine g_iconst (v := 1) ok d_Sv_hasPartner_52 (by decide) ?_
  exact g_zret ok E d_Sv_hasPartner_53 rfl hp hk hn
theorem k_Sv_hasPartner_54 {X : gC} {M : List mC} {k n : Nat} {x0 : Nat} {x1 : Nat} {x2 : Int32} {x3 : Nat} {x4 : Int32} {x5 : Int32} (ok : gO X c_Sv_hasPartner "TripleStore$Solver" w_Sv_hasPartner) (hl : gL X = 6)  (kk : gg X M k n 3 [(0, .ref x0), (1, .ref x1), (2, .int x2), (3, .ref x3), (4, .int x4), (5, .int (x5 + 1))] []) : gg X M k n 54 [(0, .ref x0), (1, .ref x1), (2, .int x2), (3, .ref x3), (4, .int x4), (5, .int x5)] [] := by
  refine g_iinc (L' := [(0, .ref x0), (1, .ref x1), (2, .int x2), (3, .ref x3), (4, .int x4), (5, .int (x5 + 1))]) (v := (x5 + 1)) ok d_Sv_hasPartner_54 (j := 5) rfl rfl (by rw [hl]; decide) rfl ?_
  exact g_goto (tgt := 3) ok d_Sv_hasPartner_57 (by decide) kk
theorem k_Sv_hasPartner_60 {X : gC} {M : List mC} {k n : Nat}  (ok : gO X c_Sv_hasPartner "TripleStore$Solver" w_Sv_hasPartner)  {l9 : Launch} {rm : Room} {M0 : List mC} {post : Option Value → List mC → Prop} (E : gE X l9 y_Sv_hasPartner rm 6 (some .boolean) M0 post) (hp : post (some (.int 0)) M) (hk : k ≤ rm.cells) (hn : n ≤ rm.slots) : gg X M k n 60 [] [] := by
  refine g_iconst (v := 0) ok d_Sv_hasPartner_60 (by decide) ?_
  exact g_zret ok E d_Sv_hasPartner_61 rfl hp hk hn
theorem k_Sv_keepPassing_0 {X : gC} {M : List mC} {k n : Nat} {x0 : Nat} {x1 : Int32} {x2 : Nat} {x3 : Nat} (ok : gO X c_Sv_keepPassing "TripleStore$Solver" w_Sv_keepPassing) (hl : gL X = 5)  (kk : gg X M k n 3 [(0, .ref x0), (1, .int x1), (2, .ref x2), (3, .ref x3), (4, .int 0)] []) : gg X M k n 0 [(0, .ref x0), (1, .int x1), (2, .ref x2), (3, .ref x3)] [] := by
  refine g_iconst (v := 0) ok d_Sv_keepPassing_0 (by decide) ?_
  refine g_istore (L' := [(0, .ref x0), (1, .int x1), (2, .ref x2), (3, .ref x3), (4, .int 0)]) ok d_Sv_keepPassing_1 (by rw [hl]; decide) rfl ?_
  exact kk
theorem k_Sv_keepPassing_3 {X : gC} {M : List mC} {k n : Nat} {x0 : Nat} {x1 : Int32} {x2 : Nat} {x3 : Nat} {x4 : Int32} {fs2 : List Value} (ok : gO X c_Sv_keepPassing "TripleStore$Solver" w_Sv_keepPassing) (h1 : M[x2]? = some (.inr (4, fs2))) {rm : Room} {post : Option Value → List mC → Prop} (hm : mm_ (gLa X) y_So_size w_So_size rm [.ref x2] M post) (hR : gF X rm 1 k n) (hlen : ∀ r M', post r M' → M'.length = M.length) (kk : ∀ r M', post r M' → gg X M' (k + rm.cells) (n + rm.slots) 9 [(0, .ref x0), (1, .int x1), (2, .ref x2), (3, .ref x3), (4, .int x4)] (r.toList ++ [.int x4])) : gg X M k n 3 [(0, .ref x0), (1, .int x1), (2, .ref x2), (3, .ref x3), (4, .int x4)] [] := by
  refine g_iload ok d_Sv_keepPassing_3 (j := 4) rfl ?_
  refine g_aload_n ok d_Sv_keepPassing_5 rfl (j := 2) rfl ?_
  exact gc_Sv_82 (As := []) (rest := [.int x4]) ok d_Sv_keepPassing_6 hm rfl rfl (Nat.le_of_ble_eq_true rfl) hR h1 hlen kk
theorem k_Sv_keepPassing_9 {X : gC} {M : List mC} {k n : Nat} {x0 : Nat} {x1 : Int32} {x2 : Nat} {x3 : Nat} {x4 : Int32} {s0 : Int32} {s1 : Int32} (ok : gO X c_Sv_keepPassing "TripleStore$Solver" w_Sv_keepPassing)  (kt : s1 ≤ s0 → gg X M k n 45 [] []) (kf : ¬ s1 ≤ s0 → gg X M k n 12 [(0, .ref x0), (1, .int x1), (2, .ref x2), (3, .ref x3), (4, .int x4)] []) : gg X M k n 9 [(0, .ref x0), (1, .int x1), (2, .ref x2), (3, .ref x3), (4, .int x4)] [.int s1, .int s0] := by
  exact g_icmp_ge (tgt := 45) ok d_Sv_keepPassing_9 (by decide) (fun z => (gg_keep [] (kt z))) (fun z => (kf z))
theorem k_Sv_keepPassing_12 {X : gC} {M : List mC} {k n : Nat} {x0 : Nat} {x1 : Int32} {x2 : Nat} {x3 : Nat} {x4 : Int32} {fs2 : List Value} {f3 : Nat} {fs6 : List Value} (ok : gO X c_Sv_keepPassing "TripleStore$Solver" w_Sv_keepPassing) (h1 : M[x0]? = some (.inr (5, fs2))) (h4 : fs2[4]? = some (.ref f3)) (h5 : M[x2]? = some (.inr (4, fs6))) {rm : Room} {post : Option Value → List mC → Prop} (hm : mm_ (gLa X) y_So_copy w_So_copy rm [.ref x2, .int x4, .ref f3] M post) (hR : gF X rm 3 k n) (hlen : ∀ r M', post r M' → M'.length = M.length) (kk : ∀ r M', post r M' → gg X M' (k + rm.cells) (n + rm.slots) 22 [(0, .ref x0), (1, .int x1), (2, .ref x2), (3, .ref x3), (4, .int x4)] (r.toList ++ [])) : gg X M k n 12 [(0, .ref x0), (1, .int x1), (2, .ref x2), (3, .ref x3), (4, .int x4)] [] := by
  refine g_aload_n ok d_Sv_keepPassing_12 rfl (j := 2) rfl ?_
  refine g_iload ok d_Sv_keepPassing_13 (j := 4) rfl ?_
  refine g_aload_n ok d_Sv_keepPassing_15 rfl (j := 0) rfl ?_
  refine gf_Sv_20 ok d_Sv_keepPassing_16 h1 h4 ?_
  exact gc_Sv_89 (As := [.int x4, .ref f3]) (rest := []) ok d_Sv_keepPassing_19 hm rfl rfl (Nat.le_of_ble_eq_true rfl) hR h5 hlen kk
theorem k_Sv_keepPassing_22 {X : gC} {M : List mC} {k n : Nat} {x0 : Nat} {x1 : Int32} {x2 : Nat} {x3 : Nat} {x4 : Int32} {fs2 : List Value} (ok : gO X c_Sv_keepPassing "TripleStore$Solver" w_Sv_keepPassing) (h1 : M[x0]? = some (.inr (5, fs2))) {rm : Room} {post : Option Value → List mC → Prop} (hm : mm_ (gLa X) y_Sv_passesTests w_Sv_passesTests rm [.ref x0, .int x1] M post) (hR : gF X rm 4 k n) (hlen : ∀ r M', post r M' → M'.length = M.length) (kk : ∀ r M', post r M' → gg X M' (k + rm.cells) (n + rm.slots) 27 [(0, .ref x0), (1, .int x1), (2, .ref x2), (3, .ref x3), (4, .int x4)] (r.toList ++ [])) : gg X M k n 22 [(0, .ref x0), (1, .int x1), (2, .ref x2), (3, .ref x3), (4, .int x4)] [] := by
  refine g_aload_n ok d_Sv_keepPassing_22 rfl (j := 0) rfl ?_
  refine g_iload_n ok d_Sv_keepPassing_23 rfl (j := 1) rfl ?_
  exact gc_Sv_157 (As := [.int x1]) (rest := []) ok d_Sv_keepPassing_24 hm rfl rfl (Nat.le_of_ble_eq_true rfl) hR h1 hlen kk
theorem k_Sv_keepPassing_27 {X : gC} {M : List mC} {k n : Nat} {x0 : Nat} {x1 : Int32} {x2 : Nat} {x3 : Nat} {x4 : Int32} {s0 : Int32} (ok : gO X c_Sv_keepPassing "TripleStore$Solver" w_Sv_keepPassing)  (kt : s0 = 0 → gg X M k n 39 [(0, .ref x0), (1, .int x1), (2, .ref x2), (3, .ref x3), (4, .int x4)] []) (kf : ¬ s0 = 0 → gg X M k n 30 [(0, .ref x0), (1, .int x1), (2, .ref x2), (3, .ref x3), (4, .int x4)] []) : gg X M k n 27 [(0, .ref x0), (1, .int x1), (2, .ref x2), (3, .ref x3), (4, .int x4)] [.int s0] := by
  exact g_if_eq (tgt := 39) ok d_Sv_keepPassing_27 (by decide) (fun z => (kt z)) (fun z => (kf z))
theorem k_Sv_keepPassing_30 {X : gC} {M : List mC} {k n : Nat} {x0 : Nat} {x1 : Int32} {x2 : Nat} {x3 : Nat} {x4 : Int32} {fs2 : List Value} {f3 : Nat} {fs6 : List Value} (ok : gO X c_Sv_keepPassing "TripleStore$Solver" w_Sv_keepPassing) (h1 : M[x0]? = some (.inr (5, fs2))) (h4 : fs2[4]? = some (.ref f3)) (h5 : M[x3]? = some (.inr (4, fs6))) {rm : Room} {post : Option Value → List mC → Prop} (hm : mm_ (gLa X) y_So_put w_So_put rm [.ref x3, .ref f3] M post) (hR : gF X rm 2 k n) (hlen : ∀ r M', post r M' → M'.length = M.length) (kk : ∀ r M', post r M' → gg X M' (k + rm.cells) (n + rm.slots) 38 [(0, .ref x0), (1, .int x1), (2, .ref x2), (3, .ref x3), (4, .int x4)] (r.toList ++ [])) : gg X M k n 30 [(0, .ref x0), (1, .int x1), (2, .ref x2), (3, .ref x3), (4, .int x4)] [] := by
  refine g_aload_n ok d_Sv_keepPassing_30 rfl (j := 3) rfl ?_
  refine g_aload_n ok d_Sv_keepPassing_31 rfl (j := 0) rfl ?_
  refine gf_Sv_20 ok d_Sv_keepPassing_32 h1 h4 ?_
  exact gc_Sv_44 (As := [.ref f3]) (rest := []) ok d_Sv_keepPassing_35 hm rfl rfl (Nat.le_of_ble_eq_true rfl) hR h5 hlen kk
theorem k_Sv_keepPassing_38 {X : gC} {M : List mC} {k n : Nat} {x0 : Nat} {x1 : Int32} {x2 : Nat} {x3 : Nat} {x4 : Int32} {s0 : Int32} (ok : gO X c_Sv_keepPassing "TripleStore$Solver" w_Sv_keepPassing)  (kk : gg X M k n 39 [(0, .ref x0), (1, .int x1), (2, .ref x2), (3, .ref x3), (4, .int x4)] []) : gg X M k n 38 [(0, .ref x0), (1, .int x1), (2, .ref x2), (3, .ref x3), (4, .int x4)] [.int s0] := by
  refine g_pop ok d_Sv_keepPassing_38 rfl ?_
  exact kk
theorem k_Sv_keepPassing_39 {X : gC} {M : List mC} {k n : Nat} {x0 : Nat} {x1 : Int32} {x2 : Nat} {x3 : Nat} {x4 : Int32} (ok : gO X c_Sv_keepPassing "TripleStore$Solver" w_Sv_keepPassing) (hl : gL X = 5)  (kk : gg X M k n 3 [(0, .ref x0), (1, .int x1), (2, .ref x2), (3, .ref x3), (4, .int (x4 + 1))] []) : gg X M k n 39 [(0, .ref x0), (1, .int x1), (2, .ref x2), (3, .ref x3), (4, .int x4)] [] := by
  refine g_iinc (L' := [(0, .ref x0), (1, .int x1), (2, .ref x2), (3, .ref x3), (4, .int (x4 + 1))]) (v := (x4 + 1)) ok d_Sv_keepPassing_39 (j := 4) rfl rfl (by rw [hl]; decide) rfl ?_
  exact g_goto (tgt := 3) ok d_Sv_keepPassing_42 (by decide) kk
theorem k_Sv_keepPassing_45 {X : gC} {M : List mC} {k n : Nat}  (ok : gO X c_Sv_keepPassing "TripleStore$Solver" w_Sv_keepPassing)  {l9 : Launch} {rm : Room} {M0 : List mC} {post : Option Value → List mC → Prop} (E : gE X l9 y_Sv_keepPassing rm 5 none M0 post) (hp : post (none) M) (hk : k ≤ rm.cells) (hn : n ≤ rm.slots) : gg X M k n 45 [] [] := by
  exact g_vret ok E d_Sv_keepPassing_45 hp hk hn
theorem k_Sv_passesTests_0 {X : gC} {M : List mC} {k n : Nat} {x0 : Nat} {x1 : Int32} (ok : gO X c_Sv_passesTests "TripleStore$Solver" w_Sv_passesTests) (hl : gL X = 4)  (kk : gg X M k n 2 [(0, .ref x0), (1, .int x1), (2, .int 0)] []) : gg X M k n 0 [(0, .ref x0), (1, .int x1)] [] := by
  refine g_iconst (v := 0) ok d_Sv_passesTests_0 (by decide) ?_
  refine g_istore_n (L' := [(0, .ref x0), (1, .int x1), (2, .int 0)]) ok d_Sv_passesTests_1 rfl (by rw [hl]; decide) rfl ?_
  exact kk
theorem k_Sv_passesTests_2 {X : gC} {M : List mC} {k n : Nat} {x0 : Nat} {x1 : Int32} {x2 : Int32} {fs2 : List Value} {f3 : Nat} {fs6 : List Value} {f7 : Int32} (ok : gO X c_Sv_passesTests "TripleStore$Solver" w_Sv_passesTests) (h1 : M[x0]? = some (.inr (5, fs2))) (h4 : fs2[1]? = some (.ref f3)) (h5 : M[f3]? = some (.inr (2, fs6))) (h8 : fs6[9]? = some (.int f7)) (kt : f7 ≤ x2 → gg X M k n 59 [] []) (kf : ¬ f7 ≤ x2 → gg X M k n 13 [(0, .ref x0), (1, .int x1), (2, .int x2)] []) : gg X M k n 2 [(0, .ref x0), (1, .int x1), (2, .int x2)] [] := by
  refine g_iload_n ok d_Sv_passesTests_2 rfl (j := 2) rfl ?_
  refine g_aload_n ok d_Sv_passesTests_3 rfl (j := 0) rfl ?_
  refine gf_Sv_28 ok d_Sv_passesTests_4 h1 h4 ?_
  refine gf_Sv_48 ok d_Sv_passesTests_7 h5 h8 ?_
  exact g_icmp_ge (tgt := 59) ok d_Sv_passesTests_10 (by decide) (fun z => (gg_keep [] (kt z))) (fun z => (kf z))
theorem k_Sv_passesTests_13 {X : gC} {M : List mC} {k n : Nat} {x0 : Nat} {x1 : Int32} {x2 : Int32} {fs2 : List Value} {f3 : Nat} {fs6 : List Value} {f7 : Nat} {g10 : Nat → Option Nat} {N11 : Nat} {o13 : Nat} {fs16 : List Value} {f17 : Int32} (ok : gO X c_Sv_passesTests "TripleStore$Solver" w_Sv_passesTests) (hl : gL X = 4) (h1 : M[x0]? = some (.inr (5, fs2))) (h4 : fs2[1]? = some (.ref f3)) (h5 : M[f3]? = some (.inr (2, fs6))) (h8 : fs6[8]? = some (.ref f7)) (h9 : M[f7]? = some (.inl (4, N11, .inr (.inr (.inr (.inr g10)))))) (h12 : vp_in x2 N11) (h14 : g10 x2.toNatClampNeg = some o13) (h15 : M[o13]? = some (.inr (0, fs16))) (h18 : fs16[1]? = some (.int f17)) (kt : ¬ f17 = x1 → gg X M k n 53 [(0, .ref x0), (1, .int x1), (2, .int x2)] []) (kf : f17 = x1 → gg X M k n 31 [(0, .ref x0), (1, .int x1), (2, .int x2), (3, .ref o13)] []) : gg X M k n 13 [(0, .ref x0), (1, .int x1), (2, .int x2)] [] := by
  refine g_aload_n ok d_Sv_passesTests_13 rfl (j := 0) rfl ?_
  refine gf_Sv_28 ok d_Sv_passesTests_14 h1 h4 ?_
  refine gf_Sv_54 ok d_Sv_passesTests_17 h5 h8 ?_
  refine g_iload_n ok d_Sv_passesTests_20 rfl (j := 2) rfl ?_
  refine g_aald (t := 4) ok rfl d_Sv_passesTests_21 h9 h12 h14 ?_
  refine g_astore_n (L' := [(0, .ref x0), (1, .int x1), (2, .int x2), (3, .ref o13)]) ok d_Sv_passesTests_22 rfl (by rw [hl]; decide) rfl ?_
  refine g_aload_n ok d_Sv_passesTests_23 rfl (j := 3) rfl ?_
  refine gf_Sv_63 ok d_Sv_passesTests_24 h15 h18 ?_
  refine g_iload_n ok d_Sv_passesTests_27 rfl (j := 1) rfl ?_
  exact g_icmp_ne (tgt := 53) ok d_Sv_passesTests_28 (by decide) (fun z => (gg_keep [0, 1, 2] (kt z))) (fun z => (kf z))
theorem k_Sv_passesTests_31 {X : gC} {M : List mC} {k n : Nat} {x0 : Nat} {x1 : Int32} {x2 : Int32} {x3 : Nat} {fs2 : List Value} {f3 : Int32} (ok : gO X c_Sv_passesTests "TripleStore$Solver" w_Sv_passesTests) (h1 : M[x3]? = some (.inr (0, fs2))) (h4 : fs2[0]? = some (.int f3)) (kt : ¬ f3 = 1 → gg X M k n 53 [(0, .ref x0), (1, .int x1), (2, .int x2)] []) (kf : f3 = 1 → gg X M k n 39 [(0, .ref x0), (1, .int x1), (2, .int x2), (3, .ref x3)] []) : gg X M k n 31 [(0, .ref x0), (1, .int x1), (2, .int x2), (3, .ref x3)] [] := by
  refine g_aload_n ok d_Sv_passesTests_31 rfl (j := 3) rfl ?_
  refine gf_Sv_58 ok d_Sv_passesTests_32 h1 h4 ?_
  refine g_iconst (v := 1) ok d_Sv_passesTests_35 (by decide) ?_
  exact g_icmp_ne (tgt := 53) ok d_Sv_passesTests_36 (by decide) (fun z => (gg_keep [0, 1, 2] (kt z))) (fun z => (kf z))
theorem k_Sv_passesTests_39 {X : gC} {M : List mC} {k n : Nat} {x0 : Nat} {x1 : Int32} {x2 : Int32} {x3 : Nat} {fs2 : List Value} (ok : gO X c_Sv_passesTests "TripleStore$Solver" w_Sv_passesTests) (h1 : M[x0]? = some (.inr (5, fs2))) {rm : Room} {post : Option Value → List mC → Prop} (hm : mm_ (gLa X) y_Sv_holds w_Sv_holds rm [.ref x0, .ref x3] M post) (hR : gF X rm 6 k n) (hlen : ∀ r M', post r M' → M'.length = M.length) (kk : ∀ r M', post r M' → gg X M' (k + rm.cells) (n + rm.slots) 44 [(0, .ref x0), (1, .int x1), (2, .int x2), (3, .ref x3)] (r.toList ++ [])) : gg X M k n 39 [(0, .ref x0), (1, .int x1), (2, .int x2), (3, .ref x3)] [] := by
  refine g_aload_n ok d_Sv_passesTests_39 rfl (j := 0) rfl ?_
  refine g_aload_n ok d_Sv_passesTests_40 rfl (j := 3) rfl ?_
  exact gc_Sv_161 (As := [.ref x3]) (rest := []) ok d_Sv_passesTests_41 hm rfl rfl (Nat.le_of_ble_eq_true rfl) hR h1 hlen kk
theorem k_Sv_passesTests_44 {X : gC} {M : List mC} {k n : Nat} {x0 : Nat} {x1 : Int32} {x2 : Int32} {x3 : Nat} {s0 : Int32} {fs2 : List Value} {f3 : Int32} (ok : gO X c_Sv_passesTests "TripleStore$Solver" w_Sv_passesTests) (h1 : M[x3]? = some (.inr (0, fs2))) (h4 : fs2[6]? = some (.int f3)) (kt : ¬ s0 = f3 → gg X M k n 53 [(0, .ref x0), (1, .int x1), (2, .int x2)] []) (kf : s0 = f3 → gg X M k n 51 [] []) : gg X M k n 44 [(0, .ref x0), (1, .int x1), (2, .int x2), (3, .ref x3)] [.int s0] := by
  refine g_aload_n ok d_Sv_passesTests_44 rfl (j := 3) rfl ?_
  refine gf_Sv_165 ok d_Sv_passesTests_45 h1 h4 ?_
  exact g_icmp_ne (tgt := 53) ok d_Sv_passesTests_48 (by decide) (fun z => (gg_keep [0, 1, 2] (kt z))) (fun z => (gg_keep [] (kf z)))
theorem k_Sv_passesTests_51 {X : gC} {M : List mC} {k n : Nat}  (ok : gO X c_Sv_passesTests "TripleStore$Solver" w_Sv_passesTests)  {l9 : Launch} {rm : Room} {M0 : List mC} {post : Option Value → List mC → Prop} (E : gE X l9 y_Sv_passesTests rm 4 (some .boolean) M0 post) (hp : post (some (.int 0)) M) (hk : k ≤ rm.cells) (hn : n ≤ rm.slots) : gg X M k n 51 [] [] := by
  refine g_iconst (v := 0) ok d_Sv_passesTests_51 (by decide) ?_
  exact g_zret ok E d_Sv_passesTests_52 rfl hp hk hn
theorem k_Sv_passesTests_53 {X : gC} {M : List mC} {k n : Nat} {x0 : Nat} {x1 : Int32} {x2 : Int32} (ok : gO X c_Sv_passesTests "TripleStore$Solver" w_Sv_passesTests) (hl : gL X = 4)  (kk : gg X M k n 2 [(0, .ref x0), (1, .int x1), (2, .int (x2 + 1))] []) : gg X M k n 53 [(0, .ref x0), (1, .int x1), (2, .int x2)] [] := by
  refine g_iinc (L' := [(0, .ref x0), (1, .int x1), (2, .int (x2 + 1))]) (v := (x2 + 1)) ok d_Sv_passesTests_53 (j := 2) rfl rfl (by rw [hl]; decide) rfl ?_
  exact g_goto (tgt := 2) ok d_Sv_passesTests_56 (by decide) kk
theorem k_Sv_passesTests_59 {X : gC} {M : List mC} {k n : Nat}  (ok : gO X c_Sv_passesTests "TripleStore$Solver" w_Sv_passesTests)  {l9 : Launch} {rm : Room} {M0 : List mC} {post : Option Value → List mC → Prop} (E : gE X l9 y_Sv_passesTests rm 4 (some .boolean) M0 post) (hp : post (some (.int 1)) M) (hk : k ≤ rm.cells) (hn : n ≤ rm.slots) : gg X M k n 59 [] [] := by
  refine g_iconst (v := 1) ok d_Sv_passesTests_59 (by decide) ?_
  exact g_zret ok E d_Sv_passesTests_60 rfl hp hk hn
theorem k_Sv_holds_0 {X : gC} {M : List mC} {k n : Nat} {x0 : Nat} {x1 : Nat} {fs2 : List Value} {f3 : Int64} {fs6 : List Value} (ok : gO X c_Sv_holds "TripleStore$Solver" w_Sv_holds) (h1 : M[x1]? = some (.inr (0, fs2))) (h4 : fs2[2]? = some (.long f3)) (h5 : M[x0]? = some (.inr (5, fs6))) {rm : Room} {post : Option Value → List mC → Prop} (hm : mm_ (gLa X) y_Sv_termOf w_Sv_termOf rm [.ref x0, .long f3] M post) (hR : gF X rm 4 k n) (hlen : ∀ r M', post r M' → M'.length = M.length) (kk : ∀ r M', post r M' → gg X M' (k + rm.cells) (n + rm.slots) 8 [(0, .ref x0), (1, .ref x1)] (r.toList ++ [])) : gg X M k n 0 [(0, .ref x0), (1, .ref x1)] [] := by
  refine g_aload_n ok d_Sv_holds_0 rfl (j := 0) rfl ?_
  refine g_aload_n ok d_Sv_holds_1 rfl (j := 1) rfl ?_
  refine gf_Sv_97 ok d_Sv_holds_2 h1 h4 ?_
  exact gc_Sv_121 (As := [.long f3]) (rest := []) ok d_Sv_holds_5 hm rfl rfl (Nat.le_of_ble_eq_true rfl) hR h5 hlen kk
theorem k_Sv_holds_8 {X : gC} {M : List mC} {k n : Nat} {x0 : Nat} {x1 : Nat} {s0 : Int64} {fs2 : List Value} {f3 : Int32} (ok : gO X c_Sv_holds "TripleStore$Solver" w_Sv_holds) (hl : gL X = 6) (h1 : M[x1]? = some (.inr (0, fs2))) (h4 : fs2[5]? = some (.int f3)) (kt : ¬ f3 = 98 → gg X M k n 30 [(0, .ref x0), (1, .ref x1), (2, .long s0)] []) (kf : f3 = 98 → gg X M k n 18 [(2, .long s0)] []) : gg X M k n 8 [(0, .ref x0), (1, .ref x1)] [.long s0] := by
  refine g_lstore_n (L' := [(0, .ref x0), (1, .ref x1), (2, .long s0)]) ok d_Sv_holds_8 rfl (by rw [hl]; decide) rfl ?_
  refine g_aload_n ok d_Sv_holds_9 rfl (j := 1) rfl ?_
  refine gf_Sv_169 ok d_Sv_holds_10 h1 h4 ?_
  refine g_bipush (v := 98) ok d_Sv_holds_13 (by decide) ?_
  exact g_icmp_ne (tgt := 30) ok d_Sv_holds_15 (by decide) (fun z => (kt z)) (fun z => (gg_keep [2] (kf z)))
theorem k_Sv_holds_18 {X : gC} {M : List mC} {k n : Nat} {x2 : Int64} (ok : gO X c_Sv_holds "TripleStore$Solver" w_Sv_holds)  (kt : x2 = 0 → gg X M k n 28 [] []) (kf : ¬ x2 = 0 → gg X M k n 24 [] []) : gg X M k n 18 [(2, .long x2)] [] := by
  refine g_lload_n ok d_Sv_holds_18 rfl (j := 0) rfl ?_
  refine g_lconst (v := 0) ok d_Sv_holds_19 (by decide) ?_
  exact g_lc_eq (tgt := 28) ok d_Sv_holds_20 d_Sv_holds_21 (by decide) (fun z => (gg_keep [] (kt z))) (fun z => (gg_keep [] (kf z)))
theorem k_Sv_holds_24 {X : gC} {M : List mC} {k n : Nat}  (ok : gO X c_Sv_holds "TripleStore$Solver" w_Sv_holds)  (kk : gg X M k n 29 [] [.int 1]) : gg X M k n 24 [] [] := by
  refine g_iconst (v := 1) ok d_Sv_holds_24 (by decide) ?_
  exact g_goto (tgt := 29) ok d_Sv_holds_25 (by decide) kk
theorem k_Sv_holds_28 {X : gC} {M : List mC} {k n : Nat}  (ok : gO X c_Sv_holds "TripleStore$Solver" w_Sv_holds)  (kk : gg X M k n 29 [] [.int 0]) : gg X M k n 28 [] [] := by
  refine g_iconst (v := 0) ok d_Sv_holds_28 (by decide) ?_
  exact kk
theorem k_Sv_holds_29 {X : gC} {M : List mC} {k n : Nat} {s0 : Int32} (ok : gO X c_Sv_holds "TripleStore$Solver" w_Sv_holds)  {l9 : Launch} {rm : Room} {M0 : List mC} {post : Option Value → List mC → Prop} (E : gE X l9 y_Sv_holds rm 6 (some .boolean) M0 post) (hz : narrow .boolean (.int s0) = .int s0) (hp : post (some (.int s0)) M) (hk : k ≤ rm.cells) (hn : n ≤ rm.slots) : gg X M k n 29 [] [.int s0] := by
  exact g_zret ok E d_Sv_holds_29 hz hp hk hn
theorem k_Sv_holds_30 {X : gC} {M : List mC} {k n : Nat} {x0 : Nat} {x1 : Nat} {x2 : Int64} {fs2 : List Value} {f3 : Int64} {fs6 : List Value} (ok : gO X c_Sv_holds "TripleStore$Solver" w_Sv_holds) (h1 : M[x1]? = some (.inr (0, fs2))) (h4 : fs2[3]? = some (.long f3)) (h5 : M[x0]? = some (.inr (5, fs6))) {rm : Room} {post : Option Value → List mC → Prop} (hm : mm_ (gLa X) y_Sv_termOf w_Sv_termOf rm [.ref x0, .long f3] M post) (hR : gF X rm 4 k n) (hlen : ∀ r M', post r M' → M'.length = M.length) (kk : ∀ r M', post r M' → gg X M' (k + rm.cells) (n + rm.slots) 38 [(1, .ref x1), (2, .long x2)] (r.toList ++ [])) : gg X M k n 30 [(0, .ref x0), (1, .ref x1), (2, .long x2)] [] := by
  refine g_aload_n ok d_Sv_holds_30 rfl (j := 0) rfl ?_
  refine g_aload_n ok d_Sv_holds_31 rfl (j := 1) rfl ?_
  refine gf_Sv_109 ok d_Sv_holds_32 h1 h4 ?_
  exact gc_Sv_121 (As := [.long f3]) (rest := []) ok d_Sv_holds_35 hm rfl rfl (Nat.le_of_ble_eq_true rfl) hR h5 hlen (fun r M' q => (gg_keep [1, 2] (kk r M' q)))
theorem k_Sv_holds_38 {X : gC} {M : List mC} {k n : Nat} {x1 : Nat} {x2 : Int64} {s0 : Int64} (ok : gO X c_Sv_holds "TripleStore$Solver" w_Sv_holds) (hl : gL X = 6)  (kt : x2 = 0 → gg X M k n 53 [] []) (kf : ¬ x2 = 0 → gg X M k n 46 [(1, .ref x1), (2, .long x2), (4, .long s0)] []) : gg X M k n 38 [(1, .ref x1), (2, .long x2)] [.long s0] := by
  refine g_lstore (L' := [(1, .ref x1), (2, .long x2), (4, .long s0)]) ok d_Sv_holds_38 (by rw [hl]; decide) rfl ?_
  refine g_lload_n ok d_Sv_holds_40 rfl (j := 1) rfl ?_
  refine g_lconst (v := 0) ok d_Sv_holds_41 (by decide) ?_
  exact g_lc_eq (tgt := 53) ok d_Sv_holds_42 d_Sv_holds_43 (by decide) (fun z => (gg_keep [] (kt z))) (fun z => (kf z))
theorem k_Sv_holds_46 {X : gC} {M : List mC} {k n : Nat} {x1 : Nat} {x2 : Int64} {x4 : Int64} (ok : gO X c_Sv_holds "TripleStore$Solver" w_Sv_holds)  (kt : ¬ x4 = 0 → gg X M k n 55 [(1, .ref x1), (2, .long x2), (4, .long x4)] []) (kf : x4 = 0 → gg X M k n 53 [] []) : gg X M k n 46 [(1, .ref x1), (2, .long x2), (4, .long x4)] [] := by
  refine g_lload ok d_Sv_holds_46 (j := 2) rfl ?_
  refine g_lconst (v := 0) ok d_Sv_holds_48 (by decide) ?_
  exact g_lc_ne (tgt := 55) ok d_Sv_holds_49 d_Sv_holds_50 (by decide) (fun z => (kt z)) (fun z => (gg_keep [] (kf z)))
theorem k_Sv_holds_53 {X : gC} {M : List mC} {k n : Nat}  (ok : gO X c_Sv_holds "TripleStore$Solver" w_Sv_holds)  {l9 : Launch} {rm : Room} {M0 : List mC} {post : Option Value → List mC → Prop} (E : gE X l9 y_Sv_holds rm 6 (some .boolean) M0 post) (hp : post (some (.int 0)) M) (hk : k ≤ rm.cells) (hn : n ≤ rm.slots) : gg X M k n 53 [] [] := by
  refine g_iconst (v := 0) ok d_Sv_holds_53 (by decide) ?_
  exact g_zret ok E d_Sv_holds_54 rfl hp hk hn
theorem k_Sv_holds_92 {X : gC} {M : List mC} {k n : Nat} {x2 : Int64} {x4 : Int64} (ok : gO X c_Sv_holds "TripleStore$Solver" w_Sv_holds)  (kt : ¬ x2 = x4 → gg X M k n 103 [] []) (kf : x2 = x4 → gg X M k n 99 [] []) : gg X M k n 92 [(2, .long x2), (4, .long x4)] [] := by
  refine g_lload_n ok d_Sv_holds_92 rfl (j := 0) rfl ?_
  refine g_lload ok d_Sv_holds_93 (j := 1) rfl ?_
  exact g_lc_ne (tgt := 103) ok d_Sv_holds_95 d_Sv_holds_96 (by decide) (fun z => (gg_keep [] (kt z))) (fun z => (gg_keep [] (kf z)))
theorem k_Sv_holds_99 {X : gC} {M : List mC} {k n : Nat}  (ok : gO X c_Sv_holds "TripleStore$Solver" w_Sv_holds)  (kk : gg X M k n 104 [] [.int 1]) : gg X M k n 99 [] [] := by
  refine g_iconst (v := 1) ok d_Sv_holds_99 (by decide) ?_
  exact g_goto (tgt := 104) ok d_Sv_holds_100 (by decide) kk
theorem k_Sv_holds_103 {X : gC} {M : List mC} {k n : Nat}  (ok : gO X c_Sv_holds "TripleStore$Solver" w_Sv_holds)  (kk : gg X M k n 104 [] [.int 0]) : gg X M k n 103 [] [] := by
  refine g_iconst (v := 0) ok d_Sv_holds_103 (by decide) ?_
  exact kk
theorem k_Sv_holds_104 {X : gC} {M : List mC} {k n : Nat} {s0 : Int32} (ok : gO X c_Sv_holds "TripleStore$Solver" w_Sv_holds)  {l9 : Launch} {rm : Room} {M0 : List mC} {post : Option Value → List mC → Prop} (E : gE X l9 y_Sv_holds rm 6 (some .boolean) M0 post) (hz : narrow .boolean (.int s0) = .int s0) (hp : post (some (.int s0)) M) (hk : k ≤ rm.cells) (hn : n ≤ rm.slots) : gg X M k n 104 [] [.int s0] := by
  exact g_zret ok E d_Sv_holds_104 hz hp hk hn
theorem k_Sv_holds_105 {X : gC} {M : List mC} {k n : Nat} {x2 : Int64} {x4 : Int64} (ok : gO X c_Sv_holds "TripleStore$Solver" w_Sv_holds)  (kt : x2 = x4 → gg X M k n 116 [] []) (kf : ¬ x2 = x4 → gg X M k n 112 [] []) : gg X M k n 105 [(2, .long x2), (4, .long x4)] [] := by
  refine g_lload_n ok d_Sv_holds_105 rfl (j := 0) rfl ?_
  refine g_lload ok d_Sv_holds_106 (j := 1) rfl ?_
  exact g_lc_eq (tgt := 116) ok d_Sv_holds_108 d_Sv_holds_109 (by decide) (fun z => (gg_keep [] (kt z))) (fun z => (gg_keep [] (kf z)))
theorem k_Sv_holds_112 {X : gC} {M : List mC} {k n : Nat}  (ok : gO X c_Sv_holds "TripleStore$Solver" w_Sv_holds)  (kk : gg X M k n 117 [] [.int 1]) : gg X M k n 112 [] [] := by
  refine g_iconst (v := 1) ok d_Sv_holds_112 (by decide) ?_
  exact g_goto (tgt := 117) ok d_Sv_holds_113 (by decide) kk
theorem k_Sv_holds_116 {X : gC} {M : List mC} {k n : Nat}  (ok : gO X c_Sv_holds "TripleStore$Solver" w_Sv_holds)  (kk : gg X M k n 117 [] [.int 0]) : gg X M k n 116 [] [] := by
  refine g_iconst (v := 0) ok d_Sv_holds_116 (by decide) ?_
  exact kk
theorem k_Sv_holds_117 {X : gC} {M : List mC} {k n : Nat} {s0 : Int32} (ok : gO X c_Sv_holds "TripleStore$Solver" w_Sv_holds)  {l9 : Launch} {rm : Room} {M0 : List mC} {post : Option Value → List mC → Prop} (E : gE X l9 y_Sv_holds rm 6 (some .boolean) M0 post) (hz : narrow .boolean (.int s0) = .int s0) (hp : post (some (.int s0)) M) (hk : k ≤ rm.cells) (hn : n ≤ rm.slots) : gg X M k n 117 [] [.int s0] := by
  exact g_zret ok E d_Sv_holds_117 hz hp hk hn
theorem k_Sv_holds_118 {X : gC} {M : List mC} {k n : Nat} {x2 : Int64} {x4 : Int64} (ok : gO X c_Sv_holds "TripleStore$Solver" w_Sv_holds)  (kt : x4 ≤ x2 → gg X M k n 129 [] []) (kf : ¬ x4 ≤ x2 → gg X M k n 125 [] []) : gg X M k n 118 [(2, .long x2), (4, .long x4)] [] := by
  refine g_lload_n ok d_Sv_holds_118 rfl (j := 0) rfl ?_
  refine g_lload ok d_Sv_holds_119 (j := 1) rfl ?_
  exact g_lc_ge (tgt := 129) ok d_Sv_holds_121 d_Sv_holds_122 (by decide) (fun z => (gg_keep [] (kt z))) (fun z => (gg_keep [] (kf z)))
theorem k_Sv_holds_125 {X : gC} {M : List mC} {k n : Nat}  (ok : gO X c_Sv_holds "TripleStore$Solver" w_Sv_holds)  (kk : gg X M k n 130 [] [.int 1]) : gg X M k n 125 [] [] := by
  refine g_iconst (v := 1) ok d_Sv_holds_125 (by decide) ?_
  exact g_goto (tgt := 130) ok d_Sv_holds_126 (by decide) kk
theorem k_Sv_holds_129 {X : gC} {M : List mC} {k n : Nat}  (ok : gO X c_Sv_holds "TripleStore$Solver" w_Sv_holds)  (kk : gg X M k n 130 [] [.int 0]) : gg X M k n 129 [] [] := by
  refine g_iconst (v := 0) ok d_Sv_holds_129 (by decide) ?_
  exact kk
theorem k_Sv_holds_130 {X : gC} {M : List mC} {k n : Nat} {s0 : Int32} (ok : gO X c_Sv_holds "TripleStore$Solver" w_Sv_holds)  {l9 : Launch} {rm : Room} {M0 : List mC} {post : Option Value → List mC → Prop} (E : gE X l9 y_Sv_holds rm 6 (some .boolean) M0 post) (hz : narrow .boolean (.int s0) = .int s0) (hp : post (some (.int s0)) M) (hk : k ≤ rm.cells) (hn : n ≤ rm.slots) : gg X M k n 130 [] [.int s0] := by
  exact g_zret ok E d_Sv_holds_130 hz hp hk hn
theorem k_Sv_holds_131 {X : gC} {M : List mC} {k n : Nat} {x2 : Int64} {x4 : Int64} (ok : gO X c_Sv_holds "TripleStore$Solver" w_Sv_holds)  (kt : x2 ≤ x4 → gg X M k n 142 [] []) (kf : ¬ x2 ≤ x4 → gg X M k n 138 [] []) : gg X M k n 131 [(2, .long x2), (4, .long x4)] [] := by
  refine g_lload_n ok d_Sv_holds_131 rfl (j := 0) rfl ?_
  refine g_lload ok d_Sv_holds_132 (j := 1) rfl ?_
  exact g_lc_le (tgt := 142) ok d_Sv_holds_134 d_Sv_holds_135 (by decide) (fun z => (gg_keep [] (kt z))) (fun z => (gg_keep [] (kf z)))
theorem k_Sv_holds_138 {X : gC} {M : List mC} {k n : Nat}  (ok : gO X c_Sv_holds "TripleStore$Solver" w_Sv_holds)  (kk : gg X M k n 143 [] [.int 1]) : gg X M k n 138 [] [] := by
  refine g_iconst (v := 1) ok d_Sv_holds_138 (by decide) ?_
  exact g_goto (tgt := 143) ok d_Sv_holds_139 (by decide) kk
theorem k_Sv_holds_142 {X : gC} {M : List mC} {k n : Nat}  (ok : gO X c_Sv_holds "TripleStore$Solver" w_Sv_holds)  (kk : gg X M k n 143 [] [.int 0]) : gg X M k n 142 [] [] := by
  refine g_iconst (v := 0) ok d_Sv_holds_142 (by decide) ?_
  exact kk
theorem k_Sv_holds_143 {X : gC} {M : List mC} {k n : Nat} {s0 : Int32} (ok : gO X c_Sv_holds "TripleStore$Solver" w_Sv_holds)  {l9 : Launch} {rm : Room} {M0 : List mC} {post : Option Value → List mC → Prop} (E : gE X l9 y_Sv_holds rm 6 (some .boolean) M0 post) (hz : narrow .boolean (.int s0) = .int s0) (hp : post (some (.int s0)) M) (hk : k ≤ rm.cells) (hn : n ≤ rm.slots) : gg X M k n 143 [] [.int s0] := by
  exact g_zret ok E d_Sv_holds_143 hz hp hk hn
