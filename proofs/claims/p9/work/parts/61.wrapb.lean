/-! THE WRAPPER OF ASK, whichever way ask ends -/
section WB
variable {l : Launch} {c : CS} {m : MS} {o : Nat → Int64}
theorem wB_ask (htr : l.stackTraces = false) (h : CI c) (h48 : c.tn ≤ 48) : mm_ l y_La_ask w_La_ask (rmc 19 1 6) (.ref 0 :: ([] ++ [.ref 84])) (W9 c m o) (fun r M' => ∃ k c' o', r = some (.int k) ∧ Ak c c' ∧ M' = W9 c' m o') := by
  refine mmH_intro (by decide) (Nat.le_of_ble_eq_true rfl) i_Tr_size (fun X ok E hT => ?_)
  obtain rfl : gLa X = l := E.La
  refine g_aload_n ok d_La_ask_0 rfl (j := 1) rfl ?_
  refine g_iconst (v := 0) ok d_La_ask_1 (by decide) ?_
  refine g_aload_n ok d_La_ask_2 rfl (j := 0) rfl ?_
  obtain ⟨x1, x2, e0, ⟨f1, f2, f3, f4⟩, e1, e2, e3, e4⟩ := tab2 hT
  refine g_callVB (As := []) (rest := [.int 0, .ref 84]) (C := RTS) (T := TTS) (N := 9) (ci := 9) (x1 := x1) (x2 := x2) ok (ts_ask htr h h48) i_TS_ask ml_La_38 wn_TS_ask ws_TS_ask wi_TS ⟨by decide, by decide, by show _ = some 0; decide +kernel⟩ rfl d_La_ask_3 rfl (Nat.le_of_ble_eq_true rfl) (gF_c E.nR (Nat.le_refl _) (by decide) (by decide) (by decide)) rW_0 (fun _ _ q => qC_len q) e0 (by unfold covers; rw [f1, f2]; rfl) (by unfold covers; rw [e1, e2]; rfl) (by rw [f4]; decide) (by rw [e4]; decide) (by rw [f4]; exact gT_at 324 (by decide +kernel) (by decide +kernel)) (by rw [e4]; exact gT_at 325 (by decide +kernel) (by decide +kernel)) (yT_at 346 (by decide +kernel) (by decide +kernel)) (yT_at 434 (by decide +kernel) (by decide +kernel)) nc_1 ?_ ?_ ?_
  · rintro r M' ⟨c2, ⟨⟨v, rfl⟩, q⟩, rfl⟩
    refine k_La_ask_6 ok rW_84 (vin (nL 0) (by decide) (by decide)) sA_84 ?_
    exact k_La_ask_17 ok E ⟨_, _, _, rfl, q, rfl⟩ (Nat.le_refl _) (Nat.le_refl _)
  · rintro M' ⟨c2, q, rfl⟩
    rw [f3]
    refine gh_astore_n (L' := [(0, .ref 0), (1, .ref 84)]) ok d_La_ask_11 rfl (by rw [E.nL]; decide) rfl ?_
    refine g_iconst (v := 1) ok d_La_ask_12 (by decide) ?_
    exact g_iret ok E d_La_ask_13 ⟨_, _, _, rfl, q, rfl⟩ (Nat.le_refl _) (Nat.le_refl _)
  · rintro M' ⟨c2, q, rfl⟩
    rw [e3]
    refine gh_astore_n (L' := [(0, .ref 0), (1, .ref 84)]) ok d_La_ask_14 rfl (by rw [E.nL]; decide) rfl ?_
    refine g_iconst (v := 2) ok d_La_ask_15 (by decide) ?_
    exact g_iret ok E d_La_ask_16 ⟨_, _, _, rfl, q, rfl⟩ (Nat.le_refl _) (Nat.le_refl _)
end WB
