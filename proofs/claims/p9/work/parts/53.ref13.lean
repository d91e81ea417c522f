/-! THE REFERENCE: ask, on every text -/
section RQ
variable {l : Launch} {c : CS} {m : MS} {o : Nat → Int64}
theorem opR_le {x a : Int32} {g h : Nat} (q : opR x a g h) (hg : g ≤ 9) : h ≤ 9 := by
  rcases q with ⟨-, q1, q2⟩ | ⟨-, -, -, q2, -⟩ | ⟨-, -, q2⟩ | ⟨-, -, q2⟩ <;> omega
theorem hgt_seq {f a : Nat → Int32} : ∀ n h, hgt f a n h → ∃ G : Nat → Nat, G 0 = 0 ∧ G n = h ∧ ∀ i, i < n → opR (f i) (a i) (G i) (G (i + 1))
  | 0, h, q => ⟨fun _ => 0, rfl, q.symm, fun i hi => absurd hi (Nat.not_lt_zero i)⟩
  | n + 1, h, ⟨g, q1, q2⟩ => by
    obtain ⟨G, e1, e2, e3⟩ := hgt_seq n g q1
    refine ⟨fun i => if i = n + 1 then h else G i, (if_neg (by omega) : (if 0 = n + 1 then h else G 0) = G 0).trans e1, if_pos rfl, fun i hi => ?_⟩
    show opR (f i) (a i) (if i = n + 1 then h else G i) (if i + 1 = n + 1 then h else G (i + 1))
    rw [if_neg (by omega)]
    by_cases e : i = n
    · rw [if_pos (by omega), e, e2]
      exact q2
    · rw [if_neg (by omega)]
      exact e3 i (by omega)
/-- what holds of the reference between calls, for ask's sake -/
def RI (m : MS) : Prop := m.ln ≤ 160 ∧ (∀ j, okv (m.sd j)) ∧ SI m ∧ RA m ∧ nzT m ∧ m.nr ≤ 150 ∧ m.nl ≤ 6 ∧ ∀ j, j < m.nl → ∃ v, v < 6 ∧ m.co j = nI v
theorem mo_ask (h : RI m) : mm_ l y_Mo_ask w_Mo_ask (rmh 12) [.ref 58] (W9 c m o) (qM c o (fun r m' => ∃ x, r = some (.int x) ∧ RI m' ∧ m'.1.1 = m.1.1 ∧ m'.ln = 0)) := by
  obtain ⟨r1, r2, r3, r4, r5, r6, r7, r8⟩ := h
  refine mm_intro (by decide) (Nat.le_of_ble_eq_true rfl) i_Mo_ask (fun X ok E => ?_)
  have t0 : m.d_ar.d_b0.tI := ⟨r1, Nat.zero_le _, Nat.zero_le _, Nat.zero_le _, Nat.zero_le _, fun z => (nomatch z), Nat.zero_le _, r2, Or.inl rfl, fun z => (nomatch z), fun z => (nomatch z)⟩
  refine k_Mo_ask_0 ok rW_58 (Nat.le_refl 59) (sF_Mo_24 (v := 0) (by decide)) (sO_Mo_24 rfl) (sF_Mo_25 (v := 0) (by decide)) (sO_Mo_25 rfl) (sF_Mo_26 (v := 0) (by decide)) (sO_Mo_26 rfl) (sF_Mo_27 (v := 0) (by decide)) (sO_Mo_27 rfl) (sF_Mo_32 (v := 0) (by decide)) (sO_Mo_32 rfl) (sF_Mo_35 (v := 0) (by decide)) (sO_Mo_35 rfl) (sF_Mo_39 (v := 0) (by decide)) (sO_Mo_39 rfl) (sF_Mo_41 (v := 0) (by decide)) (sO_Mo_41 rfl) (sF_Mo_43 (v := false) rfl) (sO_Mo_43 rfl) sF_Mo_44 (sO_Mo_44 rfl) (sF_Mo_45 (v := false) rfl) (sO_Mo_45 rfl) sF_Mo_46 (sO_Mo_46 rfl) (sF_Mo_18 (v := 0) (by decide)) (sO_Mo_18 rfl) sF_Mo_20 (sO_Mo_20 rfl) (sF_Mo_21 (v := false) rfl) (sO_Mo_21 rfl) (mo_nextG (by exact t0)) (gF_h E.nR (by decide) (by decide)) (fun _ _ q => qM_len q) ?_
  rintro r M' ⟨m1, ⟨rfl, q1, q2, -⟩, rfl⟩
  have q1 : St m.d_ar.d_b0 m1 := q1
  have q2 : m1.wr = -1 := q2
  obtain ⟨f1, f2, f3, f4, f5, f6, f7, f8, f9, f10, f11, f12, f13⟩ := q1.eqs
  have f1 : m1.1.1 = m.1.1 := f1
  have f2 : m1.1.2.1 = m.1.2.1 := f2
  have f3 : m1.2 = m.2 := f3
  have f4 : m1.el = 0 := f4
  have f5 : m1.dp = 0 := f5
  have f9 : m1.no = 0 := f9
  have f10 : m1.np = 0 := f10
  have f11 : m1.ne = 0 := f11
  have f13 : m1.nw = 0 := f13.1
  have b1 : BI m1 := ⟨q1.1, by omega, by omega, by omega⟩
  refine k_Mo_ask_81 ok rW_58 (mo_readQuery b1 (by rw [q2]; decide) f5 f9 f13 f11) (gF_h E.nR (by decide) (by decide)) (fun _ _ q => qM_len q) ?_
  rintro r M' ⟨m2, ⟨rfl, ⟨g1, g2, g3⟩, b2, hnw, hQ⟩, rfl⟩
  have g1 : m2.1.1 = m.1.1 := g1.trans f1
  have g3 : m2.2 = m.2 := g3.trans f3
  have sd2 : ∀ j, okv (m2.sd j) := b2.1.2.2.2.2.2.2.2.1
  have ob2 : okv m2.ob := b2.1.2.2.2.2.2.2.2.2.1
  have ne2 : m2.ne ≤ 14 := by
    obtain ⟨-, y1, y2, -⟩ := b2
    omega
  have no2 : m2.no ≤ 300 := b2.2.2.2
  have sz2 : SI m2 := by
    have e1 : m2.sz = m.sz := congrArg (fun z => MS.sz (m.1, z)) g3
    have e2 : m2.gv = m.gv := congrArg (fun z => MS.gv (m.1, z)) g3
    have e3 : m2.va = m.va := congrArg (fun z => MS.va (m.1, z)) g3
    unfold SI gz
    rw [e1, e2, e3]
    exact r3
  have ra2 : RA m2 := by
    have e1 : m2.ra = m.ra := congrArg (fun z => MS.ra (m.1, z)) g3
    unfold RA
    rw [e1]
    exact r4
  have nz2 : nzT m2 := by
    have e1 : m2.nt = m.nt := congrArg (fun z => MS.nt ((z, m.1.2), m.2)) g1
    have e2 : m2.tr = m.tr := congrArg (fun z => MS.tr ((z, m.1.2), m.2)) g1
    unfold nzT
    rw [e1, e2]
    exact r5
  have nr2 : m2.nr ≤ 150 := by
    have e1 : m2.nr = m.nr := congrArg (fun z => MS.nr (m.1, z)) g3
    omega
  have nl2 : m2.nl ≤ 6 := by
    have e1 : m2.nl = m.nl := congrArg (fun z => MS.nl (m.1, z)) g3
    omega
  have co2 : ∀ j, j < m2.nl → ∃ v, v < 6 ∧ m2.co j = nI v := by
    have e1 : m2.nl = m.nl := congrArg (fun z => MS.nl (m.1, z)) g3
    have e2 : m2.co = m.co := congrArg (fun z => MS.co (m.1, z)) g3
    rw [e1, e2]
    exact r8
  refine k_Mo_ask_85 ok rW_58 (Nat.le_refl 59) (sF_Mo_13 (v := 0) (by decide)) (sO_Mo_13 rfl) rF_Mo_20 sF_Mo_14 (sO_Mo_14 rfl) (fun z => ?_) (fun z => ?_)
  · -- a fault
    refine k_Mo_ask_110 ok ?_
    refine k_Mo_ask_111 ok rW_58 (mo_goodF 1) (gF_h E.nR (by decide) (by decide)) (fun _ _ q => qM_len q) ?_
    rintro r M' ⟨m3, ⟨rfl, rfl⟩, rfl⟩
    refine k_Mo_ask_115 ok (fun z => absurd rfl z) (fun _ => ?_)
    refine k_Mo_ask_118 ok E ⟨_, ⟨_, rfl, ⟨by show 0 ≤ 160; omega, by exact sd2, by exact sz2, by exact ra2, by exact nz2, by exact nr2, by exact nl2, by exact co2⟩, by exact g1, by rfl⟩, rfl⟩ (Nat.le_refl _) (Nat.le_refl _)
  · have hw : m2.wr < 0 := Int32.not_le.mp z
    obtain ⟨⟨hh, hTA⟩, hwa⟩ := hQ hw
    obtain ⟨G, G0, -, GS⟩ := hgt_seq _ _ hh
    have G9 : ∀ i, i ≤ m2.no → G i ≤ 9 := by
      intro i
      induction i with
      | zero => intro _; omega
      | succ i ih => exact fun q => opR_le (GS i (by omega)) (ih (by omega))
    refine k_Mo_ask_106 ok ?_
    refine k_Mo_ask_111 ok rW_58 (mo_goodT 1) (gF_h E.nR (by decide) (by decide)) (fun _ _ q => qM_len q) ?_
    rintro r M' ⟨m3, ⟨rfl, rfl⟩, rfl⟩
    refine k_Mo_ask_115 ok (fun _ => ?_) (fun z => absurd z (by decide))
    refine k_Mo_ask_120 ok E.nL ?_
    obtain ⟨m3, hm3⟩ : ∃ m3, m3 = ((m2.u_ln 0).u_fa m2.wr).u_cd 0 := ⟨_, rfl⟩
    have fin : ∀ m7 : MS, m7.1 = m3.1 → SI m7 → RA m7 → m7.nr ≤ 150 → m7.nl = m3.nw → (∀ j, j < m3.nw → ∃ v, v < 6 ∧ m7.co j = nI v) → RI m7 ∧ m7.1.1 = m.1.1 ∧ m7.ln = 0 := by
      intro m7 w1 w2 w3 w4 w5 w6
      have e1 : m7.ln = 0 := by
        have : m7.ln = m3.ln := congrArg (fun z => MS.ln (z, m.2)) w1
        rw [this, hm3]
      have e2 : m7.sd = m2.sd := by
        have : m7.sd = m3.sd := congrArg (fun z => MS.sd (z, m.2)) w1
        rw [this, hm3]
      have e3 : m7.nt = m2.nt := by
        have : m7.nt = m3.nt := congrArg (fun z => MS.nt (z, m.2)) w1
        rw [this, hm3]
      have e4 : m7.tr = m2.tr := by
        have : m7.tr = m3.tr := congrArg (fun z => MS.tr (z, m.2)) w1
        rw [this, hm3]
      have e5 : m7.1.1 = m.1.1 := by
        rw [w1, hm3]
        exact g1
      have e6 : m3.nw = m2.nw := by rw [hm3]
      refine ⟨⟨by omega, by rw [e2]; exact sd2, w2, w3, ?_, w4, by omega, by rw [w5]; exact w6⟩, e5, e1⟩
      unfold nzT
      rw [e3, e4]
      exact nz2
    rw [← hm3]
    have k1 : m3.nw = m2.nw := by rw [hm3]
    have k2 : m3.wa = m2.wa := by rw [hm3]
    have k3 : m3.oo = m2.oo := by rw [hm3]
    have k4 : m3.ar = m2.ar := by rw [hm3]
    have k5 : m3.no = m2.no := by rw [hm3]
    have k6 : SI m3 := by rw [hm3]; exact sz2
    have k7 : nzT m3 := by rw [hm3]; exact nz2
    have k8 : ∀ j, okv (m3.sd j) := by rw [hm3]; exact sd2
    have k9 : m3.ne ≤ 14 := by rw [hm3]; exact ne2
    have k10 : TA m3 := by rw [hm3]; exact hTA
    have k11 : RA m3 := by rw [hm3]; exact ra2
    have k12 : okv m3.ob := by rw [hm3]; exact ob2
    clear hm3
    -- the end
    have e210 : ∀ m6 : MS, m6.1 = m3.1 → SI m6 → RA m6 → m6.nr = 0 → m6.nl = m3.nw → (∀ j, j < m3.nw → ∃ v, v < 6 ∧ m6.co j = nI v) → gg X (W9 c m6 o) 0 0 210 [(0, .ref 58)] [] := by
      intro m6 w1 w2 w3 w4 w5 w6
      have n1 : m6.nw = m3.nw := congrArg (fun z => MS.nw (z, m.2)) w1
      have n2 : m6.wa = m3.wa := congrArg (fun z => MS.wa (z, m.2)) w1
      have n3 : m6.ob = m3.ob := congrArg (fun z => MS.ob (z, m.2)) w1
      refine k_Mo_ask_210 ok rW_58 rF_Mo_51 (fun z => ?_) (fun z => ?_)
      · refine k_Mo_ask_222 ok ?_
        refine k_Mo_ask_223 ok rW_58 (mo_goodF 2) (gF_h E.nR (by decide) (by decide)) (fun _ _ q => qM_len q) ?_
        rintro r M' ⟨m7, ⟨rfl, rfl⟩, rfl⟩
        refine k_Mo_ask_227 ok (fun z => absurd rfl z) (fun _ => ?_)
        refine k_Mo_ask_230 ok E ⟨_, ⟨_, rfl, fin (m6.u_cd 2) (by exact w1) (by exact w2) (by exact w3) (by show m6.nr ≤ 150; omega) (by exact w5) (by exact w6)⟩, rfl⟩ (Nat.le_refl _) (Nat.le_refl _)
      · refine k_Mo_ask_218 ok ?_
        refine k_Mo_ask_223 ok rW_58 (mo_goodT 2) (gF_h E.nR (by decide) (by decide)) (fun _ _ q => qM_len q) ?_
        rintro r M' ⟨m7, ⟨rfl, rfl⟩, rfl⟩
        refine k_Mo_ask_227 ok (fun _ => ?_) (fun z => absurd z (by decide))
        have hWI : WI (m6.u_cd 0) := by
          refine ⟨w2.2, by show m6.nw ≤ 6; omega, ?_, ?_⟩
          · show ∀ j, j < m6.nw → ∃ v, v < 6 ∧ m6.wa j = nI v
            rw [n1, n2, k1, k2]
            exact hwa
          · show okv m6.ob
            rw [n3]
            exact k12
        refine k_Mo_ask_232 ok rW_58 (mo_makeRows hWI (by exact w2) (by exact w3) (by exact w4)) (gF_h E.nR (by decide) (by decide)) (fun _ _ q => qM_len q) ?_
        rintro r M' ⟨m8, ⟨rfl, ⟨y1, y2, y3, y4, y5, y6⟩, y7⟩, rfl⟩
        have hS8 : SI m8 := by
          have e1 : m8.sz = m6.sz := congrArg (fun z => MS.sz (m.1, (z, m.2.2))) y2
          have e2 : m8.gv = m6.gv := congrArg (fun z => MS.gv (m.1, (z, m.2.2))) y2
          have e3 : m8.va = m6.va := congrArg (fun z => MS.va (m.1, (z, m.2.2))) y2
          unfold SI gz
          rw [e1, e2, e3]
          exact w2
        refine k_Mo_ask_236 ok rW_58 rF_Mo_55 E ⟨_, ⟨_, rfl, fin m8 (y1.trans (by exact w1)) hS8 y6 y7 (y5.trans (by exact w5)) (by rw [y4]; exact w6)⟩, rfl⟩ (Nat.le_refl _) (Nat.le_refl _)
    -- the steps
    have L2 : ∀ r i m6, i + r = m3.no → m6.1 = m3.1 → SI m6 → RA m6 → m6.nr = 0 → m6.nl = m3.nw → (∀ j, j < m3.nw → ∃ v, v < 6 ∧ m6.co j = nI v) → m6.tp = G i → gg X (W9 c m6 o) 0 0 173 [(0, .ref 58), (1, .int (nI i))] [] := by
      intro r
      induction r with
      | zero =>
        intro i m6 hi w1 w2 w3 w4 w5 w6 w7
        have n1 : m6.no = m3.no := congrArg (fun z => MS.no (z, m.2)) w1
        refine k_Mo_ask_173 ok rW_58 rF_Mo_32 (fun z => have z := (nLe rfl rfl (by omega) (by omega) z); ?_) (fun z => have z := (nNle rfl rfl (by omega) (by omega) z); ?_)
        · exact e210 m6 w1 w2 w3 w4 w5 w6
        · omega
      | succ r ih =>
        intro i m6 hi w1 w2 w3 w4 w5 w6 w7
        have n1 : m6.no = m3.no := congrArg (fun z => MS.no (z, m.2)) w1
        have n2 : m6.oo = m3.oo := congrArg (fun z => MS.oo (z, m.2)) w1
        have n3 : m6.ar = m3.ar := congrArg (fun z => MS.ar (z, m.2)) w1
        have n4 : m6.sd = m3.sd := congrArg (fun z => MS.sd (z, m.2)) w1
        have n5 : m6.ne = m3.ne := congrArg (fun z => MS.ne (z, m.2)) w1
        have n6 : m6.te = m3.te := congrArg (fun z => MS.te (z, m.2)) w1
        have n7 : m6.ts = m3.ts := congrArg (fun z => MS.ts (z, m.2)) w1
        have n8 : m6.nt = m3.nt := congrArg (fun z => MS.nt (z, m.2)) w1
        have n9 : m6.tr = m3.tr := congrArg (fun z => MS.tr (z, m.2)) w1
        have ci : (nI i).toNatClampNeg = i := nC rfl (by omega)
        have hVI : VI m6 := by
          refine ⟨w2, ?_, by rw [n4]; exact k8, by omega, ?_⟩
          · unfold nzT
            rw [n8, n9]
            exact k7
          · rw [n5]
            intro t ht
            unfold TT S1
            rw [n4, n6, n7]
            exact k10 t ht
        have hop : opR (m6.oo i) (m6.ar i) m6.tp (G (i + 1)) := by
          rw [n2, n3, k3, k4, w7]
          exact GS i (by omega)
        have hg9 := G9 i (by omega)
        refine k_Mo_ask_173 ok rW_58 rF_Mo_32 (fun z => have z := (nLe rfl rfl (by omega) (by omega) z); ?_) (fun z => have z := (nNle rfl rfl (by omega) (by omega) z); ?_)
        · omega
        refine k_Mo_ask_181 ok rW_58 rF_Mo_51 (fun z => ?_) (fun z => ?_)
        · exact e210 m6 w1 w2 w3 w4 w5 w6
        refine k_Mo_ask_188 ok rW_58 rF_Mo_30 rW_68 (vin rfl (by omega) (by decide)) rF_Mo_31 rW_69 (vin rfl (by omega) (by decide)) (by rw [ci]; exact mo_work hVI _ _ _ hop (by omega)) (gF_h E.nR (by decide) (by decide)) (fun _ _ q => qM_len q) ?_
        rintro r M' ⟨m7, ⟨rfl, y1, y2, y3, y4⟩, rfl⟩
        have u1 : m7.ra = m6.ra := congrArg (fun z => MS.ra (m.1, (m.2.1, z))) y2
        have u2 : m7.nr = m6.nr := congrArg (fun z => MS.nr (m.1, (m.2.1, z))) y2
        have u3 : m7.nl = m6.nl := congrArg (fun z => MS.nl (m.1, (m.2.1, z))) y2
        have u4 : m7.co = m6.co := congrArg (fun z => MS.co (m.1, (m.2.1, z))) y2
        refine k_Mo_ask_204 ok E.nL ?_
        rw [nI_1]
        exact ih (i + 1) m7 (by omega) (y1.trans w1) y3 (by unfold RA; rw [u1]; exact w3) (by omega) (by omega) (by rw [u4]; exact w6) y4
    -- the columns
    have L1 : ∀ r i g, i + r = m3.nw → (∀ j, j < i → ∃ v, v < 6 ∧ g j = nI v) → gg X (W9 c (m3.u_co g) o) 0 0 122 [(0, .ref 58), (1, .int (nI i))] [] := by
      intro r
      induction r with
      | zero =>
        intro i g hi w1
        have n1 : (m3.u_co g).nw = m3.nw := rfl
        refine k_Mo_ask_122 ok rW_58 rF_Mo_41 (fun z => have z := (nLe rfl rfl (by omega) (by omega) z); ?_) (fun z => have z := (nNle rfl rfl (by omega) (by omega) z); ?_)
        · refine k_Mo_ask_148 ok E.nL rW_58 rF_Mo_41 (Nat.le_refl 59) (sF_Mo_57 rfl) (sO_Mo_57 rfl) (sF_Mo_55 (v := 0) (by decide)) (sO_Mo_55 rfl) (sF_Mo_50 (v := 0) (by decide)) (sO_Mo_50 rfl) (sF_Mo_51 (v := false) rfl) (sO_Mo_51 rfl) ?_
          exact L2 m3.no 0 _ (by omega) (by rfl) (by exact k6) (by exact k11) (by rfl) (by rfl) (by intro j hj; exact w1 j (by omega)) (by exact G0.symm)
        · omega
      | succ r ih =>
        intro i g hi w1
        have n1 : (m3.u_co g).nw = m3.nw := rfl
        have ci : (nI i).toNatClampNeg = i := nC rfl (by omega)
        refine k_Mo_ask_122 ok rW_58 rF_Mo_41 (fun z => have z := (nLe rfl rfl (by omega) (by omega) z); ?_) (fun z => have z := (nNle rfl rfl (by omega) (by omega) z); ?_)
        · omega
        refine k_Mo_ask_130 ok E.nL rW_58 rF_Mo_56 rF_Mo_40 rW_75 (vin rfl (by omega) (by decide)) rW_83 (vin rfl (by omega) (by decide)) sA_83 ?_
        rw [nI_1, ci]
        refine ih (i + 1) _ (by omega) (fun j hj => ?_)
        show ∃ v, v < 6 ∧ upd g i (m3.wa i) j = nI v
        unfold upd
        split
        · rw [k2]
          exact hwa i (by omega)
        · exact w1 j (by omega)
    exact L1 m3.nw 0 m3.co (by omega) (fun j hj => absurd hj (Nat.not_lt_zero j))
end RQ
