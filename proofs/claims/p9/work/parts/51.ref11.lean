/-! THE REFERENCE'S SOLVER: compare, match, holds, filter, the steps -/
section RV11
variable {l : Launch} {c : CS} {m : MS} {o : Nat → Int64}
theorem mo_compare (x y : Int64) (hx : ¬ x = 0) (hy : ¬ y = 0) : mm_ l y_Mo_compare w_Mo_compare (rmh 1) [.long x, .long y] (W9 c m o) (qM c o (fun r m' => ∃ v, r = some (.int v) ∧ m' = m)) := by
  refine mm_intro (by decide) (Nat.le_of_ble_eq_true rfl) i_Mo_compare (fun X ok E => ?_)
  have k44 : gg X (W9 c m o) 0 0 44 [(0, .long x)] [] := by
    refine k_Mo_compare_44 ok (fun z => ?_) (fun z => ?_)
    · refine k_Mo_compare_54 ok ?_
      refine k_Mo_compare_55 ok E ⟨_, ⟨_, rfl, rfl⟩, rfl⟩ (Nat.le_refl _) (Nat.le_refl _)
    · refine k_Mo_compare_50 ok ?_
      refine k_Mo_compare_55 ok E ⟨_, ⟨_, rfl, rfl⟩, rfl⟩ (Nat.le_refl _) (Nat.le_refl _)
  have k102 : ∀ a b, gg X (W9 c m o) 0 0 102 [(4, .long a), (6, .long b)] [] := by
    intro a b
    refine k_Mo_compare_102 ok (fun z => ?_) (fun z => ?_)
    · refine k_Mo_compare_114 ok ?_
      refine k_Mo_compare_115 ok E ⟨_, ⟨_, rfl, rfl⟩, rfl⟩ (Nat.le_refl _) (Nat.le_refl _)
    · refine k_Mo_compare_110 ok ?_
      refine k_Mo_compare_115 ok E ⟨_, ⟨_, rfl, rfl⟩, rfl⟩ (Nat.le_refl _) (Nat.le_refl _)
  have L2 : ∀ n a b, 2 ^ 56 ≤ un b * 256 ^ n → gg X (W9 c m o) 0 0 82 [(4, .long a), (6, .long b)] [] := by
    intro n
    induction n with
    | zero =>
      intro a b h
      refine k_Mo_compare_82 ok (fun z => ?_) (fun z => ?_)
      · exact k102 a b
      · exact absurd ((sh56 b).mp z) (by omega)
    | succ n ih =>
      intro a b h
      refine k_Mo_compare_82 ok (fun z => ?_) (fun z => ?_)
      · exact k102 a b
      · refine k_Mo_compare_92 ok E.nL ?_
        refine ih a _ ?_
        rw [un_s8 b ((sh56 b).mp z)]
        rw [Nat.pow_succ] at h
        have e : un b * 256 * 256 ^ n = un b * (256 ^ n * 256) := by rw [Nat.mul_assoc, Nat.mul_comm 256]
        rw [e]
        exact h
  have big : ∀ b : Int64, ¬ b = 0 → 2 ^ 56 ≤ un b * 256 ^ 7 := by
    intro b hb
    have h1 : un b ≠ 0 := fun q => hb (un0.mpr q)
    have : 256 ^ 7 = 2 ^ 56 := by decide
    rw [this]
    exact Nat.le_mul_of_pos_left _ (by omega)
  have L1 : ∀ n a b, 2 ^ 56 ≤ un a * 256 ^ n → ¬ b = 0 → gg X (W9 c m o) 0 0 62 [(4, .long a), (6, .long b)] [] := by
    intro n
    induction n with
    | zero =>
      intro a b h hb
      refine k_Mo_compare_62 ok (fun z => ?_) (fun z => ?_)
      · exact L2 7 a b (big b hb)
      · exact absurd ((sh56 a).mp z) (by omega)
    | succ n ih =>
      intro a b h hb
      refine k_Mo_compare_62 ok (fun z => ?_) (fun z => ?_)
      · exact L2 7 a b (big b hb)
      · refine k_Mo_compare_72 ok E.nL ?_
        refine ih _ b ?_ hb
        rw [un_s8 a ((sh56 a).mp z)]
        rw [Nat.pow_succ] at h
        have e : un a * 256 * 256 ^ n = un a * (256 ^ n * 256) := by rw [Nat.mul_assoc, Nat.mul_comm 256]
        rw [e]
        exact h
  have k20 : gg X (W9 c m o) 0 0 20 [(0, .long x), (2, .long y)] [] := by
    refine k_Mo_compare_20 ok (fun z => ?_) (fun z => ?_)
    · exact k44
    refine k_Mo_compare_26 ok (fun z => ?_) (fun z => ?_)
    · exact k44
    refine k_Mo_compare_32 ok (fun z => ?_) (fun z => ?_)
    · refine k_Mo_compare_42 ok ?_
      refine k_Mo_compare_43 ok E ⟨_, ⟨_, rfl, rfl⟩, rfl⟩ (Nat.le_refl _) (Nat.le_refl _)
    · refine k_Mo_compare_38 ok ?_
      refine k_Mo_compare_43 ok E ⟨_, ⟨_, rfl, rfl⟩, rfl⟩ (Nat.le_refl _) (Nat.le_refl _)
  refine k_Mo_compare_0 ok (fun z => ?_) (fun z => ?_)
  · refine k_Mo_compare_8 ok (fun z => ?_) (fun z => ?_)
    · exact k20
    · refine k_Mo_compare_14 ok (fun z => ?_) (fun z => ?_)
      · refine k_Mo_compare_56 ok E.nL ?_
        exact L1 7 x y (big x hx) hy
      · exact k20
  · refine k_Mo_compare_6 ok E ⟨_, ⟨_, rfl, rfl⟩, rfl⟩ (Nat.le_refl _) (Nat.le_refl _)
/-- the store's triples are terms; the sides are variables or none -/
def nzT (m : MS) : Prop := m.nt ≤ 48 ∧ ∀ j, j < 3 * m.nt → ¬ m.tr j = 0
theorem okv_ge {x : Int32} (h : okv x) (h0 : 0 ≤ x) : ∃ v, v < 6 ∧ x = nI v := by
  rcases h with rfl | h
  · exact absurd h0 (by decide)
  · exact h
theorem gz_one (h : gz m) (K v : Nat) (x : Int64) (hK : K < 1650) (hv : v < 6) (hx : ¬ x = 0) : gz ((m.u_gv (upd m.gv K (m.gv K ||| 1 <<< (nI v &&& 31)))).u_va (vp_updL m.va (6 * K + v) x)) := by
  intro k hk u hu hb
  have hb : bt (upd m.gv K (m.gv K ||| 1 <<< (nI v &&& 31)) k) u = true := hb
  show ¬ vp_updL m.va (6 * K + v) x (6 * k + u) = 0
  unfold vp_updL
  unfold upd at hb
  by_cases e : k = K
  · rw [if_pos e, bt_or, bt_one v hv u hu] at hb
    by_cases e2 : u = v
    · rw [if_pos (by omega)]
      exact hx
    · rw [if_neg (by omega)]
      rcases Bool.or_eq_true_iff.mp hb with q | q
      · rw [e]
        exact h K hK u hu q
      · exact absurd (of_decide_eq_true q) e2
  · rw [if_neg e] at hb
    rw [if_neg (by omega)]
    exact h k hk u hu hb
theorem gz_clr (h : gz m) (K : Nat) : gz (m.u_gv (upd m.gv K 0)) := by
  intro k hk u hu hb
  have hb : bt (upd m.gv K 0 k) u = true := hb
  unfold upd at hb
  by_cases e : k = K
  · rw [if_pos e, bt_0] at hb
    cases hb
  · rw [if_neg e] at hb
    exact h k hk u hu hb
theorem mo_match (h : SI m) (hT : nzT m) (hs : ∀ j, okv (m.sd j)) (ht : m.tp ≤ 9) (a : Nat) (ha : a + 2 < 120) : mm_ l y_Mo_match w_Mo_match (rmh 1) [.ref 58, .int (nI a)] (W9 c m o) (qM c o (fun r m' => r = none ∧ m'.1 = m.1 ∧ m'.2.2 = m.2.2 ∧ SI m' ∧ m'.tp = m.tp + 1)) := by
  refine mm_intro (by decide) (Nat.le_of_ble_eq_true rfl) i_Mo_match (fun X ok E => ?_)
  obtain ⟨hn, hnz⟩ := hT
  have ct : (nI m.tp).toNatClampNeg = m.tp := nC rfl (by omega)
  refine k_Mo_match_0 ok E.nL rW_58 rF_Mo_50 rF_Mo_49 rW_79 (vin rfl (by omega) (by decide)) sA_79 (Nat.le_refl 59) (sF_Mo_50 (nA rfl (nL 1))) (sO_Mo_50 rfl) ?_
  rw [ct]
  have L1 : ∀ r t m1 s, t + r = m.nt → m1.1 = m.1 → m1.2.2 = m.2.2 → m1.tp = m.tp + 1 → SI m1 → m1.sz m.tp = nI s → s ≤ t → gg X (W9 c m1 o) 0 0 24 [(0, .ref 58), (1, .int (nI a)), (2, .int (nI m.tp)), (3, .int (nI t))] [] := by
    intro r
    induction r with
    | zero =>
      intro t m1 s h1 h2 h3 h4 h5 h6 h7
      have e1 : m1.nt = m.nt := congrArg (fun z => MS.nt (z, m.2)) h2
      refine k_Mo_match_24 ok rW_58 rF_Mo_1 (fun z => have z := (nLe rfl rfl (by omega) (by omega) z); ?_) (fun z => have z := (nNle rfl rfl (by omega) (by omega) z); ?_)
      · refine k_Mo_match_227 ok E ⟨_, ⟨rfl, h2, h3, h5, h4⟩, rfl⟩ (Nat.le_refl _) (Nat.le_refl _)
      · omega
    | succ r ih =>
      intro t m1 s h1 h2 h3 h4 h5 h6 h7
      have e1 : m1.nt = m.nt := congrArg (fun z => MS.nt (z, m.2)) h2
      have cK : 150 * nI m.tp + nI s = nI (150 * m.tp + s) := nA (nM (nL 150) rfl) rfl
      have dK : (nI (150 * m.tp + s)).toNatClampNeg = 150 * m.tp + s := nC rfl (by omega)
      have e8 : m1.sz (nI m.tp).toNatClampNeg = nI s := by rw [ct]; exact h6
      have nx : ∀ m2 s2, m2.1 = m.1 → m2.2.2 = m.2.2 → m2.tp = m.tp + 1 → SI m2 → m2.sz m.tp = nI s2 → s2 ≤ t + 1 → gg X (W9 c m2 o) 0 0 221 [(0, .ref 58), (1, .int (nI a)), (2, .int (nI m.tp)), (3, .int (nI t))] [] := by
        intro m2 s2 q1 q2 q3 q4 q5 q6
        refine k_Mo_match_221 ok E.nL ?_
        rw [nI_1]
        exact ih (t + 1) m2 s2 (by omega) q1 q2 q3 q4 q5 q6
      have L2 : ∀ r i m2 y, i + r = 3 → m2.1 = m.1 → m2.2.2 = m.2.2 → m2.tp = m.tp + 1 → SI m2 → m2.sz m.tp = nI s → gg X (W9 c m2 o) 0 0 60 [(0, .ref 58), (1, .int (nI a)), (2, .int (nI m.tp)), (3, .int (nI t)), (4, .int (nI (150 * m.tp + s))), (5, .int y), (6, .int (nI i))] [] := by
        intro r
        induction r with
        | zero =>
          intro i m2 y hi q1 q2 q3 q4 q5
          refine k_Mo_match_60 ok (fun z => have z := (nLe (nL 3) rfl (by omega) (by omega) z); ?_) (fun z => have z := (nNle (nL 3) rfl (by omega) (by omega) z); ?_)
          · refine k_Mo_match_206 ok (fun z => ?_) (fun z => ?_)
            · exact nx m2 s q1 q2 q3 q4 q5 (by omega)
            · have e9 : m2.sz (nI m.tp).toNatClampNeg + 1 = nI (s + 1) := by rw [ct, q5, nI_1]
              refine k_Mo_match_211 ok rW_58 rF_Mo_49 rW_79 (vin rfl (by omega) (by decide)) (vin rfl (by omega) (by decide)) sA_79 ?_
              rw [e9, ct]
              exact nx _ (s + 1) (by exact q1) (by exact q2) (by exact q3) (SI_up q4 (by omega)) (if_pos rfl) (by omega)
          · omega
        | succ r ih2 =>
          intro i m2 y hi q1 q2 q3 q4 q5
          have etr : m2.tr = m.tr := congrArg (fun z => MS.tr (z, m.2)) q1
          have esd : m2.sd = m.sd := congrArg (fun z => MS.sd (z, m.2)) q1
          have d1 : (3 * nI t + nI i).toNatClampNeg = 3 * t + i := nC (nA (nM (nL 3) rfl) rfl) (by omega)
          have d2 : (nI a + nI i).toNatClampNeg = a + i := nC (nA rfl rfl) (by omega)
          have n2 : ∀ m3 y, m3.1 = m.1 → m3.2.2 = m.2.2 → m3.tp = m.tp + 1 → SI m3 → m3.sz m.tp = nI s → gg X (W9 c m3 o) 0 0 200 [(0, .ref 58), (1, .int (nI a)), (2, .int (nI m.tp)), (3, .int (nI t)), (4, .int (nI (150 * m.tp + s))), (5, .int y), (6, .int (nI i))] [] := by
            intro m3 y w1 w2 w3 w4 w5
            refine k_Mo_match_200 ok E.nL ?_
            rw [nI_1]
            exact ih2 (i + 1) m3 y (by omega) w1 w2 w3 w4 w5
          refine k_Mo_match_60 ok (fun z => have z := (nLe (nL 3) rfl (by omega) (by omega) z); ?_) (fun z => have z := (nNle (nL 3) rfl (by omega) (by omega) z); ?_)
          · omega
          have hxz : ¬ m2.tr (3 * nI t + nI i).toNatClampNeg = 0 := by
            rw [d1, etr]
            exact hnz _ (by omega)
          generalize m2.tr (3 * nI t + nI i).toNatClampNeg = x at hxz
          refine k_Mo_match_66 ok E.nL rW_58 rF_Mo_0 rW_59 (vin (nA (nM (nL 3) rfl) rfl) (by omega) (by decide)) rF_Mo_33 rW_70 (vin (nA rfl rfl) (by omega) (by decide)) (fun z => ?_) (fun z => ?_)
          · obtain ⟨v, hv, ev⟩ := okv_ge (by rw [esd]; exact hs _) z
            rw [ev]
            refine k_Mo_match_123 ok rW_58 rF_Mo_48 rW_78 (vin rfl (by omega) (by decide)) (fun z => ?_) (fun z => ?_)
            · refine k_Mo_match_171 ok rW_58 rF_Mo_48 rW_78 (vin rfl (by omega) (by decide)) (vin rfl (by omega) (by decide)) sA_78 rF_Mo_47 rW_77 (by decide) (vin (nA (nM (nL 6) rfl) rfl) (by omega) (by decide)) sA_77 ?_
              have d3 : (6 * nI (150 * m.tp + s) + nI v).toNatClampNeg = 6 * (150 * m.tp + s) + v := nC (nA (nM (nL 6) rfl) rfl) (by omega)
              rw [dK, d3]
              exact n2 _ _ (by exact q1) (by exact q2) (by exact q3) ⟨q4.1, gz_one q4.2 _ _ _ (by omega) hv (by rw [d1, etr]; exact hnz _ (by omega))⟩ (by exact q5)
            · refine k_Mo_match_139 ok rW_58 rF_Mo_47 rW_77 (vin (nA (nM (nL 6) rfl) rfl) (by omega) (by decide)) (fun z => ?_) (fun z => ?_)
              · refine k_Mo_match_164 ok ?_
                refine k_Mo_match_165 ok E.nL ?_
                exact n2 m2 _ q1 q2 q3 q4 q5
              · refine k_Mo_match_160 ok ?_
                refine k_Mo_match_165 ok E.nL ?_
                exact n2 m2 _ q1 q2 q3 q4 q5
          · refine k_Mo_match_95 ok rW_58 rF_Mo_34 rW_71 (vin (nA rfl rfl) (by omega) (by decide)) (fun z => ?_) (fun z => ?_)
            · refine k_Mo_match_116 ok ?_
              refine k_Mo_match_117 ok E.nL ?_
              exact n2 m2 _ q1 q2 q3 q4 q5
            · refine k_Mo_match_112 ok ?_
              refine k_Mo_match_117 ok E.nL ?_
              exact n2 m2 _ q1 q2 q3 q4 q5
      refine k_Mo_match_24 ok rW_58 rF_Mo_1 (fun z => have z := (nLe rfl rfl (by omega) (by omega) z); ?_) (fun z => have z := (nNle rfl rfl (by omega) (by omega) z); ?_)
      · omega
      refine k_Mo_match_32 ok E.nL rW_58 rF_Mo_49 rW_79 (vin rfl (by omega) (by decide)) rF_Mo_48 rW_78 (vin (nA (nM (nL 150) rfl) e8) (by omega) (by decide)) sA_78 ?_
      rw [e8, cK, dK]
      exact L2 3 0 _ _ rfl (by exact h2) (by exact h3) (by exact h4) ⟨h5.1, gz_clr h5.2 _⟩ (by exact h6)
  exact L1 m.nt 0 _ 0 (by omega) rfl rfl rfl (SI_up (s := 0) (L := m.tp) h (by omega)) (if_pos rfl) (Nat.le_refl _)
theorem okv_lt {x : Int32} (h : okv x) (h0 : x < 0) : x = -1 := by
  rcases h with rfl | ⟨v, hv, rfl⟩
  · rfl
  · exact absurd h0 (nI_pos (by omega))
theorem mo_holds (g : gz m) (hs : ∀ j, okv (m.sd j)) (t k : Nat) (ht : t < 14) (hk : k < 1650) (hT : TT m t) : mm_ l y_Mo_holds w_Mo_holds (rmh 2) [.ref 58, .int (nI t), .int (nI k)] (W9 c m o) (qM c o (fun r m' => ∃ b, r = some (.int (bI b)) ∧ m' = m)) := by
  refine mm_intro (by decide) (Nat.le_of_ble_eq_true rfl) i_Mo_holds (fun X ok E => ?_)
  have ep : 60 + 2 * nI t = nI (60 + 2 * t) := nA (nL 60) (nM (nL 2) rfl)
  have ep1 : nI (60 + 2 * t) + 1 = nI (60 + 2 * t + 1) := nI_1 _
  have dp : (nI (60 + 2 * t)).toNatClampNeg = 60 + 2 * t := nC rfl (by omega)
  have dp1 : (nI (60 + 2 * t + 1)).toNatClampNeg = 60 + 2 * t + 1 := nC rfl (by omega)
  have dt : (nI t).toNatClampNeg = t := nC rfl (by omega)
  have dk : (nI k).toNatClampNeg = k := nC rfl (by omega)
  have r268 : ∀ b : Bool, gg X (W9 c m o) 0 0 268 [] [.int (bI b)] := by
    intro b
    refine k_Mo_holds_268 ok E (bI_nar _) ⟨_, ⟨b, rfl, rfl⟩, rfl⟩ (Nat.le_refl _) (Nat.le_refl _)
  -- is the side there?
  have k181 : ∀ a b : Int64, ¬ a = 0 → ¬ b = 0 → gg X (W9 c m o) 0 0 181 [(0, .ref 58), (1, .int (nI t))] [.long b, .long a] := by
    intro a b ha hb
    refine k_Mo_holds_181 ok (mo_compare a b ha hb) (gF_h E.nR (by decide) (by decide)) (fun _ _ q => qM_len q) ?_
    rintro r M' ⟨m, ⟨v, rfl, rfl⟩, rfl⟩
    refine k_Mo_holds_184 ok E.nL rW_58 rF_Mo_37 rW_73 (vin rfl (by omega) (by decide)) (fun z184 => ?_) (fun z184 => ?_)
    · refine k_Mo_holds_210 ok rW_58 rF_Mo_37 rW_73 (vin rfl (by omega) (by decide)) (fun z210 => ?_) (fun z210 => ?_)
      · refine k_Mo_holds_234 ok rW_58 rF_Mo_37 rW_73 (vin rfl (by omega) (by decide)) (fun z234 => ?_) (fun z234 => ?_)
        · refine k_Mo_holds_258 ok (fun z258 => ?_) (fun z258 => ?_)
          · refine k_Mo_holds_267 ok ?_
            first | exact r268 true | exact r268 false
          · refine k_Mo_holds_263 ok ?_
            first | exact r268 true | exact r268 false
        · refine k_Mo_holds_245 ok (fun z245 => ?_) (fun z245 => ?_)
          · refine k_Mo_holds_254 ok ?_
            first | exact r268 true | exact r268 false
          · refine k_Mo_holds_250 ok ?_
            first | exact r268 true | exact r268 false
      · refine k_Mo_holds_221 ok (fun z221 => ?_) (fun z221 => ?_)
        · refine k_Mo_holds_230 ok ?_
          first | exact r268 true | exact r268 false
        · refine k_Mo_holds_226 ok ?_
          first | exact r268 true | exact r268 false
    · refine k_Mo_holds_197 ok (fun z197 => ?_) (fun z197 => ?_)
      · refine k_Mo_holds_206 ok ?_
        first | exact r268 true | exact r268 false
      · refine k_Mo_holds_202 ok ?_
        first | exact r268 true | exact r268 false
  have val : ∀ p, m.sd p < 0 ∨ (∃ v, v < 6 ∧ m.sd p = nI v ∧ bt (m.gv k) v = true) → S1 m p → (m.sd p < 0 ∧ ¬ m.te p = 0) ∨ (∃ v, v < 6 ∧ m.sd p = nI v ∧ ¬ m.va (6 * k + v) = 0) := by
    intro p q1 q2
    rcases q1 with q1 | ⟨v, hv, e, q1⟩
    · exact Or.inl ⟨q1, q2 (okv_lt (hs p) q1)⟩
    · exact Or.inr ⟨v, hv, e, g k hk v hv q1⟩
  have k107 : (m.sd (60 + 2 * t) < 0 ∨ (∃ v, v < 6 ∧ m.sd (60 + 2 * t) = nI v ∧ bt (m.gv k) v = true)) → (m.sd (60 + 2 * t + 1) < 0 ∨ (∃ v, v < 6 ∧ m.sd (60 + 2 * t + 1) = nI v ∧ bt (m.gv k) v = true)) → S1 m (60 + 2 * t) → S1 m (60 + 2 * t + 1) → gg X (W9 c m o) 0 0 107 [(0, .ref 58), (1, .int (nI t)), (2, .int (nI k)), (3, .int (nI (60 + 2 * t)))] [] := by
    intro q1 q2 q3 q4
    have v1 := val _ q1 q3
    have v2 := val _ q2 q4
    have k141 : ∀ a : Int64, ¬ a = 0 → gg X (W9 c m o) 0 0 141 [(0, .ref 58), (1, .int (nI t)), (2, .int (nI k)), (3, .int (nI (60 + 2 * t)))] [.long a] := by
      intro a ha
      refine k_Mo_holds_141 ok rW_58 rF_Mo_33 rW_70 (vin (nA rfl (nL 1)) (by omega) (by decide)) (fun z => ?_) (fun z => ?_)
      · rw [ep1, dp1] at z
        rcases v2 with ⟨w1, w2⟩ | ⟨v, hv, w1, w2⟩
        · exact absurd w1 (Int32.not_lt.mpr z)
        · have e1 : m.sd (nI (60 + 2 * t) + 1).toNatClampNeg = nI v := by rw [ep1, dp1]; exact w1
          have e2 : (6 * nI k + nI v).toNatClampNeg = 6 * k + v := nC (nA (nM (nL 6) rfl) rfl) (by omega)
          refine k_Mo_holds_163 ok rW_58 rF_Mo_47 rF_Mo_33 rW_70 (vin (nA rfl (nL 1)) (by omega) (by decide)) rW_77 (vin (nA (nM (nL 6) rfl) e1) (by omega) (by decide)) ?_
          rw [e1, e2]
          exact k181 a _ ha w2
      · rw [ep1, dp1] at z
        rcases v2 with ⟨w1, w2⟩ | ⟨v, hv, w1, w2⟩
        · refine k_Mo_holds_152 ok rW_58 rF_Mo_34 rW_71 (vin (nA rfl (nL 1)) (by omega) (by decide)) ?_
          rw [ep1, dp1]
          exact k181 a _ ha w2
        · rw [w1] at z
          exact absurd (nI_pos' (by omega)) z
    refine k_Mo_holds_107 ok rW_58 rF_Mo_33 rW_70 (vin rfl (by omega) (by decide)) (fun z => ?_) (fun z => ?_)
    · rw [dp] at z
      rcases v1 with ⟨w1, w2⟩ | ⟨v, hv, w1, w2⟩
      · exact absurd w1 (Int32.not_lt.mpr z)
      · have e1 : m.sd (nI (60 + 2 * t)).toNatClampNeg = nI v := by rw [dp]; exact w1
        have e2 : (6 * nI k + nI v).toNatClampNeg = 6 * k + v := nC (nA (nM (nL 6) rfl) rfl) (by omega)
        refine k_Mo_holds_125 ok rW_58 rF_Mo_47 rF_Mo_33 rW_70 (vin rfl (by omega) (by decide)) rW_77 (vin (nA (nM (nL 6) rfl) e1) (by omega) (by decide)) ?_
        rw [e1, e2]
        exact k141 _ w2
    · rw [dp] at z
      rcases v1 with ⟨w1, w2⟩ | ⟨v, hv, w1, w2⟩
      · refine k_Mo_holds_116 ok rW_58 rF_Mo_34 rW_71 (vin rfl (by omega) (by decide)) ?_
        rw [dp]
        exact k141 _ w2
      · rw [w1] at z
        exact absurd (nI_pos' (by omega)) z
  have no : gg X (W9 c m o) 0 0 105 [] [] := by
    refine k_Mo_holds_105 ok E ⟨_, ⟨false, rfl, rfl⟩, rfl⟩ (Nat.le_refl _) (Nat.le_refl _)
  have k40 : ∀ b : Bool, (b = true → m.sd (60 + 2 * t) < 0 ∨ (∃ v, v < 6 ∧ m.sd (60 + 2 * t) = nI v ∧ bt (m.gv k) v = true)) → gg X (W9 c m o) 0 0 40 [(0, .ref 58), (1, .int (nI t)), (2, .int (nI k)), (3, .int (nI (60 + 2 * t)))] [.int (bI b)] := by
    intro b hb
    have k93 : ¬ m.ts t = 98 → ∀ b2 : Bool, (b2 = true → m.sd (60 + 2 * t + 1) < 0 ∨ (∃ v, v < 6 ∧ m.sd (60 + 2 * t + 1) = nI v ∧ bt (m.gv k) v = true)) → gg X (W9 c m o) 0 0 93 [(0, .ref 58), (1, .int (nI t)), (2, .int (nI k)), (3, .int (nI (60 + 2 * t))), (4, .int (bI b))] [.int (bI b2)] := by
      intro h98 b2 hb2
      have hTT : S1 m (60 + 2 * t) ∧ S1 m (60 + 2 * t + 1) := by
        rcases hT with q | q
        · exact absurd q h98
        · exact q
      refine k_Mo_holds_93 ok E.nL (fun z => have z := bI_0 z; ?_) (fun z => have z := bI_1 z; ?_)
      · exact no
      have z1 := hb z
      refine k_Mo_holds_100 ok (fun z => have z := bI_1 z; ?_) (fun z => have z := bI_0 z; ?_)
      · exact k107 z1 (hb2 z) hTT.1 hTT.2
      · exact no
    refine k_Mo_holds_40 ok E.nL rW_58 rF_Mo_37 rW_73 (vin rfl (by omega) (by decide)) (fun z => ?_) (fun z => ?_)
    · rw [dt] at z
      have h98 : ¬ m.ts t = 98 := z
      have yes : (m.sd (60 + 2 * t + 1) < 0 ∨ (∃ v, v < 6 ∧ m.sd (60 + 2 * t + 1) = nI v ∧ bt (m.gv k) v = true)) → gg X (W9 c m o) 0 0 88 [(0, .ref 58), (1, .int (nI t)), (2, .int (nI k)), (3, .int (nI (60 + 2 * t))), (4, .int (bI b))] [] := by
        intro q
        refine k_Mo_holds_88 ok ?_
        exact k93 h98 true (fun _ => q)
      refine k_Mo_holds_56 ok rW_58 rF_Mo_33 rW_70 (vin (nA rfl (nL 1)) (by omega) (by decide)) (fun z => ?_) (fun z => ?_)
      · rw [ep1, dp1] at z
        exact yes (Or.inl z)
      · rw [ep1, dp1] at z
        obtain ⟨v, hv, ev⟩ := okv_ge (hs _) (Int32.not_lt.mp z)
        have e1 : m.sd (nI (60 + 2 * t) + 1).toNatClampNeg = nI v := by rw [ep1, dp1]; exact ev
        refine k_Mo_holds_67 ok rW_58 rF_Mo_48 rW_78 (vin rfl (by omega) (by decide)) rF_Mo_33 rW_70 (vin (nA rfl (nL 1)) (by omega) (by decide)) (fun z => ?_) (fun z => ?_)
        · refine k_Mo_holds_92 ok ?_
          exact k93 h98 false (fun z => nomatch z)
        · rw [e1, dk] at z
          exact yes (Or.inr ⟨v, hv, ev, (bt_iff _ v hv).mp z⟩)
    · refine k_Mo_holds_53 ok E (bI_nar _) ⟨_, ⟨b, rfl, rfl⟩, rfl⟩ (Nat.le_refl _) (Nat.le_refl _)
  have yes : (m.sd (60 + 2 * t) < 0 ∨ (∃ v, v < 6 ∧ m.sd (60 + 2 * t) = nI v ∧ bt (m.gv k) v = true)) → gg X (W9 c m o) 0 0 35 [(0, .ref 58), (1, .int (nI t)), (2, .int (nI k)), (3, .int (nI (60 + 2 * t)))] [] := by
    intro q
    refine k_Mo_holds_35 ok ?_
    exact k40 true (fun _ => q)
  refine k_Mo_holds_0 ok E.nL rW_58 rF_Mo_33 rW_70 (vin (nA (nL 60) (nM (nL 2) rfl)) (by omega) (by decide)) (fun z => ?_) (fun z => ?_)
  · rw [ep, dp] at z
    rw [ep]
    exact yes (Or.inl z)
  · rw [ep, dp] at z
    rw [ep]
    obtain ⟨v, hv, ev⟩ := okv_ge (hs _) (Int32.not_lt.mp z)
    have e1 : m.sd (nI (60 + 2 * t)).toNatClampNeg = nI v := by rw [dp]; exact ev
    refine k_Mo_holds_16 ok rW_58 rF_Mo_48 rW_78 (vin rfl (by omega) (by decide)) rF_Mo_33 rW_70 (vin rfl (by omega) (by decide)) (fun z => ?_) (fun z => ?_)
    · refine k_Mo_holds_39 ok ?_
      exact k40 false (fun z => nomatch z)
    · rw [e1, dk] at z
      exact yes (Or.inr ⟨v, hv, ev, (bt_iff _ v hv).mp z⟩)
theorem mo_filter (h : SI m) (hs : ∀ j, okv (m.sd j)) (hne : m.ne ≤ 14) (hT : ∀ t, t < m.ne → TT m t) (ht1 : 1 ≤ m.tp) (ht : m.tp ≤ 10) (x : Int32) : mm_ l y_Mo_filter w_Mo_filter (rmh 3) [.ref 58, .int x] (W9 c m o) (qM c o (fun r m' => r = none ∧ m'.1 = m.1 ∧ m'.2.2 = m.2.2 ∧ SI m' ∧ m'.tp = m.tp)) := by
  obtain ⟨s, hs9, hsz⟩ := h.1 (m.tp - 1) (by omega)
  refine mm_intro (by decide) (Nat.le_of_ble_eq_true rfl) i_Mo_filter (fun X ok E => ?_)
  have eb : nI m.tp - 1 = nI (m.tp - 1) := nS rfl (nL 1) (by omega)
  have c2 : (nI (m.tp - 1)).toNatClampNeg = m.tp - 1 := nC rfl (by omega)
  refine k_Mo_filter_0 ok E.nL rW_58 rF_Mo_50 rF_Mo_49 rW_79 (vin (nL 10) (by omega) (by decide)) sA_79 ?_
  rw [eb]
  have h0 : Sm 10 m (m.u_sz (upd m.sz (10 : Int32).toNatClampNeg 0)) := ⟨rfl, rfl, rfl, SI_up (s := 0) (L := 10) h (by omega), fun j hj => if_neg hj⟩
  have sb : ∀ m1, Sm 10 m m1 → m1.sz (nI (m.tp - 1)).toNatClampNeg = nI s := fun m1 q => by rw [c2, q.2.2.2.2 _ (by omega)]; exact hsz
  have L1 : ∀ r i m1, i + r = s → Sm 10 m m1 → gg X (W9 c m1 o) 0 0 17 [(0, .ref 58), (1, .int x), (2, .int (nI (m.tp - 1))), (3, .int (nI i))] [] := by
    intro r
    induction r with
    | zero =>
      intro i m1 hi q
      refine k_Mo_filter_17 ok rW_58 rF_Mo_49 rW_79 (vin rfl (by omega) (by decide)) (fun z => ?_) (fun z => ?_)
      · refine k_Mo_filter_104 ok rW_58 (mo_copy q.2.2.2.1 10 (m.tp - 1) (by omega) (by decide) (by omega)) (gF_h E.nR (by decide) (by decide)) (fun _ _ q => qM_len q) ?_
        rintro r M' ⟨m2, ⟨rfl, w⟩, rfl⟩
        refine k_Mo_filter_111 ok E ⟨_, ⟨rfl, w.1.trans q.1, w.2.1.trans q.2.1, w.2.2.2.1, w.2.2.1.trans q.2.2.1⟩, rfl⟩ (Nat.le_refl _) (Nat.le_refl _)
      · rw [sb m1 q] at z
        exact absurd (nI_le (by omega) (by omega)) z
    | succ r ih =>
      intro i m1 hi q
      have n1 : m1.ne = m.ne := congrArg (fun z => MS.ne (z, m.2)) q.1
      have n2 : m1.sd = m.sd := congrArg (fun z => MS.sd (z, m.2)) q.1
      have n3 : m1.te = m.te := congrArg (fun z => MS.te (z, m.2)) q.1
      have n4 : m1.ts = m.ts := congrArg (fun z => MS.ts (z, m.2)) q.1
      have hT1 : ∀ t, t < m1.ne → TT m1 t := by
        intro t q9
        rw [n1] at q9
        unfold TT S1
        rw [n2, n3, n4]
        exact hT t q9
      have nx : ∀ m2, Sm 10 m m2 → gg X (W9 c m2 o) 0 0 98 [(0, .ref 58), (1, .int x), (2, .int (nI (m.tp - 1))), (3, .int (nI i))] [] := by
        intro m2 q2
        refine k_Mo_filter_98 ok E.nL ?_
        rw [nI_1]
        exact ih (i + 1) m2 (by omega) q2
      have fin : ∀ y, gg X (W9 c m1 o) 0 0 85 [(0, .ref 58), (1, .int x), (2, .int (nI (m.tp - 1))), (3, .int (nI i)), (4, .int y)] [] := by
        intro y
        refine k_Mo_filter_85 ok (fun z => ?_) (fun z => ?_)
        · exact nx m1 q
        · refine k_Mo_filter_90 ok rW_58 (mo_addTo q.2.2.2.1 10 (m.tp - 1) i (by decide) (by omega) (by omega)) (gF_h E.nR (by decide) (by decide)) (fun _ _ q => qM_len q) ?_
          rintro r M' ⟨m3, ⟨rfl, q3, -⟩, rfl⟩
          exact nx m3 (q.trans q3)
      have L2 : ∀ r t y, t + r = m1.ne → gg X (W9 c m1 o) 0 0 33 [(0, .ref 58), (1, .int x), (2, .int (nI (m.tp - 1))), (3, .int (nI i)), (4, .int y), (5, .int (nI t))] [] := by
        intro r
        induction r with
        | zero =>
          intro t y h9
          refine k_Mo_filter_33 ok rW_58 rF_Mo_39 (fun z => have z := (nLe rfl rfl (by omega) (by omega) z); ?_) (fun z => have z := (nNle rfl rfl (by omega) (by omega) z); ?_)
          · exact fin y
          · omega
        | succ r ih2 =>
          intro t y h9
          have n9 : ∀ y, gg X (W9 c m1 o) 0 0 79 [(0, .ref 58), (1, .int x), (2, .int (nI (m.tp - 1))), (3, .int (nI i)), (4, .int y), (5, .int (nI t))] [] := by
            intro y
            refine k_Mo_filter_79 ok E.nL ?_
            rw [nI_1]
            exact ih2 (t + 1) y (by omega)
          refine k_Mo_filter_33 ok rW_58 rF_Mo_39 (fun z => have z := (nLe rfl rfl (by omega) (by omega) z); ?_) (fun z => have z := (nNle rfl rfl (by omega) (by omega) z); ?_)
          · omega
          refine k_Mo_filter_42 ok rW_58 rF_Mo_36 rW_72 (vin rfl (by omega) (by decide)) (fun z => ?_) (fun z => ?_)
          · exact n9 y
          have e1 : 150 * nI (m.tp - 1) + nI i = nI (150 * (m.tp - 1) + i) := nA (nM (nL 150) rfl) rfl
          refine k_Mo_filter_53 ok rW_58 (by rw [e1]; exact mo_holds q.2.2.2.1.2 (by rw [n2]; exact hs) t _ (by omega) (by omega) (hT1 t (by omega))) (gF_h E.nR (by decide) (by decide)) (fun _ _ q => qM_len q) ?_
          rintro r M' ⟨m1, ⟨b, rfl, rfl⟩, rfl⟩
          refine k_Mo_filter_66 ok rW_58 rF_Mo_38 rW_74 (vin rfl (by omega) (by decide)) (fun z => ?_) (fun z => ?_)
          · exact n9 y
          · refine k_Mo_filter_76 ok E.nL ?_
            exact n9 _
      refine k_Mo_filter_17 ok rW_58 rF_Mo_49 rW_79 (vin rfl (by omega) (by decide)) (fun z => ?_) (fun z => ?_)
      · rw [sb m1 q] at z
        exact absurd z (nI_ge (by omega) (by omega))
      refine k_Mo_filter_27 ok E.nL ?_
      exact L2 m1.ne 0 _ (by omega)
  exact L1 s 0 _ (by omega) h0
end RV11
