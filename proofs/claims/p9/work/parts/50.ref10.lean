/-! THE REFERENCE'S SOLVER: it stays within its arrays -/
section RV
variable {l : Launch} {c : CS} {m : MS} {o : Nat → Int64}
/-- what is given is a term; every list has at most 150 -/
def gz (m : MS) : Prop := ∀ k, k < 1650 → ∀ v, v < 6 → bt (m.gv k) v = true → ¬ m.va (6 * k + v) = 0
def SI (m : MS) : Prop := (∀ j, j < 11 → ∃ s, s ≤ 150 ∧ m.sz j = nI s) ∧ gz m
/-- only list L may have changed -/
def Sm (L : Nat) (m m' : MS) : Prop := m'.1 = m.1 ∧ m'.2.2 = m.2.2 ∧ m'.tp = m.tp ∧ SI m' ∧ ∀ j, j ≠ L → m'.sz j = m.sz j
theorem Sm.refl {L : Nat} (h : SI m) : Sm L m m := ⟨rfl, rfl, rfl, h, fun _ _ => rfl⟩
theorem Sm.trans {L : Nat} {m1 m2 m3 : MS} (h1 : Sm L m1 m2) (h2 : Sm L m2 m3) : Sm L m1 m3 := ⟨h2.1.trans h1.1, h2.2.1.trans h1.2.1, h2.2.2.1.trans h1.2.2.1, h2.2.2.2.1, fun j hj => (h2.2.2.2.2 j hj).trans (h1.2.2.2.2 j hj)⟩
theorem SI_up {L s : Nat} (h : SI m) (hs : s ≤ 150) : SI (m.u_sz (upd m.sz L (nI s))) := by
  refine ⟨fun j hj => ?_, h.2⟩
  show ∃ s', s' ≤ 150 ∧ upd m.sz L (nI s) j = nI s'
  unfold upd
  split
  · exact ⟨s, hs, rfl⟩
  · exact h.1 j hj
/-- six values copied from place S to place K -/
def cp6 (f : Nat → Int64) (K S : Nat) : Nat → Nat → Int64
  | 0 => f
  | v + 1 => vp_updL (cp6 f K S v) (6 * K + v) (cp6 f K S v (6 * S + v))
theorem cp6_at (f : Nat → Int64) (K S : Nat) : ∀ n, n ≤ 6 → ∀ j, cp6 f K S n j = if 6 * K ≤ j ∧ j < 6 * K + n then f (6 * S + (j - 6 * K)) else f j
  | 0, _, j => (if_neg (by omega)).symm
  | n + 1, hn, j => by
    have ih := cp6_at f K S n (by omega)
    have e1 : cp6 f K S n (6 * S + n) = f (6 * S + n) := by
      rw [ih, if_neg ?_]
      intro q
      have : S ≠ K := by omega
      omega
    show vp_updL (cp6 f K S n) (6 * K + n) (cp6 f K S n (6 * S + n)) j = _
    rw [e1]
    unfold vp_updL
    by_cases hj : j = 6 * K + n
    · rw [if_pos hj, if_pos (by omega), hj]
      congr 1
      omega
    · rw [if_neg hj, ih]
      by_cases h2 : 6 * K ≤ j ∧ j < 6 * K + n
      · rw [if_pos h2, if_pos (by omega)]
      · rw [if_neg h2, if_neg (by omega)]
theorem gz_cp (h : gz m) (K S : Nat) (hS : S < 1650) : gz ((m.u_gv (upd m.gv K (m.gv S))).u_va (cp6 m.va K S 6)) := by
  intro k hk v hv hb
  have hb : bt (upd m.gv K (m.gv S) k) v = true := hb
  show ¬ cp6 m.va K S 6 (6 * k + v) = 0
  rw [cp6_at m.va K S 6 (by decide)]
  unfold upd at hb
  by_cases e : k = K
  · rw [if_pos e] at hb
    rw [if_pos (by omega)]
    have e2 : 6 * S + (6 * k + v - 6 * K) = 6 * S + v := by omega
    rw [e2]
    exact h S hS v hv hb
  · rw [if_neg e] at hb
    rw [if_neg (by omega)]
    exact h k hk v hv hb
/-- what place O gives is given to place K too -/
def jn6 (f : Nat → Int64) (g : Int32) (K O : Nat) : Nat → Nat → Int64
  | 0 => f
  | v + 1 => if bt g v = true then vp_updL (jn6 f g K O v) (6 * K + v) (jn6 f g K O v (6 * O + v)) else jn6 f g K O v
theorem jn6_at (f : Nat → Int64) (g : Int32) (K O : Nat) (hne : O ≠ K) : ∀ n, n ≤ 6 → ∀ j, jn6 f g K O n j = if 6 * K ≤ j ∧ j < 6 * K + n ∧ bt g (j - 6 * K) = true then f (6 * O + (j - 6 * K)) else f j
  | 0, _, j => (if_neg (by omega)).symm
  | n + 1, hn, j => by
    have ih := jn6_at f g K O hne n (by omega)
    have e1 : jn6 f g K O n (6 * O + n) = f (6 * O + n) := by
      rw [ih, if_neg (by omega)]
    unfold jn6
    by_cases hb : bt g n = true
    · rw [if_pos hb, e1]
      unfold vp_updL
      by_cases hj : j = 6 * K + n
      · have e2 : j - 6 * K = n := by omega
        rw [if_pos hj, e2, if_pos ⟨by omega, by omega, hb⟩]
      · rw [if_neg hj, ih]
        by_cases h2 : 6 * K ≤ j ∧ j < 6 * K + n ∧ bt g (j - 6 * K) = true
        · rw [if_pos h2, if_pos ⟨h2.1, by omega, h2.2.2⟩]
        · rw [if_neg h2, if_neg (fun q => h2 ⟨q.1, by omega, q.2.2⟩)]
    · rw [if_neg hb, ih]
      by_cases h2 : 6 * K ≤ j ∧ j < 6 * K + n ∧ bt g (j - 6 * K) = true
      · rw [if_pos h2, if_pos ⟨h2.1, by omega, h2.2.2⟩]
      · rw [if_neg h2, if_neg (fun q => h2 ⟨q.1, ?_, q.2.2⟩)]
        have : j ≠ 6 * K + n := fun e => hb (by rw [show n = j - 6 * K by omega]; exact q.2.2)
        omega
theorem gz_jn (h : gz m) (K O : Nat) (hK : K < 1650) (hO : O < 1650) (hne : O ≠ K) : gz ((m.u_va (jn6 m.va (m.gv O) K O 6)).u_gv (upd m.gv K (m.gv K ||| m.gv O))) := by
  intro k hk v hv hb
  have hb : bt (upd m.gv K (m.gv K ||| m.gv O) k) v = true := hb
  show ¬ jn6 m.va (m.gv O) K O 6 (6 * k + v) = 0
  rw [jn6_at m.va (m.gv O) K O hne 6 (by decide)]
  unfold upd at hb
  by_cases e : k = K
  · rw [if_pos e, bt_or] at hb
    have e2 : 6 * k + v - 6 * K = v := by omega
    rw [e2]
    by_cases ho : bt (m.gv O) v = true
    · rw [if_pos ⟨by omega, by omega, ho⟩]
      exact h O hO v hv ho
    · rw [if_neg (fun q => ho q.2.2), e]
      refine h K hK v hv ?_
      rcases Bool.or_eq_true_iff.mp hb with q | q
      · exact q
      · exact absurd q ho
  · rw [if_neg e] at hb
    rw [if_neg (by omega)]
    exact h k hk v hv hb
theorem mo_addTo (h : SI m) (L f i : Nat) (hL : L < 11) (hf : f < 11) (hi : i < 150) : mm_ l y_Mo_addTo w_Mo_addTo (rmh 1) [.ref 58, .int (nI L), .int (nI f), .int (nI i)] (W9 c m o) (qM c o (fun r m' => r = none ∧ Sm L m m' ∧ (m'.tm = true ∨ (m'.tm = m.tm ∧ ∃ s, s < 150 ∧ m'.sz L = nI (s + 1))))) := by
  obtain ⟨s, hs, hsz⟩ := h.1 L hL
  refine mm_intro (by decide) (Nat.le_of_ble_eq_true rfl) i_Mo_addTo (fun X ok E => ?_)
  have c1 : (nI L).toNatClampNeg = L := nC rfl (by omega)
  have c2 : (nI s).toNatClampNeg = s := nC rfl (by omega)
  have e8 : m.sz (nI L).toNatClampNeg = nI s := by rw [c1]; exact hsz
  refine k_Mo_addTo_0 ok rW_58 rF_Mo_49 rW_79 (vin rfl (by omega) (by decide)) (fun z => ?_) (fun z => ?_)
  · rw [e8] at z
    have hs2 : s ≠ 150 := fun e => z (by rw [e]; rfl)
    refine k_Mo_addTo_18 ok E.nL rW_58 rF_Mo_49 rW_79 (vin rfl (by omega) (by decide)) rF_Mo_48 rW_78 (vin (nA (nM (nL 150) rfl) rfl) (by omega) (by decide)) (vin (nA (nM (nL 150) rfl) e8) (by omega) (by decide)) sA_78 ?_
    rw [e8]
    have e9 : 150 * nI L + nI s = nI (150 * L + s) := nA (nM (nL 150) rfl) rfl
    rw [e9]
    have eS : (150 * nI f + nI i).toNatClampNeg = 150 * f + i := nC (nA (nM (nL 150) rfl) rfl) (by omega)
    have eK : (nI (150 * L + s)).toNatClampNeg = 150 * L + s := nC rfl (by omega)
    rw [eS, eK]
    have loop : ∀ r v, v + r = 6 → gg X (W9 c ((m.u_gv (upd m.gv (150 * L + s) (m.gv (150 * f + i)))).u_va (cp6 m.va (150 * L + s) (150 * f + i) v)) o) 0 0 54 [(0, .ref 58), (1, .int (nI L)), (2, .int (nI f)), (3, .int (nI i)), (4, .int (nI (150 * L + s))), (5, .int (nI v))] [] := by
      intro r
      induction r with
      | zero =>
        intro v hv
        obtain rfl : v = 6 := hv
        refine k_Mo_addTo_54 ok (fun z => have z := (nLe (nL 6) rfl (by omega) (by omega) z); ?_) (fun z => have z := (nNle (nL 6) rfl (by omega) (by omega) z); ?_)
        · have e7 : m.sz (nI L).toNatClampNeg + 1 = nI (s + 1) := by
            rw [e8, nI_1]
          refine k_Mo_addTo_98 ok rW_58 rF_Mo_49 rW_79 (vin rfl (by omega) (by decide)) (vin rfl (by omega) (by decide)) sA_79 E ⟨_, ⟨rfl, ⟨by rfl, by rfl, by rfl, ?_, ?_⟩, Or.inr ⟨by rfl, s, by omega, ?_⟩⟩, rfl⟩ (Nat.le_refl _) (Nat.le_refl _)
          · rw [show ((m.u_gv (upd m.gv (150 * L + s) (m.gv (150 * f + i)))).u_va (cp6 m.va (150 * L + s) (150 * f + i) 6)).sz (nI L).toNatClampNeg + 1 = nI (s + 1) from e7]
            exact SI_up (m := (m.u_gv (upd m.gv (150 * L + s) (m.gv (150 * f + i)))).u_va (cp6 m.va (150 * L + s) (150 * f + i) 6)) ⟨h.1, gz_cp h.2 _ _ (by omega)⟩ (by omega)
          · intro j hj
            show upd m.sz (nI L).toNatClampNeg _ j = m.sz j
            rw [c1]
            exact if_neg hj
          · show upd m.sz (nI L).toNatClampNeg (m.sz (nI L).toNatClampNeg + 1) L = _
            rw [e7, c1]
            exact if_pos rfl
        · omega
      | succ r ih =>
        intro v hv
        refine k_Mo_addTo_54 ok (fun z => have z := (nLe (nL 6) rfl (by omega) (by omega) z); ?_) (fun z => have z := (nNle (nL 6) rfl (by omega) (by omega) z); ?_)
        · omega
        have e1 : (6 * (150 * nI f + nI i) + nI v).toNatClampNeg = 6 * (150 * f + i) + v := nC (nA (nM (nL 6) (nA (nM (nL 150) rfl) rfl)) rfl) (by omega)
        have e2 : (6 * nI (150 * L + s) + nI v).toNatClampNeg = 6 * (150 * L + s) + v := nC (nA (nM (nL 6) rfl) rfl) (by omega)
        refine k_Mo_addTo_61 ok E.nL rW_58 rF_Mo_47 rW_77 (vin (nA (nM (nL 6) (nA (nM (nL 150) rfl) rfl)) rfl) (by omega) (by decide)) (vin (nA (nM (nL 6) rfl) rfl) (by omega) (by decide)) sA_77 ?_
        rw [nI_1, e1, e2]
        exact ih (v + 1) (by omega)
    exact loop 6 0 (by omega)
  · refine k_Mo_addTo_12 ok rW_58 (Nat.le_refl 59) (sF_Mo_51 (v := true) rfl) (sO_Mo_51 rfl) E ⟨_, ⟨rfl, ⟨by rfl, by rfl, by rfl, by exact h, fun _ _ => by rfl⟩, Or.inl (by rfl)⟩, rfl⟩ (Nat.le_refl _) (Nat.le_refl _)
theorem mo_copy (h : SI m) (f L : Nat) (hL : L < 11) (hf : f < 11) (hne : f ≠ L) : mm_ l y_Mo_copy w_Mo_copy (rmh 2) [.ref 58, .int (nI f), .int (nI L)] (W9 c m o) (qM c o (fun r m' => r = none ∧ Sm L m m')) := by
  obtain ⟨s, hs, hsz⟩ := h.1 f hf
  refine mm_intro (by decide) (Nat.le_of_ble_eq_true rfl) i_Mo_copy (fun X ok E => ?_)
  have c1 : (nI L).toNatClampNeg = L := nC rfl (by omega)
  have c2 : (nI f).toNatClampNeg = f := nC rfl (by omega)
  refine k_Mo_copy_0 ok E.nL rW_58 rF_Mo_49 rW_79 (vin rfl (by omega) (by decide)) sA_79 ?_
  rw [c1]
  have h0 : Sm L m (m.u_sz (upd m.sz L 0)) := ⟨rfl, rfl, rfl, SI_up (s := 0) h (by omega), fun j hj => if_neg hj⟩
  have loop : ∀ r i m1, i + r = s → Sm L m m1 → gg X (W9 c m1 o) 0 0 9 [(0, .ref 58), (1, .int (nI f)), (2, .int (nI L)), (3, .int (nI i))] [] := by
    intro r
    induction r with
    | zero =>
      intro i m1 hi h1
      have e1 : m1.sz (nI f).toNatClampNeg = nI s := by rw [c2, h1.2.2.2.2 f hne]; exact hsz
      refine k_Mo_copy_9 ok rW_58 rF_Mo_49 rW_79 (vin rfl (by omega) (by decide)) (fun z => ?_) (fun z => ?_)
      · refine k_Mo_copy_32 ok E ⟨_, ⟨rfl, h1⟩, rfl⟩ (Nat.le_refl _) (Nat.le_refl _)
      · rw [e1] at z
        exact absurd (nI_le (by omega) (by omega)) z
    | succ r ih =>
      intro i m1 hi h1
      have e1 : m1.sz (nI f).toNatClampNeg = nI s := by rw [c2, h1.2.2.2.2 f hne]; exact hsz
      refine k_Mo_copy_9 ok rW_58 rF_Mo_49 rW_79 (vin rfl (by omega) (by decide)) (fun z => ?_) (fun z => ?_)
      · rw [e1] at z
        exact absurd z (nI_ge (by omega) (by omega))
      · refine k_Mo_copy_19 ok rW_58 (mo_addTo h1.2.2.2.1 L f i hL hf (by omega)) (gF_h E.nR (by decide) (by decide)) (fun _ _ q => qM_len q) ?_
        rintro r M' ⟨m2, ⟨rfl, q1, -⟩, rfl⟩
        refine k_Mo_copy_26 ok E.nL ?_
        rw [nI_1]
        exact ih (i + 1) m2 (by omega) (h1.trans q1)
  exact loop s 0 _ (by omega) h0
theorem mo_compatible (i k : Nat) (hi : i < 1650) (hk : k < 1650) : mm_ l y_Mo_compatible w_Mo_compatible (rmh 1) [.ref 58, .int (nI i), .int (nI k)] (W9 c m o) (qM c o (fun r m' => ∃ b, r = some (.int (bI b)) ∧ m' = m)) := by
  refine mm_intro (by decide) (Nat.le_of_ble_eq_true rfl) i_Mo_compatible (fun X ok E => ?_)
  refine k_Mo_compatible_0 ok E.nL ?_
  have loop : ∀ r v, v + r = 6 → gg X (W9 c m o) 0 0 2 [(0, .ref 58), (1, .int (nI i)), (2, .int (nI k)), (3, .int (nI v))] [] := by
    intro r
    induction r with
    | zero =>
      intro v hv
      refine k_Mo_compatible_2 ok (fun z => have z := (nLe (nL 6) rfl (by omega) (by omega) z); ?_) (fun z => have z := (nNle (nL 6) rfl (by omega) (by omega) z); ?_)
      · refine k_Mo_compatible_63 ok E ⟨_, ⟨true, rfl, rfl⟩, rfl⟩ (Nat.le_refl _) (Nat.le_refl _)
      · omega
    | succ r ih =>
      intro v hv
      have nx : gg X (W9 c m o) 0 0 57 [(0, .ref 58), (1, .int (nI i)), (2, .int (nI k)), (3, .int (nI v))] [] := by
        refine k_Mo_compatible_57 ok E.nL ?_
        rw [nI_1]
        exact ih (v + 1) (by omega)
      refine k_Mo_compatible_2 ok (fun z => have z := (nLe (nL 6) rfl (by omega) (by omega) z); ?_) (fun z => have z := (nNle (nL 6) rfl (by omega) (by omega) z); ?_)
      · omega
      refine k_Mo_compatible_8 ok rW_58 rF_Mo_48 rW_78 (vin rfl (by omega) (by decide)) (vin rfl (by omega) (by decide)) (fun z => ?_) (fun z => ?_)
      · exact nx
      · refine k_Mo_compatible_29 ok rW_58 rF_Mo_47 rW_77 (vin (nA (nM (nL 6) rfl) rfl) (by omega) (by decide)) (vin (nA (nM (nL 6) rfl) rfl) (by omega) (by decide)) (fun z => ?_) (fun z => ?_)
        · exact nx
        · refine k_Mo_compatible_55 ok E ⟨_, ⟨false, rfl, rfl⟩, rfl⟩ (Nat.le_refl _) (Nat.le_refl _)
  exact loop 6 0 rfl
theorem mo_join (h : SI m) (a i b k : Nat) (ha : a < 11) (hi : i < 150) (hb : b < 10) (hk : k < 150) (htm : m.tm = false) : mm_ l y_Mo_join w_Mo_join (rmh 2) [.ref 58, .int (nI a), .int (nI i), .int (nI b), .int (nI k)] (W9 c m o) (qM c o (fun r m' => r = none ∧ Sm 10 m m')) := by
  refine mm_intro (by decide) (Nat.le_of_ble_eq_true rfl) i_Mo_join (fun X ok E => ?_)
  refine k_Mo_join_0 ok rW_58 (mo_addTo h 10 a i (by decide) ha hi) (gF_h E.nR (by decide) (by decide)) (fun _ _ q => qM_len q) ?_
  rintro r M' ⟨m1, ⟨rfl, q1, q2⟩, rfl⟩
  refine k_Mo_join_8 ok rW_58 rF_Mo_51 (fun z => have z := bI_0 z; ?_) (fun z => have z := bI_1 z; ?_)
  · have q3 : ∃ s, s < 150 ∧ m1.sz 10 = nI (s + 1) := by
      rcases q2 with q2 | q2
      · rw [z] at q2
        cases q2
      · exact q2.2
    obtain ⟨s, hs, hsz⟩ := q3
    have e1 : (1500 + m1.sz (10 : Int32).toNatClampNeg - 1 : Int32) = nI (1500 + s) := by
      have e2 : (10 : Int32).toNatClampNeg = 10 := rfl
      rw [e2, hsz]
      exact nS (a := 1500 + (s + 1)) (nA (nL 1500) rfl) (nL 1) (by omega)
    have e3 : 150 * nI b + nI k = nI (150 * b + k) := nA (nM (nL 150) rfl) rfl
    refine k_Mo_join_16 ok E.nL rW_58 rF_Mo_49 rW_79 (vin (nL 10) (by omega) (by decide)) ?_
    rw [e1, e3]
    have loop : ∀ r v, v + r = 6 → gg X (W9 c (m1.u_va (jn6 m1.va (m1.gv (150 * b + k)) (1500 + s) (150 * b + k) v)) o) 0 0 44 [(0, .ref 58), (5, .int (nI (1500 + s))), (6, .int (nI (150 * b + k))), (7, .int (nI v))] [] := by
      have eO : (nI (150 * b + k)).toNatClampNeg = 150 * b + k := nC rfl (by omega)
      have eM : (nI (1500 + s)).toNatClampNeg = 1500 + s := nC rfl (by omega)
      intro r
      induction r with
      | zero =>
        intro v hv
        obtain rfl : v = 6 := hv
        refine k_Mo_join_44 ok (fun z => have z := (nLe (nL 6) rfl (by omega) (by omega) z); ?_) (fun z => have z := (nNle (nL 6) rfl (by omega) (by omega) z); ?_)
        · refine k_Mo_join_99 ok rW_58 rF_Mo_48 rW_78 (vin rfl (by omega) (by decide)) (vin rfl (by omega) (by decide)) (vin rfl (by omega) (by decide)) sA_78 E ⟨_, ⟨rfl, by rw [eO, eM]; exact ⟨q1.1, q1.2.1, q1.2.2.1, ⟨q1.2.2.2.1.1, gz_jn q1.2.2.2.1.2 _ _ (by omega) (by omega) (by omega)⟩, q1.2.2.2.2⟩⟩, rfl⟩ (Nat.le_refl _) (Nat.le_refl _)
        · omega
      | succ r ih =>
        intro v hv
        have nx : ∀ w, w = jn6 m1.va (m1.gv (150 * b + k)) (1500 + s) (150 * b + k) (v + 1) → gg X (W9 c (m1.u_va w) o) 0 0 93 [(0, .ref 58), (5, .int (nI (1500 + s))), (6, .int (nI (150 * b + k))), (7, .int (nI v))] [] := by
          rintro w rfl
          refine k_Mo_join_93 ok E.nL ?_
          rw [nI_1]
          exact ih (v + 1) (by omega)
        refine k_Mo_join_44 ok (fun z => have z := (nLe (nL 6) rfl (by omega) (by omega) z); ?_) (fun z => have z := (nNle (nL 6) rfl (by omega) (by omega) z); ?_)
        · omega
        have e5 : (6 * nI (150 * b + k) + nI v).toNatClampNeg = 6 * (150 * b + k) + v := nC (nA (nM (nL 6) rfl) rfl) (by omega)
        have e6 : (6 * nI (1500 + s) + nI v).toNatClampNeg = 6 * (1500 + s) + v := nC (nA (nM (nL 6) rfl) rfl) (by omega)
        refine k_Mo_join_51 ok rW_58 rF_Mo_48 rW_78 (vin rfl (by omega) (by decide)) (fun z => ?_) (fun z => ?_)
        · rw [eO] at z
          have z : ¬ bt (m1.gv (150 * b + k)) v = true := fun q => z ((bt_iff _ v (by omega)).mpr q)
          exact nx _ (if_neg z).symm
        · rw [eO] at z
          have z : bt (m1.gv (150 * b + k)) v = true := (bt_iff _ v (by omega)).mp z
          refine k_Mo_join_67 ok rW_58 rF_Mo_47 rW_77 (vin (nA (nM (nL 6) rfl) rfl) (by omega) (by decide)) (vin (nA (nM (nL 6) rfl) rfl) (by omega) (by decide)) sA_77 ?_
          rw [e5, e6]
          exact nx _ (if_pos z).symm
    exact loop 6 0 rfl
  · refine k_Mo_join_15 ok E ⟨_, ⟨rfl, q1⟩, rfl⟩ (Nat.le_refl _) (Nat.le_refl _)
theorem mo_combine (h : SI m) (ht2 : 2 ≤ m.tp) (ht : m.tp ≤ 10) (x : Int32) : mm_ l y_Mo_combine w_Mo_combine (rmh 3) [.ref 58, .int x] (W9 c m o) (qM c o (fun r m' => r = none ∧ m'.1 = m.1 ∧ m'.2.2 = m.2.2 ∧ SI m' ∧ m'.tp = m.tp - 1)) := by
  obtain ⟨s, hs, hsz⟩ := h.1 (m.tp - 2) (by omega)
  obtain ⟨t, ht9, htz⟩ := h.1 (m.tp - 1) (by omega)
  refine mm_intro (by decide) (Nat.le_of_ble_eq_true rfl) i_Mo_combine (fun X ok E => ?_)
  have ea : nI m.tp - 2 = nI (m.tp - 2) := nS rfl (nL 2) (by omega)
  have eb : nI m.tp - 1 = nI (m.tp - 1) := nS rfl (nL 1) (by omega)
  have c1 : (nI (m.tp - 2)).toNatClampNeg = m.tp - 2 := nC rfl (by omega)
  have c2 : (nI (m.tp - 1)).toNatClampNeg = m.tp - 1 := nC rfl (by omega)
  refine k_Mo_combine_0 ok E.nL rW_58 rF_Mo_50 rF_Mo_49 rW_79 (vin (nL 10) (by omega) (by decide)) sA_79 ?_
  rw [ea, eb]
  have h0 : Sm 10 m (m.u_sz (upd m.sz (10 : Int32).toNatClampNeg 0)) := ⟨rfl, rfl, rfl, SI_up (s := 0) (L := 10) h (by omega), fun j hj => if_neg hj⟩
  have sa : ∀ m1, Sm 10 m m1 → m1.sz (nI (m.tp - 2)).toNatClampNeg = nI s := fun m1 q => by rw [c1, q.2.2.2.2 _ (by omega)]; exact hsz
  have sb : ∀ m1, Sm 10 m m1 → m1.sz (nI (m.tp - 1)).toNatClampNeg = nI t := fun m1 q => by rw [c2, q.2.2.2.2 _ (by omega)]; exact htz
  have fin : ∀ m1, Sm 10 m m1 → gg X (W9 c m1 o) 0 0 185 [(0, .ref 58), (2, .int (nI (m.tp - 2)))] [] := by
    intro m1 q
    have etp : m1.tp = m.tp := q.2.2.1
    refine k_Mo_combine_185 ok rW_58 rF_Mo_50 (Nat.le_refl 59) (sF_Mo_50 (nS rfl (nL 1) (by omega))) (sO_Mo_50 rfl) rF_Mo_51 (fun z => ?_) (fun z => ?_)
    · refine k_Mo_combine_209 ok E ⟨_, ⟨rfl, by exact q.1, by exact q.2.1, by exact q.2.2.2.1, by show m1.tp - 1 = _; rw [etp]⟩, rfl⟩ (Nat.le_refl _) (Nat.le_refl _)
    · refine k_Mo_combine_202 ok rW_58 (mo_copy (by exact q.2.2.2.1) 10 (m.tp - 2) (by omega) (by decide) (by omega)) (gF_h E.nR (by decide) (by decide)) (fun _ _ q => qM_len q) ?_
      rintro r M' ⟨m2, ⟨rfl, w⟩, rfl⟩
      refine k_Mo_combine_209 ok E ⟨_, ⟨rfl, w.1.trans (by exact q.1), w.2.1.trans (by exact q.2.1), w.2.2.2.1, w.2.2.1.trans (by show m1.tp - 1 = _; rw [etp])⟩, rfl⟩ (Nat.le_refl _) (Nat.le_refl _)
  have L1 : ∀ r i m1, i + r = s → Sm 10 m m1 → gg X (W9 c m1 o) 0 0 25 [(0, .ref 58), (1, .int x), (2, .int (nI (m.tp - 2))), (3, .int (nI (m.tp - 1))), (4, .int (nI i))] [] := by
    intro r
    induction r with
    | zero =>
      intro i m1 hi q
      refine k_Mo_combine_25 ok rW_58 rF_Mo_49 rW_79 (vin rfl (by omega) (by decide)) (fun z => ?_) (fun z => ?_)
      · exact fin m1 q
      · rw [sa m1 q] at z
        exact absurd (nI_le (by omega) (by omega)) z
    | succ r ih =>
      intro i m1 hi q
      -- behind the inner loop
      have nx : ∀ m2, Sm 10 m m2 → gg X (W9 c m2 o) 0 0 179 [(0, .ref 58), (1, .int x), (2, .int (nI (m.tp - 2))), (3, .int (nI (m.tp - 1))), (4, .int (nI i))] [] := by
        intro m2 q2
        refine k_Mo_combine_179 ok E.nL ?_
        rw [nI_1]
        exact ih (i + 1) m2 (by omega) q2
      have ad : ∀ m2, Sm 10 m m2 → gg X (W9 c m2 o) 0 0 170 [(0, .ref 58), (1, .int x), (2, .int (nI (m.tp - 2))), (3, .int (nI (m.tp - 1))), (4, .int (nI i))] [] := by
        intro m2 q2
        refine k_Mo_combine_170 ok rW_58 (mo_addTo q2.2.2.2.1 10 (m.tp - 2) i (by decide) (by omega) (by omega)) (gF_h E.nR (by decide) (by decide)) (fun _ _ q => qM_len q) ?_
        rintro r M' ⟨m3, ⟨rfl, q3, -⟩, rfl⟩
        exact nx m3 (q2.trans q3)
      have aft : ∀ m2 y5 y6, Sm 10 m m2 → gg X (W9 c m2 o) 0 0 150 [(0, .ref 58), (1, .int x), (2, .int (nI (m.tp - 2))), (3, .int (nI (m.tp - 1))), (4, .int (nI i)), (5, .int y5), (6, .int y6)] [] := by
        intro m2 y5 y6 q2
        have k160 : gg X (W9 c m2 o) 0 0 160 [(0, .ref 58), (1, .int x), (2, .int (nI (m.tp - 2))), (3, .int (nI (m.tp - 1))), (4, .int (nI i)), (6, .int y6)] [] := by
          refine k_Mo_combine_160 ok (fun z => ?_) (fun z => ?_)
          · exact nx m2 q2
          · refine k_Mo_combine_165 ok (fun z => ?_) (fun z => ?_)
            · exact nx m2 q2
            · exact ad m2 q2
        refine k_Mo_combine_150 ok (fun z => ?_) (fun z => ?_)
        · exact k160
        · refine k_Mo_combine_155 ok (fun z => ?_) (fun z => ?_)
          · exact ad m2 q2
          · exact k160
      have L2 : ∀ r k m2 y5 y6, k + r = t → Sm 10 m m2 → gg X (W9 c m2 o) 0 0 52 [(0, .ref 58), (1, .int x), (2, .int (nI (m.tp - 2))), (3, .int (nI (m.tp - 1))), (4, .int (nI i)), (5, .int y5), (6, .int y6), (7, .int (nI k))] [] := by
        intro r
        induction r with
        | zero =>
          intro k m2 y5 y6 hk q2
          refine k_Mo_combine_52 ok rW_58 rF_Mo_49 rW_79 (vin rfl (by omega) (by decide)) (fun z => ?_) (fun z => ?_)
          · exact aft m2 y5 y6 q2
          · rw [sb m2 q2] at z
            exact absurd (nI_le (by omega) (by omega)) z
        | succ r ih2 =>
          intro k m2 y5 y6 hk q2
          have n2 : ∀ m3 y5 y6, Sm 10 m m3 → gg X (W9 c m3 o) 0 0 144 [(0, .ref 58), (1, .int x), (2, .int (nI (m.tp - 2))), (3, .int (nI (m.tp - 1))), (4, .int (nI i)), (5, .int y5), (6, .int y6), (7, .int (nI k))] [] := by
            intro m3 y5 y6 q3
            refine k_Mo_combine_144 ok E.nL ?_
            rw [nI_1]
            exact ih2 (k + 1) m3 y5 y6 (by omega) q3
          refine k_Mo_combine_52 ok rW_58 rF_Mo_49 rW_79 (vin rfl (by omega) (by decide)) (fun z => ?_) (fun z => ?_)
          · rw [sb m2 q2] at z
            exact absurd z (nI_ge (by omega) (by omega))
          refine k_Mo_combine_63 ok rW_58 rF_Mo_51 (fun z => have z := bI_1 z; ?_) (fun z => have z := bI_0 z; ?_)
          · exact aft m2 y5 y6 q2
          have htm : m2.tm = false := z
          have e1 : 150 * nI (m.tp - 2) + nI i = nI (150 * (m.tp - 2) + i) := nA (nM (nL 150) rfl) rfl
          have e2 : 150 * nI (m.tp - 1) + nI k = nI (150 * (m.tp - 1) + k) := nA (nM (nL 150) rfl) rfl
          refine k_Mo_combine_70 ok rW_58 (by rw [e1, e2]; exact mo_compatible _ _ (by omega) (by omega)) (gF_h E.nR (by decide) (by decide)) (fun _ _ q => qM_len q) ?_
          rintro r M' ⟨m2, ⟨b, rfl, rfl⟩, rfl⟩
          refine k_Mo_combine_90 ok (fun z => ?_) (fun z => ?_)
          · exact n2 m2 y5 y6 q2
          have k129 : ∀ y5 y6, gg X (W9 c m2 o) 0 0 129 [(0, .ref 58), (1, .int x), (2, .int (nI (m.tp - 2))), (3, .int (nI (m.tp - 1))), (4, .int (nI i)), (5, .int y5), (6, .int y6), (7, .int (nI k))] [] := by
            intro y5 y6
            refine k_Mo_combine_129 ok (fun z => ?_) (fun z => ?_)
            · exact n2 m2 y5 y6 q2
            · refine k_Mo_combine_134 ok rW_58 (mo_join q2.2.2.2.1 _ _ _ _ (by omega) (by omega) (by omega) (by omega) htm) (gF_h E.nR (by decide) (by decide)) (fun _ _ q => qM_len q) ?_
              rintro r M' ⟨m3, ⟨rfl, q3⟩, rfl⟩
              exact n2 m3 y5 y6 (q2.trans q3)
          refine k_Mo_combine_93 ok E.nL rW_58 rF_Mo_48 rW_78 (vin (nA (nM (nL 150) rfl) rfl) (by omega) (by decide)) (vin (nA (nM (nL 150) rfl) rfl) (by omega) (by decide)) (fun z => ?_) (fun z => ?_)
          · exact k129 _ _
          · refine k_Mo_combine_126 ok E.nL ?_
            exact k129 _ _
      refine k_Mo_combine_25 ok rW_58 rF_Mo_49 rW_79 (vin rfl (by omega) (by decide)) (fun z => ?_) (fun z => ?_)
      · rw [sa m1 q] at z
        exact absurd z (nI_ge (by omega) (by omega))
      refine k_Mo_combine_36 ok rW_58 rF_Mo_51 (fun z => ?_) (fun z => ?_)
      · exact fin m1 q
      refine k_Mo_combine_43 ok E.nL ?_
      exact L2 t 0 m1 0 0 (by omega) q
  exact L1 s 0 _ (by omega) h0
end RV
