/-! THE GROUPS AROUND: what the class still does when the group at hand has been read (no machine in it) -/
def elk (T : Tn3) (n r : Nat) (y : Bool × Vw) : Bool × Vw := bif y.1 then (bif wS T y.2 46 then pEl T (pGx T (3 - n)) r (wSt T y.2) else wTs T y.2 125) else (false, y.2)
def unk (T : Tn3) (n w u : Nat) (x : Bool × Vw) : Bool × Vw := if w = 3 then (bif x.1 then (bif wK T x.2 8461816677183520768 then pUn T (pGx T (3 - n)) u (wSt T x.2) else (true, x.2)) else (false, x.2)) else x
def ctx (T : Tn3) : List (Nat × Nat × Nat) → Bool × Vw → Bool × Vw
  | [], x => x
  | f :: st, x => ctx T st (elk T st.length f.2.2 (unk T st.length f.1 f.2.1 x))
theorem elk_f (T : Tn3) (n r : Nat) (s : Vw) : elk T n r (false, s) = (false, s) := rfl
theorem unk_f (T : Tn3) (n w u : Nat) (s : Vw) : unk T n w u (false, s) = (false, s) := by
  unfold unk
  split <;> rfl
theorem ctx_f (T : Tn3) (s : Vw) : ∀ st, ctx T st (false, s) = (false, s)
  | [] => rfl
  | f :: st => by
    show ctx T st (elk T st.length f.2.2 (unk T st.length f.1 f.2.1 (false, s))) = _
    rw [unk_f, elk_f]
    exact ctx_f T s st
theorem pGx_t (T : Tn3) (n : Nat) (s : Vw) (h : wS T s 123 = true) (hn : n < 3) : pGx T (3 - n) s = pG1 T (pGx T (3 - (n + 1))) (wSt T (wG s)) := by
  obtain ⟨j, hj⟩ : ∃ j, 3 - n = j + 1 := ⟨3 - n - 1, by omega⟩
  rw [hj, show 3 - (n + 1) = j by omega]
  show (bif wS T s 123 then _ else _) = _
  rw [h]
  rfl
theorem pGx_f (T : Tn3) (n : Nat) (s : Vw) (h : wS T s 123 = true → ¬ n < 3) : pGx T (3 - n) s = (false, s) := by
  by_cases hn : n < 3
  · obtain ⟨j, hj⟩ : ∃ j, 3 - n = j + 1 := ⟨3 - n - 1, by omega⟩
    rw [hj]
    show (bif wS T s 123 then _ else _) = _
    cases e : wS T s 123 with
    | true => exact absurd hn (h e)
    | false => rfl
  · rw [show 3 - n = 0 by omega]
    rfl
theorem pUn_s (T : Tn3) (n u : Nat) (s : Vw) : pUn T (pGx T (3 - n)) (u + 1) s = unk T n 3 u (pGx T (3 - n) s) := by
  unfold unk
  rw [if_pos rfl]
  rfl
theorem pEl_s (T : Tn3) (n r : Nat) (s : Vw) : pEl T (pGx T (3 - n)) (r + 1) s = elk T n r (pE T (pGx T (3 - n)) s) := rfl
theorem unk_n (T : Tn3) (n w u : Nat) (x : Bool × Vw) (h : ¬ w = 3) : unk T n w u x = x := if_neg h
/-- kinds and counts of the groups that stand around -/
def FI (m : MS) : List (Nat × Nat × Nat) → Prop
  | [] => True
  | f :: st => m.gk (st.length + 1) = nI f.1 ∧ (f.1 = 1 ∨ f.1 = 2 ∨ f.1 = 3) ∧ (f.1 = 3 → f.2.1 ≤ 12 ∧ m.bs (st.length + 1) = nI (12 - f.2.1)) ∧ FI m st
theorem FI_congr {m m' : MS} : ∀ (st : List (Nat × Nat × Nat)) (d : Nat), st.length < d → (∀ i, i < d → m'.bs i = m.bs i ∧ m'.gk i = m.gk i) → FI m st → FI m' st
  | [], _, _, _, _ => trivial
  | f :: st, d, hd, h, ⟨q1, q2, q3, q4⟩ => by
    have hd2 : st.length + 1 < d := hd
    obtain ⟨h1, h2⟩ := h (st.length + 1) hd2
    exact ⟨h2.trans q1, q2, fun e => ⟨(q3 e).1, h1.trans (q3 e).2⟩, FI_congr st d (by omega) h q4⟩
/-- in the middle of the groups -/
def GA (T : Tn3) (P : Nat → Int32) (k : Nat) (F : Bool × Vw) (m : MS) : Prop := ∃ (st : List (Nat × Nat × Nat)) (s : Vw), m.dp = st.length + 1 ∧ FI m st ∧ (∀ f, f ∈ st → 12 ≤ f.2.2 + s.2.2.2.1) ∧ Rg T P k m s ∧ ((m.ss = true ∧ F = ctx T st (pG1 T (pGx T (3 - st.length)) s)) ∨ (m.ss = false ∧ ∃ r, 12 ≤ r + s.2.2.2.1 ∧ F = ctx T st (elk T st.length r (true, s))))
/-- behind the last of them -/
def GZ (T : Tn3) (P : Nat → Int32) (k : Nat) (F : Bool × Vw) (m : MS) : Prop := m.dp = 0 ∧ ∃ s, Rg T P k m s ∧ F = (true, s)
/-- at a fault -/
def GF (P : Nat → Int32) (F : Bool × Vw) (m : MS) : Prop := ¬ m.wr < 0 ∧ F.1 = false ∧ m.wr = P F.2.1
theorem GF_mk {P : Nat → Int32} {F : Bool × Vw} {m : MS} {s : Vw} (h1 : ¬ m.wr < 0) (h2 : m.wr = P s.1) (e : F = (false, s)) : GF P F m := by
  rw [e]
  exact ⟨h1, rfl, h2⟩
