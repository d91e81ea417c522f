/-! TERMS: contracts of the class's and of the reference's -/
def bI (b : Bool) : Int32 := if b = true then 1 else 0
theorem bI_nar (b : Bool) : narrow .boolean (.int (bI b)) = .int (bI b) := by cases b <;> rfl
theorem bI_0 {b : Bool} (h : bI b = 0) : b = false := by cases b <;> first | rfl | exact absurd h (by decide)
theorem bI_1 {b : Bool} (h : ¬ bI b = 0) : b = true := by cases b <;> first | rfl | exact absurd rfl h
def tL (x : Int32) : Bool := if x < 97 then false else if 122 < x then false else true
def tN (x : Int64) : Bool := if 0 ≤ x then false else if x < (-10000) then false else true
def tH (x : Int64) : Bool := if x ≤ 0 then false else if 10000 < x then false else true
def u8 (x : Int64) : Int64 := ((x).toUInt64 >>> ((8 : Int32).toInt64.toUInt64 &&& Int64.toUInt64 63)).toInt64
def u56 (x : Int64) : Int64 := ((x).toUInt64 >>> ((56 : Int32).toInt64.toUInt64 &&& Int64.toUInt64 63)).toInt64
def s8 (x : Int64) : Int64 := x <<< ((8 : Int32).toInt64 &&& 63)
def tR : Nat → Int64 → Nat → Int64 × Nat
  | 0, x, j => (x, j)
  | r + 1, x, j => if tL (((x &&& 255) : Int64).toInt32) = true then tR r (u8 x) (j + 1) else (x, j)
def tW (x : Int64) : Bool := if (tR 8 x 0).2 = 0 then false else if (tR 8 x 0).1 = 0 then true else false
def tT (s p o : Int64) : Bool := if tW s = false then false else if tW p = false then false else if tW o = true then true else tN o
def hR : Nat → Int64 → Int64
  | 0, x => x
  | r + 1, x => if u56 x = 0 then hR r (s8 x) else x
def hD (x : Int64) : Int64 := if 0 ≤ x then hR 7 x else -x
def sR : Nat → Int64 → Int64
  | 0, x => x
  | r + 1, x => if (x &&& 255) = 0 then sR r (u8 x) else x
def sH (x : Int64) : Int64 := if tH x = true then -x else sR 7 x
section TE
variable {l : Launch} {M : List mC}
theorem m_Te_isLetter (x : Int32) : mm_ l y_Te_isLetter w_Te_isLetter (rmh 1) [.int x] M (fun r M' => r = some (.int (bI (tL x))) ∧ M' = M) := by
  refine mm_intro (by decide) (Nat.le_of_ble_eq_true rfl) i_Te_isLetter (fun X ok E => ?_)
  have no : tL x = false → gg X M 0 0 16 [] [] := fun h => k_Te_isLetter_16 ok (k_Te_isLetter_17 ok E rfl ⟨by rw [h]; rfl, rfl⟩ (Nat.le_refl _) (Nat.le_refl _))
  refine k_Te_isLetter_0 ok (fun z => no (by rw [tL, if_pos z])) (fun z1 => ?_)
  refine k_Te_isLetter_6 ok (fun z => no (by rw [tL, if_neg z1, if_pos z])) (fun z2 => ?_)
  exact k_Te_isLetter_12 ok (k_Te_isLetter_17 ok E rfl ⟨by rw [tL, if_neg z1, if_neg z2]; rfl, rfl⟩ (Nat.le_refl _) (Nat.le_refl _))
theorem m_Te_isNumber (x : Int64) : mm_ l y_Te_isNumber w_Te_isNumber (rmh 1) [.long x] M (fun r M' => r = some (.int (bI (tN x))) ∧ M' = M) := by
  refine mm_intro (by decide) (Nat.le_of_ble_eq_true rfl) i_Te_isNumber (fun X ok E => ?_)
  have no : tN x = false → gg X M 0 0 18 [] [] := fun h => k_Te_isNumber_18 ok (k_Te_isNumber_19 ok E rfl ⟨by rw [h]; rfl, rfl⟩ (Nat.le_refl _) (Nat.le_refl _))
  refine k_Te_isNumber_0 ok (fun z => no (by rw [tN, if_pos z])) (fun z1 => ?_)
  refine k_Te_isNumber_6 ok (fun z => no (by rw [tN, if_neg z1, if_pos z])) (fun z2 => ?_)
  exact k_Te_isNumber_14 ok (k_Te_isNumber_19 ok E rfl ⟨by rw [tN, if_neg z1, if_neg z2]; rfl, rfl⟩ (Nat.le_refl _) (Nat.le_refl _))
theorem m_Te_isHeldNumber (x : Int64) : mm_ l y_Te_isHeldNumber w_Te_isHeldNumber (rmh 1) [.long x] M (fun r M' => r = some (.int (bI (tH x))) ∧ M' = M) := by
  refine mm_intro (by decide) (Nat.le_of_ble_eq_true rfl) i_Te_isHeldNumber (fun X ok E => ?_)
  have no : tH x = false → gg X M 0 0 18 [] [] := fun h => k_Te_isHeldNumber_18 ok (k_Te_isHeldNumber_19 ok E rfl ⟨by rw [h]; rfl, rfl⟩ (Nat.le_refl _) (Nat.le_refl _))
  refine k_Te_isHeldNumber_0 ok (fun z => no (by rw [tH, if_pos z])) (fun z1 => ?_)
  refine k_Te_isHeldNumber_6 ok (fun z => no (by rw [tH, if_neg z1, if_pos z])) (fun z2 => ?_)
  exact k_Te_isHeldNumber_14 ok (k_Te_isHeldNumber_19 ok E rfl ⟨by rw [tH, if_neg z1, if_neg z2]; rfl, rfl⟩ (Nat.le_refl _) (Nat.le_refl _))
theorem m_Te_isWord (x0 : Int64) : mm_ l y_Te_isWord w_Te_isWord (rmh 2) [.long x0] M (fun r M' => r = some (.int (bI (tW x0))) ∧ M' = M) := by
  refine mm_intro (by decide) (Nat.le_of_ble_eq_true rfl) i_Te_isWord (fun X ok E => ?_)
  refine k_Te_isWord_0 ok E.nL ?_
  have fin : ∀ x j, j ≤ 8 → (x, j) = tR 8 x0 0 → gg X M 0 0 35 [(2, .long x), (4, .int (nI j))] [] := by
    intro x j hj hr
    have no : tW x0 = false → gg X M 0 0 50 [] [] := fun h => k_Te_isWord_50 ok (k_Te_isWord_51 ok E rfl ⟨by rw [h]; rfl, rfl⟩ (Nat.le_refl _) (Nat.le_refl _))
    refine k_Te_isWord_35 ok (fun z => no ?_) (fun z1 => ?_)
    · have h0 : j = 0 := Nat.le_zero.mp ((nI_leI (a := j) (b := 0) (by omega) (by omega)).mp z)
      rw [tW, ← hr]
      exact if_pos h0
    · have h0 : ¬ j = 0 := fun h => z1 (by subst h; decide)
      refine k_Te_isWord_40 ok (fun z => no ?_) (fun z2 => ?_)
      · rw [tW, ← hr]
        exact (if_neg h0).trans (if_neg z)
      · refine k_Te_isWord_46 ok (k_Te_isWord_51 ok E rfl ⟨?_, rfl⟩ (Nat.le_refl _) (Nat.le_refl _))
        rw [tW, ← hr, if_neg h0, if_pos z2]
        rfl
  have loop : ∀ r x j, j + r = 8 → tR r x j = tR 8 x0 0 → gg X M 0 0 5 [(2, .long x), (4, .int (nI j))] [] := by
    intro r
    induction r with
    | zero =>
      intro x j hj hr
      exact k_Te_isWord_5 ok (fun _ => fin x j (by omega) hr) (fun z => absurd (nI_le (a := 8) (b := j) (by omega) (by omega)) z)
    | succ r ih =>
      intro x j hj hr
      refine k_Te_isWord_5 ok (fun z => absurd z (nI_ge (a := j) (b := 8) (by omega) (by omega))) (fun _ => ?_)
      refine k_Te_isWord_12 ok (m_Te_isLetter _) (gF_h E.nR (by decide) (by decide)) (fun r M' q => by rw [q.2]) ?_
      rintro r' M' ⟨rfl, rfl⟩
      refine k_Te_isWord_21 ok (fun z => fin x j (by omega) ?_) (fun z => ?_)
      · rw [← hr, tR, if_neg (by rw [bI_0 z]; decide)]
      · refine k_Te_isWord_24 ok E.nL ?_
        rw [nI_1]
        exact ih (u8 x) (j + 1) (by omega) (by rw [← hr, tR, if_pos (bI_1 z)])
  exact loop 8 x0 0 rfl rfl
theorem m_Te_isTriple (s p o : Int64) : mm_ l y_Te_isTriple w_Te_isTriple (rmh 3) [.long s, .long p, .long o] M (fun r M' => r = some (.int (bI (tT s p o))) ∧ M' = M) := by
  refine mm_intro (by decide) (Nat.le_of_ble_eq_true rfl) i_Te_isTriple (fun X ok E => ?_)
  have no : tT s p o = false → gg X M 0 0 34 [] [] := fun h => k_Te_isTriple_34 ok (k_Te_isTriple_35 ok E rfl ⟨by rw [h]; rfl, rfl⟩ (Nat.le_refl _) (Nat.le_refl _))
  have yes : tT s p o = true → gg X M 0 0 30 [] [] := fun h => k_Te_isTriple_30 ok (k_Te_isTriple_35 ok E rfl ⟨by rw [h]; rfl, rfl⟩ (Nat.le_refl _) (Nat.le_refl _))
  refine k_Te_isTriple_0 ok (m_Te_isWord s) (gF_h E.nR (by decide) (by decide)) (fun r M' q => by rw [q.2]) ?_
  rintro r' M' ⟨rfl, rfl⟩
  refine k_Te_isTriple_4 ok (fun z => no (by rw [tT, if_pos (bI_0 z)])) (fun z1 => ?_)
  have e1 : ¬ tW s = false := by rw [bI_1 z1]; decide
  refine k_Te_isTriple_7 ok (m_Te_isWord p) (gF_h E.nR (by decide) (by decide)) (fun r M' q => by rw [q.2]) ?_
  rintro r' M' ⟨rfl, rfl⟩
  refine k_Te_isTriple_11 ok (fun z => no (by rw [tT, if_neg e1, if_pos (bI_0 z)])) (fun z2 => ?_)
  have e2 : ¬ tW p = false := by rw [bI_1 z2]; decide
  refine k_Te_isTriple_14 ok (m_Te_isWord o) (gF_h E.nR (by decide) (by decide)) (fun r M' q => by rw [q.2]) ?_
  rintro r' M' ⟨rfl, rfl⟩
  refine k_Te_isTriple_19 ok (fun z => yes (by rw [tT, if_neg e1, if_neg e2, if_pos (bI_1 z)])) (fun z3 => ?_)
  have e3 : ¬ tW o = true := by rw [bI_0 z3]; decide
  refine k_Te_isTriple_22 ok (m_Te_isNumber o) (gF_h E.nR (by decide) (by decide)) (fun r M' q => by rw [q.2]) ?_
  rintro r' M' ⟨rfl, rfl⟩
  refine k_Te_isTriple_27 ok (fun z => no ?_) (fun z => yes ?_)
  · rw [tT, if_neg e1, if_neg e2, if_neg e3]; exact bI_0 z
  · rw [tT, if_neg e1, if_neg e2, if_neg e3]; exact bI_1 z
theorem m_Te_held (x0 : Int64) : mm_ l y_Te_held w_Te_held (rmh 1) [.long x0] M (fun r M' => r = some (.long (hD x0)) ∧ M' = M) := by
  refine mm_intro (by decide) (Nat.le_of_ble_eq_true rfl) i_Te_held (fun X ok E => ?_)
  refine k_Te_held_0 ok (fun z => ?_) (fun z => k_Te_held_6 ok E ⟨by rw [hD, if_neg z], rfl⟩ (Nat.le_refl _) (Nat.le_refl _))
  refine k_Te_held_9 ok E.nL ?_
  have fin : ∀ x, x = hR 7 x0 → gg X M 0 0 41 [(2, .long x)] [] := fun x hr => k_Te_held_41 ok E ⟨by rw [hD, if_pos z, hr], rfl⟩ (Nat.le_refl _) (Nat.le_refl _)
  have loop : ∀ r x j, j + r = 8 → hR r x = hR 7 x0 → gg X M 0 0 14 [(2, .long x), (4, .int (nI j))] [] := by
    intro r
    induction r with
    | zero =>
      intro x j hj hr
      exact k_Te_held_14 ok (fun _ => fin x hr) (fun z => absurd (nI_le (a := 8) (b := j) (by omega) (by omega)) z)
    | succ r ih =>
      intro x j hj hr
      refine k_Te_held_14 ok (fun z => absurd z (nI_ge (a := j) (b := 8) (by omega) (by omega))) (fun _ => ?_)
      refine k_Te_held_21 ok (fun z => fin x ?_) (fun z => ?_)
      · rw [← hr, hR]; exact (if_neg z).symm
      · refine k_Te_held_30 ok E.nL ?_
        rw [nI_1]
        exact ih (s8 x) (j + 1) (by omega) (by rw [← hr, hR]; exact (if_pos z).symm)
  exact loop 7 x0 1 rfl rfl
theorem m_Te_shown (x0 : Int64) : mm_ l y_Te_shown w_Te_shown (rmh 2) [.long x0] M (fun r M' => r = some (.long (sH x0)) ∧ M' = M) := by
  refine mm_intro (by decide) (Nat.le_of_ble_eq_true rfl) i_Te_shown (fun X ok E => ?_)
  refine k_Te_shown_0 ok (m_Te_isHeldNumber x0) (gF_h E.nR (by decide) (by decide)) (fun r M' q => by rw [q.2]) ?_
  rintro r' M' ⟨rfl, rfl⟩
  refine k_Te_shown_4 ok (fun z => ?_) (fun z => k_Te_shown_7 ok E ⟨by rw [sH, if_pos (bI_1 z)], rfl⟩ (Nat.le_refl _) (Nat.le_refl _))
  have hz : ¬ tH x0 = true := by rw [bI_0 z]; decide
  refine k_Te_shown_10 ok E.nL ?_
  have fin : ∀ x, x = sR 7 x0 → gg X M' 0 0 43 [(2, .long x)] [] := fun x hr => k_Te_shown_43 ok E ⟨by rw [sH, if_neg hz, hr], rfl⟩ (Nat.le_refl _) (Nat.le_refl _)
  have loop : ∀ r x j, j + r = 8 → sR r x = sR 7 x0 → gg X M' 0 0 15 [(2, .long x), (4, .int (nI j))] [] := by
    intro r
    induction r with
    | zero =>
      intro x j hj hr
      exact k_Te_shown_15 ok (fun _ => fin x hr) (fun z => absurd (nI_le (a := 8) (b := j) (by omega) (by omega)) z)
    | succ r ih =>
      intro x j hj hr
      refine k_Te_shown_15 ok (fun z => absurd z (nI_ge (a := j) (b := 8) (by omega) (by omega))) (fun _ => ?_)
      refine k_Te_shown_22 ok (fun z => fin x ?_) (fun z => ?_)
      · rw [← hr, sR]; exact (if_neg z).symm
      · refine k_Te_shown_32 ok E.nL ?_
        rw [nI_1]
        exact ih (u8 x) (j + 1) (by omega) (by rw [← hr, sR]; exact (if_pos z).symm)
  exact loop 7 x0 1 rfl rfl
end TE
/-! THE REFERENCE'S TERMS -/
def rI (a b c : Int32) : Bool := if a < b then false else if c < a then false else true
def rC (w : Int64) (i : Nat) : Int32 := (((w >>> (((8 * nI i) : Int32).toInt64 &&& 63)) : Int64).toInt32) &&& 255
def rR : Nat → Int64 → Bool → Nat → Bool
  | 0, _, _, _ => true
  | r + 1, w, ov, i => if rC w i = 0 then (if i = 0 then false else rR r w true (i + 1)) else if ov = true then false else if rI (rC w i) 97 122 = true then rR r w ov (i + 1) else false
def rW (w : Int64) : Bool := if 0 < w then rR 8 w false 0 else false
def rN (x : Int64) : Bool := if (-1) < x then false else if x < (-10000) then false else true
def rT (s p o : Int64) : Bool := if rW s = false then false else if rW p = false then false else if rW o = true then true else rN o
section TM
variable {l : Launch} {M : List mC}
theorem m_Mo_in (a b c : Int32) : mm_ l y_Mo_in w_Mo_in (rmh 1) [.int a, .int b, .int c] M (fun r M' => r = some (.int (bI (rI a b c))) ∧ M' = M) := by
  refine mm_intro (by decide) (Nat.le_of_ble_eq_true rfl) i_Mo_in (fun X ok E => ?_)
  have no : rI a b c = false → gg X M 0 0 14 [] [] := fun h => k_Mo_in_14 ok (k_Mo_in_15 ok E rfl ⟨by rw [h]; rfl, rfl⟩ (Nat.le_refl _) (Nat.le_refl _))
  refine k_Mo_in_0 ok (fun z => no (by rw [rI, if_pos z])) (fun z1 => ?_)
  refine k_Mo_in_5 ok (fun z => no (by rw [rI, if_neg z1, if_pos z])) (fun z2 => ?_)
  exact k_Mo_in_10 ok (k_Mo_in_15 ok E rfl ⟨by rw [rI, if_neg z1, if_neg z2]; rfl, rfl⟩ (Nat.le_refl _) (Nat.le_refl _))
theorem m_Mo_isNumber (x : Int64) : mm_ l y_Mo_isNumber w_Mo_isNumber (rmh 1) [.long x] M (fun r M' => r = some (.int (bI (rN x))) ∧ M' = M) := by
  refine mm_intro (by decide) (Nat.le_of_ble_eq_true rfl) i_Mo_isNumber (fun X ok E => ?_)
  have no : rN x = false → gg X M 0 0 20 [] [] := fun h => k_Mo_isNumber_20 ok (k_Mo_isNumber_21 ok E rfl ⟨by rw [h]; rfl, rfl⟩ (Nat.le_refl _) (Nat.le_refl _))
  refine k_Mo_isNumber_0 ok (fun z => no (by rw [rN, if_pos z])) (fun z1 => ?_)
  refine k_Mo_isNumber_8 ok (fun z => no (by rw [rN, if_neg z1, if_pos z])) (fun z2 => ?_)
  exact k_Mo_isNumber_16 ok (k_Mo_isNumber_21 ok E rfl ⟨by rw [rN, if_neg z1, if_neg z2]; rfl, rfl⟩ (Nat.le_refl _) (Nat.le_refl _))
theorem m_Mo_isWord (w : Int64) : mm_ l y_Mo_isWord w_Mo_isWord (rmh 2) [.long w] M (fun r M' => r = some (.int (bI (rW w))) ∧ M' = M) := by
  refine mm_intro (by decide) (Nat.le_of_ble_eq_true rfl) i_Mo_isWord (fun X ok E => ?_)
  refine k_Mo_isWord_0 ok (fun z0 => ?_) (fun z => k_Mo_isWord_6 ok E ⟨by rw [rW, if_neg z]; rfl, rfl⟩ (Nat.le_refl _) (Nat.le_refl _))
  refine k_Mo_isWord_8 ok E.nL ?_
  have loop : ∀ r ov i, i + r = 8 → rR r w ov i = rR 8 w false 0 → gg X M 0 0 12 [(0, .long w), (2, .int (bI ov)), (3, .int (nI i))] [] := by
    intro r
    induction r with
    | zero =>
      intro ov i hi hr
      refine k_Mo_isWord_12 ok (fun _ => ?_) (fun z => absurd (nI_le (a := 8) (b := i) (by omega) (by omega)) z)
      exact k_Mo_isWord_74 ok E ⟨by rw [rW, if_pos z0, ← hr]; rfl, rfl⟩ (Nat.le_refl _) (Nat.le_refl _)
    | succ r ih =>
      intro ov i hi hr
      have no : rR (r + 1) w ov i = false → gg X M 0 0 59 [] [] := fun h => k_Mo_isWord_59 ok E ⟨by rw [rW, if_pos z0, ← hr, h]; rfl, rfl⟩ (Nat.le_refl _) (Nat.le_refl _)
      refine k_Mo_isWord_12 ok (fun z => absurd z (nI_ge (a := i) (b := 8) (by omega) (by omega))) (fun _ => ?_)
      refine k_Mo_isWord_18 ok E.nL (fun z => ?_) (fun z => ?_)
      · have hc : ¬ rC w i = 0 := z
        refine k_Mo_isWord_43 (x4 := rC w i) ok (fun q => no (by rw [rR, if_neg hc, if_pos (bI_1 q)])) (fun q => ?_)
        have ho : ¬ ov = true := by rw [bI_0 q]; decide
        refine k_Mo_isWord_47 ok (m_Mo_in _ _ _) (gF_h E.nR (by decide) (by decide)) (fun r M' q => by rw [q.2]) ?_
        rintro r' M' ⟨rfl, rfl⟩
        refine k_Mo_isWord_56 ok (fun q2 => ?_) (fun q2 => no (by rw [rR, if_neg hc, if_neg ho, if_neg (by rw [bI_0 q2]; decide)]))
        refine k_Mo_isWord_61 ok (fun _ => ?_) (fun q => absurd q hc)
        refine k_Mo_isWord_68 ok E.nL ?_
        rw [nI_1]
        exact ih ov (i + 1) (by omega) (by rw [← hr, rR, if_neg hc, if_neg ho, if_pos (bI_1 q2)])
      · have hc : rC w i = 0 := z
        refine k_Mo_isWord_36 (x4 := rC w i) ok (fun q => ?_) (fun q => ?_)
        · have hi0 : ¬ i = 0 := fun h => q (by rw [h]; rfl)
          refine k_Mo_isWord_61 ok (fun q => absurd hc q) (fun _ => ?_)
          refine k_Mo_isWord_66 ok E.nL ?_
          refine k_Mo_isWord_68 ok E.nL ?_
          rw [nI_1]
          exact ih true (i + 1) (by omega) (by rw [← hr, rR, if_pos hc, if_neg hi0])
        · have hi0 : i = 0 := (nI_eq (a := i) (b := 0) (by omega) (by omega)).mp q
          exact k_Mo_isWord_40 ok (no (by rw [rR, if_pos hc, if_pos hi0]))
  exact loop 8 false 0 rfl rfl
variable {m : Nat} {fs : List Value}
theorem m_Mo_thrown {c : Int32} (he : M[m]? = some (.inr (10, fs))) (hc : fs[58]? = some (.int c)) : mm_ l y_Mo_thrown w_Mo_thrown (rmh 1) [.ref m] M (fun r M' => r = some (.int c) ∧ M' = M) := by
  refine mm_intro (by decide) (Nat.le_of_ble_eq_true rfl) i_Mo_thrown (fun X ok E => ?_)
  exact k_Mo_thrown_0 ok he hc E ⟨rfl, rfl⟩ (Nat.le_refl _) (Nat.le_refl _)
/-- the world behind good(b, c) -/
def gdM (M : List mC) (m : Nat) (fs : List Value) (b : Bool) (c : Int32) : List mC := M.set m (.inr (10, fs.set 58 (.int (if b = true then 0 else c))))
theorem m_Mo_good (he : M[m]? = some (.inr (10, fs))) (hl : 59 ≤ fs.length) (b : Bool) (c : Int32) : mm_ l y_Mo_good w_Mo_good (rmh 1) [.ref m, .int (bI b), .int c] M (fun r M' => r = some (.int (bI b)) ∧ M' = gdM M m fs b c) := by
  refine mm_intro (by decide) (Nat.le_of_ble_eq_true rfl) i_Mo_good (fun X ok E => ?_)
  refine k_Mo_good_0 ok (fun z => ?_) (fun z => ?_)
  · refine k_Mo_good_9 ok ?_
    exact k_Mo_good_10 ok he hl rfl rfl E (bI_nar b) ⟨rfl, by rw [gdM, if_neg (by rw [bI_0 z]; decide)]⟩ (Nat.le_refl _) (Nat.le_refl _)
  · refine k_Mo_good_5 ok ?_
    exact k_Mo_good_10 ok he hl rfl rfl E (bI_nar b) ⟨rfl, by rw [gdM, if_pos (bI_1 z)]⟩ (Nat.le_refl _) (Nat.le_refl _)
theorem gdM_len {b : Bool} {c : Int32} : (gdM M m fs b c).length = M.length := List.length_set
theorem m_Mo_isTriple (he : M[m]? = some (.inr (10, fs))) (hl : 59 ≤ fs.length) (s p o : Int64) : mm_ l y_Mo_isTriple w_Mo_isTriple (rmh 3) [.ref m, .long s, .long p, .long o] M (fun r M' => r = some (.int (bI (rT s p o))) ∧ M' = gdM M m fs (rT s p o) 1) := by
  refine mm_intro (by decide) (Nat.le_of_ble_eq_true rfl) i_Mo_isTriple (fun X ok E => ?_)
  have fin : ∀ b, b = rT s p o → gg X M 0 0 36 [(0, .ref m)] [.int (bI b), .ref m] := by
    rintro b rfl
    refine k_Mo_isTriple_36 ok he (m_Mo_good he hl _ 1) (gF_h E.nR (by decide) (by decide)) (fun r M' q => by rw [q.2, gdM_len]) ?_
    rintro r' M' ⟨rfl, rfl⟩
    exact k_Mo_isTriple_40 ok E (bI_nar _) ⟨rfl, rfl⟩ (Nat.le_refl _) (Nat.le_refl _)
  have no : rT s p o = false → gg X M 0 0 35 [(0, .ref m)] [.ref m] := fun h => k_Mo_isTriple_35 ok (fin false h.symm)
  have yes : rT s p o = true → gg X M 0 0 31 [(0, .ref m)] [.ref m] := fun h => k_Mo_isTriple_31 ok (fin true h.symm)
  refine k_Mo_isTriple_0 ok (m_Mo_isWord s) (gF_h E.nR (by decide) (by decide)) (fun r M' q => by rw [q.2]) ?_
  rintro r' M' ⟨rfl, rfl⟩
  refine k_Mo_isTriple_5 ok (fun z => no (by rw [rT, if_pos (bI_0 z)])) (fun z1 => ?_)
  have e1 : ¬ rW s = false := by rw [bI_1 z1]; decide
  refine k_Mo_isTriple_8 ok (m_Mo_isWord p) (gF_h E.nR (by decide) (by decide)) (fun r M' q => by rw [q.2]) ?_
  rintro r' M' ⟨rfl, rfl⟩
  refine k_Mo_isTriple_12 ok (fun z => no (by rw [rT, if_neg e1, if_pos (bI_0 z)])) (fun z2 => ?_)
  have e2 : ¬ rW p = false := by rw [bI_1 z2]; decide
  refine k_Mo_isTriple_15 ok (m_Mo_isWord o) (gF_h E.nR (by decide) (by decide)) (fun r M' q => by rw [q.2]) ?_
  rintro r' M' ⟨rfl, rfl⟩
  refine k_Mo_isTriple_20 ok (fun z => yes (by rw [rT, if_neg e1, if_neg e2, if_pos (bI_1 z)])) (fun z3 => ?_)
  have e3 : ¬ rW o = true := by rw [bI_0 z3]; decide
  refine k_Mo_isTriple_23 ok (m_Mo_isNumber o) (gF_h E.nR (by decide) (by decide)) (fun r M' q => by rw [q.2]) ?_
  rintro r' M' ⟨rfl, rfl⟩
  refine k_Mo_isTriple_28 ok (fun z => no ?_) (fun z => yes ?_)
  · rw [rT, if_neg e1, if_neg e2, if_neg e3]; exact bI_0 z
  · rw [rT, if_neg e1, if_neg e2, if_neg e3]; exact bI_1 z
end TM
