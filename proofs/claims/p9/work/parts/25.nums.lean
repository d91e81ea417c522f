/-! numbers: what the machine reckons, as naturals -/
theorem nL (k : Nat) : (OfNat.ofNat k : Int32) = nI k := rfl
theorem nI_mul (a b : Nat) : nI a * nI b = nI (a * b) := by
  apply Int32.toBitVec.inj
  simp only [nI, Int32.toBitVec_mul, Int32.toBitVec_ofNat']
  exact (BitVec.ofNat_mul a b).symm
theorem nA {x y : Int32} {a b : Nat} (hx : x = nI a) (hy : y = nI b) : x + y = nI (a + b) := by rw [hx, hy, nI_add]
theorem nM {x y : Int32} {a b : Nat} (hx : x = nI a) (hy : y = nI b) : x * y = nI (a * b) := by rw [hx, hy, nI_mul]
theorem nS {x y : Int32} {a b : Nat} (hx : x = nI a) (hy : y = nI b) (h : b ≤ a) : x - y = nI (a - b) := by
  rw [hx, hy]
  have e : nI a = nI (a - b) + nI b := by rw [nI_add, Nat.sub_add_cancel h]
  rw [e, Int32.add_sub_cancel]
theorem nLe {x y : Int32} {a b : Nat} (hx : x = nI a) (hy : y = nI b) (ha : a < 2 ^ 31) (hb : b < 2 ^ 31) (h : x ≤ y) : a ≤ b := by
  subst hx hy
  exact (nI_leI ha hb).mp h
theorem nNle {x y : Int32} {a b : Nat} (hx : x = nI a) (hy : y = nI b) (ha : a < 2 ^ 31) (hb : b < 2 ^ 31) (h : ¬ x ≤ y) : b < a := by
  subst hx hy
  exact Nat.lt_of_not_le (fun q => h ((nI_leI ha hb).mpr q))
theorem nLt {x y : Int32} {a b : Nat} (hx : x = nI a) (hy : y = nI b) (ha : a < 2 ^ 31) (hb : b < 2 ^ 31) (h : x < y) : a < b := by
  subst hx hy
  exact (nI_ltI ha hb).mp h
theorem nNlt {x y : Int32} {a b : Nat} (hx : x = nI a) (hy : y = nI b) (ha : a < 2 ^ 31) (hb : b < 2 ^ 31) (h : ¬ x < y) : b ≤ a := by
  subst hx hy
  exact Nat.le_of_not_lt (fun q => h ((nI_ltI ha hb).mpr q))
theorem nEq {x y : Int32} {a b : Nat} (hx : x = nI a) (hy : y = nI b) (ha : a < 2 ^ 31) (hb : b < 2 ^ 31) (h : x = y) : a = b := by
  subst hx hy
  exact (nI_eq ha hb).mp h
theorem nNe {x y : Int32} {a b : Nat} (hx : x = nI a) (hy : y = nI b) (ha : a < 2 ^ 31) (hb : b < 2 ^ 31) (h : ¬ x = y) : a ≠ b := by
  subst hx hy
  exact fun q => h ((nI_eq ha hb).mpr q)
theorem nC {x : Int32} {a : Nat} (hx : x = nI a) (ha : a < 2 ^ 31) : x.toNatClampNeg = a := by
  subst hx
  exact nI_clamp ha
theorem nI_prelt (a : Nat) (h : a < 2 ^ 31) : nI (a + 0) - 1 < nI a := by
  rcases a with _ | a
  · decide
  · rw [Nat.add_zero, nI_pred]
    exact nI_lt (Nat.lt_succ_self a) h
theorem nI_m1 (x : Int32) : x + (-1) = x - 1 := (Int32.sub_eq_add_neg x 1).symm
