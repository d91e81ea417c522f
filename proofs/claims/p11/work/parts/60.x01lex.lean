/-! TOKENS OF A TEXT (no machine in it): where they start and end, what they are -/
def lxS (tx : Nat → Int32) : Nat → Nat → Nat
  | 0, p => p
  | r + 1, p => if tx p = 32 then lxS tx r (p + 1) else p
def lxL (tx : Nat → Int32) : Nat → Nat → Nat
  | 0, p => p
  | r + 1, p => if tL (tx p) = true then lxL tx r (p + 1) else p
def dG (x : Int32) : Bool := rI x 48 57
def lxD (tx : Nat → Int32) : Nat → Nat → Nat
  | 0, p => p
  | r + 1, p => if dG (tx p) = true then lxD tx r (p + 1) else p
/-- the value of k letters from p on, the last one lowest -/
def lv (tx : Nat → Int32) (p : Nat) : Nat → Int64
  | 0 => 0
  | k + 1 => s8 (lv tx p k) ||| (tx (p + k)).toInt64
/-- eight places, zeros behind the letters -/
def pk (tx : Nat → Int32) (p e : Nat) : Nat → Int64
  | 0 => 0
  | k + 1 => s8 (pk tx p e k) ||| (if p + k < e then (tx (p + k)).toInt64 else 0)
theorem lxS_le (tx : Nat → Int32) : ∀ r p, p ≤ lxS tx r p ∧ lxS tx r p ≤ p + r
  | 0, p => ⟨Nat.le_refl _, Nat.le_refl _⟩
  | r + 1, p => by
    unfold lxS
    split
    · have := lxS_le tx r (p + 1)
      omega
    · omega
theorem lxL_le (tx : Nat → Int32) : ∀ r p, p ≤ lxL tx r p ∧ lxL tx r p ≤ p + r
  | 0, p => ⟨Nat.le_refl _, Nat.le_refl _⟩
  | r + 1, p => by
    unfold lxL
    split
    · have := lxL_le tx r (p + 1)
      omega
    · omega
theorem lxD_le (tx : Nat → Int32) : ∀ r p, p ≤ lxD tx r p ∧ lxD tx r p ≤ p + r
  | 0, p => ⟨Nat.le_refl _, Nat.le_refl _⟩
  | r + 1, p => by
    unfold lxD
    split
    · have := lxD_le tx r (p + 1)
      omega
    · omega
theorem lxL_at (tx : Nat → Int32) : ∀ r p i, p ≤ i → i < lxL tx r p → tL (tx i) = true
  | 0, p, i, h1, h2 => by
    have : lxL tx 0 p = p := rfl
    omega
  | r + 1, p, i, h1, h2 => by
    unfold lxL at h2
    split at h2
    · next h =>
      by_cases q : i = p
      · rw [q]
        exact h
      · exact lxL_at tx r (p + 1) i (by omega) h2
    · omega
/-- a letter's number -/
theorem tL_un {x : Int32} (h : tL x = true) : 97 ≤ un x.toInt64 ∧ un x.toInt64 ≤ 122 := by
  unfold tL at h
  have e97 : (97 : Int32).toInt = 97 := by decide
  have e122 : (122 : Int32).toInt = 122 := by decide
  have hx : 97 ≤ x.toInt ∧ x.toInt ≤ 122 := by
    by_cases q : x < 97
    · rw [if_pos q] at h
      cases h
    · rw [if_neg q] at h
      by_cases q2 : 122 < x
      · rw [if_pos q2] at h
        cases h
      · rw [Int32.lt_iff_toInt_lt] at q q2
        omega
  have e : x.toInt64.toInt = x.toInt := Int32.toInt_toInt64 x
  have e2 : (x.toInt64.toBitVec.toInt : Int) = x.toInt := e
  unfold un
  have l := x.toInt64.toBitVec.isLt
  rw [BitVec.toInt_eq_toNat_cond] at e2
  split at e2 <;> omega
/-- one letter more -/
theorem un_more {a b : Int64} (ha : un a < 2 ^ 56) (hb : un b < 256) : un (s8 a ||| b) = un a * 256 + un b := by
  have h1 : un (s8 a) = un a * 256 := by
    rw [un_s8b]
    exact Nat.mod_eq_of_lt (by omega)
  show (s8 a ||| b).toBitVec.toNat = _
  have e : (s8 a ||| b).toBitVec = (s8 a).toBitVec ||| b.toBitVec := rfl
  rw [e, BitVec.toNat_or]
  have h2 : (s8 a).toBitVec.toNat = un a * 256 := h1
  rw [h2]
  have h3 : un a * 256 = un a <<< 8 := by rw [Nat.shiftLeft_eq]
  rw [h3]
  exact Nat.shiftLeft_add_eq_or_of_lt (b := un b) (i := 8) (by omega) (un a) |>.symm
theorem pow256 : ∀ k, k ≤ 8 → 256 ^ k = 2 ^ (8 * k)
  | 0, _ => rfl
  | k + 1, h => by
    rw [Nat.pow_succ, pow256 k (by omega), Nat.mul_add, Nat.pow_add]
theorem lv_un (tx : Nat → Int32) (p : Nat) : ∀ k, k ≤ 8 → (∀ i, p ≤ i → i < p + k → tL (tx i) = true) → un (lv tx p k) < 256 ^ k ∧ (0 < k → 256 ^ (k - 1) ≤ un (lv tx p k) ∧ 97 ≤ un (lv tx p k) % 256 ∧ un (lv tx p k) < 123 * 256 ^ (k - 1))
  | 0, _, _ => ⟨by show un 0 < 1; decide, fun h => absurd h (Nat.lt_irrefl _)⟩
  | k + 1, h, hl => by
    obtain ⟨h1, h2⟩ := lv_un tx p k (by omega) (fun i a b => hl i a (by omega))
    obtain ⟨c1, c2⟩ := tL_un (hl (p + k) (by omega) (by omega))
    have hp : 256 ^ k ≤ 2 ^ 56 := by
      rw [pow256 k (by omega)]
      exact Nat.pow_le_pow_right (by decide) (by omega)
    have e : un (lv tx p (k + 1)) = un (lv tx p k) * 256 + un (tx (p + k)).toInt64 := un_more (by omega) (by omega)
    have e2 : 256 ^ (k + 1) = 256 ^ k * 256 := Nat.pow_succ 256 k
    rw [e]
    refine ⟨by rw [e2]; omega, fun _ => ?_⟩
    rw [Nat.add_sub_cancel]
    by_cases q : k = 0
    · subst q
      have e3 : un (lv tx p 0) = 0 := by
        show un 0 = 0
        decide
      have e9 : (256 : Nat) ^ 0 = 1 := rfl
      rw [e3, Nat.zero_mul, Nat.zero_add, e9]
      omega
    · obtain ⟨d1, d2, d3⟩ := h2 (by omega)
      have e4 : 256 ^ k = 256 ^ (k - 1) * 256 := by
        rw [← Nat.pow_succ]
        congr 1
        omega
      rw [e4]
      refine ⟨by omega, by omega, by omega⟩
/-- the letters, then zeros: the letters' value moved up -/
theorem pk_unx (tx : Nat → Int32) (p e : Nat) (hl : ∀ i, p ≤ i → i < e → tL (tx i) = true) (he : e ≤ p + 8) (hp : p ≤ e) : ∀ k, k ≤ 8 → un (pk tx p e k) = un (lv tx p (min k (e - p))) * 256 ^ (k - (e - p))
  | 0, _ => by
    rw [Nat.zero_min, Nat.zero_sub]
    rfl
  | k + 1, h => by
    have ih := pk_unx tx p e hl he hp k (by omega)
    have hv := lv_un tx p (min k (e - p)) (by omega) (fun i a b => hl i a (by omega))
    have hb : un (pk tx p e k) < 2 ^ 56 := by
      rw [ih]
      have h1 : un (lv tx p (min k (e - p))) * 256 ^ (k - (e - p)) < 256 ^ (min k (e - p)) * 256 ^ (k - (e - p)) := Nat.mul_lt_mul_of_pos_right hv.1 (Nat.pow_pos (by decide))
      rw [← Nat.pow_add] at h1
      have e1 : min k (e - p) + (k - (e - p)) = k := by omega
      rw [e1, pow256 k (by omega)] at h1
      exact Nat.lt_of_lt_of_le h1 (Nat.pow_le_pow_right (by decide) (by omega))
    by_cases q : p + k < e
    · have c := tL_un (hl (p + k) (by omega) q)
      have e1 : pk tx p e (k + 1) = s8 (pk tx p e k) ||| (tx (p + k)).toInt64 := by
        show s8 (pk tx p e k) ||| (if p + k < e then _ else _) = _
        rw [if_pos q]
      rw [e1, un_more hb (by omega), ih]
      have e2 : min k (e - p) = k := by omega
      have e3 : min (k + 1) (e - p) = k + 1 := by omega
      have e4 : k - (e - p) = 0 := by omega
      have e5 : k + 1 - (e - p) = 0 := by omega
      rw [e2, e3, e4, e5, Nat.pow_zero, Nat.mul_one, Nat.mul_one]
      rw [e2] at hv
      have hp2 : 256 ^ k ≤ 2 ^ 56 := by
        rw [pow256 k (by omega)]
        exact Nat.pow_le_pow_right (by decide) (by omega)
      exact (un_more (a := lv tx p k) (by omega) (by omega)).symm
    · have e1 : pk tx p e (k + 1) = s8 (pk tx p e k) ||| 0 := by
        show s8 (pk tx p e k) ||| (if p + k < e then _ else _) = _
        rw [if_neg q]
      have z : un 0 = 0 := by decide
      rw [e1, un_more hb (by rw [z]; decide), ih, z, Nat.add_zero]
      have e2 : min k (e - p) = e - p := by omega
      have e3 : min (k + 1) (e - p) = e - p := by omega
      have e4 : k + 1 - (e - p) = k - (e - p) + 1 := by omega
      rw [e2, e3, e4, Nat.pow_succ, Nat.mul_assoc]
/-- held: moved up until the highest place is taken -/
theorem hD_up {x : Int64} (h1 : 0 < x) (h2 : un x % 256 ≠ 0) : ∃ j, un (hD x) = un x * 256 ^ j ∧ 2 ^ 56 ≤ un (hD x) := by
  obtain ⟨j, a1, a2, a3⟩ := hR_un 7 x
  have e : hD x = hR 7 x := by
    unfold hD
    rw [if_pos (Int64.le_of_lt h1)]
  rw [e]
  refine ⟨j, a2, ?_⟩
  by_cases q : j < 7
  · exact a3 q
  · have : j = 7 := by omega
    subst this
    rw [a2]
    have : 1 ≤ un x := by omega
    have e7 : 256 ^ 7 = 2 ^ 56 := by decide
    rw [e7]
    omega
theorem lv_pos (tx : Nat → Int32) (p k : Nat) (h0 : 0 < k) (h : k ≤ 8) (hl : ∀ i, p ≤ i → i < p + k → tL (tx i) = true) : 0 < lv tx p k := by
  obtain ⟨-, h2⟩ := lv_un tx p k h hl
  obtain ⟨d1, d2, d3⟩ := h2 h0
  have hp : 256 ^ (k - 1) ≤ 2 ^ 56 := by
    rw [pow256 (k - 1) (by omega)]
    exact Nat.pow_le_pow_right (by decide) (by omega)
  have hu : un (lv tx p k) < 2 ^ 63 := by omega
  rw [Int64.lt_iff_toInt_lt]
  have e0 : (0 : Int64).toInt = 0 := by decide
  rw [e0]
  show 0 < (lv tx p k).toBitVec.toInt
  unfold un at hu d2
  rw [BitVec.toInt_eq_toNat_of_lt (by omega)]
  omega
/-- what the class packs is what the reference reads, held -/
theorem pk_hD (tx : Nat → Int32) (p e : Nat) (hp : p < e) (he : e ≤ p + 8) (hl : ∀ i, p ≤ i → i < e → tL (tx i) = true) : pk tx p e 8 = hD (lv tx p (e - p)) := by
  have h0 := lv_pos tx p (e - p) (by omega) (by omega) (fun i a b => hl i a (by omega))
  obtain ⟨b1, b2⟩ := lv_un tx p (e - p) (by omega) (fun i a b => hl i a (by omega))
  obtain ⟨d1, d2, d3⟩ := b2 (by omega)
  obtain ⟨j, c1, c2⟩ := hD_up h0 (by omega)
  have c3 := un_lt (hD (lv tx p (e - p)))
  apply un_inj
  have e1 := pk_unx tx p e hl he (by omega) 8 (Nat.le_refl _)
  have e2 : min 8 (e - p) = e - p := by omega
  rw [e2] at e1
  rw [e1, c1]
  congr 1
  -- the same power
  rw [c1] at c2 c3
  have key : j = 8 - (e - p) := by
    rcases Nat.lt_trichotomy j (8 - (e - p)) with q | q | q
    · exfalso
      have h1 : un (lv tx p (e - p)) * 256 ^ j < 256 ^ (e - p) * 256 ^ j := Nat.mul_lt_mul_of_pos_right b1 (Nat.pow_pos (by decide))
      rw [← Nat.pow_add] at h1
      have h2 : 256 ^ (e - p + j) ≤ 2 ^ 56 := by
        rw [pow256 _ (by omega)]
        exact Nat.pow_le_pow_right (by decide) (by omega)
      omega
    · exact q
    · exfalso
      have h1 : 256 ^ (e - p - 1) * 256 ^ j ≤ un (lv tx p (e - p)) * 256 ^ j := Nat.mul_le_mul_right _ d1
      rw [← Nat.pow_add] at h1
      have h2 : (256 : Nat) ^ 8 ≤ 256 ^ (e - p - 1 + j) := Nat.pow_le_pow_right (by decide) (by omega)
      have h3 : (256 : Nat) ^ 8 = 2 ^ 64 := by decide
      omega
  rw [key]
/-! a text's tokens, as the class notes them -/
def sG (x : Int32) : Bool := if x = 123 then true else if x = 125 then true else if x = 46 then true else if x = 61 then true else if x = 60 then true else if x = 62 then true else if x = 33 then true else false
def kG (x : Int64) : Bool := if x = 8315171469725532160 then true else if x = 7235441220169655156 then true else if x = 8030591472422092800 then true else if x = 7234315245479526400 then true else if x = 7811895328335986688 then true else if x = 7379548711597244416 then true else if x = 8030046131791487340 then true else if x = 7883954073408372736 then true else if x = 8461816677183520768 then true else if x = 7957706609935777792 then true else if x = 7093017055116394496 then true else false
def nv_ (tx : Nat → Int32) : Nat → Nat → Int32 → Int32
  | 0, _, v => v
  | r + 1, p, v => if dG (tx p) = true then nv_ tx r (p + 1) (v * 10 + (tx p - 48)) else v
def sk_ (tx : Nat → Int32) (ln p : Nat) : Nat := lxS tx (ln - p) p
def te_ (tx : Nat → Int32) (ln s : Nat) : Nat := if tL (tx s) = true then lxL tx (ln - s) s else if dG (tx s) = true then lxD tx (ln - s) s else if tx s = 63 then lxL tx (ln - (s + 1)) (s + 1) else s + 1
def cK (tx : Nat → Int32) (ln s : Nat) : Int32 := if tL (tx s) = true then (if te_ tx ln s - s ≤ 8 then (if kG (pk tx s (te_ tx ln s) 8) = true then 2 else 4) else 1) else if dG (tx s) = true then (if 4 < te_ tx ln s - s then 1 else 4) else if tx s = 63 then (if te_ tx ln s - s - 1 < 1 then 1 else if 8 < te_ tx ln s - s - 1 then 1 else 5) else if sG (tx s) = true then 3 else 1
def cV (tx : Nat → Int32) (ln s : Nat) : Int64 := if tL (tx s) = true then (if te_ tx ln s - s ≤ 8 then pk tx s (te_ tx ln s) 8 else 0) else if dG (tx s) = true then (nv_ tx (ln - s) s 0 + 1).toInt64 else if tx s = 63 then pk tx (s + 1) (te_ tx ln s) 8 else (tx s).toInt64
/-- where the j-th token starts, and where the one before it ends -/
def PE (tx : Nat → Int32) (ln : Nat) : Nat → Nat × Nat
  | 0 => (sk_ tx ln 0, 0)
  | j + 1 => if (PE tx ln j).1 < ln then (sk_ tx ln (te_ tx ln (PE tx ln j).1), te_ tx ln (PE tx ln j).1) else PE tx ln j
theorem te_le (tx : Nat → Int32) (ln s : Nat) (h : s < ln) : s < te_ tx ln s ∧ te_ tx ln s ≤ ln := by
  unfold te_
  by_cases h1 : tL (tx s) = true
  · rw [if_pos h1]
    obtain ⟨r, hr⟩ : ∃ r, ln - s = r + 1 := ⟨ln - s - 1, by omega⟩
    have e : lxL tx (ln - s) s = lxL tx r (s + 1) := by
      rw [hr]
      show (if tL (tx s) = true then _ else _) = _
      rw [if_pos h1]
    rw [e]
    have := lxL_le tx r (s + 1)
    omega
  · rw [if_neg h1]
    by_cases h2 : dG (tx s) = true
    · rw [if_pos h2]
      obtain ⟨r, hr⟩ : ∃ r, ln - s = r + 1 := ⟨ln - s - 1, by omega⟩
      have e : lxD tx (ln - s) s = lxD tx r (s + 1) := by
        rw [hr]
        show (if dG (tx s) = true then _ else _) = _
        rw [if_pos h2]
      rw [e]
      have := lxD_le tx r (s + 1)
      omega
    · rw [if_neg h2]
      by_cases h3 : tx s = 63
      · rw [if_pos h3]
        have := lxL_le tx (ln - (s + 1)) (s + 1)
        omega
      · rw [if_neg h3]
        omega
theorem sk_le (tx : Nat → Int32) (ln p : Nat) (h : p ≤ ln) : p ≤ sk_ tx ln p ∧ sk_ tx ln p ≤ ln := by
  unfold sk_
  have := lxS_le tx (ln - p) p
  omega
theorem sk_sp (tx : Nat → Int32) (ln p : Nat) (h : p < ln) (hp : tx p = 32) : sk_ tx ln p = sk_ tx ln (p + 1) := by
  unfold sk_
  obtain ⟨r, hr⟩ : ∃ r, ln - p = r + 1 := ⟨ln - p - 1, by omega⟩
  have e : ln - (p + 1) = r := by omega
  rw [e, hr]
  show (if tx p = 32 then _ else _) = _
  rw [if_pos hp]
theorem sk_no (tx : Nat → Int32) (ln p : Nat) (h : p < ln) (hp : ¬ tx p = 32) : sk_ tx ln p = p := by
  unfold sk_
  obtain ⟨r, hr⟩ : ∃ r, ln - p = r + 1 := ⟨ln - p - 1, by omega⟩
  rw [hr]
  show (if tx p = 32 then _ else _) = _
  rw [if_neg hp]
theorem sk_end (tx : Nat → Int32) (ln : Nat) : sk_ tx ln ln = ln := by
  unfold sk_
  rw [Nat.sub_self]
  rfl
/-- the token array of the class: n tokens, then the end -/
def TA3 (tx : Nat → Int32) (ln : Nat) (c : CS) (n : Nat) : Prop := c.kn = n + 1 ∧ n ≤ 160 ∧ (∀ j, j < n → (PE tx ln j).1 < ln ∧ c.kk j = cK tx ln (PE tx ln j).1 ∧ c.kv j = cV tx ln (PE tx ln j).1 ∧ c.kp j = nI (PE tx ln j).1) ∧ (PE tx ln n).1 = ln ∧ c.kk n = 0 ∧ c.kv n = 0 ∧ c.kp n = nI (PE tx ln n).2
