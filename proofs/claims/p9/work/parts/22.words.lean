/-! WORDS AND NUMBERS: class and reference take the same for terms -/
/-- the number of a long, unsigned -/
def un (x : Int64) : Nat := x.toBitVec.toNat
theorem un_u8 (x : Int64) : un (u8 x) = un x / 256 := by
  have e : ((8 : Int32).toInt64.toUInt64 &&& Int64.toUInt64 63) = 8 := by decide
  unfold u8 un
  rw [e]
  show (x.toUInt64 >>> (8:UInt64)).toNat = _
  rw [UInt64.toNat_shiftRight]
  show x.toBitVec.toNat >>> (8 % 64) = _
  rw [Nat.shiftRight_eq_div_pow]
theorem c255 (x : Int64) : ((x &&& 255) : Int64).toInt32.toBitVec.toNat = un x % 256 := by
  show ((x &&& 255).toBitVec.signExtend 32).toNat = _
  rw [BitVec.signExtend_eq_setWidth_of_le _ (by decide), BitVec.toNat_setWidth]
  show (x.toBitVec &&& 255#64).toNat % _ = _
  rw [BitVec.toNat_and]
  have : (255#64).toNat = 2 ^ 8 - 1 := by decide
  rw [this, Nat.and_two_pow_sub_one_eq_mod]
  unfold un
  omega
theorem rC_n {w : Int64} (hw : 0 < w) {i : Nat} (hi : i < 8) : (rC w i).toBitVec.toNat = un w / 256 ^ i % 256 := by
  have hm : w.toBitVec.msb = false := by
    have h1 : (0 : Int) < w.toInt := Int64.lt_iff_toInt_lt.mp hw
    rw [BitVec.msb_eq_toInt]
    have : w.toBitVec.toInt = w.toInt := rfl
    simp [this]
    omega
  have key : ∀ j : Nat, ∀ s : Int64, (s.toBitVec.smod 64).toNat = j → ((((w >>> s) : Int64).toInt32) &&& 255).toBitVec.toNat = un w / 2 ^ j % 256 := by
    intro j s hs
    show (((w >>> s).toBitVec.signExtend 32) &&& 255#32).toNat = _
    rw [BitVec.signExtend_eq_setWidth_of_le _ (by decide), BitVec.toNat_and, BitVec.toNat_setWidth]
    have h255 : (255#32).toNat = 2 ^ 8 - 1 := by decide
    rw [h255, Nat.and_two_pow_sub_one_eq_mod, Int64.toBitVec_shiftRight]
    show (w.toBitVec.sshiftRight (s.toBitVec.smod 64).toNat).toNat % _ % _ = _
    rw [hs, BitVec.sshiftRight_eq_of_msb_false hm, BitVec.toNat_ushiftRight, Nat.shiftRight_eq_div_pow]
    unfold un
    omega
  have h8 : 256 ^ i = 2 ^ (8 * i) := by rw [Nat.pow_mul]
  rw [h8]
  refine key (8 * i) _ ?_
  rcases i with _ | _ | _ | _ | _ | _ | _ | _ | i
  all_goals first | decide | omega
/-! letters by their number -/
def lt_ (b : Nat) : Bool := decide (97 ≤ b) && decide (b ≤ 122)
theorem i_n {x : Int32} {b : Nat} (h : x.toBitVec.toNat = b) (hb : b < 256) : x.toInt = b := by
  show x.toBitVec.toInt = _
  rw [BitVec.toInt_eq_toNat_of_lt (by omega), h]
theorem rI_tL (x : Int32) : rI x 97 122 = tL x := rfl
theorem tL_n {x : Int32} {b : Nat} (h : x.toBitVec.toNat = b) (hb : b < 256) : tL x = lt_ b := by
  have e := i_n h hb
  have h1 : x < 97 ↔ b < 97 := by
    rw [Int32.lt_iff_toInt_lt, e]
    show ((b : Int) < 97) ↔ _
    omega
  have h2 : 122 < x ↔ 122 < b := by
    rw [Int32.lt_iff_toInt_lt, e]
    show ((122 : Int) < b) ↔ _
    omega
  unfold tL lt_
  by_cases q1 : b < 97
  · rw [if_pos (h1.mpr q1)]; simp; omega
  · rw [if_neg (fun z => q1 (h1.mp z))]
    by_cases q2 : 122 < b
    · rw [if_pos (h2.mpr q2)]; simp; omega
    · rw [if_neg (fun z => q2 (h2.mp z))]; simp; omega
theorem z_n {x : Int32} {b : Nat} (h : x.toBitVec.toNat = b) : x = 0 ↔ b = 0 := by
  constructor
  · rintro rfl; exact h.symm
  · intro e
    apply Int32.toBitVec_inj.mp
    apply BitVec.eq_of_toNat_eq
    rw [h, e]; rfl
theorem un0 {x : Int64} : x = 0 ↔ un x = 0 := by
  constructor
  · rintro rfl; rfl
  · intro e
    apply Int64.toBitVec_inj.mp
    apply BitVec.eq_of_toNat_eq
    exact e
/-! over numbers -/
def nT : Nat → Nat → Nat → Nat × Nat
  | 0, x, j => (x, j)
  | r + 1, x, j => if lt_ (x % 256) = true then nT r (x / 256) (j + 1) else (x, j)
theorem tR_n : ∀ r x j, (un (tR r x j).1, (tR r x j).2) = nT r (un x) j
  | 0, _, _ => rfl
  | r + 1, x, j => by
    have e := tL_n (c255 x) (Nat.mod_lt _ (by decide))
    rw [tR, nT, e]
    by_cases h : lt_ (un x % 256) = true
    · rw [if_pos h, if_pos h, ← un_u8]; exact tR_n r (u8 x) (j + 1)
    · rw [if_neg h, if_neg h]
def nR : Nat → Nat → Bool → Bool → Bool
  | 0, _, _, _ => true
  | r + 1, x, ov, f => if x % 256 = 0 then (if f = true then false else nR r (x / 256) true false) else if ov = true then false else if lt_ (x % 256) = true then nR r (x / 256) ov false else false
theorem rR_n {w : Int64} (hw : 0 < w) : ∀ r ov i, i + r = 8 → rR r w ov i = nR r (un w / 256 ^ i) ov (decide (i = 0))
  | 0, _, _, _ => rfl
  | r + 1, ov, i, hi => by
    have hc := rC_n hw (i := i) (by omega)
    have e := tL_n hc (Nat.mod_lt _ (by decide))
    have z := z_n hc
    have hd : un w / 256 ^ i / 256 = un w / 256 ^ (i + 1) := by rw [Nat.div_div_eq_div_mul, Nat.pow_succ]
    have h0 : decide (i + 1 = 0) = false := by simp
    rw [rR, nR, rI_tL, e, hd]
    have i1 := rR_n hw r true (i + 1) (by omega)
    have i2 := rR_n hw r ov (i + 1) (by omega)
    rw [h0] at i1 i2
    rw [i1, i2]
    by_cases q : rC w i = 0
    · rw [if_pos q, if_pos (z.mp q)]
      by_cases h : i = 0
      · rw [if_pos h, if_pos (by simp [h])]
      · rw [if_neg h, if_neg (by simp [h])]
    · rw [if_neg q, if_neg (fun h => q (z.mpr h))]
/-- all that is left is nothing -/
theorem nR_ov : ∀ r x, x < 256 ^ r → (nR r x true false = true ↔ x = 0)
  | 0, x, h => by simp [nR]; omega
  | r + 1, x, h => by
    have hx : x / 256 < 256 ^ r := by rw [Nat.div_lt_iff_lt_mul (by decide)]; rwa [Nat.pow_succ] at h
    rw [nR]
    by_cases q : x % 256 = 0
    · rw [if_pos q, if_neg (by decide), nR_ov r _ hx]; omega
    · rw [if_neg q, if_pos rfl]; simp; omega
theorem nT_ge : ∀ r x j, j ≤ (nT r x j).2
  | 0, _, j => Nat.le_refl j
  | r + 1, x, j => by
    rw [nT]
    by_cases h : lt_ (x % 256) = true
    · rw [if_pos h]; exact Nat.le_trans (Nat.le_succ j) (nT_ge r _ _)
    · rw [if_neg h]; exact Nat.le_refl j
theorem ltr_0 : lt_ 0 = false := by decide
/-- behind the first letter -/
theorem nn : ∀ r x j, x < 256 ^ r → (nR r x false false = true ↔ (nT r x j).1 = 0)
  | 0, x, j, h => by simp [nR, nT]; omega
  | r + 1, x, j, h => by
    have hx : x / 256 < 256 ^ r := by rw [Nat.div_lt_iff_lt_mul (by decide)]; rwa [Nat.pow_succ] at h
    rw [nR, nT]
    by_cases q : x % 256 = 0
    · rw [if_pos q, if_neg (by decide), nR_ov r _ hx, q, ltr_0, if_neg (by decide)]; omega
    · rw [if_neg q, if_neg (by decide)]
      by_cases l : lt_ (x % 256) = true
      · rw [if_pos l, if_pos l]; exact nn r _ (j + 1) hx
      · rw [if_neg l, if_neg l]; simp; omega
/-- what nT leaves of a number with its highest bit -/
theorem nT_top : ∀ r x j, 128 * 256 ^ r ≤ x * 256 → x < 256 ^ r → ¬ (nT r x j).1 = 0 
  | 0, x, j, h, h2 => by simp at h h2; omega
  | r + 1, x, j, h, h2 => by
    rw [nT]
    by_cases l : lt_ (x % 256) = true
    · rw [if_pos l]
      have hx : x / 256 < 256 ^ r := by rw [Nat.div_lt_iff_lt_mul (by decide)]; rwa [Nat.pow_succ] at h2
      cases r with
      | zero =>
        have : x % 256 = x := Nat.mod_eq_of_lt (by simpa using h2)
        rw [this] at l
        simp [lt_] at l
        simp at h
        omega
      | succ r =>
        refine nT_top (r + 1) _ _ ?_ hx
        have : 256 ^ (r + 1 + 1) = 256 ^ (r + 1) * 256 := Nat.pow_succ ..
        have h3 : 256 ^ (r + 1) = 256 ^ r * 256 := Nat.pow_succ ..
        omega
    · rw [if_neg l]
      have : 0 < 256 ^ (r + 1) := Nat.pow_pos (by decide)
      omega
theorem tW_rW (w : Int64) : tW w = rW w := by
  have hn := tR_n 8 w 0
  have hlt : un w < 256 ^ 8 := w.toBitVec.isLt
  have e1 : un (tR 8 w 0).1 = (nT 8 (un w) 0).1 := congrArg Prod.fst hn
  have e2 : (tR 8 w 0).2 = (nT 8 (un w) 0).2 := congrArg Prod.snd hn
  have z1 : (tR 8 w 0).1 = 0 ↔ (nT 8 (un w) 0).1 = 0 := by rw [un0, e1]
  unfold tW rW
  rw [e2]
  by_cases hw : 0 < w
  · rw [if_pos hw, rR_n hw 8 false 0 rfl]
    simp only [Nat.pow_zero, Nat.div_one, decide_true]
    have hx : un w / 256 < 256 ^ 7 := by omega
    rw [nR]
    by_cases l : lt_ (un w % 256) = true
    · have q : ¬ un w % 256 = 0 := fun h => by rw [h] at l; exact absurd l (by decide)
      have hT : nT 8 (un w) 0 = nT 7 (un w / 256) 1 := by rw [nT, if_pos l]
      have n0 : ¬ (nT 8 (un w) 0).2 = 0 := by
        have := nT_ge 7 (un w / 256) 1
        rw [hT]
        omega
      have ef : ¬ (false = true) := by decide
      rw [if_neg n0, if_neg q, if_neg ef, if_pos l]
      have hk := nn 7 (un w / 256) 1 hx
      rw [← hT, ← z1] at hk
      by_cases h : (tR 8 w 0).1 = 0
      · rw [if_pos h, hk.mpr h]
      · rw [if_neg h]
        cases h9 : nR 7 (un w / 256) false false with
        | false => rfl
        | true => exact absurd (hk.mp h9) h
    · have hT : nT 8 (un w) 0 = (un w, 0) := by rw [nT, if_neg l]
      rw [hT, if_pos rfl]
      by_cases q : un w % 256 = 0
      · rw [if_pos q, if_pos rfl]
      · rw [if_neg q, if_neg (by decide), if_neg l]
  · rw [if_neg hw]
    by_cases h0 : (nT 8 (un w) 0).2 = 0
    · rw [if_pos h0]
    · rw [if_neg h0]
      have hne : ¬ w = 0 := by
        rintro rfl
        exact h0 (by decide)
      have hneg : w.toInt < 0 := by
        have h1 : ¬ (0 : Int) < w.toInt := fun z => hw (Int64.lt_iff_toInt_lt.mpr z)
        have h2 : ¬ w.toInt = 0 := fun z => hne (Int64.toInt_inj.mp z)
        omega
      have htop : 2 ^ 63 ≤ un w := by
        have h3 : w.toBitVec.toInt < 0 := hneg
        rw [BitVec.toInt_eq_toNat_cond] at h3
        unfold un
        split at h3 <;> omega
      rw [if_neg (fun z => nT_top 8 (un w) 0 (by omega) hlt (z1.mp z))]
theorem tN_rN (x : Int64) : tN x = rN x := by
  have h : 0 ≤ x ↔ (-1) < x := by
    rw [Int64.le_iff_toInt_le, Int64.lt_iff_toInt_lt]
    show (0 : Int) ≤ x.toInt ↔ (-1 : Int) < x.toInt
    omega
  unfold tN rN
  by_cases q : 0 ≤ x
  · rw [if_pos q, if_pos (h.mp q)]
  · rw [if_neg q, if_neg (fun z => q (h.mpr z))]
theorem tT_rT (s p o : Int64) : tT s p o = rT s p o := by
  unfold tT rT
  rw [tW_rW, tW_rW, tW_rW, tN_rN]
