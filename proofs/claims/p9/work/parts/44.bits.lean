/-! BITS: what solutions give, and the loop over a word's bytes -/
def bt (x : Int32) (v : Nat) : Bool := x.toBitVec.getLsbD v
theorem and1 (y : BitVec 32) : y &&& 1#32 = 1#32 ↔ y.getLsbD 0 = true := by
  have e : (y &&& 1#32).toNat = y.toNat % 2 := by
    rw [BitVec.toNat_and]
    have : (1#32).toNat = 1 := by decide
    rw [this, Nat.and_one_is_mod]
  have e2 : y.getLsbD 0 = decide (y.toNat % 2 = 1) := by
    show y.toNat.testBit 0 = _
    rw [Nat.testBit_zero]
  rw [e2, decide_eq_true_iff]
  constructor
  · intro h
    rw [h] at e
    have : (1#32).toNat = 1 := by decide
    omega
  · intro h
    apply BitVec.eq_of_toNat_eq
    rw [e, h]
    decide
theorem bt_iff (x : Int32) (v : Nat) (hv : v < 6) : (((x >>> (nI v &&& 31)) &&& 1) = 1) ↔ bt x v = true := by
  have key : ∀ s : Int32, (s.toBitVec.smod 32).toNat = v → ((((x >>> s) &&& 1) = 1) ↔ bt x v = true) := by
    intro s hs
    have e1 : (((x >>> s) &&& 1) = 1) ↔ ((x.toBitVec.sshiftRight v) &&& 1#32 = 1#32) := by
      constructor
      · intro h
        have h2 := congrArg Int32.toBitVec h
        have h3 : (x >>> s).toBitVec &&& 1#32 = 1#32 := h2
        rw [Int32.toBitVec_shiftRight] at h3
        have h4 : (x.toBitVec.sshiftRight (s.toBitVec.smod 32).toNat) &&& 1#32 = 1#32 := h3
        rw [hs] at h4
        exact h4
      · intro h
        apply Int32.toBitVec.inj
        show (x >>> s).toBitVec &&& 1#32 = 1#32
        rw [Int32.toBitVec_shiftRight]
        show (x.toBitVec.sshiftRight (s.toBitVec.smod 32).toNat) &&& 1#32 = 1#32
        rw [hs]
        exact h
    rw [e1, and1, BitVec.getLsbD_sshiftRight]
    have e3 : decide (32 ≤ 0) = false := by decide
    have e4 : v + 0 < 32 := by omega
    rw [e3, if_pos e4]
    show (true && x.toBitVec.getLsbD (v + 0)) = true ↔ _
    rw [Bool.true_and]
    exact Iff.rfl
  refine key _ ?_
  rcases v with _ | _ | _ | _ | _ | _ | v
  all_goals first | decide | omega
theorem bt_or (x y : Int32) (v : Nat) : bt (x ||| y) v = (bt x v || bt y v) := by
  show (x.toBitVec ||| y.toBitVec).getLsbD v = _
  rw [BitVec.getLsbD_or]
  rfl
theorem bt_0 (v : Nat) : bt 0 v = false := by
  show (0#32).getLsbD v = false
  exact BitVec.getLsbD_zero
theorem bt_one : ∀ v, v < 6 → ∀ u, u < 6 → bt (1 <<< (nI v &&& 31)) u = decide (u = v) := by decide
/-- the loop over a word's bytes ends -/
theorem sh56 (a : Int64) : (a >>> ((56 : Int32).toInt64 &&& 63)) = 0 ↔ un a < 2 ^ 56 := by
  have e0 : ((56 : Int32).toInt64 &&& 63) = 56 := by decide
  rw [e0]
  have e1 : (a >>> (56 : Int64)).toBitVec = a.toBitVec.sshiftRight 56 := by
    rw [Int64.toBitVec_shiftRight]
    show a.toBitVec.sshiftRight ((56 : Int64).toBitVec.smod 64).toNat = _
    have : ((56 : Int64).toBitVec.smod 64).toNat = 56 := by decide
    rw [this]
  have e2 : (a >>> (56 : Int64)) = 0 ↔ a.toBitVec.sshiftRight 56 = 0#64 := by
    constructor
    · intro h
      rw [← e1, h]
      rfl
    · intro h
      apply Int64.toBitVec.inj
      rw [e1, h]
      rfl
  rw [e2]
  constructor
  · intro h
    by_cases hb : un a < 2 ^ 56
    · exact hb
    · exfalso
      -- some bit from 56 on is set
      have h1 : ∀ i, i < 8 → a.toBitVec.getLsbD (56 + i) = false := by
        intro i hi
        have h2 := congrArg (fun b : BitVec 64 => b.getLsbD i) h
        simp only [BitVec.getLsbD_sshiftRight, BitVec.getLsbD_zero] at h2
        have e3 : decide (64 ≤ i) = false := decide_eq_false (by omega)
        rw [e3, if_pos (by omega)] at h2
        simpa using h2
      apply hb
      have h3 : un a / 2 ^ 56 = 0 := by
        apply Nat.eq_of_testBit_eq
        intro i
        rw [Nat.zero_testBit, Nat.testBit_div_two_pow]
        by_cases hi : i < 8
        · have := h1 i hi
          rw [Nat.add_comm]
          exact this
        · have h4 : un a < 2 ^ (i + 56) := Nat.lt_of_lt_of_le a.toBitVec.isLt (Nat.pow_le_pow_right (by decide) (by omega))
          exact Nat.testBit_lt_two_pow h4
      omega
  · intro h
    have hm : a.toBitVec.msb = false := by
      rw [BitVec.msb_eq_decide]
      apply decide_eq_false
      have : a.toBitVec.toNat = un a := rfl
      omega
    rw [BitVec.sshiftRight_eq_of_msb_false hm]
    apply BitVec.eq_of_toNat_eq
    rw [BitVec.toNat_ushiftRight, Nat.shiftRight_eq_div_pow]
    have : a.toBitVec.toNat = un a := rfl
    rw [this, Nat.div_eq_of_lt h]
    rfl
theorem un_s8 (a : Int64) (h : un a < 2 ^ 56) : un (a <<< ((8 : Int32).toInt64 &&& 63)) = un a * 256 := by
  have e0 : ((8 : Int32).toInt64 &&& 63) = 8 := by decide
  rw [e0]
  unfold un
  rw [Int64.toBitVec_shiftLeft]
  show (a.toBitVec <<< ((8 : Int64).toBitVec.smod 64).toNat).toNat = _
  have : ((8 : Int64).toBitVec.smod 64).toNat = 8 := by decide
  rw [this, BitVec.toNat_shiftLeft, Nat.shiftLeft_eq]
  have : a.toBitVec.toNat = un a := rfl
  rw [this]
  exact Nat.mod_eq_of_lt (by omega)
