def bA (v : Int64) (x : Int32) : Int32 := ((((v.toUInt64 >>> (((8 * x) : Int32).toInt64.toUInt64 &&& Int64.toUInt64 63)).toInt64) : Int64).toInt32) &&& 255
theorem and255 (a b : BitVec 32) (h : ∀ j, j < 8 → a.getLsbD j = b.getLsbD j) : a &&& 255#32 = b &&& 255#32 := by
  apply BitVec.eq_of_getLsbD_eq
  intro j hj
  rw [BitVec.getLsbD_and, BitVec.getLsbD_and]
  by_cases h8 : j < 8
  · rw [h j h8]
  · have e : ∀ j, j < 32 → ¬ j < 8 → (255#32).getLsbD j = false := by decide
    rw [e j hj h8, Bool.and_false, Bool.and_false]
theorem bA_rC (v : Int64) (i : Nat) (hi : i < 8) : bA v (nI i) = rC v i := by
  apply Int32.toBitVec.inj
  have key : ∀ (k : Nat) (s : UInt64) (s2 : Int64), k ≤ 56 → s.toNat % 64 = k → (s2.toBitVec.smod 64).toNat = k → ((((v.toUInt64 >>> s).toInt64).toInt32) &&& 255).toBitVec = ((((v >>> s2) : Int64).toInt32) &&& 255).toBitVec := by
    intro k s s2 hk h1 h2
    show ((v.toUInt64 >>> s).toInt64.toBitVec.signExtend 32) &&& 255#32 = ((v >>> s2).toBitVec.signExtend 32) &&& 255#32
    apply and255
    intro j hj
    rw [BitVec.signExtend_eq_setWidth_of_le _ (by decide), BitVec.signExtend_eq_setWidth_of_le _ (by decide), BitVec.getLsbD_setWidth, BitVec.getLsbD_setWidth, Int64.toBitVec_shiftRight]
    have e1 : (v.toUInt64 >>> s).toInt64.toBitVec = v.toBitVec >>> k := by
      apply BitVec.eq_of_toNat_eq
      show (v.toUInt64 >>> s).toNat = _
      rw [UInt64.toNat_shiftRight, h1, BitVec.toNat_ushiftRight]
      rfl
    have e2 : (v.toBitVec.sshiftRight' (s2.toBitVec.smod 64)) = v.toBitVec.sshiftRight k := by
      show v.toBitVec.sshiftRight (s2.toBitVec.smod 64).toNat = _
      rw [h2]
    rw [e1]
    show _ = (decide (j < 32) && (v.toBitVec.sshiftRight (s2.toBitVec.smod 64).toNat).getLsbD j)
    rw [h2, BitVec.getLsbD_ushiftRight, BitVec.getLsbD_sshiftRight]
    have e3 : decide (64 ≤ j) = false := decide_eq_false (by omega)
    have e4 : k + j < 64 := by omega
    rw [e3, if_pos e4]
    simp only [Bool.not_false, Bool.true_and]
  refine key (8 * i) _ _ (by omega) ?_ ?_
  · rcases i with _ | _ | _ | _ | _ | _ | _ | _ | i
    all_goals first | decide | omega
  · rcases i with _ | _ | _ | _ | _ | _ | _ | _ | i
    all_goals first | decide | omega
