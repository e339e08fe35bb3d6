section FED
variable {n0 d dr dd : Nat} {K : z_K} {I : z_I} {L : z_L} {P : z_I → z_L → Prop} {Q : z_q} {nm : Nat}
theorem bv_255 : ∀ i, i < 32 → (255#32).getLsbD i = decide (i < 8) ∧ (255#64).getLsbD i = decide (i < 8) := by decide
theorem bv_byte (x : BitVec 64) (k : Nat) (hk : k ≤ 56) : (x >>> k).setWidth 32 &&& 255#32 = ((x.sshiftRight k) &&& 255#64).setWidth 32 := by
  refine BitVec.eq_of_getLsbD_eq (fun i hi => ?_)
  rw [BitVec.getLsbD_and, BitVec.getLsbD_setWidth, BitVec.getLsbD_setWidth, BitVec.getLsbD_and, BitVec.getLsbD_ushiftRight, BitVec.getLsbD_sshiftRight, (bv_255 i hi).1, (bv_255 i hi).2]
  by_cases h : i < 8
  · rw [if_pos (by omega)]
    have h1 : decide (i < 32) = true := decide_eq_true hi
    have h2 : decide (64 ≤ i) = false := decide_eq_false (by omega)
    rw [h1, h2]
    simp
  · have h3 : decide (i < 8) = false := decide_eq_false h
    rw [h3]
    simp
theorem q_byteG (a : Int64) (k : Nat) (u : UInt64) (s : Int64) (hk : k ≤ 56) (hu : (u.toBitVec % 64).toNat = k) (hs : (s.toBitVec.smod 64).toNat = k) : (((a.toUInt64 >>> u).toInt64).toInt32) &&& 255 = ((a >>> s) &&& 255).toInt32 := by
  refine Int32.toBitVec_inj.mp ?_
  rw [Int32.toBitVec_and, Int64.toBitVec_toInt32, UInt64.toBitVec_toInt64, UInt64.toBitVec_shiftRight, Int64.toBitVec_toInt32, Int64.toBitVec_and, Int64.toBitVec_shiftRight, Int64.toBitVec_toUInt64, BitVec.signExtend_eq_setWidth_of_le _ (by omega), BitVec.signExtend_eq_setWidth_of_le _ (by omega), BitVec.sshiftRight_eq', BitVec.ushiftRight_eq']
  rw [hs, hu]
  exact bv_byte a.toBitVec k hk
theorem q_byte (a : Int64) (j : Nat) (hj : j < 8) : ((((a.toUInt64 >>> (((8 * nI j) : Int32).toInt64.toUInt64 &&& Int64.toUInt64 63)).toInt64) : Int64).toInt32) &&& 255 = ((((a : Int64) >>> (((8 * nI j) : Int32).toInt64 &&& 63 : Int64)) &&& 255) : Int64).toInt32 := by
  refine q_byteG a (8 * j) _ _ (by omega) ?_ ?_
  · revert j; decide
  · revert j; decide
end FED
