section FED
variable {n0 d dr dd : Nat} {K : z_K} {I : z_I} {L : z_L} {P : z_I → z_L → Prop} {Q : z_q} {nm : Nat}
theorem bv_255 : ∀ i, i < 32 → (255#32).getLsbD i = decide (i < 8) ∧ (255#64).getLsbD i = decide (i < 8) := by decide
theorem bv_byte (x : BitVec 64) (k : Nat) (hk : k ≤ 56) : (x >>> k).setWidth 32 &&& 255#32 = ((x.sshiftRight k) &&& 255#64).setWidth 32 := by
  refine BitVec.eq_of_getLsbD_eq (fun i hi => ?_)
  rw [BitVec.getLsbD_and, BitVec.getLsbD_setWidth, BitVec.getLsbD_setWidth, BitVec.getLsbD_and, BitVec.getLsbD_ushiftRight, BitVec.getLsbD_sshiftRight, (bv_255 i hi).1, (bv_255 i hi).2]
  by_cases h : i < 8
  · rw [if_pos (by omega)]
    have h1 : decide (i < 32) = true := decide_eq_true hi
    have h2 : decide (64 ≤ i) = false := decide_eq_false (by omega)
    rw [h1, h2]
    simp
  · have h3 : decide (i < 8) = false := decide_eq_false h
    rw [h3]
    simp
theorem q_byteG (a : Int64) (k : Nat) (u : UInt64) (s : Int64) (hk : k ≤ 56) (hu : (u.toBitVec % 64).toNat = k) (hs : (s.toBitVec.smod 64).toNat = k) : (((a.toUInt64 >>> u).toInt64).toInt32) &&& 255 = ((a >>> s) &&& 255).toInt32 := by
  refine Int32.toBitVec_inj.mp ?_
  rw [Int32.toBitVec_and, Int64.toBitVec_toInt32, UInt64.toBitVec_toInt64, UInt64.toBitVec_shiftRight, Int64.toBitVec_toInt32, Int64.toBitVec_and, Int64.toBitVec_shiftRight, Int64.toBitVec_toUInt64, BitVec.signExtend_eq_setWidth_of_le _ (by omega), BitVec.signExtend_eq_setWidth_of_le _ (by omega), BitVec.sshiftRight_eq', BitVec.ushiftRight_eq']
  rw [hs, hu]
  exact bv_byte a.toBitVec k hk
theorem q_byte (a : Int64) (j : Nat) (hj : j < 8) : ((((a.toUInt64 >>> (((8 * nI j) : Int32).toInt64.toUInt64 &&& Int64.toUInt64 63)).toInt64) : Int64).toInt32) &&& 255 = ((((a : Int64) >>> (((8 * nI j) : Int32).toInt64 &&& 63 : Int64)) &&& 255) : Int64).toInt32 := by
  refine q_byteG a (8 * j) _ _ (by omega) ?_ ?_
  · revert j; decide
  · revert j; decide
/-- byte j of v -/
def byt (v : Int64) (j : Nat) : Int32 := ((((v : Int64) >>> (((8 * nI j) : Int32).toInt64 &&& 63 : Int64)) &&& 255) : Int64).toInt32
/-- the bytes j .. m-1 of v written to r from place n + j on, the count set at o, f -/
def fdI (I : z_I) (r o f n : Nat) (v : Int64) (j m : Nat) : z_I := zI (fun a => if a = r then (fun k => if n + j ≤ k ∧ k < n + m then byt v (k - n) else I a k) else I a) o f (nI (n + m))
theorem fd_zero {r o f n m : Nat} {v : Int64} (h : I o f = nI (n + m)) : fdI I r o f n v m m = I := by
  funext a k
  unfold fdI
  rw [zI_v]
  by_cases g : a = o ∧ k = f
  · rw [if_pos g, g.1, g.2, h]
  · rw [if_neg g]
    by_cases ha : a = r
    · show (if a = r then (fun k => if n + m ≤ k ∧ k < n + m then byt v (k - n) else I a k) else I a) k = _
      rw [if_pos ha]
      exact if_neg (by omega)
    · show (if a = r then _ else I a) k = _
      rw [if_neg ha]
theorem fd_step {r o f n m j : Nat} {v : Int64} (hr : r ≠ o) (hj : j < m) : fdI (zI (zI I r (n + j) (byt v j)) o f (nI (n + j + 1))) r o f n v (j + 1) m = fdI I r o f n v j m := by
  funext a k
  unfold fdI
  rw [zI_v, zI_v]
  by_cases g : a = o ∧ k = f
  · rw [if_pos g, if_pos g]
  · rw [if_neg g, if_neg g]
    by_cases ha : a = r
    · show (if a = r then (fun k => if n + (j + 1) ≤ k ∧ k < n + m then byt v (k - n) else (zI (zI I r (n + j) (byt v j)) o f (nI (n + j + 1))) a k) else _) k = (if a = r then (fun k => if n + j ≤ k ∧ k < n + m then byt v (k - n) else I a k) else _) k
      rw [if_pos ha, if_pos ha]
      show (if n + (j + 1) ≤ k ∧ k < n + m then byt v (k - n) else (zI (zI I r (n + j) (byt v j)) o f (nI (n + j + 1))) a k) = (if n + j ≤ k ∧ k < n + m then byt v (k - n) else I a k)
      by_cases hk : n + (j + 1) ≤ k ∧ k < n + m
      · rw [if_pos hk, if_pos (by omega)]
      · rw [if_neg hk, zI_r (by omega), zI_v]
        by_cases hkj : k = n + j
        · rw [if_pos ⟨ha, hkj⟩, if_pos (by omega), hkj, Nat.add_sub_cancel_left]
        · rw [if_neg (fun q => hkj q.2), if_neg (by omega)]
    · show (if a = r then _ else (zI (zI I r (n + j) (byt v j)) o f (nI (n + j + 1))) a) k = (if a = r then _ else I a) k
      rw [if_neg ha, if_neg ha, zI_v, if_neg g, zI_r ha]
theorem c12_feed_loop {n m : Nat} {v : Int64} (hC : CLay K) (hb : n + m ≤ 60) (hm : m ≤ 8) : ∀ (t j : Nat) (I : z_I), j + t = m → I 5 1 = nI (n + j) → Q (some (.int (nI (n + m)))) (fdI I 6 5 1 n v j m) L → Z n0 xX12_feed (d + 2) 0 0 42 [(0, .ref (n0 + 0)), (1, .int (nI m)), (2, .long v), (4, .int (nI j))] [] K I L (z_q0 K Q) := by
  intro t
  induction t with
  | zero =>
    intro j I hj hn h
    have : j = m := by omega
    subst this
    refine wp_X12_feed_42 hC (iq (fun z => ?_) ?_)
    · have := q_lt.mp z
      omega
    · rw [fd_zero hn] at h
      rw [hn]
      exact h
  | succ t ih =>
    intro j I hj hn h
    refine wp_X12_feed_42 hC (ip (nI_lt (by omega) (by omega)) (wp_X7_add hC ?_))
    rw [hn, q_cl (by omega), q_byte v j (by omega), ← nI_succ, ← nI_succ]
    refine ip (nI_lt (b := 60) (by omega) (by omega)) ⟨q_inn (by omega) (by omega), rfl, ih (j + 1) _ (by omega) zI_s ?_⟩
    show Q _ (fdI (zI (zI I 6 (n + j) (byt v j)) 5 1 (nI (n + j + 1))) 6 5 1 n v (j + 1) m) L
    rw [fd_step (by omega) (by omega)]
    exact h
theorem c13_feed_loop {n m : Nat} {v : Int64} (hM : MLay K) (hb : n + m ≤ 60) (hm : m ≤ 8) : ∀ (t j : Nat) (I : z_I), j + t = m → I 59 21 = nI (n + j) → Q (some (.int (nI (n + m)))) (fdI I 76 59 21 n v j m) L → Z n0 xX13_feed (d + 2) 0 0 39 [(0, .ref (n0 + 59)), (1, .int (nI m)), (2, .long v), (4, .int (nI j))] [] K I L (z_q0 K Q) := by
  intro t
  induction t with
  | zero =>
    intro j I hj hn h
    have : j = m := by omega
    subst this
    refine wp_X13_feed_39 hM (iq (fun z => ?_) ?_)
    · have := q_lt.mp z
      omega
    · rw [fd_zero hn] at h
      rw [hn]
      exact h
  | succ t ih =>
    intro j I hj hn h
    refine wp_X13_feed_39 hM (ip (nI_lt (by omega) (by omega)) ?_)
    rw [hn, q_cl (by omega), ← nI_succ, ← nI_succ]
    refine ⟨q_inn (by omega) (by omega), ih (j + 1) _ (by omega) zI_s ?_⟩
    show Q _ (fdI (zI (zI I 76 (n + j) (byt v j)) 59 21 (nI (n + j + 1))) 76 59 21 n v (j + 1) m) L
    rw [fd_step (by omega) (by omega)]
    exact h
theorem op_feed {p : Int32} {v : Int64} {n : Nat} (hC : CLay K) (hM : MLay K) (hn : I 5 1 = nI n) (hn2 : I 59 21 = nI n) (hb : n ≤ 60) (hr : ∀ k, 1 ≤ k → k ≤ 7 → P (rfI I k) L)
    (hs : ∀ m, 1 ≤ m → m ≤ 8 → n + m ≤ 60 → p = nI m → P (fdI (fdI I 6 5 1 n v 0 m) 76 59 21 n v 0 m) L) : Op0 n0 xX12_feed xX13_feed (d + 2) (d + 2) [.int p, .long v] K I L P := by
  have c1 : (1 : Int32).toInt = 1 := rfl
  have c2 : (8 : Int32).toInt = 8 := rfl
  have c3 : (60 : Int32).toInt = 60 := rfl
  refine wp_X12_feed hC ?_
  by_cases h1 : p < 1
  · exact ip h1 (op_rf 4 hC (by omega) (by omega) rfl (wp_X13_feed hM (ip h1 (op_rr 4 hM (by omega) rfl (hr 4 (by omega) (by omega))))))
  refine iq h1 ?_
  by_cases h2 : 8 < p
  · exact ip h2 (op_rf 6 hC (by omega) (by omega) rfl (wp_X13_feed hM (iq h1 (ip h2 (op_rr 6 hM (by omega) rfl (hr 6 (by omega) (by omega)))))))
  refine iq h2 ?_
  have h1' := mt q_lt.mpr h1
  have h2' := mt q_lt.mpr h2
  obtain ⟨m, rfl, hm1, em⟩ := q_of (show 0 ≤ p.toInt by omega)
  have en : (nI n).toInt = (n : Int) := q_nI (by omega)
  have e1 : ((60 : Int32) - nI n).toInt = 60 - (n : Int) := by rw [q_sub (by omega) (by omega), en, c3]
  have e2 : (nI (n + m)).toInt = ((n + m : Nat) : Int) := q_nI (by omega)
  rw [hn]
  by_cases h3 : 60 < n + m
  · refine ip (q_lt.mpr (by omega)) (op_rf 6 hC (by omega) (by omega) rfl (wp_X13_feed hM (iq h1 (iq h2 (ip ?_ (op_rr 6 hM (by omega) rfl (hr 6 (by omega) (by omega))))))))
    rw [zI_r (by omega), hn2, q_nadd]
    exact q_lt.mpr (by omega)
  · refine iq (fun z => by have := q_lt.mp z; omega) (c12_feed_loop (n := n) (m := m) hC (by omega) (by omega) m 0 I (by omega) hn ⟨_, rfl, wp_X13_feed hM (iq h1 (iq h2 (iq ?_ (c13_feed_loop (n := n) (m := m) hM (by omega) (by omega) m 0 _ (by omega) ?_ ⟨rfl, hs m (by omega) (by omega) (by omega) rfl⟩))))⟩)
    · have y : (fdI I 6 5 1 n v 0 m) 59 21 = nI n := by
        unfold fdI
        rw [zI_r (by omega)]
        show (if 59 = 6 then _ else I 59) 21 = _
        rw [if_neg (by omega)]; exact hn2
      rw [y, q_nadd]
      exact fun z => by have := q_lt.mp z; omega
    · unfold fdI
      rw [zI_r (by omega)]
      show (if 59 = 6 then _ else I 59) 21 = _
      rw [if_neg (by omega)]; exact hn2
end FED
