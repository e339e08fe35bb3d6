theorem dX13_in_0 : decode cX13_in 0 = .ok (.lload_n 0, 1) := by decide +kernel
theorem dX13_in_1 : decode cX13_in 1 = .ok (.lload_n 2, 1) := by decide +kernel
theorem dX13_in_2 : decode cX13_in 2 = .ok (.lcmp, 1) := by decide +kernel
theorem dX13_in_3 : decode cX13_in 3 = .ok (.ifCond .lt 14, 3) := by decide +kernel
theorem dX13_in_6 : decode cX13_in 6 = .ok (.lload_n 0, 1) := by decide +kernel
theorem dX13_in_7 : decode cX13_in 7 = .ok (.lload 4, 2) := by decide +kernel
theorem dX13_in_9 : decode cX13_in 9 = .ok (.lcmp, 1) := by decide +kernel
theorem dX13_in_10 : decode cX13_in 10 = .ok (.ifCond .gt 7, 3) := by decide +kernel
theorem dX13_in_13 : decode cX13_in 13 = .ok (.iconst 1, 1) := by decide +kernel
theorem dX13_in_14 : decode cX13_in 14 = .ok (.goto 4, 3) := by decide +kernel
theorem dX13_in_17 : decode cX13_in 17 = .ok (.iconst 0, 1) := by decide +kernel
theorem dX13_in_18 : decode cX13_in 18 = .ok (.ireturn, 1) := by decide +kernel
set_option maxRecDepth 100000 in
set_option maxHeartbeats 4000000 in
theorem wp_X13_in {n0 d : Nat} {K : z_K} {I : z_I} {L : z_L} {Q : z_q} {p0 : Int64} {p1 : Int64} {p2 : Int64} (hL : MLay K) (h : (if p0 < p1 then Q (some (.int 0)) I L else (if p2 < p0 then Q (some (.int 0)) I L else Q (some (.int 1)) I L))) : RM0 n0 xX13_in d [.long p0, .long p1, .long p2] K I L Q := by
  refine z_entry0 (by decide) (Nat.le_of_ble_eq_true rfl) ?_
  change Z n0 xX13_in d 0 0 0 [(0, .long p0), (2, .long p1), (4, .long p2)] [] K I L (z_q0 K Q)
  refine z_lload_n 0 dX13_in_0 rfl ?_
  refine z_lload_n 1 dX13_in_1 rfl ?_
  refine z_lif_lt 17 dX13_in_2 dX13_in_3 (by decide) (fun g1 => ?_) (fun g1 => ?_)
  · rw [if_pos g1] at h
    refine z_iconst 0 dX13_in_17 (by decide) ?_
    exact z_zretb dX13_in_18 rfl (Or.inl rfl) ⟨rfl, h⟩
  · rw [if_neg g1] at h
    refine z_lload_n 0 dX13_in_6 rfl ?_
    refine z_lload 2 dX13_in_7 rfl ?_
    refine z_lif_gt 17 dX13_in_9 dX13_in_10 (by decide) (fun g2 => ?_) (fun g2 => ?_)
    · rw [if_pos g2] at h
      refine z_iconst 0 dX13_in_17 (by decide) ?_
      exact z_zretb dX13_in_18 rfl (Or.inl rfl) ⟨rfl, h⟩
    · rw [if_neg g2] at h
      refine z_iconst 1 dX13_in_13 (by decide) ?_
      refine z_goto 18 dX13_in_14 (by decide) ?_
      exact z_zretb dX13_in_18 rfl (Or.inr rfl) ⟨rfl, h⟩
theorem dX13_refuse_0 : decode cX13_refuse 0 = .ok (.aload_n 0, 1) := by decide +kernel
theorem dX13_refuse_1 : decode cX13_refuse 1 = .ok (.getfield 56, 3) := by decide +kernel
theorem dX13_refuse_4 : decode cX13_refuse 4 = .ok (.iload_n 1, 1) := by decide +kernel
theorem dX13_refuse_5 : decode cX13_refuse 5 = .ok (.ineg, 1) := by decide +kernel
theorem dX13_refuse_6 : decode cX13_refuse 6 = .ok (.dup2, 1) := by decide +kernel
theorem dX13_refuse_7 : decode cX13_refuse 7 = .ok (.iaload, 1) := by decide +kernel
theorem dX13_refuse_8 : decode cX13_refuse 8 = .ok (.iconst 1, 1) := by decide +kernel
theorem dX13_refuse_9 : decode cX13_refuse 9 = .ok (.iadd, 1) := by decide +kernel
theorem dX13_refuse_10 : decode cX13_refuse 10 = .ok (.iastore, 1) := by decide +kernel
theorem dX13_refuse_11 : decode cX13_refuse 11 = .ok (.iload_n 1, 1) := by decide +kernel
theorem dX13_refuse_12 : decode cX13_refuse 12 = .ok (.ireturn, 1) := by decide +kernel
set_option maxRecDepth 100000 in
set_option maxHeartbeats 4000000 in
theorem wp_X13_refuse {n0 d : Nat} {K : z_K} {I : z_I} {L : z_L} {Q : z_q} {p0 : Int32} (hL : MLay K) (h : vp_in (-p0) 8 ∧ Q (some (.int p0)) (zI I 75 ((-p0).toNatClampNeg) ((I 75 ((-p0).toNatClampNeg)) + 1)) L) : RM0 n0 xX13_refuse d [.ref (n0 + 59), .int p0] K I L Q := by
  refine z_entry0 (by decide) (Nat.le_of_ble_eq_true rfl) ?_
  change Z n0 xX13_refuse d 0 0 0 [(0, .ref (n0 + 59)), (1, .int p0)] [] K I L (z_q0 K Q)
  refine z_aload_n 0 dX13_refuse_0 rfl ?_
  refine fg_13_56 (some 75) rfl dX13_refuse_1 hL.1 hL.2.1 (ma_19 hL).1 ?_
  refine z_iload_n 1 dX13_refuse_4 rfl ?_
  refine z_ineg dX13_refuse_5 ?_
  refine z_dup2 dX13_refuse_6 rfl rfl ?_
  obtain ⟨o1, h⟩ := h
  refine z_iald (I 75 ((-p0).toNatClampNeg)) dX13_refuse_7 (ma_19 hL).2.1 (ma_19 hL).2.2 o1 rfl ?_
  refine z_iconst 1 dX13_refuse_8 (by decide) ?_
  refine z_iadd dX13_refuse_9 ?_
  refine z_iast dX13_refuse_10 (ma_19 hL).2.1 (ma_19 hL).2.2 o1 ?_
  refine z_iload_n 1 dX13_refuse_11 rfl ?_
  exact z_iret dX13_refuse_12 rfl ⟨rfl, h⟩
theorem dX13_refuseFar_0 : decode cX13_refuseFar 0 = .ok (.aload_n 0, 1) := by decide +kernel
theorem dX13_refuseFar_1 : decode cX13_refuseFar 1 = .ok (.getfield 56, 3) := by decide +kernel
theorem dX13_refuseFar_4 : decode cX13_refuseFar 4 = .ok (.iload_n 1, 1) := by decide +kernel
theorem dX13_refuseFar_5 : decode cX13_refuseFar 5 = .ok (.ineg, 1) := by decide +kernel
theorem dX13_refuseFar_6 : decode cX13_refuseFar 6 = .ok (.dup2, 1) := by decide +kernel
theorem dX13_refuseFar_7 : decode cX13_refuseFar 7 = .ok (.iaload, 1) := by decide +kernel
theorem dX13_refuseFar_8 : decode cX13_refuseFar 8 = .ok (.iconst 1, 1) := by decide +kernel
theorem dX13_refuseFar_9 : decode cX13_refuseFar 9 = .ok (.iadd, 1) := by decide +kernel
theorem dX13_refuseFar_10 : decode cX13_refuseFar 10 = .ok (.iastore, 1) := by decide +kernel
theorem dX13_refuseFar_11 : decode cX13_refuseFar 11 = .ok (.ldc_w 288, 3) := by decide +kernel
theorem dX13_refuseFar_14 : decode cX13_refuseFar 14 = .ok (.iload_n 1, 1) := by decide +kernel
theorem dX13_refuseFar_15 : decode cX13_refuseFar 15 = .ok (.isub, 1) := by decide +kernel
theorem dX13_refuseFar_16 : decode cX13_refuseFar 16 = .ok (.ireturn, 1) := by decide +kernel
set_option maxRecDepth 100000 in
set_option maxHeartbeats 4000000 in
theorem wp_X13_refuseFar {n0 d : Nat} {K : z_K} {I : z_I} {L : z_L} {Q : z_q} {p0 : Int32} (hL : MLay K) (h : vp_in (-p0) 8 ∧ Q (some (.int (1000000000 - p0))) (zI I 75 ((-p0).toNatClampNeg) ((I 75 ((-p0).toNatClampNeg)) + 1)) L) : RM0 n0 xX13_refuseFar d [.ref (n0 + 59), .int p0] K I L Q := by
  refine z_entry0 (by decide) (Nat.le_of_ble_eq_true rfl) ?_
  change Z n0 xX13_refuseFar d 0 0 0 [(0, .ref (n0 + 59)), (1, .int p0)] [] K I L (z_q0 K Q)
  refine z_aload_n 0 dX13_refuseFar_0 rfl ?_
  refine fg_13_56 (some 75) rfl dX13_refuseFar_1 hL.1 hL.2.1 (ma_19 hL).1 ?_
  refine z_iload_n 1 dX13_refuseFar_4 rfl ?_
  refine z_ineg dX13_refuseFar_5 ?_
  refine z_dup2 dX13_refuseFar_6 rfl rfl ?_
  obtain ⟨o1, h⟩ := h
  refine z_iald (I 75 ((-p0).toNatClampNeg)) dX13_refuseFar_7 (ma_19 hL).2.1 (ma_19 hL).2.2 o1 rfl ?_
  refine z_iconst 1 dX13_refuseFar_8 (by decide) ?_
  refine z_iadd dX13_refuseFar_9 ?_
  refine z_iast dX13_refuseFar_10 (ma_19 hL).2.1 (ma_19 hL).2.2 o1 ?_
  refine z_ldc_w 1000000000 dX13_refuseFar_11 wg_1824 ?_
  refine z_iload_n 1 dX13_refuseFar_14 rfl ?_
  refine z_isub dX13_refuseFar_15 ?_
  exact z_iret dX13_refuseFar_16 rfl ⟨rfl, h⟩
theorem dX13_isMeasure_0 : decode cX13_isMeasure 0 = .ok (.iload_n 0, 1) := by decide +kernel
theorem dX13_isMeasure_1 : decode cX13_isMeasure 1 = .ok (.i2l, 1) := by decide +kernel
theorem dX13_isMeasure_2 : decode cX13_isMeasure 2 = .ok (.lconst 0, 1) := by decide +kernel
theorem dX13_isMeasure_3 : decode cX13_isMeasure 3 = .ok (.ldc2_w 289, 3) := by decide +kernel
theorem dX13_isMeasure_6 : decode cX13_isMeasure 6 = .ok (.invokestatic 291, 3) := by decide +kernel
theorem dX13_isMeasure_9 : decode cX13_isMeasure 9 = .ok (.ireturn, 1) := by decide +kernel
set_option maxRecDepth 100000 in
set_option maxHeartbeats 4000000 in
theorem wp_X13_isMeasure {n0 d : Nat} {K : z_K} {I : z_I} {L : z_L} {Q : z_q} {p0 : Int32} (hL : MLay K) (h : RM0 n0 xX13_in d [.long p0.toInt64, .long 0, .long 7] K I L (fun vv I1 L2 => ∃ r3 : Int32, vv = some (.int r3) ∧ z_b r3 ∧ Q (some (.int r3)) I1 L2)) : RM0 n0 xX13_isMeasure (d + 1) [.int p0] K I L Q := by
  refine z_entry0 (by decide) (Nat.le_of_ble_eq_true rfl) ?_
  change Z n0 xX13_isMeasure (d + 1) 0 0 0 [(0, .int p0)] [] K I L (z_q0 K Q)
  refine z_iload_n 0 dX13_isMeasure_0 rfl ?_
  refine z_i2l dX13_isMeasure_1 ?_
  refine z_lconst 0 dX13_isMeasure_2 (by decide) ?_
  refine z_ldc2_w 7 dX13_isMeasure_3 wg_1789 ?_
  refine z_callS0 (As := [.long p0.toInt64, .long 0, .long 7]) (st := []) dX13_isMeasure_6 hy_X13_in wg_1790 wg_1791 (Nat.le_refl _) (Nat.le_of_ble_eq_true rfl) (RM0.mono h (fun vv I1 L2 h => ?_))
  obtain ⟨r3, rfl, h⟩ := h
  change Z n0 xX13_isMeasure (d + 1) 0 0 9 [(0, .int p0)] [.int r3] K I1 L2 (z_q0 K Q)
  obtain ⟨o4, h⟩ := h
  exact z_zretb dX13_isMeasure_9 rfl o4 ⟨rfl, h⟩
theorem dX13_isSize_0 : decode cX13_isSize 0 = .ok (.iload_n 0, 1) := by decide +kernel
theorem dX13_isSize_1 : decode cX13_isSize 1 = .ok (.i2l, 1) := by decide +kernel
theorem dX13_isSize_2 : decode cX13_isSize 2 = .ok (.lconst 0, 1) := by decide +kernel
theorem dX13_isSize_3 : decode cX13_isSize 3 = .ok (.ldc2_w 295, 3) := by decide +kernel
theorem dX13_isSize_6 : decode cX13_isSize 6 = .ok (.invokestatic 291, 3) := by decide +kernel
theorem dX13_isSize_9 : decode cX13_isSize 9 = .ok (.ireturn, 1) := by decide +kernel
set_option maxRecDepth 100000 in
set_option maxHeartbeats 4000000 in
theorem wp_X13_isSize {n0 d : Nat} {K : z_K} {I : z_I} {L : z_L} {Q : z_q} {p0 : Int32} (hL : MLay K) (h : RM0 n0 xX13_in d [.long p0.toInt64, .long 0, .long 10] K I L (fun vv I1 L2 => ∃ r3 : Int32, vv = some (.int r3) ∧ z_b r3 ∧ Q (some (.int r3)) I1 L2)) : RM0 n0 xX13_isSize (d + 1) [.int p0] K I L Q := by
  refine z_entry0 (by decide) (Nat.le_of_ble_eq_true rfl) ?_
  change Z n0 xX13_isSize (d + 1) 0 0 0 [(0, .int p0)] [] K I L (z_q0 K Q)
  refine z_iload_n 0 dX13_isSize_0 rfl ?_
  refine z_i2l dX13_isSize_1 ?_
  refine z_lconst 0 dX13_isSize_2 (by decide) ?_
  refine z_ldc2_w 10 dX13_isSize_3 wg_1796 ?_
  refine z_callS0 (As := [.long p0.toInt64, .long 0, .long 10]) (st := []) dX13_isSize_6 hy_X13_in wg_1790 wg_1791 (Nat.le_refl _) (Nat.le_of_ble_eq_true rfl) (RM0.mono h (fun vv I1 L2 h => ?_))
  obtain ⟨r3, rfl, h⟩ := h
  change Z n0 xX13_isSize (d + 1) 0 0 9 [(0, .int p0)] [.int r3] K I1 L2 (z_q0 K Q)
  obtain ⟨o4, h⟩ := h
  exact z_zretb dX13_isSize_9 rfl o4 ⟨rfl, h⟩
theorem dX13_isBody_0 : decode cX13_isBody 0 = .ok (.iload_n 1, 1) := by decide +kernel
theorem dX13_isBody_1 : decode cX13_isBody 1 = .ok (.i2l, 1) := by decide +kernel
theorem dX13_isBody_2 : decode cX13_isBody 2 = .ok (.lconst 0, 1) := by decide +kernel
theorem dX13_isBody_3 : decode cX13_isBody 3 = .ok (.aload_n 0, 1) := by decide +kernel
theorem dX13_isBody_4 : decode cX13_isBody 4 = .ok (.getfield 297, 3) := by decide +kernel
theorem dX13_isBody_7 : decode cX13_isBody 7 = .ok (.iconst 1, 1) := by decide +kernel
theorem dX13_isBody_8 : decode cX13_isBody 8 = .ok (.isub, 1) := by decide +kernel
theorem dX13_isBody_9 : decode cX13_isBody 9 = .ok (.i2l, 1) := by decide +kernel
theorem dX13_isBody_10 : decode cX13_isBody 10 = .ok (.invokestatic 291, 3) := by decide +kernel
theorem dX13_isBody_13 : decode cX13_isBody 13 = .ok (.ireturn, 1) := by decide +kernel
set_option maxRecDepth 100000 in
set_option maxHeartbeats 4000000 in
theorem wp_X13_isBody {n0 d : Nat} {K : z_K} {I : z_I} {L : z_L} {Q : z_q} {p0 : Int32} (hL : MLay K) (h : RM0 n0 xX13_in d [.long p0.toInt64, .long 0, .long ((((I 59 6) - 1) : Int32).toInt64)] K I L (fun vv I1 L2 => ∃ r3 : Int32, vv = some (.int r3) ∧ z_b r3 ∧ Q (some (.int r3)) I1 L2)) : RM0 n0 xX13_isBody (d + 1) [.ref (n0 + 59), .int p0] K I L Q := by
  refine z_entry0 (by decide) (Nat.le_of_ble_eq_true rfl) ?_
  change Z n0 xX13_isBody (d + 1) 0 0 0 [(0, .ref (n0 + 59)), (1, .int p0)] [] K I L (z_q0 K Q)
  refine z_iload_n 1 dX13_isBody_0 rfl ?_
  refine z_i2l dX13_isBody_1 ?_
  refine z_lconst 0 dX13_isBody_2 (by decide) ?_
  refine z_aload_n 0 dX13_isBody_3 rfl ?_
  refine fg_13_297 (I 59 6) rfl dX13_isBody_4 hL.1 hL.2.1 rfl ?_
  refine z_iconst 1 dX13_isBody_7 (by decide) ?_
  refine z_isub dX13_isBody_8 ?_
  refine z_i2l dX13_isBody_9 ?_
  refine z_callS0 (As := [.long p0.toInt64, .long 0, .long ((((I 59 6) - 1) : Int32).toInt64)]) (st := []) dX13_isBody_10 hy_X13_in wg_1790 wg_1791 (Nat.le_refl _) (Nat.le_of_ble_eq_true rfl) (RM0.mono h (fun vv I1 L2 h => ?_))
  obtain ⟨r3, rfl, h⟩ := h
  change Z n0 xX13_isBody (d + 1) 0 0 13 [(0, .ref (n0 + 59)), (1, .int p0)] [.int r3] K I1 L2 (z_q0 K Q)
  obtain ⟨o4, h⟩ := h
  exact z_zretb dX13_isBody_13 rfl o4 ⟨rfl, h⟩
theorem dX13_isPiece_0 : decode cX13_isPiece 0 = .ok (.iload_n 1, 1) := by decide +kernel
theorem dX13_isPiece_1 : decode cX13_isPiece 1 = .ok (.i2l, 1) := by decide +kernel
theorem dX13_isPiece_2 : decode cX13_isPiece 2 = .ok (.lconst 0, 1) := by decide +kernel
theorem dX13_isPiece_3 : decode cX13_isPiece 3 = .ok (.aload_n 0, 1) := by decide +kernel
theorem dX13_isPiece_4 : decode cX13_isPiece 4 = .ok (.getfield 301, 3) := by decide +kernel
theorem dX13_isPiece_7 : decode cX13_isPiece 7 = .ok (.iconst 1, 1) := by decide +kernel
theorem dX13_isPiece_8 : decode cX13_isPiece 8 = .ok (.isub, 1) := by decide +kernel
theorem dX13_isPiece_9 : decode cX13_isPiece 9 = .ok (.i2l, 1) := by decide +kernel
theorem dX13_isPiece_10 : decode cX13_isPiece 10 = .ok (.invokestatic 291, 3) := by decide +kernel
theorem dX13_isPiece_13 : decode cX13_isPiece 13 = .ok (.ireturn, 1) := by decide +kernel
set_option maxRecDepth 100000 in
set_option maxHeartbeats 4000000 in
theorem wp_X13_isPiece {n0 d : Nat} {K : z_K} {I : z_I} {L : z_L} {Q : z_q} {p0 : Int32} (hL : MLay K) (h : RM0 n0 xX13_in d [.long p0.toInt64, .long 0, .long ((((I 59 9) - 1) : Int32).toInt64)] K I L (fun vv I1 L2 => ∃ r3 : Int32, vv = some (.int r3) ∧ z_b r3 ∧ Q (some (.int r3)) I1 L2)) : RM0 n0 xX13_isPiece (d + 1) [.ref (n0 + 59), .int p0] K I L Q := by
  refine z_entry0 (by decide) (Nat.le_of_ble_eq_true rfl) ?_
  change Z n0 xX13_isPiece (d + 1) 0 0 0 [(0, .ref (n0 + 59)), (1, .int p0)] [] K I L (z_q0 K Q)
  refine z_iload_n 1 dX13_isPiece_0 rfl ?_
  refine z_i2l dX13_isPiece_1 ?_
  refine z_lconst 0 dX13_isPiece_2 (by decide) ?_
  refine z_aload_n 0 dX13_isPiece_3 rfl ?_
  refine fg_13_301 (I 59 9) rfl dX13_isPiece_4 hL.1 hL.2.1 rfl ?_
  refine z_iconst 1 dX13_isPiece_7 (by decide) ?_
  refine z_isub dX13_isPiece_8 ?_
  refine z_i2l dX13_isPiece_9 ?_
  refine z_callS0 (As := [.long p0.toInt64, .long 0, .long ((((I 59 9) - 1) : Int32).toInt64)]) (st := []) dX13_isPiece_10 hy_X13_in wg_1790 wg_1791 (Nat.le_refl _) (Nat.le_of_ble_eq_true rfl) (RM0.mono h (fun vv I1 L2 h => ?_))
  obtain ⟨r3, rfl, h⟩ := h
  change Z n0 xX13_isPiece (d + 1) 0 0 13 [(0, .ref (n0 + 59)), (1, .int p0)] [.int r3] K I1 L2 (z_q0 K Q)
  obtain ⟨o4, h⟩ := h
  exact z_zretb dX13_isPiece_13 rfl o4 ⟨rfl, h⟩
theorem dX13_isPoint_0 : decode cX13_isPoint 0 = .ok (.aload_n 0, 1) := by decide +kernel
theorem dX13_isPoint_1 : decode cX13_isPoint 1 = .ok (.iload_n 1, 1) := by decide +kernel
theorem dX13_isPoint_2 : decode cX13_isPoint 2 = .ok (.invokevirtual 304, 3) := by decide +kernel
theorem dX13_isPoint_5 : decode cX13_isPoint 5 = .ok (.ifCond .eq 25, 3) := by decide +kernel
theorem dX13_isPoint_8 : decode cX13_isPoint 8 = .ok (.iload_n 2, 1) := by decide +kernel
theorem dX13_isPoint_9 : decode cX13_isPoint 9 = .ok (.i2l, 1) := by decide +kernel
theorem dX13_isPoint_10 : decode cX13_isPoint 10 = .ok (.lconst 0, 1) := by decide +kernel
theorem dX13_isPoint_11 : decode cX13_isPoint 11 = .ok (.aload_n 0, 1) := by decide +kernel
theorem dX13_isPoint_12 : decode cX13_isPoint 12 = .ok (.getfield 31, 3) := by decide +kernel
theorem dX13_isPoint_15 : decode cX13_isPoint 15 = .ok (.iload_n 1, 1) := by decide +kernel
theorem dX13_isPoint_16 : decode cX13_isPoint 16 = .ok (.iaload, 1) := by decide +kernel
theorem dX13_isPoint_17 : decode cX13_isPoint 17 = .ok (.iconst 1, 1) := by decide +kernel
theorem dX13_isPoint_18 : decode cX13_isPoint 18 = .ok (.isub, 1) := by decide +kernel
theorem dX13_isPoint_19 : decode cX13_isPoint 19 = .ok (.i2l, 1) := by decide +kernel
theorem dX13_isPoint_20 : decode cX13_isPoint 20 = .ok (.invokestatic 291, 3) := by decide +kernel
theorem dX13_isPoint_23 : decode cX13_isPoint 23 = .ok (.ifCond .eq 7, 3) := by decide +kernel
theorem dX13_isPoint_26 : decode cX13_isPoint 26 = .ok (.iconst 1, 1) := by decide +kernel
theorem dX13_isPoint_27 : decode cX13_isPoint 27 = .ok (.goto 4, 3) := by decide +kernel
theorem dX13_isPoint_30 : decode cX13_isPoint 30 = .ok (.iconst 0, 1) := by decide +kernel
theorem dX13_isPoint_31 : decode cX13_isPoint 31 = .ok (.ireturn, 1) := by decide +kernel
set_option maxRecDepth 100000 in
set_option maxHeartbeats 4000000 in
theorem wp_X13_isPoint {n0 d : Nat} {K : z_K} {I : z_I} {L : z_L} {Q : z_q} {p0 : Int32} {p1 : Int32} (hL : MLay K) (h : RM0 n0 xX13_isPiece d [.ref (n0 + 59), .int p0] K I L (fun vv I1 L2 => ∃ r3 : Int32, vv = some (.int r3) ∧ (if r3 = 0 then Q (some (.int 0)) I1 L2 else vp_in p0 16 ∧ RM0 n0 xX13_in d [.long p1.toInt64, .long 0, .long ((((I1 67 p0.toNatClampNeg) - 1) : Int32).toInt64)] K I1 L2 (fun vv I6 L7 => ∃ r8 : Int32, vv = some (.int r8) ∧ Q (some (.int (if r8 = 0 then 0 else 1))) I6 L7)))) : RM0 n0 xX13_isPoint (d + 1) [.ref (n0 + 59), .int p0, .int p1] K I L Q := by
  refine z_entry0 (by decide) (Nat.le_of_ble_eq_true rfl) ?_
  change Z n0 xX13_isPoint (d + 1) 0 0 0 [(0, .ref (n0 + 59)), (1, .int p0), (2, .int p1)] [] K I L (z_q0 K Q)
  refine z_aload_n 0 dX13_isPoint_0 rfl ?_
  refine z_iload_n 1 dX13_isPoint_1 rfl ?_
  refine z_callV0 (As := [.int p0]) (st := []) dX13_isPoint_2 hy_X13_isPiece hL.1 hL.2.1 (by decide) wg_1838 wg_1840 wg_59 (Nat.le_refl _) (Nat.le_of_ble_eq_true rfl) (RM0.mono h (fun vv I1 L2 h => ?_))
  obtain ⟨r3, rfl, h⟩ := h
  change Z n0 xX13_isPoint (d + 1) 0 0 5 [(0, .ref (n0 + 59)), (1, .int p0), (2, .int p1)] [.int r3] K I1 L2 (z_q0 K Q)
  refine z_if_eq 30 dX13_isPoint_5 (by decide) (fun g4 => ?_) (fun g4 => ?_)
  · rw [if_pos g4] at h
    refine z_iconst 0 dX13_isPoint_30 (by decide) ?_
    exact z_zretb dX13_isPoint_31 rfl (Or.inl rfl) ⟨rfl, h⟩
  · rw [if_neg g4] at h
    refine z_iload_n 2 dX13_isPoint_8 rfl ?_
    refine z_i2l dX13_isPoint_9 ?_
    refine z_lconst 0 dX13_isPoint_10 (by decide) ?_
    refine z_aload_n 0 dX13_isPoint_11 rfl ?_
    refine fg_13_31 (some 67) rfl dX13_isPoint_12 hL.1 hL.2.1 (ma_11 hL).1 ?_
    refine z_iload_n 1 dX13_isPoint_15 rfl ?_
    obtain ⟨o5, h⟩ := h
    refine z_iald (I1 67 p0.toNatClampNeg) dX13_isPoint_16 (ma_11 hL).2.1 (ma_11 hL).2.2 o5 rfl ?_
    refine z_iconst 1 dX13_isPoint_17 (by decide) ?_
    refine z_isub dX13_isPoint_18 ?_
    refine z_i2l dX13_isPoint_19 ?_
    refine z_callS0 (As := [.long p1.toInt64, .long 0, .long ((((I1 67 p0.toNatClampNeg) - 1) : Int32).toInt64)]) (st := []) dX13_isPoint_20 hy_X13_in wg_1790 wg_1791 (Nat.le_refl _) (Nat.le_of_ble_eq_true rfl) (RM0.mono h (fun vv I6 L7 h => ?_))
    obtain ⟨r8, rfl, h⟩ := h
    change Z n0 xX13_isPoint (d + 1) 0 0 23 [(0, .ref (n0 + 59)), (1, .int p0), (2, .int p1)] [.int r8] K I6 L7 (z_q0 K Q)
    have key10 : Z n0 xX13_isPoint (d + 1) 0 0 31 [] [.int (if r8 = 0 then 0 else 1)] K I6 L7 (z_q0 K Q) := by
      exact z_zretb dX13_isPoint_31 rfl (z_bite (by repeat' (first | exact Or.inl rfl | exact Or.inr rfl | split))) ⟨rfl, h⟩
    refine z_if_eq 30 dX13_isPoint_23 (by decide) (fun g9 => ?_) (fun g9 => ?_)
    · refine z_iconst 0 dX13_isPoint_30 (by decide) ?_
      have ee : ((if r8 = 0 then 0 else 1) : Int32) = 0 := by rw [if_pos g9]
      rw [ee] at key10
      clear ee
      refine z_sub [] rfl ?_
      exact key10
    · refine z_iconst 1 dX13_isPoint_26 (by decide) ?_
      refine z_goto 31 dX13_isPoint_27 (by decide) ?_
      have ee : ((if r8 = 0 then 0 else 1) : Int32) = 1 := by rw [if_neg g9]
      rw [ee] at key10
      clear ee
      refine z_sub [] rfl ?_
      exact key10
theorem dX13_bounds_0 : decode cX13_bounds 0 = .ok (.iload_n 0, 1) := by decide +kernel
theorem dX13_bounds_1 : decode cX13_bounds 1 = .ok (.iload_n 1, 1) := by decide +kernel
theorem dX13_bounds_2 : decode cX13_bounds 2 = .ok (.if_icmp .ge 8, 3) := by decide +kernel
theorem dX13_bounds_5 : decode cX13_bounds 5 = .ok (.bipush (-4), 2) := by decide +kernel
theorem dX13_bounds_7 : decode cX13_bounds 7 = .ok (.goto 14, 3) := by decide +kernel
theorem dX13_bounds_10 : decode cX13_bounds 10 = .ok (.iload_n 0, 1) := by decide +kernel
theorem dX13_bounds_11 : decode cX13_bounds 11 = .ok (.iload_n 2, 1) := by decide +kernel
theorem dX13_bounds_12 : decode cX13_bounds 12 = .ok (.if_icmp .le 8, 3) := by decide +kernel
theorem dX13_bounds_15 : decode cX13_bounds 15 = .ok (.bipush (-6), 2) := by decide +kernel
theorem dX13_bounds_17 : decode cX13_bounds 17 = .ok (.goto 4, 3) := by decide +kernel
theorem dX13_bounds_20 : decode cX13_bounds 20 = .ok (.iconst 0, 1) := by decide +kernel
theorem dX13_bounds_21 : decode cX13_bounds 21 = .ok (.ireturn, 1) := by decide +kernel
set_option maxRecDepth 100000 in
set_option maxHeartbeats 4000000 in
theorem wp_X13_bounds {n0 d : Nat} {K : z_K} {I : z_I} {L : z_L} {Q : z_q} {p0 : Int32} {p1 : Int32} {p2 : Int32} (hL : MLay K) (h : Q (some (.int (if p0 < p1 then (-4) else if p2 < p0 then (-6) else 0))) I L) : RM0 n0 xX13_bounds d [.int p0, .int p1, .int p2] K I L Q := by
  refine z_entry0 (by decide) (Nat.le_of_ble_eq_true rfl) ?_
  change Z n0 xX13_bounds d 0 0 0 [(0, .int p0), (1, .int p1), (2, .int p2)] [] K I L (z_q0 K Q)
  refine z_iload_n 0 dX13_bounds_0 rfl ?_
  refine z_iload_n 1 dX13_bounds_1 rfl ?_
  have key3 : Z n0 xX13_bounds d 0 0 21 [] [.int (if p0 < p1 then (-4) else if p2 < p0 then (-6) else 0)] K I L (z_q0 K Q) := by
    exact z_iret dX13_bounds_21 rfl ⟨rfl, h⟩
  refine z_icmp_ge 10 dX13_bounds_2 (by decide) (fun g1 => ?_) (fun g1 => ?_)
  · refine z_iload_n 0 dX13_bounds_10 rfl ?_
    refine z_iload_n 2 dX13_bounds_11 rfl ?_
    refine z_icmp_le 20 dX13_bounds_12 (by decide) (fun g2 => ?_) (fun g2 => ?_)
    · refine z_iconst 0 dX13_bounds_20 (by decide) ?_
      have ee : ((if p0 < p1 then (-4) else if p2 < p0 then (-6) else 0) : Int32) = 0 := by rw [if_neg g1, if_neg g2]
      rw [ee] at key3
      clear ee
      refine z_sub [] rfl ?_
      exact key3
    · refine z_bipush (-6) dX13_bounds_15 (by decide) ?_
      refine z_goto 21 dX13_bounds_17 (by decide) ?_
      have ee : ((if p0 < p1 then (-4) else if p2 < p0 then (-6) else 0) : Int32) = (-6) := by rw [if_neg g1, if_pos g2]
      rw [ee] at key3
      clear ee
      refine z_sub [] rfl ?_
      exact key3
  · refine z_bipush (-4) dX13_bounds_5 (by decide) ?_
    refine z_goto 21 dX13_bounds_7 (by decide) ?_
    have ee : ((if p0 < p1 then (-4) else if p2 < p0 then (-6) else 0) : Int32) = (-4) := by rw [if_pos g1]
    rw [ee] at key3
    clear ee
    refine z_sub [] rfl ?_
    exact key3
theorem dX13_days_0 : decode cX13_days 0 = .ok (.iload_n 1, 1) := by decide +kernel
theorem dX13_days_1 : decode cX13_days 1 = .ok (.iconst 1, 1) := by decide +kernel
theorem dX13_days_2 : decode cX13_days 2 = .ok (.if_icmp .ge 10, 3) := by decide +kernel
theorem dX13_days_5 : decode cX13_days 5 = .ok (.aload_n 0, 1) := by decide +kernel
theorem dX13_days_6 : decode cX13_days 6 = .ok (.bipush (-4), 2) := by decide +kernel
theorem dX13_days_8 : decode cX13_days 8 = .ok (.invokevirtual 308, 3) := by decide +kernel
theorem dX13_days_11 : decode cX13_days 11 = .ok (.ireturn, 1) := by decide +kernel
theorem dX13_days_12 : decode cX13_days 12 = .ok (.iload_n 1, 1) := by decide +kernel
theorem dX13_days_13 : decode cX13_days 13 = .ok (.sipush 1000, 3) := by decide +kernel
theorem dX13_days_16 : decode cX13_days 16 = .ok (.aload_n 0, 1) := by decide +kernel
theorem dX13_days_17 : decode cX13_days 17 = .ok (.getfield 312, 3) := by decide +kernel
theorem dX13_days_20 : decode cX13_days 20 = .ok (.isub, 1) := by decide +kernel
theorem dX13_days_21 : decode cX13_days 21 = .ok (.if_icmp .le 10, 3) := by decide +kernel
theorem dX13_days_24 : decode cX13_days 24 = .ok (.aload_n 0, 1) := by decide +kernel
theorem dX13_days_25 : decode cX13_days 25 = .ok (.bipush (-6), 2) := by decide +kernel
theorem dX13_days_27 : decode cX13_days 27 = .ok (.invokevirtual 308, 3) := by decide +kernel
theorem dX13_days_30 : decode cX13_days 30 = .ok (.ireturn, 1) := by decide +kernel
theorem dX13_days_31 : decode cX13_days 31 = .ok (.aload_n 0, 1) := by decide +kernel
theorem dX13_days_32 : decode cX13_days 32 = .ok (.dup, 1) := by decide +kernel
theorem dX13_days_33 : decode cX13_days 33 = .ok (.getfield 312, 3) := by decide +kernel
theorem dX13_days_36 : decode cX13_days 36 = .ok (.iload_n 1, 1) := by decide +kernel
theorem dX13_days_37 : decode cX13_days 37 = .ok (.iadd, 1) := by decide +kernel
theorem dX13_days_38 : decode cX13_days 38 = .ok (.putfield 312, 3) := by decide +kernel
theorem dX13_days_41 : decode cX13_days 41 = .ok (.aload_n 0, 1) := by decide +kernel
theorem dX13_days_42 : decode cX13_days 42 = .ok (.getfield 312, 3) := by decide +kernel
theorem dX13_days_45 : decode cX13_days 45 = .ok (.ireturn, 1) := by decide +kernel
set_option maxRecDepth 100000 in
set_option maxHeartbeats 4000000 in
theorem wp_X13_days {n0 d : Nat} {K : z_K} {I : z_I} {L : z_L} {Q : z_q} {p0 : Int32} (hL : MLay K) (h : (if p0 < 1 then RM0 n0 xX13_refuse d [.ref (n0 + 59), .int (-4)] K I L (fun vv I6 L7 => ∃ r8 : Int32, vv = some (.int r8) ∧ Q (some (.int r8)) I6 L7) else (if (1000 - (I 59 0)) < p0 then RM0 n0 xX13_refuse d [.ref (n0 + 59), .int (-6)] K I L (fun vv I3 L4 => ∃ r5 : Int32, vv = some (.int r5) ∧ Q (some (.int r5)) I3 L4) else Q (some (.int (((I 59 0) + p0)))) (zI I 59 0 ((I 59 0) + p0)) L))) : RM0 n0 xX13_days (d + 1) [.ref (n0 + 59), .int p0] K I L Q := by
  refine z_entry0 (by decide) (Nat.le_of_ble_eq_true rfl) ?_
  change Z n0 xX13_days (d + 1) 0 0 0 [(0, .ref (n0 + 59)), (1, .int p0)] [] K I L (z_q0 K Q)
  refine z_iload_n 1 dX13_days_0 rfl ?_
  refine z_iconst 1 dX13_days_1 (by decide) ?_
  refine z_icmp_ge 12 dX13_days_2 (by decide) (fun g1 => ?_) (fun g1 => ?_)
  · rw [if_neg g1] at h
    refine z_iload_n 1 dX13_days_12 rfl ?_
    refine z_sipush 1000 dX13_days_13 (by decide) ?_
    refine z_aload_n 0 dX13_days_16 rfl ?_
    refine fg_13_312 (I 59 0) rfl dX13_days_17 hL.1 hL.2.1 rfl ?_
    refine z_isub dX13_days_20 ?_
    refine z_icmp_le 31 dX13_days_21 (by decide) (fun g2 => ?_) (fun g2 => ?_)
    · rw [if_neg g2] at h
      refine z_aload_n 0 dX13_days_31 rfl ?_
      refine z_dup dX13_days_32 rfl ?_
      refine fg_13_312 (I 59 0) rfl dX13_days_33 hL.1 hL.2.1 rfl ?_
      refine z_iload_n 1 dX13_days_36 rfl ?_
      refine z_iadd dX13_days_37 ?_
      refine fp_13_312 rfl dX13_days_38 hL.1 hL.2.1 ?_
      refine z_aload_n 0 dX13_days_41 rfl ?_
      refine fg_13_312 (((I 59 0) + p0)) rfl dX13_days_42 hL.1 hL.2.1 rfl ?_
      exact z_iret dX13_days_45 rfl ⟨rfl, h⟩
    · rw [if_pos g2] at h
      refine z_aload_n 0 dX13_days_24 rfl ?_
      refine z_bipush (-6) dX13_days_25 (by decide) ?_
      refine z_callV0 (As := [.int (-6)]) (st := []) dX13_days_27 hy_X13_refuse hL.1 hL.2.1 (by decide) wg_1778 wg_1780 wg_54 (Nat.le_refl _) (Nat.le_of_ble_eq_true rfl) (RM0.mono h (fun vv I3 L4 h => ?_))
      obtain ⟨r5, rfl, h⟩ := h
      change Z n0 xX13_days (d + 1) 0 0 30 [(0, .ref (n0 + 59)), (1, .int p0)] [.int r5] K I3 L4 (z_q0 K Q)
      exact z_iret dX13_days_30 rfl ⟨rfl, h⟩
  · rw [if_pos g1] at h
    refine z_aload_n 0 dX13_days_5 rfl ?_
    refine z_bipush (-4) dX13_days_6 (by decide) ?_
    refine z_callV0 (As := [.int (-4)]) (st := []) dX13_days_8 hy_X13_refuse hL.1 hL.2.1 (by decide) wg_1778 wg_1780 wg_54 (Nat.le_refl _) (Nat.le_of_ble_eq_true rfl) (RM0.mono h (fun vv I6 L7 h => ?_))
    obtain ⟨r8, rfl, h⟩ := h
    change Z n0 xX13_days (d + 1) 0 0 11 [(0, .ref (n0 + 59)), (1, .int p0)] [.int r8] K I6 L7 (z_q0 K Q)
    exact z_iret dX13_days_11 rfl ⟨rfl, h⟩
theorem dX13_tabledOn_0 : decode cX13_tabledOn 0 = .ok (.iconst 0, 1) := by decide +kernel
theorem dX13_tabledOn_1 : decode cX13_tabledOn 1 = .ok (.istore 4, 2) := by decide +kernel
theorem dX13_tabledOn_3 : decode cX13_tabledOn 3 = .ok (.iconst 0, 1) := by decide +kernel
theorem dX13_tabledOn_4 : decode cX13_tabledOn 4 = .ok (.istore 5, 2) := by decide +kernel
theorem dX13_tabledOn_6 : decode cX13_tabledOn 6 = .ok (.iload 5, 2) := by decide +kernel
theorem dX13_tabledOn_8 : decode cX13_tabledOn 8 = .ok (.aload_n 0, 1) := by decide +kernel
theorem dX13_tabledOn_9 : decode cX13_tabledOn 9 = .ok (.getfield 315, 3) := by decide +kernel
theorem dX13_tabledOn_12 : decode cX13_tabledOn 12 = .ok (.if_icmp .ge 56, 3) := by decide +kernel
theorem dX13_tabledOn_15 : decode cX13_tabledOn 15 = .ok (.aload_n 0, 1) := by decide +kernel
theorem dX13_tabledOn_16 : decode cX13_tabledOn 16 = .ok (.getfield 7, 3) := by decide +kernel
theorem dX13_tabledOn_19 : decode cX13_tabledOn 19 = .ok (.iload 5, 2) := by decide +kernel
theorem dX13_tabledOn_21 : decode cX13_tabledOn 21 = .ok (.iaload, 1) := by decide +kernel
theorem dX13_tabledOn_22 : decode cX13_tabledOn 22 = .ok (.iload_n 1, 1) := by decide +kernel
theorem dX13_tabledOn_23 : decode cX13_tabledOn 23 = .ok (.if_icmp .ne 35, 3) := by decide +kernel
theorem dX13_tabledOn_26 : decode cX13_tabledOn 26 = .ok (.aload_n 0, 1) := by decide +kernel
theorem dX13_tabledOn_27 : decode cX13_tabledOn 27 = .ok (.getfield 13, 3) := by decide +kernel
theorem dX13_tabledOn_30 : decode cX13_tabledOn 30 = .ok (.iload 5, 2) := by decide +kernel
theorem dX13_tabledOn_32 : decode cX13_tabledOn 32 = .ok (.iaload, 1) := by decide +kernel
theorem dX13_tabledOn_33 : decode cX13_tabledOn 33 = .ok (.iload_n 2, 1) := by decide +kernel
theorem dX13_tabledOn_34 : decode cX13_tabledOn 34 = .ok (.if_icmp .ne 24, 3) := by decide +kernel
theorem dX13_tabledOn_37 : decode cX13_tabledOn 37 = .ok (.aload_n 0, 1) := by decide +kernel
theorem dX13_tabledOn_38 : decode cX13_tabledOn 38 = .ok (.getfield 19, 3) := by decide +kernel
theorem dX13_tabledOn_41 : decode cX13_tabledOn 41 = .ok (.iload 5, 2) := by decide +kernel
theorem dX13_tabledOn_43 : decode cX13_tabledOn 43 = .ok (.iaload, 1) := by decide +kernel
theorem dX13_tabledOn_44 : decode cX13_tabledOn 44 = .ok (.iload_n 3, 1) := by decide +kernel
theorem dX13_tabledOn_45 : decode cX13_tabledOn 45 = .ok (.if_icmp .gt 13, 3) := by decide +kernel
theorem dX13_tabledOn_48 : decode cX13_tabledOn 48 = .ok (.aload_n 0, 1) := by decide +kernel
theorem dX13_tabledOn_49 : decode cX13_tabledOn 49 = .ok (.getfield 16, 3) := by decide +kernel
theorem dX13_tabledOn_52 : decode cX13_tabledOn 52 = .ok (.iload 5, 2) := by decide +kernel
theorem dX13_tabledOn_54 : decode cX13_tabledOn 54 = .ok (.iaload, 1) := by decide +kernel
theorem dX13_tabledOn_55 : decode cX13_tabledOn 55 = .ok (.goto 5, 3) := by decide +kernel
theorem dX13_tabledOn_58 : decode cX13_tabledOn 58 = .ok (.iload 4, 2) := by decide +kernel
theorem dX13_tabledOn_60 : decode cX13_tabledOn 60 = .ok (.istore 4, 2) := by decide +kernel
theorem dX13_tabledOn_62 : decode cX13_tabledOn 62 = .ok (.iinc 5 1, 3) := by decide +kernel
theorem dX13_tabledOn_65 : decode cX13_tabledOn 65 = .ok (.goto (-59), 3) := by decide +kernel
theorem dX13_tabledOn_68 : decode cX13_tabledOn 68 = .ok (.iload 4, 2) := by decide +kernel
theorem dX13_tabledOn_70 : decode cX13_tabledOn 70 = .ok (.ireturn, 1) := by decide +kernel
set_option maxRecDepth 100000 in
set_option maxHeartbeats 4000000 in
theorem wp_X13_tabledOn {n0 d : Nat} {K : z_K} {I : z_I} {L : z_L} {Q : z_q} {p0 : Int32} {p1 : Int32} {p2 : Int32} (hL : MLay K) (h : Z n0 xX13_tabledOn d 0 0 6 [(0, .ref (n0 + 59)), (1, .int p0), (2, .int p1), (3, .int p2), (4, .int 0), (5, .int 0)] [] K I L (z_q0 K Q)) : RM0 n0 xX13_tabledOn d [.ref (n0 + 59), .int p0, .int p1, .int p2] K I L Q := by
  refine z_entry0 (by decide) (Nat.le_of_ble_eq_true rfl) ?_
  change Z n0 xX13_tabledOn d 0 0 0 [(0, .ref (n0 + 59)), (1, .int p0), (2, .int p1), (3, .int p2)] [] K I L (z_q0 K Q)
  refine z_iconst 0 dX13_tabledOn_0 (by decide) ?_
  refine z_istore [1, 2, 3, 4, 0] [(0, .ref (n0 + 59)), (1, .int p0), (2, .int p1), (3, .int p2), (4, .int 0)] dX13_tabledOn_1 (by decide) rfl ?_
  refine z_iconst 0 dX13_tabledOn_3 (by decide) ?_
  refine z_istore [1, 2, 3, 4, 5, 0] [(0, .ref (n0 + 59)), (1, .int p0), (2, .int p1), (3, .int p2), (4, .int 0), (5, .int 0)] dX13_tabledOn_4 (by decide) rfl ?_
  exact h
set_option maxRecDepth 100000 in
set_option maxHeartbeats 4000000 in
theorem wp_X13_tabledOn_6 {n0 d : Nat} {rc rs : Nat} {K : z_K} {I : z_I} {L : z_L} {Q : z_q} {a1 : Int32} {a2 : Int32} {a3 : Int32} {a4 : Int32} {a5 : Int32} (hL : MLay K) (h : (if a5 < (I 59 1) then vp_in a5 2100 ∧ Z n0 xX13_tabledOn d rc rs 6 [(0, .ref (n0 + 59)), (1, .int a1), (2, .int a2), (3, .int a3), (4, .int (if ((I 60 a5.toNatClampNeg) : Int32) = a1 then if ((I 61 a5.toNatClampNeg) : Int32) = a2 then if a3 < ((I 63 a5.toNatClampNeg) : Int32) then a4 else (I 62 a5.toNatClampNeg) else a4 else a4)), (5, .int (a5 + 1))] [] K I L (z_q0 K Q) else Q (some (.int a4)) I L)) : Z n0 xX13_tabledOn d rc rs 6 [(0, .ref (n0 + 59)), (1, .int a1), (2, .int a2), (3, .int a3), (4, .int a4), (5, .int a5)] [] K I L (z_q0 K Q) := by
  refine z_iload 5 dX13_tabledOn_6 rfl ?_
  refine z_aload_n 0 dX13_tabledOn_8 rfl ?_
  refine fg_13_315 (I 59 1) rfl dX13_tabledOn_9 hL.1 hL.2.1 rfl ?_
  refine z_icmp_ge 68 dX13_tabledOn_12 (by decide) (fun g1 => ?_) (fun g1 => ?_)
  · rw [if_neg g1] at h
    refine z_iload 4 dX13_tabledOn_68 rfl ?_
    exact z_iret dX13_tabledOn_70 rfl ⟨rfl, h⟩
  · rw [if_pos g1] at h
    refine z_aload_n 0 dX13_tabledOn_15 rfl ?_
    refine fg_13_7 (some 60) rfl dX13_tabledOn_16 hL.1 hL.2.1 (ma_2 hL).1 ?_
    refine z_iload 5 dX13_tabledOn_19 rfl ?_
    obtain ⟨o2, h⟩ := h
    refine z_iald (I 60 a5.toNatClampNeg) dX13_tabledOn_21 (ma_2 hL).2.1 (ma_2 hL).2.2 o2 rfl ?_
    refine z_iload_n 1 dX13_tabledOn_22 rfl ?_
    have key6 : Z n0 xX13_tabledOn d rc rs 60 [(0, .ref (n0 + 59)), (1, .int a1), (2, .int a2), (3, .int a3), (5, .int a5)] [.int (if ((I 60 a5.toNatClampNeg) : Int32) = a1 then if ((I 61 a5.toNatClampNeg) : Int32) = a2 then if a3 < ((I 63 a5.toNatClampNeg) : Int32) then a4 else (I 62 a5.toNatClampNeg) else a4 else a4)] K I L (z_q0 K Q) := by
      refine z_istore [1, 2, 3, 4, 0, 5] [(0, .ref (n0 + 59)), (1, .int a1), (2, .int a2), (3, .int a3), (4, .int (if ((I 60 a5.toNatClampNeg) : Int32) = a1 then if ((I 61 a5.toNatClampNeg) : Int32) = a2 then if a3 < ((I 63 a5.toNatClampNeg) : Int32) then a4 else (I 62 a5.toNatClampNeg) else a4 else a4)), (5, .int a5)] dX13_tabledOn_60 (by decide) rfl ?_
      refine z_iinc (j := 5) (a5 + 1) [1, 2, 3, 4, 5, 0] [(0, .ref (n0 + 59)), (1, .int a1), (2, .int a2), (3, .int a3), (4, .int (if ((I 60 a5.toNatClampNeg) : Int32) = a1 then if ((I 61 a5.toNatClampNeg) : Int32) = a2 then if a3 < ((I 63 a5.toNatClampNeg) : Int32) then a4 else (I 62 a5.toNatClampNeg) else a4 else a4)), (5, .int (a5 + 1))] dX13_tabledOn_62 rfl rfl (by decide) rfl ?_
      refine z_goto 6 dX13_tabledOn_65 (by decide) ?_
      exact h
    refine z_icmp_ne 58 dX13_tabledOn_23 (by decide) (fun g3 => ?_) (fun g3 => ?_)
    · refine z_iload 4 dX13_tabledOn_58 rfl ?_
      have ee : ((if ((I 60 a5.toNatClampNeg) : Int32) = a1 then if ((I 61 a5.toNatClampNeg) : Int32) = a2 then if a3 < ((I 63 a5.toNatClampNeg) : Int32) then a4 else (I 62 a5.toNatClampNeg) else a4 else a4) : Int32) = a4 := by rw [if_neg g3]
      rw [ee] at key6
      clear ee
      refine z_sub [0, 1, 2, 3, 5] rfl ?_
      exact key6
    · refine z_aload_n 0 dX13_tabledOn_26 rfl ?_
      refine fg_13_13 (some 61) rfl dX13_tabledOn_27 hL.1 hL.2.1 (ma_3 hL).1 ?_
      refine z_iload 5 dX13_tabledOn_30 rfl ?_
      refine z_iald (I 61 a5.toNatClampNeg) dX13_tabledOn_32 (ma_3 hL).2.1 (ma_3 hL).2.2 o2 rfl ?_
      refine z_iload_n 2 dX13_tabledOn_33 rfl ?_
      refine z_icmp_ne 58 dX13_tabledOn_34 (by decide) (fun g4 => ?_) (fun g4 => ?_)
      · refine z_iload 4 dX13_tabledOn_58 rfl ?_
        have ee : ((if ((I 60 a5.toNatClampNeg) : Int32) = a1 then if ((I 61 a5.toNatClampNeg) : Int32) = a2 then if a3 < ((I 63 a5.toNatClampNeg) : Int32) then a4 else (I 62 a5.toNatClampNeg) else a4 else a4) : Int32) = a4 := by rw [if_pos g3, if_neg g4]
        rw [ee] at key6
        clear ee
        refine z_sub [0, 1, 2, 3, 5] rfl ?_
        exact key6
      · refine z_aload_n 0 dX13_tabledOn_37 rfl ?_
        refine fg_13_19 (some 63) rfl dX13_tabledOn_38 hL.1 hL.2.1 (ma_5 hL).1 ?_
        refine z_iload 5 dX13_tabledOn_41 rfl ?_
        refine z_iald (I 63 a5.toNatClampNeg) dX13_tabledOn_43 (ma_5 hL).2.1 (ma_5 hL).2.2 o2 rfl ?_
        refine z_iload_n 3 dX13_tabledOn_44 rfl ?_
        refine z_icmp_gt 58 dX13_tabledOn_45 (by decide) (fun g5 => ?_) (fun g5 => ?_)
        · refine z_iload 4 dX13_tabledOn_58 rfl ?_
          have ee : ((if ((I 60 a5.toNatClampNeg) : Int32) = a1 then if ((I 61 a5.toNatClampNeg) : Int32) = a2 then if a3 < ((I 63 a5.toNatClampNeg) : Int32) then a4 else (I 62 a5.toNatClampNeg) else a4 else a4) : Int32) = a4 := by rw [if_pos g3, if_pos g4, if_pos g5]
          rw [ee] at key6
          clear ee
          refine z_sub [0, 1, 2, 3, 5] rfl ?_
          exact key6
        · refine z_aload_n 0 dX13_tabledOn_48 rfl ?_
          refine fg_13_16 (some 62) rfl dX13_tabledOn_49 hL.1 hL.2.1 (ma_4 hL).1 ?_
          refine z_iload 5 dX13_tabledOn_52 rfl ?_
          refine z_iald (I 62 a5.toNatClampNeg) dX13_tabledOn_54 (ma_4 hL).2.1 (ma_4 hL).2.2 o2 rfl ?_
          refine z_goto 60 dX13_tabledOn_55 (by decide) ?_
          have ee : ((if ((I 60 a5.toNatClampNeg) : Int32) = a1 then if ((I 61 a5.toNatClampNeg) : Int32) = a2 then if a3 < ((I 63 a5.toNatClampNeg) : Int32) then a4 else (I 62 a5.toNatClampNeg) else a4 else a4) : Int32) = (I 62 a5.toNatClampNeg) := by rw [if_pos g3, if_pos g4, if_neg g5]
          rw [ee] at key6
          clear ee
          refine z_sub [0, 1, 2, 3, 5] rfl ?_
          exact key6
theorem dX13_table_0 : decode cX13_table 0 = .ok (.iload_n 1, 1) := by decide +kernel
theorem dX13_table_1 : decode cX13_table 1 = .ok (.invokestatic 318, 3) := by decide +kernel
theorem dX13_table_4 : decode cX13_table 4 = .ok (.ifCond .eq 10, 3) := by decide +kernel
theorem dX13_table_7 : decode cX13_table 7 = .ok (.iload_n 2, 1) := by decide +kernel
theorem dX13_table_8 : decode cX13_table 8 = .ok (.invokestatic 321, 3) := by decide +kernel
theorem dX13_table_11 : decode cX13_table 11 = .ok (.ifCond .ne 9, 3) := by decide +kernel
theorem dX13_table_14 : decode cX13_table 14 = .ok (.aload_n 0, 1) := by decide +kernel
theorem dX13_table_15 : decode cX13_table 15 = .ok (.iconst (-1), 1) := by decide +kernel
theorem dX13_table_16 : decode cX13_table 16 = .ok (.invokevirtual 308, 3) := by decide +kernel
theorem dX13_table_19 : decode cX13_table 19 = .ok (.ireturn, 1) := by decide +kernel
theorem dX13_table_20 : decode cX13_table 20 = .ok (.iload_n 3, 1) := by decide +kernel
theorem dX13_table_21 : decode cX13_table 21 = .ok (.iconst 0, 1) := by decide +kernel
theorem dX13_table_22 : decode cX13_table 22 = .ok (.sipush 9999, 3) := by decide +kernel
theorem dX13_table_25 : decode cX13_table 25 = .ok (.invokestatic 324, 3) := by decide +kernel
theorem dX13_table_28 : decode cX13_table 28 = .ok (.ifCond .ge 16, 3) := by decide +kernel
theorem dX13_table_31 : decode cX13_table 31 = .ok (.aload_n 0, 1) := by decide +kernel
theorem dX13_table_32 : decode cX13_table 32 = .ok (.iload_n 3, 1) := by decide +kernel
theorem dX13_table_33 : decode cX13_table 33 = .ok (.iconst 0, 1) := by decide +kernel
theorem dX13_table_34 : decode cX13_table 34 = .ok (.sipush 9999, 3) := by decide +kernel
theorem dX13_table_37 : decode cX13_table 37 = .ok (.invokestatic 324, 3) := by decide +kernel
theorem dX13_table_40 : decode cX13_table 40 = .ok (.invokevirtual 308, 3) := by decide +kernel
theorem dX13_table_43 : decode cX13_table 43 = .ok (.ireturn, 1) := by decide +kernel
theorem dX13_table_44 : decode cX13_table 44 = .ok (.aload_n 0, 1) := by decide +kernel
theorem dX13_table_45 : decode cX13_table 45 = .ok (.iload_n 1, 1) := by decide +kernel
theorem dX13_table_46 : decode cX13_table 46 = .ok (.iload_n 2, 1) := by decide +kernel
theorem dX13_table_47 : decode cX13_table 47 = .ok (.aload_n 0, 1) := by decide +kernel
theorem dX13_table_48 : decode cX13_table 48 = .ok (.getfield 312, 3) := by decide +kernel
theorem dX13_table_51 : decode cX13_table 51 = .ok (.invokevirtual 328, 3) := by decide +kernel
theorem dX13_table_54 : decode cX13_table 54 = .ok (.istore 4, 2) := by decide +kernel
theorem dX13_table_56 : decode cX13_table 56 = .ok (.aload_n 0, 1) := by decide +kernel
theorem dX13_table_57 : decode cX13_table 57 = .ok (.getfield 7, 3) := by decide +kernel
theorem dX13_table_60 : decode cX13_table 60 = .ok (.aload_n 0, 1) := by decide +kernel
theorem dX13_table_61 : decode cX13_table 61 = .ok (.getfield 315, 3) := by decide +kernel
theorem dX13_table_64 : decode cX13_table 64 = .ok (.iload_n 1, 1) := by decide +kernel
theorem dX13_table_65 : decode cX13_table 65 = .ok (.iastore, 1) := by decide +kernel
theorem dX13_table_66 : decode cX13_table 66 = .ok (.aload_n 0, 1) := by decide +kernel
theorem dX13_table_67 : decode cX13_table 67 = .ok (.getfield 13, 3) := by decide +kernel
theorem dX13_table_70 : decode cX13_table 70 = .ok (.aload_n 0, 1) := by decide +kernel
theorem dX13_table_71 : decode cX13_table 71 = .ok (.getfield 315, 3) := by decide +kernel
theorem dX13_table_74 : decode cX13_table 74 = .ok (.iload_n 2, 1) := by decide +kernel
theorem dX13_table_75 : decode cX13_table 75 = .ok (.iastore, 1) := by decide +kernel
theorem dX13_table_76 : decode cX13_table 76 = .ok (.aload_n 0, 1) := by decide +kernel
theorem dX13_table_77 : decode cX13_table 77 = .ok (.getfield 16, 3) := by decide +kernel
theorem dX13_table_80 : decode cX13_table 80 = .ok (.aload_n 0, 1) := by decide +kernel
theorem dX13_table_81 : decode cX13_table 81 = .ok (.getfield 315, 3) := by decide +kernel
theorem dX13_table_84 : decode cX13_table 84 = .ok (.iload_n 3, 1) := by decide +kernel
theorem dX13_table_85 : decode cX13_table 85 = .ok (.iastore, 1) := by decide +kernel
theorem dX13_table_86 : decode cX13_table 86 = .ok (.aload_n 0, 1) := by decide +kernel
theorem dX13_table_87 : decode cX13_table 87 = .ok (.getfield 19, 3) := by decide +kernel
theorem dX13_table_90 : decode cX13_table 90 = .ok (.aload_n 0, 1) := by decide +kernel
theorem dX13_table_91 : decode cX13_table 91 = .ok (.getfield 315, 3) := by decide +kernel
theorem dX13_table_94 : decode cX13_table 94 = .ok (.aload_n 0, 1) := by decide +kernel
theorem dX13_table_95 : decode cX13_table 95 = .ok (.getfield 312, 3) := by decide +kernel
theorem dX13_table_98 : decode cX13_table 98 = .ok (.iastore, 1) := by decide +kernel
theorem dX13_table_99 : decode cX13_table 99 = .ok (.aload_n 0, 1) := by decide +kernel
theorem dX13_table_100 : decode cX13_table 100 = .ok (.dup, 1) := by decide +kernel
theorem dX13_table_101 : decode cX13_table 101 = .ok (.getfield 315, 3) := by decide +kernel
theorem dX13_table_104 : decode cX13_table 104 = .ok (.iconst 1, 1) := by decide +kernel
theorem dX13_table_105 : decode cX13_table 105 = .ok (.iadd, 1) := by decide +kernel
theorem dX13_table_106 : decode cX13_table 106 = .ok (.putfield 315, 3) := by decide +kernel
theorem dX13_table_109 : decode cX13_table 109 = .ok (.iload 4, 2) := by decide +kernel
theorem dX13_table_111 : decode cX13_table 111 = .ok (.ireturn, 1) := by decide +kernel
set_option maxRecDepth 100000 in
set_option maxHeartbeats 4000000 in
theorem wp_X13_table {n0 d : Nat} {K : z_K} {I : z_I} {L : z_L} {Q : z_q} {p0 : Int32} {p1 : Int32} {p2 : Int32} (hL : MLay K) (h : RM0 n0 xX13_isMeasure d [.int p0] K I L (fun vv I1 L2 => ∃ r3 : Int32, vv = some (.int r3) ∧ (if r3 = 0 then RM0 n0 xX13_refuse d [.ref (n0 + 59), .int (-1)] K I1 L2 (fun vv I5 L6 => ∃ r7 : Int32, vv = some (.int r7) ∧ Q (some (.int r7)) I5 L6) else RM0 n0 xX13_isSize d [.int p1] K I1 L2 (fun vv I8 L9 => ∃ r10 : Int32, vv = some (.int r10) ∧ (if r10 = 0 then RM0 n0 xX13_refuse d [.ref (n0 + 59), .int (-1)] K I8 L9 (fun vv I26 L27 => ∃ r28 : Int32, vv = some (.int r28) ∧ Q (some (.int r28)) I26 L27) else RM0 n0 xX13_bounds d [.int p2, .int 0, .int 9999] K I8 L9 (fun vv I12 L13 => ∃ r14 : Int32, vv = some (.int r14) ∧ (if r14 < 0 then RM0 n0 xX13_bounds d [.int p2, .int 0, .int 9999] K I12 L13 (fun vv I20 L21 => ∃ r22 : Int32, vv = some (.int r22) ∧ RM0 n0 xX13_refuse d [.ref (n0 + 59), .int r22] K I20 L21 (fun vv I23 L24 => ∃ r25 : Int32, vv = some (.int r25) ∧ Q (some (.int r25)) I23 L24)) else RM0 n0 xX13_tabledOn d [.ref (n0 + 59), .int p0, .int p1, .int (I12 59 0)] K I12 L13 (fun vv I16 L17 => ∃ r18 : Int32, vv = some (.int r18) ∧ vp_in (I16 59 1) 2100 ∧ Q (some (.int r18)) (zI (zI (zI (zI (zI I16 60 ((I16 59 1).toNatClampNeg) p0) 61 ((I16 59 1).toNatClampNeg) p1) 62 ((I16 59 1).toNatClampNeg) p2) 63 ((I16 59 1).toNatClampNeg) (I16 59 0)) 59 1 ((I16 59 1) + 1)) L17)))))))) : RM0 n0 xX13_table (d + 1) [.ref (n0 + 59), .int p0, .int p1, .int p2] K I L Q := by
  refine z_entry0 (by decide) (Nat.le_of_ble_eq_true rfl) ?_
  change Z n0 xX13_table (d + 1) 0 0 0 [(0, .ref (n0 + 59)), (1, .int p0), (2, .int p1), (3, .int p2)] [] K I L (z_q0 K Q)
  refine z_iload_n 1 dX13_table_0 rfl ?_
  refine z_callS0 (As := [.int p0]) (st := []) dX13_table_1 hy_X13_isMeasure wg_1786 wg_1787 (Nat.le_refl _) (Nat.le_of_ble_eq_true rfl) (RM0.mono h (fun vv I1 L2 h => ?_))
  obtain ⟨r3, rfl, h⟩ := h
  change Z n0 xX13_table (d + 1) 0 0 4 [(0, .ref (n0 + 59)), (1, .int p0), (2, .int p1), (3, .int p2)] [.int r3] K I1 L2 (z_q0 K Q)
  refine z_if_eq 14 dX13_table_4 (by decide) (fun g4 => ?_) (fun g4 => ?_)
  · rw [if_pos g4] at h
    refine z_aload_n 0 dX13_table_14 rfl ?_
    refine z_iconst (-1) dX13_table_15 (by decide) ?_
    refine z_callV0 (As := [.int (-1)]) (st := []) dX13_table_16 hy_X13_refuse hL.1 hL.2.1 (by decide) wg_1778 wg_1780 wg_54 (Nat.le_refl _) (Nat.le_of_ble_eq_true rfl) (RM0.mono h (fun vv I5 L6 h => ?_))
    obtain ⟨r7, rfl, h⟩ := h
    change Z n0 xX13_table (d + 1) 0 0 19 [(0, .ref (n0 + 59)), (1, .int p0), (2, .int p1), (3, .int p2)] [.int r7] K I5 L6 (z_q0 K Q)
    exact z_iret dX13_table_19 rfl ⟨rfl, h⟩
  · rw [if_neg g4] at h
    refine z_iload_n 2 dX13_table_7 rfl ?_
    refine z_callS0 (As := [.int p1]) (st := []) dX13_table_8 hy_X13_isSize wg_1793 wg_1794 (Nat.le_refl _) (Nat.le_of_ble_eq_true rfl) (RM0.mono h (fun vv I8 L9 h => ?_))
    obtain ⟨r10, rfl, h⟩ := h
    change Z n0 xX13_table (d + 1) 0 0 11 [(0, .ref (n0 + 59)), (1, .int p0), (2, .int p1), (3, .int p2)] [.int r10] K I8 L9 (z_q0 K Q)
    refine z_if_ne 20 dX13_table_11 (by decide) (fun g11 => ?_) (fun g11 => ?_)
    · rw [if_neg g11] at h
      refine z_iload_n 3 dX13_table_20 rfl ?_
      refine z_iconst 0 dX13_table_21 (by decide) ?_
      refine z_sipush 9999 dX13_table_22 (by decide) ?_
      refine z_callS0 (As := [.int p2, .int 0, .int 9999]) (st := []) dX13_table_25 hy_X13_bounds wg_1797 wg_1798 (Nat.le_refl _) (Nat.le_of_ble_eq_true rfl) (RM0.mono h (fun vv I12 L13 h => ?_))
      obtain ⟨r14, rfl, h⟩ := h
      change Z n0 xX13_table (d + 1) 0 0 28 [(0, .ref (n0 + 59)), (1, .int p0), (2, .int p1), (3, .int p2)] [.int r14] K I12 L13 (z_q0 K Q)
      refine z_if_ge 44 dX13_table_28 (by decide) (fun g15 => ?_) (fun g15 => ?_)
      · rw [if_neg g15] at h
        refine z_aload_n 0 dX13_table_44 rfl ?_
        refine z_iload_n 1 dX13_table_45 rfl ?_
        refine z_iload_n 2 dX13_table_46 rfl ?_
        refine z_aload_n 0 dX13_table_47 rfl ?_
        refine fg_13_312 (I12 59 0) rfl dX13_table_48 hL.1 hL.2.1 rfl ?_
        refine z_callV0 (As := [.int p0, .int p1, .int (I12 59 0)]) (st := []) dX13_table_51 hy_X13_tabledOn hL.1 hL.2.1 (by decide) wg_1800 wg_1802 wg_55 (Nat.le_refl _) (Nat.le_of_ble_eq_true rfl) (RM0.mono h (fun vv I16 L17 h => ?_))
        obtain ⟨r18, rfl, h⟩ := h
        change Z n0 xX13_table (d + 1) 0 0 54 [(0, .ref (n0 + 59)), (1, .int p0), (2, .int p1), (3, .int p2)] [.int r18] K I16 L17 (z_q0 K Q)
        refine z_istore [1, 2, 3, 4, 0] [(0, .ref (n0 + 59)), (1, .int p0), (2, .int p1), (3, .int p2), (4, .int r18)] dX13_table_54 (by decide) rfl ?_
        refine z_aload_n 0 dX13_table_56 rfl ?_
        refine fg_13_7 (some 60) rfl dX13_table_57 hL.1 hL.2.1 (ma_2 hL).1 ?_
        refine z_aload_n 0 dX13_table_60 rfl ?_
        refine fg_13_315 (I16 59 1) rfl dX13_table_61 hL.1 hL.2.1 rfl ?_
        refine z_iload_n 1 dX13_table_64 rfl ?_
        obtain ⟨o19, h⟩ := h
        refine z_iast dX13_table_65 (ma_2 hL).2.1 (ma_2 hL).2.2 o19 ?_
        refine z_aload_n 0 dX13_table_66 rfl ?_
        refine fg_13_13 (some 61) rfl dX13_table_67 hL.1 hL.2.1 (ma_3 hL).1 ?_
        refine z_aload_n 0 dX13_table_70 rfl ?_
        refine fg_13_315 (I16 59 1) rfl dX13_table_71 hL.1 hL.2.1 rfl ?_
        refine z_iload_n 2 dX13_table_74 rfl ?_
        refine z_iast dX13_table_75 (ma_3 hL).2.1 (ma_3 hL).2.2 o19 ?_
        refine z_aload_n 0 dX13_table_76 rfl ?_
        refine fg_13_16 (some 62) rfl dX13_table_77 hL.1 hL.2.1 (ma_4 hL).1 ?_
        refine z_aload_n 0 dX13_table_80 rfl ?_
        refine fg_13_315 (I16 59 1) rfl dX13_table_81 hL.1 hL.2.1 rfl ?_
        refine z_iload_n 3 dX13_table_84 rfl ?_
        refine z_iast dX13_table_85 (ma_4 hL).2.1 (ma_4 hL).2.2 o19 ?_
        refine z_aload_n 0 dX13_table_86 rfl ?_
        refine fg_13_19 (some 63) rfl dX13_table_87 hL.1 hL.2.1 (ma_5 hL).1 ?_
        refine z_aload_n 0 dX13_table_90 rfl ?_
        refine fg_13_315 (I16 59 1) rfl dX13_table_91 hL.1 hL.2.1 rfl ?_
        refine z_aload_n 0 dX13_table_94 rfl ?_
        refine fg_13_312 (I16 59 0) rfl dX13_table_95 hL.1 hL.2.1 rfl ?_
        refine z_iast dX13_table_98 (ma_5 hL).2.1 (ma_5 hL).2.2 o19 ?_
        refine z_aload_n 0 dX13_table_99 rfl ?_
        refine z_dup dX13_table_100 rfl ?_
        refine fg_13_315 (I16 59 1) rfl dX13_table_101 hL.1 hL.2.1 rfl ?_
        refine z_iconst 1 dX13_table_104 (by decide) ?_
        refine z_iadd dX13_table_105 ?_
        refine fp_13_315 rfl dX13_table_106 hL.1 hL.2.1 ?_
        refine z_iload 4 dX13_table_109 rfl ?_
        exact z_iret dX13_table_111 rfl ⟨rfl, h⟩
      · rw [if_pos g15] at h
        refine z_aload_n 0 dX13_table_31 rfl ?_
        refine z_iload_n 3 dX13_table_32 rfl ?_
        refine z_iconst 0 dX13_table_33 (by decide) ?_
        refine z_sipush 9999 dX13_table_34 (by decide) ?_
        refine z_callS0 (As := [.int p2, .int 0, .int 9999]) (st := [.ref (n0 + 59)]) dX13_table_37 hy_X13_bounds wg_1797 wg_1798 (Nat.le_refl _) (Nat.le_of_ble_eq_true rfl) (RM0.mono h (fun vv I20 L21 h => ?_))
        obtain ⟨r22, rfl, h⟩ := h
        change Z n0 xX13_table (d + 1) 0 0 40 [(0, .ref (n0 + 59)), (1, .int p0), (2, .int p1), (3, .int p2)] [.int r22, .ref (n0 + 59)] K I20 L21 (z_q0 K Q)
        refine z_callV0 (As := [.int r22]) (st := []) dX13_table_40 hy_X13_refuse hL.1 hL.2.1 (by decide) wg_1778 wg_1780 wg_54 (Nat.le_refl _) (Nat.le_of_ble_eq_true rfl) (RM0.mono h (fun vv I23 L24 h => ?_))
        obtain ⟨r25, rfl, h⟩ := h
        change Z n0 xX13_table (d + 1) 0 0 43 [(0, .ref (n0 + 59)), (1, .int p0), (2, .int p1), (3, .int p2)] [.int r25] K I23 L24 (z_q0 K Q)
        exact z_iret dX13_table_43 rfl ⟨rfl, h⟩
    · rw [if_pos g11] at h
      refine z_aload_n 0 dX13_table_14 rfl ?_
      refine z_iconst (-1) dX13_table_15 (by decide) ?_
      refine z_callV0 (As := [.int (-1)]) (st := []) dX13_table_16 hy_X13_refuse hL.1 hL.2.1 (by decide) wg_1778 wg_1780 wg_54 (Nat.le_refl _) (Nat.le_of_ble_eq_true rfl) (RM0.mono h (fun vv I26 L27 h => ?_))
      obtain ⟨r28, rfl, h⟩ := h
      change Z n0 xX13_table (d + 1) 0 0 19 [(0, .ref (n0 + 59)), (1, .int p0), (2, .int p1), (3, .int p2)] [.int r28] K I26 L27 (z_q0 K Q)
      exact z_iret dX13_table_19 rfl ⟨rfl, h⟩
theorem dX13_tabled_0 : decode cX13_tabled 0 = .ok (.iload_n 1, 1) := by decide +kernel
theorem dX13_tabled_1 : decode cX13_tabled 1 = .ok (.invokestatic 318, 3) := by decide +kernel
theorem dX13_tabled_4 : decode cX13_tabled 4 = .ok (.ifCond .eq 10, 3) := by decide +kernel
theorem dX13_tabled_7 : decode cX13_tabled 7 = .ok (.iload_n 2, 1) := by decide +kernel
theorem dX13_tabled_8 : decode cX13_tabled 8 = .ok (.invokestatic 321, 3) := by decide +kernel
theorem dX13_tabled_11 : decode cX13_tabled 11 = .ok (.ifCond .ne 9, 3) := by decide +kernel
theorem dX13_tabled_14 : decode cX13_tabled 14 = .ok (.aload_n 0, 1) := by decide +kernel
theorem dX13_tabled_15 : decode cX13_tabled 15 = .ok (.iconst (-1), 1) := by decide +kernel
theorem dX13_tabled_16 : decode cX13_tabled 16 = .ok (.invokevirtual 308, 3) := by decide +kernel
theorem dX13_tabled_19 : decode cX13_tabled 19 = .ok (.ireturn, 1) := by decide +kernel
theorem dX13_tabled_20 : decode cX13_tabled 20 = .ok (.iload_n 3, 1) := by decide +kernel
theorem dX13_tabled_21 : decode cX13_tabled 21 = .ok (.iconst 0, 1) := by decide +kernel
theorem dX13_tabled_22 : decode cX13_tabled 22 = .ok (.sipush 1000, 3) := by decide +kernel
theorem dX13_tabled_25 : decode cX13_tabled 25 = .ok (.invokestatic 324, 3) := by decide +kernel
theorem dX13_tabled_28 : decode cX13_tabled 28 = .ok (.ifCond .ge 18, 3) := by decide +kernel
theorem dX13_tabled_31 : decode cX13_tabled 31 = .ok (.aload_n 0, 1) := by decide +kernel
theorem dX13_tabled_32 : decode cX13_tabled 32 = .ok (.iload_n 3, 1) := by decide +kernel
theorem dX13_tabled_33 : decode cX13_tabled 33 = .ok (.iconst 0, 1) := by decide +kernel
theorem dX13_tabled_34 : decode cX13_tabled 34 = .ok (.sipush 1000, 3) := by decide +kernel
theorem dX13_tabled_37 : decode cX13_tabled 37 = .ok (.invokestatic 324, 3) := by decide +kernel
theorem dX13_tabled_40 : decode cX13_tabled 40 = .ok (.invokevirtual 308, 3) := by decide +kernel
theorem dX13_tabled_43 : decode cX13_tabled 43 = .ok (.goto 10, 3) := by decide +kernel
theorem dX13_tabled_46 : decode cX13_tabled 46 = .ok (.aload_n 0, 1) := by decide +kernel
theorem dX13_tabled_47 : decode cX13_tabled 47 = .ok (.iload_n 1, 1) := by decide +kernel
theorem dX13_tabled_48 : decode cX13_tabled 48 = .ok (.iload_n 2, 1) := by decide +kernel
theorem dX13_tabled_49 : decode cX13_tabled 49 = .ok (.iload_n 3, 1) := by decide +kernel
theorem dX13_tabled_50 : decode cX13_tabled 50 = .ok (.invokevirtual 328, 3) := by decide +kernel
theorem dX13_tabled_53 : decode cX13_tabled 53 = .ok (.ireturn, 1) := by decide +kernel
set_option maxRecDepth 100000 in
set_option maxHeartbeats 4000000 in
theorem wp_X13_tabled {n0 d : Nat} {K : z_K} {I : z_I} {L : z_L} {Q : z_q} {p0 : Int32} {p1 : Int32} {p2 : Int32} (hL : MLay K) (h : RM0 n0 xX13_isMeasure d [.int p0] K I L (fun vv I1 L2 => ∃ r3 : Int32, vv = some (.int r3) ∧ (if r3 = 0 then RM0 n0 xX13_refuse d [.ref (n0 + 59), .int (-1)] K I1 L2 (fun vv I5 L6 => ∃ r7 : Int32, vv = some (.int r7) ∧ Q (some (.int r7)) I5 L6) else RM0 n0 xX13_isSize d [.int p1] K I1 L2 (fun vv I8 L9 => ∃ r10 : Int32, vv = some (.int r10) ∧ (if r10 = 0 then RM0 n0 xX13_refuse d [.ref (n0 + 59), .int (-1)] K I8 L9 (fun vv I25 L26 => ∃ r27 : Int32, vv = some (.int r27) ∧ Q (some (.int r27)) I25 L26) else RM0 n0 xX13_bounds d [.int p2, .int 0, .int 1000] K I8 L9 (fun vv I12 L13 => ∃ r14 : Int32, vv = some (.int r14) ∧ (if r14 < 0 then RM0 n0 xX13_bounds d [.int p2, .int 0, .int 1000] K I12 L13 (fun vv I19 L20 => ∃ r21 : Int32, vv = some (.int r21) ∧ RM0 n0 xX13_refuse d [.ref (n0 + 59), .int r21] K I19 L20 (fun vv I22 L23 => ∃ r24 : Int32, vv = some (.int r24) ∧ Q (some (.int r24)) I22 L23)) else RM0 n0 xX13_tabledOn d [.ref (n0 + 59), .int p0, .int p1, .int p2] K I12 L13 (fun vv I16 L17 => ∃ r18 : Int32, vv = some (.int r18) ∧ Q (some (.int r18)) I16 L17)))))))) : RM0 n0 xX13_tabled (d + 1) [.ref (n0 + 59), .int p0, .int p1, .int p2] K I L Q := by
  refine z_entry0 (by decide) (Nat.le_of_ble_eq_true rfl) ?_
  change Z n0 xX13_tabled (d + 1) 0 0 0 [(0, .ref (n0 + 59)), (1, .int p0), (2, .int p1), (3, .int p2)] [] K I L (z_q0 K Q)
  refine z_iload_n 1 dX13_tabled_0 rfl ?_
  refine z_callS0 (As := [.int p0]) (st := []) dX13_tabled_1 hy_X13_isMeasure wg_1786 wg_1787 (Nat.le_refl _) (Nat.le_of_ble_eq_true rfl) (RM0.mono h (fun vv I1 L2 h => ?_))
  obtain ⟨r3, rfl, h⟩ := h
  change Z n0 xX13_tabled (d + 1) 0 0 4 [(0, .ref (n0 + 59)), (1, .int p0), (2, .int p1), (3, .int p2)] [.int r3] K I1 L2 (z_q0 K Q)
  refine z_if_eq 14 dX13_tabled_4 (by decide) (fun g4 => ?_) (fun g4 => ?_)
  · rw [if_pos g4] at h
    refine z_aload_n 0 dX13_tabled_14 rfl ?_
    refine z_iconst (-1) dX13_tabled_15 (by decide) ?_
    refine z_callV0 (As := [.int (-1)]) (st := []) dX13_tabled_16 hy_X13_refuse hL.1 hL.2.1 (by decide) wg_1778 wg_1780 wg_54 (Nat.le_refl _) (Nat.le_of_ble_eq_true rfl) (RM0.mono h (fun vv I5 L6 h => ?_))
    obtain ⟨r7, rfl, h⟩ := h
    change Z n0 xX13_tabled (d + 1) 0 0 19 [(0, .ref (n0 + 59)), (1, .int p0), (2, .int p1), (3, .int p2)] [.int r7] K I5 L6 (z_q0 K Q)
    exact z_iret dX13_tabled_19 rfl ⟨rfl, h⟩
  · rw [if_neg g4] at h
    refine z_iload_n 2 dX13_tabled_7 rfl ?_
    refine z_callS0 (As := [.int p1]) (st := []) dX13_tabled_8 hy_X13_isSize wg_1793 wg_1794 (Nat.le_refl _) (Nat.le_of_ble_eq_true rfl) (RM0.mono h (fun vv I8 L9 h => ?_))
    obtain ⟨r10, rfl, h⟩ := h
    change Z n0 xX13_tabled (d + 1) 0 0 11 [(0, .ref (n0 + 59)), (1, .int p0), (2, .int p1), (3, .int p2)] [.int r10] K I8 L9 (z_q0 K Q)
    refine z_if_ne 20 dX13_tabled_11 (by decide) (fun g11 => ?_) (fun g11 => ?_)
    · rw [if_neg g11] at h
      refine z_iload_n 3 dX13_tabled_20 rfl ?_
      refine z_iconst 0 dX13_tabled_21 (by decide) ?_
      refine z_sipush 1000 dX13_tabled_22 (by decide) ?_
      refine z_callS0 (As := [.int p2, .int 0, .int 1000]) (st := []) dX13_tabled_25 hy_X13_bounds wg_1797 wg_1798 (Nat.le_refl _) (Nat.le_of_ble_eq_true rfl) (RM0.mono h (fun vv I12 L13 h => ?_))
      obtain ⟨r14, rfl, h⟩ := h
      change Z n0 xX13_tabled (d + 1) 0 0 28 [(0, .ref (n0 + 59)), (1, .int p0), (2, .int p1), (3, .int p2)] [.int r14] K I12 L13 (z_q0 K Q)
      refine z_if_ge 46 dX13_tabled_28 (by decide) (fun g15 => ?_) (fun g15 => ?_)
      · rw [if_neg g15] at h
        refine z_aload_n 0 dX13_tabled_46 rfl ?_
        refine z_iload_n 1 dX13_tabled_47 rfl ?_
        refine z_iload_n 2 dX13_tabled_48 rfl ?_
        refine z_iload_n 3 dX13_tabled_49 rfl ?_
        refine z_callV0 (As := [.int p0, .int p1, .int p2]) (st := []) dX13_tabled_50 hy_X13_tabledOn hL.1 hL.2.1 (by decide) wg_1800 wg_1802 wg_55 (Nat.le_refl _) (Nat.le_of_ble_eq_true rfl) (RM0.mono h (fun vv I16 L17 h => ?_))
        obtain ⟨r18, rfl, h⟩ := h
        change Z n0 xX13_tabled (d + 1) 0 0 53 [(0, .ref (n0 + 59)), (1, .int p0), (2, .int p1), (3, .int p2)] [.int r18] K I16 L17 (z_q0 K Q)
        exact z_iret dX13_tabled_53 rfl ⟨rfl, h⟩
      · rw [if_pos g15] at h
        refine z_aload_n 0 dX13_tabled_31 rfl ?_
        refine z_iload_n 3 dX13_tabled_32 rfl ?_
        refine z_iconst 0 dX13_tabled_33 (by decide) ?_
        refine z_sipush 1000 dX13_tabled_34 (by decide) ?_
        refine z_callS0 (As := [.int p2, .int 0, .int 1000]) (st := [.ref (n0 + 59)]) dX13_tabled_37 hy_X13_bounds wg_1797 wg_1798 (Nat.le_refl _) (Nat.le_of_ble_eq_true rfl) (RM0.mono h (fun vv I19 L20 h => ?_))
        obtain ⟨r21, rfl, h⟩ := h
        change Z n0 xX13_tabled (d + 1) 0 0 40 [(0, .ref (n0 + 59)), (1, .int p0), (2, .int p1), (3, .int p2)] [.int r21, .ref (n0 + 59)] K I19 L20 (z_q0 K Q)
        refine z_callV0 (As := [.int r21]) (st := []) dX13_tabled_40 hy_X13_refuse hL.1 hL.2.1 (by decide) wg_1778 wg_1780 wg_54 (Nat.le_refl _) (Nat.le_of_ble_eq_true rfl) (RM0.mono h (fun vv I22 L23 h => ?_))
        obtain ⟨r24, rfl, h⟩ := h
        change Z n0 xX13_tabled (d + 1) 0 0 43 [(0, .ref (n0 + 59)), (1, .int p0), (2, .int p1), (3, .int p2)] [.int r24] K I22 L23 (z_q0 K Q)
        refine z_goto 53 dX13_tabled_43 (by decide) ?_
        exact z_iret dX13_tabled_53 rfl ⟨rfl, h⟩
    · rw [if_pos g11] at h
      refine z_aload_n 0 dX13_tabled_14 rfl ?_
      refine z_iconst (-1) dX13_tabled_15 (by decide) ?_
      refine z_callV0 (As := [.int (-1)]) (st := []) dX13_tabled_16 hy_X13_refuse hL.1 hL.2.1 (by decide) wg_1778 wg_1780 wg_54 (Nat.le_refl _) (Nat.le_of_ble_eq_true rfl) (RM0.mono h (fun vv I25 L26 h => ?_))
      obtain ⟨r27, rfl, h⟩ := h
      change Z n0 xX13_tabled (d + 1) 0 0 19 [(0, .ref (n0 + 59)), (1, .int p0), (2, .int p1), (3, .int p2)] [.int r27] K I25 L26 (z_q0 K Q)
      exact z_iret dX13_tabled_19 rfl ⟨rfl, h⟩
theorem dX13_body_0 : decode cX13_body 0 = .ok (.iload_n 1, 1) := by decide +kernel
theorem dX13_body_1 : decode cX13_body 1 = .ok (.invokestatic 321, 3) := by decide +kernel
theorem dX13_body_4 : decode cX13_body 4 = .ok (.ifCond .ne 9, 3) := by decide +kernel
theorem dX13_body_7 : decode cX13_body 7 = .ok (.aload_n 0, 1) := by decide +kernel
theorem dX13_body_8 : decode cX13_body 8 = .ok (.iconst (-1), 1) := by decide +kernel
theorem dX13_body_9 : decode cX13_body 9 = .ok (.invokevirtual 308, 3) := by decide +kernel
theorem dX13_body_12 : decode cX13_body 12 = .ok (.ireturn, 1) := by decide +kernel
theorem dX13_body_13 : decode cX13_body 13 = .ok (.aload_n 0, 1) := by decide +kernel
theorem dX13_body_14 : decode cX13_body 14 = .ok (.getfield 297, 3) := by decide +kernel
theorem dX13_body_17 : decode cX13_body 17 = .ok (.bipush 12, 2) := by decide +kernel
theorem dX13_body_19 : decode cX13_body 19 = .ok (.if_icmp .ne 10, 3) := by decide +kernel
theorem dX13_body_22 : decode cX13_body 22 = .ok (.aload_n 0, 1) := by decide +kernel
theorem dX13_body_23 : decode cX13_body 23 = .ok (.bipush (-6), 2) := by decide +kernel
theorem dX13_body_25 : decode cX13_body 25 = .ok (.invokevirtual 308, 3) := by decide +kernel
theorem dX13_body_28 : decode cX13_body 28 = .ok (.ireturn, 1) := by decide +kernel
theorem dX13_body_29 : decode cX13_body 29 = .ok (.aload_n 0, 1) := by decide +kernel
theorem dX13_body_30 : decode cX13_body 30 = .ok (.getfield 22, 3) := by decide +kernel
theorem dX13_body_33 : decode cX13_body 33 = .ok (.aload_n 0, 1) := by decide +kernel
theorem dX13_body_34 : decode cX13_body 34 = .ok (.getfield 297, 3) := by decide +kernel
theorem dX13_body_37 : decode cX13_body 37 = .ok (.iload_n 1, 1) := by decide +kernel
theorem dX13_body_38 : decode cX13_body 38 = .ok (.iastore, 1) := by decide +kernel
theorem dX13_body_39 : decode cX13_body 39 = .ok (.iconst 0, 1) := by decide +kernel
theorem dX13_body_40 : decode cX13_body 40 = .ok (.istore_n 2, 1) := by decide +kernel
theorem dX13_body_41 : decode cX13_body 41 = .ok (.iload_n 2, 1) := by decide +kernel
theorem dX13_body_42 : decode cX13_body 42 = .ok (.bipush 8, 2) := by decide +kernel
theorem dX13_body_44 : decode cX13_body 44 = .ok (.if_icmp .ge 24, 3) := by decide +kernel
theorem dX13_body_47 : decode cX13_body 47 = .ok (.aload_n 0, 1) := by decide +kernel
theorem dX13_body_48 : decode cX13_body 48 = .ok (.getfield 25, 3) := by decide +kernel
theorem dX13_body_51 : decode cX13_body 51 = .ok (.bipush 8, 2) := by decide +kernel
theorem dX13_body_53 : decode cX13_body 53 = .ok (.aload_n 0, 1) := by decide +kernel
theorem dX13_body_54 : decode cX13_body 54 = .ok (.getfield 297, 3) := by decide +kernel
theorem dX13_body_57 : decode cX13_body 57 = .ok (.imul, 1) := by decide +kernel
theorem dX13_body_58 : decode cX13_body 58 = .ok (.iload_n 2, 1) := by decide +kernel
theorem dX13_body_59 : decode cX13_body 59 = .ok (.iadd, 1) := by decide +kernel
theorem dX13_body_60 : decode cX13_body 60 = .ok (.iconst (-1), 1) := by decide +kernel
theorem dX13_body_61 : decode cX13_body 61 = .ok (.iastore, 1) := by decide +kernel
theorem dX13_body_62 : decode cX13_body 62 = .ok (.iinc 2 1, 3) := by decide +kernel
theorem dX13_body_65 : decode cX13_body 65 = .ok (.goto (-24), 3) := by decide +kernel
theorem dX13_body_68 : decode cX13_body 68 = .ok (.aload_n 0, 1) := by decide +kernel
theorem dX13_body_69 : decode cX13_body 69 = .ok (.dup, 1) := by decide +kernel
theorem dX13_body_70 : decode cX13_body 70 = .ok (.getfield 297, 3) := by decide +kernel
theorem dX13_body_73 : decode cX13_body 73 = .ok (.iconst 1, 1) := by decide +kernel
theorem dX13_body_74 : decode cX13_body 74 = .ok (.iadd, 1) := by decide +kernel
theorem dX13_body_75 : decode cX13_body 75 = .ok (.putfield 297, 3) := by decide +kernel
theorem dX13_body_78 : decode cX13_body 78 = .ok (.aload_n 0, 1) := by decide +kernel
theorem dX13_body_79 : decode cX13_body 79 = .ok (.getfield 297, 3) := by decide +kernel
theorem dX13_body_82 : decode cX13_body 82 = .ok (.iconst 1, 1) := by decide +kernel
theorem dX13_body_83 : decode cX13_body 83 = .ok (.isub, 1) := by decide +kernel
theorem dX13_body_84 : decode cX13_body 84 = .ok (.ireturn, 1) := by decide +kernel
set_option maxRecDepth 100000 in
set_option maxHeartbeats 4000000 in
theorem wp_X13_body {n0 d : Nat} {K : z_K} {I : z_I} {L : z_L} {Q : z_q} {p0 : Int32} (hL : MLay K) (h : RM0 n0 xX13_isSize d [.int p0] K I L (fun vv I1 L2 => ∃ r3 : Int32, vv = some (.int r3) ∧ (if r3 = 0 then RM0 n0 xX13_refuse d [.ref (n0 + 59), .int (-1)] K I1 L2 (fun vv I10 L11 => ∃ r12 : Int32, vv = some (.int r12) ∧ Q (some (.int r12)) I10 L11) else (if ((I1 59 6) : Int32) = 12 then RM0 n0 xX13_refuse d [.ref (n0 + 59), .int (-6)] K I1 L2 (fun vv I7 L8 => ∃ r9 : Int32, vv = some (.int r9) ∧ Q (some (.int r9)) I7 L8) else vp_in (I1 59 6) 12 ∧ Z n0 xX13_body (d + 1) 0 0 41 [(0, .ref (n0 + 59)), (2, .int 0)] [] K (zI I1 64 ((I1 59 6).toNatClampNeg) p0) L2 (z_q0 K Q))))) : RM0 n0 xX13_body (d + 1) [.ref (n0 + 59), .int p0] K I L Q := by
  refine z_entry0 (by decide) (Nat.le_of_ble_eq_true rfl) ?_
  change Z n0 xX13_body (d + 1) 0 0 0 [(0, .ref (n0 + 59)), (1, .int p0)] [] K I L (z_q0 K Q)
  refine z_iload_n 1 dX13_body_0 rfl ?_
  refine z_callS0 (As := [.int p0]) (st := []) dX13_body_1 hy_X13_isSize wg_1793 wg_1794 (Nat.le_refl _) (Nat.le_of_ble_eq_true rfl) (RM0.mono h (fun vv I1 L2 h => ?_))
  obtain ⟨r3, rfl, h⟩ := h
  change Z n0 xX13_body (d + 1) 0 0 4 [(0, .ref (n0 + 59)), (1, .int p0)] [.int r3] K I1 L2 (z_q0 K Q)
  refine z_if_ne 13 dX13_body_4 (by decide) (fun g4 => ?_) (fun g4 => ?_)
  · rw [if_neg g4] at h
    refine z_aload_n 0 dX13_body_13 rfl ?_
    refine fg_13_297 (I1 59 6) rfl dX13_body_14 hL.1 hL.2.1 rfl ?_
    refine z_bipush 12 dX13_body_17 (by decide) ?_
    refine z_icmp_ne 29 dX13_body_19 (by decide) (fun g5 => ?_) (fun g5 => ?_)
    · rw [if_neg g5] at h
      refine z_aload_n 0 dX13_body_29 rfl ?_
      refine fg_13_22 (some 64) rfl dX13_body_30 hL.1 hL.2.1 (ma_7 hL).1 ?_
      refine z_aload_n 0 dX13_body_33 rfl ?_
      refine fg_13_297 (I1 59 6) rfl dX13_body_34 hL.1 hL.2.1 rfl ?_
      refine z_iload_n 1 dX13_body_37 rfl ?_
      obtain ⟨o6, h⟩ := h
      refine z_iast dX13_body_38 (ma_7 hL).2.1 (ma_7 hL).2.2 o6 ?_
      refine z_iconst 0 dX13_body_39 (by decide) ?_
      refine z_istore_n [1, 2, 0] [(0, .ref (n0 + 59)), (1, .int p0), (2, .int 0)] dX13_body_40 (by decide) rfl ?_
      refine z_sub [0, 2] rfl ?_
      exact h
    · rw [if_pos g5] at h
      refine z_aload_n 0 dX13_body_22 rfl ?_
      refine z_bipush (-6) dX13_body_23 (by decide) ?_
      refine z_callV0 (As := [.int (-6)]) (st := []) dX13_body_25 hy_X13_refuse hL.1 hL.2.1 (by decide) wg_1778 wg_1780 wg_54 (Nat.le_refl _) (Nat.le_of_ble_eq_true rfl) (RM0.mono h (fun vv I7 L8 h => ?_))
      obtain ⟨r9, rfl, h⟩ := h
      change Z n0 xX13_body (d + 1) 0 0 28 [(0, .ref (n0 + 59)), (1, .int p0)] [.int r9] K I7 L8 (z_q0 K Q)
      exact z_iret dX13_body_28 rfl ⟨rfl, h⟩
  · rw [if_pos g4] at h
    refine z_aload_n 0 dX13_body_7 rfl ?_
    refine z_iconst (-1) dX13_body_8 (by decide) ?_
    refine z_callV0 (As := [.int (-1)]) (st := []) dX13_body_9 hy_X13_refuse hL.1 hL.2.1 (by decide) wg_1778 wg_1780 wg_54 (Nat.le_refl _) (Nat.le_of_ble_eq_true rfl) (RM0.mono h (fun vv I10 L11 h => ?_))
    obtain ⟨r12, rfl, h⟩ := h
    change Z n0 xX13_body (d + 1) 0 0 12 [(0, .ref (n0 + 59)), (1, .int p0)] [.int r12] K I10 L11 (z_q0 K Q)
    exact z_iret dX13_body_12 rfl ⟨rfl, h⟩
set_option maxRecDepth 100000 in
set_option maxHeartbeats 4000000 in
theorem wp_X13_body_41 {n0 d : Nat} {rc rs : Nat} {K : z_K} {I : z_I} {L : z_L} {Q : z_q} {a2 : Int32} (hL : MLay K) (h : (if a2 < 8 then vp_in ((8 * (I 59 6)) + a2) 96 ∧ Z n0 xX13_body (d + 1) rc rs 41 [(0, .ref (n0 + 59)), (2, .int (a2 + 1))] [] K (zI I 65 (((8 * (I 59 6)) + a2).toNatClampNeg) (-1)) L (z_q0 K Q) else Q (some (.int ((((I 59 6) + 1)) - 1))) (zI I 59 6 ((I 59 6) + 1)) L)) : Z n0 xX13_body (d + 1) rc rs 41 [(0, .ref (n0 + 59)), (2, .int a2)] [] K I L (z_q0 K Q) := by
  refine z_iload_n 1 dX13_body_41 rfl ?_
  refine z_bipush 8 dX13_body_42 (by decide) ?_
  refine z_icmp_ge 68 dX13_body_44 (by decide) (fun g1 => ?_) (fun g1 => ?_)
  · rw [if_neg g1] at h
    refine z_aload_n 0 dX13_body_68 rfl ?_
    refine z_dup dX13_body_69 rfl ?_
    refine fg_13_297 (I 59 6) rfl dX13_body_70 hL.1 hL.2.1 rfl ?_
    refine z_iconst 1 dX13_body_73 (by decide) ?_
    refine z_iadd dX13_body_74 ?_
    refine fp_13_297 rfl dX13_body_75 hL.1 hL.2.1 ?_
    refine z_aload_n 0 dX13_body_78 rfl ?_
    refine fg_13_297 (((I 59 6) + 1)) rfl dX13_body_79 hL.1 hL.2.1 rfl ?_
    refine z_iconst 1 dX13_body_82 (by decide) ?_
    refine z_isub dX13_body_83 ?_
    exact z_iret dX13_body_84 rfl ⟨rfl, h⟩
  · rw [if_pos g1] at h
    refine z_aload_n 0 dX13_body_47 rfl ?_
    refine fg_13_25 (some 65) rfl dX13_body_48 hL.1 hL.2.1 (ma_8 hL).1 ?_
    refine z_bipush 8 dX13_body_51 (by decide) ?_
    refine z_aload_n 0 dX13_body_53 rfl ?_
    refine fg_13_297 (I 59 6) rfl dX13_body_54 hL.1 hL.2.1 rfl ?_
    refine z_imul dX13_body_57 ?_
    refine z_iload_n 1 dX13_body_58 rfl ?_
    refine z_iadd dX13_body_59 ?_
    refine z_iconst (-1) dX13_body_60 (by decide) ?_
    obtain ⟨o2, h⟩ := h
    refine z_iast dX13_body_61 (ma_8 hL).2.1 (ma_8 hL).2.2 o2 ?_
    refine z_iinc (j := 1) (a2 + 1) [1, 0] [(0, .ref (n0 + 59)), (2, .int (a2 + 1))] dX13_body_62 rfl rfl (by decide) rfl ?_
    refine z_goto 41 dX13_body_65 (by decide) ?_
    exact h
theorem dX13_measure_0 : decode cX13_measure 0 = .ok (.aload_n 0, 1) := by decide +kernel
theorem dX13_measure_1 : decode cX13_measure 1 = .ok (.iload_n 1, 1) := by decide +kernel
theorem dX13_measure_2 : decode cX13_measure 2 = .ok (.invokevirtual 331, 3) := by decide +kernel
theorem dX13_measure_5 : decode cX13_measure 5 = .ok (.ifCond .eq 10, 3) := by decide +kernel
theorem dX13_measure_8 : decode cX13_measure 8 = .ok (.iload_n 2, 1) := by decide +kernel
theorem dX13_measure_9 : decode cX13_measure 9 = .ok (.invokestatic 318, 3) := by decide +kernel
theorem dX13_measure_12 : decode cX13_measure 12 = .ok (.ifCond .ne 9, 3) := by decide +kernel
theorem dX13_measure_15 : decode cX13_measure 15 = .ok (.aload_n 0, 1) := by decide +kernel
theorem dX13_measure_16 : decode cX13_measure 16 = .ok (.iconst (-1), 1) := by decide +kernel
theorem dX13_measure_17 : decode cX13_measure 17 = .ok (.invokevirtual 334, 3) := by decide +kernel
theorem dX13_measure_20 : decode cX13_measure 20 = .ok (.ireturn, 1) := by decide +kernel
theorem dX13_measure_21 : decode cX13_measure 21 = .ok (.iload_n 3, 1) := by decide +kernel
theorem dX13_measure_22 : decode cX13_measure 22 = .ok (.iconst (-1), 1) := by decide +kernel
theorem dX13_measure_23 : decode cX13_measure 23 = .ok (.sipush 9999, 3) := by decide +kernel
theorem dX13_measure_26 : decode cX13_measure 26 = .ok (.invokestatic 324, 3) := by decide +kernel
theorem dX13_measure_29 : decode cX13_measure 29 = .ok (.ifCond .ge 16, 3) := by decide +kernel
theorem dX13_measure_32 : decode cX13_measure 32 = .ok (.aload_n 0, 1) := by decide +kernel
theorem dX13_measure_33 : decode cX13_measure 33 = .ok (.iload_n 3, 1) := by decide +kernel
theorem dX13_measure_34 : decode cX13_measure 34 = .ok (.iconst (-1), 1) := by decide +kernel
theorem dX13_measure_35 : decode cX13_measure 35 = .ok (.sipush 9999, 3) := by decide +kernel
theorem dX13_measure_38 : decode cX13_measure 38 = .ok (.invokestatic 324, 3) := by decide +kernel
theorem dX13_measure_41 : decode cX13_measure 41 = .ok (.invokevirtual 334, 3) := by decide +kernel
theorem dX13_measure_44 : decode cX13_measure 44 = .ok (.ireturn, 1) := by decide +kernel
theorem dX13_measure_45 : decode cX13_measure 45 = .ok (.aload_n 0, 1) := by decide +kernel
theorem dX13_measure_46 : decode cX13_measure 46 = .ok (.getfield 25, 3) := by decide +kernel
theorem dX13_measure_49 : decode cX13_measure 49 = .ok (.bipush 8, 2) := by decide +kernel
theorem dX13_measure_51 : decode cX13_measure 51 = .ok (.iload_n 1, 1) := by decide +kernel
theorem dX13_measure_52 : decode cX13_measure 52 = .ok (.imul, 1) := by decide +kernel
theorem dX13_measure_53 : decode cX13_measure 53 = .ok (.iload_n 2, 1) := by decide +kernel
theorem dX13_measure_54 : decode cX13_measure 54 = .ok (.iadd, 1) := by decide +kernel
theorem dX13_measure_55 : decode cX13_measure 55 = .ok (.iaload, 1) := by decide +kernel
theorem dX13_measure_56 : decode cX13_measure 56 = .ok (.istore 4, 2) := by decide +kernel
theorem dX13_measure_58 : decode cX13_measure 58 = .ok (.aload_n 0, 1) := by decide +kernel
theorem dX13_measure_59 : decode cX13_measure 59 = .ok (.getfield 25, 3) := by decide +kernel
theorem dX13_measure_62 : decode cX13_measure 62 = .ok (.bipush 8, 2) := by decide +kernel
theorem dX13_measure_64 : decode cX13_measure 64 = .ok (.iload_n 1, 1) := by decide +kernel
theorem dX13_measure_65 : decode cX13_measure 65 = .ok (.imul, 1) := by decide +kernel
theorem dX13_measure_66 : decode cX13_measure 66 = .ok (.iload_n 2, 1) := by decide +kernel
theorem dX13_measure_67 : decode cX13_measure 67 = .ok (.iadd, 1) := by decide +kernel
theorem dX13_measure_68 : decode cX13_measure 68 = .ok (.iload_n 3, 1) := by decide +kernel
theorem dX13_measure_69 : decode cX13_measure 69 = .ok (.iastore, 1) := by decide +kernel
theorem dX13_measure_70 : decode cX13_measure 70 = .ok (.iload 4, 2) := by decide +kernel
theorem dX13_measure_72 : decode cX13_measure 72 = .ok (.ireturn, 1) := by decide +kernel
set_option maxRecDepth 100000 in
set_option maxHeartbeats 4000000 in
theorem wp_X13_measure {n0 d : Nat} {K : z_K} {I : z_I} {L : z_L} {Q : z_q} {p0 : Int32} {p1 : Int32} {p2 : Int32} (hL : MLay K) (h : RM0 n0 xX13_isBody d [.ref (n0 + 59), .int p0] K I L (fun vv I1 L2 => ∃ r3 : Int32, vv = some (.int r3) ∧ (if r3 = 0 then RM0 n0 xX13_refuseFar d [.ref (n0 + 59), .int (-1)] K I1 L2 (fun vv I5 L6 => ∃ r7 : Int32, vv = some (.int r7) ∧ Q (some (.int r7)) I5 L6) else RM0 n0 xX13_isMeasure d [.int p1] K I1 L2 (fun vv I8 L9 => ∃ r10 : Int32, vv = some (.int r10) ∧ (if r10 = 0 then RM0 n0 xX13_refuseFar d [.ref (n0 + 59), .int (-1)] K I8 L9 (fun vv I23 L24 => ∃ r25 : Int32, vv = some (.int r25) ∧ Q (some (.int r25)) I23 L24) else RM0 n0 xX13_bounds d [.int p2, .int (-1), .int 9999] K I8 L9 (fun vv I12 L13 => ∃ r14 : Int32, vv = some (.int r14) ∧ (if r14 < 0 then RM0 n0 xX13_bounds d [.int p2, .int (-1), .int 9999] K I12 L13 (fun vv I17 L18 => ∃ r19 : Int32, vv = some (.int r19) ∧ RM0 n0 xX13_refuseFar d [.ref (n0 + 59), .int r19] K I17 L18 (fun vv I20 L21 => ∃ r22 : Int32, vv = some (.int r22) ∧ Q (some (.int r22)) I20 L21)) else vp_in ((8 * p0) + p1) 96 ∧ Q (some (.int (I12 65 (((8 * p0) + p1).toNatClampNeg)))) (zI I12 65 (((8 * p0) + p1).toNatClampNeg) p2) L13))))))) : RM0 n0 xX13_measure (d + 1) [.ref (n0 + 59), .int p0, .int p1, .int p2] K I L Q := by
  refine z_entry0 (by decide) (Nat.le_of_ble_eq_true rfl) ?_
  change Z n0 xX13_measure (d + 1) 0 0 0 [(0, .ref (n0 + 59)), (1, .int p0), (2, .int p1), (3, .int p2)] [] K I L (z_q0 K Q)
  refine z_aload_n 0 dX13_measure_0 rfl ?_
  refine z_iload_n 1 dX13_measure_1 rfl ?_
  refine z_callV0 (As := [.int p0]) (st := []) dX13_measure_2 hy_X13_isBody hL.1 hL.2.1 (by decide) wg_1816 wg_1818 wg_56 (Nat.le_refl _) (Nat.le_of_ble_eq_true rfl) (RM0.mono h (fun vv I1 L2 h => ?_))
  obtain ⟨r3, rfl, h⟩ := h
  change Z n0 xX13_measure (d + 1) 0 0 5 [(0, .ref (n0 + 59)), (1, .int p0), (2, .int p1), (3, .int p2)] [.int r3] K I1 L2 (z_q0 K Q)
  refine z_if_eq 15 dX13_measure_5 (by decide) (fun g4 => ?_) (fun g4 => ?_)
  · rw [if_pos g4] at h
    refine z_aload_n 0 dX13_measure_15 rfl ?_
    refine z_iconst (-1) dX13_measure_16 (by decide) ?_
    refine z_callV0 (As := [.int (-1)]) (st := []) dX13_measure_17 hy_X13_refuseFar hL.1 hL.2.1 (by decide) wg_1820 wg_1822 wg_57 (Nat.le_refl _) (Nat.le_of_ble_eq_true rfl) (RM0.mono h (fun vv I5 L6 h => ?_))
    obtain ⟨r7, rfl, h⟩ := h
    change Z n0 xX13_measure (d + 1) 0 0 20 [(0, .ref (n0 + 59)), (1, .int p0), (2, .int p1), (3, .int p2)] [.int r7] K I5 L6 (z_q0 K Q)
    exact z_iret dX13_measure_20 rfl ⟨rfl, h⟩
  · rw [if_neg g4] at h
    refine z_iload_n 2 dX13_measure_8 rfl ?_
    refine z_callS0 (As := [.int p1]) (st := []) dX13_measure_9 hy_X13_isMeasure wg_1786 wg_1787 (Nat.le_refl _) (Nat.le_of_ble_eq_true rfl) (RM0.mono h (fun vv I8 L9 h => ?_))
    obtain ⟨r10, rfl, h⟩ := h
    change Z n0 xX13_measure (d + 1) 0 0 12 [(0, .ref (n0 + 59)), (1, .int p0), (2, .int p1), (3, .int p2)] [.int r10] K I8 L9 (z_q0 K Q)
    refine z_if_ne 21 dX13_measure_12 (by decide) (fun g11 => ?_) (fun g11 => ?_)
    · rw [if_neg g11] at h
      refine z_iload_n 3 dX13_measure_21 rfl ?_
      refine z_iconst (-1) dX13_measure_22 (by decide) ?_
      refine z_sipush 9999 dX13_measure_23 (by decide) ?_
      refine z_callS0 (As := [.int p2, .int (-1), .int 9999]) (st := []) dX13_measure_26 hy_X13_bounds wg_1797 wg_1798 (Nat.le_refl _) (Nat.le_of_ble_eq_true rfl) (RM0.mono h (fun vv I12 L13 h => ?_))
      obtain ⟨r14, rfl, h⟩ := h
      change Z n0 xX13_measure (d + 1) 0 0 29 [(0, .ref (n0 + 59)), (1, .int p0), (2, .int p1), (3, .int p2)] [.int r14] K I12 L13 (z_q0 K Q)
      refine z_if_ge 45 dX13_measure_29 (by decide) (fun g15 => ?_) (fun g15 => ?_)
      · rw [if_neg g15] at h
        refine z_aload_n 0 dX13_measure_45 rfl ?_
        refine fg_13_25 (some 65) rfl dX13_measure_46 hL.1 hL.2.1 (ma_8 hL).1 ?_
        refine z_bipush 8 dX13_measure_49 (by decide) ?_
        refine z_iload_n 1 dX13_measure_51 rfl ?_
        refine z_imul dX13_measure_52 ?_
        refine z_iload_n 2 dX13_measure_53 rfl ?_
        refine z_iadd dX13_measure_54 ?_
        obtain ⟨o16, h⟩ := h
        refine z_iald (I12 65 (((8 * p0) + p1).toNatClampNeg)) dX13_measure_55 (ma_8 hL).2.1 (ma_8 hL).2.2 o16 rfl ?_
        refine z_istore [1, 2, 3, 4, 0] [(0, .ref (n0 + 59)), (1, .int p0), (2, .int p1), (3, .int p2), (4, .int (I12 65 (((8 * p0) + p1).toNatClampNeg)))] dX13_measure_56 (by decide) rfl ?_
        refine z_aload_n 0 dX13_measure_58 rfl ?_
        refine fg_13_25 (some 65) rfl dX13_measure_59 hL.1 hL.2.1 (ma_8 hL).1 ?_
        refine z_bipush 8 dX13_measure_62 (by decide) ?_
        refine z_iload_n 1 dX13_measure_64 rfl ?_
        refine z_imul dX13_measure_65 ?_
        refine z_iload_n 2 dX13_measure_66 rfl ?_
        refine z_iadd dX13_measure_67 ?_
        refine z_iload_n 3 dX13_measure_68 rfl ?_
        refine z_iast dX13_measure_69 (ma_8 hL).2.1 (ma_8 hL).2.2 o16 ?_
        refine z_iload 4 dX13_measure_70 rfl ?_
        exact z_iret dX13_measure_72 rfl ⟨rfl, h⟩
      · rw [if_pos g15] at h
        refine z_aload_n 0 dX13_measure_32 rfl ?_
        refine z_iload_n 3 dX13_measure_33 rfl ?_
        refine z_iconst (-1) dX13_measure_34 (by decide) ?_
        refine z_sipush 9999 dX13_measure_35 (by decide) ?_
        refine z_callS0 (As := [.int p2, .int (-1), .int 9999]) (st := [.ref (n0 + 59)]) dX13_measure_38 hy_X13_bounds wg_1797 wg_1798 (Nat.le_refl _) (Nat.le_of_ble_eq_true rfl) (RM0.mono h (fun vv I17 L18 h => ?_))
        obtain ⟨r19, rfl, h⟩ := h
        change Z n0 xX13_measure (d + 1) 0 0 41 [(0, .ref (n0 + 59)), (1, .int p0), (2, .int p1), (3, .int p2)] [.int r19, .ref (n0 + 59)] K I17 L18 (z_q0 K Q)
        refine z_callV0 (As := [.int r19]) (st := []) dX13_measure_41 hy_X13_refuseFar hL.1 hL.2.1 (by decide) wg_1820 wg_1822 wg_57 (Nat.le_refl _) (Nat.le_of_ble_eq_true rfl) (RM0.mono h (fun vv I20 L21 h => ?_))
        obtain ⟨r22, rfl, h⟩ := h
        change Z n0 xX13_measure (d + 1) 0 0 44 [(0, .ref (n0 + 59)), (1, .int p0), (2, .int p1), (3, .int p2)] [.int r22] K I20 L21 (z_q0 K Q)
        exact z_iret dX13_measure_44 rfl ⟨rfl, h⟩
    · rw [if_pos g11] at h
      refine z_aload_n 0 dX13_measure_15 rfl ?_
      refine z_iconst (-1) dX13_measure_16 (by decide) ?_
      refine z_callV0 (As := [.int (-1)]) (st := []) dX13_measure_17 hy_X13_refuseFar hL.1 hL.2.1 (by decide) wg_1820 wg_1822 wg_57 (Nat.le_refl _) (Nat.le_of_ble_eq_true rfl) (RM0.mono h (fun vv I23 L24 h => ?_))
      obtain ⟨r25, rfl, h⟩ := h
      change Z n0 xX13_measure (d + 1) 0 0 20 [(0, .ref (n0 + 59)), (1, .int p0), (2, .int p1), (3, .int p2)] [.int r25] K I23 L24 (z_q0 K Q)
      exact z_iret dX13_measure_20 rfl ⟨rfl, h⟩
theorem dX13_measuredOf_0 : decode cX13_measuredOf 0 = .ok (.aload_n 0, 1) := by decide +kernel
theorem dX13_measuredOf_1 : decode cX13_measuredOf 1 = .ok (.getfield 25, 3) := by decide +kernel
theorem dX13_measuredOf_4 : decode cX13_measuredOf 4 = .ok (.bipush 8, 2) := by decide +kernel
theorem dX13_measuredOf_6 : decode cX13_measuredOf 6 = .ok (.iload_n 1, 1) := by decide +kernel
theorem dX13_measuredOf_7 : decode cX13_measuredOf 7 = .ok (.imul, 1) := by decide +kernel
theorem dX13_measuredOf_8 : decode cX13_measuredOf 8 = .ok (.iload_n 2, 1) := by decide +kernel
theorem dX13_measuredOf_9 : decode cX13_measuredOf 9 = .ok (.iadd, 1) := by decide +kernel
theorem dX13_measuredOf_10 : decode cX13_measuredOf 10 = .ok (.iaload, 1) := by decide +kernel
theorem dX13_measuredOf_11 : decode cX13_measuredOf 11 = .ok (.istore_n 3, 1) := by decide +kernel
theorem dX13_measuredOf_12 : decode cX13_measuredOf 12 = .ok (.iload_n 3, 1) := by decide +kernel
theorem dX13_measuredOf_13 : decode cX13_measuredOf 13 = .ok (.ifCond .lt 7, 3) := by decide +kernel
theorem dX13_measuredOf_16 : decode cX13_measuredOf 16 = .ok (.iload_n 3, 1) := by decide +kernel
theorem dX13_measuredOf_17 : decode cX13_measuredOf 17 = .ok (.goto 18, 3) := by decide +kernel
theorem dX13_measuredOf_20 : decode cX13_measuredOf 20 = .ok (.aload_n 0, 1) := by decide +kernel
theorem dX13_measuredOf_21 : decode cX13_measuredOf 21 = .ok (.iload_n 2, 1) := by decide +kernel
theorem dX13_measuredOf_22 : decode cX13_measuredOf 22 = .ok (.aload_n 0, 1) := by decide +kernel
theorem dX13_measuredOf_23 : decode cX13_measuredOf 23 = .ok (.getfield 22, 3) := by decide +kernel
theorem dX13_measuredOf_26 : decode cX13_measuredOf 26 = .ok (.iload_n 1, 1) := by decide +kernel
theorem dX13_measuredOf_27 : decode cX13_measuredOf 27 = .ok (.iaload, 1) := by decide +kernel
theorem dX13_measuredOf_28 : decode cX13_measuredOf 28 = .ok (.aload_n 0, 1) := by decide +kernel
theorem dX13_measuredOf_29 : decode cX13_measuredOf 29 = .ok (.getfield 312, 3) := by decide +kernel
theorem dX13_measuredOf_32 : decode cX13_measuredOf 32 = .ok (.invokevirtual 328, 3) := by decide +kernel
theorem dX13_measuredOf_35 : decode cX13_measuredOf 35 = .ok (.ireturn, 1) := by decide +kernel
set_option maxRecDepth 100000 in
set_option maxHeartbeats 4000000 in
theorem wp_X13_measuredOf {n0 d : Nat} {K : z_K} {I : z_I} {L : z_L} {Q : z_q} {p0 : Int32} {p1 : Int32} (hL : MLay K) (h : vp_in ((8 * p0) + p1) 96 ∧ (if ((I 65 (((8 * p0) + p1).toNatClampNeg)) : Int32) < 0 then vp_in p0 12 ∧ RM0 n0 xX13_tabledOn d [.ref (n0 + 59), .int p1, .int (I 64 p0.toNatClampNeg), .int (I 59 0)] K I L (fun vv I4 L5 => ∃ r6 : Int32, vv = some (.int r6) ∧ Q (some (.int r6)) I4 L5) else Q (some (.int (I 65 (((8 * p0) + p1).toNatClampNeg)))) I L)) : RM0 n0 xX13_measuredOf (d + 1) [.ref (n0 + 59), .int p0, .int p1] K I L Q := by
  refine z_entry0 (by decide) (Nat.le_of_ble_eq_true rfl) ?_
  change Z n0 xX13_measuredOf (d + 1) 0 0 0 [(0, .ref (n0 + 59)), (1, .int p0), (2, .int p1)] [] K I L (z_q0 K Q)
  refine z_aload_n 0 dX13_measuredOf_0 rfl ?_
  refine fg_13_25 (some 65) rfl dX13_measuredOf_1 hL.1 hL.2.1 (ma_8 hL).1 ?_
  refine z_bipush 8 dX13_measuredOf_4 (by decide) ?_
  refine z_iload_n 1 dX13_measuredOf_6 rfl ?_
  refine z_imul dX13_measuredOf_7 ?_
  refine z_iload_n 2 dX13_measuredOf_8 rfl ?_
  refine z_iadd dX13_measuredOf_9 ?_
  obtain ⟨o1, h⟩ := h
  refine z_iald (I 65 (((8 * p0) + p1).toNatClampNeg)) dX13_measuredOf_10 (ma_8 hL).2.1 (ma_8 hL).2.2 o1 rfl ?_
  refine z_istore_n [1, 2, 3, 0] [(0, .ref (n0 + 59)), (1, .int p0), (2, .int p1), (3, .int (I 65 (((8 * p0) + p1).toNatClampNeg)))] dX13_measuredOf_11 (by decide) rfl ?_
  refine z_iload_n 3 dX13_measuredOf_12 rfl ?_
  refine z_if_lt 20 dX13_measuredOf_13 (by decide) (fun g2 => ?_) (fun g2 => ?_)
  · rw [if_pos g2] at h
    refine z_aload_n 0 dX13_measuredOf_20 rfl ?_
    refine z_iload_n 2 dX13_measuredOf_21 rfl ?_
    refine z_aload_n 0 dX13_measuredOf_22 rfl ?_
    refine fg_13_22 (some 64) rfl dX13_measuredOf_23 hL.1 hL.2.1 (ma_7 hL).1 ?_
    refine z_iload_n 1 dX13_measuredOf_26 rfl ?_
    obtain ⟨o3, h⟩ := h
    refine z_iald (I 64 p0.toNatClampNeg) dX13_measuredOf_27 (ma_7 hL).2.1 (ma_7 hL).2.2 o3 rfl ?_
    refine z_aload_n 0 dX13_measuredOf_28 rfl ?_
    refine fg_13_312 (I 59 0) rfl dX13_measuredOf_29 hL.1 hL.2.1 rfl ?_
    refine z_callV0 (As := [.int p1, .int (I 64 p0.toNatClampNeg), .int (I 59 0)]) (st := []) dX13_measuredOf_32 hy_X13_tabledOn hL.1 hL.2.1 (by decide) wg_1800 wg_1802 wg_55 (Nat.le_refl _) (Nat.le_of_ble_eq_true rfl) (RM0.mono h (fun vv I4 L5 h => ?_))
    obtain ⟨r6, rfl, h⟩ := h
    change Z n0 xX13_measuredOf (d + 1) 0 0 35 [(0, .ref (n0 + 59)), (1, .int p0), (2, .int p1), (3, .int (I 65 (((8 * p0) + p1).toNatClampNeg)))] [.int r6] K I4 L5 (z_q0 K Q)
    exact z_iret dX13_measuredOf_35 rfl ⟨rfl, h⟩
  · rw [if_neg g2] at h
    refine z_iload_n 3 dX13_measuredOf_16 rfl ?_
    refine z_goto 35 dX13_measuredOf_17 (by decide) ?_
    exact z_iret dX13_measuredOf_35 rfl ⟨rfl, h⟩
theorem dX13_measured_0 : decode cX13_measured 0 = .ok (.aload_n 0, 1) := by decide +kernel
theorem dX13_measured_1 : decode cX13_measured 1 = .ok (.iload_n 1, 1) := by decide +kernel
theorem dX13_measured_2 : decode cX13_measured 2 = .ok (.invokevirtual 331, 3) := by decide +kernel
theorem dX13_measured_5 : decode cX13_measured 5 = .ok (.ifCond .eq 19, 3) := by decide +kernel
theorem dX13_measured_8 : decode cX13_measured 8 = .ok (.iload_n 2, 1) := by decide +kernel
theorem dX13_measured_9 : decode cX13_measured 9 = .ok (.invokestatic 318, 3) := by decide +kernel
theorem dX13_measured_12 : decode cX13_measured 12 = .ok (.ifCond .eq 12, 3) := by decide +kernel
theorem dX13_measured_15 : decode cX13_measured 15 = .ok (.aload_n 0, 1) := by decide +kernel
theorem dX13_measured_16 : decode cX13_measured 16 = .ok (.iload_n 1, 1) := by decide +kernel
theorem dX13_measured_17 : decode cX13_measured 17 = .ok (.iload_n 2, 1) := by decide +kernel
theorem dX13_measured_18 : decode cX13_measured 18 = .ok (.invokevirtual 337, 3) := by decide +kernel
theorem dX13_measured_21 : decode cX13_measured 21 = .ok (.goto 8, 3) := by decide +kernel
theorem dX13_measured_24 : decode cX13_measured 24 = .ok (.aload_n 0, 1) := by decide +kernel
theorem dX13_measured_25 : decode cX13_measured 25 = .ok (.iconst (-1), 1) := by decide +kernel
theorem dX13_measured_26 : decode cX13_measured 26 = .ok (.invokevirtual 308, 3) := by decide +kernel
theorem dX13_measured_29 : decode cX13_measured 29 = .ok (.ireturn, 1) := by decide +kernel
set_option maxRecDepth 100000 in
set_option maxHeartbeats 4000000 in
theorem wp_X13_measured {n0 d : Nat} {K : z_K} {I : z_I} {L : z_L} {Q : z_q} {p0 : Int32} {p1 : Int32} (hL : MLay K) (h : RM0 n0 xX13_isBody d [.ref (n0 + 59), .int p0] K I L (fun vv I1 L2 => ∃ r3 : Int32, vv = some (.int r3) ∧ (if r3 = 0 then RM0 n0 xX13_refuse d [.ref (n0 + 59), .int (-1)] K I1 L2 (fun vv I5 L6 => ∃ r7 : Int32, vv = some (.int r7) ∧ Q (some (.int r7)) I5 L6) else RM0 n0 xX13_isMeasure d [.int p1] K I1 L2 (fun vv I8 L9 => ∃ r10 : Int32, vv = some (.int r10) ∧ (if r10 = 0 then RM0 n0 xX13_refuse d [.ref (n0 + 59), .int (-1)] K I8 L9 (fun vv I12 L13 => ∃ r14 : Int32, vv = some (.int r14) ∧ Q (some (.int r14)) I12 L13) else RM0 n0 xX13_measuredOf d [.ref (n0 + 59), .int p0, .int p1] K I8 L9 (fun vv I15 L16 => ∃ r17 : Int32, vv = some (.int r17) ∧ Q (some (.int r17)) I15 L16)))))) : RM0 n0 xX13_measured (d + 1) [.ref (n0 + 59), .int p0, .int p1] K I L Q := by
  refine z_entry0 (by decide) (Nat.le_of_ble_eq_true rfl) ?_
  change Z n0 xX13_measured (d + 1) 0 0 0 [(0, .ref (n0 + 59)), (1, .int p0), (2, .int p1)] [] K I L (z_q0 K Q)
  refine z_aload_n 0 dX13_measured_0 rfl ?_
  refine z_iload_n 1 dX13_measured_1 rfl ?_
  refine z_callV0 (As := [.int p0]) (st := []) dX13_measured_2 hy_X13_isBody hL.1 hL.2.1 (by decide) wg_1816 wg_1818 wg_56 (Nat.le_refl _) (Nat.le_of_ble_eq_true rfl) (RM0.mono h (fun vv I1 L2 h => ?_))
  obtain ⟨r3, rfl, h⟩ := h
  change Z n0 xX13_measured (d + 1) 0 0 5 [(0, .ref (n0 + 59)), (1, .int p0), (2, .int p1)] [.int r3] K I1 L2 (z_q0 K Q)
  refine z_if_eq 24 dX13_measured_5 (by decide) (fun g4 => ?_) (fun g4 => ?_)
  · rw [if_pos g4] at h
    refine z_aload_n 0 dX13_measured_24 rfl ?_
    refine z_iconst (-1) dX13_measured_25 (by decide) ?_
    refine z_callV0 (As := [.int (-1)]) (st := []) dX13_measured_26 hy_X13_refuse hL.1 hL.2.1 (by decide) wg_1778 wg_1780 wg_54 (Nat.le_refl _) (Nat.le_of_ble_eq_true rfl) (RM0.mono h (fun vv I5 L6 h => ?_))
    obtain ⟨r7, rfl, h⟩ := h
    change Z n0 xX13_measured (d + 1) 0 0 29 [(0, .ref (n0 + 59)), (1, .int p0), (2, .int p1)] [.int r7] K I5 L6 (z_q0 K Q)
    exact z_iret dX13_measured_29 rfl ⟨rfl, h⟩
  · rw [if_neg g4] at h
    refine z_iload_n 2 dX13_measured_8 rfl ?_
    refine z_callS0 (As := [.int p1]) (st := []) dX13_measured_9 hy_X13_isMeasure wg_1786 wg_1787 (Nat.le_refl _) (Nat.le_of_ble_eq_true rfl) (RM0.mono h (fun vv I8 L9 h => ?_))
    obtain ⟨r10, rfl, h⟩ := h
    change Z n0 xX13_measured (d + 1) 0 0 12 [(0, .ref (n0 + 59)), (1, .int p0), (2, .int p1)] [.int r10] K I8 L9 (z_q0 K Q)
    refine z_if_eq 24 dX13_measured_12 (by decide) (fun g11 => ?_) (fun g11 => ?_)
    · rw [if_pos g11] at h
      refine z_aload_n 0 dX13_measured_24 rfl ?_
      refine z_iconst (-1) dX13_measured_25 (by decide) ?_
      refine z_callV0 (As := [.int (-1)]) (st := []) dX13_measured_26 hy_X13_refuse hL.1 hL.2.1 (by decide) wg_1778 wg_1780 wg_54 (Nat.le_refl _) (Nat.le_of_ble_eq_true rfl) (RM0.mono h (fun vv I12 L13 h => ?_))
      obtain ⟨r14, rfl, h⟩ := h
      change Z n0 xX13_measured (d + 1) 0 0 29 [(0, .ref (n0 + 59)), (1, .int p0), (2, .int p1)] [.int r14] K I12 L13 (z_q0 K Q)
      exact z_iret dX13_measured_29 rfl ⟨rfl, h⟩
    · rw [if_neg g11] at h
      refine z_aload_n 0 dX13_measured_15 rfl ?_
      refine z_iload_n 1 dX13_measured_16 rfl ?_
      refine z_iload_n 2 dX13_measured_17 rfl ?_
      refine z_callV0 (As := [.int p0, .int p1]) (st := []) dX13_measured_18 hy_X13_measuredOf hL.1 hL.2.1 (by decide) wg_1829 wg_1831 wg_58 (Nat.le_refl _) (Nat.le_of_ble_eq_true rfl) (RM0.mono h (fun vv I15 L16 h => ?_))
      obtain ⟨r17, rfl, h⟩ := h
      change Z n0 xX13_measured (d + 1) 0 0 21 [(0, .ref (n0 + 59)), (1, .int p0), (2, .int p1)] [.int r17] K I15 L16 (z_q0 K Q)
      refine z_goto 29 dX13_measured_21 (by decide) ?_
      exact z_iret dX13_measured_29 rfl ⟨rfl, h⟩
theorem dX13_piece_0 : decode cX13_piece 0 = .ok (.iload_n 1, 1) := by decide +kernel
theorem dX13_piece_1 : decode cX13_piece 1 = .ok (.i2l, 1) := by decide +kernel
theorem dX13_piece_2 : decode cX13_piece 2 = .ok (.lconst 0, 1) := by decide +kernel
theorem dX13_piece_3 : decode cX13_piece 3 = .ok (.ldc2_w 341, 3) := by decide +kernel
theorem dX13_piece_6 : decode cX13_piece 6 = .ok (.invokestatic 291, 3) := by decide +kernel
theorem dX13_piece_9 : decode cX13_piece 9 = .ok (.ifCond .ne 10, 3) := by decide +kernel
theorem dX13_piece_12 : decode cX13_piece 12 = .ok (.aload_n 0, 1) := by decide +kernel
theorem dX13_piece_13 : decode cX13_piece 13 = .ok (.bipush (-2), 2) := by decide +kernel
theorem dX13_piece_15 : decode cX13_piece 15 = .ok (.invokevirtual 308, 3) := by decide +kernel
theorem dX13_piece_18 : decode cX13_piece 18 = .ok (.ireturn, 1) := by decide +kernel
theorem dX13_piece_19 : decode cX13_piece 19 = .ok (.iload_n 1, 1) := by decide +kernel
theorem dX13_piece_20 : decode cX13_piece 20 = .ok (.iconst 3, 1) := by decide +kernel
theorem dX13_piece_21 : decode cX13_piece 21 = .ok (.if_icmp .ne 36, 3) := by decide +kernel
theorem dX13_piece_24 : decode cX13_piece 24 = .ok (.aload_n 0, 1) := by decide +kernel
theorem dX13_piece_25 : decode cX13_piece 25 = .ok (.iload_n 3, 1) := by decide +kernel
theorem dX13_piece_26 : decode cX13_piece 26 = .ok (.invokevirtual 304, 3) := by decide +kernel
theorem dX13_piece_29 : decode cX13_piece 29 = .ok (.ifCond .eq 22, 3) := by decide +kernel
theorem dX13_piece_32 : decode cX13_piece 32 = .ok (.aload_n 0, 1) := by decide +kernel
theorem dX13_piece_33 : decode cX13_piece 33 = .ok (.getfield 28, 3) := by decide +kernel
theorem dX13_piece_36 : decode cX13_piece 36 = .ok (.iload_n 3, 1) := by decide +kernel
theorem dX13_piece_37 : decode cX13_piece 37 = .ok (.iaload, 1) := by decide +kernel
theorem dX13_piece_38 : decode cX13_piece 38 = .ok (.ifCond .eq 19, 3) := by decide +kernel
theorem dX13_piece_41 : decode cX13_piece 41 = .ok (.aload_n 0, 1) := by decide +kernel
theorem dX13_piece_42 : decode cX13_piece 42 = .ok (.getfield 28, 3) := by decide +kernel
theorem dX13_piece_45 : decode cX13_piece 45 = .ok (.iload_n 3, 1) := by decide +kernel
theorem dX13_piece_46 : decode cX13_piece 46 = .ok (.iaload, 1) := by decide +kernel
theorem dX13_piece_47 : decode cX13_piece 47 = .ok (.iconst 3, 1) := by decide +kernel
theorem dX13_piece_48 : decode cX13_piece 48 = .ok (.if_icmp .eq 9, 3) := by decide +kernel
theorem dX13_piece_51 : decode cX13_piece 51 = .ok (.aload_n 0, 1) := by decide +kernel
theorem dX13_piece_52 : decode cX13_piece 52 = .ok (.iconst (-1), 1) := by decide +kernel
theorem dX13_piece_53 : decode cX13_piece 53 = .ok (.invokevirtual 308, 3) := by decide +kernel
theorem dX13_piece_56 : decode cX13_piece 56 = .ok (.ireturn, 1) := by decide +kernel
theorem dX13_piece_57 : decode cX13_piece 57 = .ok (.iload_n 1, 1) := by decide +kernel
theorem dX13_piece_58 : decode cX13_piece 58 = .ok (.iconst 3, 1) := by decide +kernel
theorem dX13_piece_59 : decode cX13_piece 59 = .ok (.if_icmp .ge 15, 3) := by decide +kernel
theorem dX13_piece_62 : decode cX13_piece 62 = .ok (.iload_n 3, 1) := by decide +kernel
theorem dX13_piece_63 : decode cX13_piece 63 = .ok (.iconst (-1), 1) := by decide +kernel
theorem dX13_piece_64 : decode cX13_piece 64 = .ok (.if_icmp .eq 10, 3) := by decide +kernel
theorem dX13_piece_67 : decode cX13_piece 67 = .ok (.aload_n 0, 1) := by decide +kernel
theorem dX13_piece_68 : decode cX13_piece 68 = .ok (.bipush (-3), 2) := by decide +kernel
theorem dX13_piece_70 : decode cX13_piece 70 = .ok (.invokevirtual 308, 3) := by decide +kernel
theorem dX13_piece_73 : decode cX13_piece 73 = .ok (.ireturn, 1) := by decide +kernel
theorem dX13_piece_74 : decode cX13_piece 74 = .ok (.iload_n 2, 1) := by decide +kernel
theorem dX13_piece_75 : decode cX13_piece 75 = .ok (.iconst 3, 1) := by decide +kernel
theorem dX13_piece_76 : decode cX13_piece 76 = .ok (.if_icmp .ge 10, 3) := by decide +kernel
theorem dX13_piece_79 : decode cX13_piece 79 = .ok (.aload_n 0, 1) := by decide +kernel
theorem dX13_piece_80 : decode cX13_piece 80 = .ok (.bipush (-4), 2) := by decide +kernel
theorem dX13_piece_82 : decode cX13_piece 82 = .ok (.invokevirtual 308, 3) := by decide +kernel
theorem dX13_piece_85 : decode cX13_piece 85 = .ok (.ireturn, 1) := by decide +kernel
theorem dX13_piece_86 : decode cX13_piece 86 = .ok (.iload_n 2, 1) := by decide +kernel
theorem dX13_piece_87 : decode cX13_piece 87 = .ok (.bipush 10, 2) := by decide +kernel
theorem dX13_piece_89 : decode cX13_piece 89 = .ok (.if_icmp .gt 12, 3) := by decide +kernel
theorem dX13_piece_92 : decode cX13_piece 92 = .ok (.aload_n 0, 1) := by decide +kernel
theorem dX13_piece_93 : decode cX13_piece 93 = .ok (.getfield 301, 3) := by decide +kernel
theorem dX13_piece_96 : decode cX13_piece 96 = .ok (.bipush 16, 2) := by decide +kernel
theorem dX13_piece_98 : decode cX13_piece 98 = .ok (.if_icmp .ne 10, 3) := by decide +kernel
theorem dX13_piece_101 : decode cX13_piece 101 = .ok (.aload_n 0, 1) := by decide +kernel
theorem dX13_piece_102 : decode cX13_piece 102 = .ok (.bipush (-6), 2) := by decide +kernel
theorem dX13_piece_104 : decode cX13_piece 104 = .ok (.invokevirtual 308, 3) := by decide +kernel
theorem dX13_piece_107 : decode cX13_piece 107 = .ok (.ireturn, 1) := by decide +kernel
theorem dX13_piece_108 : decode cX13_piece 108 = .ok (.aload_n 0, 1) := by decide +kernel
theorem dX13_piece_109 : decode cX13_piece 109 = .ok (.getfield 28, 3) := by decide +kernel
theorem dX13_piece_112 : decode cX13_piece 112 = .ok (.aload_n 0, 1) := by decide +kernel
theorem dX13_piece_113 : decode cX13_piece 113 = .ok (.getfield 301, 3) := by decide +kernel
theorem dX13_piece_116 : decode cX13_piece 116 = .ok (.iload_n 1, 1) := by decide +kernel
theorem dX13_piece_117 : decode cX13_piece 117 = .ok (.iastore, 1) := by decide +kernel
theorem dX13_piece_118 : decode cX13_piece 118 = .ok (.aload_n 0, 1) := by decide +kernel
theorem dX13_piece_119 : decode cX13_piece 119 = .ok (.getfield 31, 3) := by decide +kernel
theorem dX13_piece_122 : decode cX13_piece 122 = .ok (.aload_n 0, 1) := by decide +kernel
theorem dX13_piece_123 : decode cX13_piece 123 = .ok (.getfield 301, 3) := by decide +kernel
theorem dX13_piece_126 : decode cX13_piece 126 = .ok (.iload_n 2, 1) := by decide +kernel
theorem dX13_piece_127 : decode cX13_piece 127 = .ok (.iastore, 1) := by decide +kernel
theorem dX13_piece_128 : decode cX13_piece 128 = .ok (.aload_n 0, 1) := by decide +kernel
theorem dX13_piece_129 : decode cX13_piece 129 = .ok (.getfield 34, 3) := by decide +kernel
theorem dX13_piece_132 : decode cX13_piece 132 = .ok (.aload_n 0, 1) := by decide +kernel
theorem dX13_piece_133 : decode cX13_piece 133 = .ok (.getfield 301, 3) := by decide +kernel
theorem dX13_piece_136 : decode cX13_piece 136 = .ok (.iload_n 3, 1) := by decide +kernel
theorem dX13_piece_137 : decode cX13_piece 137 = .ok (.iastore, 1) := by decide +kernel
theorem dX13_piece_138 : decode cX13_piece 138 = .ok (.aload_n 0, 1) := by decide +kernel
theorem dX13_piece_139 : decode cX13_piece 139 = .ok (.dup, 1) := by decide +kernel
theorem dX13_piece_140 : decode cX13_piece 140 = .ok (.getfield 301, 3) := by decide +kernel
theorem dX13_piece_143 : decode cX13_piece 143 = .ok (.iconst 1, 1) := by decide +kernel
theorem dX13_piece_144 : decode cX13_piece 144 = .ok (.iadd, 1) := by decide +kernel
theorem dX13_piece_145 : decode cX13_piece 145 = .ok (.putfield 301, 3) := by decide +kernel
theorem dX13_piece_148 : decode cX13_piece 148 = .ok (.aload_n 0, 1) := by decide +kernel
theorem dX13_piece_149 : decode cX13_piece 149 = .ok (.getfield 301, 3) := by decide +kernel
theorem dX13_piece_152 : decode cX13_piece 152 = .ok (.iconst 1, 1) := by decide +kernel
theorem dX13_piece_153 : decode cX13_piece 153 = .ok (.isub, 1) := by decide +kernel
theorem dX13_piece_154 : decode cX13_piece 154 = .ok (.ireturn, 1) := by decide +kernel
set_option maxRecDepth 100000 in
set_option maxHeartbeats 4000000 in
theorem wp_X13_piece {n0 d : Nat} {K : z_K} {I : z_I} {L : z_L} {Q : z_q} {p0 : Int32} {p1 : Int32} {p2 : Int32} (hL : MLay K) (h : RM0 n0 xX13_in d [.long p0.toInt64, .long 0, .long 3] K I L (fun vv I1 L2 => ∃ r3 : Int32, vv = some (.int r3) ∧ (if r3 = 0 then RM0 n0 xX13_refuse d [.ref (n0 + 59), .int (-2)] K I1 L2 (fun vv I112 L113 => ∃ r114 : Int32, vv = some (.int r114) ∧ Q (some (.int r114)) I112 L113) else (if p0 = 3 then RM0 n0 xX13_isPiece d [.ref (n0 + 59), .int p2] K I1 L2 (fun vv I37 L38 => ∃ r39 : Int32, vv = some (.int r39) ∧ (if r39 = 0 then RM0 n0 xX13_refuse d [.ref (n0 + 59), .int (-1)] K I37 L38 (fun vv I41 L42 => ∃ r43 : Int32, vv = some (.int r43) ∧ Q (some (.int r43)) I41 L42) else vp_in p2 16 ∧ (if ((I37 66 p2.toNatClampNeg) : Int32) = 0 then (if p0 < 3 then (if p2 = (-1) then (if p1 < 3 then RM0 n0 xX13_refuse d [.ref (n0 + 59), .int (-4)] K I37 L38 (fun vv I71 L72 => ∃ r73 : Int32, vv = some (.int r73) ∧ Q (some (.int r73)) I71 L72) else (if 10 < p1 then RM0 n0 xX13_refuse d [.ref (n0 + 59), .int (-6)] K I37 L38 (fun vv I63 L64 => ∃ r65 : Int32, vv = some (.int r65) ∧ Q (some (.int r65)) I63 L64) else (if ((I37 59 9) : Int32) = 16 then RM0 n0 xX13_refuse d [.ref (n0 + 59), .int (-6)] K I37 L38 (fun vv I68 L69 => ∃ r70 : Int32, vv = some (.int r70) ∧ Q (some (.int r70)) I68 L69) else vp_in (I37 59 9) 16 ∧ Q (some (.int ((((I37 59 9) + 1)) - 1))) (zI (zI (zI (zI I37 66 ((I37 59 9).toNatClampNeg) p0) 67 ((I37 59 9).toNatClampNeg) p1) 68 ((I37 59 9).toNatClampNeg) p2) 59 9 ((I37 59 9) + 1)) L38))) else RM0 n0 xX13_refuse d [.ref (n0 + 59), .int (-3)] K I37 L38 (fun vv I74 L75 => ∃ r76 : Int32, vv = some (.int r76) ∧ Q (some (.int r76)) I74 L75)) else (if p1 < 3 then RM0 n0 xX13_refuse d [.ref (n0 + 59), .int (-4)] K I37 L38 (fun vv I57 L58 => ∃ r59 : Int32, vv = some (.int r59) ∧ Q (some (.int r59)) I57 L58) else (if 10 < p1 then RM0 n0 xX13_refuse d [.ref (n0 + 59), .int (-6)] K I37 L38 (fun vv I49 L50 => ∃ r51 : Int32, vv = some (.int r51) ∧ Q (some (.int r51)) I49 L50) else (if ((I37 59 9) : Int32) = 16 then RM0 n0 xX13_refuse d [.ref (n0 + 59), .int (-6)] K I37 L38 (fun vv I54 L55 => ∃ r56 : Int32, vv = some (.int r56) ∧ Q (some (.int r56)) I54 L55) else vp_in (I37 59 9) 16 ∧ Q (some (.int ((((I37 59 9) + 1)) - 1))) (zI (zI (zI (zI I37 66 ((I37 59 9).toNatClampNeg) p0) 67 ((I37 59 9).toNatClampNeg) p1) 68 ((I37 59 9).toNatClampNeg) p2) 59 9 ((I37 59 9) + 1)) L38)))) else (if ((I37 66 p2.toNatClampNeg) : Int32) = 3 then (if p0 < 3 then (if p2 = (-1) then (if p1 < 3 then RM0 n0 xX13_refuse d [.ref (n0 + 59), .int (-4)] K I37 L38 (fun vv I103 L104 => ∃ r105 : Int32, vv = some (.int r105) ∧ Q (some (.int r105)) I103 L104) else (if 10 < p1 then RM0 n0 xX13_refuse d [.ref (n0 + 59), .int (-6)] K I37 L38 (fun vv I95 L96 => ∃ r97 : Int32, vv = some (.int r97) ∧ Q (some (.int r97)) I95 L96) else (if ((I37 59 9) : Int32) = 16 then RM0 n0 xX13_refuse d [.ref (n0 + 59), .int (-6)] K I37 L38 (fun vv I100 L101 => ∃ r102 : Int32, vv = some (.int r102) ∧ Q (some (.int r102)) I100 L101) else vp_in (I37 59 9) 16 ∧ Q (some (.int ((((I37 59 9) + 1)) - 1))) (zI (zI (zI (zI I37 66 ((I37 59 9).toNatClampNeg) p0) 67 ((I37 59 9).toNatClampNeg) p1) 68 ((I37 59 9).toNatClampNeg) p2) 59 9 ((I37 59 9) + 1)) L38))) else RM0 n0 xX13_refuse d [.ref (n0 + 59), .int (-3)] K I37 L38 (fun vv I106 L107 => ∃ r108 : Int32, vv = some (.int r108) ∧ Q (some (.int r108)) I106 L107)) else (if p1 < 3 then RM0 n0 xX13_refuse d [.ref (n0 + 59), .int (-4)] K I37 L38 (fun vv I89 L90 => ∃ r91 : Int32, vv = some (.int r91) ∧ Q (some (.int r91)) I89 L90) else (if 10 < p1 then RM0 n0 xX13_refuse d [.ref (n0 + 59), .int (-6)] K I37 L38 (fun vv I81 L82 => ∃ r83 : Int32, vv = some (.int r83) ∧ Q (some (.int r83)) I81 L82) else (if ((I37 59 9) : Int32) = 16 then RM0 n0 xX13_refuse d [.ref (n0 + 59), .int (-6)] K I37 L38 (fun vv I86 L87 => ∃ r88 : Int32, vv = some (.int r88) ∧ Q (some (.int r88)) I86 L87) else vp_in (I37 59 9) 16 ∧ Q (some (.int ((((I37 59 9) + 1)) - 1))) (zI (zI (zI (zI I37 66 ((I37 59 9).toNatClampNeg) p0) 67 ((I37 59 9).toNatClampNeg) p1) 68 ((I37 59 9).toNatClampNeg) p2) 59 9 ((I37 59 9) + 1)) L38)))) else RM0 n0 xX13_refuse d [.ref (n0 + 59), .int (-1)] K I37 L38 (fun vv I109 L110 => ∃ r111 : Int32, vv = some (.int r111) ∧ Q (some (.int r111)) I109 L110))))) else (if p0 < 3 then (if p2 = (-1) then (if p1 < 3 then RM0 n0 xX13_refuse d [.ref (n0 + 59), .int (-4)] K I1 L2 (fun vv I31 L32 => ∃ r33 : Int32, vv = some (.int r33) ∧ Q (some (.int r33)) I31 L32) else (if 10 < p1 then RM0 n0 xX13_refuse d [.ref (n0 + 59), .int (-6)] K I1 L2 (fun vv I23 L24 => ∃ r25 : Int32, vv = some (.int r25) ∧ Q (some (.int r25)) I23 L24) else (if ((I1 59 9) : Int32) = 16 then RM0 n0 xX13_refuse d [.ref (n0 + 59), .int (-6)] K I1 L2 (fun vv I28 L29 => ∃ r30 : Int32, vv = some (.int r30) ∧ Q (some (.int r30)) I28 L29) else vp_in (I1 59 9) 16 ∧ Q (some (.int ((((I1 59 9) + 1)) - 1))) (zI (zI (zI (zI I1 66 ((I1 59 9).toNatClampNeg) p0) 67 ((I1 59 9).toNatClampNeg) p1) 68 ((I1 59 9).toNatClampNeg) p2) 59 9 ((I1 59 9) + 1)) L2))) else RM0 n0 xX13_refuse d [.ref (n0 + 59), .int (-3)] K I1 L2 (fun vv I34 L35 => ∃ r36 : Int32, vv = some (.int r36) ∧ Q (some (.int r36)) I34 L35)) else (if p1 < 3 then RM0 n0 xX13_refuse d [.ref (n0 + 59), .int (-4)] K I1 L2 (fun vv I17 L18 => ∃ r19 : Int32, vv = some (.int r19) ∧ Q (some (.int r19)) I17 L18) else (if 10 < p1 then RM0 n0 xX13_refuse d [.ref (n0 + 59), .int (-6)] K I1 L2 (fun vv I9 L10 => ∃ r11 : Int32, vv = some (.int r11) ∧ Q (some (.int r11)) I9 L10) else (if ((I1 59 9) : Int32) = 16 then RM0 n0 xX13_refuse d [.ref (n0 + 59), .int (-6)] K I1 L2 (fun vv I14 L15 => ∃ r16 : Int32, vv = some (.int r16) ∧ Q (some (.int r16)) I14 L15) else vp_in (I1 59 9) 16 ∧ Q (some (.int ((((I1 59 9) + 1)) - 1))) (zI (zI (zI (zI I1 66 ((I1 59 9).toNatClampNeg) p0) 67 ((I1 59 9).toNatClampNeg) p1) 68 ((I1 59 9).toNatClampNeg) p2) 59 9 ((I1 59 9) + 1)) L2)))))))) : RM0 n0 xX13_piece (d + 1) [.ref (n0 + 59), .int p0, .int p1, .int p2] K I L Q := by
  refine z_entry0 (by decide) (Nat.le_of_ble_eq_true rfl) ?_
  change Z n0 xX13_piece (d + 1) 0 0 0 [(0, .ref (n0 + 59)), (1, .int p0), (2, .int p1), (3, .int p2)] [] K I L (z_q0 K Q)
  refine z_iload_n 1 dX13_piece_0 rfl ?_
  refine z_i2l dX13_piece_1 ?_
  refine z_lconst 0 dX13_piece_2 (by decide) ?_
  refine z_ldc2_w 3 dX13_piece_3 wg_1837 ?_
  refine z_callS0 (As := [.long p0.toInt64, .long 0, .long 3]) (st := []) dX13_piece_6 hy_X13_in wg_1790 wg_1791 (Nat.le_refl _) (Nat.le_of_ble_eq_true rfl) (RM0.mono h (fun vv I1 L2 h => ?_))
  obtain ⟨r3, rfl, h⟩ := h
  change Z n0 xX13_piece (d + 1) 0 0 9 [(0, .ref (n0 + 59)), (1, .int p0), (2, .int p1), (3, .int p2)] [.int r3] K I1 L2 (z_q0 K Q)
  refine z_if_ne 19 dX13_piece_9 (by decide) (fun g4 => ?_) (fun g4 => ?_)
  · rw [if_neg g4] at h
    refine z_iload_n 1 dX13_piece_19 rfl ?_
    refine z_iconst 3 dX13_piece_20 (by decide) ?_
    refine z_icmp_ne 57 dX13_piece_21 (by decide) (fun g5 => ?_) (fun g5 => ?_)
    · rw [if_neg g5] at h
      refine z_iload_n 1 dX13_piece_57 rfl ?_
      refine z_iconst 3 dX13_piece_58 (by decide) ?_
      refine z_icmp_ge 74 dX13_piece_59 (by decide) (fun g6 => ?_) (fun g6 => ?_)
      · rw [if_neg g6] at h
        refine z_iload_n 2 dX13_piece_74 rfl ?_
        refine z_iconst 3 dX13_piece_75 (by decide) ?_
        refine z_icmp_ge 86 dX13_piece_76 (by decide) (fun g7 => ?_) (fun g7 => ?_)
        · rw [if_neg g7] at h
          refine z_iload_n 2 dX13_piece_86 rfl ?_
          refine z_bipush 10 dX13_piece_87 (by decide) ?_
          refine z_icmp_gt 101 dX13_piece_89 (by decide) (fun g8 => ?_) (fun g8 => ?_)
          · rw [if_pos g8] at h
            refine z_aload_n 0 dX13_piece_101 rfl ?_
            refine z_bipush (-6) dX13_piece_102 (by decide) ?_
            refine z_callV0 (As := [.int (-6)]) (st := []) dX13_piece_104 hy_X13_refuse hL.1 hL.2.1 (by decide) wg_1778 wg_1780 wg_54 (Nat.le_refl _) (Nat.le_of_ble_eq_true rfl) (RM0.mono h (fun vv I9 L10 h => ?_))
            obtain ⟨r11, rfl, h⟩ := h
            change Z n0 xX13_piece (d + 1) 0 0 107 [(0, .ref (n0 + 59)), (1, .int p0), (2, .int p1), (3, .int p2)] [.int r11] K I9 L10 (z_q0 K Q)
            exact z_iret dX13_piece_107 rfl ⟨rfl, h⟩
          · rw [if_neg g8] at h
            refine z_aload_n 0 dX13_piece_92 rfl ?_
            refine fg_13_301 (I1 59 9) rfl dX13_piece_93 hL.1 hL.2.1 rfl ?_
            refine z_bipush 16 dX13_piece_96 (by decide) ?_
            refine z_icmp_ne 108 dX13_piece_98 (by decide) (fun g12 => ?_) (fun g12 => ?_)
            · rw [if_neg g12] at h
              refine z_aload_n 0 dX13_piece_108 rfl ?_
              refine fg_13_28 (some 66) rfl dX13_piece_109 hL.1 hL.2.1 (ma_10 hL).1 ?_
              refine z_aload_n 0 dX13_piece_112 rfl ?_
              refine fg_13_301 (I1 59 9) rfl dX13_piece_113 hL.1 hL.2.1 rfl ?_
              refine z_iload_n 1 dX13_piece_116 rfl ?_
              obtain ⟨o13, h⟩ := h
              refine z_iast dX13_piece_117 (ma_10 hL).2.1 (ma_10 hL).2.2 o13 ?_
              refine z_aload_n 0 dX13_piece_118 rfl ?_
              refine fg_13_31 (some 67) rfl dX13_piece_119 hL.1 hL.2.1 (ma_11 hL).1 ?_
              refine z_aload_n 0 dX13_piece_122 rfl ?_
              refine fg_13_301 (I1 59 9) rfl dX13_piece_123 hL.1 hL.2.1 rfl ?_
              refine z_iload_n 2 dX13_piece_126 rfl ?_
              refine z_iast dX13_piece_127 (ma_11 hL).2.1 (ma_11 hL).2.2 o13 ?_
              refine z_aload_n 0 dX13_piece_128 rfl ?_
              refine fg_13_34 (some 68) rfl dX13_piece_129 hL.1 hL.2.1 (ma_12 hL).1 ?_
              refine z_aload_n 0 dX13_piece_132 rfl ?_
              refine fg_13_301 (I1 59 9) rfl dX13_piece_133 hL.1 hL.2.1 rfl ?_
              refine z_iload_n 3 dX13_piece_136 rfl ?_
              refine z_iast dX13_piece_137 (ma_12 hL).2.1 (ma_12 hL).2.2 o13 ?_
              refine z_aload_n 0 dX13_piece_138 rfl ?_
              refine z_dup dX13_piece_139 rfl ?_
              refine fg_13_301 (I1 59 9) rfl dX13_piece_140 hL.1 hL.2.1 rfl ?_
              refine z_iconst 1 dX13_piece_143 (by decide) ?_
              refine z_iadd dX13_piece_144 ?_
              refine fp_13_301 rfl dX13_piece_145 hL.1 hL.2.1 ?_
              refine z_aload_n 0 dX13_piece_148 rfl ?_
              refine fg_13_301 (((I1 59 9) + 1)) rfl dX13_piece_149 hL.1 hL.2.1 rfl ?_
              refine z_iconst 1 dX13_piece_152 (by decide) ?_
              refine z_isub dX13_piece_153 ?_
              exact z_iret dX13_piece_154 rfl ⟨rfl, h⟩
            · rw [if_pos g12] at h
              refine z_aload_n 0 dX13_piece_101 rfl ?_
              refine z_bipush (-6) dX13_piece_102 (by decide) ?_
              refine z_callV0 (As := [.int (-6)]) (st := []) dX13_piece_104 hy_X13_refuse hL.1 hL.2.1 (by decide) wg_1778 wg_1780 wg_54 (Nat.le_refl _) (Nat.le_of_ble_eq_true rfl) (RM0.mono h (fun vv I14 L15 h => ?_))
              obtain ⟨r16, rfl, h⟩ := h
              change Z n0 xX13_piece (d + 1) 0 0 107 [(0, .ref (n0 + 59)), (1, .int p0), (2, .int p1), (3, .int p2)] [.int r16] K I14 L15 (z_q0 K Q)
              exact z_iret dX13_piece_107 rfl ⟨rfl, h⟩
        · rw [if_pos g7] at h
          refine z_aload_n 0 dX13_piece_79 rfl ?_
          refine z_bipush (-4) dX13_piece_80 (by decide) ?_
          refine z_callV0 (As := [.int (-4)]) (st := []) dX13_piece_82 hy_X13_refuse hL.1 hL.2.1 (by decide) wg_1778 wg_1780 wg_54 (Nat.le_refl _) (Nat.le_of_ble_eq_true rfl) (RM0.mono h (fun vv I17 L18 h => ?_))
          obtain ⟨r19, rfl, h⟩ := h
          change Z n0 xX13_piece (d + 1) 0 0 85 [(0, .ref (n0 + 59)), (1, .int p0), (2, .int p1), (3, .int p2)] [.int r19] K I17 L18 (z_q0 K Q)
          exact z_iret dX13_piece_85 rfl ⟨rfl, h⟩
      · rw [if_pos g6] at h
        refine z_iload_n 3 dX13_piece_62 rfl ?_
        refine z_iconst (-1) dX13_piece_63 (by decide) ?_
        refine z_icmp_eq 74 dX13_piece_64 (by decide) (fun g20 => ?_) (fun g20 => ?_)
        · rw [if_pos g20] at h
          refine z_iload_n 2 dX13_piece_74 rfl ?_
          refine z_iconst 3 dX13_piece_75 (by decide) ?_
          refine z_icmp_ge 86 dX13_piece_76 (by decide) (fun g21 => ?_) (fun g21 => ?_)
          · rw [if_neg g21] at h
            refine z_iload_n 2 dX13_piece_86 rfl ?_
            refine z_bipush 10 dX13_piece_87 (by decide) ?_
            refine z_icmp_gt 101 dX13_piece_89 (by decide) (fun g22 => ?_) (fun g22 => ?_)
            · rw [if_pos g22] at h
              refine z_aload_n 0 dX13_piece_101 rfl ?_
              refine z_bipush (-6) dX13_piece_102 (by decide) ?_
              refine z_callV0 (As := [.int (-6)]) (st := []) dX13_piece_104 hy_X13_refuse hL.1 hL.2.1 (by decide) wg_1778 wg_1780 wg_54 (Nat.le_refl _) (Nat.le_of_ble_eq_true rfl) (RM0.mono h (fun vv I23 L24 h => ?_))
              obtain ⟨r25, rfl, h⟩ := h
              change Z n0 xX13_piece (d + 1) 0 0 107 [(0, .ref (n0 + 59)), (1, .int p0), (2, .int p1), (3, .int p2)] [.int r25] K I23 L24 (z_q0 K Q)
              exact z_iret dX13_piece_107 rfl ⟨rfl, h⟩
            · rw [if_neg g22] at h
              refine z_aload_n 0 dX13_piece_92 rfl ?_
              refine fg_13_301 (I1 59 9) rfl dX13_piece_93 hL.1 hL.2.1 rfl ?_
              refine z_bipush 16 dX13_piece_96 (by decide) ?_
              refine z_icmp_ne 108 dX13_piece_98 (by decide) (fun g26 => ?_) (fun g26 => ?_)
              · rw [if_neg g26] at h
                refine z_aload_n 0 dX13_piece_108 rfl ?_
                refine fg_13_28 (some 66) rfl dX13_piece_109 hL.1 hL.2.1 (ma_10 hL).1 ?_
                refine z_aload_n 0 dX13_piece_112 rfl ?_
                refine fg_13_301 (I1 59 9) rfl dX13_piece_113 hL.1 hL.2.1 rfl ?_
                refine z_iload_n 1 dX13_piece_116 rfl ?_
                obtain ⟨o27, h⟩ := h
                refine z_iast dX13_piece_117 (ma_10 hL).2.1 (ma_10 hL).2.2 o27 ?_
                refine z_aload_n 0 dX13_piece_118 rfl ?_
                refine fg_13_31 (some 67) rfl dX13_piece_119 hL.1 hL.2.1 (ma_11 hL).1 ?_
                refine z_aload_n 0 dX13_piece_122 rfl ?_
                refine fg_13_301 (I1 59 9) rfl dX13_piece_123 hL.1 hL.2.1 rfl ?_
                refine z_iload_n 2 dX13_piece_126 rfl ?_
                refine z_iast dX13_piece_127 (ma_11 hL).2.1 (ma_11 hL).2.2 o27 ?_
                refine z_aload_n 0 dX13_piece_128 rfl ?_
                refine fg_13_34 (some 68) rfl dX13_piece_129 hL.1 hL.2.1 (ma_12 hL).1 ?_
                refine z_aload_n 0 dX13_piece_132 rfl ?_
                refine fg_13_301 (I1 59 9) rfl dX13_piece_133 hL.1 hL.2.1 rfl ?_
                refine z_iload_n 3 dX13_piece_136 rfl ?_
                refine z_iast dX13_piece_137 (ma_12 hL).2.1 (ma_12 hL).2.2 o27 ?_
                refine z_aload_n 0 dX13_piece_138 rfl ?_
                refine z_dup dX13_piece_139 rfl ?_
                refine fg_13_301 (I1 59 9) rfl dX13_piece_140 hL.1 hL.2.1 rfl ?_
                refine z_iconst 1 dX13_piece_143 (by decide) ?_
                refine z_iadd dX13_piece_144 ?_
                refine fp_13_301 rfl dX13_piece_145 hL.1 hL.2.1 ?_
                refine z_aload_n 0 dX13_piece_148 rfl ?_
                refine fg_13_301 (((I1 59 9) + 1)) rfl dX13_piece_149 hL.1 hL.2.1 rfl ?_
                refine z_iconst 1 dX13_piece_152 (by decide) ?_
                refine z_isub dX13_piece_153 ?_
                exact z_iret dX13_piece_154 rfl ⟨rfl, h⟩
              · rw [if_pos g26] at h
                refine z_aload_n 0 dX13_piece_101 rfl ?_
                refine z_bipush (-6) dX13_piece_102 (by decide) ?_
                refine z_callV0 (As := [.int (-6)]) (st := []) dX13_piece_104 hy_X13_refuse hL.1 hL.2.1 (by decide) wg_1778 wg_1780 wg_54 (Nat.le_refl _) (Nat.le_of_ble_eq_true rfl) (RM0.mono h (fun vv I28 L29 h => ?_))
                obtain ⟨r30, rfl, h⟩ := h
                change Z n0 xX13_piece (d + 1) 0 0 107 [(0, .ref (n0 + 59)), (1, .int p0), (2, .int p1), (3, .int p2)] [.int r30] K I28 L29 (z_q0 K Q)
                exact z_iret dX13_piece_107 rfl ⟨rfl, h⟩
          · rw [if_pos g21] at h
            refine z_aload_n 0 dX13_piece_79 rfl ?_
            refine z_bipush (-4) dX13_piece_80 (by decide) ?_
            refine z_callV0 (As := [.int (-4)]) (st := []) dX13_piece_82 hy_X13_refuse hL.1 hL.2.1 (by decide) wg_1778 wg_1780 wg_54 (Nat.le_refl _) (Nat.le_of_ble_eq_true rfl) (RM0.mono h (fun vv I31 L32 h => ?_))
            obtain ⟨r33, rfl, h⟩ := h
            change Z n0 xX13_piece (d + 1) 0 0 85 [(0, .ref (n0 + 59)), (1, .int p0), (2, .int p1), (3, .int p2)] [.int r33] K I31 L32 (z_q0 K Q)
            exact z_iret dX13_piece_85 rfl ⟨rfl, h⟩
        · rw [if_neg g20] at h
          refine z_aload_n 0 dX13_piece_67 rfl ?_
          refine z_bipush (-3) dX13_piece_68 (by decide) ?_
          refine z_callV0 (As := [.int (-3)]) (st := []) dX13_piece_70 hy_X13_refuse hL.1 hL.2.1 (by decide) wg_1778 wg_1780 wg_54 (Nat.le_refl _) (Nat.le_of_ble_eq_true rfl) (RM0.mono h (fun vv I34 L35 h => ?_))
          obtain ⟨r36, rfl, h⟩ := h
          change Z n0 xX13_piece (d + 1) 0 0 73 [(0, .ref (n0 + 59)), (1, .int p0), (2, .int p1), (3, .int p2)] [.int r36] K I34 L35 (z_q0 K Q)
          exact z_iret dX13_piece_73 rfl ⟨rfl, h⟩
    · rw [if_pos g5] at h
      refine z_aload_n 0 dX13_piece_24 rfl ?_
      refine z_iload_n 3 dX13_piece_25 rfl ?_
      refine z_callV0 (As := [.int p2]) (st := []) dX13_piece_26 hy_X13_isPiece hL.1 hL.2.1 (by decide) wg_1838 wg_1840 wg_59 (Nat.le_refl _) (Nat.le_of_ble_eq_true rfl) (RM0.mono h (fun vv I37 L38 h => ?_))
      obtain ⟨r39, rfl, h⟩ := h
      change Z n0 xX13_piece (d + 1) 0 0 29 [(0, .ref (n0 + 59)), (1, .int p0), (2, .int p1), (3, .int p2)] [.int r39] K I37 L38 (z_q0 K Q)
      refine z_if_eq 51 dX13_piece_29 (by decide) (fun g40 => ?_) (fun g40 => ?_)
      · rw [if_pos g40] at h
        refine z_aload_n 0 dX13_piece_51 rfl ?_
        refine z_iconst (-1) dX13_piece_52 (by decide) ?_
        refine z_callV0 (As := [.int (-1)]) (st := []) dX13_piece_53 hy_X13_refuse hL.1 hL.2.1 (by decide) wg_1778 wg_1780 wg_54 (Nat.le_refl _) (Nat.le_of_ble_eq_true rfl) (RM0.mono h (fun vv I41 L42 h => ?_))
        obtain ⟨r43, rfl, h⟩ := h
        change Z n0 xX13_piece (d + 1) 0 0 56 [(0, .ref (n0 + 59)), (1, .int p0), (2, .int p1), (3, .int p2)] [.int r43] K I41 L42 (z_q0 K Q)
        exact z_iret dX13_piece_56 rfl ⟨rfl, h⟩
      · rw [if_neg g40] at h
        refine z_aload_n 0 dX13_piece_32 rfl ?_
        refine fg_13_28 (some 66) rfl dX13_piece_33 hL.1 hL.2.1 (ma_10 hL).1 ?_
        refine z_iload_n 3 dX13_piece_36 rfl ?_
        obtain ⟨o44, h⟩ := h
        refine z_iald (I37 66 p2.toNatClampNeg) dX13_piece_37 (ma_10 hL).2.1 (ma_10 hL).2.2 o44 rfl ?_
        refine z_if_eq 57 dX13_piece_38 (by decide) (fun g45 => ?_) (fun g45 => ?_)
        · rw [if_pos g45] at h
          refine z_iload_n 1 dX13_piece_57 rfl ?_
          refine z_iconst 3 dX13_piece_58 (by decide) ?_
          refine z_icmp_ge 74 dX13_piece_59 (by decide) (fun g46 => ?_) (fun g46 => ?_)
          · rw [if_neg g46] at h
            refine z_iload_n 2 dX13_piece_74 rfl ?_
            refine z_iconst 3 dX13_piece_75 (by decide) ?_
            refine z_icmp_ge 86 dX13_piece_76 (by decide) (fun g47 => ?_) (fun g47 => ?_)
            · rw [if_neg g47] at h
              refine z_iload_n 2 dX13_piece_86 rfl ?_
              refine z_bipush 10 dX13_piece_87 (by decide) ?_
              refine z_icmp_gt 101 dX13_piece_89 (by decide) (fun g48 => ?_) (fun g48 => ?_)
              · rw [if_pos g48] at h
                refine z_aload_n 0 dX13_piece_101 rfl ?_
                refine z_bipush (-6) dX13_piece_102 (by decide) ?_
                refine z_callV0 (As := [.int (-6)]) (st := []) dX13_piece_104 hy_X13_refuse hL.1 hL.2.1 (by decide) wg_1778 wg_1780 wg_54 (Nat.le_refl _) (Nat.le_of_ble_eq_true rfl) (RM0.mono h (fun vv I49 L50 h => ?_))
                obtain ⟨r51, rfl, h⟩ := h
                change Z n0 xX13_piece (d + 1) 0 0 107 [(0, .ref (n0 + 59)), (1, .int p0), (2, .int p1), (3, .int p2)] [.int r51] K I49 L50 (z_q0 K Q)
                exact z_iret dX13_piece_107 rfl ⟨rfl, h⟩
              · rw [if_neg g48] at h
                refine z_aload_n 0 dX13_piece_92 rfl ?_
                refine fg_13_301 (I37 59 9) rfl dX13_piece_93 hL.1 hL.2.1 rfl ?_
                refine z_bipush 16 dX13_piece_96 (by decide) ?_
                refine z_icmp_ne 108 dX13_piece_98 (by decide) (fun g52 => ?_) (fun g52 => ?_)
                · rw [if_neg g52] at h
                  refine z_aload_n 0 dX13_piece_108 rfl ?_
                  refine fg_13_28 (some 66) rfl dX13_piece_109 hL.1 hL.2.1 (ma_10 hL).1 ?_
                  refine z_aload_n 0 dX13_piece_112 rfl ?_
                  refine fg_13_301 (I37 59 9) rfl dX13_piece_113 hL.1 hL.2.1 rfl ?_
                  refine z_iload_n 1 dX13_piece_116 rfl ?_
                  obtain ⟨o53, h⟩ := h
                  refine z_iast dX13_piece_117 (ma_10 hL).2.1 (ma_10 hL).2.2 o53 ?_
                  refine z_aload_n 0 dX13_piece_118 rfl ?_
                  refine fg_13_31 (some 67) rfl dX13_piece_119 hL.1 hL.2.1 (ma_11 hL).1 ?_
                  refine z_aload_n 0 dX13_piece_122 rfl ?_
                  refine fg_13_301 (I37 59 9) rfl dX13_piece_123 hL.1 hL.2.1 rfl ?_
                  refine z_iload_n 2 dX13_piece_126 rfl ?_
                  refine z_iast dX13_piece_127 (ma_11 hL).2.1 (ma_11 hL).2.2 o53 ?_
                  refine z_aload_n 0 dX13_piece_128 rfl ?_
                  refine fg_13_34 (some 68) rfl dX13_piece_129 hL.1 hL.2.1 (ma_12 hL).1 ?_
                  refine z_aload_n 0 dX13_piece_132 rfl ?_
                  refine fg_13_301 (I37 59 9) rfl dX13_piece_133 hL.1 hL.2.1 rfl ?_
                  refine z_iload_n 3 dX13_piece_136 rfl ?_
                  refine z_iast dX13_piece_137 (ma_12 hL).2.1 (ma_12 hL).2.2 o53 ?_
                  refine z_aload_n 0 dX13_piece_138 rfl ?_
                  refine z_dup dX13_piece_139 rfl ?_
                  refine fg_13_301 (I37 59 9) rfl dX13_piece_140 hL.1 hL.2.1 rfl ?_
                  refine z_iconst 1 dX13_piece_143 (by decide) ?_
                  refine z_iadd dX13_piece_144 ?_
                  refine fp_13_301 rfl dX13_piece_145 hL.1 hL.2.1 ?_
                  refine z_aload_n 0 dX13_piece_148 rfl ?_
                  refine fg_13_301 (((I37 59 9) + 1)) rfl dX13_piece_149 hL.1 hL.2.1 rfl ?_
                  refine z_iconst 1 dX13_piece_152 (by decide) ?_
                  refine z_isub dX13_piece_153 ?_
                  exact z_iret dX13_piece_154 rfl ⟨rfl, h⟩
                · rw [if_pos g52] at h
                  refine z_aload_n 0 dX13_piece_101 rfl ?_
                  refine z_bipush (-6) dX13_piece_102 (by decide) ?_
                  refine z_callV0 (As := [.int (-6)]) (st := []) dX13_piece_104 hy_X13_refuse hL.1 hL.2.1 (by decide) wg_1778 wg_1780 wg_54 (Nat.le_refl _) (Nat.le_of_ble_eq_true rfl) (RM0.mono h (fun vv I54 L55 h => ?_))
                  obtain ⟨r56, rfl, h⟩ := h
                  change Z n0 xX13_piece (d + 1) 0 0 107 [(0, .ref (n0 + 59)), (1, .int p0), (2, .int p1), (3, .int p2)] [.int r56] K I54 L55 (z_q0 K Q)
                  exact z_iret dX13_piece_107 rfl ⟨rfl, h⟩
            · rw [if_pos g47] at h
              refine z_aload_n 0 dX13_piece_79 rfl ?_
              refine z_bipush (-4) dX13_piece_80 (by decide) ?_
              refine z_callV0 (As := [.int (-4)]) (st := []) dX13_piece_82 hy_X13_refuse hL.1 hL.2.1 (by decide) wg_1778 wg_1780 wg_54 (Nat.le_refl _) (Nat.le_of_ble_eq_true rfl) (RM0.mono h (fun vv I57 L58 h => ?_))
              obtain ⟨r59, rfl, h⟩ := h
              change Z n0 xX13_piece (d + 1) 0 0 85 [(0, .ref (n0 + 59)), (1, .int p0), (2, .int p1), (3, .int p2)] [.int r59] K I57 L58 (z_q0 K Q)
              exact z_iret dX13_piece_85 rfl ⟨rfl, h⟩
          · rw [if_pos g46] at h
            refine z_iload_n 3 dX13_piece_62 rfl ?_
            refine z_iconst (-1) dX13_piece_63 (by decide) ?_
            refine z_icmp_eq 74 dX13_piece_64 (by decide) (fun g60 => ?_) (fun g60 => ?_)
            · rw [if_pos g60] at h
              refine z_iload_n 2 dX13_piece_74 rfl ?_
              refine z_iconst 3 dX13_piece_75 (by decide) ?_
              refine z_icmp_ge 86 dX13_piece_76 (by decide) (fun g61 => ?_) (fun g61 => ?_)
              · rw [if_neg g61] at h
                refine z_iload_n 2 dX13_piece_86 rfl ?_
                refine z_bipush 10 dX13_piece_87 (by decide) ?_
                refine z_icmp_gt 101 dX13_piece_89 (by decide) (fun g62 => ?_) (fun g62 => ?_)
                · rw [if_pos g62] at h
                  refine z_aload_n 0 dX13_piece_101 rfl ?_
                  refine z_bipush (-6) dX13_piece_102 (by decide) ?_
                  refine z_callV0 (As := [.int (-6)]) (st := []) dX13_piece_104 hy_X13_refuse hL.1 hL.2.1 (by decide) wg_1778 wg_1780 wg_54 (Nat.le_refl _) (Nat.le_of_ble_eq_true rfl) (RM0.mono h (fun vv I63 L64 h => ?_))
                  obtain ⟨r65, rfl, h⟩ := h
                  change Z n0 xX13_piece (d + 1) 0 0 107 [(0, .ref (n0 + 59)), (1, .int p0), (2, .int p1), (3, .int p2)] [.int r65] K I63 L64 (z_q0 K Q)
                  exact z_iret dX13_piece_107 rfl ⟨rfl, h⟩
                · rw [if_neg g62] at h
                  refine z_aload_n 0 dX13_piece_92 rfl ?_
                  refine fg_13_301 (I37 59 9) rfl dX13_piece_93 hL.1 hL.2.1 rfl ?_
                  refine z_bipush 16 dX13_piece_96 (by decide) ?_
                  refine z_icmp_ne 108 dX13_piece_98 (by decide) (fun g66 => ?_) (fun g66 => ?_)
                  · rw [if_neg g66] at h
                    refine z_aload_n 0 dX13_piece_108 rfl ?_
                    refine fg_13_28 (some 66) rfl dX13_piece_109 hL.1 hL.2.1 (ma_10 hL).1 ?_
                    refine z_aload_n 0 dX13_piece_112 rfl ?_
                    refine fg_13_301 (I37 59 9) rfl dX13_piece_113 hL.1 hL.2.1 rfl ?_
                    refine z_iload_n 1 dX13_piece_116 rfl ?_
                    obtain ⟨o67, h⟩ := h
                    refine z_iast dX13_piece_117 (ma_10 hL).2.1 (ma_10 hL).2.2 o67 ?_
                    refine z_aload_n 0 dX13_piece_118 rfl ?_
                    refine fg_13_31 (some 67) rfl dX13_piece_119 hL.1 hL.2.1 (ma_11 hL).1 ?_
                    refine z_aload_n 0 dX13_piece_122 rfl ?_
                    refine fg_13_301 (I37 59 9) rfl dX13_piece_123 hL.1 hL.2.1 rfl ?_
                    refine z_iload_n 2 dX13_piece_126 rfl ?_
                    refine z_iast dX13_piece_127 (ma_11 hL).2.1 (ma_11 hL).2.2 o67 ?_
                    refine z_aload_n 0 dX13_piece_128 rfl ?_
                    refine fg_13_34 (some 68) rfl dX13_piece_129 hL.1 hL.2.1 (ma_12 hL).1 ?_
                    refine z_aload_n 0 dX13_piece_132 rfl ?_
                    refine fg_13_301 (I37 59 9) rfl dX13_piece_133 hL.1 hL.2.1 rfl ?_
                    refine z_iload_n 3 dX13_piece_136 rfl ?_
                    refine z_iast dX13_piece_137 (ma_12 hL).2.1 (ma_12 hL).2.2 o67 ?_
                    refine z_aload_n 0 dX13_piece_138 rfl ?_
                    refine z_dup dX13_piece_139 rfl ?_
                    refine fg_13_301 (I37 59 9) rfl dX13_piece_140 hL.1 hL.2.1 rfl ?_
                    refine z_iconst 1 dX13_piece_143 (by decide) ?_
                    refine z_iadd dX13_piece_144 ?_
                    refine fp_13_301 rfl dX13_piece_145 hL.1 hL.2.1 ?_
                    refine z_aload_n 0 dX13_piece_148 rfl ?_
                    refine fg_13_301 (((I37 59 9) + 1)) rfl dX13_piece_149 hL.1 hL.2.1 rfl ?_
                    refine z_iconst 1 dX13_piece_152 (by decide) ?_
                    refine z_isub dX13_piece_153 ?_
                    exact z_iret dX13_piece_154 rfl ⟨rfl, h⟩
                  · rw [if_pos g66] at h
                    refine z_aload_n 0 dX13_piece_101 rfl ?_
                    refine z_bipush (-6) dX13_piece_102 (by decide) ?_
                    refine z_callV0 (As := [.int (-6)]) (st := []) dX13_piece_104 hy_X13_refuse hL.1 hL.2.1 (by decide) wg_1778 wg_1780 wg_54 (Nat.le_refl _) (Nat.le_of_ble_eq_true rfl) (RM0.mono h (fun vv I68 L69 h => ?_))
                    obtain ⟨r70, rfl, h⟩ := h
                    change Z n0 xX13_piece (d + 1) 0 0 107 [(0, .ref (n0 + 59)), (1, .int p0), (2, .int p1), (3, .int p2)] [.int r70] K I68 L69 (z_q0 K Q)
                    exact z_iret dX13_piece_107 rfl ⟨rfl, h⟩
              · rw [if_pos g61] at h
                refine z_aload_n 0 dX13_piece_79 rfl ?_
                refine z_bipush (-4) dX13_piece_80 (by decide) ?_
                refine z_callV0 (As := [.int (-4)]) (st := []) dX13_piece_82 hy_X13_refuse hL.1 hL.2.1 (by decide) wg_1778 wg_1780 wg_54 (Nat.le_refl _) (Nat.le_of_ble_eq_true rfl) (RM0.mono h (fun vv I71 L72 h => ?_))
                obtain ⟨r73, rfl, h⟩ := h
                change Z n0 xX13_piece (d + 1) 0 0 85 [(0, .ref (n0 + 59)), (1, .int p0), (2, .int p1), (3, .int p2)] [.int r73] K I71 L72 (z_q0 K Q)
                exact z_iret dX13_piece_85 rfl ⟨rfl, h⟩
            · rw [if_neg g60] at h
              refine z_aload_n 0 dX13_piece_67 rfl ?_
              refine z_bipush (-3) dX13_piece_68 (by decide) ?_
              refine z_callV0 (As := [.int (-3)]) (st := []) dX13_piece_70 hy_X13_refuse hL.1 hL.2.1 (by decide) wg_1778 wg_1780 wg_54 (Nat.le_refl _) (Nat.le_of_ble_eq_true rfl) (RM0.mono h (fun vv I74 L75 h => ?_))
              obtain ⟨r76, rfl, h⟩ := h
              change Z n0 xX13_piece (d + 1) 0 0 73 [(0, .ref (n0 + 59)), (1, .int p0), (2, .int p1), (3, .int p2)] [.int r76] K I74 L75 (z_q0 K Q)
              exact z_iret dX13_piece_73 rfl ⟨rfl, h⟩
        · rw [if_neg g45] at h
          refine z_aload_n 0 dX13_piece_41 rfl ?_
          refine fg_13_28 (some 66) rfl dX13_piece_42 hL.1 hL.2.1 (ma_10 hL).1 ?_
          refine z_iload_n 3 dX13_piece_45 rfl ?_
          refine z_iald (I37 66 p2.toNatClampNeg) dX13_piece_46 (ma_10 hL).2.1 (ma_10 hL).2.2 o44 rfl ?_
          refine z_iconst 3 dX13_piece_47 (by decide) ?_
          refine z_icmp_eq 57 dX13_piece_48 (by decide) (fun g77 => ?_) (fun g77 => ?_)
          · rw [if_pos g77] at h
            refine z_iload_n 1 dX13_piece_57 rfl ?_
            refine z_iconst 3 dX13_piece_58 (by decide) ?_
            refine z_icmp_ge 74 dX13_piece_59 (by decide) (fun g78 => ?_) (fun g78 => ?_)
            · rw [if_neg g78] at h
              refine z_iload_n 2 dX13_piece_74 rfl ?_
              refine z_iconst 3 dX13_piece_75 (by decide) ?_
              refine z_icmp_ge 86 dX13_piece_76 (by decide) (fun g79 => ?_) (fun g79 => ?_)
              · rw [if_neg g79] at h
                refine z_iload_n 2 dX13_piece_86 rfl ?_
                refine z_bipush 10 dX13_piece_87 (by decide) ?_
                refine z_icmp_gt 101 dX13_piece_89 (by decide) (fun g80 => ?_) (fun g80 => ?_)
                · rw [if_pos g80] at h
                  refine z_aload_n 0 dX13_piece_101 rfl ?_
                  refine z_bipush (-6) dX13_piece_102 (by decide) ?_
                  refine z_callV0 (As := [.int (-6)]) (st := []) dX13_piece_104 hy_X13_refuse hL.1 hL.2.1 (by decide) wg_1778 wg_1780 wg_54 (Nat.le_refl _) (Nat.le_of_ble_eq_true rfl) (RM0.mono h (fun vv I81 L82 h => ?_))
                  obtain ⟨r83, rfl, h⟩ := h
                  change Z n0 xX13_piece (d + 1) 0 0 107 [(0, .ref (n0 + 59)), (1, .int p0), (2, .int p1), (3, .int p2)] [.int r83] K I81 L82 (z_q0 K Q)
                  exact z_iret dX13_piece_107 rfl ⟨rfl, h⟩
                · rw [if_neg g80] at h
                  refine z_aload_n 0 dX13_piece_92 rfl ?_
                  refine fg_13_301 (I37 59 9) rfl dX13_piece_93 hL.1 hL.2.1 rfl ?_
                  refine z_bipush 16 dX13_piece_96 (by decide) ?_
                  refine z_icmp_ne 108 dX13_piece_98 (by decide) (fun g84 => ?_) (fun g84 => ?_)
                  · rw [if_neg g84] at h
                    refine z_aload_n 0 dX13_piece_108 rfl ?_
                    refine fg_13_28 (some 66) rfl dX13_piece_109 hL.1 hL.2.1 (ma_10 hL).1 ?_
                    refine z_aload_n 0 dX13_piece_112 rfl ?_
                    refine fg_13_301 (I37 59 9) rfl dX13_piece_113 hL.1 hL.2.1 rfl ?_
                    refine z_iload_n 1 dX13_piece_116 rfl ?_
                    obtain ⟨o85, h⟩ := h
                    refine z_iast dX13_piece_117 (ma_10 hL).2.1 (ma_10 hL).2.2 o85 ?_
                    refine z_aload_n 0 dX13_piece_118 rfl ?_
                    refine fg_13_31 (some 67) rfl dX13_piece_119 hL.1 hL.2.1 (ma_11 hL).1 ?_
                    refine z_aload_n 0 dX13_piece_122 rfl ?_
                    refine fg_13_301 (I37 59 9) rfl dX13_piece_123 hL.1 hL.2.1 rfl ?_
                    refine z_iload_n 2 dX13_piece_126 rfl ?_
                    refine z_iast dX13_piece_127 (ma_11 hL).2.1 (ma_11 hL).2.2 o85 ?_
                    refine z_aload_n 0 dX13_piece_128 rfl ?_
                    refine fg_13_34 (some 68) rfl dX13_piece_129 hL.1 hL.2.1 (ma_12 hL).1 ?_
                    refine z_aload_n 0 dX13_piece_132 rfl ?_
                    refine fg_13_301 (I37 59 9) rfl dX13_piece_133 hL.1 hL.2.1 rfl ?_
                    refine z_iload_n 3 dX13_piece_136 rfl ?_
                    refine z_iast dX13_piece_137 (ma_12 hL).2.1 (ma_12 hL).2.2 o85 ?_
                    refine z_aload_n 0 dX13_piece_138 rfl ?_
                    refine z_dup dX13_piece_139 rfl ?_
                    refine fg_13_301 (I37 59 9) rfl dX13_piece_140 hL.1 hL.2.1 rfl ?_
                    refine z_iconst 1 dX13_piece_143 (by decide) ?_
                    refine z_iadd dX13_piece_144 ?_
                    refine fp_13_301 rfl dX13_piece_145 hL.1 hL.2.1 ?_
                    refine z_aload_n 0 dX13_piece_148 rfl ?_
                    refine fg_13_301 (((I37 59 9) + 1)) rfl dX13_piece_149 hL.1 hL.2.1 rfl ?_
                    refine z_iconst 1 dX13_piece_152 (by decide) ?_
                    refine z_isub dX13_piece_153 ?_
                    exact z_iret dX13_piece_154 rfl ⟨rfl, h⟩
                  · rw [if_pos g84] at h
                    refine z_aload_n 0 dX13_piece_101 rfl ?_
                    refine z_bipush (-6) dX13_piece_102 (by decide) ?_
                    refine z_callV0 (As := [.int (-6)]) (st := []) dX13_piece_104 hy_X13_refuse hL.1 hL.2.1 (by decide) wg_1778 wg_1780 wg_54 (Nat.le_refl _) (Nat.le_of_ble_eq_true rfl) (RM0.mono h (fun vv I86 L87 h => ?_))
                    obtain ⟨r88, rfl, h⟩ := h
                    change Z n0 xX13_piece (d + 1) 0 0 107 [(0, .ref (n0 + 59)), (1, .int p0), (2, .int p1), (3, .int p2)] [.int r88] K I86 L87 (z_q0 K Q)
                    exact z_iret dX13_piece_107 rfl ⟨rfl, h⟩
              · rw [if_pos g79] at h
                refine z_aload_n 0 dX13_piece_79 rfl ?_
                refine z_bipush (-4) dX13_piece_80 (by decide) ?_
                refine z_callV0 (As := [.int (-4)]) (st := []) dX13_piece_82 hy_X13_refuse hL.1 hL.2.1 (by decide) wg_1778 wg_1780 wg_54 (Nat.le_refl _) (Nat.le_of_ble_eq_true rfl) (RM0.mono h (fun vv I89 L90 h => ?_))
                obtain ⟨r91, rfl, h⟩ := h
                change Z n0 xX13_piece (d + 1) 0 0 85 [(0, .ref (n0 + 59)), (1, .int p0), (2, .int p1), (3, .int p2)] [.int r91] K I89 L90 (z_q0 K Q)
                exact z_iret dX13_piece_85 rfl ⟨rfl, h⟩
            · rw [if_pos g78] at h
              refine z_iload_n 3 dX13_piece_62 rfl ?_
              refine z_iconst (-1) dX13_piece_63 (by decide) ?_
              refine z_icmp_eq 74 dX13_piece_64 (by decide) (fun g92 => ?_) (fun g92 => ?_)
              · rw [if_pos g92] at h
                refine z_iload_n 2 dX13_piece_74 rfl ?_
                refine z_iconst 3 dX13_piece_75 (by decide) ?_
                refine z_icmp_ge 86 dX13_piece_76 (by decide) (fun g93 => ?_) (fun g93 => ?_)
                · rw [if_neg g93] at h
                  refine z_iload_n 2 dX13_piece_86 rfl ?_
                  refine z_bipush 10 dX13_piece_87 (by decide) ?_
                  refine z_icmp_gt 101 dX13_piece_89 (by decide) (fun g94 => ?_) (fun g94 => ?_)
                  · rw [if_pos g94] at h
                    refine z_aload_n 0 dX13_piece_101 rfl ?_
                    refine z_bipush (-6) dX13_piece_102 (by decide) ?_
                    refine z_callV0 (As := [.int (-6)]) (st := []) dX13_piece_104 hy_X13_refuse hL.1 hL.2.1 (by decide) wg_1778 wg_1780 wg_54 (Nat.le_refl _) (Nat.le_of_ble_eq_true rfl) (RM0.mono h (fun vv I95 L96 h => ?_))
                    obtain ⟨r97, rfl, h⟩ := h
                    change Z n0 xX13_piece (d + 1) 0 0 107 [(0, .ref (n0 + 59)), (1, .int p0), (2, .int p1), (3, .int p2)] [.int r97] K I95 L96 (z_q0 K Q)
                    exact z_iret dX13_piece_107 rfl ⟨rfl, h⟩
                  · rw [if_neg g94] at h
                    refine z_aload_n 0 dX13_piece_92 rfl ?_
                    refine fg_13_301 (I37 59 9) rfl dX13_piece_93 hL.1 hL.2.1 rfl ?_
                    refine z_bipush 16 dX13_piece_96 (by decide) ?_
                    refine z_icmp_ne 108 dX13_piece_98 (by decide) (fun g98 => ?_) (fun g98 => ?_)
                    · rw [if_neg g98] at h
                      refine z_aload_n 0 dX13_piece_108 rfl ?_
                      refine fg_13_28 (some 66) rfl dX13_piece_109 hL.1 hL.2.1 (ma_10 hL).1 ?_
                      refine z_aload_n 0 dX13_piece_112 rfl ?_
                      refine fg_13_301 (I37 59 9) rfl dX13_piece_113 hL.1 hL.2.1 rfl ?_
                      refine z_iload_n 1 dX13_piece_116 rfl ?_
                      obtain ⟨o99, h⟩ := h
                      refine z_iast dX13_piece_117 (ma_10 hL).2.1 (ma_10 hL).2.2 o99 ?_
                      refine z_aload_n 0 dX13_piece_118 rfl ?_
                      refine fg_13_31 (some 67) rfl dX13_piece_119 hL.1 hL.2.1 (ma_11 hL).1 ?_
                      refine z_aload_n 0 dX13_piece_122 rfl ?_
                      refine fg_13_301 (I37 59 9) rfl dX13_piece_123 hL.1 hL.2.1 rfl ?_
                      refine z_iload_n 2 dX13_piece_126 rfl ?_
                      refine z_iast dX13_piece_127 (ma_11 hL).2.1 (ma_11 hL).2.2 o99 ?_
                      refine z_aload_n 0 dX13_piece_128 rfl ?_
                      refine fg_13_34 (some 68) rfl dX13_piece_129 hL.1 hL.2.1 (ma_12 hL).1 ?_
                      refine z_aload_n 0 dX13_piece_132 rfl ?_
                      refine fg_13_301 (I37 59 9) rfl dX13_piece_133 hL.1 hL.2.1 rfl ?_
                      refine z_iload_n 3 dX13_piece_136 rfl ?_
                      refine z_iast dX13_piece_137 (ma_12 hL).2.1 (ma_12 hL).2.2 o99 ?_
                      refine z_aload_n 0 dX13_piece_138 rfl ?_
                      refine z_dup dX13_piece_139 rfl ?_
                      refine fg_13_301 (I37 59 9) rfl dX13_piece_140 hL.1 hL.2.1 rfl ?_
                      refine z_iconst 1 dX13_piece_143 (by decide) ?_
                      refine z_iadd dX13_piece_144 ?_
                      refine fp_13_301 rfl dX13_piece_145 hL.1 hL.2.1 ?_
                      refine z_aload_n 0 dX13_piece_148 rfl ?_
                      refine fg_13_301 (((I37 59 9) + 1)) rfl dX13_piece_149 hL.1 hL.2.1 rfl ?_
                      refine z_iconst 1 dX13_piece_152 (by decide) ?_
                      refine z_isub dX13_piece_153 ?_
                      exact z_iret dX13_piece_154 rfl ⟨rfl, h⟩
                    · rw [if_pos g98] at h
                      refine z_aload_n 0 dX13_piece_101 rfl ?_
                      refine z_bipush (-6) dX13_piece_102 (by decide) ?_
                      refine z_callV0 (As := [.int (-6)]) (st := []) dX13_piece_104 hy_X13_refuse hL.1 hL.2.1 (by decide) wg_1778 wg_1780 wg_54 (Nat.le_refl _) (Nat.le_of_ble_eq_true rfl) (RM0.mono h (fun vv I100 L101 h => ?_))
                      obtain ⟨r102, rfl, h⟩ := h
                      change Z n0 xX13_piece (d + 1) 0 0 107 [(0, .ref (n0 + 59)), (1, .int p0), (2, .int p1), (3, .int p2)] [.int r102] K I100 L101 (z_q0 K Q)
                      exact z_iret dX13_piece_107 rfl ⟨rfl, h⟩
                · rw [if_pos g93] at h
                  refine z_aload_n 0 dX13_piece_79 rfl ?_
                  refine z_bipush (-4) dX13_piece_80 (by decide) ?_
                  refine z_callV0 (As := [.int (-4)]) (st := []) dX13_piece_82 hy_X13_refuse hL.1 hL.2.1 (by decide) wg_1778 wg_1780 wg_54 (Nat.le_refl _) (Nat.le_of_ble_eq_true rfl) (RM0.mono h (fun vv I103 L104 h => ?_))
                  obtain ⟨r105, rfl, h⟩ := h
                  change Z n0 xX13_piece (d + 1) 0 0 85 [(0, .ref (n0 + 59)), (1, .int p0), (2, .int p1), (3, .int p2)] [.int r105] K I103 L104 (z_q0 K Q)
                  exact z_iret dX13_piece_85 rfl ⟨rfl, h⟩
              · rw [if_neg g92] at h
                refine z_aload_n 0 dX13_piece_67 rfl ?_
                refine z_bipush (-3) dX13_piece_68 (by decide) ?_
                refine z_callV0 (As := [.int (-3)]) (st := []) dX13_piece_70 hy_X13_refuse hL.1 hL.2.1 (by decide) wg_1778 wg_1780 wg_54 (Nat.le_refl _) (Nat.le_of_ble_eq_true rfl) (RM0.mono h (fun vv I106 L107 h => ?_))
                obtain ⟨r108, rfl, h⟩ := h
                change Z n0 xX13_piece (d + 1) 0 0 73 [(0, .ref (n0 + 59)), (1, .int p0), (2, .int p1), (3, .int p2)] [.int r108] K I106 L107 (z_q0 K Q)
                exact z_iret dX13_piece_73 rfl ⟨rfl, h⟩
          · rw [if_neg g77] at h
            refine z_aload_n 0 dX13_piece_51 rfl ?_
            refine z_iconst (-1) dX13_piece_52 (by decide) ?_
            refine z_callV0 (As := [.int (-1)]) (st := []) dX13_piece_53 hy_X13_refuse hL.1 hL.2.1 (by decide) wg_1778 wg_1780 wg_54 (Nat.le_refl _) (Nat.le_of_ble_eq_true rfl) (RM0.mono h (fun vv I109 L110 h => ?_))
            obtain ⟨r111, rfl, h⟩ := h
            change Z n0 xX13_piece (d + 1) 0 0 56 [(0, .ref (n0 + 59)), (1, .int p0), (2, .int p1), (3, .int p2)] [.int r111] K I109 L110 (z_q0 K Q)
            exact z_iret dX13_piece_56 rfl ⟨rfl, h⟩
  · rw [if_pos g4] at h
    refine z_aload_n 0 dX13_piece_12 rfl ?_
    refine z_bipush (-2) dX13_piece_13 (by decide) ?_
    refine z_callV0 (As := [.int (-2)]) (st := []) dX13_piece_15 hy_X13_refuse hL.1 hL.2.1 (by decide) wg_1778 wg_1780 wg_54 (Nat.le_refl _) (Nat.le_of_ble_eq_true rfl) (RM0.mono h (fun vv I112 L113 h => ?_))
    obtain ⟨r114, rfl, h⟩ := h
    change Z n0 xX13_piece (d + 1) 0 0 18 [(0, .ref (n0 + 59)), (1, .int p0), (2, .int p1), (3, .int p2)] [.int r114] K I112 L113 (z_q0 K Q)
    exact z_iret dX13_piece_18 rfl ⟨rfl, h⟩
theorem dX13_withdraw_0 : decode cX13_withdraw 0 = .ok (.aload_n 0, 1) := by decide +kernel
theorem dX13_withdraw_1 : decode cX13_withdraw 1 = .ok (.iload_n 1, 1) := by decide +kernel
theorem dX13_withdraw_2 : decode cX13_withdraw 2 = .ok (.invokevirtual 304, 3) := by decide +kernel
theorem dX13_withdraw_5 : decode cX13_withdraw 5 = .ok (.ifCond .ne 9, 3) := by decide +kernel
theorem dX13_withdraw_8 : decode cX13_withdraw 8 = .ok (.aload_n 0, 1) := by decide +kernel
theorem dX13_withdraw_9 : decode cX13_withdraw 9 = .ok (.iconst (-1), 1) := by decide +kernel
theorem dX13_withdraw_10 : decode cX13_withdraw 10 = .ok (.invokevirtual 308, 3) := by decide +kernel
theorem dX13_withdraw_13 : decode cX13_withdraw 13 = .ok (.ireturn, 1) := by decide +kernel
theorem dX13_withdraw_14 : decode cX13_withdraw 14 = .ok (.aload_n 0, 1) := by decide +kernel
theorem dX13_withdraw_15 : decode cX13_withdraw 15 = .ok (.getfield 37, 3) := by decide +kernel
theorem dX13_withdraw_18 : decode cX13_withdraw 18 = .ok (.iload_n 1, 1) := by decide +kernel
theorem dX13_withdraw_19 : decode cX13_withdraw 19 = .ok (.baload, 1) := by decide +kernel
theorem dX13_withdraw_20 : decode cX13_withdraw 20 = .ok (.ifCond .eq 10, 3) := by decide +kernel
theorem dX13_withdraw_23 : decode cX13_withdraw 23 = .ok (.aload_n 0, 1) := by decide +kernel
theorem dX13_withdraw_24 : decode cX13_withdraw 24 = .ok (.bipush (-3), 2) := by decide +kernel
theorem dX13_withdraw_26 : decode cX13_withdraw 26 = .ok (.invokevirtual 308, 3) := by decide +kernel
theorem dX13_withdraw_29 : decode cX13_withdraw 29 = .ok (.ireturn, 1) := by decide +kernel
theorem dX13_withdraw_30 : decode cX13_withdraw 30 = .ok (.aload_n 0, 1) := by decide +kernel
theorem dX13_withdraw_31 : decode cX13_withdraw 31 = .ok (.getfield 37, 3) := by decide +kernel
theorem dX13_withdraw_34 : decode cX13_withdraw 34 = .ok (.iload_n 1, 1) := by decide +kernel
theorem dX13_withdraw_35 : decode cX13_withdraw 35 = .ok (.iconst 1, 1) := by decide +kernel
theorem dX13_withdraw_36 : decode cX13_withdraw 36 = .ok (.bastore, 1) := by decide +kernel
theorem dX13_withdraw_37 : decode cX13_withdraw 37 = .ok (.iconst 1, 1) := by decide +kernel
theorem dX13_withdraw_38 : decode cX13_withdraw 38 = .ok (.ireturn, 1) := by decide +kernel
set_option maxRecDepth 100000 in
set_option maxHeartbeats 4000000 in
theorem wp_X13_withdraw {n0 d : Nat} {K : z_K} {I : z_I} {L : z_L} {Q : z_q} {p0 : Int32} (hL : MLay K) (h : RM0 n0 xX13_isPiece d [.ref (n0 + 59), .int p0] K I L (fun vv I1 L2 => ∃ r3 : Int32, vv = some (.int r3) ∧ (if r3 = 0 then RM0 n0 xX13_refuse d [.ref (n0 + 59), .int (-1)] K I1 L2 (fun vv I10 L11 => ∃ r12 : Int32, vv = some (.int r12) ∧ Q (some (.int r12)) I10 L11) else vp_in p0 16 ∧ (if ((I1 69 p0.toNatClampNeg) : Int32) = 0 then Q (some (.int 1)) (zI I1 69 p0.toNatClampNeg 1) L2 else RM0 n0 xX13_refuse d [.ref (n0 + 59), .int (-3)] K I1 L2 (fun vv I7 L8 => ∃ r9 : Int32, vv = some (.int r9) ∧ Q (some (.int r9)) I7 L8))))) : RM0 n0 xX13_withdraw (d + 1) [.ref (n0 + 59), .int p0] K I L Q := by
  refine z_entry0 (by decide) (Nat.le_of_ble_eq_true rfl) ?_
  change Z n0 xX13_withdraw (d + 1) 0 0 0 [(0, .ref (n0 + 59)), (1, .int p0)] [] K I L (z_q0 K Q)
  refine z_aload_n 0 dX13_withdraw_0 rfl ?_
  refine z_iload_n 1 dX13_withdraw_1 rfl ?_
  refine z_callV0 (As := [.int p0]) (st := []) dX13_withdraw_2 hy_X13_isPiece hL.1 hL.2.1 (by decide) wg_1838 wg_1840 wg_59 (Nat.le_refl _) (Nat.le_of_ble_eq_true rfl) (RM0.mono h (fun vv I1 L2 h => ?_))
  obtain ⟨r3, rfl, h⟩ := h
  change Z n0 xX13_withdraw (d + 1) 0 0 5 [(0, .ref (n0 + 59)), (1, .int p0)] [.int r3] K I1 L2 (z_q0 K Q)
  refine z_if_ne 14 dX13_withdraw_5 (by decide) (fun g4 => ?_) (fun g4 => ?_)
  · rw [if_neg g4] at h
    refine z_aload_n 0 dX13_withdraw_14 rfl ?_
    refine fg_13_37 (some 69) rfl dX13_withdraw_15 hL.1 hL.2.1 (ma_13 hL).1 ?_
    refine z_iload_n 1 dX13_withdraw_18 rfl ?_
    obtain ⟨o5, h⟩ := h
    refine z_zald (I1 69 p0.toNatClampNeg) dX13_withdraw_19 (ma_13 hL).2.1 (ma_13 hL).2.2 o5 rfl ?_
    refine z_if_eq 30 dX13_withdraw_20 (by decide) (fun g6 => ?_) (fun g6 => ?_)
    · rw [if_pos g6] at h
      refine z_aload_n 0 dX13_withdraw_30 rfl ?_
      refine fg_13_37 (some 69) rfl dX13_withdraw_31 hL.1 hL.2.1 (ma_13 hL).1 ?_
      refine z_iload_n 1 dX13_withdraw_34 rfl ?_
      refine z_iconst 1 dX13_withdraw_35 (by decide) ?_
      refine z_zastb dX13_withdraw_36 (ma_13 hL).2.1 (ma_13 hL).2.2 o5 (Or.inr rfl) ?_
      refine z_iconst 1 dX13_withdraw_37 (by decide) ?_
      exact z_iret dX13_withdraw_38 rfl ⟨rfl, h⟩
    · rw [if_neg g6] at h
      refine z_aload_n 0 dX13_withdraw_23 rfl ?_
      refine z_bipush (-3) dX13_withdraw_24 (by decide) ?_
      refine z_callV0 (As := [.int (-3)]) (st := []) dX13_withdraw_26 hy_X13_refuse hL.1 hL.2.1 (by decide) wg_1778 wg_1780 wg_54 (Nat.le_refl _) (Nat.le_of_ble_eq_true rfl) (RM0.mono h (fun vv I7 L8 h => ?_))
      obtain ⟨r9, rfl, h⟩ := h
      change Z n0 xX13_withdraw (d + 1) 0 0 29 [(0, .ref (n0 + 59)), (1, .int p0)] [.int r9] K I7 L8 (z_q0 K Q)
      exact z_iret dX13_withdraw_29 rfl ⟨rfl, h⟩
  · rw [if_pos g4] at h
    refine z_aload_n 0 dX13_withdraw_8 rfl ?_
    refine z_iconst (-1) dX13_withdraw_9 (by decide) ?_
    refine z_callV0 (As := [.int (-1)]) (st := []) dX13_withdraw_10 hy_X13_refuse hL.1 hL.2.1 (by decide) wg_1778 wg_1780 wg_54 (Nat.le_refl _) (Nat.le_of_ble_eq_true rfl) (RM0.mono h (fun vv I10 L11 h => ?_))
    obtain ⟨r12, rfl, h⟩ := h
    change Z n0 xX13_withdraw (d + 1) 0 0 13 [(0, .ref (n0 + 59)), (1, .int p0)] [.int r12] K I10 L11 (z_q0 K Q)
    exact z_iret dX13_withdraw_13 rfl ⟨rfl, h⟩
theorem dX13_feed_0 : decode cX13_feed 0 = .ok (.iload_n 1, 1) := by decide +kernel
theorem dX13_feed_1 : decode cX13_feed 1 = .ok (.iconst 1, 1) := by decide +kernel
theorem dX13_feed_2 : decode cX13_feed 2 = .ok (.if_icmp .ge 10, 3) := by decide +kernel
theorem dX13_feed_5 : decode cX13_feed 5 = .ok (.aload_n 0, 1) := by decide +kernel
theorem dX13_feed_6 : decode cX13_feed 6 = .ok (.bipush (-4), 2) := by decide +kernel
theorem dX13_feed_8 : decode cX13_feed 8 = .ok (.invokevirtual 308, 3) := by decide +kernel
theorem dX13_feed_11 : decode cX13_feed 11 = .ok (.ireturn, 1) := by decide +kernel
theorem dX13_feed_12 : decode cX13_feed 12 = .ok (.iload_n 1, 1) := by decide +kernel
theorem dX13_feed_13 : decode cX13_feed 13 = .ok (.bipush 8, 2) := by decide +kernel
theorem dX13_feed_15 : decode cX13_feed 15 = .ok (.if_icmp .gt 14, 3) := by decide +kernel
theorem dX13_feed_18 : decode cX13_feed 18 = .ok (.aload_n 0, 1) := by decide +kernel
theorem dX13_feed_19 : decode cX13_feed 19 = .ok (.getfield 343, 3) := by decide +kernel
theorem dX13_feed_22 : decode cX13_feed 22 = .ok (.iload_n 1, 1) := by decide +kernel
theorem dX13_feed_23 : decode cX13_feed 23 = .ok (.iadd, 1) := by decide +kernel
theorem dX13_feed_24 : decode cX13_feed 24 = .ok (.bipush 60, 2) := by decide +kernel
theorem dX13_feed_26 : decode cX13_feed 26 = .ok (.if_icmp .le 10, 3) := by decide +kernel
theorem dX13_feed_29 : decode cX13_feed 29 = .ok (.aload_n 0, 1) := by decide +kernel
theorem dX13_feed_30 : decode cX13_feed 30 = .ok (.bipush (-6), 2) := by decide +kernel
theorem dX13_feed_32 : decode cX13_feed 32 = .ok (.invokevirtual 308, 3) := by decide +kernel
theorem dX13_feed_35 : decode cX13_feed 35 = .ok (.ireturn, 1) := by decide +kernel
theorem dX13_feed_36 : decode cX13_feed 36 = .ok (.iconst 0, 1) := by decide +kernel
theorem dX13_feed_37 : decode cX13_feed 37 = .ok (.istore 4, 2) := by decide +kernel
theorem dX13_feed_39 : decode cX13_feed 39 = .ok (.iload 4, 2) := by decide +kernel
theorem dX13_feed_41 : decode cX13_feed 41 = .ok (.iload_n 1, 1) := by decide +kernel
theorem dX13_feed_42 : decode cX13_feed 42 = .ok (.if_icmp .ge 40, 3) := by decide +kernel
theorem dX13_feed_45 : decode cX13_feed 45 = .ok (.aload_n 0, 1) := by decide +kernel
theorem dX13_feed_46 : decode cX13_feed 46 = .ok (.getfield 59, 3) := by decide +kernel
theorem dX13_feed_49 : decode cX13_feed 49 = .ok (.aload_n 0, 1) := by decide +kernel
theorem dX13_feed_50 : decode cX13_feed 50 = .ok (.getfield 343, 3) := by decide +kernel
theorem dX13_feed_53 : decode cX13_feed 53 = .ok (.lload_n 2, 1) := by decide +kernel
theorem dX13_feed_54 : decode cX13_feed 54 = .ok (.bipush 8, 2) := by decide +kernel
theorem dX13_feed_56 : decode cX13_feed 56 = .ok (.iload 4, 2) := by decide +kernel
theorem dX13_feed_58 : decode cX13_feed 58 = .ok (.imul, 1) := by decide +kernel
theorem dX13_feed_59 : decode cX13_feed 59 = .ok (.lshr, 1) := by decide +kernel
theorem dX13_feed_60 : decode cX13_feed 60 = .ok (.ldc2_w 346, 3) := by decide +kernel
theorem dX13_feed_63 : decode cX13_feed 63 = .ok (.land, 1) := by decide +kernel
theorem dX13_feed_64 : decode cX13_feed 64 = .ok (.l2i, 1) := by decide +kernel
theorem dX13_feed_65 : decode cX13_feed 65 = .ok (.iastore, 1) := by decide +kernel
theorem dX13_feed_66 : decode cX13_feed 66 = .ok (.aload_n 0, 1) := by decide +kernel
theorem dX13_feed_67 : decode cX13_feed 67 = .ok (.dup, 1) := by decide +kernel
theorem dX13_feed_68 : decode cX13_feed 68 = .ok (.getfield 343, 3) := by decide +kernel
theorem dX13_feed_71 : decode cX13_feed 71 = .ok (.iconst 1, 1) := by decide +kernel
theorem dX13_feed_72 : decode cX13_feed 72 = .ok (.iadd, 1) := by decide +kernel
theorem dX13_feed_73 : decode cX13_feed 73 = .ok (.putfield 343, 3) := by decide +kernel
theorem dX13_feed_76 : decode cX13_feed 76 = .ok (.iinc 4 1, 3) := by decide +kernel
theorem dX13_feed_79 : decode cX13_feed 79 = .ok (.goto (-40), 3) := by decide +kernel
theorem dX13_feed_82 : decode cX13_feed 82 = .ok (.aload_n 0, 1) := by decide +kernel
theorem dX13_feed_83 : decode cX13_feed 83 = .ok (.getfield 343, 3) := by decide +kernel
theorem dX13_feed_86 : decode cX13_feed 86 = .ok (.ireturn, 1) := by decide +kernel
set_option maxRecDepth 100000 in
set_option maxHeartbeats 4000000 in
theorem wp_X13_feed {n0 d : Nat} {K : z_K} {I : z_I} {L : z_L} {Q : z_q} {p0 : Int32} {p1 : Int64} (hL : MLay K) (h : (if p0 < 1 then RM0 n0 xX13_refuse d [.ref (n0 + 59), .int (-4)] K I L (fun vv I10 L11 => ∃ r12 : Int32, vv = some (.int r12) ∧ Q (some (.int r12)) I10 L11) else (if 8 < p0 then RM0 n0 xX13_refuse d [.ref (n0 + 59), .int (-6)] K I L (fun vv I3 L4 => ∃ r5 : Int32, vv = some (.int r5) ∧ Q (some (.int r5)) I3 L4) else (if 60 < (((I 59 21) + p0) : Int32) then RM0 n0 xX13_refuse d [.ref (n0 + 59), .int (-6)] K I L (fun vv I7 L8 => ∃ r9 : Int32, vv = some (.int r9) ∧ Q (some (.int r9)) I7 L8) else Z n0 xX13_feed (d + 1) 0 0 39 [(0, .ref (n0 + 59)), (1, .int p0), (2, .long p1), (4, .int 0)] [] K I L (z_q0 K Q))))) : RM0 n0 xX13_feed (d + 1) [.ref (n0 + 59), .int p0, .long p1] K I L Q := by
  refine z_entry0 (by decide) (Nat.le_of_ble_eq_true rfl) ?_
  change Z n0 xX13_feed (d + 1) 0 0 0 [(0, .ref (n0 + 59)), (1, .int p0), (2, .long p1)] [] K I L (z_q0 K Q)
  refine z_iload_n 1 dX13_feed_0 rfl ?_
  refine z_iconst 1 dX13_feed_1 (by decide) ?_
  refine z_icmp_ge 12 dX13_feed_2 (by decide) (fun g1 => ?_) (fun g1 => ?_)
  · rw [if_neg g1] at h
    refine z_iload_n 1 dX13_feed_12 rfl ?_
    refine z_bipush 8 dX13_feed_13 (by decide) ?_
    refine z_icmp_gt 29 dX13_feed_15 (by decide) (fun g2 => ?_) (fun g2 => ?_)
    · rw [if_pos g2] at h
      refine z_aload_n 0 dX13_feed_29 rfl ?_
      refine z_bipush (-6) dX13_feed_30 (by decide) ?_
      refine z_callV0 (As := [.int (-6)]) (st := []) dX13_feed_32 hy_X13_refuse hL.1 hL.2.1 (by decide) wg_1778 wg_1780 wg_54 (Nat.le_refl _) (Nat.le_of_ble_eq_true rfl) (RM0.mono h (fun vv I3 L4 h => ?_))
      obtain ⟨r5, rfl, h⟩ := h
      change Z n0 xX13_feed (d + 1) 0 0 35 [(0, .ref (n0 + 59)), (1, .int p0), (2, .long p1)] [.int r5] K I3 L4 (z_q0 K Q)
      exact z_iret dX13_feed_35 rfl ⟨rfl, h⟩
    · rw [if_neg g2] at h
      refine z_aload_n 0 dX13_feed_18 rfl ?_
      refine fg_13_343 (I 59 21) rfl dX13_feed_19 hL.1 hL.2.1 rfl ?_
      refine z_iload_n 1 dX13_feed_22 rfl ?_
      refine z_iadd dX13_feed_23 ?_
      refine z_bipush 60 dX13_feed_24 (by decide) ?_
      refine z_icmp_le 36 dX13_feed_26 (by decide) (fun g6 => ?_) (fun g6 => ?_)
      · rw [if_neg g6] at h
        refine z_iconst 0 dX13_feed_36 (by decide) ?_
        refine z_istore [1, 2, 3, 0] [(0, .ref (n0 + 59)), (1, .int p0), (2, .long p1), (4, .int 0)] dX13_feed_37 (by decide) rfl ?_
        exact h
      · rw [if_pos g6] at h
        refine z_aload_n 0 dX13_feed_29 rfl ?_
        refine z_bipush (-6) dX13_feed_30 (by decide) ?_
        refine z_callV0 (As := [.int (-6)]) (st := []) dX13_feed_32 hy_X13_refuse hL.1 hL.2.1 (by decide) wg_1778 wg_1780 wg_54 (Nat.le_refl _) (Nat.le_of_ble_eq_true rfl) (RM0.mono h (fun vv I7 L8 h => ?_))
        obtain ⟨r9, rfl, h⟩ := h
        change Z n0 xX13_feed (d + 1) 0 0 35 [(0, .ref (n0 + 59)), (1, .int p0), (2, .long p1)] [.int r9] K I7 L8 (z_q0 K Q)
        exact z_iret dX13_feed_35 rfl ⟨rfl, h⟩
  · rw [if_pos g1] at h
    refine z_aload_n 0 dX13_feed_5 rfl ?_
    refine z_bipush (-4) dX13_feed_6 (by decide) ?_
    refine z_callV0 (As := [.int (-4)]) (st := []) dX13_feed_8 hy_X13_refuse hL.1 hL.2.1 (by decide) wg_1778 wg_1780 wg_54 (Nat.le_refl _) (Nat.le_of_ble_eq_true rfl) (RM0.mono h (fun vv I10 L11 h => ?_))
    obtain ⟨r12, rfl, h⟩ := h
    change Z n0 xX13_feed (d + 1) 0 0 11 [(0, .ref (n0 + 59)), (1, .int p0), (2, .long p1)] [.int r12] K I10 L11 (z_q0 K Q)
    exact z_iret dX13_feed_11 rfl ⟨rfl, h⟩
set_option maxRecDepth 100000 in
set_option maxHeartbeats 4000000 in
theorem wp_X13_feed_39 {n0 d : Nat} {rc rs : Nat} {K : z_K} {I : z_I} {L : z_L} {Q : z_q} {a1 : Int32} {a2 : Int64} {a4 : Int32} (hL : MLay K) (h : (if a4 < a1 then vp_in (I 59 21) 60 ∧ Z n0 xX13_feed (d + 1) rc rs 39 [(0, .ref (n0 + 59)), (1, .int a1), (2, .long a2), (4, .int (a4 + 1))] [] K (zI (zI I 76 ((I 59 21).toNatClampNeg) (((((a2 : Int64) >>> (((8 * a4) : Int32).toInt64 &&& 63 : Int64)) &&& 255) : Int64).toInt32)) 59 21 ((I 59 21) + 1)) L (z_q0 K Q) else Q (some (.int (I 59 21))) I L)) : Z n0 xX13_feed (d + 1) rc rs 39 [(0, .ref (n0 + 59)), (1, .int a1), (2, .long a2), (4, .int a4)] [] K I L (z_q0 K Q) := by
  refine z_iload 3 dX13_feed_39 rfl ?_
  refine z_iload_n 1 dX13_feed_41 rfl ?_
  refine z_icmp_ge 82 dX13_feed_42 (by decide) (fun g1 => ?_) (fun g1 => ?_)
  · rw [if_neg g1] at h
    refine z_aload_n 0 dX13_feed_82 rfl ?_
    refine fg_13_343 (I 59 21) rfl dX13_feed_83 hL.1 hL.2.1 rfl ?_
    exact z_iret dX13_feed_86 rfl ⟨rfl, h⟩
  · rw [if_pos g1] at h
    refine z_aload_n 0 dX13_feed_45 rfl ?_
    refine fg_13_59 (some 76) rfl dX13_feed_46 hL.1 hL.2.1 (ma_20 hL).1 ?_
    refine z_aload_n 0 dX13_feed_49 rfl ?_
    refine fg_13_343 (I 59 21) rfl dX13_feed_50 hL.1 hL.2.1 rfl ?_
    refine z_lload_n 2 dX13_feed_53 rfl ?_
    refine z_bipush 8 dX13_feed_54 (by decide) ?_
    refine z_iload 3 dX13_feed_56 rfl ?_
    refine z_imul dX13_feed_58 ?_
    refine z_lshr dX13_feed_59 ?_
    refine z_ldc2_w 255 dX13_feed_60 wg_1850 ?_
    refine z_land dX13_feed_63 ?_
    refine z_l2i dX13_feed_64 ?_
    obtain ⟨o2, h⟩ := h
    refine z_iast dX13_feed_65 (ma_20 hL).2.1 (ma_20 hL).2.2 o2 ?_
    refine z_aload_n 0 dX13_feed_66 rfl ?_
    refine z_dup dX13_feed_67 rfl ?_
    refine fg_13_343 (I 59 21) rfl dX13_feed_68 hL.1 hL.2.1 rfl ?_
    refine z_iconst 1 dX13_feed_71 (by decide) ?_
    refine z_iadd dX13_feed_72 ?_
    refine fp_13_343 rfl dX13_feed_73 hL.1 hL.2.1 ?_
    refine z_iinc (j := 3) (a4 + 1) [1, 2, 3, 0] [(0, .ref (n0 + 59)), (1, .int a1), (2, .long a2), (4, .int (a4 + 1))] dX13_feed_76 rfl rfl (by decide) rfl ?_
    refine z_goto 39 dX13_feed_79 (by decide) ?_
    exact h
theorem dX13_here_0 : decode cX13_here 0 = .ok (.aload_n 0, 1) := by decide +kernel
theorem dX13_here_1 : decode cX13_here 1 = .ok (.getfield 348, 3) := by decide +kernel
theorem dX13_here_4 : decode cX13_here 4 = .ok (.aload_n 0, 1) := by decide +kernel
theorem dX13_here_5 : decode cX13_here 5 = .ok (.getfield 351, 3) := by decide +kernel
theorem dX13_here_8 : decode cX13_here 8 = .ok (.if_icmp .lt 7, 3) := by decide +kernel
theorem dX13_here_11 : decode cX13_here 11 = .ok (.iconst (-1), 1) := by decide +kernel
theorem dX13_here_12 : decode cX13_here 12 = .ok (.goto 36, 3) := by decide +kernel
theorem dX13_here_15 : decode cX13_here 15 = .ok (.aload_n 0, 1) := by decide +kernel
theorem dX13_here_16 : decode cX13_here 16 = .ok (.getfield 354, 3) := by decide +kernel
theorem dX13_here_19 : decode cX13_here 19 = .ok (.ifCond .eq 20, 3) := by decide +kernel
theorem dX13_here_22 : decode cX13_here 22 = .ok (.aload_n 0, 1) := by decide +kernel
theorem dX13_here_23 : decode cX13_here 23 = .ok (.getfield 62, 3) := by decide +kernel
theorem dX13_here_26 : decode cX13_here 26 = .ok (.aload_n 0, 1) := by decide +kernel
theorem dX13_here_27 : decode cX13_here 27 = .ok (.getfield 358, 3) := by decide +kernel
theorem dX13_here_30 : decode cX13_here 30 = .ok (.aload_n 0, 1) := by decide +kernel
theorem dX13_here_31 : decode cX13_here 31 = .ok (.getfield 348, 3) := by decide +kernel
theorem dX13_here_34 : decode cX13_here 34 = .ok (.iadd, 1) := by decide +kernel
theorem dX13_here_35 : decode cX13_here 35 = .ok (.iaload, 1) := by decide +kernel
theorem dX13_here_36 : decode cX13_here 36 = .ok (.goto 12, 3) := by decide +kernel
theorem dX13_here_39 : decode cX13_here 39 = .ok (.aload_n 0, 1) := by decide +kernel
theorem dX13_here_40 : decode cX13_here 40 = .ok (.getfield 59, 3) := by decide +kernel
theorem dX13_here_43 : decode cX13_here 43 = .ok (.aload_n 0, 1) := by decide +kernel
theorem dX13_here_44 : decode cX13_here 44 = .ok (.getfield 348, 3) := by decide +kernel
theorem dX13_here_47 : decode cX13_here 47 = .ok (.iaload, 1) := by decide +kernel
theorem dX13_here_48 : decode cX13_here 48 = .ok (.ireturn, 1) := by decide +kernel
set_option maxRecDepth 100000 in
set_option maxHeartbeats 4000000 in
theorem wp_X13_here {n0 d : Nat} {K : z_K} {I : z_I} {L : z_L} {Q : z_q}  (hL : MLay K) (h : (((I 59 31) : Int32) < (I 59 30) → ((I 59 28) : Int32) = 0 → vp_in (I 59 31) 60) ∧ (((I 59 31) : Int32) < (I 59 30) → ¬ (((I 59 28) : Int32) = 0) → vp_in ((I 59 29) + (I 59 31)) 7200) ∧ Q (some (.int (if ((I 59 31) : Int32) < (I 59 30) then if ((I 59 28) : Int32) = 0 then (I 76 ((I 59 31).toNatClampNeg)) else (I 77 (((I 59 29) + (I 59 31)).toNatClampNeg)) else (-1)))) I L) : RM0 n0 xX13_here d [.ref (n0 + 59)] K I L Q := by
  refine z_entry0 (by decide) (Nat.le_of_ble_eq_true rfl) ?_
  change Z n0 xX13_here d 0 0 0 [(0, .ref (n0 + 59))] [] K I L (z_q0 K Q)
  refine z_aload_n 0 dX13_here_0 rfl ?_
  refine fg_13_348 (I 59 31) rfl dX13_here_1 hL.1 hL.2.1 rfl ?_
  refine z_aload_n 0 dX13_here_4 rfl ?_
  refine fg_13_351 (I 59 30) rfl dX13_here_5 hL.1 hL.2.1 rfl ?_
  obtain ⟨o3, o4, h⟩ := h
  have key5 : Z n0 xX13_here d 0 0 48 [] [.int (if ((I 59 31) : Int32) < (I 59 30) then if ((I 59 28) : Int32) = 0 then (I 76 ((I 59 31).toNatClampNeg)) else (I 77 (((I 59 29) + (I 59 31)).toNatClampNeg)) else (-1))] K I L (z_q0 K Q) := by
    exact z_iret dX13_here_48 rfl ⟨rfl, h⟩
  refine z_icmp_lt 15 dX13_here_8 (by decide) (fun g1 => ?_) (fun g1 => ?_)
  · refine z_aload_n 0 dX13_here_15 rfl ?_
    refine fg_13_354 (I 59 28) rfl dX13_here_16 hL.1 hL.2.1 rfl ?_
    refine z_if_eq 39 dX13_here_19 (by decide) (fun g2 => ?_) (fun g2 => ?_)
    · refine z_aload_n 0 dX13_here_39 rfl ?_
      refine fg_13_59 (some 76) rfl dX13_here_40 hL.1 hL.2.1 (ma_20 hL).1 ?_
      refine z_aload_n 0 dX13_here_43 rfl ?_
      refine fg_13_348 (I 59 31) rfl dX13_here_44 hL.1 hL.2.1 rfl ?_
      refine z_iald (I 76 ((I 59 31).toNatClampNeg)) dX13_here_47 (ma_20 hL).2.1 (ma_20 hL).2.2 (o3 g1 g2) rfl ?_
      have ee : ((if ((I 59 31) : Int32) < (I 59 30) then if ((I 59 28) : Int32) = 0 then (I 76 ((I 59 31).toNatClampNeg)) else (I 77 (((I 59 29) + (I 59 31)).toNatClampNeg)) else (-1)) : Int32) = (I 76 ((I 59 31).toNatClampNeg)) := by rw [if_pos g1, if_pos g2]
      rw [ee] at key5
      clear ee
      refine z_sub [] rfl ?_
      exact key5
    · refine z_aload_n 0 dX13_here_22 rfl ?_
      refine fg_13_62 (some 77) rfl dX13_here_23 hL.1 hL.2.1 (ma_23 hL).1 ?_
      refine z_aload_n 0 dX13_here_26 rfl ?_
      refine fg_13_358 (I 59 29) rfl dX13_here_27 hL.1 hL.2.1 rfl ?_
      refine z_aload_n 0 dX13_here_30 rfl ?_
      refine fg_13_348 (I 59 31) rfl dX13_here_31 hL.1 hL.2.1 rfl ?_
      refine z_iadd dX13_here_34 ?_
      refine z_iald (I 77 (((I 59 29) + (I 59 31)).toNatClampNeg)) dX13_here_35 (ma_23 hL).2.1 (ma_23 hL).2.2 (o4 g1 g2) rfl ?_
      refine z_goto 48 dX13_here_36 (by decide) ?_
      have ee : ((if ((I 59 31) : Int32) < (I 59 30) then if ((I 59 28) : Int32) = 0 then (I 76 ((I 59 31).toNatClampNeg)) else (I 77 (((I 59 29) + (I 59 31)).toNatClampNeg)) else (-1)) : Int32) = (I 77 (((I 59 29) + (I 59 31)).toNatClampNeg)) := by rw [if_pos g1, if_neg g2]
      rw [ee] at key5
      clear ee
      refine z_sub [] rfl ?_
      exact key5
  · refine z_iconst (-1) dX13_here_11 (by decide) ?_
    refine z_goto 48 dX13_here_12 (by decide) ?_
    have ee : ((if ((I 59 31) : Int32) < (I 59 30) then if ((I 59 28) : Int32) = 0 then (I 76 ((I 59 31).toNatClampNeg)) else (I 77 (((I 59 29) + (I 59 31)).toNatClampNeg)) else (-1)) : Int32) = (-1) := by rw [if_neg g1]
    rw [ee] at key5
    clear ee
    refine z_sub [] rfl ?_
    exact key5
theorem dX13_isDigit_0 : decode cX13_isDigit 0 = .ok (.iload_n 0, 1) := by decide +kernel
theorem dX13_isDigit_1 : decode cX13_isDigit 1 = .ok (.bipush 48, 2) := by decide +kernel
theorem dX13_isDigit_3 : decode cX13_isDigit 3 = .ok (.if_icmp .lt 13, 3) := by decide +kernel
theorem dX13_isDigit_6 : decode cX13_isDigit 6 = .ok (.iload_n 0, 1) := by decide +kernel
theorem dX13_isDigit_7 : decode cX13_isDigit 7 = .ok (.bipush 57, 2) := by decide +kernel
theorem dX13_isDigit_9 : decode cX13_isDigit 9 = .ok (.if_icmp .gt 7, 3) := by decide +kernel
theorem dX13_isDigit_12 : decode cX13_isDigit 12 = .ok (.iconst 1, 1) := by decide +kernel
theorem dX13_isDigit_13 : decode cX13_isDigit 13 = .ok (.goto 4, 3) := by decide +kernel
theorem dX13_isDigit_16 : decode cX13_isDigit 16 = .ok (.iconst 0, 1) := by decide +kernel
theorem dX13_isDigit_17 : decode cX13_isDigit 17 = .ok (.ireturn, 1) := by decide +kernel
set_option maxRecDepth 100000 in
set_option maxHeartbeats 4000000 in
theorem wp_X13_isDigit {n0 d : Nat} {K : z_K} {I : z_I} {L : z_L} {Q : z_q} {p0 : Int32} (hL : MLay K) (h : Q (some (.int (if p0 < 48 then 0 else if 57 < p0 then 0 else 1))) I L) : RM0 n0 xX13_isDigit d [.int p0] K I L Q := by
  refine z_entry0 (by decide) (Nat.le_of_ble_eq_true rfl) ?_
  change Z n0 xX13_isDigit d 0 0 0 [(0, .int p0)] [] K I L (z_q0 K Q)
  refine z_iload_n 0 dX13_isDigit_0 rfl ?_
  refine z_bipush 48 dX13_isDigit_1 (by decide) ?_
  have key3 : Z n0 xX13_isDigit d 0 0 17 [] [.int (if p0 < 48 then 0 else if 57 < p0 then 0 else 1)] K I L (z_q0 K Q) := by
    exact z_zretb dX13_isDigit_17 rfl (z_bite (by repeat' (first | exact Or.inl rfl | exact Or.inr rfl | split))) ⟨rfl, h⟩
  refine z_icmp_lt 16 dX13_isDigit_3 (by decide) (fun g1 => ?_) (fun g1 => ?_)
  · refine z_iconst 0 dX13_isDigit_16 (by decide) ?_
    have ee : ((if p0 < 48 then 0 else if 57 < p0 then 0 else 1) : Int32) = 0 := by rw [if_pos g1]
    rw [ee] at key3
    clear ee
    refine z_sub [] rfl ?_
    exact key3
  · refine z_iload_n 0 dX13_isDigit_6 rfl ?_
    refine z_bipush 57 dX13_isDigit_7 (by decide) ?_
    refine z_icmp_gt 16 dX13_isDigit_9 (by decide) (fun g2 => ?_) (fun g2 => ?_)
    · refine z_iconst 0 dX13_isDigit_16 (by decide) ?_
      have ee : ((if p0 < 48 then 0 else if 57 < p0 then 0 else 1) : Int32) = 0 := by rw [if_neg g1, if_pos g2]
      rw [ee] at key3
      clear ee
      refine z_sub [] rfl ?_
      exact key3
    · refine z_iconst 1 dX13_isDigit_12 (by decide) ?_
      refine z_goto 17 dX13_isDigit_13 (by decide) ?_
      have ee : ((if p0 < 48 then 0 else if 57 < p0 then 0 else 1) : Int32) = 1 := by rw [if_neg g1, if_neg g2]
      rw [ee] at key3
      clear ee
      refine z_sub [] rfl ?_
      exact key3
theorem dX13_topSign_0 : decode cX13_topSign 0 = .ok (.aload_n 0, 1) := by decide +kernel
theorem dX13_topSign_1 : decode cX13_topSign 1 = .ok (.getfield 361, 3) := by decide +kernel
theorem dX13_topSign_4 : decode cX13_topSign 4 = .ok (.ifCond .ne 7, 3) := by decide +kernel
theorem dX13_topSign_7 : decode cX13_topSign 7 = .ok (.iconst 0, 1) := by decide +kernel
theorem dX13_topSign_8 : decode cX13_topSign 8 = .ok (.goto 14, 3) := by decide +kernel
theorem dX13_topSign_11 : decode cX13_topSign 11 = .ok (.aload_n 0, 1) := by decide +kernel
theorem dX13_topSign_12 : decode cX13_topSign 12 = .ok (.getfield 90, 3) := by decide +kernel
theorem dX13_topSign_15 : decode cX13_topSign 15 = .ok (.aload_n 0, 1) := by decide +kernel
theorem dX13_topSign_16 : decode cX13_topSign 16 = .ok (.getfield 361, 3) := by decide +kernel
theorem dX13_topSign_19 : decode cX13_topSign 19 = .ok (.iconst 1, 1) := by decide +kernel
theorem dX13_topSign_20 : decode cX13_topSign 20 = .ok (.isub, 1) := by decide +kernel
theorem dX13_topSign_21 : decode cX13_topSign 21 = .ok (.iaload, 1) := by decide +kernel
theorem dX13_topSign_22 : decode cX13_topSign 22 = .ok (.ireturn, 1) := by decide +kernel
set_option maxRecDepth 100000 in
set_option maxHeartbeats 4000000 in
theorem wp_X13_topSign {n0 d : Nat} {K : z_K} {I : z_I} {L : z_L} {Q : z_q}  (hL : MLay K) (h : (¬ (((I 59 43) : Int32) = 0) → vp_in ((I 59 43) - 1) 70) ∧ Q (some (.int (if ((I 59 43) : Int32) = 0 then 0 else (I 86 (((I 59 43) - 1).toNatClampNeg))))) I L) : RM0 n0 xX13_topSign d [.ref (n0 + 59)] K I L Q := by
  refine z_entry0 (by decide) (Nat.le_of_ble_eq_true rfl) ?_
  change Z n0 xX13_topSign d 0 0 0 [(0, .ref (n0 + 59))] [] K I L (z_q0 K Q)
  refine z_aload_n 0 dX13_topSign_0 rfl ?_
  refine fg_13_361 (I 59 43) rfl dX13_topSign_1 hL.1 hL.2.1 rfl ?_
  obtain ⟨o2, h⟩ := h
  have key3 : Z n0 xX13_topSign d 0 0 22 [] [.int (if ((I 59 43) : Int32) = 0 then 0 else (I 86 (((I 59 43) - 1).toNatClampNeg)))] K I L (z_q0 K Q) := by
    exact z_iret dX13_topSign_22 rfl ⟨rfl, h⟩
  refine z_if_ne 11 dX13_topSign_4 (by decide) (fun g1 => ?_) (fun g1 => ?_)
  · refine z_aload_n 0 dX13_topSign_11 rfl ?_
    refine fg_13_90 (some 86) rfl dX13_topSign_12 hL.1 hL.2.1 (ma_42 hL).1 ?_
    refine z_aload_n 0 dX13_topSign_15 rfl ?_
    refine fg_13_361 (I 59 43) rfl dX13_topSign_16 hL.1 hL.2.1 rfl ?_
    refine z_iconst 1 dX13_topSign_19 (by decide) ?_
    refine z_isub dX13_topSign_20 ?_
    refine z_iald (I 86 (((I 59 43) - 1).toNatClampNeg)) dX13_topSign_21 (ma_42 hL).2.1 (ma_42 hL).2.2 (o2 g1) rfl ?_
    have ee : ((if ((I 59 43) : Int32) = 0 then 0 else (I 86 (((I 59 43) - 1).toNatClampNeg))) : Int32) = (I 86 (((I 59 43) - 1).toNatClampNeg)) := by rw [if_neg g1]
    rw [ee] at key3
    clear ee
    refine z_sub [] rfl ?_
    exact key3
  · refine z_iconst 0 dX13_topSign_7 (by decide) ?_
    refine z_goto 22 dX13_topSign_8 (by decide) ?_
    have ee : ((if ((I 59 43) : Int32) = 0 then 0 else (I 86 (((I 59 43) - 1).toNatClampNeg))) : Int32) = 0 := by rw [if_pos g1]
    rw [ee] at key3
    clear ee
    refine z_sub [] rfl ?_
    exact key3
theorem dX13_rootOf_0 : decode cX13_rootOf 0 = .ok (.lconst 0, 1) := by decide +kernel
theorem dX13_rootOf_1 : decode cX13_rootOf 1 = .ok (.lstore_n 2, 1) := by decide +kernel
theorem dX13_rootOf_2 : decode cX13_rootOf 2 = .ok (.ldc2_w 364, 3) := by decide +kernel
theorem dX13_rootOf_5 : decode cX13_rootOf 5 = .ok (.lstore 4, 2) := by decide +kernel
theorem dX13_rootOf_7 : decode cX13_rootOf 7 = .ok (.lload 4, 2) := by decide +kernel
theorem dX13_rootOf_9 : decode cX13_rootOf 9 = .ok (.lload_n 2, 1) := by decide +kernel
theorem dX13_rootOf_10 : decode cX13_rootOf 10 = .ok (.lsub, 1) := by decide +kernel
theorem dX13_rootOf_11 : decode cX13_rootOf 11 = .ok (.lconst 1, 1) := by decide +kernel
theorem dX13_rootOf_12 : decode cX13_rootOf 12 = .ok (.lcmp, 1) := by decide +kernel
theorem dX13_rootOf_13 : decode cX13_rootOf 13 = .ok (.ifCond .le 36, 3) := by decide +kernel
theorem dX13_rootOf_16 : decode cX13_rootOf 16 = .ok (.lload_n 2, 1) := by decide +kernel
theorem dX13_rootOf_17 : decode cX13_rootOf 17 = .ok (.lload 4, 2) := by decide +kernel
theorem dX13_rootOf_19 : decode cX13_rootOf 19 = .ok (.ladd, 1) := by decide +kernel
theorem dX13_rootOf_20 : decode cX13_rootOf 20 = .ok (.ldc2_w 366, 3) := by decide +kernel
theorem dX13_rootOf_23 : decode cX13_rootOf 23 = .ok (.ldiv, 1) := by decide +kernel
theorem dX13_rootOf_24 : decode cX13_rootOf 24 = .ok (.lstore 6, 2) := by decide +kernel
theorem dX13_rootOf_26 : decode cX13_rootOf 26 = .ok (.lload 6, 2) := by decide +kernel
theorem dX13_rootOf_28 : decode cX13_rootOf 28 = .ok (.lload 6, 2) := by decide +kernel
theorem dX13_rootOf_30 : decode cX13_rootOf 30 = .ok (.lmul, 1) := by decide +kernel
theorem dX13_rootOf_31 : decode cX13_rootOf 31 = .ok (.lload_n 0, 1) := by decide +kernel
theorem dX13_rootOf_32 : decode cX13_rootOf 32 = .ok (.lcmp, 1) := by decide +kernel
theorem dX13_rootOf_33 : decode cX13_rootOf 33 = .ok (.ifCond .gt 9, 3) := by decide +kernel
theorem dX13_rootOf_36 : decode cX13_rootOf 36 = .ok (.lload 6, 2) := by decide +kernel
theorem dX13_rootOf_38 : decode cX13_rootOf 38 = .ok (.lstore_n 2, 1) := by decide +kernel
theorem dX13_rootOf_39 : decode cX13_rootOf 39 = .ok (.goto 7, 3) := by decide +kernel
theorem dX13_rootOf_42 : decode cX13_rootOf 42 = .ok (.lload 6, 2) := by decide +kernel
theorem dX13_rootOf_44 : decode cX13_rootOf 44 = .ok (.lstore 4, 2) := by decide +kernel
theorem dX13_rootOf_46 : decode cX13_rootOf 46 = .ok (.goto (-39), 3) := by decide +kernel
theorem dX13_rootOf_49 : decode cX13_rootOf 49 = .ok (.lload_n 2, 1) := by decide +kernel
theorem dX13_rootOf_50 : decode cX13_rootOf 50 = .ok (.lreturn, 1) := by decide +kernel
set_option maxRecDepth 100000 in
set_option maxHeartbeats 4000000 in
theorem wp_X13_rootOf {n0 d : Nat} {K : z_K} {I : z_I} {L : z_L} {Q : z_q} {p0 : Int64} (hL : MLay K) (h : Z n0 xX13_rootOf d 0 0 7 [(0, .long p0), (2, .long 0), (4, .long 3000000000)] [] K I L (z_q0 K Q)) : RM0 n0 xX13_rootOf d [.long p0] K I L Q := by
  refine z_entry0 (by decide) (Nat.le_of_ble_eq_true rfl) ?_
  change Z n0 xX13_rootOf d 0 0 0 [(0, .long p0)] [] K I L (z_q0 K Q)
  refine z_lconst 0 dX13_rootOf_0 (by decide) ?_
  refine z_lstore_n [1, 0] [(0, .long p0), (2, .long 0)] dX13_rootOf_1 (by decide) rfl ?_
  refine z_ldc2_w 3000000000 dX13_rootOf_2 wg_1912 ?_
  refine z_lstore [1, 2, 0] [(0, .long p0), (2, .long 0), (4, .long 3000000000)] dX13_rootOf_5 (by decide) rfl ?_
  exact h
set_option maxRecDepth 100000 in
set_option maxHeartbeats 4000000 in
theorem wp_X13_rootOf_7 {n0 d : Nat} {rc rs : Nat} {K : z_K} {I : z_I} {L : z_L} {Q : z_q} {a0 : Int64} {a2 : Int64} {a4 : Int64} (hL : MLay K) (h : (if 1 < ((a4 - a2) : Int64) then (if a0 < ((((a2 + a4) / 2) * ((a2 + a4) / 2)) : Int64) then Z n0 xX13_rootOf d rc rs 7 [(0, .long a0), (2, .long a2), (4, .long ((a2 + a4) / 2))] [] K I L (z_q0 K Q) else Z n0 xX13_rootOf d rc rs 7 [(0, .long a0), (2, .long ((a2 + a4) / 2)), (4, .long a4)] [] K I L (z_q0 K Q)) else Q (some (.long a2)) I L)) : Z n0 xX13_rootOf d rc rs 7 [(0, .long a0), (2, .long a2), (4, .long a4)] [] K I L (z_q0 K Q) := by
  refine z_lload 2 dX13_rootOf_7 rfl ?_
  refine z_lload_n 1 dX13_rootOf_9 rfl ?_
  refine z_lsub dX13_rootOf_10 ?_
  refine z_lconst 1 dX13_rootOf_11 (by decide) ?_
  refine z_lif_le 49 dX13_rootOf_12 dX13_rootOf_13 (by decide) (fun g1 => ?_) (fun g1 => ?_)
  · rw [if_neg g1] at h
    refine z_lload_n 1 dX13_rootOf_49 rfl ?_
    exact z_lret dX13_rootOf_50 rfl ⟨rfl, h⟩
  · rw [if_pos g1] at h
    refine z_lload_n 1 dX13_rootOf_16 rfl ?_
    refine z_lload 2 dX13_rootOf_17 rfl ?_
    refine z_ladd dX13_rootOf_19 ?_
    refine z_ldc2_w 2 dX13_rootOf_20 wg_1913 ?_
    refine z_ldiv dX13_rootOf_23 (by decide) ?_
    refine z_lstore [1, 2, 3, 0] [(0, .long a0), (2, .long a2), (4, .long a4), (6, .long ((a2 + a4) / 2))] dX13_rootOf_24 (by decide) rfl ?_
    refine z_lload 3 dX13_rootOf_26 rfl ?_
    refine z_lload 3 dX13_rootOf_28 rfl ?_
    refine z_lmul dX13_rootOf_30 ?_
    refine z_lload_n 0 dX13_rootOf_31 rfl ?_
    refine z_lif_gt 42 dX13_rootOf_32 dX13_rootOf_33 (by decide) (fun g2 => ?_) (fun g2 => ?_)
    · rw [if_pos g2] at h
      refine z_lload 3 dX13_rootOf_42 rfl ?_
      refine z_lstore [1, 2, 0, 3] [(0, .long a0), (2, .long a2), (4, .long ((a2 + a4) / 2)), (6, .long ((a2 + a4) / 2))] dX13_rootOf_44 (by decide) rfl ?_
      refine z_goto 7 dX13_rootOf_46 (by decide) ?_
      refine z_sub [0, 1, 2] rfl ?_
      exact h
    · rw [if_neg g2] at h
      refine z_lload 3 dX13_rootOf_36 rfl ?_
      refine z_lstore_n [1, 0, 2, 3] [(0, .long a0), (2, .long ((a2 + a4) / 2)), (4, .long a4), (6, .long ((a2 + a4) / 2))] dX13_rootOf_38 (by decide) rfl ?_
      refine z_goto 46 dX13_rootOf_39 (by decide) ?_
      refine z_goto 7 dX13_rootOf_46 (by decide) ?_
      refine z_sub [0, 1, 2] rfl ?_
      exact h
theorem dX13_push_0 : decode cX13_push 0 = .ok (.aload_n 0, 1) := by decide +kernel
theorem dX13_push_1 : decode cX13_push 1 = .ok (.aload_n 0, 1) := by decide +kernel
theorem dX13_push_2 : decode cX13_push 2 = .ok (.getfield 368, 3) := by decide +kernel
theorem dX13_push_5 : decode cX13_push 5 = .ok (.ifCond .ne 16, 3) := by decide +kernel
theorem dX13_push_8 : decode cX13_push 8 = .ok (.lload_n 1, 1) := by decide +kernel
theorem dX13_push_9 : decode cX13_push 9 = .ok (.ldc2_w 371, 3) := by decide +kernel
theorem dX13_push_12 : decode cX13_push 12 = .ok (.ldc2_w 373, 3) := by decide +kernel
theorem dX13_push_15 : decode cX13_push 15 = .ok (.invokestatic 291, 3) := by decide +kernel
theorem dX13_push_18 : decode cX13_push 18 = .ok (.ifCond .ne 7, 3) := by decide +kernel
theorem dX13_push_21 : decode cX13_push 21 = .ok (.iconst 1, 1) := by decide +kernel
theorem dX13_push_22 : decode cX13_push 22 = .ok (.goto 4, 3) := by decide +kernel
theorem dX13_push_25 : decode cX13_push 25 = .ok (.iconst 0, 1) := by decide +kernel
theorem dX13_push_26 : decode cX13_push 26 = .ok (.putfield 368, 3) := by decide +kernel
theorem dX13_push_29 : decode cX13_push 29 = .ok (.aload_n 0, 1) := by decide +kernel
theorem dX13_push_30 : decode cX13_push 30 = .ok (.getfield 86, 3) := by decide +kernel
theorem dX13_push_33 : decode cX13_push 33 = .ok (.aload_n 0, 1) := by decide +kernel
theorem dX13_push_34 : decode cX13_push 34 = .ok (.getfield 375, 3) := by decide +kernel
theorem dX13_push_37 : decode cX13_push 37 = .ok (.aload_n 0, 1) := by decide +kernel
theorem dX13_push_38 : decode cX13_push 38 = .ok (.getfield 368, 3) := by decide +kernel
theorem dX13_push_41 : decode cX13_push 41 = .ok (.ifCond .eq 7, 3) := by decide +kernel
theorem dX13_push_44 : decode cX13_push 44 = .ok (.lconst 0, 1) := by decide +kernel
theorem dX13_push_45 : decode cX13_push 45 = .ok (.goto 4, 3) := by decide +kernel
theorem dX13_push_48 : decode cX13_push 48 = .ok (.lload_n 1, 1) := by decide +kernel
theorem dX13_push_49 : decode cX13_push 49 = .ok (.lastore, 1) := by decide +kernel
theorem dX13_push_50 : decode cX13_push 50 = .ok (.aload_n 0, 1) := by decide +kernel
theorem dX13_push_51 : decode cX13_push 51 = .ok (.dup, 1) := by decide +kernel
theorem dX13_push_52 : decode cX13_push 52 = .ok (.getfield 375, 3) := by decide +kernel
theorem dX13_push_55 : decode cX13_push 55 = .ok (.iconst 1, 1) := by decide +kernel
theorem dX13_push_56 : decode cX13_push 56 = .ok (.iadd, 1) := by decide +kernel
theorem dX13_push_57 : decode cX13_push 57 = .ok (.putfield 375, 3) := by decide +kernel
theorem dX13_push_60 : decode cX13_push 60 = .ok (.return_, 1) := by decide +kernel
set_option maxRecDepth 100000 in
set_option maxHeartbeats 4000000 in
theorem wp_X13_push {n0 d : Nat} {K : z_K} {I : z_I} {L : z_L} {Q : z_q} {p0 : Int64} (hL : MLay K) (h : (if ((I 59 34) : Int32) = 0 then RM0 n0 xX13_in d [.long p0, .long (-1000000), .long 1000000] K I L (fun vv I5 L6 => ∃ r7 : Int32, vv = some (.int r7) ∧ vp_in (I5 59 41) 70 ∧ Q none (zI (zI I5 59 34 (if r7 = 0 then 1 else 0)) 59 41 ((I5 59 41) + 1)) (zL L6 85 ((I5 59 41).toNatClampNeg) (if (((if r7 = 0 then 1 else 0)) : Int32) = 0 then p0 else 0))) else vp_in (I 59 41) 70 ∧ Q none (zI (zI I 59 34 1) 59 41 ((I 59 41) + 1)) (zL L 85 ((I 59 41).toNatClampNeg) (if ((1) : Int32) = 0 then p0 else 0)))) : RM0 n0 xX13_push (d + 1) [.ref (n0 + 59), .long p0] K I L Q := by
  refine z_entry0 (by decide) (Nat.le_of_ble_eq_true rfl) ?_
  change Z n0 xX13_push (d + 1) 0 0 0 [(0, .ref (n0 + 59)), (1, .long p0)] [] K I L (z_q0 K Q)
  refine z_aload_n 0 dX13_push_0 rfl ?_
  refine z_aload_n 0 dX13_push_1 rfl ?_
  refine fg_13_368 (I 59 34) rfl dX13_push_2 hL.1 hL.2.1 rfl ?_
  refine z_if_ne 21 dX13_push_5 (by decide) (fun g1 => ?_) (fun g1 => ?_)
  · rw [if_neg g1] at h
    refine z_iconst 1 dX13_push_21 (by decide) ?_
    refine z_goto 26 dX13_push_22 (by decide) ?_
    refine fp_13_368 rfl dX13_push_26 hL.1 hL.2.1 (Or.inr rfl) ?_
    refine z_aload_n 0 dX13_push_29 rfl ?_
    refine fg_13_86 (some 85) rfl dX13_push_30 hL.1 hL.2.1 (ma_40 hL).1 ?_
    refine z_aload_n 0 dX13_push_33 rfl ?_
    refine fg_13_375 (I 59 41) rfl dX13_push_34 hL.1 hL.2.1 rfl ?_
    refine z_aload_n 0 dX13_push_37 rfl ?_
    refine fg_13_368 (1) rfl dX13_push_38 hL.1 hL.2.1 rfl ?_
    have key3 : Z n0 xX13_push (d + 1) 0 0 49 [(0, .ref (n0 + 59))] [.long (if ((1) : Int32) = 0 then p0 else 0), .int (I 59 41), .ref (n0 + 85)] K (zI I 59 34 1) L (z_q0 K Q) := by
      obtain ⟨o4, h⟩ := h
      refine z_last dX13_push_49 (ma_40 hL).2.1 (ma_40 hL).2.2 o4 ?_
      refine z_aload_n 0 dX13_push_50 rfl ?_
      refine z_dup dX13_push_51 rfl ?_
      refine fg_13_375 (I 59 41) rfl dX13_push_52 hL.1 hL.2.1 rfl ?_
      refine z_iconst 1 dX13_push_55 (by decide) ?_
      refine z_iadd dX13_push_56 ?_
      refine fp_13_375 rfl dX13_push_57 hL.1 hL.2.1 ?_
      exact z_vret dX13_push_60 rfl ⟨rfl, h⟩
    refine z_if_eq 48 dX13_push_41 (by decide) (fun g2 => ?_) (fun g2 => ?_)
    · refine z_lload_n 1 dX13_push_48 rfl ?_
      have ee : ((if ((1) : Int32) = 0 then p0 else 0) : Int64) = p0 := by rw [if_pos g2]
      rw [ee] at key3
      clear ee
      refine z_sub [0] rfl ?_
      exact key3
    · refine z_lconst 0 dX13_push_44 (by decide) ?_
      refine z_goto 49 dX13_push_45 (by decide) ?_
      have ee : ((if ((1) : Int32) = 0 then p0 else 0) : Int64) = 0 := by rw [if_neg g2]
      rw [ee] at key3
      clear ee
      refine z_sub [0] rfl ?_
      exact key3
  · rw [if_pos g1] at h
    refine z_lload_n 1 dX13_push_8 rfl ?_
    refine z_ldc2_w (-1000000) dX13_push_9 wg_1883 ?_
    refine z_ldc2_w 1000000 dX13_push_12 wg_1884 ?_
    refine z_callS0 (As := [.long p0, .long (-1000000), .long 1000000]) (st := [.ref (n0 + 59)]) dX13_push_15 hy_X13_in wg_1790 wg_1791 (Nat.le_refl _) (Nat.le_of_ble_eq_true rfl) (RM0.mono h (fun vv I5 L6 h => ?_))
    obtain ⟨r7, rfl, h⟩ := h
    change Z n0 xX13_push (d + 1) 0 0 18 [(0, .ref (n0 + 59)), (1, .long p0)] [.int r7, .ref (n0 + 59)] K I5 L6 (z_q0 K Q)
    have key9 : Z n0 xX13_push (d + 1) 0 0 26 [(0, .ref (n0 + 59)), (1, .long p0)] [.int (if r7 = 0 then 1 else 0), .ref (n0 + 59)] K I5 L6 (z_q0 K Q) := by
      refine fp_13_368 rfl dX13_push_26 hL.1 hL.2.1 (z_bite (by repeat' (first | exact Or.inl rfl | exact Or.inr rfl | split))) ?_
      refine z_aload_n 0 dX13_push_29 rfl ?_
      refine fg_13_86 (some 85) rfl dX13_push_30 hL.1 hL.2.1 (ma_40 hL).1 ?_
      refine z_aload_n 0 dX13_push_33 rfl ?_
      refine fg_13_375 (I5 59 41) rfl dX13_push_34 hL.1 hL.2.1 rfl ?_
      refine z_aload_n 0 dX13_push_37 rfl ?_
      refine fg_13_368 ((if r7 = 0 then 1 else 0)) rfl dX13_push_38 hL.1 hL.2.1 rfl ?_
      have key11 : Z n0 xX13_push (d + 1) 0 0 49 [(0, .ref (n0 + 59))] [.long (if (((if r7 = 0 then 1 else 0)) : Int32) = 0 then p0 else 0), .int (I5 59 41), .ref (n0 + 85)] K (zI I5 59 34 (if r7 = 0 then 1 else 0)) L6 (z_q0 K Q) := by
        obtain ⟨o12, h⟩ := h
        refine z_last dX13_push_49 (ma_40 hL).2.1 (ma_40 hL).2.2 o12 ?_
        refine z_aload_n 0 dX13_push_50 rfl ?_
        refine z_dup dX13_push_51 rfl ?_
        refine fg_13_375 (I5 59 41) rfl dX13_push_52 hL.1 hL.2.1 rfl ?_
        refine z_iconst 1 dX13_push_55 (by decide) ?_
        refine z_iadd dX13_push_56 ?_
        refine fp_13_375 rfl dX13_push_57 hL.1 hL.2.1 ?_
        exact z_vret dX13_push_60 rfl ⟨rfl, h⟩
      refine z_if_eq 48 dX13_push_41 (by decide) (fun g10 => ?_) (fun g10 => ?_)
      · refine z_lload_n 1 dX13_push_48 rfl ?_
        have ee : ((if (((if r7 = 0 then 1 else 0)) : Int32) = 0 then p0 else 0) : Int64) = p0 := by rw [if_pos g10]
        rw [ee] at key11
        clear ee
        refine z_sub [0] rfl ?_
        exact key11
      · refine z_lconst 0 dX13_push_44 (by decide) ?_
        refine z_goto 49 dX13_push_45 (by decide) ?_
        have ee : ((if (((if r7 = 0 then 1 else 0)) : Int32) = 0 then p0 else 0) : Int64) = 0 := by rw [if_neg g10]
        rw [ee] at key11
        clear ee
        refine z_sub [0] rfl ?_
        exact key11
    refine z_if_ne 25 dX13_push_18 (by decide) (fun g8 => ?_) (fun g8 => ?_)
    · refine z_iconst 0 dX13_push_25 (by decide) ?_
      have ee : ((if r7 = 0 then 1 else 0) : Int32) = 0 := by rw [if_neg g8]
      rw [ee] at key9
      clear ee
      exact key9
    · refine z_iconst 1 dX13_push_21 (by decide) ?_
      refine z_goto 26 dX13_push_22 (by decide) ?_
      have ee : ((if r7 = 0 then 1 else 0) : Int32) = 1 := by rw [if_pos g8]
      rw [ee] at key9
      clear ee
      exact key9
theorem dX13_work_0 : decode cX13_work 0 = .ok (.aload_n 0, 1) := by decide +kernel
theorem dX13_work_1 : decode cX13_work 1 = .ok (.getfield 90, 3) := by decide +kernel
theorem dX13_work_4 : decode cX13_work 4 = .ok (.aload_n 0, 1) := by decide +kernel
theorem dX13_work_5 : decode cX13_work 5 = .ok (.getfield 361, 3) := by decide +kernel
theorem dX13_work_8 : decode cX13_work 8 = .ok (.iconst 1, 1) := by decide +kernel
theorem dX13_work_9 : decode cX13_work 9 = .ok (.isub, 1) := by decide +kernel
theorem dX13_work_10 : decode cX13_work 10 = .ok (.iaload, 1) := by decide +kernel
theorem dX13_work_11 : decode cX13_work 11 = .ok (.istore_n 1, 1) := by decide +kernel
theorem dX13_work_12 : decode cX13_work 12 = .ok (.aload_n 0, 1) := by decide +kernel
theorem dX13_work_13 : decode cX13_work 13 = .ok (.dup, 1) := by decide +kernel
theorem dX13_work_14 : decode cX13_work 14 = .ok (.getfield 361, 3) := by decide +kernel
theorem dX13_work_17 : decode cX13_work 17 = .ok (.iconst 1, 1) := by decide +kernel
theorem dX13_work_18 : decode cX13_work 18 = .ok (.isub, 1) := by decide +kernel
theorem dX13_work_19 : decode cX13_work 19 = .ok (.putfield 361, 3) := by decide +kernel
theorem dX13_work_22 : decode cX13_work 22 = .ok (.aload_n 0, 1) := by decide +kernel
theorem dX13_work_23 : decode cX13_work 23 = .ok (.dup, 1) := by decide +kernel
theorem dX13_work_24 : decode cX13_work 24 = .ok (.getfield 375, 3) := by decide +kernel
theorem dX13_work_27 : decode cX13_work 27 = .ok (.iconst 2, 1) := by decide +kernel
theorem dX13_work_28 : decode cX13_work 28 = .ok (.isub, 1) := by decide +kernel
theorem dX13_work_29 : decode cX13_work 29 = .ok (.putfield 375, 3) := by decide +kernel
theorem dX13_work_32 : decode cX13_work 32 = .ok (.aload_n 0, 1) := by decide +kernel
theorem dX13_work_33 : decode cX13_work 33 = .ok (.getfield 86, 3) := by decide +kernel
theorem dX13_work_36 : decode cX13_work 36 = .ok (.aload_n 0, 1) := by decide +kernel
theorem dX13_work_37 : decode cX13_work 37 = .ok (.getfield 375, 3) := by decide +kernel
theorem dX13_work_40 : decode cX13_work 40 = .ok (.laload, 1) := by decide +kernel
theorem dX13_work_41 : decode cX13_work 41 = .ok (.lstore_n 2, 1) := by decide +kernel
theorem dX13_work_42 : decode cX13_work 42 = .ok (.aload_n 0, 1) := by decide +kernel
theorem dX13_work_43 : decode cX13_work 43 = .ok (.getfield 86, 3) := by decide +kernel
theorem dX13_work_46 : decode cX13_work 46 = .ok (.aload_n 0, 1) := by decide +kernel
theorem dX13_work_47 : decode cX13_work 47 = .ok (.getfield 375, 3) := by decide +kernel
theorem dX13_work_50 : decode cX13_work 50 = .ok (.iconst 1, 1) := by decide +kernel
theorem dX13_work_51 : decode cX13_work 51 = .ok (.iadd, 1) := by decide +kernel
theorem dX13_work_52 : decode cX13_work 52 = .ok (.laload, 1) := by decide +kernel
theorem dX13_work_53 : decode cX13_work 53 = .ok (.lstore 4, 2) := by decide +kernel
theorem dX13_work_55 : decode cX13_work 55 = .ok (.iload_n 1, 1) := by decide +kernel
theorem dX13_work_56 : decode cX13_work 56 = .ok (.bipush 47, 2) := by decide +kernel
theorem dX13_work_58 : decode cX13_work 58 = .ok (.if_icmp .ne 18, 3) := by decide +kernel
theorem dX13_work_61 : decode cX13_work 61 = .ok (.lload 4, 2) := by decide +kernel
theorem dX13_work_63 : decode cX13_work 63 = .ok (.lconst 0, 1) := by decide +kernel
theorem dX13_work_64 : decode cX13_work 64 = .ok (.lcmp, 1) := by decide +kernel
theorem dX13_work_65 : decode cX13_work 65 = .ok (.ifCond .ne 11, 3) := by decide +kernel
theorem dX13_work_68 : decode cX13_work 68 = .ok (.aload_n 0, 1) := by decide +kernel
theorem dX13_work_69 : decode cX13_work 69 = .ok (.iconst 1, 1) := by decide +kernel
theorem dX13_work_70 : decode cX13_work 70 = .ok (.putfield 368, 3) := by decide +kernel
theorem dX13_work_73 : decode cX13_work 73 = .ok (.lconst 1, 1) := by decide +kernel
theorem dX13_work_74 : decode cX13_work 74 = .ok (.lstore 4, 2) := by decide +kernel
theorem dX13_work_76 : decode cX13_work 76 = .ok (.aload_n 0, 1) := by decide +kernel
theorem dX13_work_77 : decode cX13_work 77 = .ok (.iload_n 1, 1) := by decide +kernel
theorem dX13_work_78 : decode cX13_work 78 = .ok (.bipush 43, 2) := by decide +kernel
theorem dX13_work_80 : decode cX13_work 80 = .ok (.if_icmp .ne 10, 3) := by decide +kernel
theorem dX13_work_83 : decode cX13_work 83 = .ok (.lload_n 2, 1) := by decide +kernel
theorem dX13_work_84 : decode cX13_work 84 = .ok (.lload 4, 2) := by decide +kernel
theorem dX13_work_86 : decode cX13_work 86 = .ok (.ladd, 1) := by decide +kernel
theorem dX13_work_87 : decode cX13_work 87 = .ok (.goto 33, 3) := by decide +kernel
theorem dX13_work_90 : decode cX13_work 90 = .ok (.iload_n 1, 1) := by decide +kernel
theorem dX13_work_91 : decode cX13_work 91 = .ok (.bipush 45, 2) := by decide +kernel
theorem dX13_work_93 : decode cX13_work 93 = .ok (.if_icmp .ne 10, 3) := by decide +kernel
theorem dX13_work_96 : decode cX13_work 96 = .ok (.lload_n 2, 1) := by decide +kernel
theorem dX13_work_97 : decode cX13_work 97 = .ok (.lload 4, 2) := by decide +kernel
theorem dX13_work_99 : decode cX13_work 99 = .ok (.lsub, 1) := by decide +kernel
theorem dX13_work_100 : decode cX13_work 100 = .ok (.goto 20, 3) := by decide +kernel
theorem dX13_work_103 : decode cX13_work 103 = .ok (.iload_n 1, 1) := by decide +kernel
theorem dX13_work_104 : decode cX13_work 104 = .ok (.bipush 42, 2) := by decide +kernel
theorem dX13_work_106 : decode cX13_work 106 = .ok (.if_icmp .ne 10, 3) := by decide +kernel
theorem dX13_work_109 : decode cX13_work 109 = .ok (.lload_n 2, 1) := by decide +kernel
theorem dX13_work_110 : decode cX13_work 110 = .ok (.lload 4, 2) := by decide +kernel
theorem dX13_work_112 : decode cX13_work 112 = .ok (.lmul, 1) := by decide +kernel
theorem dX13_work_113 : decode cX13_work 113 = .ok (.goto 7, 3) := by decide +kernel
theorem dX13_work_116 : decode cX13_work 116 = .ok (.lload_n 2, 1) := by decide +kernel
theorem dX13_work_117 : decode cX13_work 117 = .ok (.lload 4, 2) := by decide +kernel
theorem dX13_work_119 : decode cX13_work 119 = .ok (.ldiv, 1) := by decide +kernel
theorem dX13_work_120 : decode cX13_work 120 = .ok (.invokevirtual 378, 3) := by decide +kernel
theorem dX13_work_123 : decode cX13_work 123 = .ok (.return_, 1) := by decide +kernel
set_option maxRecDepth 100000 in
set_option maxHeartbeats 4000000 in
theorem wp_X13_work {n0 d : Nat} {K : z_K} {I : z_I} {L : z_L} {Q : z_q}  (hL : MLay K) (h : vp_in ((I 59 43) - 1) 70 ∧ vp_in (((I 59 41) - 2)) 70 ∧ vp_in ((((I 59 41) - 2)) + 1) 70 ∧ (if ((I 86 (((I 59 43) - 1).toNatClampNeg)) : Int32) = 47 then (if ((L 85 (((((I 59 41) - 2)) + 1).toNatClampNeg)) : Int64) = 0 then RM0 n0 xX13_push d [.ref (n0 + 59), .long (if ((I 86 (((I 59 43) - 1).toNatClampNeg)) : Int32) = 43 then ((L 85 ((((I 59 41) - 2)).toNatClampNeg)) + 1) else if ((I 86 (((I 59 43) - 1).toNatClampNeg)) : Int32) = 45 then ((L 85 ((((I 59 41) - 2)).toNatClampNeg)) - 1) else if ((I 86 (((I 59 43) - 1).toNatClampNeg)) : Int32) = 42 then ((L 85 ((((I 59 41) - 2)).toNatClampNeg)) * 1) else ((L 85 ((((I 59 41) - 2)).toNatClampNeg)) / 1))] K (zI (zI (zI I 59 43 ((I 59 43) - 1)) 59 41 ((I 59 41) - 2)) 59 34 1) L (fun vv I24 L25 => vv = none ∧ Q none I24 L25) else (¬ (((I 86 (((I 59 43) - 1).toNatClampNeg)) : Int32) = 43) → ¬ (((I 86 (((I 59 43) - 1).toNatClampNeg)) : Int32) = 45) → ¬ (((I 86 (((I 59 43) - 1).toNatClampNeg)) : Int32) = 42) → ¬ ((L 85 (((((I 59 41) - 2)) + 1).toNatClampNeg)) : Int64) = 0) ∧ RM0 n0 xX13_push d [.ref (n0 + 59), .long (if ((I 86 (((I 59 43) - 1).toNatClampNeg)) : Int32) = 43 then ((L 85 ((((I 59 41) - 2)).toNatClampNeg)) + (L 85 (((((I 59 41) - 2)) + 1).toNatClampNeg))) else if ((I 86 (((I 59 43) - 1).toNatClampNeg)) : Int32) = 45 then ((L 85 ((((I 59 41) - 2)).toNatClampNeg)) - (L 85 (((((I 59 41) - 2)) + 1).toNatClampNeg))) else if ((I 86 (((I 59 43) - 1).toNatClampNeg)) : Int32) = 42 then ((L 85 ((((I 59 41) - 2)).toNatClampNeg)) * (L 85 (((((I 59 41) - 2)) + 1).toNatClampNeg))) else ((L 85 ((((I 59 41) - 2)).toNatClampNeg)) / (L 85 (((((I 59 41) - 2)) + 1).toNatClampNeg))))] K (zI (zI I 59 43 ((I 59 43) - 1)) 59 41 ((I 59 41) - 2)) L (fun vv I18 L19 => vv = none ∧ Q none I18 L19)) else (¬ (((I 86 (((I 59 43) - 1).toNatClampNeg)) : Int32) = 43) → ¬ (((I 86 (((I 59 43) - 1).toNatClampNeg)) : Int32) = 45) → ¬ (((I 86 (((I 59 43) - 1).toNatClampNeg)) : Int32) = 42) → ¬ ((L 85 (((((I 59 41) - 2)) + 1).toNatClampNeg)) : Int64) = 0) ∧ RM0 n0 xX13_push d [.ref (n0 + 59), .long (if ((I 86 (((I 59 43) - 1).toNatClampNeg)) : Int32) = 43 then ((L 85 ((((I 59 41) - 2)).toNatClampNeg)) + (L 85 (((((I 59 41) - 2)) + 1).toNatClampNeg))) else if ((I 86 (((I 59 43) - 1).toNatClampNeg)) : Int32) = 45 then ((L 85 ((((I 59 41) - 2)).toNatClampNeg)) - (L 85 (((((I 59 41) - 2)) + 1).toNatClampNeg))) else if ((I 86 (((I 59 43) - 1).toNatClampNeg)) : Int32) = 42 then ((L 85 ((((I 59 41) - 2)).toNatClampNeg)) * (L 85 (((((I 59 41) - 2)) + 1).toNatClampNeg))) else ((L 85 ((((I 59 41) - 2)).toNatClampNeg)) / (L 85 (((((I 59 41) - 2)) + 1).toNatClampNeg))))] K (zI (zI I 59 43 ((I 59 43) - 1)) 59 41 ((I 59 41) - 2)) L (fun vv I10 L11 => vv = none ∧ Q none I10 L11))) : RM0 n0 xX13_work (d + 1) [.ref (n0 + 59)] K I L Q := by
  refine z_entry0 (by decide) (Nat.le_of_ble_eq_true rfl) ?_
  change Z n0 xX13_work (d + 1) 0 0 0 [(0, .ref (n0 + 59))] [] K I L (z_q0 K Q)
  refine z_aload_n 0 dX13_work_0 rfl ?_
  refine fg_13_90 (some 86) rfl dX13_work_1 hL.1 hL.2.1 (ma_42 hL).1 ?_
  refine z_aload_n 0 dX13_work_4 rfl ?_
  refine fg_13_361 (I 59 43) rfl dX13_work_5 hL.1 hL.2.1 rfl ?_
  refine z_iconst 1 dX13_work_8 (by decide) ?_
  refine z_isub dX13_work_9 ?_
  obtain ⟨o1, h⟩ := h
  refine z_iald (I 86 (((I 59 43) - 1).toNatClampNeg)) dX13_work_10 (ma_42 hL).2.1 (ma_42 hL).2.2 o1 rfl ?_
  refine z_istore_n [1, 0] [(0, .ref (n0 + 59)), (1, .int (I 86 (((I 59 43) - 1).toNatClampNeg)))] dX13_work_11 (by decide) rfl ?_
  refine z_aload_n 0 dX13_work_12 rfl ?_
  refine z_dup dX13_work_13 rfl ?_
  refine fg_13_361 (I 59 43) rfl dX13_work_14 hL.1 hL.2.1 rfl ?_
  refine z_iconst 1 dX13_work_17 (by decide) ?_
  refine z_isub dX13_work_18 ?_
  refine fp_13_361 rfl dX13_work_19 hL.1 hL.2.1 ?_
  refine z_aload_n 0 dX13_work_22 rfl ?_
  refine z_dup dX13_work_23 rfl ?_
  refine fg_13_375 (I 59 41) rfl dX13_work_24 hL.1 hL.2.1 rfl ?_
  refine z_iconst 2 dX13_work_27 (by decide) ?_
  refine z_isub dX13_work_28 ?_
  refine fp_13_375 rfl dX13_work_29 hL.1 hL.2.1 ?_
  refine z_aload_n 0 dX13_work_32 rfl ?_
  refine fg_13_86 (some 85) rfl dX13_work_33 hL.1 hL.2.1 (ma_40 hL).1 ?_
  refine z_aload_n 0 dX13_work_36 rfl ?_
  refine fg_13_375 (((I 59 41) - 2)) rfl dX13_work_37 hL.1 hL.2.1 rfl ?_
  obtain ⟨o2, h⟩ := h
  refine z_lald (L 85 ((((I 59 41) - 2)).toNatClampNeg)) dX13_work_40 (ma_40 hL).2.1 (ma_40 hL).2.2 o2 rfl ?_
  refine z_lstore_n [1, 2, 0] [(0, .ref (n0 + 59)), (1, .int (I 86 (((I 59 43) - 1).toNatClampNeg))), (2, .long (L 85 ((((I 59 41) - 2)).toNatClampNeg)))] dX13_work_41 (by decide) rfl ?_
  refine z_aload_n 0 dX13_work_42 rfl ?_
  refine fg_13_86 (some 85) rfl dX13_work_43 hL.1 hL.2.1 (ma_40 hL).1 ?_
  refine z_aload_n 0 dX13_work_46 rfl ?_
  refine fg_13_375 (((I 59 41) - 2)) rfl dX13_work_47 hL.1 hL.2.1 rfl ?_
  refine z_iconst 1 dX13_work_50 (by decide) ?_
  refine z_iadd dX13_work_51 ?_
  obtain ⟨o3, h⟩ := h
  refine z_lald (L 85 (((((I 59 41) - 2)) + 1).toNatClampNeg)) dX13_work_52 (ma_40 hL).2.1 (ma_40 hL).2.2 o3 rfl ?_
  refine z_lstore [1, 2, 3, 0] [(0, .ref (n0 + 59)), (1, .int (I 86 (((I 59 43) - 1).toNatClampNeg))), (2, .long (L 85 ((((I 59 41) - 2)).toNatClampNeg))), (4, .long (L 85 (((((I 59 41) - 2)) + 1).toNatClampNeg)))] dX13_work_53 (by decide) rfl ?_
  refine z_iload_n 1 dX13_work_55 rfl ?_
  refine z_bipush 47 dX13_work_56 (by decide) ?_
  refine z_icmp_ne 76 dX13_work_58 (by decide) (fun g4 => ?_) (fun g4 => ?_)
  · rw [if_neg g4] at h
    refine z_aload_n 0 dX13_work_76 rfl ?_
    refine z_iload_n 1 dX13_work_77 rfl ?_
    refine z_bipush 43 dX13_work_78 (by decide) ?_
    obtain ⟨o8, h⟩ := h
    have key9 : Z n0 xX13_work (d + 1) 0 0 120 [] [.long (if ((I 86 (((I 59 43) - 1).toNatClampNeg)) : Int32) = 43 then ((L 85 ((((I 59 41) - 2)).toNatClampNeg)) + (L 85 (((((I 59 41) - 2)) + 1).toNatClampNeg))) else if ((I 86 (((I 59 43) - 1).toNatClampNeg)) : Int32) = 45 then ((L 85 ((((I 59 41) - 2)).toNatClampNeg)) - (L 85 (((((I 59 41) - 2)) + 1).toNatClampNeg))) else if ((I 86 (((I 59 43) - 1).toNatClampNeg)) : Int32) = 42 then ((L 85 ((((I 59 41) - 2)).toNatClampNeg)) * (L 85 (((((I 59 41) - 2)) + 1).toNatClampNeg))) else ((L 85 ((((I 59 41) - 2)).toNatClampNeg)) / (L 85 (((((I 59 41) - 2)) + 1).toNatClampNeg)))), .ref (n0 + 59)] K (zI (zI I 59 43 ((I 59 43) - 1)) 59 41 ((I 59 41) - 2)) L (z_q0 K Q) := by
      refine z_callV0 (As := [.long (if ((I 86 (((I 59 43) - 1).toNatClampNeg)) : Int32) = 43 then ((L 85 ((((I 59 41) - 2)).toNatClampNeg)) + (L 85 (((((I 59 41) - 2)) + 1).toNatClampNeg))) else if ((I 86 (((I 59 43) - 1).toNatClampNeg)) : Int32) = 45 then ((L 85 ((((I 59 41) - 2)).toNatClampNeg)) - (L 85 (((((I 59 41) - 2)) + 1).toNatClampNeg))) else if ((I 86 (((I 59 43) - 1).toNatClampNeg)) : Int32) = 42 then ((L 85 ((((I 59 41) - 2)).toNatClampNeg)) * (L 85 (((((I 59 41) - 2)) + 1).toNatClampNeg))) else ((L 85 ((((I 59 41) - 2)).toNatClampNeg)) / (L 85 (((((I 59 41) - 2)) + 1).toNatClampNeg))))]) (st := []) dX13_work_120 hy_X13_push hL.1 hL.2.1 (by decide) wg_1879 wg_1881 wg_66 (Nat.le_refl _) (Nat.le_of_ble_eq_true rfl) (RM0.mono h (fun vv I10 L11 h => ?_))
      obtain ⟨rfl, h⟩ := h
      change Z n0 xX13_work (d + 1) 0 0 123 [] [] K I10 L11 (z_q0 K Q)
      exact z_vret dX13_work_123 rfl ⟨rfl, h⟩
    refine z_icmp_ne 90 dX13_work_80 (by decide) (fun g5 => ?_) (fun g5 => ?_)
    · refine z_iload_n 1 dX13_work_90 rfl ?_
      refine z_bipush 45 dX13_work_91 (by decide) ?_
      refine z_icmp_ne 103 dX13_work_93 (by decide) (fun g6 => ?_) (fun g6 => ?_)
      · refine z_iload_n 1 dX13_work_103 rfl ?_
        refine z_bipush 42 dX13_work_104 (by decide) ?_
        refine z_icmp_ne 116 dX13_work_106 (by decide) (fun g7 => ?_) (fun g7 => ?_)
        · refine z_lload_n 2 dX13_work_116 rfl ?_
          refine z_lload 3 dX13_work_117 rfl ?_
          refine z_ldiv dX13_work_119 (o8 g5 g6 g7) ?_
          have ee : ((if ((I 86 (((I 59 43) - 1).toNatClampNeg)) : Int32) = 43 then ((L 85 ((((I 59 41) - 2)).toNatClampNeg)) + (L 85 (((((I 59 41) - 2)) + 1).toNatClampNeg))) else if ((I 86 (((I 59 43) - 1).toNatClampNeg)) : Int32) = 45 then ((L 85 ((((I 59 41) - 2)).toNatClampNeg)) - (L 85 (((((I 59 41) - 2)) + 1).toNatClampNeg))) else if ((I 86 (((I 59 43) - 1).toNatClampNeg)) : Int32) = 42 then ((L 85 ((((I 59 41) - 2)).toNatClampNeg)) * (L 85 (((((I 59 41) - 2)) + 1).toNatClampNeg))) else ((L 85 ((((I 59 41) - 2)).toNatClampNeg)) / (L 85 (((((I 59 41) - 2)) + 1).toNatClampNeg)))) : Int64) = ((L 85 ((((I 59 41) - 2)).toNatClampNeg)) / (L 85 (((((I 59 41) - 2)) + 1).toNatClampNeg))) := by rw [if_neg g5, if_neg g6, if_neg g7]
          rw [ee] at key9
          clear ee
          refine z_sub [] rfl ?_
          exact key9
        · refine z_lload_n 2 dX13_work_109 rfl ?_
          refine z_lload 3 dX13_work_110 rfl ?_
          refine z_lmul dX13_work_112 ?_
          refine z_goto 120 dX13_work_113 (by decide) ?_
          have ee : ((if ((I 86 (((I 59 43) - 1).toNatClampNeg)) : Int32) = 43 then ((L 85 ((((I 59 41) - 2)).toNatClampNeg)) + (L 85 (((((I 59 41) - 2)) + 1).toNatClampNeg))) else if ((I 86 (((I 59 43) - 1).toNatClampNeg)) : Int32) = 45 then ((L 85 ((((I 59 41) - 2)).toNatClampNeg)) - (L 85 (((((I 59 41) - 2)) + 1).toNatClampNeg))) else if ((I 86 (((I 59 43) - 1).toNatClampNeg)) : Int32) = 42 then ((L 85 ((((I 59 41) - 2)).toNatClampNeg)) * (L 85 (((((I 59 41) - 2)) + 1).toNatClampNeg))) else ((L 85 ((((I 59 41) - 2)).toNatClampNeg)) / (L 85 (((((I 59 41) - 2)) + 1).toNatClampNeg)))) : Int64) = ((L 85 ((((I 59 41) - 2)).toNatClampNeg)) * (L 85 (((((I 59 41) - 2)) + 1).toNatClampNeg))) := by rw [if_neg g5, if_neg g6, if_pos g7]
          rw [ee] at key9
          clear ee
          refine z_sub [] rfl ?_
          exact key9
      · refine z_lload_n 2 dX13_work_96 rfl ?_
        refine z_lload 3 dX13_work_97 rfl ?_
        refine z_lsub dX13_work_99 ?_
        refine z_goto 120 dX13_work_100 (by decide) ?_
        have ee : ((if ((I 86 (((I 59 43) - 1).toNatClampNeg)) : Int32) = 43 then ((L 85 ((((I 59 41) - 2)).toNatClampNeg)) + (L 85 (((((I 59 41) - 2)) + 1).toNatClampNeg))) else if ((I 86 (((I 59 43) - 1).toNatClampNeg)) : Int32) = 45 then ((L 85 ((((I 59 41) - 2)).toNatClampNeg)) - (L 85 (((((I 59 41) - 2)) + 1).toNatClampNeg))) else if ((I 86 (((I 59 43) - 1).toNatClampNeg)) : Int32) = 42 then ((L 85 ((((I 59 41) - 2)).toNatClampNeg)) * (L 85 (((((I 59 41) - 2)) + 1).toNatClampNeg))) else ((L 85 ((((I 59 41) - 2)).toNatClampNeg)) / (L 85 (((((I 59 41) - 2)) + 1).toNatClampNeg)))) : Int64) = ((L 85 ((((I 59 41) - 2)).toNatClampNeg)) - (L 85 (((((I 59 41) - 2)) + 1).toNatClampNeg))) := by rw [if_neg g5, if_pos g6]
        rw [ee] at key9
        clear ee
        refine z_sub [] rfl ?_
        exact key9
    · refine z_lload_n 2 dX13_work_83 rfl ?_
      refine z_lload 3 dX13_work_84 rfl ?_
      refine z_ladd dX13_work_86 ?_
      refine z_goto 120 dX13_work_87 (by decide) ?_
      have ee : ((if ((I 86 (((I 59 43) - 1).toNatClampNeg)) : Int32) = 43 then ((L 85 ((((I 59 41) - 2)).toNatClampNeg)) + (L 85 (((((I 59 41) - 2)) + 1).toNatClampNeg))) else if ((I 86 (((I 59 43) - 1).toNatClampNeg)) : Int32) = 45 then ((L 85 ((((I 59 41) - 2)).toNatClampNeg)) - (L 85 (((((I 59 41) - 2)) + 1).toNatClampNeg))) else if ((I 86 (((I 59 43) - 1).toNatClampNeg)) : Int32) = 42 then ((L 85 ((((I 59 41) - 2)).toNatClampNeg)) * (L 85 (((((I 59 41) - 2)) + 1).toNatClampNeg))) else ((L 85 ((((I 59 41) - 2)).toNatClampNeg)) / (L 85 (((((I 59 41) - 2)) + 1).toNatClampNeg)))) : Int64) = ((L 85 ((((I 59 41) - 2)).toNatClampNeg)) + (L 85 (((((I 59 41) - 2)) + 1).toNatClampNeg))) := by rw [if_pos g5]
      rw [ee] at key9
      clear ee
      refine z_sub [] rfl ?_
      exact key9
  · rw [if_pos g4] at h
    refine z_lload 3 dX13_work_61 rfl ?_
    refine z_lconst 0 dX13_work_63 (by decide) ?_
    refine z_lif_ne 76 dX13_work_64 dX13_work_65 (by decide) (fun g12 => ?_) (fun g12 => ?_)
    · rw [if_neg g12] at h
      refine z_aload_n 0 dX13_work_76 rfl ?_
      refine z_iload_n 1 dX13_work_77 rfl ?_
      refine z_bipush 43 dX13_work_78 (by decide) ?_
      obtain ⟨o16, h⟩ := h
      have key17 : Z n0 xX13_work (d + 1) 0 0 120 [] [.long (if ((I 86 (((I 59 43) - 1).toNatClampNeg)) : Int32) = 43 then ((L 85 ((((I 59 41) - 2)).toNatClampNeg)) + (L 85 (((((I 59 41) - 2)) + 1).toNatClampNeg))) else if ((I 86 (((I 59 43) - 1).toNatClampNeg)) : Int32) = 45 then ((L 85 ((((I 59 41) - 2)).toNatClampNeg)) - (L 85 (((((I 59 41) - 2)) + 1).toNatClampNeg))) else if ((I 86 (((I 59 43) - 1).toNatClampNeg)) : Int32) = 42 then ((L 85 ((((I 59 41) - 2)).toNatClampNeg)) * (L 85 (((((I 59 41) - 2)) + 1).toNatClampNeg))) else ((L 85 ((((I 59 41) - 2)).toNatClampNeg)) / (L 85 (((((I 59 41) - 2)) + 1).toNatClampNeg)))), .ref (n0 + 59)] K (zI (zI I 59 43 ((I 59 43) - 1)) 59 41 ((I 59 41) - 2)) L (z_q0 K Q) := by
        refine z_callV0 (As := [.long (if ((I 86 (((I 59 43) - 1).toNatClampNeg)) : Int32) = 43 then ((L 85 ((((I 59 41) - 2)).toNatClampNeg)) + (L 85 (((((I 59 41) - 2)) + 1).toNatClampNeg))) else if ((I 86 (((I 59 43) - 1).toNatClampNeg)) : Int32) = 45 then ((L 85 ((((I 59 41) - 2)).toNatClampNeg)) - (L 85 (((((I 59 41) - 2)) + 1).toNatClampNeg))) else if ((I 86 (((I 59 43) - 1).toNatClampNeg)) : Int32) = 42 then ((L 85 ((((I 59 41) - 2)).toNatClampNeg)) * (L 85 (((((I 59 41) - 2)) + 1).toNatClampNeg))) else ((L 85 ((((I 59 41) - 2)).toNatClampNeg)) / (L 85 (((((I 59 41) - 2)) + 1).toNatClampNeg))))]) (st := []) dX13_work_120 hy_X13_push hL.1 hL.2.1 (by decide) wg_1879 wg_1881 wg_66 (Nat.le_refl _) (Nat.le_of_ble_eq_true rfl) (RM0.mono h (fun vv I18 L19 h => ?_))
        obtain ⟨rfl, h⟩ := h
        change Z n0 xX13_work (d + 1) 0 0 123 [] [] K I18 L19 (z_q0 K Q)
        exact z_vret dX13_work_123 rfl ⟨rfl, h⟩
      refine z_icmp_ne 90 dX13_work_80 (by decide) (fun g13 => ?_) (fun g13 => ?_)
      · refine z_iload_n 1 dX13_work_90 rfl ?_
        refine z_bipush 45 dX13_work_91 (by decide) ?_
        refine z_icmp_ne 103 dX13_work_93 (by decide) (fun g14 => ?_) (fun g14 => ?_)
        · refine z_iload_n 1 dX13_work_103 rfl ?_
          refine z_bipush 42 dX13_work_104 (by decide) ?_
          refine z_icmp_ne 116 dX13_work_106 (by decide) (fun g15 => ?_) (fun g15 => ?_)
          · refine z_lload_n 2 dX13_work_116 rfl ?_
            refine z_lload 3 dX13_work_117 rfl ?_
            refine z_ldiv dX13_work_119 (o16 g13 g14 g15) ?_
            have ee : ((if ((I 86 (((I 59 43) - 1).toNatClampNeg)) : Int32) = 43 then ((L 85 ((((I 59 41) - 2)).toNatClampNeg)) + (L 85 (((((I 59 41) - 2)) + 1).toNatClampNeg))) else if ((I 86 (((I 59 43) - 1).toNatClampNeg)) : Int32) = 45 then ((L 85 ((((I 59 41) - 2)).toNatClampNeg)) - (L 85 (((((I 59 41) - 2)) + 1).toNatClampNeg))) else if ((I 86 (((I 59 43) - 1).toNatClampNeg)) : Int32) = 42 then ((L 85 ((((I 59 41) - 2)).toNatClampNeg)) * (L 85 (((((I 59 41) - 2)) + 1).toNatClampNeg))) else ((L 85 ((((I 59 41) - 2)).toNatClampNeg)) / (L 85 (((((I 59 41) - 2)) + 1).toNatClampNeg)))) : Int64) = ((L 85 ((((I 59 41) - 2)).toNatClampNeg)) / (L 85 (((((I 59 41) - 2)) + 1).toNatClampNeg))) := by rw [if_neg g13, if_neg g14, if_neg g15]
            rw [ee] at key17
            clear ee
            refine z_sub [] rfl ?_
            exact key17
          · refine z_lload_n 2 dX13_work_109 rfl ?_
            refine z_lload 3 dX13_work_110 rfl ?_
            refine z_lmul dX13_work_112 ?_
            refine z_goto 120 dX13_work_113 (by decide) ?_
            have ee : ((if ((I 86 (((I 59 43) - 1).toNatClampNeg)) : Int32) = 43 then ((L 85 ((((I 59 41) - 2)).toNatClampNeg)) + (L 85 (((((I 59 41) - 2)) + 1).toNatClampNeg))) else if ((I 86 (((I 59 43) - 1).toNatClampNeg)) : Int32) = 45 then ((L 85 ((((I 59 41) - 2)).toNatClampNeg)) - (L 85 (((((I 59 41) - 2)) + 1).toNatClampNeg))) else if ((I 86 (((I 59 43) - 1).toNatClampNeg)) : Int32) = 42 then ((L 85 ((((I 59 41) - 2)).toNatClampNeg)) * (L 85 (((((I 59 41) - 2)) + 1).toNatClampNeg))) else ((L 85 ((((I 59 41) - 2)).toNatClampNeg)) / (L 85 (((((I 59 41) - 2)) + 1).toNatClampNeg)))) : Int64) = ((L 85 ((((I 59 41) - 2)).toNatClampNeg)) * (L 85 (((((I 59 41) - 2)) + 1).toNatClampNeg))) := by rw [if_neg g13, if_neg g14, if_pos g15]
            rw [ee] at key17
            clear ee
            refine z_sub [] rfl ?_
            exact key17
        · refine z_lload_n 2 dX13_work_96 rfl ?_
          refine z_lload 3 dX13_work_97 rfl ?_
          refine z_lsub dX13_work_99 ?_
          refine z_goto 120 dX13_work_100 (by decide) ?_
          have ee : ((if ((I 86 (((I 59 43) - 1).toNatClampNeg)) : Int32) = 43 then ((L 85 ((((I 59 41) - 2)).toNatClampNeg)) + (L 85 (((((I 59 41) - 2)) + 1).toNatClampNeg))) else if ((I 86 (((I 59 43) - 1).toNatClampNeg)) : Int32) = 45 then ((L 85 ((((I 59 41) - 2)).toNatClampNeg)) - (L 85 (((((I 59 41) - 2)) + 1).toNatClampNeg))) else if ((I 86 (((I 59 43) - 1).toNatClampNeg)) : Int32) = 42 then ((L 85 ((((I 59 41) - 2)).toNatClampNeg)) * (L 85 (((((I 59 41) - 2)) + 1).toNatClampNeg))) else ((L 85 ((((I 59 41) - 2)).toNatClampNeg)) / (L 85 (((((I 59 41) - 2)) + 1).toNatClampNeg)))) : Int64) = ((L 85 ((((I 59 41) - 2)).toNatClampNeg)) - (L 85 (((((I 59 41) - 2)) + 1).toNatClampNeg))) := by rw [if_neg g13, if_pos g14]
          rw [ee] at key17
          clear ee
          refine z_sub [] rfl ?_
          exact key17
      · refine z_lload_n 2 dX13_work_83 rfl ?_
        refine z_lload 3 dX13_work_84 rfl ?_
        refine z_ladd dX13_work_86 ?_
        refine z_goto 120 dX13_work_87 (by decide) ?_
        have ee : ((if ((I 86 (((I 59 43) - 1).toNatClampNeg)) : Int32) = 43 then ((L 85 ((((I 59 41) - 2)).toNatClampNeg)) + (L 85 (((((I 59 41) - 2)) + 1).toNatClampNeg))) else if ((I 86 (((I 59 43) - 1).toNatClampNeg)) : Int32) = 45 then ((L 85 ((((I 59 41) - 2)).toNatClampNeg)) - (L 85 (((((I 59 41) - 2)) + 1).toNatClampNeg))) else if ((I 86 (((I 59 43) - 1).toNatClampNeg)) : Int32) = 42 then ((L 85 ((((I 59 41) - 2)).toNatClampNeg)) * (L 85 (((((I 59 41) - 2)) + 1).toNatClampNeg))) else ((L 85 ((((I 59 41) - 2)).toNatClampNeg)) / (L 85 (((((I 59 41) - 2)) + 1).toNatClampNeg)))) : Int64) = ((L 85 ((((I 59 41) - 2)).toNatClampNeg)) + (L 85 (((((I 59 41) - 2)) + 1).toNatClampNeg))) := by rw [if_pos g13]
        rw [ee] at key17
        clear ee
        refine z_sub [] rfl ?_
        exact key17
    · rw [if_pos g12] at h
      refine z_aload_n 0 dX13_work_68 rfl ?_
      refine z_iconst 1 dX13_work_69 (by decide) ?_
      refine fp_13_368 rfl dX13_work_70 hL.1 hL.2.1 (Or.inr rfl) ?_
      refine z_lconst 1 dX13_work_73 (by decide) ?_
      refine z_lstore [1, 2, 3, 0] [(0, .ref (n0 + 59)), (1, .int (I 86 (((I 59 43) - 1).toNatClampNeg))), (2, .long (L 85 ((((I 59 41) - 2)).toNatClampNeg))), (4, .long 1)] dX13_work_74 (by decide) rfl ?_
      refine z_aload_n 0 dX13_work_76 rfl ?_
      refine z_iload_n 1 dX13_work_77 rfl ?_
      refine z_bipush 43 dX13_work_78 (by decide) ?_
      have key23 : Z n0 xX13_work (d + 1) 0 0 120 [] [.long (if ((I 86 (((I 59 43) - 1).toNatClampNeg)) : Int32) = 43 then ((L 85 ((((I 59 41) - 2)).toNatClampNeg)) + 1) else if ((I 86 (((I 59 43) - 1).toNatClampNeg)) : Int32) = 45 then ((L 85 ((((I 59 41) - 2)).toNatClampNeg)) - 1) else if ((I 86 (((I 59 43) - 1).toNatClampNeg)) : Int32) = 42 then ((L 85 ((((I 59 41) - 2)).toNatClampNeg)) * 1) else ((L 85 ((((I 59 41) - 2)).toNatClampNeg)) / 1)), .ref (n0 + 59)] K (zI (zI (zI I 59 43 ((I 59 43) - 1)) 59 41 ((I 59 41) - 2)) 59 34 1) L (z_q0 K Q) := by
        refine z_callV0 (As := [.long (if ((I 86 (((I 59 43) - 1).toNatClampNeg)) : Int32) = 43 then ((L 85 ((((I 59 41) - 2)).toNatClampNeg)) + 1) else if ((I 86 (((I 59 43) - 1).toNatClampNeg)) : Int32) = 45 then ((L 85 ((((I 59 41) - 2)).toNatClampNeg)) - 1) else if ((I 86 (((I 59 43) - 1).toNatClampNeg)) : Int32) = 42 then ((L 85 ((((I 59 41) - 2)).toNatClampNeg)) * 1) else ((L 85 ((((I 59 41) - 2)).toNatClampNeg)) / 1))]) (st := []) dX13_work_120 hy_X13_push hL.1 hL.2.1 (by decide) wg_1879 wg_1881 wg_66 (Nat.le_refl _) (Nat.le_of_ble_eq_true rfl) (RM0.mono h (fun vv I24 L25 h => ?_))
        obtain ⟨rfl, h⟩ := h
        change Z n0 xX13_work (d + 1) 0 0 123 [] [] K I24 L25 (z_q0 K Q)
        exact z_vret dX13_work_123 rfl ⟨rfl, h⟩
      refine z_icmp_ne 90 dX13_work_80 (by decide) (fun g20 => ?_) (fun g20 => ?_)
      · refine z_iload_n 1 dX13_work_90 rfl ?_
        refine z_bipush 45 dX13_work_91 (by decide) ?_
        refine z_icmp_ne 103 dX13_work_93 (by decide) (fun g21 => ?_) (fun g21 => ?_)
        · refine z_iload_n 1 dX13_work_103 rfl ?_
          refine z_bipush 42 dX13_work_104 (by decide) ?_
          refine z_icmp_ne 116 dX13_work_106 (by decide) (fun g22 => ?_) (fun g22 => ?_)
          · refine z_lload_n 2 dX13_work_116 rfl ?_
            refine z_lload 3 dX13_work_117 rfl ?_
            refine z_ldiv dX13_work_119 (by decide) ?_
            have ee : ((if ((I 86 (((I 59 43) - 1).toNatClampNeg)) : Int32) = 43 then ((L 85 ((((I 59 41) - 2)).toNatClampNeg)) + 1) else if ((I 86 (((I 59 43) - 1).toNatClampNeg)) : Int32) = 45 then ((L 85 ((((I 59 41) - 2)).toNatClampNeg)) - 1) else if ((I 86 (((I 59 43) - 1).toNatClampNeg)) : Int32) = 42 then ((L 85 ((((I 59 41) - 2)).toNatClampNeg)) * 1) else ((L 85 ((((I 59 41) - 2)).toNatClampNeg)) / 1)) : Int64) = ((L 85 ((((I 59 41) - 2)).toNatClampNeg)) / 1) := by rw [if_neg g20, if_neg g21, if_neg g22]
            rw [ee] at key23
            clear ee
            refine z_sub [] rfl ?_
            exact key23
          · refine z_lload_n 2 dX13_work_109 rfl ?_
            refine z_lload 3 dX13_work_110 rfl ?_
            refine z_lmul dX13_work_112 ?_
            refine z_goto 120 dX13_work_113 (by decide) ?_
            have ee : ((if ((I 86 (((I 59 43) - 1).toNatClampNeg)) : Int32) = 43 then ((L 85 ((((I 59 41) - 2)).toNatClampNeg)) + 1) else if ((I 86 (((I 59 43) - 1).toNatClampNeg)) : Int32) = 45 then ((L 85 ((((I 59 41) - 2)).toNatClampNeg)) - 1) else if ((I 86 (((I 59 43) - 1).toNatClampNeg)) : Int32) = 42 then ((L 85 ((((I 59 41) - 2)).toNatClampNeg)) * 1) else ((L 85 ((((I 59 41) - 2)).toNatClampNeg)) / 1)) : Int64) = ((L 85 ((((I 59 41) - 2)).toNatClampNeg)) * 1) := by rw [if_neg g20, if_neg g21, if_pos g22]
            rw [ee] at key23
            clear ee
            refine z_sub [] rfl ?_
            exact key23
        · refine z_lload_n 2 dX13_work_96 rfl ?_
          refine z_lload 3 dX13_work_97 rfl ?_
          refine z_lsub dX13_work_99 ?_
          refine z_goto 120 dX13_work_100 (by decide) ?_
          have ee : ((if ((I 86 (((I 59 43) - 1).toNatClampNeg)) : Int32) = 43 then ((L 85 ((((I 59 41) - 2)).toNatClampNeg)) + 1) else if ((I 86 (((I 59 43) - 1).toNatClampNeg)) : Int32) = 45 then ((L 85 ((((I 59 41) - 2)).toNatClampNeg)) - 1) else if ((I 86 (((I 59 43) - 1).toNatClampNeg)) : Int32) = 42 then ((L 85 ((((I 59 41) - 2)).toNatClampNeg)) * 1) else ((L 85 ((((I 59 41) - 2)).toNatClampNeg)) / 1)) : Int64) = ((L 85 ((((I 59 41) - 2)).toNatClampNeg)) - 1) := by rw [if_neg g20, if_pos g21]
          rw [ee] at key23
          clear ee
          refine z_sub [] rfl ?_
          exact key23
      · refine z_lload_n 2 dX13_work_83 rfl ?_
        refine z_lload 3 dX13_work_84 rfl ?_
        refine z_ladd dX13_work_86 ?_
        refine z_goto 120 dX13_work_87 (by decide) ?_
        have ee : ((if ((I 86 (((I 59 43) - 1).toNatClampNeg)) : Int32) = 43 then ((L 85 ((((I 59 41) - 2)).toNatClampNeg)) + 1) else if ((I 86 (((I 59 43) - 1).toNatClampNeg)) : Int32) = 45 then ((L 85 ((((I 59 41) - 2)).toNatClampNeg)) - 1) else if ((I 86 (((I 59 43) - 1).toNatClampNeg)) : Int32) = 42 then ((L 85 ((((I 59 41) - 2)).toNatClampNeg)) * 1) else ((L 85 ((((I 59 41) - 2)).toNatClampNeg)) / 1)) : Int64) = ((L 85 ((((I 59 41) - 2)).toNatClampNeg)) + 1) := by rw [if_pos g20]
        rw [ee] at key23
        clear ee
        refine z_sub [] rfl ?_
        exact key23
theorem dX13_workTimes_0 : decode cX13_workTimes 0 = .ok (.aload_n 0, 1) := by decide +kernel
theorem dX13_workTimes_1 : decode cX13_workTimes 1 = .ok (.invokevirtual 382, 3) := by decide +kernel
theorem dX13_workTimes_4 : decode cX13_workTimes 4 = .ok (.bipush 42, 2) := by decide +kernel
theorem dX13_workTimes_6 : decode cX13_workTimes 6 = .ok (.if_icmp .eq 12, 3) := by decide +kernel
theorem dX13_workTimes_9 : decode cX13_workTimes 9 = .ok (.aload_n 0, 1) := by decide +kernel
theorem dX13_workTimes_10 : decode cX13_workTimes 10 = .ok (.invokevirtual 382, 3) := by decide +kernel
theorem dX13_workTimes_13 : decode cX13_workTimes 13 = .ok (.bipush 47, 2) := by decide +kernel
theorem dX13_workTimes_15 : decode cX13_workTimes 15 = .ok (.if_icmp .ne 10, 3) := by decide +kernel
theorem dX13_workTimes_18 : decode cX13_workTimes 18 = .ok (.aload_n 0, 1) := by decide +kernel
theorem dX13_workTimes_19 : decode cX13_workTimes 19 = .ok (.invokevirtual 386, 3) := by decide +kernel
theorem dX13_workTimes_22 : decode cX13_workTimes 22 = .ok (.goto (-22), 3) := by decide +kernel
theorem dX13_workTimes_25 : decode cX13_workTimes 25 = .ok (.return_, 1) := by decide +kernel
set_option maxRecDepth 100000 in
set_option maxHeartbeats 4000000 in
theorem wp_X13_workTimes {n0 d : Nat} {K : z_K} {I : z_I} {L : z_L} {Q : z_q}  (hL : MLay K) (h : RM0 n0 xX13_topSign d [.ref (n0 + 59)] K I L (fun vv I1 L2 => ∃ r3 : Int32, vv = some (.int r3) ∧ (if r3 = 42 then RM0 n0 xX13_work d [.ref (n0 + 59)] K I1 L2 (fun vv I5 L6 => vv = none ∧ Z n0 xX13_workTimes (d + 1) 0 0 0 [(0, .ref (n0 + 59))] [] K I5 L6 (z_q0 K Q)) else RM0 n0 xX13_topSign d [.ref (n0 + 59)] K I1 L2 (fun vv I7 L8 => ∃ r9 : Int32, vv = some (.int r9) ∧ (if r9 = 47 then RM0 n0 xX13_work d [.ref (n0 + 59)] K I7 L8 (fun vv I11 L12 => vv = none ∧ Z n0 xX13_workTimes (d + 1) 0 0 0 [(0, .ref (n0 + 59))] [] K I11 L12 (z_q0 K Q)) else Q none I7 L8))))) : RM0 n0 xX13_workTimes (d + 1) [.ref (n0 + 59)] K I L Q := by
  refine z_entry0 (by decide) (Nat.le_of_ble_eq_true rfl) ?_
  change Z n0 xX13_workTimes (d + 1) 0 0 0 [(0, .ref (n0 + 59))] [] K I L (z_q0 K Q)
  refine z_aload_n 0 dX13_workTimes_0 rfl ?_
  refine z_callV0 (As := []) (st := []) dX13_workTimes_1 hy_X13_topSign hL.1 hL.2.1 (by decide) wg_1897 wg_1899 wg_69 (Nat.le_refl _) (Nat.le_of_ble_eq_true rfl) (RM0.mono h (fun vv I1 L2 h => ?_))
  obtain ⟨r3, rfl, h⟩ := h
  change Z n0 xX13_workTimes (d + 1) 0 0 4 [(0, .ref (n0 + 59))] [.int r3] K I1 L2 (z_q0 K Q)
  refine z_bipush 42 dX13_workTimes_4 (by decide) ?_
  refine z_icmp_eq 18 dX13_workTimes_6 (by decide) (fun g4 => ?_) (fun g4 => ?_)
  · rw [if_pos g4] at h
    refine z_aload_n 0 dX13_workTimes_18 rfl ?_
    refine z_callV0 (As := []) (st := []) dX13_workTimes_19 hy_X13_work hL.1 hL.2.1 (by decide) wg_1901 wg_1903 wg_70 (Nat.le_refl _) (Nat.le_of_ble_eq_true rfl) (RM0.mono h (fun vv I5 L6 h => ?_))
    obtain ⟨rfl, h⟩ := h
    change Z n0 xX13_workTimes (d + 1) 0 0 22 [(0, .ref (n0 + 59))] [] K I5 L6 (z_q0 K Q)
    refine z_goto 0 dX13_workTimes_22 (by decide) ?_
    exact h
  · rw [if_neg g4] at h
    refine z_aload_n 0 dX13_workTimes_9 rfl ?_
    refine z_callV0 (As := []) (st := []) dX13_workTimes_10 hy_X13_topSign hL.1 hL.2.1 (by decide) wg_1897 wg_1899 wg_69 (Nat.le_refl _) (Nat.le_of_ble_eq_true rfl) (RM0.mono h (fun vv I7 L8 h => ?_))
    obtain ⟨r9, rfl, h⟩ := h
    change Z n0 xX13_workTimes (d + 1) 0 0 13 [(0, .ref (n0 + 59))] [.int r9] K I7 L8 (z_q0 K Q)
    refine z_bipush 47 dX13_workTimes_13 (by decide) ?_
    refine z_icmp_ne 25 dX13_workTimes_15 (by decide) (fun g10 => ?_) (fun g10 => ?_)
    · rw [if_neg g10] at h
      exact z_vret dX13_workTimes_25 rfl ⟨rfl, h⟩
    · rw [if_pos g10] at h
      refine z_aload_n 0 dX13_workTimes_18 rfl ?_
      refine z_callV0 (As := []) (st := []) dX13_workTimes_19 hy_X13_work hL.1 hL.2.1 (by decide) wg_1901 wg_1903 wg_70 (Nat.le_refl _) (Nat.le_of_ble_eq_true rfl) (RM0.mono h (fun vv I11 L12 h => ?_))
      obtain ⟨rfl, h⟩ := h
      change Z n0 xX13_workTimes (d + 1) 0 0 22 [(0, .ref (n0 + 59))] [] K I11 L12 (z_q0 K Q)
      refine z_goto 0 dX13_workTimes_22 (by decide) ?_
      exact h
set_option maxRecDepth 100000 in
set_option maxHeartbeats 4000000 in
theorem wp_X13_workTimes_0 {n0 d : Nat} {rc rs : Nat} {K : z_K} {I : z_I} {L : z_L} {Q : z_q}  (hL : MLay K) (h : RM0 n0 xX13_topSign d [.ref (n0 + 59)] K I L (fun vv I1 L2 => ∃ r3 : Int32, vv = some (.int r3) ∧ (if r3 = 42 then RM0 n0 xX13_work d [.ref (n0 + 59)] K I1 L2 (fun vv I5 L6 => vv = none ∧ Z n0 xX13_workTimes (d + 1) rc rs 0 [(0, .ref (n0 + 59))] [] K I5 L6 (z_q0 K Q)) else RM0 n0 xX13_topSign d [.ref (n0 + 59)] K I1 L2 (fun vv I7 L8 => ∃ r9 : Int32, vv = some (.int r9) ∧ (if r9 = 47 then RM0 n0 xX13_work d [.ref (n0 + 59)] K I7 L8 (fun vv I11 L12 => vv = none ∧ Z n0 xX13_workTimes (d + 1) rc rs 0 [(0, .ref (n0 + 59))] [] K I11 L12 (z_q0 K Q)) else Q none I7 L8))))) : Z n0 xX13_workTimes (d + 1) rc rs 0 [(0, .ref (n0 + 59))] [] K I L (z_q0 K Q) := by
  refine z_aload_n 0 dX13_workTimes_0 rfl ?_
  refine z_callV0 (As := []) (st := []) dX13_workTimes_1 hy_X13_topSign hL.1 hL.2.1 (by decide) wg_1897 wg_1899 wg_69 (Nat.le_refl _) (Nat.le_of_ble_eq_true rfl) (RM0.mono h (fun vv I1 L2 h => ?_))
  obtain ⟨r3, rfl, h⟩ := h
  change Z n0 xX13_workTimes (d + 1) rc rs 4 [(0, .ref (n0 + 59))] [.int r3] K I1 L2 (z_q0 K Q)
  refine z_bipush 42 dX13_workTimes_4 (by decide) ?_
  refine z_icmp_eq 18 dX13_workTimes_6 (by decide) (fun g4 => ?_) (fun g4 => ?_)
  · rw [if_pos g4] at h
    refine z_aload_n 0 dX13_workTimes_18 rfl ?_
    refine z_callV0 (As := []) (st := []) dX13_workTimes_19 hy_X13_work hL.1 hL.2.1 (by decide) wg_1901 wg_1903 wg_70 (Nat.le_refl _) (Nat.le_of_ble_eq_true rfl) (RM0.mono h (fun vv I5 L6 h => ?_))
    obtain ⟨rfl, h⟩ := h
    change Z n0 xX13_workTimes (d + 1) rc rs 22 [(0, .ref (n0 + 59))] [] K I5 L6 (z_q0 K Q)
    refine z_goto 0 dX13_workTimes_22 (by decide) ?_
    exact h
  · rw [if_neg g4] at h
    refine z_aload_n 0 dX13_workTimes_9 rfl ?_
    refine z_callV0 (As := []) (st := []) dX13_workTimes_10 hy_X13_topSign hL.1 hL.2.1 (by decide) wg_1897 wg_1899 wg_69 (Nat.le_refl _) (Nat.le_of_ble_eq_true rfl) (RM0.mono h (fun vv I7 L8 h => ?_))
    obtain ⟨r9, rfl, h⟩ := h
    change Z n0 xX13_workTimes (d + 1) rc rs 13 [(0, .ref (n0 + 59))] [.int r9] K I7 L8 (z_q0 K Q)
    refine z_bipush 47 dX13_workTimes_13 (by decide) ?_
    refine z_icmp_ne 25 dX13_workTimes_15 (by decide) (fun g10 => ?_) (fun g10 => ?_)
    · rw [if_neg g10] at h
      exact z_vret dX13_workTimes_25 rfl ⟨rfl, h⟩
    · rw [if_pos g10] at h
      refine z_aload_n 0 dX13_workTimes_18 rfl ?_
      refine z_callV0 (As := []) (st := []) dX13_workTimes_19 hy_X13_work hL.1 hL.2.1 (by decide) wg_1901 wg_1903 wg_70 (Nat.le_refl _) (Nat.le_of_ble_eq_true rfl) (RM0.mono h (fun vv I11 L12 h => ?_))
      obtain ⟨rfl, h⟩ := h
      change Z n0 xX13_workTimes (d + 1) rc rs 22 [(0, .ref (n0 + 59))] [] K I11 L12 (z_q0 K Q)
      refine z_goto 0 dX13_workTimes_22 (by decide) ?_
      exact h
theorem dX13_workAll_0 : decode cX13_workAll 0 = .ok (.aload_n 0, 1) := by decide +kernel
theorem dX13_workAll_1 : decode cX13_workAll 1 = .ok (.invokevirtual 389, 3) := by decide +kernel
theorem dX13_workAll_4 : decode cX13_workAll 4 = .ok (.aload_n 0, 1) := by decide +kernel
theorem dX13_workAll_5 : decode cX13_workAll 5 = .ok (.invokevirtual 382, 3) := by decide +kernel
theorem dX13_workAll_8 : decode cX13_workAll 8 = .ok (.bipush 43, 2) := by decide +kernel
theorem dX13_workAll_10 : decode cX13_workAll 10 = .ok (.if_icmp .eq 12, 3) := by decide +kernel
theorem dX13_workAll_13 : decode cX13_workAll 13 = .ok (.aload_n 0, 1) := by decide +kernel
theorem dX13_workAll_14 : decode cX13_workAll 14 = .ok (.invokevirtual 382, 3) := by decide +kernel
theorem dX13_workAll_17 : decode cX13_workAll 17 = .ok (.bipush 45, 2) := by decide +kernel
theorem dX13_workAll_19 : decode cX13_workAll 19 = .ok (.if_icmp .ne 10, 3) := by decide +kernel
theorem dX13_workAll_22 : decode cX13_workAll 22 = .ok (.aload_n 0, 1) := by decide +kernel
theorem dX13_workAll_23 : decode cX13_workAll 23 = .ok (.invokevirtual 386, 3) := by decide +kernel
theorem dX13_workAll_26 : decode cX13_workAll 26 = .ok (.goto (-22), 3) := by decide +kernel
theorem dX13_workAll_29 : decode cX13_workAll 29 = .ok (.return_, 1) := by decide +kernel
set_option maxRecDepth 100000 in
set_option maxHeartbeats 4000000 in
theorem wp_X13_workAll {n0 d : Nat} {K : z_K} {I : z_I} {L : z_L} {Q : z_q}  (hL : MLay K) (h : RM0 n0 xX13_workTimes d [.ref (n0 + 59)] K I L (fun vv I1 L2 => vv = none ∧ Z n0 xX13_workAll (d + 1) 0 0 4 [(0, .ref (n0 + 59))] [] K I1 L2 (z_q0 K Q))) : RM0 n0 xX13_workAll (d + 1) [.ref (n0 + 59)] K I L Q := by
  refine z_entry0 (by decide) (Nat.le_of_ble_eq_true rfl) ?_
  change Z n0 xX13_workAll (d + 1) 0 0 0 [(0, .ref (n0 + 59))] [] K I L (z_q0 K Q)
  refine z_aload_n 0 dX13_workAll_0 rfl ?_
  refine z_callV0 (As := []) (st := []) dX13_workAll_1 hy_X13_workTimes hL.1 hL.2.1 (by decide) wg_1893 wg_1895 wg_68 (Nat.le_refl _) (Nat.le_of_ble_eq_true rfl) (RM0.mono h (fun vv I1 L2 h => ?_))
  obtain ⟨rfl, h⟩ := h
  change Z n0 xX13_workAll (d + 1) 0 0 4 [(0, .ref (n0 + 59))] [] K I1 L2 (z_q0 K Q)
  exact h
set_option maxRecDepth 100000 in
set_option maxHeartbeats 4000000 in
theorem wp_X13_workAll_4 {n0 d : Nat} {rc rs : Nat} {K : z_K} {I : z_I} {L : z_L} {Q : z_q}  (hL : MLay K) (h : RM0 n0 xX13_topSign d [.ref (n0 + 59)] K I L (fun vv I1 L2 => ∃ r3 : Int32, vv = some (.int r3) ∧ (if r3 = 43 then RM0 n0 xX13_work d [.ref (n0 + 59)] K I1 L2 (fun vv I5 L6 => vv = none ∧ Z n0 xX13_workAll (d + 1) rc rs 4 [(0, .ref (n0 + 59))] [] K I5 L6 (z_q0 K Q)) else RM0 n0 xX13_topSign d [.ref (n0 + 59)] K I1 L2 (fun vv I7 L8 => ∃ r9 : Int32, vv = some (.int r9) ∧ (if r9 = 45 then RM0 n0 xX13_work d [.ref (n0 + 59)] K I7 L8 (fun vv I11 L12 => vv = none ∧ Z n0 xX13_workAll (d + 1) rc rs 4 [(0, .ref (n0 + 59))] [] K I11 L12 (z_q0 K Q)) else Q none I7 L8))))) : Z n0 xX13_workAll (d + 1) rc rs 4 [(0, .ref (n0 + 59))] [] K I L (z_q0 K Q) := by
  refine z_aload_n 0 dX13_workAll_4 rfl ?_
  refine z_callV0 (As := []) (st := []) dX13_workAll_5 hy_X13_topSign hL.1 hL.2.1 (by decide) wg_1897 wg_1899 wg_69 (Nat.le_refl _) (Nat.le_of_ble_eq_true rfl) (RM0.mono h (fun vv I1 L2 h => ?_))
  obtain ⟨r3, rfl, h⟩ := h
  change Z n0 xX13_workAll (d + 1) rc rs 8 [(0, .ref (n0 + 59))] [.int r3] K I1 L2 (z_q0 K Q)
  refine z_bipush 43 dX13_workAll_8 (by decide) ?_
  refine z_icmp_eq 22 dX13_workAll_10 (by decide) (fun g4 => ?_) (fun g4 => ?_)
  · rw [if_pos g4] at h
    refine z_aload_n 0 dX13_workAll_22 rfl ?_
    refine z_callV0 (As := []) (st := []) dX13_workAll_23 hy_X13_work hL.1 hL.2.1 (by decide) wg_1901 wg_1903 wg_70 (Nat.le_refl _) (Nat.le_of_ble_eq_true rfl) (RM0.mono h (fun vv I5 L6 h => ?_))
    obtain ⟨rfl, h⟩ := h
    change Z n0 xX13_workAll (d + 1) rc rs 26 [(0, .ref (n0 + 59))] [] K I5 L6 (z_q0 K Q)
    refine z_goto 4 dX13_workAll_26 (by decide) ?_
    exact h
  · rw [if_neg g4] at h
    refine z_aload_n 0 dX13_workAll_13 rfl ?_
    refine z_callV0 (As := []) (st := []) dX13_workAll_14 hy_X13_topSign hL.1 hL.2.1 (by decide) wg_1897 wg_1899 wg_69 (Nat.le_refl _) (Nat.le_of_ble_eq_true rfl) (RM0.mono h (fun vv I7 L8 h => ?_))
    obtain ⟨r9, rfl, h⟩ := h
    change Z n0 xX13_workAll (d + 1) rc rs 17 [(0, .ref (n0 + 59))] [.int r9] K I7 L8 (z_q0 K Q)
    refine z_bipush 45 dX13_workAll_17 (by decide) ?_
    refine z_icmp_ne 29 dX13_workAll_19 (by decide) (fun g10 => ?_) (fun g10 => ?_)
    · rw [if_neg g10] at h
      exact z_vret dX13_workAll_29 rfl ⟨rfl, h⟩
    · rw [if_pos g10] at h
      refine z_aload_n 0 dX13_workAll_22 rfl ?_
      refine z_callV0 (As := []) (st := []) dX13_workAll_23 hy_X13_work hL.1 hL.2.1 (by decide) wg_1901 wg_1903 wg_70 (Nat.le_refl _) (Nat.le_of_ble_eq_true rfl) (RM0.mono h (fun vv I11 L12 h => ?_))
      obtain ⟨rfl, h⟩ := h
      change Z n0 xX13_workAll (d + 1) rc rs 26 [(0, .ref (n0 + 59))] [] K I11 L12 (z_q0 K Q)
      refine z_goto 4 dX13_workAll_26 (by decide) ?_
      exact h
theorem dX13_opens_0 : decode cX13_opens 0 = .ok (.aload_n 0, 1) := by decide +kernel
theorem dX13_opens_1 : decode cX13_opens 1 = .ok (.getfield 392, 3) := by decide +kernel
theorem dX13_opens_4 : decode cX13_opens 4 = .ok (.iconst 5, 1) := by decide +kernel
theorem dX13_opens_5 : decode cX13_opens 5 = .ok (.if_icmp .ne 9, 3) := by decide +kernel
theorem dX13_opens_8 : decode cX13_opens 8 = .ok (.aload_n 0, 1) := by decide +kernel
theorem dX13_opens_9 : decode cX13_opens 9 = .ok (.iconst 1, 1) := by decide +kernel
theorem dX13_opens_10 : decode cX13_opens 10 = .ok (.putfield 395, 3) := by decide +kernel
theorem dX13_opens_13 : decode cX13_opens 13 = .ok (.return_, 1) := by decide +kernel
theorem dX13_opens_14 : decode cX13_opens 14 = .ok (.aload_n 0, 1) := by decide +kernel
theorem dX13_opens_15 : decode cX13_opens 15 = .ok (.dup, 1) := by decide +kernel
theorem dX13_opens_16 : decode cX13_opens 16 = .ok (.getfield 392, 3) := by decide +kernel
theorem dX13_opens_19 : decode cX13_opens 19 = .ok (.iconst 1, 1) := by decide +kernel
theorem dX13_opens_20 : decode cX13_opens 20 = .ok (.iadd, 1) := by decide +kernel
theorem dX13_opens_21 : decode cX13_opens 21 = .ok (.putfield 392, 3) := by decide +kernel
theorem dX13_opens_24 : decode cX13_opens 24 = .ok (.aload_n 0, 1) := by decide +kernel
theorem dX13_opens_25 : decode cX13_opens 25 = .ok (.getfield 90, 3) := by decide +kernel
theorem dX13_opens_28 : decode cX13_opens 28 = .ok (.aload_n 0, 1) := by decide +kernel
theorem dX13_opens_29 : decode cX13_opens 29 = .ok (.getfield 361, 3) := by decide +kernel
theorem dX13_opens_32 : decode cX13_opens 32 = .ok (.iload_n 1, 1) := by decide +kernel
theorem dX13_opens_33 : decode cX13_opens 33 = .ok (.iastore, 1) := by decide +kernel
theorem dX13_opens_34 : decode cX13_opens 34 = .ok (.aload_n 0, 1) := by decide +kernel
theorem dX13_opens_35 : decode cX13_opens 35 = .ok (.dup, 1) := by decide +kernel
theorem dX13_opens_36 : decode cX13_opens 36 = .ok (.getfield 361, 3) := by decide +kernel
theorem dX13_opens_39 : decode cX13_opens 39 = .ok (.iconst 1, 1) := by decide +kernel
theorem dX13_opens_40 : decode cX13_opens 40 = .ok (.iadd, 1) := by decide +kernel
theorem dX13_opens_41 : decode cX13_opens 41 = .ok (.putfield 361, 3) := by decide +kernel
theorem dX13_opens_44 : decode cX13_opens 44 = .ok (.aload_n 0, 1) := by decide +kernel
theorem dX13_opens_45 : decode cX13_opens 45 = .ok (.dup, 1) := by decide +kernel
theorem dX13_opens_46 : decode cX13_opens 46 = .ok (.getfield 348, 3) := by decide +kernel
theorem dX13_opens_49 : decode cX13_opens 49 = .ok (.iconst 1, 1) := by decide +kernel
theorem dX13_opens_50 : decode cX13_opens 50 = .ok (.iadd, 1) := by decide +kernel
theorem dX13_opens_51 : decode cX13_opens 51 = .ok (.putfield 348, 3) := by decide +kernel
theorem dX13_opens_54 : decode cX13_opens 54 = .ok (.return_, 1) := by decide +kernel
set_option maxRecDepth 100000 in
set_option maxHeartbeats 4000000 in
theorem wp_X13_opens {n0 d : Nat} {K : z_K} {I : z_I} {L : z_L} {Q : z_q} {p0 : Int32} (hL : MLay K) (h : (if ((I 59 44) : Int32) = 5 then Q none (zI I 59 33 1) L else vp_in (I 59 43) 70 ∧ Q none (zI (zI (zI (zI I 59 44 ((I 59 44) + 1)) 86 ((I 59 43).toNatClampNeg) p0) 59 43 ((I 59 43) + 1)) 59 31 ((I 59 31) + 1)) L)) : RM0 n0 xX13_opens d [.ref (n0 + 59), .int p0] K I L Q := by
  refine z_entry0 (by decide) (Nat.le_of_ble_eq_true rfl) ?_
  change Z n0 xX13_opens d 0 0 0 [(0, .ref (n0 + 59)), (1, .int p0)] [] K I L (z_q0 K Q)
  refine z_aload_n 0 dX13_opens_0 rfl ?_
  refine fg_13_392 (I 59 44) rfl dX13_opens_1 hL.1 hL.2.1 rfl ?_
  refine z_iconst 5 dX13_opens_4 (by decide) ?_
  refine z_icmp_ne 14 dX13_opens_5 (by decide) (fun g1 => ?_) (fun g1 => ?_)
  · rw [if_neg g1] at h
    refine z_aload_n 0 dX13_opens_14 rfl ?_
    refine z_dup dX13_opens_15 rfl ?_
    refine fg_13_392 (I 59 44) rfl dX13_opens_16 hL.1 hL.2.1 rfl ?_
    refine z_iconst 1 dX13_opens_19 (by decide) ?_
    refine z_iadd dX13_opens_20 ?_
    refine fp_13_392 rfl dX13_opens_21 hL.1 hL.2.1 ?_
    refine z_aload_n 0 dX13_opens_24 rfl ?_
    refine fg_13_90 (some 86) rfl dX13_opens_25 hL.1 hL.2.1 (ma_42 hL).1 ?_
    refine z_aload_n 0 dX13_opens_28 rfl ?_
    refine fg_13_361 (I 59 43) rfl dX13_opens_29 hL.1 hL.2.1 rfl ?_
    refine z_iload_n 1 dX13_opens_32 rfl ?_
    obtain ⟨o2, h⟩ := h
    refine z_iast dX13_opens_33 (ma_42 hL).2.1 (ma_42 hL).2.2 o2 ?_
    refine z_aload_n 0 dX13_opens_34 rfl ?_
    refine z_dup dX13_opens_35 rfl ?_
    refine fg_13_361 (I 59 43) rfl dX13_opens_36 hL.1 hL.2.1 rfl ?_
    refine z_iconst 1 dX13_opens_39 (by decide) ?_
    refine z_iadd dX13_opens_40 ?_
    refine fp_13_361 rfl dX13_opens_41 hL.1 hL.2.1 ?_
    refine z_aload_n 0 dX13_opens_44 rfl ?_
    refine z_dup dX13_opens_45 rfl ?_
    refine fg_13_348 (I 59 31) rfl dX13_opens_46 hL.1 hL.2.1 rfl ?_
    refine z_iconst 1 dX13_opens_49 (by decide) ?_
    refine z_iadd dX13_opens_50 ?_
    refine fp_13_348 rfl dX13_opens_51 hL.1 hL.2.1 ?_
    exact z_vret dX13_opens_54 rfl ⟨rfl, h⟩
  · rw [if_pos g1] at h
    refine z_aload_n 0 dX13_opens_8 rfl ?_
    refine z_iconst 1 dX13_opens_9 (by decide) ?_
    refine fp_13_395 rfl dX13_opens_10 hL.1 hL.2.1 (Or.inr rfl) ?_
    exact z_vret dX13_opens_13 rfl ⟨rfl, h⟩
theorem dX13_readUnit_0 : decode cX13_readUnit 0 = .ok (.aload_n 0, 1) := by decide +kernel
theorem dX13_readUnit_1 : decode cX13_readUnit 1 = .ok (.invokevirtual 398, 3) := by decide +kernel
theorem dX13_readUnit_4 : decode cX13_readUnit 4 = .ok (.istore_n 1, 1) := by decide +kernel
theorem dX13_readUnit_5 : decode cX13_readUnit 5 = .ok (.iload_n 1, 1) := by decide +kernel
theorem dX13_readUnit_6 : decode cX13_readUnit 6 = .ok (.bipush 40, 2) := by decide +kernel
theorem dX13_readUnit_8 : decode cX13_readUnit 8 = .ok (.if_icmp .ne 11, 3) := by decide +kernel
theorem dX13_readUnit_11 : decode cX13_readUnit 11 = .ok (.aload_n 0, 1) := by decide +kernel
theorem dX13_readUnit_12 : decode cX13_readUnit 12 = .ok (.bipush 40, 2) := by decide +kernel
theorem dX13_readUnit_14 : decode cX13_readUnit 14 = .ok (.invokevirtual 401, 3) := by decide +kernel
theorem dX13_readUnit_17 : decode cX13_readUnit 17 = .ok (.iconst 1, 1) := by decide +kernel
theorem dX13_readUnit_18 : decode cX13_readUnit 18 = .ok (.ireturn, 1) := by decide +kernel
theorem dX13_readUnit_19 : decode cX13_readUnit 19 = .ok (.iload_n 1, 1) := by decide +kernel
theorem dX13_readUnit_20 : decode cX13_readUnit 20 = .ok (.bipush 114, 2) := by decide +kernel
theorem dX13_readUnit_22 : decode cX13_readUnit 22 = .ok (.if_icmp .ne 38, 3) := by decide +kernel
theorem dX13_readUnit_25 : decode cX13_readUnit 25 = .ok (.aload_n 0, 1) := by decide +kernel
theorem dX13_readUnit_26 : decode cX13_readUnit 26 = .ok (.dup, 1) := by decide +kernel
theorem dX13_readUnit_27 : decode cX13_readUnit 27 = .ok (.getfield 348, 3) := by decide +kernel
theorem dX13_readUnit_30 : decode cX13_readUnit 30 = .ok (.iconst 1, 1) := by decide +kernel
theorem dX13_readUnit_31 : decode cX13_readUnit 31 = .ok (.iadd, 1) := by decide +kernel
theorem dX13_readUnit_32 : decode cX13_readUnit 32 = .ok (.putfield 348, 3) := by decide +kernel
theorem dX13_readUnit_35 : decode cX13_readUnit 35 = .ok (.aload_n 0, 1) := by decide +kernel
theorem dX13_readUnit_36 : decode cX13_readUnit 36 = .ok (.invokevirtual 398, 3) := by decide +kernel
theorem dX13_readUnit_39 : decode cX13_readUnit 39 = .ok (.bipush 40, 2) := by decide +kernel
theorem dX13_readUnit_41 : decode cX13_readUnit 41 = .ok (.if_icmp .ne 12, 3) := by decide +kernel
theorem dX13_readUnit_44 : decode cX13_readUnit 44 = .ok (.aload_n 0, 1) := by decide +kernel
theorem dX13_readUnit_45 : decode cX13_readUnit 45 = .ok (.bipush 114, 2) := by decide +kernel
theorem dX13_readUnit_47 : decode cX13_readUnit 47 = .ok (.invokevirtual 401, 3) := by decide +kernel
theorem dX13_readUnit_50 : decode cX13_readUnit 50 = .ok (.goto 8, 3) := by decide +kernel
theorem dX13_readUnit_53 : decode cX13_readUnit 53 = .ok (.aload_n 0, 1) := by decide +kernel
theorem dX13_readUnit_54 : decode cX13_readUnit 54 = .ok (.iconst 1, 1) := by decide +kernel
theorem dX13_readUnit_55 : decode cX13_readUnit 55 = .ok (.putfield 395, 3) := by decide +kernel
theorem dX13_readUnit_58 : decode cX13_readUnit 58 = .ok (.iconst 1, 1) := by decide +kernel
theorem dX13_readUnit_59 : decode cX13_readUnit 59 = .ok (.ireturn, 1) := by decide +kernel
theorem dX13_readUnit_60 : decode cX13_readUnit 60 = .ok (.iload_n 1, 1) := by decide +kernel
theorem dX13_readUnit_61 : decode cX13_readUnit 61 = .ok (.bipush 97, 2) := by decide +kernel
theorem dX13_readUnit_63 : decode cX13_readUnit 63 = .ok (.if_icmp .lt 50, 3) := by decide +kernel
theorem dX13_readUnit_66 : decode cX13_readUnit 66 = .ok (.iload_n 1, 1) := by decide +kernel
theorem dX13_readUnit_67 : decode cX13_readUnit 67 = .ok (.bipush 104, 2) := by decide +kernel
theorem dX13_readUnit_69 : decode cX13_readUnit 69 = .ok (.if_icmp .gt 44, 3) := by decide +kernel
theorem dX13_readUnit_72 : decode cX13_readUnit 72 = .ok (.aload_n 0, 1) := by decide +kernel
theorem dX13_readUnit_73 : decode cX13_readUnit 73 = .ok (.dup, 1) := by decide +kernel
theorem dX13_readUnit_74 : decode cX13_readUnit 74 = .ok (.getfield 405, 3) := by decide +kernel
theorem dX13_readUnit_77 : decode cX13_readUnit 77 = .ok (.iconst 1, 1) := by decide +kernel
theorem dX13_readUnit_78 : decode cX13_readUnit 78 = .ok (.iload_n 1, 1) := by decide +kernel
theorem dX13_readUnit_79 : decode cX13_readUnit 79 = .ok (.bipush 97, 2) := by decide +kernel
theorem dX13_readUnit_81 : decode cX13_readUnit 81 = .ok (.isub, 1) := by decide +kernel
theorem dX13_readUnit_82 : decode cX13_readUnit 82 = .ok (.ishl, 1) := by decide +kernel
theorem dX13_readUnit_83 : decode cX13_readUnit 83 = .ok (.ior, 1) := by decide +kernel
theorem dX13_readUnit_84 : decode cX13_readUnit 84 = .ok (.putfield 405, 3) := by decide +kernel
theorem dX13_readUnit_87 : decode cX13_readUnit 87 = .ok (.aload_n 0, 1) := by decide +kernel
theorem dX13_readUnit_88 : decode cX13_readUnit 88 = .ok (.aload_n 0, 1) := by decide +kernel
theorem dX13_readUnit_89 : decode cX13_readUnit 89 = .ok (.getfield 83, 3) := by decide +kernel
theorem dX13_readUnit_92 : decode cX13_readUnit 92 = .ok (.iload_n 1, 1) := by decide +kernel
theorem dX13_readUnit_93 : decode cX13_readUnit 93 = .ok (.bipush 97, 2) := by decide +kernel
theorem dX13_readUnit_95 : decode cX13_readUnit 95 = .ok (.isub, 1) := by decide +kernel
theorem dX13_readUnit_96 : decode cX13_readUnit 96 = .ok (.iaload, 1) := by decide +kernel
theorem dX13_readUnit_97 : decode cX13_readUnit 97 = .ok (.i2l, 1) := by decide +kernel
theorem dX13_readUnit_98 : decode cX13_readUnit 98 = .ok (.invokevirtual 378, 3) := by decide +kernel
theorem dX13_readUnit_101 : decode cX13_readUnit 101 = .ok (.aload_n 0, 1) := by decide +kernel
theorem dX13_readUnit_102 : decode cX13_readUnit 102 = .ok (.dup, 1) := by decide +kernel
theorem dX13_readUnit_103 : decode cX13_readUnit 103 = .ok (.getfield 348, 3) := by decide +kernel
theorem dX13_readUnit_106 : decode cX13_readUnit 106 = .ok (.iconst 1, 1) := by decide +kernel
theorem dX13_readUnit_107 : decode cX13_readUnit 107 = .ok (.iadd, 1) := by decide +kernel
theorem dX13_readUnit_108 : decode cX13_readUnit 108 = .ok (.putfield 348, 3) := by decide +kernel
theorem dX13_readUnit_111 : decode cX13_readUnit 111 = .ok (.iconst 0, 1) := by decide +kernel
theorem dX13_readUnit_112 : decode cX13_readUnit 112 = .ok (.ireturn, 1) := by decide +kernel
theorem dX13_readUnit_113 : decode cX13_readUnit 113 = .ok (.iload_n 1, 1) := by decide +kernel
theorem dX13_readUnit_114 : decode cX13_readUnit 114 = .ok (.bipush 120, 2) := by decide +kernel
theorem dX13_readUnit_116 : decode cX13_readUnit 116 = .ok (.if_icmp .eq 9, 3) := by decide +kernel
theorem dX13_readUnit_119 : decode cX13_readUnit 119 = .ok (.iload_n 1, 1) := by decide +kernel
theorem dX13_readUnit_120 : decode cX13_readUnit 120 = .ok (.bipush 121, 2) := by decide +kernel
theorem dX13_readUnit_122 : decode cX13_readUnit 122 = .ok (.if_icmp .ne 111, 3) := by decide +kernel
theorem dX13_readUnit_125 : decode cX13_readUnit 125 = .ok (.aload_n 0, 1) := by decide +kernel
theorem dX13_readUnit_126 : decode cX13_readUnit 126 = .ok (.dup, 1) := by decide +kernel
theorem dX13_readUnit_127 : decode cX13_readUnit 127 = .ok (.getfield 348, 3) := by decide +kernel
theorem dX13_readUnit_130 : decode cX13_readUnit 130 = .ok (.iconst 1, 1) := by decide +kernel
theorem dX13_readUnit_131 : decode cX13_readUnit 131 = .ok (.iadd, 1) := by decide +kernel
theorem dX13_readUnit_132 : decode cX13_readUnit 132 = .ok (.putfield 348, 3) := by decide +kernel
theorem dX13_readUnit_135 : decode cX13_readUnit 135 = .ok (.aload_n 0, 1) := by decide +kernel
theorem dX13_readUnit_136 : decode cX13_readUnit 136 = .ok (.invokevirtual 398, 3) := by decide +kernel
theorem dX13_readUnit_139 : decode cX13_readUnit 139 = .ok (.invokestatic 408, 3) := by decide +kernel
theorem dX13_readUnit_142 : decode cX13_readUnit 142 = .ok (.ifCond .eq 13, 3) := by decide +kernel
theorem dX13_readUnit_145 : decode cX13_readUnit 145 = .ok (.aload_n 0, 1) := by decide +kernel
theorem dX13_readUnit_146 : decode cX13_readUnit 146 = .ok (.invokevirtual 398, 3) := by decide +kernel
theorem dX13_readUnit_149 : decode cX13_readUnit 149 = .ok (.bipush 48, 2) := by decide +kernel
theorem dX13_readUnit_151 : decode cX13_readUnit 151 = .ok (.isub, 1) := by decide +kernel
theorem dX13_readUnit_152 : decode cX13_readUnit 152 = .ok (.goto 5, 3) := by decide +kernel
theorem dX13_readUnit_155 : decode cX13_readUnit 155 = .ok (.bipush 99, 2) := by decide +kernel
theorem dX13_readUnit_157 : decode cX13_readUnit 157 = .ok (.istore_n 2, 1) := by decide +kernel
theorem dX13_readUnit_158 : decode cX13_readUnit 158 = .ok (.aload_n 0, 1) := by decide +kernel
theorem dX13_readUnit_159 : decode cX13_readUnit 159 = .ok (.iload_n 2, 1) := by decide +kernel
theorem dX13_readUnit_160 : decode cX13_readUnit 160 = .ok (.aload_n 0, 1) := by decide +kernel
theorem dX13_readUnit_161 : decode cX13_readUnit 161 = .ok (.getfield 411, 3) := by decide +kernel
theorem dX13_readUnit_164 : decode cX13_readUnit 164 = .ok (.if_icmp .lt 7, 3) := by decide +kernel
theorem dX13_readUnit_167 : decode cX13_readUnit 167 = .ok (.iconst 1, 1) := by decide +kernel
theorem dX13_readUnit_168 : decode cX13_readUnit 168 = .ok (.goto 4, 3) := by decide +kernel
theorem dX13_readUnit_171 : decode cX13_readUnit 171 = .ok (.iconst 0, 1) := by decide +kernel
theorem dX13_readUnit_172 : decode cX13_readUnit 172 = .ok (.putfield 395, 3) := by decide +kernel
theorem dX13_readUnit_175 : decode cX13_readUnit 175 = .ok (.aload_n 0, 1) := by decide +kernel
theorem dX13_readUnit_176 : decode cX13_readUnit 176 = .ok (.getfield 395, 3) := by decide +kernel
theorem dX13_readUnit_179 : decode cX13_readUnit 179 = .ok (.ifCond .ne 52, 3) := by decide +kernel
theorem dX13_readUnit_182 : decode cX13_readUnit 182 = .ok (.aload_n 0, 1) := by decide +kernel
theorem dX13_readUnit_183 : decode cX13_readUnit 183 = .ok (.dup, 1) := by decide +kernel
theorem dX13_readUnit_184 : decode cX13_readUnit 184 = .ok (.getfield 414, 3) := by decide +kernel
theorem dX13_readUnit_187 : decode cX13_readUnit 187 = .ok (.iconst 1, 1) := by decide +kernel
theorem dX13_readUnit_188 : decode cX13_readUnit 188 = .ok (.iload_n 2, 1) := by decide +kernel
theorem dX13_readUnit_189 : decode cX13_readUnit 189 = .ok (.ishl, 1) := by decide +kernel
theorem dX13_readUnit_190 : decode cX13_readUnit 190 = .ok (.ior, 1) := by decide +kernel
theorem dX13_readUnit_191 : decode cX13_readUnit 191 = .ok (.putfield 414, 3) := by decide +kernel
theorem dX13_readUnit_194 : decode cX13_readUnit 194 = .ok (.aload_n 0, 1) := by decide +kernel
theorem dX13_readUnit_195 : decode cX13_readUnit 195 = .ok (.iload_n 1, 1) := by decide +kernel
theorem dX13_readUnit_196 : decode cX13_readUnit 196 = .ok (.bipush 120, 2) := by decide +kernel
theorem dX13_readUnit_198 : decode cX13_readUnit 198 = .ok (.if_icmp .ne 13, 3) := by decide +kernel
theorem dX13_readUnit_201 : decode cX13_readUnit 201 = .ok (.aload_n 0, 1) := by decide +kernel
theorem dX13_readUnit_202 : decode cX13_readUnit 202 = .ok (.getfield 77, 3) := by decide +kernel
theorem dX13_readUnit_205 : decode cX13_readUnit 205 = .ok (.iload_n 2, 1) := by decide +kernel
theorem dX13_readUnit_206 : decode cX13_readUnit 206 = .ok (.iaload, 1) := by decide +kernel
theorem dX13_readUnit_207 : decode cX13_readUnit 207 = .ok (.i2l, 1) := by decide +kernel
theorem dX13_readUnit_208 : decode cX13_readUnit 208 = .ok (.goto 10, 3) := by decide +kernel
theorem dX13_readUnit_211 : decode cX13_readUnit 211 = .ok (.aload_n 0, 1) := by decide +kernel
theorem dX13_readUnit_212 : decode cX13_readUnit 212 = .ok (.getfield 80, 3) := by decide +kernel
theorem dX13_readUnit_215 : decode cX13_readUnit 215 = .ok (.iload_n 2, 1) := by decide +kernel
theorem dX13_readUnit_216 : decode cX13_readUnit 216 = .ok (.iaload, 1) := by decide +kernel
theorem dX13_readUnit_217 : decode cX13_readUnit 217 = .ok (.i2l, 1) := by decide +kernel
theorem dX13_readUnit_218 : decode cX13_readUnit 218 = .ok (.invokevirtual 378, 3) := by decide +kernel
theorem dX13_readUnit_221 : decode cX13_readUnit 221 = .ok (.aload_n 0, 1) := by decide +kernel
theorem dX13_readUnit_222 : decode cX13_readUnit 222 = .ok (.dup, 1) := by decide +kernel
theorem dX13_readUnit_223 : decode cX13_readUnit 223 = .ok (.getfield 348, 3) := by decide +kernel
theorem dX13_readUnit_226 : decode cX13_readUnit 226 = .ok (.iconst 1, 1) := by decide +kernel
theorem dX13_readUnit_227 : decode cX13_readUnit 227 = .ok (.iadd, 1) := by decide +kernel
theorem dX13_readUnit_228 : decode cX13_readUnit 228 = .ok (.putfield 348, 3) := by decide +kernel
theorem dX13_readUnit_231 : decode cX13_readUnit 231 = .ok (.iconst 0, 1) := by decide +kernel
theorem dX13_readUnit_232 : decode cX13_readUnit 232 = .ok (.ireturn, 1) := by decide +kernel
theorem dX13_readUnit_233 : decode cX13_readUnit 233 = .ok (.aload_n 0, 1) := by decide +kernel
theorem dX13_readUnit_234 : decode cX13_readUnit 234 = .ok (.iload_n 1, 1) := by decide +kernel
theorem dX13_readUnit_235 : decode cX13_readUnit 235 = .ok (.invokestatic 408, 3) := by decide +kernel
theorem dX13_readUnit_238 : decode cX13_readUnit 238 = .ok (.ifCond .ne 7, 3) := by decide +kernel
theorem dX13_readUnit_241 : decode cX13_readUnit 241 = .ok (.iconst 1, 1) := by decide +kernel
theorem dX13_readUnit_242 : decode cX13_readUnit 242 = .ok (.goto 4, 3) := by decide +kernel
theorem dX13_readUnit_245 : decode cX13_readUnit 245 = .ok (.iconst 0, 1) := by decide +kernel
theorem dX13_readUnit_246 : decode cX13_readUnit 246 = .ok (.putfield 395, 3) := by decide +kernel
theorem dX13_readUnit_249 : decode cX13_readUnit 249 = .ok (.lconst 0, 1) := by decide +kernel
theorem dX13_readUnit_250 : decode cX13_readUnit 250 = .ok (.lstore_n 2, 1) := by decide +kernel
theorem dX13_readUnit_251 : decode cX13_readUnit 251 = .ok (.iconst 0, 1) := by decide +kernel
theorem dX13_readUnit_252 : decode cX13_readUnit 252 = .ok (.istore 4, 2) := by decide +kernel
theorem dX13_readUnit_254 : decode cX13_readUnit 254 = .ok (.iload 4, 2) := by decide +kernel
theorem dX13_readUnit_256 : decode cX13_readUnit 256 = .ok (.iconst 4, 1) := by decide +kernel
theorem dX13_readUnit_257 : decode cX13_readUnit 257 = .ok (.if_icmp .ge 45, 3) := by decide +kernel
theorem dX13_readUnit_260 : decode cX13_readUnit 260 = .ok (.aload_n 0, 1) := by decide +kernel
theorem dX13_readUnit_261 : decode cX13_readUnit 261 = .ok (.invokevirtual 398, 3) := by decide +kernel
theorem dX13_readUnit_264 : decode cX13_readUnit 264 = .ok (.invokestatic 408, 3) := by decide +kernel
theorem dX13_readUnit_267 : decode cX13_readUnit 267 = .ok (.ifCond .eq 35, 3) := by decide +kernel
theorem dX13_readUnit_270 : decode cX13_readUnit 270 = .ok (.ldc2_w 295, 3) := by decide +kernel
theorem dX13_readUnit_273 : decode cX13_readUnit 273 = .ok (.lload_n 2, 1) := by decide +kernel
theorem dX13_readUnit_274 : decode cX13_readUnit 274 = .ok (.lmul, 1) := by decide +kernel
theorem dX13_readUnit_275 : decode cX13_readUnit 275 = .ok (.aload_n 0, 1) := by decide +kernel
theorem dX13_readUnit_276 : decode cX13_readUnit 276 = .ok (.invokevirtual 398, 3) := by decide +kernel
theorem dX13_readUnit_279 : decode cX13_readUnit 279 = .ok (.i2l, 1) := by decide +kernel
theorem dX13_readUnit_280 : decode cX13_readUnit 280 = .ok (.ladd, 1) := by decide +kernel
theorem dX13_readUnit_281 : decode cX13_readUnit 281 = .ok (.ldc2_w 417, 3) := by decide +kernel
theorem dX13_readUnit_284 : decode cX13_readUnit 284 = .ok (.lsub, 1) := by decide +kernel
theorem dX13_readUnit_285 : decode cX13_readUnit 285 = .ok (.lstore_n 2, 1) := by decide +kernel
theorem dX13_readUnit_286 : decode cX13_readUnit 286 = .ok (.aload_n 0, 1) := by decide +kernel
theorem dX13_readUnit_287 : decode cX13_readUnit 287 = .ok (.dup, 1) := by decide +kernel
theorem dX13_readUnit_288 : decode cX13_readUnit 288 = .ok (.getfield 348, 3) := by decide +kernel
theorem dX13_readUnit_291 : decode cX13_readUnit 291 = .ok (.iconst 1, 1) := by decide +kernel
theorem dX13_readUnit_292 : decode cX13_readUnit 292 = .ok (.iadd, 1) := by decide +kernel
theorem dX13_readUnit_293 : decode cX13_readUnit 293 = .ok (.putfield 348, 3) := by decide +kernel
theorem dX13_readUnit_296 : decode cX13_readUnit 296 = .ok (.iinc 4 1, 3) := by decide +kernel
theorem dX13_readUnit_299 : decode cX13_readUnit 299 = .ok (.goto (-45), 3) := by decide +kernel
theorem dX13_readUnit_302 : decode cX13_readUnit 302 = .ok (.aload_n 0, 1) := by decide +kernel
theorem dX13_readUnit_303 : decode cX13_readUnit 303 = .ok (.lload_n 2, 1) := by decide +kernel
theorem dX13_readUnit_304 : decode cX13_readUnit 304 = .ok (.invokevirtual 378, 3) := by decide +kernel
theorem dX13_readUnit_307 : decode cX13_readUnit 307 = .ok (.iconst 0, 1) := by decide +kernel
theorem dX13_readUnit_308 : decode cX13_readUnit 308 = .ok (.ireturn, 1) := by decide +kernel
set_option maxRecDepth 100000 in
set_option maxHeartbeats 4000000 in
theorem wp_X13_readUnit {n0 d : Nat} {K : z_K} {I : z_I} {L : z_L} {Q : z_q}  (hL : MLay K) (h : RM0 n0 xX13_here d [.ref (n0 + 59)] K I L (fun vv I1 L2 => ∃ r3 : Int32, vv = some (.int r3) ∧ (if r3 = 40 then RM0 n0 xX13_opens d [.ref (n0 + 59), .int 40] K I1 L2 (fun vv I143 L144 => vv = none ∧ Q (some (.int 1)) I143 L144) else (if r3 = 114 then RM0 n0 xX13_here d [.ref (n0 + 59)] K (zI I1 59 31 ((I1 59 31) + 1)) L2 (fun vv I137 L138 => ∃ r139 : Int32, vv = some (.int r139) ∧ (if r139 = 40 then RM0 n0 xX13_opens d [.ref (n0 + 59), .int 114] K I137 L138 (fun vv I141 L142 => vv = none ∧ Q (some (.int 1)) I141 L142) else Q (some (.int 1)) (zI I137 59 33 1) L138)) else (if r3 < 97 then (if r3 = 120 then RM0 n0 xX13_here d [.ref (n0 + 59)] K (zI I1 59 31 ((I1 59 31) + 1)) L2 (fun vv I8 L9 => ∃ r10 : Int32, vv = some (.int r10) ∧ RM0 n0 xX13_isDigit d [.int r10] K I8 L9 (fun vv I11 L12 => ∃ r13 : Int32, vv = some (.int r13) ∧ (if r13 = 0 then (if (((if (99 : Int32) < (I11 59 32) then 0 else 1)) : Int32) = 0 then (¬ (r3 = 120) → vp_in 99 10) ∧ (r3 = 120 → vp_in 99 10) ∧ RM0 n0 xX13_push d [.ref (n0 + 59), .long (if r3 = 120 then ((I11 82 99) : Int32).toInt64 else ((I11 83 99) : Int32).toInt64)] K (zI (zI I11 59 33 (if (99 : Int32) < (I11 59 32) then 0 else 1)) 59 39 ((I11 59 39) ||| ((1 : Int32) <<< (99 &&& 31 : Int32)))) L12 (fun vv I22 L23 => vv = none ∧ Q (some (.int 0)) (zI I22 59 31 ((I22 59 31) + 1)) L23) else Q (some (.int 0)) (zI I11 59 33 (if (99 : Int32) < (I11 59 32) then 0 else 1)) L12) else RM0 n0 xX13_here d [.ref (n0 + 59)] K I11 L12 (fun vv I24 L25 => ∃ r26 : Int32, vv = some (.int r26) ∧ (if (((if ((r26 - 48) : Int32) < (I24 59 32) then 0 else 1)) : Int32) = 0 then (¬ (r3 = 120) → vp_in (r26 - 48) 10) ∧ (r3 = 120 → vp_in (r26 - 48) 10) ∧ RM0 n0 xX13_push d [.ref (n0 + 59), .long (if r3 = 120 then ((I24 82 ((r26 - 48).toNatClampNeg)) : Int32).toInt64 else ((I24 83 ((r26 - 48).toNatClampNeg)) : Int32).toInt64)] K (zI (zI I24 59 33 (if ((r26 - 48) : Int32) < (I24 59 32) then 0 else 1)) 59 39 ((I24 59 39) ||| ((1 : Int32) <<< ((r26 - 48) &&& 31 : Int32)))) L25 (fun vv I34 L35 => vv = none ∧ Q (some (.int 0)) (zI I34 59 31 ((I34 59 31) + 1)) L35) else Q (some (.int 0)) (zI I24 59 33 (if ((r26 - 48) : Int32) < (I24 59 32) then 0 else 1)) L25))))) else (if r3 = 121 then RM0 n0 xX13_here d [.ref (n0 + 59)] K (zI I1 59 31 ((I1 59 31) + 1)) L2 (fun vv I42 L43 => ∃ r44 : Int32, vv = some (.int r44) ∧ RM0 n0 xX13_isDigit d [.int r44] K I42 L43 (fun vv I45 L46 => ∃ r47 : Int32, vv = some (.int r47) ∧ (if r47 = 0 then (if (((if (99 : Int32) < (I45 59 32) then 0 else 1)) : Int32) = 0 then (¬ (r3 = 120) → vp_in 99 10) ∧ (r3 = 120 → vp_in 99 10) ∧ RM0 n0 xX13_push d [.ref (n0 + 59), .long (if r3 = 120 then ((I45 82 99) : Int32).toInt64 else ((I45 83 99) : Int32).toInt64)] K (zI (zI I45 59 33 (if (99 : Int32) < (I45 59 32) then 0 else 1)) 59 39 ((I45 59 39) ||| ((1 : Int32) <<< (99 &&& 31 : Int32)))) L46 (fun vv I56 L57 => vv = none ∧ Q (some (.int 0)) (zI I56 59 31 ((I56 59 31) + 1)) L57) else Q (some (.int 0)) (zI I45 59 33 (if (99 : Int32) < (I45 59 32) then 0 else 1)) L46) else RM0 n0 xX13_here d [.ref (n0 + 59)] K I45 L46 (fun vv I58 L59 => ∃ r60 : Int32, vv = some (.int r60) ∧ (if (((if ((r60 - 48) : Int32) < (I58 59 32) then 0 else 1)) : Int32) = 0 then (¬ (r3 = 120) → vp_in (r60 - 48) 10) ∧ (r3 = 120 → vp_in (r60 - 48) 10) ∧ RM0 n0 xX13_push d [.ref (n0 + 59), .long (if r3 = 120 then ((I58 82 ((r60 - 48).toNatClampNeg)) : Int32).toInt64 else ((I58 83 ((r60 - 48).toNatClampNeg)) : Int32).toInt64)] K (zI (zI I58 59 33 (if ((r60 - 48) : Int32) < (I58 59 32) then 0 else 1)) 59 39 ((I58 59 39) ||| ((1 : Int32) <<< ((r60 - 48) &&& 31 : Int32)))) L59 (fun vv I68 L69 => vv = none ∧ Q (some (.int 0)) (zI I68 59 31 ((I68 59 31) + 1)) L69) else Q (some (.int 0)) (zI I58 59 33 (if ((r60 - 48) : Int32) < (I58 59 32) then 0 else 1)) L59))))) else RM0 n0 xX13_isDigit d [.int r3] K I1 L2 (fun vv I37 L38 => ∃ r39 : Int32, vv = some (.int r39) ∧ Z n0 xX13_readUnit (d + 1) 0 0 254 [(0, .ref (n0 + 59)), (2, .long 0), (4, .int 0)] [] K (zI I37 59 33 (if r39 = 0 then 1 else 0)) L38 (z_q0 K Q)))) else (if 104 < r3 then (if r3 = 120 then RM0 n0 xX13_here d [.ref (n0 + 59)] K (zI I1 59 31 ((I1 59 31) + 1)) L2 (fun vv I72 L73 => ∃ r74 : Int32, vv = some (.int r74) ∧ RM0 n0 xX13_isDigit d [.int r74] K I72 L73 (fun vv I75 L76 => ∃ r77 : Int32, vv = some (.int r77) ∧ (if r77 = 0 then (if (((if (99 : Int32) < (I75 59 32) then 0 else 1)) : Int32) = 0 then (¬ (r3 = 120) → vp_in 99 10) ∧ (r3 = 120 → vp_in 99 10) ∧ RM0 n0 xX13_push d [.ref (n0 + 59), .long (if r3 = 120 then ((I75 82 99) : Int32).toInt64 else ((I75 83 99) : Int32).toInt64)] K (zI (zI I75 59 33 (if (99 : Int32) < (I75 59 32) then 0 else 1)) 59 39 ((I75 59 39) ||| ((1 : Int32) <<< (99 &&& 31 : Int32)))) L76 (fun vv I86 L87 => vv = none ∧ Q (some (.int 0)) (zI I86 59 31 ((I86 59 31) + 1)) L87) else Q (some (.int 0)) (zI I75 59 33 (if (99 : Int32) < (I75 59 32) then 0 else 1)) L76) else RM0 n0 xX13_here d [.ref (n0 + 59)] K I75 L76 (fun vv I88 L89 => ∃ r90 : Int32, vv = some (.int r90) ∧ (if (((if ((r90 - 48) : Int32) < (I88 59 32) then 0 else 1)) : Int32) = 0 then (¬ (r3 = 120) → vp_in (r90 - 48) 10) ∧ (r3 = 120 → vp_in (r90 - 48) 10) ∧ RM0 n0 xX13_push d [.ref (n0 + 59), .long (if r3 = 120 then ((I88 82 ((r90 - 48).toNatClampNeg)) : Int32).toInt64 else ((I88 83 ((r90 - 48).toNatClampNeg)) : Int32).toInt64)] K (zI (zI I88 59 33 (if ((r90 - 48) : Int32) < (I88 59 32) then 0 else 1)) 59 39 ((I88 59 39) ||| ((1 : Int32) <<< ((r90 - 48) &&& 31 : Int32)))) L89 (fun vv I98 L99 => vv = none ∧ Q (some (.int 0)) (zI I98 59 31 ((I98 59 31) + 1)) L99) else Q (some (.int 0)) (zI I88 59 33 (if ((r90 - 48) : Int32) < (I88 59 32) then 0 else 1)) L89))))) else (if r3 = 121 then RM0 n0 xX13_here d [.ref (n0 + 59)] K (zI I1 59 31 ((I1 59 31) + 1)) L2 (fun vv I106 L107 => ∃ r108 : Int32, vv = some (.int r108) ∧ RM0 n0 xX13_isDigit d [.int r108] K I106 L107 (fun vv I109 L110 => ∃ r111 : Int32, vv = some (.int r111) ∧ (if r111 = 0 then (if (((if (99 : Int32) < (I109 59 32) then 0 else 1)) : Int32) = 0 then (¬ (r3 = 120) → vp_in 99 10) ∧ (r3 = 120 → vp_in 99 10) ∧ RM0 n0 xX13_push d [.ref (n0 + 59), .long (if r3 = 120 then ((I109 82 99) : Int32).toInt64 else ((I109 83 99) : Int32).toInt64)] K (zI (zI I109 59 33 (if (99 : Int32) < (I109 59 32) then 0 else 1)) 59 39 ((I109 59 39) ||| ((1 : Int32) <<< (99 &&& 31 : Int32)))) L110 (fun vv I120 L121 => vv = none ∧ Q (some (.int 0)) (zI I120 59 31 ((I120 59 31) + 1)) L121) else Q (some (.int 0)) (zI I109 59 33 (if (99 : Int32) < (I109 59 32) then 0 else 1)) L110) else RM0 n0 xX13_here d [.ref (n0 + 59)] K I109 L110 (fun vv I122 L123 => ∃ r124 : Int32, vv = some (.int r124) ∧ (if (((if ((r124 - 48) : Int32) < (I122 59 32) then 0 else 1)) : Int32) = 0 then (¬ (r3 = 120) → vp_in (r124 - 48) 10) ∧ (r3 = 120 → vp_in (r124 - 48) 10) ∧ RM0 n0 xX13_push d [.ref (n0 + 59), .long (if r3 = 120 then ((I122 82 ((r124 - 48).toNatClampNeg)) : Int32).toInt64 else ((I122 83 ((r124 - 48).toNatClampNeg)) : Int32).toInt64)] K (zI (zI I122 59 33 (if ((r124 - 48) : Int32) < (I122 59 32) then 0 else 1)) 59 39 ((I122 59 39) ||| ((1 : Int32) <<< ((r124 - 48) &&& 31 : Int32)))) L123 (fun vv I132 L133 => vv = none ∧ Q (some (.int 0)) (zI I132 59 31 ((I132 59 31) + 1)) L133) else Q (some (.int 0)) (zI I122 59 33 (if ((r124 - 48) : Int32) < (I122 59 32) then 0 else 1)) L123))))) else RM0 n0 xX13_isDigit d [.int r3] K I1 L2 (fun vv I101 L102 => ∃ r103 : Int32, vv = some (.int r103) ∧ Z n0 xX13_readUnit (d + 1) 0 0 254 [(0, .ref (n0 + 59)), (2, .long 0), (4, .int 0)] [] K (zI I101 59 33 (if r103 = 0 then 1 else 0)) L102 (z_q0 K Q)))) else vp_in (r3 - 97) 8 ∧ RM0 n0 xX13_push d [.ref (n0 + 59), .long (((I1 84 ((r3 - 97).toNatClampNeg)) : Int32).toInt64)] K (zI I1 59 38 ((I1 59 38) ||| ((1 : Int32) <<< ((r3 - 97) &&& 31 : Int32)))) L2 (fun vv I135 L136 => vv = none ∧ Q (some (.int 0)) (zI I135 59 31 ((I135 59 31) + 1)) L136))))))) : RM0 n0 xX13_readUnit (d + 1) [.ref (n0 + 59)] K I L Q := by
  refine z_entry0 (by decide) (Nat.le_of_ble_eq_true rfl) ?_
  change Z n0 xX13_readUnit (d + 1) 0 0 0 [(0, .ref (n0 + 59))] [] K I L (z_q0 K Q)
  refine z_aload_n 0 dX13_readUnit_0 rfl ?_
  refine z_callV0 (As := []) (st := []) dX13_readUnit_1 hy_X13_here hL.1 hL.2.1 (by decide) wg_1871 wg_1873 wg_64 (Nat.le_refl _) (Nat.le_of_ble_eq_true rfl) (RM0.mono h (fun vv I1 L2 h => ?_))
  obtain ⟨r3, rfl, h⟩ := h
  change Z n0 xX13_readUnit (d + 1) 0 0 4 [(0, .ref (n0 + 59))] [.int r3] K I1 L2 (z_q0 K Q)
  refine z_istore_n [1, 0] [(0, .ref (n0 + 59)), (1, .int r3)] dX13_readUnit_4 (by decide) rfl ?_
  refine z_iload_n 1 dX13_readUnit_5 rfl ?_
  refine z_bipush 40 dX13_readUnit_6 (by decide) ?_
  refine z_icmp_ne 19 dX13_readUnit_8 (by decide) (fun g4 => ?_) (fun g4 => ?_)
  · rw [if_neg g4] at h
    refine z_iload_n 1 dX13_readUnit_19 rfl ?_
    refine z_bipush 114 dX13_readUnit_20 (by decide) ?_
    refine z_icmp_ne 60 dX13_readUnit_22 (by decide) (fun g5 => ?_) (fun g5 => ?_)
    · rw [if_neg g5] at h
      refine z_iload_n 1 dX13_readUnit_60 rfl ?_
      refine z_bipush 97 dX13_readUnit_61 (by decide) ?_
      refine z_icmp_lt 113 dX13_readUnit_63 (by decide) (fun g6 => ?_) (fun g6 => ?_)
      · rw [if_pos g6] at h
        refine z_iload_n 1 dX13_readUnit_113 rfl ?_
        refine z_bipush 120 dX13_readUnit_114 (by decide) ?_
        refine z_icmp_eq 125 dX13_readUnit_116 (by decide) (fun g7 => ?_) (fun g7 => ?_)
        · rw [if_pos g7] at h
          refine z_aload_n 0 dX13_readUnit_125 rfl ?_
          refine z_dup dX13_readUnit_126 rfl ?_
          refine fg_13_348 (I1 59 31) rfl dX13_readUnit_127 hL.1 hL.2.1 rfl ?_
          refine z_iconst 1 dX13_readUnit_130 (by decide) ?_
          refine z_iadd dX13_readUnit_131 ?_
          refine fp_13_348 rfl dX13_readUnit_132 hL.1 hL.2.1 ?_
          refine z_aload_n 0 dX13_readUnit_135 rfl ?_
          refine z_callV0 (As := []) (st := []) dX13_readUnit_136 hy_X13_here hL.1 hL.2.1 (by decide) wg_1871 wg_1873 wg_64 (Nat.le_refl _) (Nat.le_of_ble_eq_true rfl) (RM0.mono h (fun vv I8 L9 h => ?_))
          obtain ⟨r10, rfl, h⟩ := h
          change Z n0 xX13_readUnit (d + 1) 0 0 139 [(0, .ref (n0 + 59)), (1, .int r3)] [.int r10] K I8 L9 (z_q0 K Q)
          refine z_callS0 (As := [.int r10]) (st := []) dX13_readUnit_139 hy_X13_isDigit wg_1885 wg_1886 (Nat.le_refl _) (Nat.le_of_ble_eq_true rfl) (RM0.mono h (fun vv I11 L12 h => ?_))
          obtain ⟨r13, rfl, h⟩ := h
          change Z n0 xX13_readUnit (d + 1) 0 0 142 [(0, .ref (n0 + 59)), (1, .int r3)] [.int r13] K I11 L12 (z_q0 K Q)
          refine z_if_eq 155 dX13_readUnit_142 (by decide) (fun g14 => ?_) (fun g14 => ?_)
          · rw [if_pos g14] at h
            refine z_bipush 99 dX13_readUnit_155 (by decide) ?_
            refine z_istore_n [1, 2, 0] [(0, .ref (n0 + 59)), (1, .int r3), (2, .int 99)] dX13_readUnit_157 (by decide) rfl ?_
            refine z_aload_n 0 dX13_readUnit_158 rfl ?_
            refine z_iload_n 2 dX13_readUnit_159 rfl ?_
            refine z_aload_n 0 dX13_readUnit_160 rfl ?_
            refine fg_13_411 (I11 59 32) rfl dX13_readUnit_161 hL.1 hL.2.1 rfl ?_
            have key16 : Z n0 xX13_readUnit (d + 1) 0 0 172 [(0, .ref (n0 + 59)), (1, .int r3), (2, .int 99)] [.int (if (99 : Int32) < (I11 59 32) then 0 else 1), .ref (n0 + 59)] K I11 L12 (z_q0 K Q) := by
              refine fp_13_395 rfl dX13_readUnit_172 hL.1 hL.2.1 (z_bite (by repeat' (first | exact Or.inl rfl | exact Or.inr rfl | split))) ?_
              refine z_aload_n 0 dX13_readUnit_175 rfl ?_
              refine fg_13_395 ((if (99 : Int32) < (I11 59 32) then 0 else 1)) rfl dX13_readUnit_176 hL.1 hL.2.1 rfl ?_
              refine z_if_ne 231 dX13_readUnit_179 (by decide) (fun g17 => ?_) (fun g17 => ?_)
              · rw [if_neg g17] at h
                refine z_iconst 0 dX13_readUnit_231 (by decide) ?_
                exact z_zretb dX13_readUnit_232 rfl (Or.inl rfl) ⟨rfl, h⟩
              · rw [if_pos g17] at h
                refine z_aload_n 0 dX13_readUnit_182 rfl ?_
                refine z_dup dX13_readUnit_183 rfl ?_
                refine fg_13_414 (I11 59 39) rfl dX13_readUnit_184 hL.1 hL.2.1 rfl ?_
                refine z_iconst 1 dX13_readUnit_187 (by decide) ?_
                refine z_iload_n 2 dX13_readUnit_188 rfl ?_
                refine z_ishl dX13_readUnit_189 ?_
                refine z_ior dX13_readUnit_190 ?_
                refine fp_13_414 rfl dX13_readUnit_191 hL.1 hL.2.1 ?_
                refine z_aload_n 0 dX13_readUnit_194 rfl ?_
                refine z_iload_n 1 dX13_readUnit_195 rfl ?_
                refine z_bipush 120 dX13_readUnit_196 (by decide) ?_
                obtain ⟨o19, o20, h⟩ := h
                have key21 : Z n0 xX13_readUnit (d + 1) 0 0 218 [(0, .ref (n0 + 59))] [.long (if r3 = 120 then ((I11 82 99) : Int32).toInt64 else ((I11 83 99) : Int32).toInt64), .ref (n0 + 59)] K (zI (zI I11 59 33 (if (99 : Int32) < (I11 59 32) then 0 else 1)) 59 39 ((I11 59 39) ||| ((1 : Int32) <<< (99 &&& 31 : Int32)))) L12 (z_q0 K Q) := by
                  refine z_callV0 (As := [.long (if r3 = 120 then ((I11 82 99) : Int32).toInt64 else ((I11 83 99) : Int32).toInt64)]) (st := []) dX13_readUnit_218 hy_X13_push hL.1 hL.2.1 (by decide) wg_1879 wg_1881 wg_66 (Nat.le_refl _) (Nat.le_of_ble_eq_true rfl) (RM0.mono h (fun vv I22 L23 h => ?_))
                  obtain ⟨rfl, h⟩ := h
                  change Z n0 xX13_readUnit (d + 1) 0 0 221 [(0, .ref (n0 + 59))] [] K I22 L23 (z_q0 K Q)
                  refine z_aload_n 0 dX13_readUnit_221 rfl ?_
                  refine z_dup dX13_readUnit_222 rfl ?_
                  refine fg_13_348 (I22 59 31) rfl dX13_readUnit_223 hL.1 hL.2.1 rfl ?_
                  refine z_iconst 1 dX13_readUnit_226 (by decide) ?_
                  refine z_iadd dX13_readUnit_227 ?_
                  refine fp_13_348 rfl dX13_readUnit_228 hL.1 hL.2.1 ?_
                  refine z_iconst 0 dX13_readUnit_231 (by decide) ?_
                  exact z_zretb dX13_readUnit_232 rfl (Or.inl rfl) ⟨rfl, h⟩
                refine z_icmp_ne 211 dX13_readUnit_198 (by decide) (fun g18 => ?_) (fun g18 => ?_)
                · refine z_aload_n 0 dX13_readUnit_211 rfl ?_
                  refine fg_13_80 (some 83) rfl dX13_readUnit_212 hL.1 hL.2.1 (ma_36 hL).1 ?_
                  refine z_iload_n 2 dX13_readUnit_215 rfl ?_
                  refine z_iald (I11 83 99) dX13_readUnit_216 (ma_36 hL).2.1 (ma_36 hL).2.2 (o19 g18) rfl ?_
                  refine z_i2l dX13_readUnit_217 ?_
                  have ee : ((if r3 = 120 then ((I11 82 99) : Int32).toInt64 else ((I11 83 99) : Int32).toInt64) : Int64) = ((I11 83 99) : Int32).toInt64 := by rw [if_neg g18]
                  rw [ee] at key21
                  clear ee
                  refine z_sub [0] rfl ?_
                  exact key21
                · refine z_aload_n 0 dX13_readUnit_201 rfl ?_
                  refine fg_13_77 (some 82) rfl dX13_readUnit_202 hL.1 hL.2.1 (ma_35 hL).1 ?_
                  refine z_iload_n 2 dX13_readUnit_205 rfl ?_
                  refine z_iald (I11 82 99) dX13_readUnit_206 (ma_35 hL).2.1 (ma_35 hL).2.2 (o20 g18) rfl ?_
                  refine z_i2l dX13_readUnit_207 ?_
                  refine z_goto 218 dX13_readUnit_208 (by decide) ?_
                  have ee : ((if r3 = 120 then ((I11 82 99) : Int32).toInt64 else ((I11 83 99) : Int32).toInt64) : Int64) = ((I11 82 99) : Int32).toInt64 := by rw [if_pos g18]
                  rw [ee] at key21
                  clear ee
                  refine z_sub [0] rfl ?_
                  exact key21
            refine z_icmp_lt 171 dX13_readUnit_164 (by decide) (fun g15 => ?_) (fun g15 => ?_)
            · refine z_iconst 0 dX13_readUnit_171 (by decide) ?_
              have ee : ((if (99 : Int32) < (I11 59 32) then 0 else 1) : Int32) = 0 := by rw [if_pos g15]
              rw [ee] at key16
              clear ee
              exact key16
            · refine z_iconst 1 dX13_readUnit_167 (by decide) ?_
              refine z_goto 172 dX13_readUnit_168 (by decide) ?_
              have ee : ((if (99 : Int32) < (I11 59 32) then 0 else 1) : Int32) = 1 := by rw [if_neg g15]
              rw [ee] at key16
              clear ee
              exact key16
          · rw [if_neg g14] at h
            refine z_aload_n 0 dX13_readUnit_145 rfl ?_
            refine z_callV0 (As := []) (st := []) dX13_readUnit_146 hy_X13_here hL.1 hL.2.1 (by decide) wg_1871 wg_1873 wg_64 (Nat.le_refl _) (Nat.le_of_ble_eq_true rfl) (RM0.mono h (fun vv I24 L25 h => ?_))
            obtain ⟨r26, rfl, h⟩ := h
            change Z n0 xX13_readUnit (d + 1) 0 0 149 [(0, .ref (n0 + 59)), (1, .int r3)] [.int r26] K I24 L25 (z_q0 K Q)
            refine z_bipush 48 dX13_readUnit_149 (by decide) ?_
            refine z_isub dX13_readUnit_151 ?_
            refine z_goto 157 dX13_readUnit_152 (by decide) ?_
            refine z_istore_n [1, 2, 0] [(0, .ref (n0 + 59)), (1, .int r3), (2, .int (r26 - 48))] dX13_readUnit_157 (by decide) rfl ?_
            refine z_aload_n 0 dX13_readUnit_158 rfl ?_
            refine z_iload_n 2 dX13_readUnit_159 rfl ?_
            refine z_aload_n 0 dX13_readUnit_160 rfl ?_
            refine fg_13_411 (I24 59 32) rfl dX13_readUnit_161 hL.1 hL.2.1 rfl ?_
            have key28 : Z n0 xX13_readUnit (d + 1) 0 0 172 [(0, .ref (n0 + 59)), (1, .int r3), (2, .int (r26 - 48))] [.int (if ((r26 - 48) : Int32) < (I24 59 32) then 0 else 1), .ref (n0 + 59)] K I24 L25 (z_q0 K Q) := by
              refine fp_13_395 rfl dX13_readUnit_172 hL.1 hL.2.1 (z_bite (by repeat' (first | exact Or.inl rfl | exact Or.inr rfl | split))) ?_
              refine z_aload_n 0 dX13_readUnit_175 rfl ?_
              refine fg_13_395 ((if ((r26 - 48) : Int32) < (I24 59 32) then 0 else 1)) rfl dX13_readUnit_176 hL.1 hL.2.1 rfl ?_
              refine z_if_ne 231 dX13_readUnit_179 (by decide) (fun g29 => ?_) (fun g29 => ?_)
              · rw [if_neg g29] at h
                refine z_iconst 0 dX13_readUnit_231 (by decide) ?_
                exact z_zretb dX13_readUnit_232 rfl (Or.inl rfl) ⟨rfl, h⟩
              · rw [if_pos g29] at h
                refine z_aload_n 0 dX13_readUnit_182 rfl ?_
                refine z_dup dX13_readUnit_183 rfl ?_
                refine fg_13_414 (I24 59 39) rfl dX13_readUnit_184 hL.1 hL.2.1 rfl ?_
                refine z_iconst 1 dX13_readUnit_187 (by decide) ?_
                refine z_iload_n 2 dX13_readUnit_188 rfl ?_
                refine z_ishl dX13_readUnit_189 ?_
                refine z_ior dX13_readUnit_190 ?_
                refine fp_13_414 rfl dX13_readUnit_191 hL.1 hL.2.1 ?_
                refine z_aload_n 0 dX13_readUnit_194 rfl ?_
                refine z_iload_n 1 dX13_readUnit_195 rfl ?_
                refine z_bipush 120 dX13_readUnit_196 (by decide) ?_
                obtain ⟨o31, o32, h⟩ := h
                have key33 : Z n0 xX13_readUnit (d + 1) 0 0 218 [(0, .ref (n0 + 59))] [.long (if r3 = 120 then ((I24 82 ((r26 - 48).toNatClampNeg)) : Int32).toInt64 else ((I24 83 ((r26 - 48).toNatClampNeg)) : Int32).toInt64), .ref (n0 + 59)] K (zI (zI I24 59 33 (if ((r26 - 48) : Int32) < (I24 59 32) then 0 else 1)) 59 39 ((I24 59 39) ||| ((1 : Int32) <<< ((r26 - 48) &&& 31 : Int32)))) L25 (z_q0 K Q) := by
                  refine z_callV0 (As := [.long (if r3 = 120 then ((I24 82 ((r26 - 48).toNatClampNeg)) : Int32).toInt64 else ((I24 83 ((r26 - 48).toNatClampNeg)) : Int32).toInt64)]) (st := []) dX13_readUnit_218 hy_X13_push hL.1 hL.2.1 (by decide) wg_1879 wg_1881 wg_66 (Nat.le_refl _) (Nat.le_of_ble_eq_true rfl) (RM0.mono h (fun vv I34 L35 h => ?_))
                  obtain ⟨rfl, h⟩ := h
                  change Z n0 xX13_readUnit (d + 1) 0 0 221 [(0, .ref (n0 + 59))] [] K I34 L35 (z_q0 K Q)
                  refine z_aload_n 0 dX13_readUnit_221 rfl ?_
                  refine z_dup dX13_readUnit_222 rfl ?_
                  refine fg_13_348 (I34 59 31) rfl dX13_readUnit_223 hL.1 hL.2.1 rfl ?_
                  refine z_iconst 1 dX13_readUnit_226 (by decide) ?_
                  refine z_iadd dX13_readUnit_227 ?_
                  refine fp_13_348 rfl dX13_readUnit_228 hL.1 hL.2.1 ?_
                  refine z_iconst 0 dX13_readUnit_231 (by decide) ?_
                  exact z_zretb dX13_readUnit_232 rfl (Or.inl rfl) ⟨rfl, h⟩
                refine z_icmp_ne 211 dX13_readUnit_198 (by decide) (fun g30 => ?_) (fun g30 => ?_)
                · refine z_aload_n 0 dX13_readUnit_211 rfl ?_
                  refine fg_13_80 (some 83) rfl dX13_readUnit_212 hL.1 hL.2.1 (ma_36 hL).1 ?_
                  refine z_iload_n 2 dX13_readUnit_215 rfl ?_
                  refine z_iald (I24 83 ((r26 - 48).toNatClampNeg)) dX13_readUnit_216 (ma_36 hL).2.1 (ma_36 hL).2.2 (o31 g30) rfl ?_
                  refine z_i2l dX13_readUnit_217 ?_
                  have ee : ((if r3 = 120 then ((I24 82 ((r26 - 48).toNatClampNeg)) : Int32).toInt64 else ((I24 83 ((r26 - 48).toNatClampNeg)) : Int32).toInt64) : Int64) = ((I24 83 ((r26 - 48).toNatClampNeg)) : Int32).toInt64 := by rw [if_neg g30]
                  rw [ee] at key33
                  clear ee
                  refine z_sub [0] rfl ?_
                  exact key33
                · refine z_aload_n 0 dX13_readUnit_201 rfl ?_
                  refine fg_13_77 (some 82) rfl dX13_readUnit_202 hL.1 hL.2.1 (ma_35 hL).1 ?_
                  refine z_iload_n 2 dX13_readUnit_205 rfl ?_
                  refine z_iald (I24 82 ((r26 - 48).toNatClampNeg)) dX13_readUnit_206 (ma_35 hL).2.1 (ma_35 hL).2.2 (o32 g30) rfl ?_
                  refine z_i2l dX13_readUnit_207 ?_
                  refine z_goto 218 dX13_readUnit_208 (by decide) ?_
                  have ee : ((if r3 = 120 then ((I24 82 ((r26 - 48).toNatClampNeg)) : Int32).toInt64 else ((I24 83 ((r26 - 48).toNatClampNeg)) : Int32).toInt64) : Int64) = ((I24 82 ((r26 - 48).toNatClampNeg)) : Int32).toInt64 := by rw [if_pos g30]
                  rw [ee] at key33
                  clear ee
                  refine z_sub [0] rfl ?_
                  exact key33
            refine z_icmp_lt 171 dX13_readUnit_164 (by decide) (fun g27 => ?_) (fun g27 => ?_)
            · refine z_iconst 0 dX13_readUnit_171 (by decide) ?_
              have ee : ((if ((r26 - 48) : Int32) < (I24 59 32) then 0 else 1) : Int32) = 0 := by rw [if_pos g27]
              rw [ee] at key28
              clear ee
              exact key28
            · refine z_iconst 1 dX13_readUnit_167 (by decide) ?_
              refine z_goto 172 dX13_readUnit_168 (by decide) ?_
              have ee : ((if ((r26 - 48) : Int32) < (I24 59 32) then 0 else 1) : Int32) = 1 := by rw [if_neg g27]
              rw [ee] at key28
              clear ee
              exact key28
        · rw [if_neg g7] at h
          refine z_iload_n 1 dX13_readUnit_119 rfl ?_
          refine z_bipush 121 dX13_readUnit_120 (by decide) ?_
          refine z_icmp_ne 233 dX13_readUnit_122 (by decide) (fun g36 => ?_) (fun g36 => ?_)
          · rw [if_neg g36] at h
            refine z_aload_n 0 dX13_readUnit_233 rfl ?_
            refine z_iload_n 1 dX13_readUnit_234 rfl ?_
            refine z_callS0 (As := [.int r3]) (st := [.ref (n0 + 59)]) dX13_readUnit_235 hy_X13_isDigit wg_1885 wg_1886 (Nat.le_refl _) (Nat.le_of_ble_eq_true rfl) (RM0.mono h (fun vv I37 L38 h => ?_))
            obtain ⟨r39, rfl, h⟩ := h
            change Z n0 xX13_readUnit (d + 1) 0 0 238 [(0, .ref (n0 + 59)), (1, .int r3)] [.int r39, .ref (n0 + 59)] K I37 L38 (z_q0 K Q)
            have key41 : Z n0 xX13_readUnit (d + 1) 0 0 246 [(0, .ref (n0 + 59))] [.int (if r39 = 0 then 1 else 0), .ref (n0 + 59)] K I37 L38 (z_q0 K Q) := by
              refine fp_13_395 rfl dX13_readUnit_246 hL.1 hL.2.1 (z_bite (by repeat' (first | exact Or.inl rfl | exact Or.inr rfl | split))) ?_
              refine z_lconst 0 dX13_readUnit_249 (by decide) ?_
              refine z_lstore_n [1, 0] [(0, .ref (n0 + 59)), (2, .long 0)] dX13_readUnit_250 (by decide) rfl ?_
              refine z_iconst 0 dX13_readUnit_251 (by decide) ?_
              refine z_istore [1, 2, 0] [(0, .ref (n0 + 59)), (2, .long 0), (4, .int 0)] dX13_readUnit_252 (by decide) rfl ?_
              exact h
            refine z_if_ne 245 dX13_readUnit_238 (by decide) (fun g40 => ?_) (fun g40 => ?_)
            · refine z_iconst 0 dX13_readUnit_245 (by decide) ?_
              have ee : ((if r39 = 0 then 1 else 0) : Int32) = 0 := by rw [if_neg g40]
              rw [ee] at key41
              clear ee
              refine z_sub [0] rfl ?_
              exact key41
            · refine z_iconst 1 dX13_readUnit_241 (by decide) ?_
              refine z_goto 246 dX13_readUnit_242 (by decide) ?_
              have ee : ((if r39 = 0 then 1 else 0) : Int32) = 1 := by rw [if_pos g40]
              rw [ee] at key41
              clear ee
              refine z_sub [0] rfl ?_
              exact key41
          · rw [if_pos g36] at h
            refine z_aload_n 0 dX13_readUnit_125 rfl ?_
            refine z_dup dX13_readUnit_126 rfl ?_
            refine fg_13_348 (I1 59 31) rfl dX13_readUnit_127 hL.1 hL.2.1 rfl ?_
            refine z_iconst 1 dX13_readUnit_130 (by decide) ?_
            refine z_iadd dX13_readUnit_131 ?_
            refine fp_13_348 rfl dX13_readUnit_132 hL.1 hL.2.1 ?_
            refine z_aload_n 0 dX13_readUnit_135 rfl ?_
            refine z_callV0 (As := []) (st := []) dX13_readUnit_136 hy_X13_here hL.1 hL.2.1 (by decide) wg_1871 wg_1873 wg_64 (Nat.le_refl _) (Nat.le_of_ble_eq_true rfl) (RM0.mono h (fun vv I42 L43 h => ?_))
            obtain ⟨r44, rfl, h⟩ := h
            change Z n0 xX13_readUnit (d + 1) 0 0 139 [(0, .ref (n0 + 59)), (1, .int r3)] [.int r44] K I42 L43 (z_q0 K Q)
            refine z_callS0 (As := [.int r44]) (st := []) dX13_readUnit_139 hy_X13_isDigit wg_1885 wg_1886 (Nat.le_refl _) (Nat.le_of_ble_eq_true rfl) (RM0.mono h (fun vv I45 L46 h => ?_))
            obtain ⟨r47, rfl, h⟩ := h
            change Z n0 xX13_readUnit (d + 1) 0 0 142 [(0, .ref (n0 + 59)), (1, .int r3)] [.int r47] K I45 L46 (z_q0 K Q)
            refine z_if_eq 155 dX13_readUnit_142 (by decide) (fun g48 => ?_) (fun g48 => ?_)
            · rw [if_pos g48] at h
              refine z_bipush 99 dX13_readUnit_155 (by decide) ?_
              refine z_istore_n [1, 2, 0] [(0, .ref (n0 + 59)), (1, .int r3), (2, .int 99)] dX13_readUnit_157 (by decide) rfl ?_
              refine z_aload_n 0 dX13_readUnit_158 rfl ?_
              refine z_iload_n 2 dX13_readUnit_159 rfl ?_
              refine z_aload_n 0 dX13_readUnit_160 rfl ?_
              refine fg_13_411 (I45 59 32) rfl dX13_readUnit_161 hL.1 hL.2.1 rfl ?_
              have key50 : Z n0 xX13_readUnit (d + 1) 0 0 172 [(0, .ref (n0 + 59)), (1, .int r3), (2, .int 99)] [.int (if (99 : Int32) < (I45 59 32) then 0 else 1), .ref (n0 + 59)] K I45 L46 (z_q0 K Q) := by
                refine fp_13_395 rfl dX13_readUnit_172 hL.1 hL.2.1 (z_bite (by repeat' (first | exact Or.inl rfl | exact Or.inr rfl | split))) ?_
                refine z_aload_n 0 dX13_readUnit_175 rfl ?_
                refine fg_13_395 ((if (99 : Int32) < (I45 59 32) then 0 else 1)) rfl dX13_readUnit_176 hL.1 hL.2.1 rfl ?_
                refine z_if_ne 231 dX13_readUnit_179 (by decide) (fun g51 => ?_) (fun g51 => ?_)
                · rw [if_neg g51] at h
                  refine z_iconst 0 dX13_readUnit_231 (by decide) ?_
                  exact z_zretb dX13_readUnit_232 rfl (Or.inl rfl) ⟨rfl, h⟩
                · rw [if_pos g51] at h
                  refine z_aload_n 0 dX13_readUnit_182 rfl ?_
                  refine z_dup dX13_readUnit_183 rfl ?_
                  refine fg_13_414 (I45 59 39) rfl dX13_readUnit_184 hL.1 hL.2.1 rfl ?_
                  refine z_iconst 1 dX13_readUnit_187 (by decide) ?_
                  refine z_iload_n 2 dX13_readUnit_188 rfl ?_
                  refine z_ishl dX13_readUnit_189 ?_
                  refine z_ior dX13_readUnit_190 ?_
                  refine fp_13_414 rfl dX13_readUnit_191 hL.1 hL.2.1 ?_
                  refine z_aload_n 0 dX13_readUnit_194 rfl ?_
                  refine z_iload_n 1 dX13_readUnit_195 rfl ?_
                  refine z_bipush 120 dX13_readUnit_196 (by decide) ?_
                  obtain ⟨o53, o54, h⟩ := h
                  have key55 : Z n0 xX13_readUnit (d + 1) 0 0 218 [(0, .ref (n0 + 59))] [.long (if r3 = 120 then ((I45 82 99) : Int32).toInt64 else ((I45 83 99) : Int32).toInt64), .ref (n0 + 59)] K (zI (zI I45 59 33 (if (99 : Int32) < (I45 59 32) then 0 else 1)) 59 39 ((I45 59 39) ||| ((1 : Int32) <<< (99 &&& 31 : Int32)))) L46 (z_q0 K Q) := by
                    refine z_callV0 (As := [.long (if r3 = 120 then ((I45 82 99) : Int32).toInt64 else ((I45 83 99) : Int32).toInt64)]) (st := []) dX13_readUnit_218 hy_X13_push hL.1 hL.2.1 (by decide) wg_1879 wg_1881 wg_66 (Nat.le_refl _) (Nat.le_of_ble_eq_true rfl) (RM0.mono h (fun vv I56 L57 h => ?_))
                    obtain ⟨rfl, h⟩ := h
                    change Z n0 xX13_readUnit (d + 1) 0 0 221 [(0, .ref (n0 + 59))] [] K I56 L57 (z_q0 K Q)
                    refine z_aload_n 0 dX13_readUnit_221 rfl ?_
                    refine z_dup dX13_readUnit_222 rfl ?_
                    refine fg_13_348 (I56 59 31) rfl dX13_readUnit_223 hL.1 hL.2.1 rfl ?_
                    refine z_iconst 1 dX13_readUnit_226 (by decide) ?_
                    refine z_iadd dX13_readUnit_227 ?_
                    refine fp_13_348 rfl dX13_readUnit_228 hL.1 hL.2.1 ?_
                    refine z_iconst 0 dX13_readUnit_231 (by decide) ?_
                    exact z_zretb dX13_readUnit_232 rfl (Or.inl rfl) ⟨rfl, h⟩
                  refine z_icmp_ne 211 dX13_readUnit_198 (by decide) (fun g52 => ?_) (fun g52 => ?_)
                  · refine z_aload_n 0 dX13_readUnit_211 rfl ?_
                    refine fg_13_80 (some 83) rfl dX13_readUnit_212 hL.1 hL.2.1 (ma_36 hL).1 ?_
                    refine z_iload_n 2 dX13_readUnit_215 rfl ?_
                    refine z_iald (I45 83 99) dX13_readUnit_216 (ma_36 hL).2.1 (ma_36 hL).2.2 (o53 g52) rfl ?_
                    refine z_i2l dX13_readUnit_217 ?_
                    have ee : ((if r3 = 120 then ((I45 82 99) : Int32).toInt64 else ((I45 83 99) : Int32).toInt64) : Int64) = ((I45 83 99) : Int32).toInt64 := by rw [if_neg g52]
                    rw [ee] at key55
                    clear ee
                    refine z_sub [0] rfl ?_
                    exact key55
                  · refine z_aload_n 0 dX13_readUnit_201 rfl ?_
                    refine fg_13_77 (some 82) rfl dX13_readUnit_202 hL.1 hL.2.1 (ma_35 hL).1 ?_
                    refine z_iload_n 2 dX13_readUnit_205 rfl ?_
                    refine z_iald (I45 82 99) dX13_readUnit_206 (ma_35 hL).2.1 (ma_35 hL).2.2 (o54 g52) rfl ?_
                    refine z_i2l dX13_readUnit_207 ?_
                    refine z_goto 218 dX13_readUnit_208 (by decide) ?_
                    have ee : ((if r3 = 120 then ((I45 82 99) : Int32).toInt64 else ((I45 83 99) : Int32).toInt64) : Int64) = ((I45 82 99) : Int32).toInt64 := by rw [if_pos g52]
                    rw [ee] at key55
                    clear ee
                    refine z_sub [0] rfl ?_
                    exact key55
              refine z_icmp_lt 171 dX13_readUnit_164 (by decide) (fun g49 => ?_) (fun g49 => ?_)
              · refine z_iconst 0 dX13_readUnit_171 (by decide) ?_
                have ee : ((if (99 : Int32) < (I45 59 32) then 0 else 1) : Int32) = 0 := by rw [if_pos g49]
                rw [ee] at key50
                clear ee
                exact key50
              · refine z_iconst 1 dX13_readUnit_167 (by decide) ?_
                refine z_goto 172 dX13_readUnit_168 (by decide) ?_
                have ee : ((if (99 : Int32) < (I45 59 32) then 0 else 1) : Int32) = 1 := by rw [if_neg g49]
                rw [ee] at key50
                clear ee
                exact key50
            · rw [if_neg g48] at h
              refine z_aload_n 0 dX13_readUnit_145 rfl ?_
              refine z_callV0 (As := []) (st := []) dX13_readUnit_146 hy_X13_here hL.1 hL.2.1 (by decide) wg_1871 wg_1873 wg_64 (Nat.le_refl _) (Nat.le_of_ble_eq_true rfl) (RM0.mono h (fun vv I58 L59 h => ?_))
              obtain ⟨r60, rfl, h⟩ := h
              change Z n0 xX13_readUnit (d + 1) 0 0 149 [(0, .ref (n0 + 59)), (1, .int r3)] [.int r60] K I58 L59 (z_q0 K Q)
              refine z_bipush 48 dX13_readUnit_149 (by decide) ?_
              refine z_isub dX13_readUnit_151 ?_
              refine z_goto 157 dX13_readUnit_152 (by decide) ?_
              refine z_istore_n [1, 2, 0] [(0, .ref (n0 + 59)), (1, .int r3), (2, .int (r60 - 48))] dX13_readUnit_157 (by decide) rfl ?_
              refine z_aload_n 0 dX13_readUnit_158 rfl ?_
              refine z_iload_n 2 dX13_readUnit_159 rfl ?_
              refine z_aload_n 0 dX13_readUnit_160 rfl ?_
              refine fg_13_411 (I58 59 32) rfl dX13_readUnit_161 hL.1 hL.2.1 rfl ?_
              have key62 : Z n0 xX13_readUnit (d + 1) 0 0 172 [(0, .ref (n0 + 59)), (1, .int r3), (2, .int (r60 - 48))] [.int (if ((r60 - 48) : Int32) < (I58 59 32) then 0 else 1), .ref (n0 + 59)] K I58 L59 (z_q0 K Q) := by
                refine fp_13_395 rfl dX13_readUnit_172 hL.1 hL.2.1 (z_bite (by repeat' (first | exact Or.inl rfl | exact Or.inr rfl | split))) ?_
                refine z_aload_n 0 dX13_readUnit_175 rfl ?_
                refine fg_13_395 ((if ((r60 - 48) : Int32) < (I58 59 32) then 0 else 1)) rfl dX13_readUnit_176 hL.1 hL.2.1 rfl ?_
                refine z_if_ne 231 dX13_readUnit_179 (by decide) (fun g63 => ?_) (fun g63 => ?_)
                · rw [if_neg g63] at h
                  refine z_iconst 0 dX13_readUnit_231 (by decide) ?_
                  exact z_zretb dX13_readUnit_232 rfl (Or.inl rfl) ⟨rfl, h⟩
                · rw [if_pos g63] at h
                  refine z_aload_n 0 dX13_readUnit_182 rfl ?_
                  refine z_dup dX13_readUnit_183 rfl ?_
                  refine fg_13_414 (I58 59 39) rfl dX13_readUnit_184 hL.1 hL.2.1 rfl ?_
                  refine z_iconst 1 dX13_readUnit_187 (by decide) ?_
                  refine z_iload_n 2 dX13_readUnit_188 rfl ?_
                  refine z_ishl dX13_readUnit_189 ?_
                  refine z_ior dX13_readUnit_190 ?_
                  refine fp_13_414 rfl dX13_readUnit_191 hL.1 hL.2.1 ?_
                  refine z_aload_n 0 dX13_readUnit_194 rfl ?_
                  refine z_iload_n 1 dX13_readUnit_195 rfl ?_
                  refine z_bipush 120 dX13_readUnit_196 (by decide) ?_
                  obtain ⟨o65, o66, h⟩ := h
                  have key67 : Z n0 xX13_readUnit (d + 1) 0 0 218 [(0, .ref (n0 + 59))] [.long (if r3 = 120 then ((I58 82 ((r60 - 48).toNatClampNeg)) : Int32).toInt64 else ((I58 83 ((r60 - 48).toNatClampNeg)) : Int32).toInt64), .ref (n0 + 59)] K (zI (zI I58 59 33 (if ((r60 - 48) : Int32) < (I58 59 32) then 0 else 1)) 59 39 ((I58 59 39) ||| ((1 : Int32) <<< ((r60 - 48) &&& 31 : Int32)))) L59 (z_q0 K Q) := by
                    refine z_callV0 (As := [.long (if r3 = 120 then ((I58 82 ((r60 - 48).toNatClampNeg)) : Int32).toInt64 else ((I58 83 ((r60 - 48).toNatClampNeg)) : Int32).toInt64)]) (st := []) dX13_readUnit_218 hy_X13_push hL.1 hL.2.1 (by decide) wg_1879 wg_1881 wg_66 (Nat.le_refl _) (Nat.le_of_ble_eq_true rfl) (RM0.mono h (fun vv I68 L69 h => ?_))
                    obtain ⟨rfl, h⟩ := h
                    change Z n0 xX13_readUnit (d + 1) 0 0 221 [(0, .ref (n0 + 59))] [] K I68 L69 (z_q0 K Q)
                    refine z_aload_n 0 dX13_readUnit_221 rfl ?_
                    refine z_dup dX13_readUnit_222 rfl ?_
                    refine fg_13_348 (I68 59 31) rfl dX13_readUnit_223 hL.1 hL.2.1 rfl ?_
                    refine z_iconst 1 dX13_readUnit_226 (by decide) ?_
                    refine z_iadd dX13_readUnit_227 ?_
                    refine fp_13_348 rfl dX13_readUnit_228 hL.1 hL.2.1 ?_
                    refine z_iconst 0 dX13_readUnit_231 (by decide) ?_
                    exact z_zretb dX13_readUnit_232 rfl (Or.inl rfl) ⟨rfl, h⟩
                  refine z_icmp_ne 211 dX13_readUnit_198 (by decide) (fun g64 => ?_) (fun g64 => ?_)
                  · refine z_aload_n 0 dX13_readUnit_211 rfl ?_
                    refine fg_13_80 (some 83) rfl dX13_readUnit_212 hL.1 hL.2.1 (ma_36 hL).1 ?_
                    refine z_iload_n 2 dX13_readUnit_215 rfl ?_
                    refine z_iald (I58 83 ((r60 - 48).toNatClampNeg)) dX13_readUnit_216 (ma_36 hL).2.1 (ma_36 hL).2.2 (o65 g64) rfl ?_
                    refine z_i2l dX13_readUnit_217 ?_
                    have ee : ((if r3 = 120 then ((I58 82 ((r60 - 48).toNatClampNeg)) : Int32).toInt64 else ((I58 83 ((r60 - 48).toNatClampNeg)) : Int32).toInt64) : Int64) = ((I58 83 ((r60 - 48).toNatClampNeg)) : Int32).toInt64 := by rw [if_neg g64]
                    rw [ee] at key67
                    clear ee
                    refine z_sub [0] rfl ?_
                    exact key67
                  · refine z_aload_n 0 dX13_readUnit_201 rfl ?_
                    refine fg_13_77 (some 82) rfl dX13_readUnit_202 hL.1 hL.2.1 (ma_35 hL).1 ?_
                    refine z_iload_n 2 dX13_readUnit_205 rfl ?_
                    refine z_iald (I58 82 ((r60 - 48).toNatClampNeg)) dX13_readUnit_206 (ma_35 hL).2.1 (ma_35 hL).2.2 (o66 g64) rfl ?_
                    refine z_i2l dX13_readUnit_207 ?_
                    refine z_goto 218 dX13_readUnit_208 (by decide) ?_
                    have ee : ((if r3 = 120 then ((I58 82 ((r60 - 48).toNatClampNeg)) : Int32).toInt64 else ((I58 83 ((r60 - 48).toNatClampNeg)) : Int32).toInt64) : Int64) = ((I58 82 ((r60 - 48).toNatClampNeg)) : Int32).toInt64 := by rw [if_pos g64]
                    rw [ee] at key67
                    clear ee
                    refine z_sub [0] rfl ?_
                    exact key67
              refine z_icmp_lt 171 dX13_readUnit_164 (by decide) (fun g61 => ?_) (fun g61 => ?_)
              · refine z_iconst 0 dX13_readUnit_171 (by decide) ?_
                have ee : ((if ((r60 - 48) : Int32) < (I58 59 32) then 0 else 1) : Int32) = 0 := by rw [if_pos g61]
                rw [ee] at key62
                clear ee
                exact key62
              · refine z_iconst 1 dX13_readUnit_167 (by decide) ?_
                refine z_goto 172 dX13_readUnit_168 (by decide) ?_
                have ee : ((if ((r60 - 48) : Int32) < (I58 59 32) then 0 else 1) : Int32) = 1 := by rw [if_neg g61]
                rw [ee] at key62
                clear ee
                exact key62
      · rw [if_neg g6] at h
        refine z_iload_n 1 dX13_readUnit_66 rfl ?_
        refine z_bipush 104 dX13_readUnit_67 (by decide) ?_
        refine z_icmp_gt 113 dX13_readUnit_69 (by decide) (fun g70 => ?_) (fun g70 => ?_)
        · rw [if_pos g70] at h
          refine z_iload_n 1 dX13_readUnit_113 rfl ?_
          refine z_bipush 120 dX13_readUnit_114 (by decide) ?_
          refine z_icmp_eq 125 dX13_readUnit_116 (by decide) (fun g71 => ?_) (fun g71 => ?_)
          · rw [if_pos g71] at h
            refine z_aload_n 0 dX13_readUnit_125 rfl ?_
            refine z_dup dX13_readUnit_126 rfl ?_
            refine fg_13_348 (I1 59 31) rfl dX13_readUnit_127 hL.1 hL.2.1 rfl ?_
            refine z_iconst 1 dX13_readUnit_130 (by decide) ?_
            refine z_iadd dX13_readUnit_131 ?_
            refine fp_13_348 rfl dX13_readUnit_132 hL.1 hL.2.1 ?_
            refine z_aload_n 0 dX13_readUnit_135 rfl ?_
            refine z_callV0 (As := []) (st := []) dX13_readUnit_136 hy_X13_here hL.1 hL.2.1 (by decide) wg_1871 wg_1873 wg_64 (Nat.le_refl _) (Nat.le_of_ble_eq_true rfl) (RM0.mono h (fun vv I72 L73 h => ?_))
            obtain ⟨r74, rfl, h⟩ := h
            change Z n0 xX13_readUnit (d + 1) 0 0 139 [(0, .ref (n0 + 59)), (1, .int r3)] [.int r74] K I72 L73 (z_q0 K Q)
            refine z_callS0 (As := [.int r74]) (st := []) dX13_readUnit_139 hy_X13_isDigit wg_1885 wg_1886 (Nat.le_refl _) (Nat.le_of_ble_eq_true rfl) (RM0.mono h (fun vv I75 L76 h => ?_))
            obtain ⟨r77, rfl, h⟩ := h
            change Z n0 xX13_readUnit (d + 1) 0 0 142 [(0, .ref (n0 + 59)), (1, .int r3)] [.int r77] K I75 L76 (z_q0 K Q)
            refine z_if_eq 155 dX13_readUnit_142 (by decide) (fun g78 => ?_) (fun g78 => ?_)
            · rw [if_pos g78] at h
              refine z_bipush 99 dX13_readUnit_155 (by decide) ?_
              refine z_istore_n [1, 2, 0] [(0, .ref (n0 + 59)), (1, .int r3), (2, .int 99)] dX13_readUnit_157 (by decide) rfl ?_
              refine z_aload_n 0 dX13_readUnit_158 rfl ?_
              refine z_iload_n 2 dX13_readUnit_159 rfl ?_
              refine z_aload_n 0 dX13_readUnit_160 rfl ?_
              refine fg_13_411 (I75 59 32) rfl dX13_readUnit_161 hL.1 hL.2.1 rfl ?_
              have key80 : Z n0 xX13_readUnit (d + 1) 0 0 172 [(0, .ref (n0 + 59)), (1, .int r3), (2, .int 99)] [.int (if (99 : Int32) < (I75 59 32) then 0 else 1), .ref (n0 + 59)] K I75 L76 (z_q0 K Q) := by
                refine fp_13_395 rfl dX13_readUnit_172 hL.1 hL.2.1 (z_bite (by repeat' (first | exact Or.inl rfl | exact Or.inr rfl | split))) ?_
                refine z_aload_n 0 dX13_readUnit_175 rfl ?_
                refine fg_13_395 ((if (99 : Int32) < (I75 59 32) then 0 else 1)) rfl dX13_readUnit_176 hL.1 hL.2.1 rfl ?_
                refine z_if_ne 231 dX13_readUnit_179 (by decide) (fun g81 => ?_) (fun g81 => ?_)
                · rw [if_neg g81] at h
                  refine z_iconst 0 dX13_readUnit_231 (by decide) ?_
                  exact z_zretb dX13_readUnit_232 rfl (Or.inl rfl) ⟨rfl, h⟩
                · rw [if_pos g81] at h
                  refine z_aload_n 0 dX13_readUnit_182 rfl ?_
                  refine z_dup dX13_readUnit_183 rfl ?_
                  refine fg_13_414 (I75 59 39) rfl dX13_readUnit_184 hL.1 hL.2.1 rfl ?_
                  refine z_iconst 1 dX13_readUnit_187 (by decide) ?_
                  refine z_iload_n 2 dX13_readUnit_188 rfl ?_
                  refine z_ishl dX13_readUnit_189 ?_
                  refine z_ior dX13_readUnit_190 ?_
                  refine fp_13_414 rfl dX13_readUnit_191 hL.1 hL.2.1 ?_
                  refine z_aload_n 0 dX13_readUnit_194 rfl ?_
                  refine z_iload_n 1 dX13_readUnit_195 rfl ?_
                  refine z_bipush 120 dX13_readUnit_196 (by decide) ?_
                  obtain ⟨o83, o84, h⟩ := h
                  have key85 : Z n0 xX13_readUnit (d + 1) 0 0 218 [(0, .ref (n0 + 59))] [.long (if r3 = 120 then ((I75 82 99) : Int32).toInt64 else ((I75 83 99) : Int32).toInt64), .ref (n0 + 59)] K (zI (zI I75 59 33 (if (99 : Int32) < (I75 59 32) then 0 else 1)) 59 39 ((I75 59 39) ||| ((1 : Int32) <<< (99 &&& 31 : Int32)))) L76 (z_q0 K Q) := by
                    refine z_callV0 (As := [.long (if r3 = 120 then ((I75 82 99) : Int32).toInt64 else ((I75 83 99) : Int32).toInt64)]) (st := []) dX13_readUnit_218 hy_X13_push hL.1 hL.2.1 (by decide) wg_1879 wg_1881 wg_66 (Nat.le_refl _) (Nat.le_of_ble_eq_true rfl) (RM0.mono h (fun vv I86 L87 h => ?_))
                    obtain ⟨rfl, h⟩ := h
                    change Z n0 xX13_readUnit (d + 1) 0 0 221 [(0, .ref (n0 + 59))] [] K I86 L87 (z_q0 K Q)
                    refine z_aload_n 0 dX13_readUnit_221 rfl ?_
                    refine z_dup dX13_readUnit_222 rfl ?_
                    refine fg_13_348 (I86 59 31) rfl dX13_readUnit_223 hL.1 hL.2.1 rfl ?_
                    refine z_iconst 1 dX13_readUnit_226 (by decide) ?_
                    refine z_iadd dX13_readUnit_227 ?_
                    refine fp_13_348 rfl dX13_readUnit_228 hL.1 hL.2.1 ?_
                    refine z_iconst 0 dX13_readUnit_231 (by decide) ?_
                    exact z_zretb dX13_readUnit_232 rfl (Or.inl rfl) ⟨rfl, h⟩
                  refine z_icmp_ne 211 dX13_readUnit_198 (by decide) (fun g82 => ?_) (fun g82 => ?_)
                  · refine z_aload_n 0 dX13_readUnit_211 rfl ?_
                    refine fg_13_80 (some 83) rfl dX13_readUnit_212 hL.1 hL.2.1 (ma_36 hL).1 ?_
                    refine z_iload_n 2 dX13_readUnit_215 rfl ?_
                    refine z_iald (I75 83 99) dX13_readUnit_216 (ma_36 hL).2.1 (ma_36 hL).2.2 (o83 g82) rfl ?_
                    refine z_i2l dX13_readUnit_217 ?_
                    have ee : ((if r3 = 120 then ((I75 82 99) : Int32).toInt64 else ((I75 83 99) : Int32).toInt64) : Int64) = ((I75 83 99) : Int32).toInt64 := by rw [if_neg g82]
                    rw [ee] at key85
                    clear ee
                    refine z_sub [0] rfl ?_
                    exact key85
                  · refine z_aload_n 0 dX13_readUnit_201 rfl ?_
                    refine fg_13_77 (some 82) rfl dX13_readUnit_202 hL.1 hL.2.1 (ma_35 hL).1 ?_
                    refine z_iload_n 2 dX13_readUnit_205 rfl ?_
                    refine z_iald (I75 82 99) dX13_readUnit_206 (ma_35 hL).2.1 (ma_35 hL).2.2 (o84 g82) rfl ?_
                    refine z_i2l dX13_readUnit_207 ?_
                    refine z_goto 218 dX13_readUnit_208 (by decide) ?_
                    have ee : ((if r3 = 120 then ((I75 82 99) : Int32).toInt64 else ((I75 83 99) : Int32).toInt64) : Int64) = ((I75 82 99) : Int32).toInt64 := by rw [if_pos g82]
                    rw [ee] at key85
                    clear ee
                    refine z_sub [0] rfl ?_
                    exact key85
              refine z_icmp_lt 171 dX13_readUnit_164 (by decide) (fun g79 => ?_) (fun g79 => ?_)
              · refine z_iconst 0 dX13_readUnit_171 (by decide) ?_
                have ee : ((if (99 : Int32) < (I75 59 32) then 0 else 1) : Int32) = 0 := by rw [if_pos g79]
                rw [ee] at key80
                clear ee
                exact key80
              · refine z_iconst 1 dX13_readUnit_167 (by decide) ?_
                refine z_goto 172 dX13_readUnit_168 (by decide) ?_
                have ee : ((if (99 : Int32) < (I75 59 32) then 0 else 1) : Int32) = 1 := by rw [if_neg g79]
                rw [ee] at key80
                clear ee
                exact key80
            · rw [if_neg g78] at h
              refine z_aload_n 0 dX13_readUnit_145 rfl ?_
              refine z_callV0 (As := []) (st := []) dX13_readUnit_146 hy_X13_here hL.1 hL.2.1 (by decide) wg_1871 wg_1873 wg_64 (Nat.le_refl _) (Nat.le_of_ble_eq_true rfl) (RM0.mono h (fun vv I88 L89 h => ?_))
              obtain ⟨r90, rfl, h⟩ := h
              change Z n0 xX13_readUnit (d + 1) 0 0 149 [(0, .ref (n0 + 59)), (1, .int r3)] [.int r90] K I88 L89 (z_q0 K Q)
              refine z_bipush 48 dX13_readUnit_149 (by decide) ?_
              refine z_isub dX13_readUnit_151 ?_
              refine z_goto 157 dX13_readUnit_152 (by decide) ?_
              refine z_istore_n [1, 2, 0] [(0, .ref (n0 + 59)), (1, .int r3), (2, .int (r90 - 48))] dX13_readUnit_157 (by decide) rfl ?_
              refine z_aload_n 0 dX13_readUnit_158 rfl ?_
              refine z_iload_n 2 dX13_readUnit_159 rfl ?_
              refine z_aload_n 0 dX13_readUnit_160 rfl ?_
              refine fg_13_411 (I88 59 32) rfl dX13_readUnit_161 hL.1 hL.2.1 rfl ?_
              have key92 : Z n0 xX13_readUnit (d + 1) 0 0 172 [(0, .ref (n0 + 59)), (1, .int r3), (2, .int (r90 - 48))] [.int (if ((r90 - 48) : Int32) < (I88 59 32) then 0 else 1), .ref (n0 + 59)] K I88 L89 (z_q0 K Q) := by
                refine fp_13_395 rfl dX13_readUnit_172 hL.1 hL.2.1 (z_bite (by repeat' (first | exact Or.inl rfl | exact Or.inr rfl | split))) ?_
                refine z_aload_n 0 dX13_readUnit_175 rfl ?_
                refine fg_13_395 ((if ((r90 - 48) : Int32) < (I88 59 32) then 0 else 1)) rfl dX13_readUnit_176 hL.1 hL.2.1 rfl ?_
                refine z_if_ne 231 dX13_readUnit_179 (by decide) (fun g93 => ?_) (fun g93 => ?_)
                · rw [if_neg g93] at h
                  refine z_iconst 0 dX13_readUnit_231 (by decide) ?_
                  exact z_zretb dX13_readUnit_232 rfl (Or.inl rfl) ⟨rfl, h⟩
                · rw [if_pos g93] at h
                  refine z_aload_n 0 dX13_readUnit_182 rfl ?_
                  refine z_dup dX13_readUnit_183 rfl ?_
                  refine fg_13_414 (I88 59 39) rfl dX13_readUnit_184 hL.1 hL.2.1 rfl ?_
                  refine z_iconst 1 dX13_readUnit_187 (by decide) ?_
                  refine z_iload_n 2 dX13_readUnit_188 rfl ?_
                  refine z_ishl dX13_readUnit_189 ?_
                  refine z_ior dX13_readUnit_190 ?_
                  refine fp_13_414 rfl dX13_readUnit_191 hL.1 hL.2.1 ?_
                  refine z_aload_n 0 dX13_readUnit_194 rfl ?_
                  refine z_iload_n 1 dX13_readUnit_195 rfl ?_
                  refine z_bipush 120 dX13_readUnit_196 (by decide) ?_
                  obtain ⟨o95, o96, h⟩ := h
                  have key97 : Z n0 xX13_readUnit (d + 1) 0 0 218 [(0, .ref (n0 + 59))] [.long (if r3 = 120 then ((I88 82 ((r90 - 48).toNatClampNeg)) : Int32).toInt64 else ((I88 83 ((r90 - 48).toNatClampNeg)) : Int32).toInt64), .ref (n0 + 59)] K (zI (zI I88 59 33 (if ((r90 - 48) : Int32) < (I88 59 32) then 0 else 1)) 59 39 ((I88 59 39) ||| ((1 : Int32) <<< ((r90 - 48) &&& 31 : Int32)))) L89 (z_q0 K Q) := by
                    refine z_callV0 (As := [.long (if r3 = 120 then ((I88 82 ((r90 - 48).toNatClampNeg)) : Int32).toInt64 else ((I88 83 ((r90 - 48).toNatClampNeg)) : Int32).toInt64)]) (st := []) dX13_readUnit_218 hy_X13_push hL.1 hL.2.1 (by decide) wg_1879 wg_1881 wg_66 (Nat.le_refl _) (Nat.le_of_ble_eq_true rfl) (RM0.mono h (fun vv I98 L99 h => ?_))
                    obtain ⟨rfl, h⟩ := h
                    change Z n0 xX13_readUnit (d + 1) 0 0 221 [(0, .ref (n0 + 59))] [] K I98 L99 (z_q0 K Q)
                    refine z_aload_n 0 dX13_readUnit_221 rfl ?_
                    refine z_dup dX13_readUnit_222 rfl ?_
                    refine fg_13_348 (I98 59 31) rfl dX13_readUnit_223 hL.1 hL.2.1 rfl ?_
                    refine z_iconst 1 dX13_readUnit_226 (by decide) ?_
                    refine z_iadd dX13_readUnit_227 ?_
                    refine fp_13_348 rfl dX13_readUnit_228 hL.1 hL.2.1 ?_
                    refine z_iconst 0 dX13_readUnit_231 (by decide) ?_
                    exact z_zretb dX13_readUnit_232 rfl (Or.inl rfl) ⟨rfl, h⟩
                  refine z_icmp_ne 211 dX13_readUnit_198 (by decide) (fun g94 => ?_) (fun g94 => ?_)
                  · refine z_aload_n 0 dX13_readUnit_211 rfl ?_
                    refine fg_13_80 (some 83) rfl dX13_readUnit_212 hL.1 hL.2.1 (ma_36 hL).1 ?_
                    refine z_iload_n 2 dX13_readUnit_215 rfl ?_
                    refine z_iald (I88 83 ((r90 - 48).toNatClampNeg)) dX13_readUnit_216 (ma_36 hL).2.1 (ma_36 hL).2.2 (o95 g94) rfl ?_
                    refine z_i2l dX13_readUnit_217 ?_
                    have ee : ((if r3 = 120 then ((I88 82 ((r90 - 48).toNatClampNeg)) : Int32).toInt64 else ((I88 83 ((r90 - 48).toNatClampNeg)) : Int32).toInt64) : Int64) = ((I88 83 ((r90 - 48).toNatClampNeg)) : Int32).toInt64 := by rw [if_neg g94]
                    rw [ee] at key97
                    clear ee
                    refine z_sub [0] rfl ?_
                    exact key97
                  · refine z_aload_n 0 dX13_readUnit_201 rfl ?_
                    refine fg_13_77 (some 82) rfl dX13_readUnit_202 hL.1 hL.2.1 (ma_35 hL).1 ?_
                    refine z_iload_n 2 dX13_readUnit_205 rfl ?_
                    refine z_iald (I88 82 ((r90 - 48).toNatClampNeg)) dX13_readUnit_206 (ma_35 hL).2.1 (ma_35 hL).2.2 (o96 g94) rfl ?_
                    refine z_i2l dX13_readUnit_207 ?_
                    refine z_goto 218 dX13_readUnit_208 (by decide) ?_
                    have ee : ((if r3 = 120 then ((I88 82 ((r90 - 48).toNatClampNeg)) : Int32).toInt64 else ((I88 83 ((r90 - 48).toNatClampNeg)) : Int32).toInt64) : Int64) = ((I88 82 ((r90 - 48).toNatClampNeg)) : Int32).toInt64 := by rw [if_pos g94]
                    rw [ee] at key97
                    clear ee
                    refine z_sub [0] rfl ?_
                    exact key97
              refine z_icmp_lt 171 dX13_readUnit_164 (by decide) (fun g91 => ?_) (fun g91 => ?_)
              · refine z_iconst 0 dX13_readUnit_171 (by decide) ?_
                have ee : ((if ((r90 - 48) : Int32) < (I88 59 32) then 0 else 1) : Int32) = 0 := by rw [if_pos g91]
                rw [ee] at key92
                clear ee
                exact key92
              · refine z_iconst 1 dX13_readUnit_167 (by decide) ?_
                refine z_goto 172 dX13_readUnit_168 (by decide) ?_
                have ee : ((if ((r90 - 48) : Int32) < (I88 59 32) then 0 else 1) : Int32) = 1 := by rw [if_neg g91]
                rw [ee] at key92
                clear ee
                exact key92
          · rw [if_neg g71] at h
            refine z_iload_n 1 dX13_readUnit_119 rfl ?_
            refine z_bipush 121 dX13_readUnit_120 (by decide) ?_
            refine z_icmp_ne 233 dX13_readUnit_122 (by decide) (fun g100 => ?_) (fun g100 => ?_)
            · rw [if_neg g100] at h
              refine z_aload_n 0 dX13_readUnit_233 rfl ?_
              refine z_iload_n 1 dX13_readUnit_234 rfl ?_
              refine z_callS0 (As := [.int r3]) (st := [.ref (n0 + 59)]) dX13_readUnit_235 hy_X13_isDigit wg_1885 wg_1886 (Nat.le_refl _) (Nat.le_of_ble_eq_true rfl) (RM0.mono h (fun vv I101 L102 h => ?_))
              obtain ⟨r103, rfl, h⟩ := h
              change Z n0 xX13_readUnit (d + 1) 0 0 238 [(0, .ref (n0 + 59)), (1, .int r3)] [.int r103, .ref (n0 + 59)] K I101 L102 (z_q0 K Q)
              have key105 : Z n0 xX13_readUnit (d + 1) 0 0 246 [(0, .ref (n0 + 59))] [.int (if r103 = 0 then 1 else 0), .ref (n0 + 59)] K I101 L102 (z_q0 K Q) := by
                refine fp_13_395 rfl dX13_readUnit_246 hL.1 hL.2.1 (z_bite (by repeat' (first | exact Or.inl rfl | exact Or.inr rfl | split))) ?_
                refine z_lconst 0 dX13_readUnit_249 (by decide) ?_
                refine z_lstore_n [1, 0] [(0, .ref (n0 + 59)), (2, .long 0)] dX13_readUnit_250 (by decide) rfl ?_
                refine z_iconst 0 dX13_readUnit_251 (by decide) ?_
                refine z_istore [1, 2, 0] [(0, .ref (n0 + 59)), (2, .long 0), (4, .int 0)] dX13_readUnit_252 (by decide) rfl ?_
                exact h
              refine z_if_ne 245 dX13_readUnit_238 (by decide) (fun g104 => ?_) (fun g104 => ?_)
              · refine z_iconst 0 dX13_readUnit_245 (by decide) ?_
                have ee : ((if r103 = 0 then 1 else 0) : Int32) = 0 := by rw [if_neg g104]
                rw [ee] at key105
                clear ee
                refine z_sub [0] rfl ?_
                exact key105
              · refine z_iconst 1 dX13_readUnit_241 (by decide) ?_
                refine z_goto 246 dX13_readUnit_242 (by decide) ?_
                have ee : ((if r103 = 0 then 1 else 0) : Int32) = 1 := by rw [if_pos g104]
                rw [ee] at key105
                clear ee
                refine z_sub [0] rfl ?_
                exact key105
            · rw [if_pos g100] at h
              refine z_aload_n 0 dX13_readUnit_125 rfl ?_
              refine z_dup dX13_readUnit_126 rfl ?_
              refine fg_13_348 (I1 59 31) rfl dX13_readUnit_127 hL.1 hL.2.1 rfl ?_
              refine z_iconst 1 dX13_readUnit_130 (by decide) ?_
              refine z_iadd dX13_readUnit_131 ?_
              refine fp_13_348 rfl dX13_readUnit_132 hL.1 hL.2.1 ?_
              refine z_aload_n 0 dX13_readUnit_135 rfl ?_
              refine z_callV0 (As := []) (st := []) dX13_readUnit_136 hy_X13_here hL.1 hL.2.1 (by decide) wg_1871 wg_1873 wg_64 (Nat.le_refl _) (Nat.le_of_ble_eq_true rfl) (RM0.mono h (fun vv I106 L107 h => ?_))
              obtain ⟨r108, rfl, h⟩ := h
              change Z n0 xX13_readUnit (d + 1) 0 0 139 [(0, .ref (n0 + 59)), (1, .int r3)] [.int r108] K I106 L107 (z_q0 K Q)
              refine z_callS0 (As := [.int r108]) (st := []) dX13_readUnit_139 hy_X13_isDigit wg_1885 wg_1886 (Nat.le_refl _) (Nat.le_of_ble_eq_true rfl) (RM0.mono h (fun vv I109 L110 h => ?_))
              obtain ⟨r111, rfl, h⟩ := h
              change Z n0 xX13_readUnit (d + 1) 0 0 142 [(0, .ref (n0 + 59)), (1, .int r3)] [.int r111] K I109 L110 (z_q0 K Q)
              refine z_if_eq 155 dX13_readUnit_142 (by decide) (fun g112 => ?_) (fun g112 => ?_)
              · rw [if_pos g112] at h
                refine z_bipush 99 dX13_readUnit_155 (by decide) ?_
                refine z_istore_n [1, 2, 0] [(0, .ref (n0 + 59)), (1, .int r3), (2, .int 99)] dX13_readUnit_157 (by decide) rfl ?_
                refine z_aload_n 0 dX13_readUnit_158 rfl ?_
                refine z_iload_n 2 dX13_readUnit_159 rfl ?_
                refine z_aload_n 0 dX13_readUnit_160 rfl ?_
                refine fg_13_411 (I109 59 32) rfl dX13_readUnit_161 hL.1 hL.2.1 rfl ?_
                have key114 : Z n0 xX13_readUnit (d + 1) 0 0 172 [(0, .ref (n0 + 59)), (1, .int r3), (2, .int 99)] [.int (if (99 : Int32) < (I109 59 32) then 0 else 1), .ref (n0 + 59)] K I109 L110 (z_q0 K Q) := by
                  refine fp_13_395 rfl dX13_readUnit_172 hL.1 hL.2.1 (z_bite (by repeat' (first | exact Or.inl rfl | exact Or.inr rfl | split))) ?_
                  refine z_aload_n 0 dX13_readUnit_175 rfl ?_
                  refine fg_13_395 ((if (99 : Int32) < (I109 59 32) then 0 else 1)) rfl dX13_readUnit_176 hL.1 hL.2.1 rfl ?_
                  refine z_if_ne 231 dX13_readUnit_179 (by decide) (fun g115 => ?_) (fun g115 => ?_)
                  · rw [if_neg g115] at h
                    refine z_iconst 0 dX13_readUnit_231 (by decide) ?_
                    exact z_zretb dX13_readUnit_232 rfl (Or.inl rfl) ⟨rfl, h⟩
                  · rw [if_pos g115] at h
                    refine z_aload_n 0 dX13_readUnit_182 rfl ?_
                    refine z_dup dX13_readUnit_183 rfl ?_
                    refine fg_13_414 (I109 59 39) rfl dX13_readUnit_184 hL.1 hL.2.1 rfl ?_
                    refine z_iconst 1 dX13_readUnit_187 (by decide) ?_
                    refine z_iload_n 2 dX13_readUnit_188 rfl ?_
                    refine z_ishl dX13_readUnit_189 ?_
                    refine z_ior dX13_readUnit_190 ?_
                    refine fp_13_414 rfl dX13_readUnit_191 hL.1 hL.2.1 ?_
                    refine z_aload_n 0 dX13_readUnit_194 rfl ?_
                    refine z_iload_n 1 dX13_readUnit_195 rfl ?_
                    refine z_bipush 120 dX13_readUnit_196 (by decide) ?_
                    obtain ⟨o117, o118, h⟩ := h
                    have key119 : Z n0 xX13_readUnit (d + 1) 0 0 218 [(0, .ref (n0 + 59))] [.long (if r3 = 120 then ((I109 82 99) : Int32).toInt64 else ((I109 83 99) : Int32).toInt64), .ref (n0 + 59)] K (zI (zI I109 59 33 (if (99 : Int32) < (I109 59 32) then 0 else 1)) 59 39 ((I109 59 39) ||| ((1 : Int32) <<< (99 &&& 31 : Int32)))) L110 (z_q0 K Q) := by
                      refine z_callV0 (As := [.long (if r3 = 120 then ((I109 82 99) : Int32).toInt64 else ((I109 83 99) : Int32).toInt64)]) (st := []) dX13_readUnit_218 hy_X13_push hL.1 hL.2.1 (by decide) wg_1879 wg_1881 wg_66 (Nat.le_refl _) (Nat.le_of_ble_eq_true rfl) (RM0.mono h (fun vv I120 L121 h => ?_))
                      obtain ⟨rfl, h⟩ := h
                      change Z n0 xX13_readUnit (d + 1) 0 0 221 [(0, .ref (n0 + 59))] [] K I120 L121 (z_q0 K Q)
                      refine z_aload_n 0 dX13_readUnit_221 rfl ?_
                      refine z_dup dX13_readUnit_222 rfl ?_
                      refine fg_13_348 (I120 59 31) rfl dX13_readUnit_223 hL.1 hL.2.1 rfl ?_
                      refine z_iconst 1 dX13_readUnit_226 (by decide) ?_
                      refine z_iadd dX13_readUnit_227 ?_
                      refine fp_13_348 rfl dX13_readUnit_228 hL.1 hL.2.1 ?_
                      refine z_iconst 0 dX13_readUnit_231 (by decide) ?_
                      exact z_zretb dX13_readUnit_232 rfl (Or.inl rfl) ⟨rfl, h⟩
                    refine z_icmp_ne 211 dX13_readUnit_198 (by decide) (fun g116 => ?_) (fun g116 => ?_)
                    · refine z_aload_n 0 dX13_readUnit_211 rfl ?_
                      refine fg_13_80 (some 83) rfl dX13_readUnit_212 hL.1 hL.2.1 (ma_36 hL).1 ?_
                      refine z_iload_n 2 dX13_readUnit_215 rfl ?_
                      refine z_iald (I109 83 99) dX13_readUnit_216 (ma_36 hL).2.1 (ma_36 hL).2.2 (o117 g116) rfl ?_
                      refine z_i2l dX13_readUnit_217 ?_
                      have ee : ((if r3 = 120 then ((I109 82 99) : Int32).toInt64 else ((I109 83 99) : Int32).toInt64) : Int64) = ((I109 83 99) : Int32).toInt64 := by rw [if_neg g116]
                      rw [ee] at key119
                      clear ee
                      refine z_sub [0] rfl ?_
                      exact key119
                    · refine z_aload_n 0 dX13_readUnit_201 rfl ?_
                      refine fg_13_77 (some 82) rfl dX13_readUnit_202 hL.1 hL.2.1 (ma_35 hL).1 ?_
                      refine z_iload_n 2 dX13_readUnit_205 rfl ?_
                      refine z_iald (I109 82 99) dX13_readUnit_206 (ma_35 hL).2.1 (ma_35 hL).2.2 (o118 g116) rfl ?_
                      refine z_i2l dX13_readUnit_207 ?_
                      refine z_goto 218 dX13_readUnit_208 (by decide) ?_
                      have ee : ((if r3 = 120 then ((I109 82 99) : Int32).toInt64 else ((I109 83 99) : Int32).toInt64) : Int64) = ((I109 82 99) : Int32).toInt64 := by rw [if_pos g116]
                      rw [ee] at key119
                      clear ee
                      refine z_sub [0] rfl ?_
                      exact key119
                refine z_icmp_lt 171 dX13_readUnit_164 (by decide) (fun g113 => ?_) (fun g113 => ?_)
                · refine z_iconst 0 dX13_readUnit_171 (by decide) ?_
                  have ee : ((if (99 : Int32) < (I109 59 32) then 0 else 1) : Int32) = 0 := by rw [if_pos g113]
                  rw [ee] at key114
                  clear ee
                  exact key114
                · refine z_iconst 1 dX13_readUnit_167 (by decide) ?_
                  refine z_goto 172 dX13_readUnit_168 (by decide) ?_
                  have ee : ((if (99 : Int32) < (I109 59 32) then 0 else 1) : Int32) = 1 := by rw [if_neg g113]
                  rw [ee] at key114
                  clear ee
                  exact key114
              · rw [if_neg g112] at h
                refine z_aload_n 0 dX13_readUnit_145 rfl ?_
                refine z_callV0 (As := []) (st := []) dX13_readUnit_146 hy_X13_here hL.1 hL.2.1 (by decide) wg_1871 wg_1873 wg_64 (Nat.le_refl _) (Nat.le_of_ble_eq_true rfl) (RM0.mono h (fun vv I122 L123 h => ?_))
                obtain ⟨r124, rfl, h⟩ := h
                change Z n0 xX13_readUnit (d + 1) 0 0 149 [(0, .ref (n0 + 59)), (1, .int r3)] [.int r124] K I122 L123 (z_q0 K Q)
                refine z_bipush 48 dX13_readUnit_149 (by decide) ?_
                refine z_isub dX13_readUnit_151 ?_
                refine z_goto 157 dX13_readUnit_152 (by decide) ?_
                refine z_istore_n [1, 2, 0] [(0, .ref (n0 + 59)), (1, .int r3), (2, .int (r124 - 48))] dX13_readUnit_157 (by decide) rfl ?_
                refine z_aload_n 0 dX13_readUnit_158 rfl ?_
                refine z_iload_n 2 dX13_readUnit_159 rfl ?_
                refine z_aload_n 0 dX13_readUnit_160 rfl ?_
                refine fg_13_411 (I122 59 32) rfl dX13_readUnit_161 hL.1 hL.2.1 rfl ?_
                have key126 : Z n0 xX13_readUnit (d + 1) 0 0 172 [(0, .ref (n0 + 59)), (1, .int r3), (2, .int (r124 - 48))] [.int (if ((r124 - 48) : Int32) < (I122 59 32) then 0 else 1), .ref (n0 + 59)] K I122 L123 (z_q0 K Q) := by
                  refine fp_13_395 rfl dX13_readUnit_172 hL.1 hL.2.1 (z_bite (by repeat' (first | exact Or.inl rfl | exact Or.inr rfl | split))) ?_
                  refine z_aload_n 0 dX13_readUnit_175 rfl ?_
                  refine fg_13_395 ((if ((r124 - 48) : Int32) < (I122 59 32) then 0 else 1)) rfl dX13_readUnit_176 hL.1 hL.2.1 rfl ?_
                  refine z_if_ne 231 dX13_readUnit_179 (by decide) (fun g127 => ?_) (fun g127 => ?_)
                  · rw [if_neg g127] at h
                    refine z_iconst 0 dX13_readUnit_231 (by decide) ?_
                    exact z_zretb dX13_readUnit_232 rfl (Or.inl rfl) ⟨rfl, h⟩
                  · rw [if_pos g127] at h
                    refine z_aload_n 0 dX13_readUnit_182 rfl ?_
                    refine z_dup dX13_readUnit_183 rfl ?_
                    refine fg_13_414 (I122 59 39) rfl dX13_readUnit_184 hL.1 hL.2.1 rfl ?_
                    refine z_iconst 1 dX13_readUnit_187 (by decide) ?_
                    refine z_iload_n 2 dX13_readUnit_188 rfl ?_
                    refine z_ishl dX13_readUnit_189 ?_
                    refine z_ior dX13_readUnit_190 ?_
                    refine fp_13_414 rfl dX13_readUnit_191 hL.1 hL.2.1 ?_
                    refine z_aload_n 0 dX13_readUnit_194 rfl ?_
                    refine z_iload_n 1 dX13_readUnit_195 rfl ?_
                    refine z_bipush 120 dX13_readUnit_196 (by decide) ?_
                    obtain ⟨o129, o130, h⟩ := h
                    have key131 : Z n0 xX13_readUnit (d + 1) 0 0 218 [(0, .ref (n0 + 59))] [.long (if r3 = 120 then ((I122 82 ((r124 - 48).toNatClampNeg)) : Int32).toInt64 else ((I122 83 ((r124 - 48).toNatClampNeg)) : Int32).toInt64), .ref (n0 + 59)] K (zI (zI I122 59 33 (if ((r124 - 48) : Int32) < (I122 59 32) then 0 else 1)) 59 39 ((I122 59 39) ||| ((1 : Int32) <<< ((r124 - 48) &&& 31 : Int32)))) L123 (z_q0 K Q) := by
                      refine z_callV0 (As := [.long (if r3 = 120 then ((I122 82 ((r124 - 48).toNatClampNeg)) : Int32).toInt64 else ((I122 83 ((r124 - 48).toNatClampNeg)) : Int32).toInt64)]) (st := []) dX13_readUnit_218 hy_X13_push hL.1 hL.2.1 (by decide) wg_1879 wg_1881 wg_66 (Nat.le_refl _) (Nat.le_of_ble_eq_true rfl) (RM0.mono h (fun vv I132 L133 h => ?_))
                      obtain ⟨rfl, h⟩ := h
                      change Z n0 xX13_readUnit (d + 1) 0 0 221 [(0, .ref (n0 + 59))] [] K I132 L133 (z_q0 K Q)
                      refine z_aload_n 0 dX13_readUnit_221 rfl ?_
                      refine z_dup dX13_readUnit_222 rfl ?_
                      refine fg_13_348 (I132 59 31) rfl dX13_readUnit_223 hL.1 hL.2.1 rfl ?_
                      refine z_iconst 1 dX13_readUnit_226 (by decide) ?_
                      refine z_iadd dX13_readUnit_227 ?_
                      refine fp_13_348 rfl dX13_readUnit_228 hL.1 hL.2.1 ?_
                      refine z_iconst 0 dX13_readUnit_231 (by decide) ?_
                      exact z_zretb dX13_readUnit_232 rfl (Or.inl rfl) ⟨rfl, h⟩
                    refine z_icmp_ne 211 dX13_readUnit_198 (by decide) (fun g128 => ?_) (fun g128 => ?_)
                    · refine z_aload_n 0 dX13_readUnit_211 rfl ?_
                      refine fg_13_80 (some 83) rfl dX13_readUnit_212 hL.1 hL.2.1 (ma_36 hL).1 ?_
                      refine z_iload_n 2 dX13_readUnit_215 rfl ?_
                      refine z_iald (I122 83 ((r124 - 48).toNatClampNeg)) dX13_readUnit_216 (ma_36 hL).2.1 (ma_36 hL).2.2 (o129 g128) rfl ?_
                      refine z_i2l dX13_readUnit_217 ?_
                      have ee : ((if r3 = 120 then ((I122 82 ((r124 - 48).toNatClampNeg)) : Int32).toInt64 else ((I122 83 ((r124 - 48).toNatClampNeg)) : Int32).toInt64) : Int64) = ((I122 83 ((r124 - 48).toNatClampNeg)) : Int32).toInt64 := by rw [if_neg g128]
                      rw [ee] at key131
                      clear ee
                      refine z_sub [0] rfl ?_
                      exact key131
                    · refine z_aload_n 0 dX13_readUnit_201 rfl ?_
                      refine fg_13_77 (some 82) rfl dX13_readUnit_202 hL.1 hL.2.1 (ma_35 hL).1 ?_
                      refine z_iload_n 2 dX13_readUnit_205 rfl ?_
                      refine z_iald (I122 82 ((r124 - 48).toNatClampNeg)) dX13_readUnit_206 (ma_35 hL).2.1 (ma_35 hL).2.2 (o130 g128) rfl ?_
                      refine z_i2l dX13_readUnit_207 ?_
                      refine z_goto 218 dX13_readUnit_208 (by decide) ?_
                      have ee : ((if r3 = 120 then ((I122 82 ((r124 - 48).toNatClampNeg)) : Int32).toInt64 else ((I122 83 ((r124 - 48).toNatClampNeg)) : Int32).toInt64) : Int64) = ((I122 82 ((r124 - 48).toNatClampNeg)) : Int32).toInt64 := by rw [if_pos g128]
                      rw [ee] at key131
                      clear ee
                      refine z_sub [0] rfl ?_
                      exact key131
                refine z_icmp_lt 171 dX13_readUnit_164 (by decide) (fun g125 => ?_) (fun g125 => ?_)
                · refine z_iconst 0 dX13_readUnit_171 (by decide) ?_
                  have ee : ((if ((r124 - 48) : Int32) < (I122 59 32) then 0 else 1) : Int32) = 0 := by rw [if_pos g125]
                  rw [ee] at key126
                  clear ee
                  exact key126
                · refine z_iconst 1 dX13_readUnit_167 (by decide) ?_
                  refine z_goto 172 dX13_readUnit_168 (by decide) ?_
                  have ee : ((if ((r124 - 48) : Int32) < (I122 59 32) then 0 else 1) : Int32) = 1 := by rw [if_neg g125]
                  rw [ee] at key126
                  clear ee
                  exact key126
        · rw [if_neg g70] at h
          refine z_aload_n 0 dX13_readUnit_72 rfl ?_
          refine z_dup dX13_readUnit_73 rfl ?_
          refine fg_13_405 (I1 59 38) rfl dX13_readUnit_74 hL.1 hL.2.1 rfl ?_
          refine z_iconst 1 dX13_readUnit_77 (by decide) ?_
          refine z_iload_n 1 dX13_readUnit_78 rfl ?_
          refine z_bipush 97 dX13_readUnit_79 (by decide) ?_
          refine z_isub dX13_readUnit_81 ?_
          refine z_ishl dX13_readUnit_82 ?_
          refine z_ior dX13_readUnit_83 ?_
          refine fp_13_405 rfl dX13_readUnit_84 hL.1 hL.2.1 ?_
          refine z_aload_n 0 dX13_readUnit_87 rfl ?_
          refine z_aload_n 0 dX13_readUnit_88 rfl ?_
          refine fg_13_83 (some 84) rfl dX13_readUnit_89 hL.1 hL.2.1 (ma_37 hL).1 ?_
          refine z_iload_n 1 dX13_readUnit_92 rfl ?_
          refine z_bipush 97 dX13_readUnit_93 (by decide) ?_
          refine z_isub dX13_readUnit_95 ?_
          obtain ⟨o134, h⟩ := h
          refine z_iald (I1 84 ((r3 - 97).toNatClampNeg)) dX13_readUnit_96 (ma_37 hL).2.1 (ma_37 hL).2.2 o134 rfl ?_
          refine z_i2l dX13_readUnit_97 ?_
          refine z_callV0 (As := [.long (((I1 84 ((r3 - 97).toNatClampNeg)) : Int32).toInt64)]) (st := []) dX13_readUnit_98 hy_X13_push hL.1 hL.2.1 (by decide) wg_1879 wg_1881 wg_66 (Nat.le_refl _) (Nat.le_of_ble_eq_true rfl) (RM0.mono h (fun vv I135 L136 h => ?_))
          obtain ⟨rfl, h⟩ := h
          change Z n0 xX13_readUnit (d + 1) 0 0 101 [(0, .ref (n0 + 59)), (1, .int r3)] [] K I135 L136 (z_q0 K Q)
          refine z_aload_n 0 dX13_readUnit_101 rfl ?_
          refine z_dup dX13_readUnit_102 rfl ?_
          refine fg_13_348 (I135 59 31) rfl dX13_readUnit_103 hL.1 hL.2.1 rfl ?_
          refine z_iconst 1 dX13_readUnit_106 (by decide) ?_
          refine z_iadd dX13_readUnit_107 ?_
          refine fp_13_348 rfl dX13_readUnit_108 hL.1 hL.2.1 ?_
          refine z_iconst 0 dX13_readUnit_111 (by decide) ?_
          exact z_zretb dX13_readUnit_112 rfl (Or.inl rfl) ⟨rfl, h⟩
    · rw [if_pos g5] at h
      refine z_aload_n 0 dX13_readUnit_25 rfl ?_
      refine z_dup dX13_readUnit_26 rfl ?_
      refine fg_13_348 (I1 59 31) rfl dX13_readUnit_27 hL.1 hL.2.1 rfl ?_
      refine z_iconst 1 dX13_readUnit_30 (by decide) ?_
      refine z_iadd dX13_readUnit_31 ?_
      refine fp_13_348 rfl dX13_readUnit_32 hL.1 hL.2.1 ?_
      refine z_aload_n 0 dX13_readUnit_35 rfl ?_
      refine z_callV0 (As := []) (st := []) dX13_readUnit_36 hy_X13_here hL.1 hL.2.1 (by decide) wg_1871 wg_1873 wg_64 (Nat.le_refl _) (Nat.le_of_ble_eq_true rfl) (RM0.mono h (fun vv I137 L138 h => ?_))
      obtain ⟨r139, rfl, h⟩ := h
      change Z n0 xX13_readUnit (d + 1) 0 0 39 [(0, .ref (n0 + 59)), (1, .int r3)] [.int r139] K I137 L138 (z_q0 K Q)
      refine z_bipush 40 dX13_readUnit_39 (by decide) ?_
      refine z_icmp_ne 53 dX13_readUnit_41 (by decide) (fun g140 => ?_) (fun g140 => ?_)
      · rw [if_neg g140] at h
        refine z_aload_n 0 dX13_readUnit_53 rfl ?_
        refine z_iconst 1 dX13_readUnit_54 (by decide) ?_
        refine fp_13_395 rfl dX13_readUnit_55 hL.1 hL.2.1 (Or.inr rfl) ?_
        refine z_iconst 1 dX13_readUnit_58 (by decide) ?_
        exact z_zretb dX13_readUnit_59 rfl (Or.inr rfl) ⟨rfl, h⟩
      · rw [if_pos g140] at h
        refine z_aload_n 0 dX13_readUnit_44 rfl ?_
        refine z_bipush 114 dX13_readUnit_45 (by decide) ?_
        refine z_callV0 (As := [.int 114]) (st := []) dX13_readUnit_47 hy_X13_opens hL.1 hL.2.1 (by decide) wg_1875 wg_1877 wg_65 (Nat.le_refl _) (Nat.le_of_ble_eq_true rfl) (RM0.mono h (fun vv I141 L142 h => ?_))
        obtain ⟨rfl, h⟩ := h
        change Z n0 xX13_readUnit (d + 1) 0 0 50 [(0, .ref (n0 + 59)), (1, .int r3)] [] K I141 L142 (z_q0 K Q)
        refine z_goto 58 dX13_readUnit_50 (by decide) ?_
        refine z_iconst 1 dX13_readUnit_58 (by decide) ?_
        exact z_zretb dX13_readUnit_59 rfl (Or.inr rfl) ⟨rfl, h⟩
  · rw [if_pos g4] at h
    refine z_aload_n 0 dX13_readUnit_11 rfl ?_
    refine z_bipush 40 dX13_readUnit_12 (by decide) ?_
    refine z_callV0 (As := [.int 40]) (st := []) dX13_readUnit_14 hy_X13_opens hL.1 hL.2.1 (by decide) wg_1875 wg_1877 wg_65 (Nat.le_refl _) (Nat.le_of_ble_eq_true rfl) (RM0.mono h (fun vv I143 L144 h => ?_))
    obtain ⟨rfl, h⟩ := h
    change Z n0 xX13_readUnit (d + 1) 0 0 17 [(0, .ref (n0 + 59)), (1, .int r3)] [] K I143 L144 (z_q0 K Q)
    refine z_iconst 1 dX13_readUnit_17 (by decide) ?_
    exact z_zretb dX13_readUnit_18 rfl (Or.inr rfl) ⟨rfl, h⟩
set_option maxRecDepth 100000 in
set_option maxHeartbeats 4000000 in
theorem wp_X13_readUnit_254 {n0 d : Nat} {rc rs : Nat} {K : z_K} {I : z_I} {L : z_L} {Q : z_q} {a2 : Int64} {a4 : Int32} (hL : MLay K) (h : (if a4 < 4 then RM0 n0 xX13_here d [.ref (n0 + 59)] K I L (fun vv I4 L5 => ∃ r6 : Int32, vv = some (.int r6) ∧ RM0 n0 xX13_isDigit d [.int r6] K I4 L5 (fun vv I7 L8 => ∃ r9 : Int32, vv = some (.int r9) ∧ (if r9 = 0 then RM0 n0 xX13_push d [.ref (n0 + 59), .long a2] K I7 L8 (fun vv I11 L12 => vv = none ∧ Q (some (.int 0)) I11 L12) else RM0 n0 xX13_here d [.ref (n0 + 59)] K I7 L8 (fun vv I13 L14 => ∃ r15 : Int32, vv = some (.int r15) ∧ Z n0 xX13_readUnit (d + 1) rc rs 254 [(0, .ref (n0 + 59)), (2, .long (((10 * a2) + r15.toInt64) - 48)), (4, .int (a4 + 1))] [] K (zI I13 59 31 ((I13 59 31) + 1)) L14 (z_q0 K Q))))) else RM0 n0 xX13_push d [.ref (n0 + 59), .long a2] K I L (fun vv I2 L3 => vv = none ∧ Q (some (.int 0)) I2 L3))) : Z n0 xX13_readUnit (d + 1) rc rs 254 [(0, .ref (n0 + 59)), (2, .long a2), (4, .int a4)] [] K I L (z_q0 K Q) := by
  refine z_iload 2 dX13_readUnit_254 rfl ?_
  refine z_iconst 4 dX13_readUnit_256 (by decide) ?_
  refine z_icmp_ge 302 dX13_readUnit_257 (by decide) (fun g1 => ?_) (fun g1 => ?_)
  · rw [if_neg g1] at h
    refine z_aload_n 0 dX13_readUnit_302 rfl ?_
    refine z_lload_n 1 dX13_readUnit_303 rfl ?_
    refine z_callV0 (As := [.long a2]) (st := []) dX13_readUnit_304 hy_X13_push hL.1 hL.2.1 (by decide) wg_1879 wg_1881 wg_66 (Nat.le_refl _) (Nat.le_of_ble_eq_true rfl) (RM0.mono h (fun vv I2 L3 h => ?_))
    obtain ⟨rfl, h⟩ := h
    change Z n0 xX13_readUnit (d + 1) rc rs 307 [(0, .ref (n0 + 59)), (2, .long a2), (4, .int a4)] [] K I2 L3 (z_q0 K Q)
    refine z_iconst 0 dX13_readUnit_307 (by decide) ?_
    exact z_zretb dX13_readUnit_308 rfl (Or.inl rfl) ⟨rfl, h⟩
  · rw [if_pos g1] at h
    refine z_aload_n 0 dX13_readUnit_260 rfl ?_
    refine z_callV0 (As := []) (st := []) dX13_readUnit_261 hy_X13_here hL.1 hL.2.1 (by decide) wg_1871 wg_1873 wg_64 (Nat.le_refl _) (Nat.le_of_ble_eq_true rfl) (RM0.mono h (fun vv I4 L5 h => ?_))
    obtain ⟨r6, rfl, h⟩ := h
    change Z n0 xX13_readUnit (d + 1) rc rs 264 [(0, .ref (n0 + 59)), (2, .long a2), (4, .int a4)] [.int r6] K I4 L5 (z_q0 K Q)
    refine z_callS0 (As := [.int r6]) (st := []) dX13_readUnit_264 hy_X13_isDigit wg_1885 wg_1886 (Nat.le_refl _) (Nat.le_of_ble_eq_true rfl) (RM0.mono h (fun vv I7 L8 h => ?_))
    obtain ⟨r9, rfl, h⟩ := h
    change Z n0 xX13_readUnit (d + 1) rc rs 267 [(0, .ref (n0 + 59)), (2, .long a2), (4, .int a4)] [.int r9] K I7 L8 (z_q0 K Q)
    refine z_if_eq 302 dX13_readUnit_267 (by decide) (fun g10 => ?_) (fun g10 => ?_)
    · rw [if_pos g10] at h
      refine z_aload_n 0 dX13_readUnit_302 rfl ?_
      refine z_lload_n 1 dX13_readUnit_303 rfl ?_
      refine z_callV0 (As := [.long a2]) (st := []) dX13_readUnit_304 hy_X13_push hL.1 hL.2.1 (by decide) wg_1879 wg_1881 wg_66 (Nat.le_refl _) (Nat.le_of_ble_eq_true rfl) (RM0.mono h (fun vv I11 L12 h => ?_))
      obtain ⟨rfl, h⟩ := h
      change Z n0 xX13_readUnit (d + 1) rc rs 307 [(0, .ref (n0 + 59)), (2, .long a2), (4, .int a4)] [] K I11 L12 (z_q0 K Q)
      refine z_iconst 0 dX13_readUnit_307 (by decide) ?_
      exact z_zretb dX13_readUnit_308 rfl (Or.inl rfl) ⟨rfl, h⟩
    · rw [if_neg g10] at h
      refine z_ldc2_w 10 dX13_readUnit_270 wg_1796 ?_
      refine z_lload_n 1 dX13_readUnit_273 rfl ?_
      refine z_lmul dX13_readUnit_274 ?_
      refine z_aload_n 0 dX13_readUnit_275 rfl ?_
      refine z_callV0 (As := []) (st := [.long (10 * a2)]) dX13_readUnit_276 hy_X13_here hL.1 hL.2.1 (by decide) wg_1871 wg_1873 wg_64 (Nat.le_refl _) (Nat.le_of_ble_eq_true rfl) (RM0.mono h (fun vv I13 L14 h => ?_))
      obtain ⟨r15, rfl, h⟩ := h
      change Z n0 xX13_readUnit (d + 1) rc rs 279 [(0, .ref (n0 + 59)), (2, .long a2), (4, .int a4)] [.int r15, .long (10 * a2)] K I13 L14 (z_q0 K Q)
      refine z_i2l dX13_readUnit_279 ?_
      refine z_ladd dX13_readUnit_280 ?_
      refine z_ldc2_w 48 dX13_readUnit_281 wg_1888 ?_
      refine z_lsub dX13_readUnit_284 ?_
      refine z_lstore_n [1, 0, 2] [(0, .ref (n0 + 59)), (2, .long (((10 * a2) + r15.toInt64) - 48)), (4, .int a4)] dX13_readUnit_285 (by decide) rfl ?_
      refine z_aload_n 0 dX13_readUnit_286 rfl ?_
      refine z_dup dX13_readUnit_287 rfl ?_
      refine fg_13_348 (I13 59 31) rfl dX13_readUnit_288 hL.1 hL.2.1 rfl ?_
      refine z_iconst 1 dX13_readUnit_291 (by decide) ?_
      refine z_iadd dX13_readUnit_292 ?_
      refine fp_13_348 rfl dX13_readUnit_293 hL.1 hL.2.1 ?_
      refine z_iinc (j := 2) (a4 + 1) [1, 2, 0] [(0, .ref (n0 + 59)), (2, .long (((10 * a2) + r15.toInt64) - 48)), (4, .int (a4 + 1))] dX13_readUnit_296 rfl rfl (by decide) rfl ?_
      refine z_goto 254 dX13_readUnit_299 (by decide) ?_
      exact h
theorem dX13_readSign_0 : decode cX13_readSign 0 = .ok (.aload_n 0, 1) := by decide +kernel
theorem dX13_readSign_1 : decode cX13_readSign 1 = .ok (.invokevirtual 398, 3) := by decide +kernel
theorem dX13_readSign_4 : decode cX13_readSign 4 = .ok (.istore_n 1, 1) := by decide +kernel
theorem dX13_readSign_5 : decode cX13_readSign 5 = .ok (.iload_n 1, 1) := by decide +kernel
theorem dX13_readSign_6 : decode cX13_readSign 6 = .ok (.bipush 42, 2) := by decide +kernel
theorem dX13_readSign_8 : decode cX13_readSign 8 = .ok (.if_icmp .eq 21, 3) := by decide +kernel
theorem dX13_readSign_11 : decode cX13_readSign 11 = .ok (.iload_n 1, 1) := by decide +kernel
theorem dX13_readSign_12 : decode cX13_readSign 12 = .ok (.bipush 47, 2) := by decide +kernel
theorem dX13_readSign_14 : decode cX13_readSign 14 = .ok (.if_icmp .eq 15, 3) := by decide +kernel
theorem dX13_readSign_17 : decode cX13_readSign 17 = .ok (.iload_n 1, 1) := by decide +kernel
theorem dX13_readSign_18 : decode cX13_readSign 18 = .ok (.bipush 43, 2) := by decide +kernel
theorem dX13_readSign_20 : decode cX13_readSign 20 = .ok (.if_icmp .eq 9, 3) := by decide +kernel
theorem dX13_readSign_23 : decode cX13_readSign 23 = .ok (.iload_n 1, 1) := by decide +kernel
theorem dX13_readSign_24 : decode cX13_readSign 24 = .ok (.bipush 45, 2) := by decide +kernel
theorem dX13_readSign_26 : decode cX13_readSign 26 = .ok (.if_icmp .ne 55, 3) := by decide +kernel
theorem dX13_readSign_29 : decode cX13_readSign 29 = .ok (.aload_n 0, 1) := by decide +kernel
theorem dX13_readSign_30 : decode cX13_readSign 30 = .ok (.invokevirtual 389, 3) := by decide +kernel
theorem dX13_readSign_33 : decode cX13_readSign 33 = .ok (.iload_n 1, 1) := by decide +kernel
theorem dX13_readSign_34 : decode cX13_readSign 34 = .ok (.bipush 43, 2) := by decide +kernel
theorem dX13_readSign_36 : decode cX13_readSign 36 = .ok (.if_icmp .eq 9, 3) := by decide +kernel
theorem dX13_readSign_39 : decode cX13_readSign 39 = .ok (.iload_n 1, 1) := by decide +kernel
theorem dX13_readSign_40 : decode cX13_readSign 40 = .ok (.bipush 45, 2) := by decide +kernel
theorem dX13_readSign_42 : decode cX13_readSign 42 = .ok (.if_icmp .ne 7, 3) := by decide +kernel
theorem dX13_readSign_45 : decode cX13_readSign 45 = .ok (.aload_n 0, 1) := by decide +kernel
theorem dX13_readSign_46 : decode cX13_readSign 46 = .ok (.invokevirtual 419, 3) := by decide +kernel
theorem dX13_readSign_49 : decode cX13_readSign 49 = .ok (.aload_n 0, 1) := by decide +kernel
theorem dX13_readSign_50 : decode cX13_readSign 50 = .ok (.getfield 90, 3) := by decide +kernel
theorem dX13_readSign_53 : decode cX13_readSign 53 = .ok (.aload_n 0, 1) := by decide +kernel
theorem dX13_readSign_54 : decode cX13_readSign 54 = .ok (.getfield 361, 3) := by decide +kernel
theorem dX13_readSign_57 : decode cX13_readSign 57 = .ok (.iload_n 1, 1) := by decide +kernel
theorem dX13_readSign_58 : decode cX13_readSign 58 = .ok (.iastore, 1) := by decide +kernel
theorem dX13_readSign_59 : decode cX13_readSign 59 = .ok (.aload_n 0, 1) := by decide +kernel
theorem dX13_readSign_60 : decode cX13_readSign 60 = .ok (.dup, 1) := by decide +kernel
theorem dX13_readSign_61 : decode cX13_readSign 61 = .ok (.getfield 361, 3) := by decide +kernel
theorem dX13_readSign_64 : decode cX13_readSign 64 = .ok (.iconst 1, 1) := by decide +kernel
theorem dX13_readSign_65 : decode cX13_readSign 65 = .ok (.iadd, 1) := by decide +kernel
theorem dX13_readSign_66 : decode cX13_readSign 66 = .ok (.putfield 361, 3) := by decide +kernel
theorem dX13_readSign_69 : decode cX13_readSign 69 = .ok (.aload_n 0, 1) := by decide +kernel
theorem dX13_readSign_70 : decode cX13_readSign 70 = .ok (.dup, 1) := by decide +kernel
theorem dX13_readSign_71 : decode cX13_readSign 71 = .ok (.getfield 348, 3) := by decide +kernel
theorem dX13_readSign_74 : decode cX13_readSign 74 = .ok (.iconst 1, 1) := by decide +kernel
theorem dX13_readSign_75 : decode cX13_readSign 75 = .ok (.iadd, 1) := by decide +kernel
theorem dX13_readSign_76 : decode cX13_readSign 76 = .ok (.putfield 348, 3) := by decide +kernel
theorem dX13_readSign_79 : decode cX13_readSign 79 = .ok (.iconst 1, 1) := by decide +kernel
theorem dX13_readSign_80 : decode cX13_readSign 80 = .ok (.ireturn, 1) := by decide +kernel
theorem dX13_readSign_81 : decode cX13_readSign 81 = .ok (.aload_n 0, 1) := by decide +kernel
theorem dX13_readSign_82 : decode cX13_readSign 82 = .ok (.invokevirtual 419, 3) := by decide +kernel
theorem dX13_readSign_85 : decode cX13_readSign 85 = .ok (.aload_n 0, 1) := by decide +kernel
theorem dX13_readSign_86 : decode cX13_readSign 86 = .ok (.invokevirtual 382, 3) := by decide +kernel
theorem dX13_readSign_89 : decode cX13_readSign 89 = .ok (.istore_n 2, 1) := by decide +kernel
theorem dX13_readSign_90 : decode cX13_readSign 90 = .ok (.iload_n 1, 1) := by decide +kernel
theorem dX13_readSign_91 : decode cX13_readSign 91 = .ok (.bipush 41, 2) := by decide +kernel
theorem dX13_readSign_93 : decode cX13_readSign 93 = .ok (.if_icmp .ne 112, 3) := by decide +kernel
theorem dX13_readSign_96 : decode cX13_readSign 96 = .ok (.iload_n 2, 1) := by decide +kernel
theorem dX13_readSign_97 : decode cX13_readSign 97 = .ok (.bipush 40, 2) := by decide +kernel
theorem dX13_readSign_99 : decode cX13_readSign 99 = .ok (.if_icmp .eq 9, 3) := by decide +kernel
theorem dX13_readSign_102 : decode cX13_readSign 102 = .ok (.iload_n 2, 1) := by decide +kernel
theorem dX13_readSign_103 : decode cX13_readSign 103 = .ok (.bipush 114, 2) := by decide +kernel
theorem dX13_readSign_105 : decode cX13_readSign 105 = .ok (.if_icmp .ne 100, 3) := by decide +kernel
theorem dX13_readSign_108 : decode cX13_readSign 108 = .ok (.aload_n 0, 1) := by decide +kernel
theorem dX13_readSign_109 : decode cX13_readSign 109 = .ok (.dup, 1) := by decide +kernel
theorem dX13_readSign_110 : decode cX13_readSign 110 = .ok (.getfield 361, 3) := by decide +kernel
theorem dX13_readSign_113 : decode cX13_readSign 113 = .ok (.iconst 1, 1) := by decide +kernel
theorem dX13_readSign_114 : decode cX13_readSign 114 = .ok (.isub, 1) := by decide +kernel
theorem dX13_readSign_115 : decode cX13_readSign 115 = .ok (.putfield 361, 3) := by decide +kernel
theorem dX13_readSign_118 : decode cX13_readSign 118 = .ok (.aload_n 0, 1) := by decide +kernel
theorem dX13_readSign_119 : decode cX13_readSign 119 = .ok (.dup, 1) := by decide +kernel
theorem dX13_readSign_120 : decode cX13_readSign 120 = .ok (.getfield 392, 3) := by decide +kernel
theorem dX13_readSign_123 : decode cX13_readSign 123 = .ok (.iconst 1, 1) := by decide +kernel
theorem dX13_readSign_124 : decode cX13_readSign 124 = .ok (.isub, 1) := by decide +kernel
theorem dX13_readSign_125 : decode cX13_readSign 125 = .ok (.putfield 392, 3) := by decide +kernel
theorem dX13_readSign_128 : decode cX13_readSign 128 = .ok (.aload_n 0, 1) := by decide +kernel
theorem dX13_readSign_129 : decode cX13_readSign 129 = .ok (.dup, 1) := by decide +kernel
theorem dX13_readSign_130 : decode cX13_readSign 130 = .ok (.getfield 348, 3) := by decide +kernel
theorem dX13_readSign_133 : decode cX13_readSign 133 = .ok (.iconst 1, 1) := by decide +kernel
theorem dX13_readSign_134 : decode cX13_readSign 134 = .ok (.iadd, 1) := by decide +kernel
theorem dX13_readSign_135 : decode cX13_readSign 135 = .ok (.putfield 348, 3) := by decide +kernel
theorem dX13_readSign_138 : decode cX13_readSign 138 = .ok (.iload_n 2, 1) := by decide +kernel
theorem dX13_readSign_139 : decode cX13_readSign 139 = .ok (.bipush 114, 2) := by decide +kernel
theorem dX13_readSign_141 : decode cX13_readSign 141 = .ok (.if_icmp .ne 62, 3) := by decide +kernel
theorem dX13_readSign_144 : decode cX13_readSign 144 = .ok (.aload_n 0, 1) := by decide +kernel
theorem dX13_readSign_145 : decode cX13_readSign 145 = .ok (.getfield 86, 3) := by decide +kernel
theorem dX13_readSign_148 : decode cX13_readSign 148 = .ok (.aload_n 0, 1) := by decide +kernel
theorem dX13_readSign_149 : decode cX13_readSign 149 = .ok (.getfield 375, 3) := by decide +kernel
theorem dX13_readSign_152 : decode cX13_readSign 152 = .ok (.iconst 1, 1) := by decide +kernel
theorem dX13_readSign_153 : decode cX13_readSign 153 = .ok (.isub, 1) := by decide +kernel
theorem dX13_readSign_154 : decode cX13_readSign 154 = .ok (.laload, 1) := by decide +kernel
theorem dX13_readSign_155 : decode cX13_readSign 155 = .ok (.lstore_n 3, 1) := by decide +kernel
theorem dX13_readSign_156 : decode cX13_readSign 156 = .ok (.aload_n 0, 1) := by decide +kernel
theorem dX13_readSign_157 : decode cX13_readSign 157 = .ok (.aload_n 0, 1) := by decide +kernel
theorem dX13_readSign_158 : decode cX13_readSign 158 = .ok (.getfield 368, 3) := by decide +kernel
theorem dX13_readSign_161 : decode cX13_readSign 161 = .ok (.ifCond .ne 9, 3) := by decide +kernel
theorem dX13_readSign_164 : decode cX13_readSign 164 = .ok (.lload_n 3, 1) := by decide +kernel
theorem dX13_readSign_165 : decode cX13_readSign 165 = .ok (.lconst 0, 1) := by decide +kernel
theorem dX13_readSign_166 : decode cX13_readSign 166 = .ok (.lcmp, 1) := by decide +kernel
theorem dX13_readSign_167 : decode cX13_readSign 167 = .ok (.ifCond .ge 7, 3) := by decide +kernel
theorem dX13_readSign_170 : decode cX13_readSign 170 = .ok (.iconst 1, 1) := by decide +kernel
theorem dX13_readSign_171 : decode cX13_readSign 171 = .ok (.goto 4, 3) := by decide +kernel
theorem dX13_readSign_174 : decode cX13_readSign 174 = .ok (.iconst 0, 1) := by decide +kernel
theorem dX13_readSign_175 : decode cX13_readSign 175 = .ok (.putfield 368, 3) := by decide +kernel
theorem dX13_readSign_178 : decode cX13_readSign 178 = .ok (.aload_n 0, 1) := by decide +kernel
theorem dX13_readSign_179 : decode cX13_readSign 179 = .ok (.getfield 86, 3) := by decide +kernel
theorem dX13_readSign_182 : decode cX13_readSign 182 = .ok (.aload_n 0, 1) := by decide +kernel
theorem dX13_readSign_183 : decode cX13_readSign 183 = .ok (.getfield 375, 3) := by decide +kernel
theorem dX13_readSign_186 : decode cX13_readSign 186 = .ok (.iconst 1, 1) := by decide +kernel
theorem dX13_readSign_187 : decode cX13_readSign 187 = .ok (.isub, 1) := by decide +kernel
theorem dX13_readSign_188 : decode cX13_readSign 188 = .ok (.lload_n 3, 1) := by decide +kernel
theorem dX13_readSign_189 : decode cX13_readSign 189 = .ok (.lconst 0, 1) := by decide +kernel
theorem dX13_readSign_190 : decode cX13_readSign 190 = .ok (.lcmp, 1) := by decide +kernel
theorem dX13_readSign_191 : decode cX13_readSign 191 = .ok (.ifCond .ge 7, 3) := by decide +kernel
theorem dX13_readSign_194 : decode cX13_readSign 194 = .ok (.lconst 0, 1) := by decide +kernel
theorem dX13_readSign_195 : decode cX13_readSign 195 = .ok (.goto 7, 3) := by decide +kernel
theorem dX13_readSign_198 : decode cX13_readSign 198 = .ok (.lload_n 3, 1) := by decide +kernel
theorem dX13_readSign_199 : decode cX13_readSign 199 = .ok (.invokestatic 422, 3) := by decide +kernel
theorem dX13_readSign_202 : decode cX13_readSign 202 = .ok (.lastore, 1) := by decide +kernel
theorem dX13_readSign_203 : decode cX13_readSign 203 = .ok (.iconst 0, 1) := by decide +kernel
theorem dX13_readSign_204 : decode cX13_readSign 204 = .ok (.ireturn, 1) := by decide +kernel
theorem dX13_readSign_205 : decode cX13_readSign 205 = .ok (.aload_n 0, 1) := by decide +kernel
theorem dX13_readSign_206 : decode cX13_readSign 206 = .ok (.iconst 1, 1) := by decide +kernel
theorem dX13_readSign_207 : decode cX13_readSign 207 = .ok (.putfield 426, 3) := by decide +kernel
theorem dX13_readSign_210 : decode cX13_readSign 210 = .ok (.aload_n 0, 1) := by decide +kernel
theorem dX13_readSign_211 : decode cX13_readSign 211 = .ok (.iload_n 2, 1) := by decide +kernel
theorem dX13_readSign_212 : decode cX13_readSign 212 = .ok (.ifCond .eq 7, 3) := by decide +kernel
theorem dX13_readSign_215 : decode cX13_readSign 215 = .ok (.iconst 1, 1) := by decide +kernel
theorem dX13_readSign_216 : decode cX13_readSign 216 = .ok (.goto 4, 3) := by decide +kernel
theorem dX13_readSign_219 : decode cX13_readSign 219 = .ok (.iconst 0, 1) := by decide +kernel
theorem dX13_readSign_220 : decode cX13_readSign 220 = .ok (.putfield 395, 3) := by decide +kernel
theorem dX13_readSign_223 : decode cX13_readSign 223 = .ok (.iconst 0, 1) := by decide +kernel
theorem dX13_readSign_224 : decode cX13_readSign 224 = .ok (.ireturn, 1) := by decide +kernel
set_option maxRecDepth 100000 in
set_option maxHeartbeats 4000000 in
theorem wp_X13_readSign {n0 d : Nat} {K : z_K} {I : z_I} {L : z_L} {Q : z_q}  (hL : MLay K) (h : RM0 n0 xX13_here d [.ref (n0 + 59)] K I L (fun vv I1 L2 => ∃ r3 : Int32, vv = some (.int r3) ∧ (if r3 = 42 then RM0 n0 xX13_workTimes d [.ref (n0 + 59)] K I1 L2 (fun vv I5 L6 => vv = none ∧ (if r3 = 43 then RM0 n0 xX13_workAll d [.ref (n0 + 59)] K I5 L6 (fun vv I8 L9 => vv = none ∧ vp_in (I8 59 43) 70 ∧ Q (some (.int 1)) (zI (zI (zI I8 86 ((I8 59 43).toNatClampNeg) r3) 59 43 ((I8 59 43) + 1)) 59 31 ((I8 59 31) + 1)) L9) else (if r3 = 45 then RM0 n0 xX13_workAll d [.ref (n0 + 59)] K I5 L6 (fun vv I13 L14 => vv = none ∧ vp_in (I13 59 43) 70 ∧ Q (some (.int 1)) (zI (zI (zI I13 86 ((I13 59 43).toNatClampNeg) r3) 59 43 ((I13 59 43) + 1)) 59 31 ((I13 59 31) + 1)) L14) else vp_in (I5 59 43) 70 ∧ Q (some (.int 1)) (zI (zI (zI I5 86 ((I5 59 43).toNatClampNeg) r3) 59 43 ((I5 59 43) + 1)) 59 31 ((I5 59 31) + 1)) L6))) else (if r3 = 47 then RM0 n0 xX13_workTimes d [.ref (n0 + 59)] K I1 L2 (fun vv I17 L18 => vv = none ∧ (if r3 = 43 then RM0 n0 xX13_workAll d [.ref (n0 + 59)] K I17 L18 (fun vv I20 L21 => vv = none ∧ vp_in (I20 59 43) 70 ∧ Q (some (.int 1)) (zI (zI (zI I20 86 ((I20 59 43).toNatClampNeg) r3) 59 43 ((I20 59 43) + 1)) 59 31 ((I20 59 31) + 1)) L21) else (if r3 = 45 then RM0 n0 xX13_workAll d [.ref (n0 + 59)] K I17 L18 (fun vv I25 L26 => vv = none ∧ vp_in (I25 59 43) 70 ∧ Q (some (.int 1)) (zI (zI (zI I25 86 ((I25 59 43).toNatClampNeg) r3) 59 43 ((I25 59 43) + 1)) 59 31 ((I25 59 31) + 1)) L26) else vp_in (I17 59 43) 70 ∧ Q (some (.int 1)) (zI (zI (zI I17 86 ((I17 59 43).toNatClampNeg) r3) 59 43 ((I17 59 43) + 1)) 59 31 ((I17 59 31) + 1)) L18))) else (if r3 = 43 then RM0 n0 xX13_workTimes d [.ref (n0 + 59)] K I1 L2 (fun vv I29 L30 => vv = none ∧ (if r3 = 43 then RM0 n0 xX13_workAll d [.ref (n0 + 59)] K I29 L30 (fun vv I32 L33 => vv = none ∧ vp_in (I32 59 43) 70 ∧ Q (some (.int 1)) (zI (zI (zI I32 86 ((I32 59 43).toNatClampNeg) r3) 59 43 ((I32 59 43) + 1)) 59 31 ((I32 59 31) + 1)) L33) else (if r3 = 45 then RM0 n0 xX13_workAll d [.ref (n0 + 59)] K I29 L30 (fun vv I37 L38 => vv = none ∧ vp_in (I37 59 43) 70 ∧ Q (some (.int 1)) (zI (zI (zI I37 86 ((I37 59 43).toNatClampNeg) r3) 59 43 ((I37 59 43) + 1)) 59 31 ((I37 59 31) + 1)) L38) else vp_in (I29 59 43) 70 ∧ Q (some (.int 1)) (zI (zI (zI I29 86 ((I29 59 43).toNatClampNeg) r3) 59 43 ((I29 59 43) + 1)) 59 31 ((I29 59 31) + 1)) L30))) else (if r3 = 45 then RM0 n0 xX13_workTimes d [.ref (n0 + 59)] K I1 L2 (fun vv I71 L72 => vv = none ∧ (if r3 = 43 then RM0 n0 xX13_workAll d [.ref (n0 + 59)] K I71 L72 (fun vv I74 L75 => vv = none ∧ vp_in (I74 59 43) 70 ∧ Q (some (.int 1)) (zI (zI (zI I74 86 ((I74 59 43).toNatClampNeg) r3) 59 43 ((I74 59 43) + 1)) 59 31 ((I74 59 31) + 1)) L75) else (if r3 = 45 then RM0 n0 xX13_workAll d [.ref (n0 + 59)] K I71 L72 (fun vv I79 L80 => vv = none ∧ vp_in (I79 59 43) 70 ∧ Q (some (.int 1)) (zI (zI (zI I79 86 ((I79 59 43).toNatClampNeg) r3) 59 43 ((I79 59 43) + 1)) 59 31 ((I79 59 31) + 1)) L80) else vp_in (I71 59 43) 70 ∧ Q (some (.int 1)) (zI (zI (zI I71 86 ((I71 59 43).toNatClampNeg) r3) 59 43 ((I71 59 43) + 1)) 59 31 ((I71 59 31) + 1)) L72))) else RM0 n0 xX13_workAll d [.ref (n0 + 59)] K I1 L2 (fun vv I41 L42 => vv = none ∧ RM0 n0 xX13_topSign d [.ref (n0 + 59)] K I41 L42 (fun vv I43 L44 => ∃ r45 : Int32, vv = some (.int r45) ∧ (if r3 = 41 then (if r45 = 40 then (if r45 = 114 then vp_in ((I43 59 41) - 1) 70 ∧ (if ((L44 85 (((I43 59 41) - 1).toNatClampNeg)) : Int64) < 0 then Q (some (.int 0)) (zI (zI (zI (zI I43 59 43 ((I43 59 43) - 1)) 59 44 ((I43 59 44) - 1)) 59 31 ((I43 59 31) + 1)) 59 34 (if ((I43 59 34) : Int32) = 0 then if ((L44 85 (((I43 59 41) - 1).toNatClampNeg)) : Int64) < 0 then 1 else 0 else 1)) (zL L44 85 (((I43 59 41) - 1).toNatClampNeg) 0) else RM0 n0 xX13_rootOf d [.long (L44 85 (((I43 59 41) - 1).toNatClampNeg))] K (zI (zI (zI (zI I43 59 43 ((I43 59 43) - 1)) 59 44 ((I43 59 44) - 1)) 59 31 ((I43 59 31) + 1)) 59 34 (if ((I43 59 34) : Int32) = 0 then if ((L44 85 (((I43 59 41) - 1).toNatClampNeg)) : Int64) < 0 then 1 else 0 else 1)) L44 (fun vv I56 L57 => ∃ r58 : Int64, vv = some (.long r58) ∧ Q (some (.int 0)) I56 (zL L57 85 (((I43 59 41) - 1).toNatClampNeg) r58))) else Q (some (.int 0)) (zI (zI (zI I43 59 43 ((I43 59 43) - 1)) 59 44 ((I43 59 44) - 1)) 59 31 ((I43 59 31) + 1)) L44) else (if r45 = 114 then (if r45 = 114 then vp_in ((I43 59 41) - 1) 70 ∧ (if ((L44 85 (((I43 59 41) - 1).toNatClampNeg)) : Int64) < 0 then Q (some (.int 0)) (zI (zI (zI (zI I43 59 43 ((I43 59 43) - 1)) 59 44 ((I43 59 44) - 1)) 59 31 ((I43 59 31) + 1)) 59 34 (if ((I43 59 34) : Int32) = 0 then if ((L44 85 (((I43 59 41) - 1).toNatClampNeg)) : Int64) < 0 then 1 else 0 else 1)) (zL L44 85 (((I43 59 41) - 1).toNatClampNeg) 0) else RM0 n0 xX13_rootOf d [.long (L44 85 (((I43 59 41) - 1).toNatClampNeg))] K (zI (zI (zI (zI I43 59 43 ((I43 59 43) - 1)) 59 44 ((I43 59 44) - 1)) 59 31 ((I43 59 31) + 1)) 59 34 (if ((I43 59 34) : Int32) = 0 then if ((L44 85 (((I43 59 41) - 1).toNatClampNeg)) : Int64) < 0 then 1 else 0 else 1)) L44 (fun vv I68 L69 => ∃ r70 : Int64, vv = some (.long r70) ∧ Q (some (.int 0)) I68 (zL L69 85 (((I43 59 41) - 1).toNatClampNeg) r70))) else Q (some (.int 0)) (zI (zI (zI I43 59 43 ((I43 59 43) - 1)) 59 44 ((I43 59 44) - 1)) 59 31 ((I43 59 31) + 1)) L44) else Q (some (.int 0)) (zI (zI I43 59 45 1) 59 33 (if r45 = 0 then 0 else 1)) L44)) else Q (some (.int 0)) (zI (zI I43 59 45 1) 59 33 (if r45 = 0 then 0 else 1)) L44))))))))) : RM0 n0 xX13_readSign (d + 1) [.ref (n0 + 59)] K I L Q := by
  refine z_entry0 (by decide) (Nat.le_of_ble_eq_true rfl) ?_
  change Z n0 xX13_readSign (d + 1) 0 0 0 [(0, .ref (n0 + 59))] [] K I L (z_q0 K Q)
  refine z_aload_n 0 dX13_readSign_0 rfl ?_
  refine z_callV0 (As := []) (st := []) dX13_readSign_1 hy_X13_here hL.1 hL.2.1 (by decide) wg_1871 wg_1873 wg_64 (Nat.le_refl _) (Nat.le_of_ble_eq_true rfl) (RM0.mono h (fun vv I1 L2 h => ?_))
  obtain ⟨r3, rfl, h⟩ := h
  change Z n0 xX13_readSign (d + 1) 0 0 4 [(0, .ref (n0 + 59))] [.int r3] K I1 L2 (z_q0 K Q)
  refine z_istore_n [1, 0] [(0, .ref (n0 + 59)), (1, .int r3)] dX13_readSign_4 (by decide) rfl ?_
  refine z_iload_n 1 dX13_readSign_5 rfl ?_
  refine z_bipush 42 dX13_readSign_6 (by decide) ?_
  refine z_icmp_eq 29 dX13_readSign_8 (by decide) (fun g4 => ?_) (fun g4 => ?_)
  · rw [if_pos g4] at h
    refine z_aload_n 0 dX13_readSign_29 rfl ?_
    refine z_callV0 (As := []) (st := []) dX13_readSign_30 hy_X13_workTimes hL.1 hL.2.1 (by decide) wg_1893 wg_1895 wg_68 (Nat.le_refl _) (Nat.le_of_ble_eq_true rfl) (RM0.mono h (fun vv I5 L6 h => ?_))
    obtain ⟨rfl, h⟩ := h
    change Z n0 xX13_readSign (d + 1) 0 0 33 [(0, .ref (n0 + 59)), (1, .int r3)] [] K I5 L6 (z_q0 K Q)
    refine z_iload_n 1 dX13_readSign_33 rfl ?_
    refine z_bipush 43 dX13_readSign_34 (by decide) ?_
    refine z_icmp_eq 45 dX13_readSign_36 (by decide) (fun g7 => ?_) (fun g7 => ?_)
    · rw [if_pos g7] at h
      refine z_aload_n 0 dX13_readSign_45 rfl ?_
      refine z_callV0 (As := []) (st := []) dX13_readSign_46 hy_X13_workAll hL.1 hL.2.1 (by decide) wg_1905 wg_1907 wg_71 (Nat.le_refl _) (Nat.le_of_ble_eq_true rfl) (RM0.mono h (fun vv I8 L9 h => ?_))
      obtain ⟨rfl, h⟩ := h
      change Z n0 xX13_readSign (d + 1) 0 0 49 [(0, .ref (n0 + 59)), (1, .int r3)] [] K I8 L9 (z_q0 K Q)
      refine z_aload_n 0 dX13_readSign_49 rfl ?_
      refine fg_13_90 (some 86) rfl dX13_readSign_50 hL.1 hL.2.1 (ma_42 hL).1 ?_
      refine z_aload_n 0 dX13_readSign_53 rfl ?_
      refine fg_13_361 (I8 59 43) rfl dX13_readSign_54 hL.1 hL.2.1 rfl ?_
      refine z_iload_n 1 dX13_readSign_57 rfl ?_
      obtain ⟨o10, h⟩ := h
      refine z_iast dX13_readSign_58 (ma_42 hL).2.1 (ma_42 hL).2.2 o10 ?_
      refine z_aload_n 0 dX13_readSign_59 rfl ?_
      refine z_dup dX13_readSign_60 rfl ?_
      refine fg_13_361 (I8 59 43) rfl dX13_readSign_61 hL.1 hL.2.1 rfl ?_
      refine z_iconst 1 dX13_readSign_64 (by decide) ?_
      refine z_iadd dX13_readSign_65 ?_
      refine fp_13_361 rfl dX13_readSign_66 hL.1 hL.2.1 ?_
      refine z_aload_n 0 dX13_readSign_69 rfl ?_
      refine z_dup dX13_readSign_70 rfl ?_
      refine fg_13_348 (I8 59 31) rfl dX13_readSign_71 hL.1 hL.2.1 rfl ?_
      refine z_iconst 1 dX13_readSign_74 (by decide) ?_
      refine z_iadd dX13_readSign_75 ?_
      refine fp_13_348 rfl dX13_readSign_76 hL.1 hL.2.1 ?_
      refine z_iconst 1 dX13_readSign_79 (by decide) ?_
      exact z_zretb dX13_readSign_80 rfl (Or.inr rfl) ⟨rfl, h⟩
    · rw [if_neg g7] at h
      refine z_iload_n 1 dX13_readSign_39 rfl ?_
      refine z_bipush 45 dX13_readSign_40 (by decide) ?_
      refine z_icmp_ne 49 dX13_readSign_42 (by decide) (fun g11 => ?_) (fun g11 => ?_)
      · rw [if_neg g11] at h
        refine z_aload_n 0 dX13_readSign_49 rfl ?_
        refine fg_13_90 (some 86) rfl dX13_readSign_50 hL.1 hL.2.1 (ma_42 hL).1 ?_
        refine z_aload_n 0 dX13_readSign_53 rfl ?_
        refine fg_13_361 (I5 59 43) rfl dX13_readSign_54 hL.1 hL.2.1 rfl ?_
        refine z_iload_n 1 dX13_readSign_57 rfl ?_
        obtain ⟨o12, h⟩ := h
        refine z_iast dX13_readSign_58 (ma_42 hL).2.1 (ma_42 hL).2.2 o12 ?_
        refine z_aload_n 0 dX13_readSign_59 rfl ?_
        refine z_dup dX13_readSign_60 rfl ?_
        refine fg_13_361 (I5 59 43) rfl dX13_readSign_61 hL.1 hL.2.1 rfl ?_
        refine z_iconst 1 dX13_readSign_64 (by decide) ?_
        refine z_iadd dX13_readSign_65 ?_
        refine fp_13_361 rfl dX13_readSign_66 hL.1 hL.2.1 ?_
        refine z_aload_n 0 dX13_readSign_69 rfl ?_
        refine z_dup dX13_readSign_70 rfl ?_
        refine fg_13_348 (I5 59 31) rfl dX13_readSign_71 hL.1 hL.2.1 rfl ?_
        refine z_iconst 1 dX13_readSign_74 (by decide) ?_
        refine z_iadd dX13_readSign_75 ?_
        refine fp_13_348 rfl dX13_readSign_76 hL.1 hL.2.1 ?_
        refine z_iconst 1 dX13_readSign_79 (by decide) ?_
        exact z_zretb dX13_readSign_80 rfl (Or.inr rfl) ⟨rfl, h⟩
      · rw [if_pos g11] at h
        refine z_aload_n 0 dX13_readSign_45 rfl ?_
        refine z_callV0 (As := []) (st := []) dX13_readSign_46 hy_X13_workAll hL.1 hL.2.1 (by decide) wg_1905 wg_1907 wg_71 (Nat.le_refl _) (Nat.le_of_ble_eq_true rfl) (RM0.mono h (fun vv I13 L14 h => ?_))
        obtain ⟨rfl, h⟩ := h
        change Z n0 xX13_readSign (d + 1) 0 0 49 [(0, .ref (n0 + 59)), (1, .int r3)] [] K I13 L14 (z_q0 K Q)
        refine z_aload_n 0 dX13_readSign_49 rfl ?_
        refine fg_13_90 (some 86) rfl dX13_readSign_50 hL.1 hL.2.1 (ma_42 hL).1 ?_
        refine z_aload_n 0 dX13_readSign_53 rfl ?_
        refine fg_13_361 (I13 59 43) rfl dX13_readSign_54 hL.1 hL.2.1 rfl ?_
        refine z_iload_n 1 dX13_readSign_57 rfl ?_
        obtain ⟨o15, h⟩ := h
        refine z_iast dX13_readSign_58 (ma_42 hL).2.1 (ma_42 hL).2.2 o15 ?_
        refine z_aload_n 0 dX13_readSign_59 rfl ?_
        refine z_dup dX13_readSign_60 rfl ?_
        refine fg_13_361 (I13 59 43) rfl dX13_readSign_61 hL.1 hL.2.1 rfl ?_
        refine z_iconst 1 dX13_readSign_64 (by decide) ?_
        refine z_iadd dX13_readSign_65 ?_
        refine fp_13_361 rfl dX13_readSign_66 hL.1 hL.2.1 ?_
        refine z_aload_n 0 dX13_readSign_69 rfl ?_
        refine z_dup dX13_readSign_70 rfl ?_
        refine fg_13_348 (I13 59 31) rfl dX13_readSign_71 hL.1 hL.2.1 rfl ?_
        refine z_iconst 1 dX13_readSign_74 (by decide) ?_
        refine z_iadd dX13_readSign_75 ?_
        refine fp_13_348 rfl dX13_readSign_76 hL.1 hL.2.1 ?_
        refine z_iconst 1 dX13_readSign_79 (by decide) ?_
        exact z_zretb dX13_readSign_80 rfl (Or.inr rfl) ⟨rfl, h⟩
  · rw [if_neg g4] at h
    refine z_iload_n 1 dX13_readSign_11 rfl ?_
    refine z_bipush 47 dX13_readSign_12 (by decide) ?_
    refine z_icmp_eq 29 dX13_readSign_14 (by decide) (fun g16 => ?_) (fun g16 => ?_)
    · rw [if_pos g16] at h
      refine z_aload_n 0 dX13_readSign_29 rfl ?_
      refine z_callV0 (As := []) (st := []) dX13_readSign_30 hy_X13_workTimes hL.1 hL.2.1 (by decide) wg_1893 wg_1895 wg_68 (Nat.le_refl _) (Nat.le_of_ble_eq_true rfl) (RM0.mono h (fun vv I17 L18 h => ?_))
      obtain ⟨rfl, h⟩ := h
      change Z n0 xX13_readSign (d + 1) 0 0 33 [(0, .ref (n0 + 59)), (1, .int r3)] [] K I17 L18 (z_q0 K Q)
      refine z_iload_n 1 dX13_readSign_33 rfl ?_
      refine z_bipush 43 dX13_readSign_34 (by decide) ?_
      refine z_icmp_eq 45 dX13_readSign_36 (by decide) (fun g19 => ?_) (fun g19 => ?_)
      · rw [if_pos g19] at h
        refine z_aload_n 0 dX13_readSign_45 rfl ?_
        refine z_callV0 (As := []) (st := []) dX13_readSign_46 hy_X13_workAll hL.1 hL.2.1 (by decide) wg_1905 wg_1907 wg_71 (Nat.le_refl _) (Nat.le_of_ble_eq_true rfl) (RM0.mono h (fun vv I20 L21 h => ?_))
        obtain ⟨rfl, h⟩ := h
        change Z n0 xX13_readSign (d + 1) 0 0 49 [(0, .ref (n0 + 59)), (1, .int r3)] [] K I20 L21 (z_q0 K Q)
        refine z_aload_n 0 dX13_readSign_49 rfl ?_
        refine fg_13_90 (some 86) rfl dX13_readSign_50 hL.1 hL.2.1 (ma_42 hL).1 ?_
        refine z_aload_n 0 dX13_readSign_53 rfl ?_
        refine fg_13_361 (I20 59 43) rfl dX13_readSign_54 hL.1 hL.2.1 rfl ?_
        refine z_iload_n 1 dX13_readSign_57 rfl ?_
        obtain ⟨o22, h⟩ := h
        refine z_iast dX13_readSign_58 (ma_42 hL).2.1 (ma_42 hL).2.2 o22 ?_
        refine z_aload_n 0 dX13_readSign_59 rfl ?_
        refine z_dup dX13_readSign_60 rfl ?_
        refine fg_13_361 (I20 59 43) rfl dX13_readSign_61 hL.1 hL.2.1 rfl ?_
        refine z_iconst 1 dX13_readSign_64 (by decide) ?_
        refine z_iadd dX13_readSign_65 ?_
        refine fp_13_361 rfl dX13_readSign_66 hL.1 hL.2.1 ?_
        refine z_aload_n 0 dX13_readSign_69 rfl ?_
        refine z_dup dX13_readSign_70 rfl ?_
        refine fg_13_348 (I20 59 31) rfl dX13_readSign_71 hL.1 hL.2.1 rfl ?_
        refine z_iconst 1 dX13_readSign_74 (by decide) ?_
        refine z_iadd dX13_readSign_75 ?_
        refine fp_13_348 rfl dX13_readSign_76 hL.1 hL.2.1 ?_
        refine z_iconst 1 dX13_readSign_79 (by decide) ?_
        exact z_zretb dX13_readSign_80 rfl (Or.inr rfl) ⟨rfl, h⟩
      · rw [if_neg g19] at h
        refine z_iload_n 1 dX13_readSign_39 rfl ?_
        refine z_bipush 45 dX13_readSign_40 (by decide) ?_
        refine z_icmp_ne 49 dX13_readSign_42 (by decide) (fun g23 => ?_) (fun g23 => ?_)
        · rw [if_neg g23] at h
          refine z_aload_n 0 dX13_readSign_49 rfl ?_
          refine fg_13_90 (some 86) rfl dX13_readSign_50 hL.1 hL.2.1 (ma_42 hL).1 ?_
          refine z_aload_n 0 dX13_readSign_53 rfl ?_
          refine fg_13_361 (I17 59 43) rfl dX13_readSign_54 hL.1 hL.2.1 rfl ?_
          refine z_iload_n 1 dX13_readSign_57 rfl ?_
          obtain ⟨o24, h⟩ := h
          refine z_iast dX13_readSign_58 (ma_42 hL).2.1 (ma_42 hL).2.2 o24 ?_
          refine z_aload_n 0 dX13_readSign_59 rfl ?_
          refine z_dup dX13_readSign_60 rfl ?_
          refine fg_13_361 (I17 59 43) rfl dX13_readSign_61 hL.1 hL.2.1 rfl ?_
          refine z_iconst 1 dX13_readSign_64 (by decide) ?_
          refine z_iadd dX13_readSign_65 ?_
          refine fp_13_361 rfl dX13_readSign_66 hL.1 hL.2.1 ?_
          refine z_aload_n 0 dX13_readSign_69 rfl ?_
          refine z_dup dX13_readSign_70 rfl ?_
          refine fg_13_348 (I17 59 31) rfl dX13_readSign_71 hL.1 hL.2.1 rfl ?_
          refine z_iconst 1 dX13_readSign_74 (by decide) ?_
          refine z_iadd dX13_readSign_75 ?_
          refine fp_13_348 rfl dX13_readSign_76 hL.1 hL.2.1 ?_
          refine z_iconst 1 dX13_readSign_79 (by decide) ?_
          exact z_zretb dX13_readSign_80 rfl (Or.inr rfl) ⟨rfl, h⟩
        · rw [if_pos g23] at h
          refine z_aload_n 0 dX13_readSign_45 rfl ?_
          refine z_callV0 (As := []) (st := []) dX13_readSign_46 hy_X13_workAll hL.1 hL.2.1 (by decide) wg_1905 wg_1907 wg_71 (Nat.le_refl _) (Nat.le_of_ble_eq_true rfl) (RM0.mono h (fun vv I25 L26 h => ?_))
          obtain ⟨rfl, h⟩ := h
          change Z n0 xX13_readSign (d + 1) 0 0 49 [(0, .ref (n0 + 59)), (1, .int r3)] [] K I25 L26 (z_q0 K Q)
          refine z_aload_n 0 dX13_readSign_49 rfl ?_
          refine fg_13_90 (some 86) rfl dX13_readSign_50 hL.1 hL.2.1 (ma_42 hL).1 ?_
          refine z_aload_n 0 dX13_readSign_53 rfl ?_
          refine fg_13_361 (I25 59 43) rfl dX13_readSign_54 hL.1 hL.2.1 rfl ?_
          refine z_iload_n 1 dX13_readSign_57 rfl ?_
          obtain ⟨o27, h⟩ := h
          refine z_iast dX13_readSign_58 (ma_42 hL).2.1 (ma_42 hL).2.2 o27 ?_
          refine z_aload_n 0 dX13_readSign_59 rfl ?_
          refine z_dup dX13_readSign_60 rfl ?_
          refine fg_13_361 (I25 59 43) rfl dX13_readSign_61 hL.1 hL.2.1 rfl ?_
          refine z_iconst 1 dX13_readSign_64 (by decide) ?_
          refine z_iadd dX13_readSign_65 ?_
          refine fp_13_361 rfl dX13_readSign_66 hL.1 hL.2.1 ?_
          refine z_aload_n 0 dX13_readSign_69 rfl ?_
          refine z_dup dX13_readSign_70 rfl ?_
          refine fg_13_348 (I25 59 31) rfl dX13_readSign_71 hL.1 hL.2.1 rfl ?_
          refine z_iconst 1 dX13_readSign_74 (by decide) ?_
          refine z_iadd dX13_readSign_75 ?_
          refine fp_13_348 rfl dX13_readSign_76 hL.1 hL.2.1 ?_
          refine z_iconst 1 dX13_readSign_79 (by decide) ?_
          exact z_zretb dX13_readSign_80 rfl (Or.inr rfl) ⟨rfl, h⟩
    · rw [if_neg g16] at h
      refine z_iload_n 1 dX13_readSign_17 rfl ?_
      refine z_bipush 43 dX13_readSign_18 (by decide) ?_
      refine z_icmp_eq 29 dX13_readSign_20 (by decide) (fun g28 => ?_) (fun g28 => ?_)
      · rw [if_pos g28] at h
        refine z_aload_n 0 dX13_readSign_29 rfl ?_
        refine z_callV0 (As := []) (st := []) dX13_readSign_30 hy_X13_workTimes hL.1 hL.2.1 (by decide) wg_1893 wg_1895 wg_68 (Nat.le_refl _) (Nat.le_of_ble_eq_true rfl) (RM0.mono h (fun vv I29 L30 h => ?_))
        obtain ⟨rfl, h⟩ := h
        change Z n0 xX13_readSign (d + 1) 0 0 33 [(0, .ref (n0 + 59)), (1, .int r3)] [] K I29 L30 (z_q0 K Q)
        refine z_iload_n 1 dX13_readSign_33 rfl ?_
        refine z_bipush 43 dX13_readSign_34 (by decide) ?_
        refine z_icmp_eq 45 dX13_readSign_36 (by decide) (fun g31 => ?_) (fun g31 => ?_)
        · rw [if_pos g31] at h
          refine z_aload_n 0 dX13_readSign_45 rfl ?_
          refine z_callV0 (As := []) (st := []) dX13_readSign_46 hy_X13_workAll hL.1 hL.2.1 (by decide) wg_1905 wg_1907 wg_71 (Nat.le_refl _) (Nat.le_of_ble_eq_true rfl) (RM0.mono h (fun vv I32 L33 h => ?_))
          obtain ⟨rfl, h⟩ := h
          change Z n0 xX13_readSign (d + 1) 0 0 49 [(0, .ref (n0 + 59)), (1, .int r3)] [] K I32 L33 (z_q0 K Q)
          refine z_aload_n 0 dX13_readSign_49 rfl ?_
          refine fg_13_90 (some 86) rfl dX13_readSign_50 hL.1 hL.2.1 (ma_42 hL).1 ?_
          refine z_aload_n 0 dX13_readSign_53 rfl ?_
          refine fg_13_361 (I32 59 43) rfl dX13_readSign_54 hL.1 hL.2.1 rfl ?_
          refine z_iload_n 1 dX13_readSign_57 rfl ?_
          obtain ⟨o34, h⟩ := h
          refine z_iast dX13_readSign_58 (ma_42 hL).2.1 (ma_42 hL).2.2 o34 ?_
          refine z_aload_n 0 dX13_readSign_59 rfl ?_
          refine z_dup dX13_readSign_60 rfl ?_
          refine fg_13_361 (I32 59 43) rfl dX13_readSign_61 hL.1 hL.2.1 rfl ?_
          refine z_iconst 1 dX13_readSign_64 (by decide) ?_
          refine z_iadd dX13_readSign_65 ?_
          refine fp_13_361 rfl dX13_readSign_66 hL.1 hL.2.1 ?_
          refine z_aload_n 0 dX13_readSign_69 rfl ?_
          refine z_dup dX13_readSign_70 rfl ?_
          refine fg_13_348 (I32 59 31) rfl dX13_readSign_71 hL.1 hL.2.1 rfl ?_
          refine z_iconst 1 dX13_readSign_74 (by decide) ?_
          refine z_iadd dX13_readSign_75 ?_
          refine fp_13_348 rfl dX13_readSign_76 hL.1 hL.2.1 ?_
          refine z_iconst 1 dX13_readSign_79 (by decide) ?_
          exact z_zretb dX13_readSign_80 rfl (Or.inr rfl) ⟨rfl, h⟩
        · rw [if_neg g31] at h
          refine z_iload_n 1 dX13_readSign_39 rfl ?_
          refine z_bipush 45 dX13_readSign_40 (by decide) ?_
          refine z_icmp_ne 49 dX13_readSign_42 (by decide) (fun g35 => ?_) (fun g35 => ?_)
          · rw [if_neg g35] at h
            refine z_aload_n 0 dX13_readSign_49 rfl ?_
            refine fg_13_90 (some 86) rfl dX13_readSign_50 hL.1 hL.2.1 (ma_42 hL).1 ?_
            refine z_aload_n 0 dX13_readSign_53 rfl ?_
            refine fg_13_361 (I29 59 43) rfl dX13_readSign_54 hL.1 hL.2.1 rfl ?_
            refine z_iload_n 1 dX13_readSign_57 rfl ?_
            obtain ⟨o36, h⟩ := h
            refine z_iast dX13_readSign_58 (ma_42 hL).2.1 (ma_42 hL).2.2 o36 ?_
            refine z_aload_n 0 dX13_readSign_59 rfl ?_
            refine z_dup dX13_readSign_60 rfl ?_
            refine fg_13_361 (I29 59 43) rfl dX13_readSign_61 hL.1 hL.2.1 rfl ?_
            refine z_iconst 1 dX13_readSign_64 (by decide) ?_
            refine z_iadd dX13_readSign_65 ?_
            refine fp_13_361 rfl dX13_readSign_66 hL.1 hL.2.1 ?_
            refine z_aload_n 0 dX13_readSign_69 rfl ?_
            refine z_dup dX13_readSign_70 rfl ?_
            refine fg_13_348 (I29 59 31) rfl dX13_readSign_71 hL.1 hL.2.1 rfl ?_
            refine z_iconst 1 dX13_readSign_74 (by decide) ?_
            refine z_iadd dX13_readSign_75 ?_
            refine fp_13_348 rfl dX13_readSign_76 hL.1 hL.2.1 ?_
            refine z_iconst 1 dX13_readSign_79 (by decide) ?_
            exact z_zretb dX13_readSign_80 rfl (Or.inr rfl) ⟨rfl, h⟩
          · rw [if_pos g35] at h
            refine z_aload_n 0 dX13_readSign_45 rfl ?_
            refine z_callV0 (As := []) (st := []) dX13_readSign_46 hy_X13_workAll hL.1 hL.2.1 (by decide) wg_1905 wg_1907 wg_71 (Nat.le_refl _) (Nat.le_of_ble_eq_true rfl) (RM0.mono h (fun vv I37 L38 h => ?_))
            obtain ⟨rfl, h⟩ := h
            change Z n0 xX13_readSign (d + 1) 0 0 49 [(0, .ref (n0 + 59)), (1, .int r3)] [] K I37 L38 (z_q0 K Q)
            refine z_aload_n 0 dX13_readSign_49 rfl ?_
            refine fg_13_90 (some 86) rfl dX13_readSign_50 hL.1 hL.2.1 (ma_42 hL).1 ?_
            refine z_aload_n 0 dX13_readSign_53 rfl ?_
            refine fg_13_361 (I37 59 43) rfl dX13_readSign_54 hL.1 hL.2.1 rfl ?_
            refine z_iload_n 1 dX13_readSign_57 rfl ?_
            obtain ⟨o39, h⟩ := h
            refine z_iast dX13_readSign_58 (ma_42 hL).2.1 (ma_42 hL).2.2 o39 ?_
            refine z_aload_n 0 dX13_readSign_59 rfl ?_
            refine z_dup dX13_readSign_60 rfl ?_
            refine fg_13_361 (I37 59 43) rfl dX13_readSign_61 hL.1 hL.2.1 rfl ?_
            refine z_iconst 1 dX13_readSign_64 (by decide) ?_
            refine z_iadd dX13_readSign_65 ?_
            refine fp_13_361 rfl dX13_readSign_66 hL.1 hL.2.1 ?_
            refine z_aload_n 0 dX13_readSign_69 rfl ?_
            refine z_dup dX13_readSign_70 rfl ?_
            refine fg_13_348 (I37 59 31) rfl dX13_readSign_71 hL.1 hL.2.1 rfl ?_
            refine z_iconst 1 dX13_readSign_74 (by decide) ?_
            refine z_iadd dX13_readSign_75 ?_
            refine fp_13_348 rfl dX13_readSign_76 hL.1 hL.2.1 ?_
            refine z_iconst 1 dX13_readSign_79 (by decide) ?_
            exact z_zretb dX13_readSign_80 rfl (Or.inr rfl) ⟨rfl, h⟩
      · rw [if_neg g28] at h
        refine z_iload_n 1 dX13_readSign_23 rfl ?_
        refine z_bipush 45 dX13_readSign_24 (by decide) ?_
        refine z_icmp_ne 81 dX13_readSign_26 (by decide) (fun g40 => ?_) (fun g40 => ?_)
        · rw [if_neg g40] at h
          refine z_aload_n 0 dX13_readSign_81 rfl ?_
          refine z_callV0 (As := []) (st := []) dX13_readSign_82 hy_X13_workAll hL.1 hL.2.1 (by decide) wg_1905 wg_1907 wg_71 (Nat.le_refl _) (Nat.le_of_ble_eq_true rfl) (RM0.mono h (fun vv I41 L42 h => ?_))
          obtain ⟨rfl, h⟩ := h
          change Z n0 xX13_readSign (d + 1) 0 0 85 [(0, .ref (n0 + 59)), (1, .int r3)] [] K I41 L42 (z_q0 K Q)
          refine z_aload_n 0 dX13_readSign_85 rfl ?_
          refine z_callV0 (As := []) (st := []) dX13_readSign_86 hy_X13_topSign hL.1 hL.2.1 (by decide) wg_1897 wg_1899 wg_69 (Nat.le_refl _) (Nat.le_of_ble_eq_true rfl) (RM0.mono h (fun vv I43 L44 h => ?_))
          obtain ⟨r45, rfl, h⟩ := h
          change Z n0 xX13_readSign (d + 1) 0 0 89 [(0, .ref (n0 + 59)), (1, .int r3)] [.int r45] K I43 L44 (z_q0 K Q)
          refine z_istore_n [1, 2, 0] [(0, .ref (n0 + 59)), (1, .int r3), (2, .int r45)] dX13_readSign_89 (by decide) rfl ?_
          refine z_iload_n 1 dX13_readSign_90 rfl ?_
          refine z_bipush 41 dX13_readSign_91 (by decide) ?_
          refine z_icmp_ne 205 dX13_readSign_93 (by decide) (fun g46 => ?_) (fun g46 => ?_)
          · rw [if_neg g46] at h
            refine z_aload_n 0 dX13_readSign_205 rfl ?_
            refine z_iconst 1 dX13_readSign_206 (by decide) ?_
            refine fp_13_426 rfl dX13_readSign_207 hL.1 hL.2.1 (Or.inr rfl) ?_
            refine z_aload_n 0 dX13_readSign_210 rfl ?_
            refine z_iload_n 2 dX13_readSign_211 rfl ?_
            have key48 : Z n0 xX13_readSign (d + 1) 0 0 220 [] [.int (if r45 = 0 then 0 else 1), .ref (n0 + 59)] K (zI I43 59 45 1) L44 (z_q0 K Q) := by
              refine fp_13_395 rfl dX13_readSign_220 hL.1 hL.2.1 (z_bite (by repeat' (first | exact Or.inl rfl | exact Or.inr rfl | split))) ?_
              refine z_iconst 0 dX13_readSign_223 (by decide) ?_
              exact z_zretb dX13_readSign_224 rfl (Or.inl rfl) ⟨rfl, h⟩
            refine z_if_eq 219 dX13_readSign_212 (by decide) (fun g47 => ?_) (fun g47 => ?_)
            · refine z_iconst 0 dX13_readSign_219 (by decide) ?_
              have ee : ((if r45 = 0 then 0 else 1) : Int32) = 0 := by rw [if_pos g47]
              rw [ee] at key48
              clear ee
              refine z_sub [] rfl ?_
              exact key48
            · refine z_iconst 1 dX13_readSign_215 (by decide) ?_
              refine z_goto 220 dX13_readSign_216 (by decide) ?_
              have ee : ((if r45 = 0 then 0 else 1) : Int32) = 1 := by rw [if_neg g47]
              rw [ee] at key48
              clear ee
              refine z_sub [] rfl ?_
              exact key48
          · rw [if_pos g46] at h
            refine z_iload_n 2 dX13_readSign_96 rfl ?_
            refine z_bipush 40 dX13_readSign_97 (by decide) ?_
            refine z_icmp_eq 108 dX13_readSign_99 (by decide) (fun g49 => ?_) (fun g49 => ?_)
            · rw [if_pos g49] at h
              refine z_aload_n 0 dX13_readSign_108 rfl ?_
              refine z_dup dX13_readSign_109 rfl ?_
              refine fg_13_361 (I43 59 43) rfl dX13_readSign_110 hL.1 hL.2.1 rfl ?_
              refine z_iconst 1 dX13_readSign_113 (by decide) ?_
              refine z_isub dX13_readSign_114 ?_
              refine fp_13_361 rfl dX13_readSign_115 hL.1 hL.2.1 ?_
              refine z_aload_n 0 dX13_readSign_118 rfl ?_
              refine z_dup dX13_readSign_119 rfl ?_
              refine fg_13_392 (I43 59 44) rfl dX13_readSign_120 hL.1 hL.2.1 rfl ?_
              refine z_iconst 1 dX13_readSign_123 (by decide) ?_
              refine z_isub dX13_readSign_124 ?_
              refine fp_13_392 rfl dX13_readSign_125 hL.1 hL.2.1 ?_
              refine z_aload_n 0 dX13_readSign_128 rfl ?_
              refine z_dup dX13_readSign_129 rfl ?_
              refine fg_13_348 (I43 59 31) rfl dX13_readSign_130 hL.1 hL.2.1 rfl ?_
              refine z_iconst 1 dX13_readSign_133 (by decide) ?_
              refine z_iadd dX13_readSign_134 ?_
              refine fp_13_348 rfl dX13_readSign_135 hL.1 hL.2.1 ?_
              refine z_iload_n 2 dX13_readSign_138 rfl ?_
              refine z_bipush 114 dX13_readSign_139 (by decide) ?_
              refine z_icmp_ne 203 dX13_readSign_141 (by decide) (fun g50 => ?_) (fun g50 => ?_)
              · rw [if_neg g50] at h
                refine z_iconst 0 dX13_readSign_203 (by decide) ?_
                exact z_zretb dX13_readSign_204 rfl (Or.inl rfl) ⟨rfl, h⟩
              · rw [if_pos g50] at h
                refine z_aload_n 0 dX13_readSign_144 rfl ?_
                refine fg_13_86 (some 85) rfl dX13_readSign_145 hL.1 hL.2.1 (ma_40 hL).1 ?_
                refine z_aload_n 0 dX13_readSign_148 rfl ?_
                refine fg_13_375 (I43 59 41) rfl dX13_readSign_149 hL.1 hL.2.1 rfl ?_
                refine z_iconst 1 dX13_readSign_152 (by decide) ?_
                refine z_isub dX13_readSign_153 ?_
                obtain ⟨o51, h⟩ := h
                refine z_lald (L44 85 (((I43 59 41) - 1).toNatClampNeg)) dX13_readSign_154 (ma_40 hL).2.1 (ma_40 hL).2.2 o51 rfl ?_
                refine z_lstore_n [1, 2, 3, 0] [(0, .ref (n0 + 59)), (1, .int r3), (2, .int r45), (3, .long (L44 85 (((I43 59 41) - 1).toNatClampNeg)))] dX13_readSign_155 (by decide) rfl ?_
                refine z_aload_n 0 dX13_readSign_156 rfl ?_
                refine z_aload_n 0 dX13_readSign_157 rfl ?_
                refine fg_13_368 (I43 59 34) rfl dX13_readSign_158 hL.1 hL.2.1 rfl ?_
                have key54 : Z n0 xX13_readSign (d + 1) 0 0 175 [(0, .ref (n0 + 59)), (3, .long (L44 85 (((I43 59 41) - 1).toNatClampNeg)))] [.int (if ((I43 59 34) : Int32) = 0 then if ((L44 85 (((I43 59 41) - 1).toNatClampNeg)) : Int64) < 0 then 1 else 0 else 1), .ref (n0 + 59)] K (zI (zI (zI I43 59 43 ((I43 59 43) - 1)) 59 44 ((I43 59 44) - 1)) 59 31 ((I43 59 31) + 1)) L44 (z_q0 K Q) := by
                  refine fp_13_368 rfl dX13_readSign_175 hL.1 hL.2.1 (z_bite (by repeat' (first | exact Or.inl rfl | exact Or.inr rfl | split))) ?_
                  refine z_aload_n 0 dX13_readSign_178 rfl ?_
                  refine fg_13_86 (some 85) rfl dX13_readSign_179 hL.1 hL.2.1 (ma_40 hL).1 ?_
                  refine z_aload_n 0 dX13_readSign_182 rfl ?_
                  refine fg_13_375 (I43 59 41) rfl dX13_readSign_183 hL.1 hL.2.1 rfl ?_
                  refine z_iconst 1 dX13_readSign_186 (by decide) ?_
                  refine z_isub dX13_readSign_187 ?_
                  refine z_lload_n 1 dX13_readSign_188 rfl ?_
                  refine z_lconst 0 dX13_readSign_189 (by decide) ?_
                  refine z_lif_ge 198 dX13_readSign_190 dX13_readSign_191 (by decide) (fun g55 => ?_) (fun g55 => ?_)
                  · rw [if_neg g55] at h
                    refine z_lload_n 1 dX13_readSign_198 rfl ?_
                    refine z_callS0 (As := [.long (L44 85 (((I43 59 41) - 1).toNatClampNeg))]) (st := [.int ((I43 59 41) - 1), .ref (n0 + 85)]) dX13_readSign_199 hy_X13_rootOf wg_1909 wg_1910 (Nat.le_refl _) (Nat.le_of_ble_eq_true rfl) (RM0.mono h (fun vv I56 L57 h => ?_))
                    obtain ⟨r58, rfl, h⟩ := h
                    change Z n0 xX13_readSign (d + 1) 0 0 202 [(0, .ref (n0 + 59)), (3, .long (L44 85 (((I43 59 41) - 1).toNatClampNeg)))] [.long r58, .int ((I43 59 41) - 1), .ref (n0 + 85)] K I56 L57 (z_q0 K Q)
                    refine z_last dX13_readSign_202 (ma_40 hL).2.1 (ma_40 hL).2.2 o51 ?_
                    refine z_iconst 0 dX13_readSign_203 (by decide) ?_
                    exact z_zretb dX13_readSign_204 rfl (Or.inl rfl) ⟨rfl, h⟩
                  · rw [if_pos g55] at h
                    refine z_lconst 0 dX13_readSign_194 (by decide) ?_
                    refine z_goto 202 dX13_readSign_195 (by decide) ?_
                    refine z_last dX13_readSign_202 (ma_40 hL).2.1 (ma_40 hL).2.2 o51 ?_
                    refine z_iconst 0 dX13_readSign_203 (by decide) ?_
                    exact z_zretb dX13_readSign_204 rfl (Or.inl rfl) ⟨rfl, h⟩
                refine z_if_ne 170 dX13_readSign_161 (by decide) (fun g52 => ?_) (fun g52 => ?_)
                · refine z_iconst 1 dX13_readSign_170 (by decide) ?_
                  refine z_goto 175 dX13_readSign_171 (by decide) ?_
                  have ee : ((if ((I43 59 34) : Int32) = 0 then if ((L44 85 (((I43 59 41) - 1).toNatClampNeg)) : Int64) < 0 then 1 else 0 else 1) : Int32) = 1 := by rw [if_neg g52]
                  rw [ee] at key54
                  clear ee
                  refine z_sub [0, 3] rfl ?_
                  exact key54
                · refine z_lload_n 3 dX13_readSign_164 rfl ?_
                  refine z_lconst 0 dX13_readSign_165 (by decide) ?_
                  refine z_lif_ge 174 dX13_readSign_166 dX13_readSign_167 (by decide) (fun g53 => ?_) (fun g53 => ?_)
                  · refine z_iconst 0 dX13_readSign_174 (by decide) ?_
                    have ee : ((if ((I43 59 34) : Int32) = 0 then if ((L44 85 (((I43 59 41) - 1).toNatClampNeg)) : Int64) < 0 then 1 else 0 else 1) : Int32) = 0 := by rw [if_pos g52, if_neg g53]
                    rw [ee] at key54
                    clear ee
                    refine z_sub [0, 3] rfl ?_
                    exact key54
                  · refine z_iconst 1 dX13_readSign_170 (by decide) ?_
                    refine z_goto 175 dX13_readSign_171 (by decide) ?_
                    have ee : ((if ((I43 59 34) : Int32) = 0 then if ((L44 85 (((I43 59 41) - 1).toNatClampNeg)) : Int64) < 0 then 1 else 0 else 1) : Int32) = 1 := by rw [if_pos g52, if_pos g53]
                    rw [ee] at key54
                    clear ee
                    refine z_sub [0, 3] rfl ?_
                    exact key54
            · rw [if_neg g49] at h
              refine z_iload_n 2 dX13_readSign_102 rfl ?_
              refine z_bipush 114 dX13_readSign_103 (by decide) ?_
              refine z_icmp_ne 205 dX13_readSign_105 (by decide) (fun g59 => ?_) (fun g59 => ?_)
              · rw [if_neg g59] at h
                refine z_aload_n 0 dX13_readSign_205 rfl ?_
                refine z_iconst 1 dX13_readSign_206 (by decide) ?_
                refine fp_13_426 rfl dX13_readSign_207 hL.1 hL.2.1 (Or.inr rfl) ?_
                refine z_aload_n 0 dX13_readSign_210 rfl ?_
                refine z_iload_n 2 dX13_readSign_211 rfl ?_
                have key61 : Z n0 xX13_readSign (d + 1) 0 0 220 [] [.int (if r45 = 0 then 0 else 1), .ref (n0 + 59)] K (zI I43 59 45 1) L44 (z_q0 K Q) := by
                  refine fp_13_395 rfl dX13_readSign_220 hL.1 hL.2.1 (z_bite (by repeat' (first | exact Or.inl rfl | exact Or.inr rfl | split))) ?_
                  refine z_iconst 0 dX13_readSign_223 (by decide) ?_
                  exact z_zretb dX13_readSign_224 rfl (Or.inl rfl) ⟨rfl, h⟩
                refine z_if_eq 219 dX13_readSign_212 (by decide) (fun g60 => ?_) (fun g60 => ?_)
                · refine z_iconst 0 dX13_readSign_219 (by decide) ?_
                  have ee : ((if r45 = 0 then 0 else 1) : Int32) = 0 := by rw [if_pos g60]
                  rw [ee] at key61
                  clear ee
                  refine z_sub [] rfl ?_
                  exact key61
                · refine z_iconst 1 dX13_readSign_215 (by decide) ?_
                  refine z_goto 220 dX13_readSign_216 (by decide) ?_
                  have ee : ((if r45 = 0 then 0 else 1) : Int32) = 1 := by rw [if_neg g60]
                  rw [ee] at key61
                  clear ee
                  refine z_sub [] rfl ?_
                  exact key61
              · rw [if_pos g59] at h
                refine z_aload_n 0 dX13_readSign_108 rfl ?_
                refine z_dup dX13_readSign_109 rfl ?_
                refine fg_13_361 (I43 59 43) rfl dX13_readSign_110 hL.1 hL.2.1 rfl ?_
                refine z_iconst 1 dX13_readSign_113 (by decide) ?_
                refine z_isub dX13_readSign_114 ?_
                refine fp_13_361 rfl dX13_readSign_115 hL.1 hL.2.1 ?_
                refine z_aload_n 0 dX13_readSign_118 rfl ?_
                refine z_dup dX13_readSign_119 rfl ?_
                refine fg_13_392 (I43 59 44) rfl dX13_readSign_120 hL.1 hL.2.1 rfl ?_
                refine z_iconst 1 dX13_readSign_123 (by decide) ?_
                refine z_isub dX13_readSign_124 ?_
                refine fp_13_392 rfl dX13_readSign_125 hL.1 hL.2.1 ?_
                refine z_aload_n 0 dX13_readSign_128 rfl ?_
                refine z_dup dX13_readSign_129 rfl ?_
                refine fg_13_348 (I43 59 31) rfl dX13_readSign_130 hL.1 hL.2.1 rfl ?_
                refine z_iconst 1 dX13_readSign_133 (by decide) ?_
                refine z_iadd dX13_readSign_134 ?_
                refine fp_13_348 rfl dX13_readSign_135 hL.1 hL.2.1 ?_
                refine z_iload_n 2 dX13_readSign_138 rfl ?_
                refine z_bipush 114 dX13_readSign_139 (by decide) ?_
                refine z_icmp_ne 203 dX13_readSign_141 (by decide) (fun g62 => ?_) (fun g62 => ?_)
                · rw [if_neg g62] at h
                  refine z_iconst 0 dX13_readSign_203 (by decide) ?_
                  exact z_zretb dX13_readSign_204 rfl (Or.inl rfl) ⟨rfl, h⟩
                · rw [if_pos g62] at h
                  refine z_aload_n 0 dX13_readSign_144 rfl ?_
                  refine fg_13_86 (some 85) rfl dX13_readSign_145 hL.1 hL.2.1 (ma_40 hL).1 ?_
                  refine z_aload_n 0 dX13_readSign_148 rfl ?_
                  refine fg_13_375 (I43 59 41) rfl dX13_readSign_149 hL.1 hL.2.1 rfl ?_
                  refine z_iconst 1 dX13_readSign_152 (by decide) ?_
                  refine z_isub dX13_readSign_153 ?_
                  obtain ⟨o63, h⟩ := h
                  refine z_lald (L44 85 (((I43 59 41) - 1).toNatClampNeg)) dX13_readSign_154 (ma_40 hL).2.1 (ma_40 hL).2.2 o63 rfl ?_
                  refine z_lstore_n [1, 2, 3, 0] [(0, .ref (n0 + 59)), (1, .int r3), (2, .int r45), (3, .long (L44 85 (((I43 59 41) - 1).toNatClampNeg)))] dX13_readSign_155 (by decide) rfl ?_
                  refine z_aload_n 0 dX13_readSign_156 rfl ?_
                  refine z_aload_n 0 dX13_readSign_157 rfl ?_
                  refine fg_13_368 (I43 59 34) rfl dX13_readSign_158 hL.1 hL.2.1 rfl ?_
                  have key66 : Z n0 xX13_readSign (d + 1) 0 0 175 [(0, .ref (n0 + 59)), (3, .long (L44 85 (((I43 59 41) - 1).toNatClampNeg)))] [.int (if ((I43 59 34) : Int32) = 0 then if ((L44 85 (((I43 59 41) - 1).toNatClampNeg)) : Int64) < 0 then 1 else 0 else 1), .ref (n0 + 59)] K (zI (zI (zI I43 59 43 ((I43 59 43) - 1)) 59 44 ((I43 59 44) - 1)) 59 31 ((I43 59 31) + 1)) L44 (z_q0 K Q) := by
                    refine fp_13_368 rfl dX13_readSign_175 hL.1 hL.2.1 (z_bite (by repeat' (first | exact Or.inl rfl | exact Or.inr rfl | split))) ?_
                    refine z_aload_n 0 dX13_readSign_178 rfl ?_
                    refine fg_13_86 (some 85) rfl dX13_readSign_179 hL.1 hL.2.1 (ma_40 hL).1 ?_
                    refine z_aload_n 0 dX13_readSign_182 rfl ?_
                    refine fg_13_375 (I43 59 41) rfl dX13_readSign_183 hL.1 hL.2.1 rfl ?_
                    refine z_iconst 1 dX13_readSign_186 (by decide) ?_
                    refine z_isub dX13_readSign_187 ?_
                    refine z_lload_n 1 dX13_readSign_188 rfl ?_
                    refine z_lconst 0 dX13_readSign_189 (by decide) ?_
                    refine z_lif_ge 198 dX13_readSign_190 dX13_readSign_191 (by decide) (fun g67 => ?_) (fun g67 => ?_)
                    · rw [if_neg g67] at h
                      refine z_lload_n 1 dX13_readSign_198 rfl ?_
                      refine z_callS0 (As := [.long (L44 85 (((I43 59 41) - 1).toNatClampNeg))]) (st := [.int ((I43 59 41) - 1), .ref (n0 + 85)]) dX13_readSign_199 hy_X13_rootOf wg_1909 wg_1910 (Nat.le_refl _) (Nat.le_of_ble_eq_true rfl) (RM0.mono h (fun vv I68 L69 h => ?_))
                      obtain ⟨r70, rfl, h⟩ := h
                      change Z n0 xX13_readSign (d + 1) 0 0 202 [(0, .ref (n0 + 59)), (3, .long (L44 85 (((I43 59 41) - 1).toNatClampNeg)))] [.long r70, .int ((I43 59 41) - 1), .ref (n0 + 85)] K I68 L69 (z_q0 K Q)
                      refine z_last dX13_readSign_202 (ma_40 hL).2.1 (ma_40 hL).2.2 o63 ?_
                      refine z_iconst 0 dX13_readSign_203 (by decide) ?_
                      exact z_zretb dX13_readSign_204 rfl (Or.inl rfl) ⟨rfl, h⟩
                    · rw [if_pos g67] at h
                      refine z_lconst 0 dX13_readSign_194 (by decide) ?_
                      refine z_goto 202 dX13_readSign_195 (by decide) ?_
                      refine z_last dX13_readSign_202 (ma_40 hL).2.1 (ma_40 hL).2.2 o63 ?_
                      refine z_iconst 0 dX13_readSign_203 (by decide) ?_
                      exact z_zretb dX13_readSign_204 rfl (Or.inl rfl) ⟨rfl, h⟩
                  refine z_if_ne 170 dX13_readSign_161 (by decide) (fun g64 => ?_) (fun g64 => ?_)
                  · refine z_iconst 1 dX13_readSign_170 (by decide) ?_
                    refine z_goto 175 dX13_readSign_171 (by decide) ?_
                    have ee : ((if ((I43 59 34) : Int32) = 0 then if ((L44 85 (((I43 59 41) - 1).toNatClampNeg)) : Int64) < 0 then 1 else 0 else 1) : Int32) = 1 := by rw [if_neg g64]
                    rw [ee] at key66
                    clear ee
                    refine z_sub [0, 3] rfl ?_
                    exact key66
                  · refine z_lload_n 3 dX13_readSign_164 rfl ?_
                    refine z_lconst 0 dX13_readSign_165 (by decide) ?_
                    refine z_lif_ge 174 dX13_readSign_166 dX13_readSign_167 (by decide) (fun g65 => ?_) (fun g65 => ?_)
                    · refine z_iconst 0 dX13_readSign_174 (by decide) ?_
                      have ee : ((if ((I43 59 34) : Int32) = 0 then if ((L44 85 (((I43 59 41) - 1).toNatClampNeg)) : Int64) < 0 then 1 else 0 else 1) : Int32) = 0 := by rw [if_pos g64, if_neg g65]
                      rw [ee] at key66
                      clear ee
                      refine z_sub [0, 3] rfl ?_
                      exact key66
                    · refine z_iconst 1 dX13_readSign_170 (by decide) ?_
                      refine z_goto 175 dX13_readSign_171 (by decide) ?_
                      have ee : ((if ((I43 59 34) : Int32) = 0 then if ((L44 85 (((I43 59 41) - 1).toNatClampNeg)) : Int64) < 0 then 1 else 0 else 1) : Int32) = 1 := by rw [if_pos g64, if_pos g65]
                      rw [ee] at key66
                      clear ee
                      refine z_sub [0, 3] rfl ?_
                      exact key66
        · rw [if_pos g40] at h
          refine z_aload_n 0 dX13_readSign_29 rfl ?_
          refine z_callV0 (As := []) (st := []) dX13_readSign_30 hy_X13_workTimes hL.1 hL.2.1 (by decide) wg_1893 wg_1895 wg_68 (Nat.le_refl _) (Nat.le_of_ble_eq_true rfl) (RM0.mono h (fun vv I71 L72 h => ?_))
          obtain ⟨rfl, h⟩ := h
          change Z n0 xX13_readSign (d + 1) 0 0 33 [(0, .ref (n0 + 59)), (1, .int r3)] [] K I71 L72 (z_q0 K Q)
          refine z_iload_n 1 dX13_readSign_33 rfl ?_
          refine z_bipush 43 dX13_readSign_34 (by decide) ?_
          refine z_icmp_eq 45 dX13_readSign_36 (by decide) (fun g73 => ?_) (fun g73 => ?_)
          · rw [if_pos g73] at h
            refine z_aload_n 0 dX13_readSign_45 rfl ?_
            refine z_callV0 (As := []) (st := []) dX13_readSign_46 hy_X13_workAll hL.1 hL.2.1 (by decide) wg_1905 wg_1907 wg_71 (Nat.le_refl _) (Nat.le_of_ble_eq_true rfl) (RM0.mono h (fun vv I74 L75 h => ?_))
            obtain ⟨rfl, h⟩ := h
            change Z n0 xX13_readSign (d + 1) 0 0 49 [(0, .ref (n0 + 59)), (1, .int r3)] [] K I74 L75 (z_q0 K Q)
            refine z_aload_n 0 dX13_readSign_49 rfl ?_
            refine fg_13_90 (some 86) rfl dX13_readSign_50 hL.1 hL.2.1 (ma_42 hL).1 ?_
            refine z_aload_n 0 dX13_readSign_53 rfl ?_
            refine fg_13_361 (I74 59 43) rfl dX13_readSign_54 hL.1 hL.2.1 rfl ?_
            refine z_iload_n 1 dX13_readSign_57 rfl ?_
            obtain ⟨o76, h⟩ := h
            refine z_iast dX13_readSign_58 (ma_42 hL).2.1 (ma_42 hL).2.2 o76 ?_
            refine z_aload_n 0 dX13_readSign_59 rfl ?_
            refine z_dup dX13_readSign_60 rfl ?_
            refine fg_13_361 (I74 59 43) rfl dX13_readSign_61 hL.1 hL.2.1 rfl ?_
            refine z_iconst 1 dX13_readSign_64 (by decide) ?_
            refine z_iadd dX13_readSign_65 ?_
            refine fp_13_361 rfl dX13_readSign_66 hL.1 hL.2.1 ?_
            refine z_aload_n 0 dX13_readSign_69 rfl ?_
            refine z_dup dX13_readSign_70 rfl ?_
            refine fg_13_348 (I74 59 31) rfl dX13_readSign_71 hL.1 hL.2.1 rfl ?_
            refine z_iconst 1 dX13_readSign_74 (by decide) ?_
            refine z_iadd dX13_readSign_75 ?_
            refine fp_13_348 rfl dX13_readSign_76 hL.1 hL.2.1 ?_
            refine z_iconst 1 dX13_readSign_79 (by decide) ?_
            exact z_zretb dX13_readSign_80 rfl (Or.inr rfl) ⟨rfl, h⟩
          · rw [if_neg g73] at h
            refine z_iload_n 1 dX13_readSign_39 rfl ?_
            refine z_bipush 45 dX13_readSign_40 (by decide) ?_
            refine z_icmp_ne 49 dX13_readSign_42 (by decide) (fun g77 => ?_) (fun g77 => ?_)
            · rw [if_neg g77] at h
              refine z_aload_n 0 dX13_readSign_49 rfl ?_
              refine fg_13_90 (some 86) rfl dX13_readSign_50 hL.1 hL.2.1 (ma_42 hL).1 ?_
              refine z_aload_n 0 dX13_readSign_53 rfl ?_
              refine fg_13_361 (I71 59 43) rfl dX13_readSign_54 hL.1 hL.2.1 rfl ?_
              refine z_iload_n 1 dX13_readSign_57 rfl ?_
              obtain ⟨o78, h⟩ := h
              refine z_iast dX13_readSign_58 (ma_42 hL).2.1 (ma_42 hL).2.2 o78 ?_
              refine z_aload_n 0 dX13_readSign_59 rfl ?_
              refine z_dup dX13_readSign_60 rfl ?_
              refine fg_13_361 (I71 59 43) rfl dX13_readSign_61 hL.1 hL.2.1 rfl ?_
              refine z_iconst 1 dX13_readSign_64 (by decide) ?_
              refine z_iadd dX13_readSign_65 ?_
              refine fp_13_361 rfl dX13_readSign_66 hL.1 hL.2.1 ?_
              refine z_aload_n 0 dX13_readSign_69 rfl ?_
              refine z_dup dX13_readSign_70 rfl ?_
              refine fg_13_348 (I71 59 31) rfl dX13_readSign_71 hL.1 hL.2.1 rfl ?_
              refine z_iconst 1 dX13_readSign_74 (by decide) ?_
              refine z_iadd dX13_readSign_75 ?_
              refine fp_13_348 rfl dX13_readSign_76 hL.1 hL.2.1 ?_
              refine z_iconst 1 dX13_readSign_79 (by decide) ?_
              exact z_zretb dX13_readSign_80 rfl (Or.inr rfl) ⟨rfl, h⟩
            · rw [if_pos g77] at h
              refine z_aload_n 0 dX13_readSign_45 rfl ?_
              refine z_callV0 (As := []) (st := []) dX13_readSign_46 hy_X13_workAll hL.1 hL.2.1 (by decide) wg_1905 wg_1907 wg_71 (Nat.le_refl _) (Nat.le_of_ble_eq_true rfl) (RM0.mono h (fun vv I79 L80 h => ?_))
              obtain ⟨rfl, h⟩ := h
              change Z n0 xX13_readSign (d + 1) 0 0 49 [(0, .ref (n0 + 59)), (1, .int r3)] [] K I79 L80 (z_q0 K Q)
              refine z_aload_n 0 dX13_readSign_49 rfl ?_
              refine fg_13_90 (some 86) rfl dX13_readSign_50 hL.1 hL.2.1 (ma_42 hL).1 ?_
              refine z_aload_n 0 dX13_readSign_53 rfl ?_
              refine fg_13_361 (I79 59 43) rfl dX13_readSign_54 hL.1 hL.2.1 rfl ?_
              refine z_iload_n 1 dX13_readSign_57 rfl ?_
              obtain ⟨o81, h⟩ := h
              refine z_iast dX13_readSign_58 (ma_42 hL).2.1 (ma_42 hL).2.2 o81 ?_
              refine z_aload_n 0 dX13_readSign_59 rfl ?_
              refine z_dup dX13_readSign_60 rfl ?_
              refine fg_13_361 (I79 59 43) rfl dX13_readSign_61 hL.1 hL.2.1 rfl ?_
              refine z_iconst 1 dX13_readSign_64 (by decide) ?_
              refine z_iadd dX13_readSign_65 ?_
              refine fp_13_361 rfl dX13_readSign_66 hL.1 hL.2.1 ?_
              refine z_aload_n 0 dX13_readSign_69 rfl ?_
              refine z_dup dX13_readSign_70 rfl ?_
              refine fg_13_348 (I79 59 31) rfl dX13_readSign_71 hL.1 hL.2.1 rfl ?_
              refine z_iconst 1 dX13_readSign_74 (by decide) ?_
              refine z_iadd dX13_readSign_75 ?_
              refine fp_13_348 rfl dX13_readSign_76 hL.1 hL.2.1 ?_
              refine z_iconst 1 dX13_readSign_79 (by decide) ?_
              exact z_zretb dX13_readSign_80 rfl (Or.inr rfl) ⟨rfl, h⟩
