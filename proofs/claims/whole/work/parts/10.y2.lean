theorem dX2_areaOf_0 : decode cX2_areaOf 0 = .ok (.aload_n 0, 1) := by decide +kernel
theorem dX2_areaOf_1 : decode cX2_areaOf 1 = .ok (.aload_n 1, 1) := by decide +kernel
theorem dX2_areaOf_2 : decode cX2_areaOf 2 = .ok (.invokevirtual 180, 3) := by decide +kernel
theorem dX2_areaOf_5 : decode cX2_areaOf 5 = .ok (.lconst 0, 1) := by decide +kernel
theorem dX2_areaOf_6 : decode cX2_areaOf 6 = .ok (.lstore_n 2, 1) := by decide +kernel
theorem dX2_areaOf_7 : decode cX2_areaOf 7 = .ok (.iconst 0, 1) := by decide +kernel
theorem dX2_areaOf_8 : decode cX2_areaOf 8 = .ok (.istore 4, 2) := by decide +kernel
theorem dX2_areaOf_10 : decode cX2_areaOf 10 = .ok (.iload 4, 2) := by decide +kernel
theorem dX2_areaOf_12 : decode cX2_areaOf 12 = .ok (.aload_n 0, 1) := by decide +kernel
theorem dX2_areaOf_13 : decode cX2_areaOf 13 = .ok (.getfield 157, 3) := by decide +kernel
theorem dX2_areaOf_16 : decode cX2_areaOf 16 = .ok (.if_icmp .ge 68, 3) := by decide +kernel
theorem dX2_areaOf_19 : decode cX2_areaOf 19 = .ok (.iload 4, 2) := by decide +kernel
theorem dX2_areaOf_21 : decode cX2_areaOf 21 = .ok (.iconst 1, 1) := by decide +kernel
theorem dX2_areaOf_22 : decode cX2_areaOf 22 = .ok (.iadd, 1) := by decide +kernel
theorem dX2_areaOf_23 : decode cX2_areaOf 23 = .ok (.aload_n 0, 1) := by decide +kernel
theorem dX2_areaOf_24 : decode cX2_areaOf 24 = .ok (.getfield 157, 3) := by decide +kernel
theorem dX2_areaOf_27 : decode cX2_areaOf 27 = .ok (.if_icmp .ge 10, 3) := by decide +kernel
theorem dX2_areaOf_30 : decode cX2_areaOf 30 = .ok (.iload 4, 2) := by decide +kernel
theorem dX2_areaOf_32 : decode cX2_areaOf 32 = .ok (.iconst 1, 1) := by decide +kernel
theorem dX2_areaOf_33 : decode cX2_areaOf 33 = .ok (.iadd, 1) := by decide +kernel
theorem dX2_areaOf_34 : decode cX2_areaOf 34 = .ok (.goto 4, 3) := by decide +kernel
theorem dX2_areaOf_37 : decode cX2_areaOf 37 = .ok (.iconst 0, 1) := by decide +kernel
theorem dX2_areaOf_38 : decode cX2_areaOf 38 = .ok (.istore 5, 2) := by decide +kernel
theorem dX2_areaOf_40 : decode cX2_areaOf 40 = .ok (.lload_n 2, 1) := by decide +kernel
theorem dX2_areaOf_41 : decode cX2_areaOf 41 = .ok (.aload_n 0, 1) := by decide +kernel
theorem dX2_areaOf_42 : decode cX2_areaOf 42 = .ok (.getfield 43, 3) := by decide +kernel
theorem dX2_areaOf_45 : decode cX2_areaOf 45 = .ok (.iload 4, 2) := by decide +kernel
theorem dX2_areaOf_47 : decode cX2_areaOf 47 = .ok (.iaload, 1) := by decide +kernel
theorem dX2_areaOf_48 : decode cX2_areaOf 48 = .ok (.i2l, 1) := by decide +kernel
theorem dX2_areaOf_49 : decode cX2_areaOf 49 = .ok (.aload_n 0, 1) := by decide +kernel
theorem dX2_areaOf_50 : decode cX2_areaOf 50 = .ok (.getfield 46, 3) := by decide +kernel
theorem dX2_areaOf_53 : decode cX2_areaOf 53 = .ok (.iload 5, 2) := by decide +kernel
theorem dX2_areaOf_55 : decode cX2_areaOf 55 = .ok (.iaload, 1) := by decide +kernel
theorem dX2_areaOf_56 : decode cX2_areaOf 56 = .ok (.i2l, 1) := by decide +kernel
theorem dX2_areaOf_57 : decode cX2_areaOf 57 = .ok (.lmul, 1) := by decide +kernel
theorem dX2_areaOf_58 : decode cX2_areaOf 58 = .ok (.aload_n 0, 1) := by decide +kernel
theorem dX2_areaOf_59 : decode cX2_areaOf 59 = .ok (.getfield 43, 3) := by decide +kernel
theorem dX2_areaOf_62 : decode cX2_areaOf 62 = .ok (.iload 5, 2) := by decide +kernel
theorem dX2_areaOf_64 : decode cX2_areaOf 64 = .ok (.iaload, 1) := by decide +kernel
theorem dX2_areaOf_65 : decode cX2_areaOf 65 = .ok (.i2l, 1) := by decide +kernel
theorem dX2_areaOf_66 : decode cX2_areaOf 66 = .ok (.aload_n 0, 1) := by decide +kernel
theorem dX2_areaOf_67 : decode cX2_areaOf 67 = .ok (.getfield 46, 3) := by decide +kernel
theorem dX2_areaOf_70 : decode cX2_areaOf 70 = .ok (.iload 4, 2) := by decide +kernel
theorem dX2_areaOf_72 : decode cX2_areaOf 72 = .ok (.iaload, 1) := by decide +kernel
theorem dX2_areaOf_73 : decode cX2_areaOf 73 = .ok (.i2l, 1) := by decide +kernel
theorem dX2_areaOf_74 : decode cX2_areaOf 74 = .ok (.lmul, 1) := by decide +kernel
theorem dX2_areaOf_75 : decode cX2_areaOf 75 = .ok (.lsub, 1) := by decide +kernel
theorem dX2_areaOf_76 : decode cX2_areaOf 76 = .ok (.ladd, 1) := by decide +kernel
theorem dX2_areaOf_77 : decode cX2_areaOf 77 = .ok (.lstore_n 2, 1) := by decide +kernel
theorem dX2_areaOf_78 : decode cX2_areaOf 78 = .ok (.iinc 4 1, 3) := by decide +kernel
theorem dX2_areaOf_81 : decode cX2_areaOf 81 = .ok (.goto (-71), 3) := by decide +kernel
theorem dX2_areaOf_84 : decode cX2_areaOf 84 = .ok (.lload_n 2, 1) := by decide +kernel
theorem dX2_areaOf_85 : decode cX2_areaOf 85 = .ok (.invokestatic 183, 3) := by decide +kernel
theorem dX2_areaOf_88 : decode cX2_areaOf 88 = .ok (.lstore 4, 2) := by decide +kernel
theorem dX2_areaOf_90 : decode cX2_areaOf 90 = .ok (.aload_n 1, 1) := by decide +kernel
theorem dX2_areaOf_91 : decode cX2_areaOf 91 = .ok (.getfield 186, 3) := by decide +kernel
theorem dX2_areaOf_94 : decode cX2_areaOf 94 = .ok (.iconst 1, 1) := by decide +kernel
theorem dX2_areaOf_95 : decode cX2_areaOf 95 = .ok (.if_icmp .eq 11, 3) := by decide +kernel
theorem dX2_areaOf_98 : decode cX2_areaOf 98 = .ok (.aload_n 1, 1) := by decide +kernel
theorem dX2_areaOf_99 : decode cX2_areaOf 99 = .ok (.getfield 186, 3) := by decide +kernel
theorem dX2_areaOf_102 : decode cX2_areaOf 102 = .ok (.iconst 2, 1) := by decide +kernel
theorem dX2_areaOf_103 : decode cX2_areaOf 103 = .ok (.if_icmp .ne 12, 3) := by decide +kernel
theorem dX2_areaOf_106 : decode cX2_areaOf 106 = .ok (.ldc2_w 189, 3) := by decide +kernel
theorem dX2_areaOf_109 : decode cX2_areaOf 109 = .ok (.lload 4, 2) := by decide +kernel
theorem dX2_areaOf_111 : decode cX2_areaOf 111 = .ok (.lmul, 1) := by decide +kernel
theorem dX2_areaOf_112 : decode cX2_areaOf 112 = .ok (.goto 5, 3) := by decide +kernel
theorem dX2_areaOf_115 : decode cX2_areaOf 115 = .ok (.lload 4, 2) := by decide +kernel
theorem dX2_areaOf_117 : decode cX2_areaOf 117 = .ok (.lreturn, 1) := by decide +kernel
set_option maxRecDepth 100000 in
set_option maxHeartbeats 4000000 in
theorem wp_X2_areaOf {n0 d : Nat} {K : z_K} {I : z_I} {L : z_L} {Q : z_q} {p0 : Nat} (hL : CLay K) (h : RM0 n0 xX2_trace d [.ref (n0 + 8), .ref (n0 + p0)] K I L (fun vv I1 L2 => vv = none ∧ Z n0 xX2_areaOf (d + 1) 0 0 10 [(0, .ref (n0 + 8)), (1, .ref (n0 + p0)), (2, .long 0), (4, .int 0)] [] K I1 L2 (z_q0 K Q))) : RM0 n0 xX2_areaOf (d + 1) [.ref (n0 + 8), .ref (n0 + p0)] K I L Q := by
  refine z_entry0 (by decide) (Nat.le_of_ble_eq_true rfl) ?_
  change Z n0 xX2_areaOf (d + 1) 0 0 0 [(0, .ref (n0 + 8)), (1, .ref (n0 + p0))] [] K I L (z_q0 K Q)
  refine z_aload_n 0 dX2_areaOf_0 rfl ?_
  refine z_aload_n 1 dX2_areaOf_1 rfl ?_
  refine z_callV0 (As := [.ref (n0 + p0)]) (st := []) dX2_areaOf_2 hy_X2_trace (co_8 hL).1 (co_8 hL).2 (by decide) wg_899 wg_900 wg_901 (Nat.le_refl _) (Nat.le_of_ble_eq_true rfl) (RM0.mono h ?_)
  clear h
  intro vv I1 L2 h
  obtain ⟨rfl, h⟩ := h
  change Z n0 xX2_areaOf (d + 1) 0 0 5 [(0, .ref (n0 + 8)), (1, .ref (n0 + p0))] [] K I1 L2 (z_q0 K Q)
  refine z_lconst 0 dX2_areaOf_5 (by decide) ?_
  refine z_lstore_n [1, 2, 0] [(0, .ref (n0 + 8)), (1, .ref (n0 + p0)), (2, .long 0)] dX2_areaOf_6 (by decide) rfl ?_
  refine z_iconst 0 dX2_areaOf_7 (by decide) ?_
  refine z_istore [1, 2, 3, 0] [(0, .ref (n0 + 8)), (1, .ref (n0 + p0)), (2, .long 0), (4, .int 0)] dX2_areaOf_8 (by decide) rfl ?_
  exact h
set_option maxRecDepth 100000 in
set_option maxHeartbeats 4000000 in
theorem wp_X2_areaOf_10 {n0 d : Nat} {rc rs : Nat} {K : z_K} {I : z_I} {L : z_L} {Q : z_q} {a1 : Nat} {a2 : Int64} {a4 : Int32} (hL : CLay K) (h : (if a4 < (I 8 15) then vp_in a4 80 ∧ vp_in (if ((a4 + 1) : Int32) < (I 8 15) then (a4 + 1) else 0) 80 ∧ Z n0 xX2_areaOf (d + 1) rc rs 10 [(0, .ref (n0 + 8)), (1, .ref (n0 + a1)), (2, .long (a2 + (((((I 18 a4.toNatClampNeg) : Int32).toInt64) * (((I 19 ((if ((a4 + 1) : Int32) < (I 8 15) then (a4 + 1) else 0).toNatClampNeg)) : Int32).toInt64)) - ((((I 18 ((if ((a4 + 1) : Int32) < (I 8 15) then (a4 + 1) else 0).toNatClampNeg)) : Int32).toInt64) * (((I 19 a4.toNatClampNeg) : Int32).toInt64))))), (4, .int (a4 + 1))] [] K I L (z_q0 K Q) else a1 < K.1 ∧ (K.2.1 a1).1 = 5 ∧ Q (some (.long (if ((I a1 1) : Int32) = 1 then (2 * (if 0 < a2 then a2 else -a2)) else if ((I a1 1) : Int32) = 2 then (2 * (if 0 < a2 then a2 else -a2)) else (if 0 < a2 then a2 else -a2)))) I L)) : Z n0 xX2_areaOf (d + 1) rc rs 10 [(0, .ref (n0 + 8)), (1, .ref (n0 + a1)), (2, .long a2), (4, .int a4)] [] K I L (z_q0 K Q) := by
  refine z_iload 3 dX2_areaOf_10 rfl ?_
  refine z_aload_n 0 dX2_areaOf_12 rfl ?_
  refine fg_2_157 (I 8 15) rfl dX2_areaOf_13 (co_8 hL).1 (co_8 hL).2 rfl ?_
  refine z_icmp_ge 84 dX2_areaOf_16 (by decide) (fun g1 => ?_) (fun g1 => ?_)
  · rw [if_neg g1] at h
    refine z_lload_n 2 dX2_areaOf_84 rfl ?_
    refine z_mabsl dX2_areaOf_85 wg_921 (by omega) (Nat.le_of_ble_eq_true rfl) ?_
    refine z_lstore [1, 2, 3, 0] [(0, .ref (n0 + 8)), (1, .ref (n0 + a1)), (2, .long a2), (4, .long (if 0 < a2 then a2 else -a2))] dX2_areaOf_88 (by decide) rfl ?_
    refine z_aload_n 1 dX2_areaOf_90 rfl ?_
    obtain ⟨o2, o3, h⟩ := h
    refine fg_2_186 (I a1 1) rfl dX2_areaOf_91 o2 o3 rfl ?_
    refine z_iconst 1 dX2_areaOf_94 (by decide) ?_
    have key6 : Z n0 xX2_areaOf (d + 1) rc rs 117 [] [.long (if ((I a1 1) : Int32) = 1 then (2 * (if 0 < a2 then a2 else -a2)) else if ((I a1 1) : Int32) = 2 then (2 * (if 0 < a2 then a2 else -a2)) else (if 0 < a2 then a2 else -a2))] K I L (z_q0 K Q) := by
      exact z_lret dX2_areaOf_117 rfl ⟨rfl, h⟩
    refine z_icmp_eq 106 dX2_areaOf_95 (by decide) (fun g4 => ?_) (fun g4 => ?_)
    · refine z_ldc2_w 2 dX2_areaOf_106 wg_924 ?_
      refine z_lload 3 dX2_areaOf_109 rfl ?_
      refine z_lmul dX2_areaOf_111 ?_
      refine z_goto 117 dX2_areaOf_112 (by decide) ?_
      have ee : ((if ((I a1 1) : Int32) = 1 then (2 * (if 0 < a2 then a2 else -a2)) else if ((I a1 1) : Int32) = 2 then (2 * (if 0 < a2 then a2 else -a2)) else (if 0 < a2 then a2 else -a2)) : Int64) = (2 * (if 0 < a2 then a2 else -a2)) := by rw [if_pos g4]
      rw [ee] at key6
      clear ee
      refine z_sub [] rfl ?_
      exact key6
    · refine z_aload_n 1 dX2_areaOf_98 rfl ?_
      refine fg_2_186 (I a1 1) rfl dX2_areaOf_99 o2 o3 rfl ?_
      refine z_iconst 2 dX2_areaOf_102 (by decide) ?_
      refine z_icmp_ne 115 dX2_areaOf_103 (by decide) (fun g5 => ?_) (fun g5 => ?_)
      · refine z_lload 3 dX2_areaOf_115 rfl ?_
        have ee : ((if ((I a1 1) : Int32) = 1 then (2 * (if 0 < a2 then a2 else -a2)) else if ((I a1 1) : Int32) = 2 then (2 * (if 0 < a2 then a2 else -a2)) else (if 0 < a2 then a2 else -a2)) : Int64) = (if 0 < a2 then a2 else -a2) := by rw [if_neg g4, if_neg g5]
        rw [ee] at key6
        clear ee
        refine z_sub [] rfl ?_
        exact key6
      · refine z_ldc2_w 2 dX2_areaOf_106 wg_924 ?_
        refine z_lload 3 dX2_areaOf_109 rfl ?_
        refine z_lmul dX2_areaOf_111 ?_
        refine z_goto 117 dX2_areaOf_112 (by decide) ?_
        have ee : ((if ((I a1 1) : Int32) = 1 then (2 * (if 0 < a2 then a2 else -a2)) else if ((I a1 1) : Int32) = 2 then (2 * (if 0 < a2 then a2 else -a2)) else (if 0 < a2 then a2 else -a2)) : Int64) = (2 * (if 0 < a2 then a2 else -a2)) := by rw [if_neg g4, if_pos g5]
        rw [ee] at key6
        clear ee
        refine z_sub [] rfl ?_
        exact key6
  · rw [if_pos g1] at h
    refine z_iload 3 dX2_areaOf_19 rfl ?_
    refine z_iconst 1 dX2_areaOf_21 (by decide) ?_
    refine z_iadd dX2_areaOf_22 ?_
    refine z_aload_n 0 dX2_areaOf_23 rfl ?_
    refine fg_2_157 (I 8 15) rfl dX2_areaOf_24 (co_8 hL).1 (co_8 hL).2 rfl ?_
    have key8 : Z n0 xX2_areaOf (d + 1) rc rs 38 [(0, .ref (n0 + 8)), (1, .ref (n0 + a1)), (2, .long a2), (4, .int a4)] [.int (if ((a4 + 1) : Int32) < (I 8 15) then (a4 + 1) else 0)] K I L (z_q0 K Q) := by
      refine z_istore [1, 2, 3, 4, 0] [(0, .ref (n0 + 8)), (1, .ref (n0 + a1)), (2, .long a2), (4, .int a4), (5, .int (if ((a4 + 1) : Int32) < (I 8 15) then (a4 + 1) else 0))] dX2_areaOf_38 (by decide) rfl ?_
      refine z_lload_n 2 dX2_areaOf_40 rfl ?_
      refine z_aload_n 0 dX2_areaOf_41 rfl ?_
      refine fg_2_43 (some 18) rfl dX2_areaOf_42 (co_8 hL).1 (co_8 hL).2 (ca_18 hL).1 ?_
      refine z_iload 3 dX2_areaOf_45 rfl ?_
      obtain ⟨o9, h⟩ := h
      refine z_iald (I 18 a4.toNatClampNeg) dX2_areaOf_47 (ca_18 hL).2.1 (ca_18 hL).2.2 o9 rfl ?_
      refine z_i2l dX2_areaOf_48 ?_
      refine z_aload_n 0 dX2_areaOf_49 rfl ?_
      refine fg_2_46 (some 19) rfl dX2_areaOf_50 (co_8 hL).1 (co_8 hL).2 (ca_19 hL).1 ?_
      refine z_iload 4 dX2_areaOf_53 rfl ?_
      obtain ⟨o10, h⟩ := h
      refine z_iald (I 19 ((if ((a4 + 1) : Int32) < (I 8 15) then (a4 + 1) else 0).toNatClampNeg)) dX2_areaOf_55 (ca_19 hL).2.1 (ca_19 hL).2.2 o10 rfl ?_
      refine z_i2l dX2_areaOf_56 ?_
      refine z_lmul dX2_areaOf_57 ?_
      refine z_aload_n 0 dX2_areaOf_58 rfl ?_
      refine fg_2_43 (some 18) rfl dX2_areaOf_59 (co_8 hL).1 (co_8 hL).2 (ca_18 hL).1 ?_
      refine z_iload 4 dX2_areaOf_62 rfl ?_
      refine z_iald (I 18 ((if ((a4 + 1) : Int32) < (I 8 15) then (a4 + 1) else 0).toNatClampNeg)) dX2_areaOf_64 (ca_18 hL).2.1 (ca_18 hL).2.2 o10 rfl ?_
      refine z_i2l dX2_areaOf_65 ?_
      refine z_aload_n 0 dX2_areaOf_66 rfl ?_
      refine fg_2_46 (some 19) rfl dX2_areaOf_67 (co_8 hL).1 (co_8 hL).2 (ca_19 hL).1 ?_
      refine z_iload 3 dX2_areaOf_70 rfl ?_
      refine z_iald (I 19 a4.toNatClampNeg) dX2_areaOf_72 (ca_19 hL).2.1 (ca_19 hL).2.2 o9 rfl ?_
      refine z_i2l dX2_areaOf_73 ?_
      refine z_lmul dX2_areaOf_74 ?_
      refine z_lsub dX2_areaOf_75 ?_
      refine z_ladd dX2_areaOf_76 ?_
      refine z_lstore_n [1, 2, 0, 3, 4] [(0, .ref (n0 + 8)), (1, .ref (n0 + a1)), (2, .long (a2 + (((((I 18 a4.toNatClampNeg) : Int32).toInt64) * (((I 19 ((if ((a4 + 1) : Int32) < (I 8 15) then (a4 + 1) else 0).toNatClampNeg)) : Int32).toInt64)) - ((((I 18 ((if ((a4 + 1) : Int32) < (I 8 15) then (a4 + 1) else 0).toNatClampNeg)) : Int32).toInt64) * (((I 19 a4.toNatClampNeg) : Int32).toInt64))))), (4, .int a4), (5, .int (if ((a4 + 1) : Int32) < (I 8 15) then (a4 + 1) else 0))] dX2_areaOf_77 (by decide) rfl ?_
      refine z_iinc (j := 3) (a4 + 1) [1, 2, 3, 0, 4] [(0, .ref (n0 + 8)), (1, .ref (n0 + a1)), (2, .long (a2 + (((((I 18 a4.toNatClampNeg) : Int32).toInt64) * (((I 19 ((if ((a4 + 1) : Int32) < (I 8 15) then (a4 + 1) else 0).toNatClampNeg)) : Int32).toInt64)) - ((((I 18 ((if ((a4 + 1) : Int32) < (I 8 15) then (a4 + 1) else 0).toNatClampNeg)) : Int32).toInt64) * (((I 19 a4.toNatClampNeg) : Int32).toInt64))))), (4, .int (a4 + 1)), (5, .int (if ((a4 + 1) : Int32) < (I 8 15) then (a4 + 1) else 0))] dX2_areaOf_78 rfl rfl (by decide) rfl ?_
      refine z_goto 10 dX2_areaOf_81 (by decide) ?_
      refine z_sub [0, 1, 2, 3] rfl ?_
      exact h
    refine z_icmp_ge 37 dX2_areaOf_27 (by decide) (fun g7 => ?_) (fun g7 => ?_)
    · refine z_iconst 0 dX2_areaOf_37 (by decide) ?_
      have ee : ((if ((a4 + 1) : Int32) < (I 8 15) then (a4 + 1) else 0) : Int32) = 0 := by rw [if_neg g7]
      rw [ee] at key8
      clear ee
      exact key8
    · refine z_iload 3 dX2_areaOf_30 rfl ?_
      refine z_iconst 1 dX2_areaOf_32 (by decide) ?_
      refine z_iadd dX2_areaOf_33 ?_
      refine z_goto 38 dX2_areaOf_34 (by decide) ?_
      have ee : ((if ((a4 + 1) : Int32) < (I 8 15) then (a4 + 1) else 0) : Int32) = (a4 + 1) := by rw [if_pos g7]
      rw [ee] at key8
      clear ee
      exact key8
theorem dX3_addPiece_0 : decode cX3_addPiece 0 = .ok (.aload_n 0, 1) := by decide +kernel
theorem dX3_addPiece_1 : decode cX3_addPiece 1 = .ok (.getfield 34, 3) := by decide +kernel
theorem dX3_addPiece_4 : decode cX3_addPiece 4 = .ok (.bipush 8, 2) := by decide +kernel
theorem dX3_addPiece_6 : decode cX3_addPiece 6 = .ok (.if_icmp .lt 8, 3) := by decide +kernel
theorem dX3_addPiece_9 : decode cX3_addPiece 9 = .ok (.aload_n 0, 1) := by decide +kernel
theorem dX3_addPiece_10 : decode cX3_addPiece 10 = .ok (.getfield 34, 3) := by decide +kernel
theorem dX3_addPiece_13 : decode cX3_addPiece 13 = .ok (.ireturn, 1) := by decide +kernel
theorem dX3_addPiece_14 : decode cX3_addPiece 14 = .ok (.aload_n 0, 1) := by decide +kernel
theorem dX3_addPiece_15 : decode cX3_addPiece 15 = .ok (.getfield 11, 3) := by decide +kernel
theorem dX3_addPiece_18 : decode cX3_addPiece 18 = .ok (.aload_n 0, 1) := by decide +kernel
theorem dX3_addPiece_19 : decode cX3_addPiece 19 = .ok (.getfield 34, 3) := by decide +kernel
theorem dX3_addPiece_22 : decode cX3_addPiece 22 = .ok (.aload_n 1, 1) := by decide +kernel
theorem dX3_addPiece_23 : decode cX3_addPiece 23 = .ok (.aastore, 1) := by decide +kernel
theorem dX3_addPiece_24 : decode cX3_addPiece 24 = .ok (.aload_n 0, 1) := by decide +kernel
theorem dX3_addPiece_25 : decode cX3_addPiece 25 = .ok (.getfield 17, 3) := by decide +kernel
theorem dX3_addPiece_28 : decode cX3_addPiece 28 = .ok (.aload_n 0, 1) := by decide +kernel
theorem dX3_addPiece_29 : decode cX3_addPiece 29 = .ok (.getfield 34, 3) := by decide +kernel
theorem dX3_addPiece_32 : decode cX3_addPiece 32 = .ok (.iload_n 2, 1) := by decide +kernel
theorem dX3_addPiece_33 : decode cX3_addPiece 33 = .ok (.iastore, 1) := by decide +kernel
theorem dX3_addPiece_34 : decode cX3_addPiece 34 = .ok (.aload_n 0, 1) := by decide +kernel
theorem dX3_addPiece_35 : decode cX3_addPiece 35 = .ok (.dup, 1) := by decide +kernel
theorem dX3_addPiece_36 : decode cX3_addPiece 36 = .ok (.getfield 34, 3) := by decide +kernel
theorem dX3_addPiece_39 : decode cX3_addPiece 39 = .ok (.iconst 1, 1) := by decide +kernel
theorem dX3_addPiece_40 : decode cX3_addPiece 40 = .ok (.iadd, 1) := by decide +kernel
theorem dX3_addPiece_41 : decode cX3_addPiece 41 = .ok (.putfield 34, 3) := by decide +kernel
theorem dX3_addPiece_44 : decode cX3_addPiece 44 = .ok (.aload_n 0, 1) := by decide +kernel
theorem dX3_addPiece_45 : decode cX3_addPiece 45 = .ok (.getfield 34, 3) := by decide +kernel
theorem dX3_addPiece_48 : decode cX3_addPiece 48 = .ok (.ireturn, 1) := by decide +kernel
set_option maxRecDepth 100000 in
set_option maxHeartbeats 4000000 in
theorem wp_X3_addPiece {n0 d : Nat} {K : z_K} {I : z_I} {L : z_L} {Q : z_R} {o0 : Nat} {p0 : Nat} {p1 : Int32} (h : o0 < K.1 ∧ (K.2.1 o0).1 = 3 ∧ (if ((I o0 3) : Int32) < 8 then (∃ q4, K.2.2 o0 1 = some q4 ∧ ∃ n5, q4 < K.1 ∧ K.2.1 q4 = (35, n5) ∧ vp_in (I o0 3) n5 ∧ p0 < K.1 ∧ (K.2.1 p0).1 = 5 ∧ o0 < (zR K q4 ((I o0 3).toNatClampNeg) (some p0)).1 ∧ ((zR K q4 ((I o0 3).toNatClampNeg) (some p0)).2.1 o0).1 = 3 ∧ (∃ q13, ((zR K q4 ((I o0 3).toNatClampNeg) (some p0))).2.2 o0 2 = some q13 ∧ ∃ n14, q13 < (zR K q4 ((I o0 3).toNatClampNeg) (some p0)).1 ∧ (zR K q4 ((I o0 3).toNatClampNeg) (some p0)).2.1 q13 = (20, n14) ∧ vp_in (I o0 3) n14 ∧ Q (some (.int ((zI (zI I q13 ((I o0 3).toNatClampNeg) p1) o0 3 (((zI I q13 ((I o0 3).toNatClampNeg) p1) o0 3) + 1)) o0 3))) (zR K q4 ((I o0 3).toNatClampNeg) (some p0)) (zI (zI I q13 ((I o0 3).toNatClampNeg) p1) o0 3 (((zI I q13 ((I o0 3).toNatClampNeg) p1) o0 3) + 1)) L)) else Q (some (.int (I o0 3))) K I L)) : RM n0 xX3_addPiece d 0 0 [.ref (n0 + o0), .ref (n0 + p0), .int p1] K I L Q := by
  refine z_entry (by decide) (Nat.le_of_ble_eq_true rfl) ?_
  change Z n0 xX3_addPiece d 0 0 0 [(0, .ref (n0 + o0)), (1, .ref (n0 + p0)), (2, .int p1)] [] K I L Q
  refine z_aload_n 0 dX3_addPiece_0 rfl ?_
  obtain ⟨o1, o2, h⟩ := h
  refine fg_3_34 (I o0 3) rfl dX3_addPiece_1 o1 o2 rfl ?_
  refine z_bipush 8 dX3_addPiece_4 (by decide) ?_
  refine z_icmp_lt 14 dX3_addPiece_6 (by decide) (fun g3 => ?_) (fun g3 => ?_)
  · rw [if_pos g3] at h
    refine z_aload_n 0 dX3_addPiece_14 rfl ?_
    obtain ⟨q4, q4e, h⟩ := h
    refine fg_3_11 (some q4) rfl dX3_addPiece_15 o1 o2 q4e ?_
    refine z_aload_n 0 dX3_addPiece_18 rfl ?_
    refine fg_3_34 (I o0 3) rfl dX3_addPiece_19 o1 o2 rfl ?_
    refine z_aload_n 1 dX3_addPiece_22 rfl ?_
    obtain ⟨n5, o6, o7, o8, o9, o10, h⟩ := h
    refine z_aast (t := 35) dX3_addPiece_23 o6 o7 (by unfold z_rt; decide) o8 o9 o10 ?_
    refine z_aload_n 0 dX3_addPiece_24 rfl ?_
    obtain ⟨o11, o12, h⟩ := h
    obtain ⟨q13, q13e, h⟩ := h
    refine fg_3_17 (some q13) rfl dX3_addPiece_25 o11 o12 q13e ?_
    refine z_aload_n 0 dX3_addPiece_28 rfl ?_
    refine fg_3_34 (I o0 3) rfl dX3_addPiece_29 o11 o12 rfl ?_
    refine z_iload_n 2 dX3_addPiece_32 rfl ?_
    obtain ⟨n14, o15, o16, o17, h⟩ := h
    refine z_iast dX3_addPiece_33 o15 o16 o17 ?_
    refine z_aload_n 0 dX3_addPiece_34 rfl ?_
    refine z_dup dX3_addPiece_35 rfl ?_
    refine fg_3_34 ((zI I q13 ((I o0 3).toNatClampNeg) p1) o0 3) rfl dX3_addPiece_36 o11 o12 rfl ?_
    refine z_iconst 1 dX3_addPiece_39 (by decide) ?_
    refine z_iadd dX3_addPiece_40 ?_
    refine fp_3_34 rfl dX3_addPiece_41 o11 o12 ?_
    refine z_aload_n 0 dX3_addPiece_44 rfl ?_
    refine fg_3_34 ((zI (zI I q13 ((I o0 3).toNatClampNeg) p1) o0 3 (((zI I q13 ((I o0 3).toNatClampNeg) p1) o0 3) + 1)) o0 3) rfl dX3_addPiece_45 o11 o12 rfl ?_
    exact z_iret dX3_addPiece_48 rfl h
  · rw [if_neg g3] at h
    refine z_aload_n 0 dX3_addPiece_9 rfl ?_
    refine fg_3_34 (I o0 3) rfl dX3_addPiece_10 o1 o2 rfl ?_
    exact z_iret dX3_addPiece_13 rfl h
theorem dX3_addWord_0 : decode cX3_addWord 0 = .ok (.aload_n 0, 1) := by decide +kernel
theorem dX3_addWord_1 : decode cX3_addWord 1 = .ok (.getfield 37, 3) := by decide +kernel
theorem dX3_addWord_4 : decode cX3_addWord 4 = .ok (.bipush 12, 2) := by decide +kernel
theorem dX3_addWord_6 : decode cX3_addWord 6 = .ok (.if_icmp .lt 8, 3) := by decide +kernel
theorem dX3_addWord_9 : decode cX3_addWord 9 = .ok (.aload_n 0, 1) := by decide +kernel
theorem dX3_addWord_10 : decode cX3_addWord 10 = .ok (.getfield 37, 3) := by decide +kernel
theorem dX3_addWord_13 : decode cX3_addWord 13 = .ok (.ireturn, 1) := by decide +kernel
theorem dX3_addWord_14 : decode cX3_addWord 14 = .ok (.aload_n 0, 1) := by decide +kernel
theorem dX3_addWord_15 : decode cX3_addWord 15 = .ok (.getfield 21, 3) := by decide +kernel
theorem dX3_addWord_18 : decode cX3_addWord 18 = .ok (.aload_n 0, 1) := by decide +kernel
theorem dX3_addWord_19 : decode cX3_addWord 19 = .ok (.getfield 37, 3) := by decide +kernel
theorem dX3_addWord_22 : decode cX3_addWord 22 = .ok (.iload_n 1, 1) := by decide +kernel
theorem dX3_addWord_23 : decode cX3_addWord 23 = .ok (.iastore, 1) := by decide +kernel
theorem dX3_addWord_24 : decode cX3_addWord 24 = .ok (.aload_n 0, 1) := by decide +kernel
theorem dX3_addWord_25 : decode cX3_addWord 25 = .ok (.getfield 24, 3) := by decide +kernel
theorem dX3_addWord_28 : decode cX3_addWord 28 = .ok (.aload_n 0, 1) := by decide +kernel
theorem dX3_addWord_29 : decode cX3_addWord 29 = .ok (.getfield 37, 3) := by decide +kernel
theorem dX3_addWord_32 : decode cX3_addWord 32 = .ok (.iload_n 2, 1) := by decide +kernel
theorem dX3_addWord_33 : decode cX3_addWord 33 = .ok (.iastore, 1) := by decide +kernel
theorem dX3_addWord_34 : decode cX3_addWord 34 = .ok (.aload_n 0, 1) := by decide +kernel
theorem dX3_addWord_35 : decode cX3_addWord 35 = .ok (.getfield 27, 3) := by decide +kernel
theorem dX3_addWord_38 : decode cX3_addWord 38 = .ok (.aload_n 0, 1) := by decide +kernel
theorem dX3_addWord_39 : decode cX3_addWord 39 = .ok (.getfield 37, 3) := by decide +kernel
theorem dX3_addWord_42 : decode cX3_addWord 42 = .ok (.iload_n 3, 1) := by decide +kernel
theorem dX3_addWord_43 : decode cX3_addWord 43 = .ok (.iastore, 1) := by decide +kernel
theorem dX3_addWord_44 : decode cX3_addWord 44 = .ok (.aload_n 0, 1) := by decide +kernel
theorem dX3_addWord_45 : decode cX3_addWord 45 = .ok (.dup, 1) := by decide +kernel
theorem dX3_addWord_46 : decode cX3_addWord 46 = .ok (.getfield 37, 3) := by decide +kernel
theorem dX3_addWord_49 : decode cX3_addWord 49 = .ok (.iconst 1, 1) := by decide +kernel
theorem dX3_addWord_50 : decode cX3_addWord 50 = .ok (.iadd, 1) := by decide +kernel
theorem dX3_addWord_51 : decode cX3_addWord 51 = .ok (.putfield 37, 3) := by decide +kernel
theorem dX3_addWord_54 : decode cX3_addWord 54 = .ok (.aload_n 0, 1) := by decide +kernel
theorem dX3_addWord_55 : decode cX3_addWord 55 = .ok (.getfield 37, 3) := by decide +kernel
theorem dX3_addWord_58 : decode cX3_addWord 58 = .ok (.ireturn, 1) := by decide +kernel
set_option maxRecDepth 100000 in
set_option maxHeartbeats 4000000 in
theorem wp_X3_addWord {n0 d : Nat} {K : z_K} {I : z_I} {L : z_L} {Q : z_q} {o0 : Nat} {p0 : Int32} {p1 : Int32} {p2 : Int32} (h : o0 < K.1 ∧ (K.2.1 o0).1 = 3 ∧ (if ((I o0 7) : Int32) < 12 then (∃ q4, K.2.2 o0 4 = some q4 ∧ ∃ n5, q4 < K.1 ∧ K.2.1 q4 = (20, n5) ∧ vp_in (I o0 7) n5 ∧ (∃ q9, K.2.2 o0 5 = some q9 ∧ ∃ n10, q9 < K.1 ∧ K.2.1 q9 = (20, n10) ∧ vp_in ((zI I q4 ((I o0 7).toNatClampNeg) p0) o0 7) n10 ∧ (∃ q14, K.2.2 o0 6 = some q14 ∧ ∃ n15, q14 < K.1 ∧ K.2.1 q14 = (20, n15) ∧ vp_in ((zI (zI I q4 ((I o0 7).toNatClampNeg) p0) q9 (((zI I q4 ((I o0 7).toNatClampNeg) p0) o0 7).toNatClampNeg) p1) o0 7) n15 ∧ Q (some (.int ((zI (zI (zI (zI I q4 ((I o0 7).toNatClampNeg) p0) q9 (((zI I q4 ((I o0 7).toNatClampNeg) p0) o0 7).toNatClampNeg) p1) q14 (((zI (zI I q4 ((I o0 7).toNatClampNeg) p0) q9 (((zI I q4 ((I o0 7).toNatClampNeg) p0) o0 7).toNatClampNeg) p1) o0 7).toNatClampNeg) p2) o0 7 (((zI (zI (zI I q4 ((I o0 7).toNatClampNeg) p0) q9 (((zI I q4 ((I o0 7).toNatClampNeg) p0) o0 7).toNatClampNeg) p1) q14 (((zI (zI I q4 ((I o0 7).toNatClampNeg) p0) q9 (((zI I q4 ((I o0 7).toNatClampNeg) p0) o0 7).toNatClampNeg) p1) o0 7).toNatClampNeg) p2) o0 7) + 1)) o0 7))) (zI (zI (zI (zI I q4 ((I o0 7).toNatClampNeg) p0) q9 (((zI I q4 ((I o0 7).toNatClampNeg) p0) o0 7).toNatClampNeg) p1) q14 (((zI (zI I q4 ((I o0 7).toNatClampNeg) p0) q9 (((zI I q4 ((I o0 7).toNatClampNeg) p0) o0 7).toNatClampNeg) p1) o0 7).toNatClampNeg) p2) o0 7 (((zI (zI (zI I q4 ((I o0 7).toNatClampNeg) p0) q9 (((zI I q4 ((I o0 7).toNatClampNeg) p0) o0 7).toNatClampNeg) p1) q14 (((zI (zI I q4 ((I o0 7).toNatClampNeg) p0) q9 (((zI I q4 ((I o0 7).toNatClampNeg) p0) o0 7).toNatClampNeg) p1) o0 7).toNatClampNeg) p2) o0 7) + 1)) L))) else Q (some (.int (I o0 7))) I L)) : RM0 n0 xX3_addWord d [.ref (n0 + o0), .int p0, .int p1, .int p2] K I L Q := by
  refine z_entry0 (by decide) (Nat.le_of_ble_eq_true rfl) ?_
  change Z n0 xX3_addWord d 0 0 0 [(0, .ref (n0 + o0)), (1, .int p0), (2, .int p1), (3, .int p2)] [] K I L (z_q0 K Q)
  refine z_aload_n 0 dX3_addWord_0 rfl ?_
  obtain ⟨o1, o2, h⟩ := h
  refine fg_3_37 (I o0 7) rfl dX3_addWord_1 o1 o2 rfl ?_
  refine z_bipush 12 dX3_addWord_4 (by decide) ?_
  refine z_icmp_lt 14 dX3_addWord_6 (by decide) (fun g3 => ?_) (fun g3 => ?_)
  · rw [if_pos g3] at h
    refine z_aload_n 0 dX3_addWord_14 rfl ?_
    obtain ⟨q4, q4e, h⟩ := h
    refine fg_3_21 (some q4) rfl dX3_addWord_15 o1 o2 q4e ?_
    refine z_aload_n 0 dX3_addWord_18 rfl ?_
    refine fg_3_37 (I o0 7) rfl dX3_addWord_19 o1 o2 rfl ?_
    refine z_iload_n 1 dX3_addWord_22 rfl ?_
    obtain ⟨n5, o6, o7, o8, h⟩ := h
    refine z_iast dX3_addWord_23 o6 o7 o8 ?_
    refine z_aload_n 0 dX3_addWord_24 rfl ?_
    obtain ⟨q9, q9e, h⟩ := h
    refine fg_3_24 (some q9) rfl dX3_addWord_25 o1 o2 q9e ?_
    refine z_aload_n 0 dX3_addWord_28 rfl ?_
    refine fg_3_37 ((zI I q4 ((I o0 7).toNatClampNeg) p0) o0 7) rfl dX3_addWord_29 o1 o2 rfl ?_
    refine z_iload_n 2 dX3_addWord_32 rfl ?_
    obtain ⟨n10, o11, o12, o13, h⟩ := h
    refine z_iast dX3_addWord_33 o11 o12 o13 ?_
    refine z_aload_n 0 dX3_addWord_34 rfl ?_
    obtain ⟨q14, q14e, h⟩ := h
    refine fg_3_27 (some q14) rfl dX3_addWord_35 o1 o2 q14e ?_
    refine z_aload_n 0 dX3_addWord_38 rfl ?_
    refine fg_3_37 ((zI (zI I q4 ((I o0 7).toNatClampNeg) p0) q9 (((zI I q4 ((I o0 7).toNatClampNeg) p0) o0 7).toNatClampNeg) p1) o0 7) rfl dX3_addWord_39 o1 o2 rfl ?_
    refine z_iload_n 3 dX3_addWord_42 rfl ?_
    obtain ⟨n15, o16, o17, o18, h⟩ := h
    refine z_iast dX3_addWord_43 o16 o17 o18 ?_
    refine z_aload_n 0 dX3_addWord_44 rfl ?_
    refine z_dup dX3_addWord_45 rfl ?_
    refine fg_3_37 ((zI (zI (zI I q4 ((I o0 7).toNatClampNeg) p0) q9 (((zI I q4 ((I o0 7).toNatClampNeg) p0) o0 7).toNatClampNeg) p1) q14 (((zI (zI I q4 ((I o0 7).toNatClampNeg) p0) q9 (((zI I q4 ((I o0 7).toNatClampNeg) p0) o0 7).toNatClampNeg) p1) o0 7).toNatClampNeg) p2) o0 7) rfl dX3_addWord_46 o1 o2 rfl ?_
    refine z_iconst 1 dX3_addWord_49 (by decide) ?_
    refine z_iadd dX3_addWord_50 ?_
    refine fp_3_37 rfl dX3_addWord_51 o1 o2 ?_
    refine z_aload_n 0 dX3_addWord_54 rfl ?_
    refine fg_3_37 ((zI (zI (zI (zI I q4 ((I o0 7).toNatClampNeg) p0) q9 (((zI I q4 ((I o0 7).toNatClampNeg) p0) o0 7).toNatClampNeg) p1) q14 (((zI (zI I q4 ((I o0 7).toNatClampNeg) p0) q9 (((zI I q4 ((I o0 7).toNatClampNeg) p0) o0 7).toNatClampNeg) p1) o0 7).toNatClampNeg) p2) o0 7 (((zI (zI (zI I q4 ((I o0 7).toNatClampNeg) p0) q9 (((zI I q4 ((I o0 7).toNatClampNeg) p0) o0 7).toNatClampNeg) p1) q14 (((zI (zI I q4 ((I o0 7).toNatClampNeg) p0) q9 (((zI I q4 ((I o0 7).toNatClampNeg) p0) o0 7).toNatClampNeg) p1) o0 7).toNatClampNeg) p2) o0 7) + 1)) o0 7) rfl dX3_addWord_55 o1 o2 rfl ?_
    exact z_iret dX3_addWord_58 rfl ⟨rfl, h⟩
  · rw [if_neg g3] at h
    refine z_aload_n 0 dX3_addWord_9 rfl ?_
    refine fg_3_37 (I o0 7) rfl dX3_addWord_10 o1 o2 rfl ?_
    exact z_iret dX3_addWord_13 rfl ⟨rfl, h⟩
theorem dX3_holdsFrom_0 : decode cX3_holdsFrom 0 = .ok (.iconst 0, 1) := by decide +kernel
theorem dX3_holdsFrom_1 : decode cX3_holdsFrom 1 = .ok (.istore_n 2, 1) := by decide +kernel
theorem dX3_holdsFrom_2 : decode cX3_holdsFrom 2 = .ok (.iload_n 2, 1) := by decide +kernel
theorem dX3_holdsFrom_3 : decode cX3_holdsFrom 3 = .ok (.aload_n 0, 1) := by decide +kernel
theorem dX3_holdsFrom_4 : decode cX3_holdsFrom 4 = .ok (.getfield 34, 3) := by decide +kernel
theorem dX3_holdsFrom_7 : decode cX3_holdsFrom 7 = .ok (.if_icmp .ge 24, 3) := by decide +kernel
theorem dX3_holdsFrom_10 : decode cX3_holdsFrom 10 = .ok (.aload_n 0, 1) := by decide +kernel
theorem dX3_holdsFrom_11 : decode cX3_holdsFrom 11 = .ok (.getfield 11, 3) := by decide +kernel
theorem dX3_holdsFrom_14 : decode cX3_holdsFrom 14 = .ok (.iload_n 2, 1) := by decide +kernel
theorem dX3_holdsFrom_15 : decode cX3_holdsFrom 15 = .ok (.aaload, 1) := by decide +kernel
theorem dX3_holdsFrom_16 : decode cX3_holdsFrom 16 = .ok (.aload_n 1, 1) := by decide +kernel
theorem dX3_holdsFrom_17 : decode cX3_holdsFrom 17 = .ok (.invokevirtual 40, 3) := by decide +kernel
theorem dX3_holdsFrom_20 : decode cX3_holdsFrom 20 = .ok (.ifCond .eq 5, 3) := by decide +kernel
theorem dX3_holdsFrom_23 : decode cX3_holdsFrom 23 = .ok (.iconst 1, 1) := by decide +kernel
theorem dX3_holdsFrom_24 : decode cX3_holdsFrom 24 = .ok (.ireturn, 1) := by decide +kernel
theorem dX3_holdsFrom_25 : decode cX3_holdsFrom 25 = .ok (.iinc 2 1, 3) := by decide +kernel
theorem dX3_holdsFrom_28 : decode cX3_holdsFrom 28 = .ok (.goto (-26), 3) := by decide +kernel
theorem dX3_holdsFrom_31 : decode cX3_holdsFrom 31 = .ok (.iconst 0, 1) := by decide +kernel
theorem dX3_holdsFrom_32 : decode cX3_holdsFrom 32 = .ok (.ireturn, 1) := by decide +kernel
set_option maxRecDepth 100000 in
set_option maxHeartbeats 4000000 in
theorem wp_X3_holdsFrom {n0 d : Nat} {K : z_K} {I : z_I} {L : z_L} {Q : z_q} {o0 : Nat} {p0 : Nat} (h : Z n0 xX3_holdsFrom (d + 1) 0 0 2 [(0, .ref (n0 + o0)), (1, .ref (n0 + p0)), (2, .int 0)] [] K I L (z_q0 K Q)) : RM0 n0 xX3_holdsFrom (d + 1) [.ref (n0 + o0), .ref (n0 + p0)] K I L Q := by
  refine z_entry0 (by decide) (Nat.le_of_ble_eq_true rfl) ?_
  change Z n0 xX3_holdsFrom (d + 1) 0 0 0 [(0, .ref (n0 + o0)), (1, .ref (n0 + p0))] [] K I L (z_q0 K Q)
  refine z_iconst 0 dX3_holdsFrom_0 (by decide) ?_
  refine z_istore_n [1, 2, 0] [(0, .ref (n0 + o0)), (1, .ref (n0 + p0)), (2, .int 0)] dX3_holdsFrom_1 (by decide) rfl ?_
  exact h
set_option maxRecDepth 100000 in
set_option maxHeartbeats 4000000 in
theorem wp_X3_holdsFrom_2 {n0 d : Nat} {rc rs : Nat} {K : z_K} {I : z_I} {L : z_L} {Q : z_q} {o0 : Nat} {a1 : Nat} {a2 : Int32} (h : o0 < K.1 ∧ (K.2.1 o0).1 = 3 ∧ (if a2 < (I o0 3) then (∃ q4, K.2.2 o0 1 = some q4 ∧ ∃ n5, q4 < K.1 ∧ K.2.1 q4 = (35, n5) ∧ vp_in a2 n5 ∧ (∃ q9, K.2.2 q4 a2.toNatClampNeg = some q9 ∧ q9 < K.1 ∧ (K.2.1 q9).1 = 5 ∧ RM0 n0 xX5_isOrComesFrom d [.ref (n0 + q9), .ref (n0 + a1)] K I L (fun vv I12 L13 => ∃ r14 : Int32, vv = some (.int r14) ∧ (if r14 = 0 then Z n0 xX3_holdsFrom (d + 1) rc rs 2 [(0, .ref (n0 + o0)), (1, .ref (n0 + a1)), (2, .int (a2 + 1))] [] K I12 L13 (z_q0 K Q) else Q (some (.int 1)) I12 L13)))) else Q (some (.int 0)) I L)) : Z n0 xX3_holdsFrom (d + 1) rc rs 2 [(0, .ref (n0 + o0)), (1, .ref (n0 + a1)), (2, .int a2)] [] K I L (z_q0 K Q) := by
  refine z_iload_n 2 dX3_holdsFrom_2 rfl ?_
  refine z_aload_n 0 dX3_holdsFrom_3 rfl ?_
  obtain ⟨o1, o2, h⟩ := h
  refine fg_3_34 (I o0 3) rfl dX3_holdsFrom_4 o1 o2 rfl ?_
  refine z_icmp_ge 31 dX3_holdsFrom_7 (by decide) (fun g3 => ?_) (fun g3 => ?_)
  · rw [if_neg g3] at h
    refine z_iconst 0 dX3_holdsFrom_31 (by decide) ?_
    exact z_zretb dX3_holdsFrom_32 rfl (Or.inl rfl) ⟨rfl, h⟩
  · rw [if_pos g3] at h
    refine z_aload_n 0 dX3_holdsFrom_10 rfl ?_
    obtain ⟨q4, q4e, h⟩ := h
    refine fg_3_11 (some q4) rfl dX3_holdsFrom_11 o1 o2 q4e ?_
    refine z_iload_n 2 dX3_holdsFrom_14 rfl ?_
    obtain ⟨n5, o6, o7, o8, h⟩ := h
    obtain ⟨q9, q9e, h⟩ := h
    refine z_aald (some q9) dX3_holdsFrom_15 o6 o7 (by unfold z_rt; decide) o8 q9e ?_
    refine z_aload_n 1 dX3_holdsFrom_16 rfl ?_
    obtain ⟨o10, o11, h⟩ := h
    refine z_callV0 (As := [.ref (n0 + a1)]) (st := []) dX3_holdsFrom_17 hy_X5_isOrComesFrom o10 o11 (by decide) wg_1328 wg_1329 wg_1330 (Nat.le_refl _) (Nat.le_of_ble_eq_true rfl) (RM0.mono h ?_)
    clear h
    intro vv I12 L13 h
    obtain ⟨r14, rfl, h⟩ := h
    change Z n0 xX3_holdsFrom (d + 1) rc rs 20 [(0, .ref (n0 + o0)), (1, .ref (n0 + a1)), (2, .int a2)] [.int r14] K I12 L13 (z_q0 K Q)
    refine z_if_eq 25 dX3_holdsFrom_20 (by decide) (fun g15 => ?_) (fun g15 => ?_)
    · rw [if_pos g15] at h
      refine z_iinc (j := 2) (a2 + 1) [1, 2, 0] [(0, .ref (n0 + o0)), (1, .ref (n0 + a1)), (2, .int (a2 + 1))] dX3_holdsFrom_25 rfl rfl (by decide) rfl ?_
      refine z_goto 2 dX3_holdsFrom_28 (by decide) ?_
      exact h
    · rw [if_neg g15] at h
      refine z_iconst 1 dX3_holdsFrom_23 (by decide) ?_
      exact z_zretb dX3_holdsFrom_24 rfl (Or.inr rfl) ⟨rfl, h⟩
theorem dX4_add_0 : decode cX4_add 0 = .ok (.aload_n 0, 1) := by decide +kernel
theorem dX4_add_1 : decode cX4_add 1 = .ok (.getfield 57, 3) := by decide +kernel
theorem dX4_add_4 : decode cX4_add 4 = .ok (.iconst 4, 1) := by decide +kernel
theorem dX4_add_5 : decode cX4_add 5 = .ok (.if_icmp .lt 8, 3) := by decide +kernel
theorem dX4_add_8 : decode cX4_add 8 = .ok (.aload_n 0, 1) := by decide +kernel
theorem dX4_add_9 : decode cX4_add 9 = .ok (.getfield 57, 3) := by decide +kernel
theorem dX4_add_12 : decode cX4_add 12 = .ok (.ireturn, 1) := by decide +kernel
theorem dX4_add_13 : decode cX4_add 13 = .ok (.aload_n 0, 1) := by decide +kernel
theorem dX4_add_14 : decode cX4_add 14 = .ok (.getfield 25, 3) := by decide +kernel
theorem dX4_add_17 : decode cX4_add 17 = .ok (.aload_n 0, 1) := by decide +kernel
theorem dX4_add_18 : decode cX4_add 18 = .ok (.getfield 57, 3) := by decide +kernel
theorem dX4_add_21 : decode cX4_add 21 = .ok (.aload_n 1, 1) := by decide +kernel
theorem dX4_add_22 : decode cX4_add 22 = .ok (.aastore, 1) := by decide +kernel
theorem dX4_add_23 : decode cX4_add 23 = .ok (.aload_n 0, 1) := by decide +kernel
theorem dX4_add_24 : decode cX4_add 24 = .ok (.getfield 29, 3) := by decide +kernel
theorem dX4_add_27 : decode cX4_add 27 = .ok (.aload_n 0, 1) := by decide +kernel
theorem dX4_add_28 : decode cX4_add 28 = .ok (.getfield 57, 3) := by decide +kernel
theorem dX4_add_31 : decode cX4_add 31 = .ok (.iload_n 2, 1) := by decide +kernel
theorem dX4_add_32 : decode cX4_add 32 = .ok (.iastore, 1) := by decide +kernel
theorem dX4_add_33 : decode cX4_add 33 = .ok (.aload_n 0, 1) := by decide +kernel
theorem dX4_add_34 : decode cX4_add 34 = .ok (.dup, 1) := by decide +kernel
theorem dX4_add_35 : decode cX4_add 35 = .ok (.getfield 57, 3) := by decide +kernel
theorem dX4_add_38 : decode cX4_add 38 = .ok (.iconst 1, 1) := by decide +kernel
theorem dX4_add_39 : decode cX4_add 39 = .ok (.iadd, 1) := by decide +kernel
theorem dX4_add_40 : decode cX4_add 40 = .ok (.putfield 57, 3) := by decide +kernel
theorem dX4_add_43 : decode cX4_add 43 = .ok (.aload_n 0, 1) := by decide +kernel
theorem dX4_add_44 : decode cX4_add 44 = .ok (.getfield 57, 3) := by decide +kernel
theorem dX4_add_47 : decode cX4_add 47 = .ok (.ireturn, 1) := by decide +kernel
set_option maxRecDepth 100000 in
set_option maxHeartbeats 4000000 in
theorem wp_X4_add {n0 d : Nat} {K : z_K} {I : z_I} {L : z_L} {Q : z_R} {p0 : Nat} {p1 : Int32} (hL : CLay K) (h : (if ((I 25 4) : Int32) < 4 then vp_in (I 25 4) 4 ∧ p0 < K.1 ∧ (K.2.1 p0).1 = 5 ∧ Q (some (.int (((I 25 4) + 1)))) (zR K 27 ((I 25 4).toNatClampNeg) (some p0)) (zI (zI I 28 ((I 25 4).toNatClampNeg) p1) 25 4 ((I 25 4) + 1)) L else Q (some (.int (I 25 4))) K I L)) : RM n0 xX4_add d 0 0 [.ref (n0 + 25), .ref (n0 + p0), .int p1] K I L Q := by
  refine z_entry (by decide) (Nat.le_of_ble_eq_true rfl) ?_
  change Z n0 xX4_add d 0 0 0 [(0, .ref (n0 + 25)), (1, .ref (n0 + p0)), (2, .int p1)] [] K I L Q
  refine z_aload_n 0 dX4_add_0 rfl ?_
  refine fg_4_57 (I 25 4) rfl dX4_add_1 (co_25 hL).1 (co_25 hL).2 rfl ?_
  refine z_iconst 4 dX4_add_4 (by decide) ?_
  refine z_icmp_lt 13 dX4_add_5 (by decide) (fun g1 => ?_) (fun g1 => ?_)
  · rw [if_pos g1] at h
    refine z_aload_n 0 dX4_add_13 rfl ?_
    refine fg_4_25 (some 27) rfl dX4_add_14 (co_25 hL).1 (co_25 hL).2 (ca_27 hL).1 ?_
    refine z_aload_n 0 dX4_add_17 rfl ?_
    refine fg_4_57 (I 25 4) rfl dX4_add_18 (co_25 hL).1 (co_25 hL).2 rfl ?_
    refine z_aload_n 1 dX4_add_21 rfl ?_
    obtain ⟨o2, o3, o4, h⟩ := h
    refine z_aast (t := 35) dX4_add_22 (ca_27 hL).2.1 (ca_27 hL).2.2 (by unfold z_rt; decide) o2 o3 o4 ?_
    refine z_aload_n 0 dX4_add_23 rfl ?_
    refine fg_4_29 (some 28) rfl dX4_add_24 (co_25 hL).1 (co_25 hL).2 (ca_28 hL).1 ?_
    refine z_aload_n 0 dX4_add_27 rfl ?_
    refine fg_4_57 (I 25 4) rfl dX4_add_28 (co_25 hL).1 (co_25 hL).2 rfl ?_
    refine z_iload_n 2 dX4_add_31 rfl ?_
    refine z_iast dX4_add_32 (ca_28 hL).2.1 (ca_28 hL).2.2 o2 ?_
    refine z_aload_n 0 dX4_add_33 rfl ?_
    refine z_dup dX4_add_34 rfl ?_
    refine fg_4_57 (I 25 4) rfl dX4_add_35 (co_25 hL).1 (co_25 hL).2 rfl ?_
    refine z_iconst 1 dX4_add_38 (by decide) ?_
    refine z_iadd dX4_add_39 ?_
    refine fp_4_57 rfl dX4_add_40 (co_25 hL).1 (co_25 hL).2 ?_
    refine z_aload_n 0 dX4_add_43 rfl ?_
    refine fg_4_57 (((I 25 4) + 1)) rfl dX4_add_44 (co_25 hL).1 (co_25 hL).2 rfl ?_
    exact z_iret dX4_add_47 rfl h
  · rw [if_neg g1] at h
    refine z_aload_n 0 dX4_add_8 rfl ?_
    refine fg_4_57 (I 25 4) rfl dX4_add_9 (co_25 hL).1 (co_25 hL).2 rfl ?_
    exact z_iret dX4_add_12 rfl h
theorem dX4_bound_0 : decode cX4_bound 0 = .ok (.iconst 1, 1) := by decide +kernel
theorem dX4_bound_1 : decode cX4_bound 1 = .ok (.aload_n 0, 1) := by decide +kernel
theorem dX4_bound_2 : decode cX4_bound 2 = .ok (.getfield 18, 3) := by decide +kernel
theorem dX4_bound_5 : decode cX4_bound 5 = .ok (.iconst 0, 1) := by decide +kernel
theorem dX4_bound_6 : decode cX4_bound 6 = .ok (.iaload, 1) := by decide +kernel
theorem dX4_bound_7 : decode cX4_bound 7 = .ok (.invokestatic 61, 3) := by decide +kernel
theorem dX4_bound_10 : decode cX4_bound 10 = .ok (.istore_n 1, 1) := by decide +kernel
theorem dX4_bound_11 : decode cX4_bound 11 = .ok (.iconst 0, 1) := by decide +kernel
theorem dX4_bound_12 : decode cX4_bound 12 = .ok (.istore_n 2, 1) := by decide +kernel
theorem dX4_bound_13 : decode cX4_bound 13 = .ok (.iconst 0, 1) := by decide +kernel
theorem dX4_bound_14 : decode cX4_bound 14 = .ok (.istore_n 3, 1) := by decide +kernel
theorem dX4_bound_15 : decode cX4_bound 15 = .ok (.iload_n 3, 1) := by decide +kernel
theorem dX4_bound_16 : decode cX4_bound 16 = .ok (.aload_n 0, 1) := by decide +kernel
theorem dX4_bound_17 : decode cX4_bound 17 = .ok (.getfield 57, 3) := by decide +kernel
theorem dX4_bound_20 : decode cX4_bound 20 = .ok (.if_icmp .ge 21, 3) := by decide +kernel
theorem dX4_bound_23 : decode cX4_bound 23 = .ok (.iload_n 2, 1) := by decide +kernel
theorem dX4_bound_24 : decode cX4_bound 24 = .ok (.aload_n 0, 1) := by decide +kernel
theorem dX4_bound_25 : decode cX4_bound 25 = .ok (.getfield 34, 3) := by decide +kernel
theorem dX4_bound_28 : decode cX4_bound 28 = .ok (.iload_n 3, 1) := by decide +kernel
theorem dX4_bound_29 : decode cX4_bound 29 = .ok (.aaload, 1) := by decide +kernel
theorem dX4_bound_30 : decode cX4_bound 30 = .ok (.getfield 67, 3) := by decide +kernel
theorem dX4_bound_33 : decode cX4_bound 33 = .ok (.iadd, 1) := by decide +kernel
theorem dX4_bound_34 : decode cX4_bound 34 = .ok (.istore_n 2, 1) := by decide +kernel
theorem dX4_bound_35 : decode cX4_bound 35 = .ok (.iinc 3 1, 3) := by decide +kernel
theorem dX4_bound_38 : decode cX4_bound 38 = .ok (.goto (-23), 3) := by decide +kernel
theorem dX4_bound_41 : decode cX4_bound 41 = .ok (.iload_n 2, 1) := by decide +kernel
theorem dX4_bound_42 : decode cX4_bound 42 = .ok (.iload_n 1, 1) := by decide +kernel
theorem dX4_bound_43 : decode cX4_bound 43 = .ok (.iadd, 1) := by decide +kernel
theorem dX4_bound_44 : decode cX4_bound 44 = .ok (.iconst 1, 1) := by decide +kernel
theorem dX4_bound_45 : decode cX4_bound 45 = .ok (.isub, 1) := by decide +kernel
theorem dX4_bound_46 : decode cX4_bound 46 = .ok (.iload_n 1, 1) := by decide +kernel
theorem dX4_bound_47 : decode cX4_bound 47 = .ok (.idiv, 1) := by decide +kernel
theorem dX4_bound_48 : decode cX4_bound 48 = .ok (.ireturn, 1) := by decide +kernel
set_option maxRecDepth 100000 in
set_option maxHeartbeats 4000000 in
theorem wp_X4_bound {n0 d : Nat} {K : z_K} {I : z_I} {L : z_L} {Q : z_q}  (hL : CLay K) (h : Z n0 xX4_bound (d + 1) 0 0 15 [(0, .ref (n0 + 25)), (1, .int (if 1 < (I 26 0) then (I 26 0) else 1)), (2, .int 0), (3, .int 0)] [] K I L (z_q0 K Q)) : RM0 n0 xX4_bound (d + 1) [.ref (n0 + 25)] K I L Q := by
  refine z_entry0 (by decide) (Nat.le_of_ble_eq_true rfl) ?_
  change Z n0 xX4_bound (d + 1) 0 0 0 [(0, .ref (n0 + 25))] [] K I L (z_q0 K Q)
  refine z_iconst 1 dX4_bound_0 (by decide) ?_
  refine z_aload_n 0 dX4_bound_1 rfl ?_
  refine fg_4_18 (some 26) rfl dX4_bound_2 (co_25 hL).1 (co_25 hL).2 (ca_26 hL).1 ?_
  refine z_iconst 0 dX4_bound_5 (by decide) ?_
  refine z_iald (I 26 0) dX4_bound_6 (ca_26 hL).2.1 (ca_26 hL).2.2 (by unfold vp_in; decide) rfl ?_
  refine z_mmax dX4_bound_7 wg_1173 (by omega) (Nat.le_of_ble_eq_true rfl) ?_
  refine z_istore_n [1, 0] [(0, .ref (n0 + 25)), (1, .int (if 1 < (I 26 0) then (I 26 0) else 1))] dX4_bound_10 (by decide) rfl ?_
  refine z_iconst 0 dX4_bound_11 (by decide) ?_
  refine z_istore_n [1, 2, 0] [(0, .ref (n0 + 25)), (1, .int (if 1 < (I 26 0) then (I 26 0) else 1)), (2, .int 0)] dX4_bound_12 (by decide) rfl ?_
  refine z_iconst 0 dX4_bound_13 (by decide) ?_
  refine z_istore_n [1, 2, 3, 0] [(0, .ref (n0 + 25)), (1, .int (if 1 < (I 26 0) then (I 26 0) else 1)), (2, .int 0), (3, .int 0)] dX4_bound_14 (by decide) rfl ?_
  exact h
set_option maxRecDepth 100000 in
set_option maxHeartbeats 4000000 in
theorem wp_X4_bound_15 {n0 d : Nat} {rc rs : Nat} {K : z_K} {I : z_I} {L : z_L} {Q : z_q} {a1 : Int32} {a2 : Int32} {a3 : Int32} (hL : CLay K) (h : (if a3 < (I 25 4) then vp_in a3 4 ∧ (∃ q4, K.2.2 29 a3.toNatClampNeg = some q4 ∧ q4 < K.1 ∧ (K.2.1 q4).1 = 10 ∧ Z n0 xX4_bound (d + 1) rc rs 15 [(0, .ref (n0 + 25)), (1, .int a1), (2, .int (a2 + (I q4 4))), (3, .int (a3 + 1))] [] K I L (z_q0 K Q)) else ¬ (a1 : Int32) = 0 ∧ Q (some (.int (((a2 + a1) - 1) / a1))) I L)) : Z n0 xX4_bound (d + 1) rc rs 15 [(0, .ref (n0 + 25)), (1, .int a1), (2, .int a2), (3, .int a3)] [] K I L (z_q0 K Q) := by
  refine z_iload_n 3 dX4_bound_15 rfl ?_
  refine z_aload_n 0 dX4_bound_16 rfl ?_
  refine fg_4_57 (I 25 4) rfl dX4_bound_17 (co_25 hL).1 (co_25 hL).2 rfl ?_
  refine z_icmp_ge 41 dX4_bound_20 (by decide) (fun g1 => ?_) (fun g1 => ?_)
  · rw [if_neg g1] at h
    refine z_iload_n 2 dX4_bound_41 rfl ?_
    refine z_iload_n 1 dX4_bound_42 rfl ?_
    refine z_iadd dX4_bound_43 ?_
    refine z_iconst 1 dX4_bound_44 (by decide) ?_
    refine z_isub dX4_bound_45 ?_
    refine z_iload_n 1 dX4_bound_46 rfl ?_
    obtain ⟨o2, h⟩ := h
    refine z_idiv dX4_bound_47 o2 ?_
    exact z_iret dX4_bound_48 rfl ⟨rfl, h⟩
  · rw [if_pos g1] at h
    refine z_iload_n 2 dX4_bound_23 rfl ?_
    refine z_aload_n 0 dX4_bound_24 rfl ?_
    refine fg_4_34 (some 29) rfl dX4_bound_25 (co_25 hL).1 (co_25 hL).2 (ca_29 hL).1 ?_
    refine z_iload_n 3 dX4_bound_28 rfl ?_
    obtain ⟨o3, h⟩ := h
    obtain ⟨q4, q4e, h⟩ := h
    refine z_aald (some q4) dX4_bound_29 (ca_29 hL).2.1 (ca_29 hL).2.2 (by unfold z_rt; decide) o3 q4e ?_
    obtain ⟨o5, o6, h⟩ := h
    refine fg_4_67 (I q4 4) rfl dX4_bound_30 o5 o6 rfl ?_
    refine z_iadd dX4_bound_33 ?_
    refine z_istore_n [1, 2, 0, 3] [(0, .ref (n0 + 25)), (1, .int a1), (2, .int (a2 + (I q4 4))), (3, .int a3)] dX4_bound_34 (by decide) rfl ?_
    refine z_iinc (j := 3) (a3 + 1) [1, 2, 3, 0] [(0, .ref (n0 + 25)), (1, .int a1), (2, .int (a2 + (I q4 4))), (3, .int (a3 + 1))] dX4_bound_35 rfl rfl (by decide) rfl ?_
    refine z_goto 15 dX4_bound_38 (by decide) ?_
    exact h
theorem dX4_findShortest_0 : decode cX4_findShortest 0 = .ok (.aload_n 0, 1) := by decide +kernel
theorem dX4_findShortest_1 : decode cX4_findShortest 1 = .ok (.getfield 38, 3) := by decide +kernel
theorem dX4_findShortest_4 : decode cX4_findShortest 4 = .ok (.iconst 0, 1) := by decide +kernel
theorem dX4_findShortest_5 : decode cX4_findShortest 5 = .ok (.invokestatic 70, 3) := by decide +kernel
theorem dX4_findShortest_8 : decode cX4_findShortest 8 = .ok (.aload_n 0, 1) := by decide +kernel
theorem dX4_findShortest_9 : decode cX4_findShortest 9 = .ok (.bipush 97, 2) := by decide +kernel
theorem dX4_findShortest_11 : decode cX4_findShortest 11 = .ok (.putfield 76, 3) := by decide +kernel
theorem dX4_findShortest_14 : decode cX4_findShortest 14 = .ok (.aload_n 0, 1) := by decide +kernel
theorem dX4_findShortest_15 : decode cX4_findShortest 15 = .ok (.iconst 0, 1) := by decide +kernel
theorem dX4_findShortest_16 : decode cX4_findShortest 16 = .ok (.iconst 0, 1) := by decide +kernel
theorem dX4_findShortest_17 : decode cX4_findShortest 17 = .ok (.iconst 0, 1) := by decide +kernel
theorem dX4_findShortest_18 : decode cX4_findShortest 18 = .ok (.invokevirtual 79, 3) := by decide +kernel
theorem dX4_findShortest_21 : decode cX4_findShortest 21 = .ok (.aload_n 0, 1) := by decide +kernel
theorem dX4_findShortest_22 : decode cX4_findShortest 22 = .ok (.getfield 76, 3) := by decide +kernel
theorem dX4_findShortest_25 : decode cX4_findShortest 25 = .ok (.bipush 97, 2) := by decide +kernel
theorem dX4_findShortest_27 : decode cX4_findShortest 27 = .ok (.if_icmp .ge 7, 3) := by decide +kernel
theorem dX4_findShortest_30 : decode cX4_findShortest 30 = .ok (.iconst 1, 1) := by decide +kernel
theorem dX4_findShortest_31 : decode cX4_findShortest 31 = .ok (.goto 4, 3) := by decide +kernel
theorem dX4_findShortest_34 : decode cX4_findShortest 34 = .ok (.iconst 0, 1) := by decide +kernel
theorem dX4_findShortest_35 : decode cX4_findShortest 35 = .ok (.ireturn, 1) := by decide +kernel
set_option maxRecDepth 100000 in
set_option maxHeartbeats 4000000 in
theorem wp_X4_findShortest {n0 d : Nat} {K : z_K} {I : z_I} {L : z_L} {Q : z_q}  (hL : CLay K) (h : RM0 n0 xJ7_fill_53178 d [.ref (n0 + 30), .int 0] K I L (fun vv I1 L2 => vv = none ∧ RM0 n0 xX4_layNext d [.ref (n0 + 25), .int 0, .int 0, .int 0] K (zI I1 25 10 97) L2 (fun vv I3 L4 => vv = none ∧ Q (some (.int (if ((I3 25 10) : Int32) < 97 then 1 else 0))) I3 L4))) : RM0 n0 xX4_findShortest (d + 1) [.ref (n0 + 25)] K I L Q := by
  refine z_entry0 (by decide) (Nat.le_of_ble_eq_true rfl) ?_
  change Z n0 xX4_findShortest (d + 1) 0 0 0 [(0, .ref (n0 + 25))] [] K I L (z_q0 K Q)
  refine z_aload_n 0 dX4_findShortest_0 rfl ?_
  refine fg_4_38 (some 30) rfl dX4_findShortest_1 (co_25 hL).1 (co_25 hL).2 (ca_30 hL).1 ?_
  refine z_iconst 0 dX4_findShortest_4 (by decide) ?_
  refine z_callS0 (As := [.ref (n0 + 30), .int 0]) (st := []) dX4_findShortest_5 hy_J7_fill_53178 wg_1160 wg_775 (Nat.le_refl _) (Nat.le_of_ble_eq_true rfl) (RM0.mono h ?_)
  clear h
  intro vv I1 L2 h
  obtain ⟨rfl, h⟩ := h
  change Z n0 xX4_findShortest (d + 1) 0 0 8 [(0, .ref (n0 + 25))] [] K I1 L2 (z_q0 K Q)
  refine z_aload_n 0 dX4_findShortest_8 rfl ?_
  refine z_bipush 97 dX4_findShortest_9 (by decide) ?_
  refine fp_4_76 rfl dX4_findShortest_11 (co_25 hL).1 (co_25 hL).2 ?_
  refine z_aload_n 0 dX4_findShortest_14 rfl ?_
  refine z_iconst 0 dX4_findShortest_15 (by decide) ?_
  refine z_iconst 0 dX4_findShortest_16 (by decide) ?_
  refine z_iconst 0 dX4_findShortest_17 (by decide) ?_
  refine z_callV0 (As := [.int 0, .int 0, .int 0]) (st := []) dX4_findShortest_18 hy_X4_layNext (co_25 hL).1 (co_25 hL).2 (by decide) wg_1161 wg_1163 wg_41 (Nat.le_refl _) (Nat.le_of_ble_eq_true rfl) (RM0.mono h ?_)
  clear h
  intro vv I3 L4 h
  obtain ⟨rfl, h⟩ := h
  change Z n0 xX4_findShortest (d + 1) 0 0 21 [(0, .ref (n0 + 25))] [] K I3 L4 (z_q0 K Q)
  refine z_aload_n 0 dX4_findShortest_21 rfl ?_
  refine fg_4_76 (I3 25 10) rfl dX4_findShortest_22 (co_25 hL).1 (co_25 hL).2 rfl ?_
  refine z_bipush 97 dX4_findShortest_25 (by decide) ?_
  have key6 : Z n0 xX4_findShortest (d + 1) 0 0 35 [] [.int (if ((I3 25 10) : Int32) < 97 then 1 else 0)] K I3 L4 (z_q0 K Q) := by
    exact z_zretb dX4_findShortest_35 rfl (z_bite (by repeat' (first | exact Or.inl rfl | exact Or.inr rfl | split))) ⟨rfl, h⟩
  refine z_icmp_ge 34 dX4_findShortest_27 (by decide) (fun g5 => ?_) (fun g5 => ?_)
  · refine z_iconst 0 dX4_findShortest_34 (by decide) ?_
    have ee : ((if ((I3 25 10) : Int32) < 97 then 1 else 0) : Int32) = 0 := by rw [if_neg g5]
    rw [ee] at key6
    clear ee
    refine z_sub [] rfl ?_
    exact key6
  · refine z_iconst 1 dX4_findShortest_30 (by decide) ?_
    refine z_goto 35 dX4_findShortest_31 (by decide) ?_
    have ee : ((if ((I3 25 10) : Int32) < 97 then 1 else 0) : Int32) = 1 := by rw [if_pos g5]
    rw [ee] at key6
    clear ee
    refine z_sub [] rfl ?_
    exact key6
theorem dX4_layNext_0 : decode cX4_layNext 0 = .ok (.iload_n 3, 1) := by decide +kernel
theorem dX4_layNext_1 : decode cX4_layNext 1 = .ok (.aload_n 0, 1) := by decide +kernel
theorem dX4_layNext_2 : decode cX4_layNext 2 = .ok (.getfield 76, 3) := by decide +kernel
theorem dX4_layNext_5 : decode cX4_layNext 5 = .ok (.if_icmp .lt 4, 3) := by decide +kernel
theorem dX4_layNext_8 : decode cX4_layNext 8 = .ok (.return_, 1) := by decide +kernel
theorem dX4_layNext_9 : decode cX4_layNext 9 = .ok (.iload_n 1, 1) := by decide +kernel
theorem dX4_layNext_10 : decode cX4_layNext 10 = .ok (.aload_n 0, 1) := by decide +kernel
theorem dX4_layNext_11 : decode cX4_layNext 11 = .ok (.getfield 57, 3) := by decide +kernel
theorem dX4_layNext_14 : decode cX4_layNext 14 = .ok (.if_icmp .lt 9, 3) := by decide +kernel
theorem dX4_layNext_17 : decode cX4_layNext 17 = .ok (.aload_n 0, 1) := by decide +kernel
theorem dX4_layNext_18 : decode cX4_layNext 18 = .ok (.iload_n 3, 1) := by decide +kernel
theorem dX4_layNext_19 : decode cX4_layNext 19 = .ok (.invokevirtual 83, 3) := by decide +kernel
theorem dX4_layNext_22 : decode cX4_layNext 22 = .ok (.return_, 1) := by decide +kernel
theorem dX4_layNext_23 : decode cX4_layNext 23 = .ok (.iconst 0, 1) := by decide +kernel
theorem dX4_layNext_24 : decode cX4_layNext 24 = .ok (.istore 4, 2) := by decide +kernel
theorem dX4_layNext_26 : decode cX4_layNext 26 = .ok (.iload 4, 2) := by decide +kernel
theorem dX4_layNext_28 : decode cX4_layNext 28 = .ok (.aload_n 0, 1) := by decide +kernel
theorem dX4_layNext_29 : decode cX4_layNext 29 = .ok (.getfield 57, 3) := by decide +kernel
theorem dX4_layNext_32 : decode cX4_layNext 32 = .ok (.if_icmp .ge 77, 3) := by decide +kernel
theorem dX4_layNext_35 : decode cX4_layNext 35 = .ok (.iload_n 2, 1) := by decide +kernel
theorem dX4_layNext_36 : decode cX4_layNext 36 = .ok (.iload 4, 2) := by decide +kernel
theorem dX4_layNext_38 : decode cX4_layNext 38 = .ok (.ishr, 1) := by decide +kernel
theorem dX4_layNext_39 : decode cX4_layNext 39 = .ok (.iconst 1, 1) := by decide +kernel
theorem dX4_layNext_40 : decode cX4_layNext 40 = .ok (.iand, 1) := by decide +kernel
theorem dX4_layNext_41 : decode cX4_layNext 41 = .ok (.ifCond .ne 62, 3) := by decide +kernel
theorem dX4_layNext_44 : decode cX4_layNext 44 = .ok (.aload_n 0, 1) := by decide +kernel
theorem dX4_layNext_45 : decode cX4_layNext 45 = .ok (.iload 4, 2) := by decide +kernel
theorem dX4_layNext_47 : decode cX4_layNext 47 = .ok (.invokevirtual 87, 3) := by decide +kernel
theorem dX4_layNext_50 : decode cX4_layNext 50 = .ok (.ifCond .ne 6, 3) := by decide +kernel
theorem dX4_layNext_53 : decode cX4_layNext 53 = .ok (.goto 50, 3) := by decide +kernel
theorem dX4_layNext_56 : decode cX4_layNext 56 = .ok (.aload_n 0, 1) := by decide +kernel
theorem dX4_layNext_57 : decode cX4_layNext 57 = .ok (.iload 4, 2) := by decide +kernel
theorem dX4_layNext_59 : decode cX4_layNext 59 = .ok (.invokevirtual 91, 3) := by decide +kernel
theorem dX4_layNext_62 : decode cX4_layNext 62 = .ok (.aload_n 0, 1) := by decide +kernel
theorem dX4_layNext_63 : decode cX4_layNext 63 = .ok (.iload_n 1, 1) := by decide +kernel
theorem dX4_layNext_64 : decode cX4_layNext 64 = .ok (.iconst 1, 1) := by decide +kernel
theorem dX4_layNext_65 : decode cX4_layNext 65 = .ok (.iadd, 1) := by decide +kernel
theorem dX4_layNext_66 : decode cX4_layNext 66 = .ok (.iload_n 2, 1) := by decide +kernel
theorem dX4_layNext_67 : decode cX4_layNext 67 = .ok (.iconst 1, 1) := by decide +kernel
theorem dX4_layNext_68 : decode cX4_layNext 68 = .ok (.iload 4, 2) := by decide +kernel
theorem dX4_layNext_70 : decode cX4_layNext 70 = .ok (.ishl, 1) := by decide +kernel
theorem dX4_layNext_71 : decode cX4_layNext 71 = .ok (.ior, 1) := by decide +kernel
theorem dX4_layNext_72 : decode cX4_layNext 72 = .ok (.iload_n 3, 1) := by decide +kernel
theorem dX4_layNext_73 : decode cX4_layNext 73 = .ok (.aload_n 0, 1) := by decide +kernel
theorem dX4_layNext_74 : decode cX4_layNext 74 = .ok (.getfield 41, 3) := by decide +kernel
theorem dX4_layNext_77 : decode cX4_layNext 77 = .ok (.iload 4, 2) := by decide +kernel
theorem dX4_layNext_79 : decode cX4_layNext 79 = .ok (.iaload, 1) := by decide +kernel
theorem dX4_layNext_80 : decode cX4_layNext 80 = .ok (.aload_n 0, 1) := by decide +kernel
theorem dX4_layNext_81 : decode cX4_layNext 81 = .ok (.getfield 34, 3) := by decide +kernel
theorem dX4_layNext_84 : decode cX4_layNext 84 = .ok (.iload 4, 2) := by decide +kernel
theorem dX4_layNext_86 : decode cX4_layNext 86 = .ok (.aaload, 1) := by decide +kernel
theorem dX4_layNext_87 : decode cX4_layNext 87 = .ok (.getfield 94, 3) := by decide +kernel
theorem dX4_layNext_90 : decode cX4_layNext 90 = .ok (.iadd, 1) := by decide +kernel
theorem dX4_layNext_91 : decode cX4_layNext 91 = .ok (.invokestatic 61, 3) := by decide +kernel
theorem dX4_layNext_94 : decode cX4_layNext 94 = .ok (.invokevirtual 79, 3) := by decide +kernel
theorem dX4_layNext_97 : decode cX4_layNext 97 = .ok (.aload_n 0, 1) := by decide +kernel
theorem dX4_layNext_98 : decode cX4_layNext 98 = .ok (.iload 4, 2) := by decide +kernel
theorem dX4_layNext_100 : decode cX4_layNext 100 = .ok (.invokevirtual 91, 3) := by decide +kernel
theorem dX4_layNext_103 : decode cX4_layNext 103 = .ok (.iinc 4 1, 3) := by decide +kernel
theorem dX4_layNext_106 : decode cX4_layNext 106 = .ok (.goto (-80), 3) := by decide +kernel
theorem dX4_layNext_109 : decode cX4_layNext 109 = .ok (.return_, 1) := by decide +kernel
set_option maxRecDepth 100000 in
set_option maxHeartbeats 4000000 in
theorem wp_X4_layNext {n0 d : Nat} {K : z_K} {I : z_I} {L : z_L} {Q : z_q} {p0 : Int32} {p1 : Int32} {p2 : Int32} (hL : CLay K) (h : (if p2 < (I 25 10) then (if p0 < (I 25 4) then Z n0 xX4_layNext (d + 1) 0 0 26 [(0, .ref (n0 + 25)), (1, .int p0), (2, .int p1), (3, .int p2), (4, .int 0)] [] K I L (z_q0 K Q) else RM0 n0 xX4_keepBest d [.ref (n0 + 25), .int p2] K I L (fun vv I3 L4 => vv = none ∧ Q none I3 L4)) else Q none I L)) : RM0 n0 xX4_layNext (d + 1) [.ref (n0 + 25), .int p0, .int p1, .int p2] K I L Q := by
  refine z_entry0 (by decide) (Nat.le_of_ble_eq_true rfl) ?_
  change Z n0 xX4_layNext (d + 1) 0 0 0 [(0, .ref (n0 + 25)), (1, .int p0), (2, .int p1), (3, .int p2)] [] K I L (z_q0 K Q)
  refine z_iload_n 3 dX4_layNext_0 rfl ?_
  refine z_aload_n 0 dX4_layNext_1 rfl ?_
  refine fg_4_76 (I 25 10) rfl dX4_layNext_2 (co_25 hL).1 (co_25 hL).2 rfl ?_
  refine z_icmp_lt 9 dX4_layNext_5 (by decide) (fun g1 => ?_) (fun g1 => ?_)
  · rw [if_pos g1] at h
    refine z_iload_n 1 dX4_layNext_9 rfl ?_
    refine z_aload_n 0 dX4_layNext_10 rfl ?_
    refine fg_4_57 (I 25 4) rfl dX4_layNext_11 (co_25 hL).1 (co_25 hL).2 rfl ?_
    refine z_icmp_lt 23 dX4_layNext_14 (by decide) (fun g2 => ?_) (fun g2 => ?_)
    · rw [if_pos g2] at h
      refine z_iconst 0 dX4_layNext_23 (by decide) ?_
      refine z_istore [1, 2, 3, 4, 0] [(0, .ref (n0 + 25)), (1, .int p0), (2, .int p1), (3, .int p2), (4, .int 0)] dX4_layNext_24 (by decide) rfl ?_
      exact h
    · rw [if_neg g2] at h
      refine z_aload_n 0 dX4_layNext_17 rfl ?_
      refine z_iload_n 3 dX4_layNext_18 rfl ?_
      refine z_callV0 (As := [.int p2]) (st := []) dX4_layNext_19 hy_X4_keepBest (co_25 hL).1 (co_25 hL).2 (by decide) wg_1165 wg_1167 wg_42 (Nat.le_refl _) (Nat.le_of_ble_eq_true rfl) (RM0.mono h ?_)
      clear h
      intro vv I3 L4 h
      obtain ⟨rfl, h⟩ := h
      change Z n0 xX4_layNext (d + 1) 0 0 22 [(0, .ref (n0 + 25)), (1, .int p0), (2, .int p1), (3, .int p2)] [] K I3 L4 (z_q0 K Q)
      exact z_vret dX4_layNext_22 rfl ⟨rfl, h⟩
  · rw [if_neg g1] at h
    exact z_vret dX4_layNext_8 rfl ⟨rfl, h⟩
set_option maxRecDepth 100000 in
set_option maxHeartbeats 4000000 in
theorem wp_X4_layNext_26 {n0 d : Nat} {rc rs : Nat} {K : z_K} {I : z_I} {L : z_L} {Q : z_q} {a1 : Int32} {a2 : Int32} {a3 : Int32} {a4 : Int32} (hL : CLay K) (h : (if a4 < (I 25 4) then (if ((((a2 : Int32) >>> (a4 &&& 31 : Int32)) &&& 1) : Int32) = 0 then RM0 n0 xX4_findPlace d [.ref (n0 + 25), .int a4] K I L (fun vv I3 L4 => ∃ r5 : Int32, vv = some (.int r5) ∧ (if r5 = 0 then Z n0 xX4_layNext (d + 1) rc rs 26 [(0, .ref (n0 + 25)), (1, .int a1), (2, .int a2), (3, .int a3), (4, .int (a4 + 1))] [] K I3 L4 (z_q0 K Q) else RM0 n0 xX4_flip d [.ref (n0 + 25), .int a4] K I3 L4 (fun vv I7 L8 => vv = none ∧ vp_in a4 4 ∧ (∃ q10, K.2.2 29 a4.toNatClampNeg = some q10 ∧ q10 < K.1 ∧ (K.2.1 q10).1 = 10 ∧ RM0 n0 xX4_layNext d [.ref (n0 + 25), .int (a1 + 1), .int (a2 ||| ((1 : Int32) <<< (a4 &&& 31 : Int32))), .int (if a3 < ((I7 31 a4.toNatClampNeg) + (I7 q10 2)) then ((I7 31 a4.toNatClampNeg) + (I7 q10 2)) else a3)] K I7 L8 (fun vv I13 L14 => vv = none ∧ RM0 n0 xX4_flip d [.ref (n0 + 25), .int a4] K I13 L14 (fun vv I15 L16 => vv = none ∧ Z n0 xX4_layNext (d + 1) rc rs 26 [(0, .ref (n0 + 25)), (1, .int a1), (2, .int a2), (3, .int a3), (4, .int (a4 + 1))] [] K I15 L16 (z_q0 K Q))))))) else Z n0 xX4_layNext (d + 1) rc rs 26 [(0, .ref (n0 + 25)), (1, .int a1), (2, .int a2), (3, .int a3), (4, .int (a4 + 1))] [] K I L (z_q0 K Q)) else Q none I L)) : Z n0 xX4_layNext (d + 1) rc rs 26 [(0, .ref (n0 + 25)), (1, .int a1), (2, .int a2), (3, .int a3), (4, .int a4)] [] K I L (z_q0 K Q) := by
  refine z_iload 4 dX4_layNext_26 rfl ?_
  refine z_aload_n 0 dX4_layNext_28 rfl ?_
  refine fg_4_57 (I 25 4) rfl dX4_layNext_29 (co_25 hL).1 (co_25 hL).2 rfl ?_
  refine z_icmp_ge 109 dX4_layNext_32 (by decide) (fun g1 => ?_) (fun g1 => ?_)
  · rw [if_neg g1] at h
    exact z_vret dX4_layNext_109 rfl ⟨rfl, h⟩
  · rw [if_pos g1] at h
    refine z_iload_n 2 dX4_layNext_35 rfl ?_
    refine z_iload 4 dX4_layNext_36 rfl ?_
    refine z_ishr dX4_layNext_38 ?_
    refine z_iconst 1 dX4_layNext_39 (by decide) ?_
    refine z_iand dX4_layNext_40 ?_
    refine z_if_ne 103 dX4_layNext_41 (by decide) (fun g2 => ?_) (fun g2 => ?_)
    · rw [if_neg g2] at h
      refine z_iinc (j := 4) (a4 + 1) [1, 2, 3, 4, 0] [(0, .ref (n0 + 25)), (1, .int a1), (2, .int a2), (3, .int a3), (4, .int (a4 + 1))] dX4_layNext_103 rfl rfl (by decide) rfl ?_
      refine z_goto 26 dX4_layNext_106 (by decide) ?_
      exact h
    · rw [if_pos g2] at h
      refine z_aload_n 0 dX4_layNext_44 rfl ?_
      refine z_iload 4 dX4_layNext_45 rfl ?_
      refine z_callV0 (As := [.int a4]) (st := []) dX4_layNext_47 hy_X4_findPlace (co_25 hL).1 (co_25 hL).2 (by decide) wg_1169 wg_1171 wg_43 (Nat.le_refl _) (Nat.le_of_ble_eq_true rfl) (RM0.mono h ?_)
      clear h
      intro vv I3 L4 h
      obtain ⟨r5, rfl, h⟩ := h
      change Z n0 xX4_layNext (d + 1) rc rs 50 [(0, .ref (n0 + 25)), (1, .int a1), (2, .int a2), (3, .int a3), (4, .int a4)] [.int r5] K I3 L4 (z_q0 K Q)
      refine z_if_ne 56 dX4_layNext_50 (by decide) (fun g6 => ?_) (fun g6 => ?_)
      · rw [if_neg g6] at h
        refine z_aload_n 0 dX4_layNext_56 rfl ?_
        refine z_iload 4 dX4_layNext_57 rfl ?_
        refine z_callV0 (As := [.int a4]) (st := []) dX4_layNext_59 hy_X4_flip (co_25 hL).1 (co_25 hL).2 (by decide) wg_1182 wg_1184 wg_46 (Nat.le_refl _) (Nat.le_of_ble_eq_true rfl) (RM0.mono h ?_)
        clear h
        intro vv I7 L8 h
        obtain ⟨rfl, h⟩ := h
        change Z n0 xX4_layNext (d + 1) rc rs 62 [(0, .ref (n0 + 25)), (1, .int a1), (2, .int a2), (3, .int a3), (4, .int a4)] [] K I7 L8 (z_q0 K Q)
        refine z_aload_n 0 dX4_layNext_62 rfl ?_
        refine z_iload_n 1 dX4_layNext_63 rfl ?_
        refine z_iconst 1 dX4_layNext_64 (by decide) ?_
        refine z_iadd dX4_layNext_65 ?_
        refine z_iload_n 2 dX4_layNext_66 rfl ?_
        refine z_iconst 1 dX4_layNext_67 (by decide) ?_
        refine z_iload 4 dX4_layNext_68 rfl ?_
        refine z_ishl dX4_layNext_70 ?_
        refine z_ior dX4_layNext_71 ?_
        refine z_iload_n 3 dX4_layNext_72 rfl ?_
        refine z_aload_n 0 dX4_layNext_73 rfl ?_
        refine fg_4_41 (some 31) rfl dX4_layNext_74 (co_25 hL).1 (co_25 hL).2 (ca_31 hL).1 ?_
        refine z_iload 4 dX4_layNext_77 rfl ?_
        obtain ⟨o9, h⟩ := h
        refine z_iald (I7 31 a4.toNatClampNeg) dX4_layNext_79 (ca_31 hL).2.1 (ca_31 hL).2.2 o9 rfl ?_
        refine z_aload_n 0 dX4_layNext_80 rfl ?_
        refine fg_4_34 (some 29) rfl dX4_layNext_81 (co_25 hL).1 (co_25 hL).2 (ca_29 hL).1 ?_
        refine z_iload 4 dX4_layNext_84 rfl ?_
        obtain ⟨q10, q10e, h⟩ := h
        refine z_aald (some q10) dX4_layNext_86 (ca_29 hL).2.1 (ca_29 hL).2.2 (by unfold z_rt; decide) o9 q10e ?_
        obtain ⟨o11, o12, h⟩ := h
        refine fg_4_94 (I7 q10 2) rfl dX4_layNext_87 o11 o12 rfl ?_
        refine z_iadd dX4_layNext_90 ?_
        refine z_mmax dX4_layNext_91 wg_1173 (by omega) (Nat.le_of_ble_eq_true rfl) ?_
        refine z_callV0 (As := [.int (a1 + 1), .int (a2 ||| ((1 : Int32) <<< (a4 &&& 31 : Int32))), .int (if a3 < ((I7 31 a4.toNatClampNeg) + (I7 q10 2)) then ((I7 31 a4.toNatClampNeg) + (I7 q10 2)) else a3)]) (st := []) dX4_layNext_94 hy_X4_layNext (co_25 hL).1 (co_25 hL).2 (by decide) wg_1161 wg_1163 wg_41 (Nat.le_refl _) (Nat.le_of_ble_eq_true rfl) (RM0.mono h ?_)
        clear h
        intro vv I13 L14 h
        obtain ⟨rfl, h⟩ := h
        change Z n0 xX4_layNext (d + 1) rc rs 97 [(0, .ref (n0 + 25)), (1, .int a1), (2, .int a2), (3, .int a3), (4, .int a4)] [] K I13 L14 (z_q0 K Q)
        refine z_aload_n 0 dX4_layNext_97 rfl ?_
        refine z_iload 4 dX4_layNext_98 rfl ?_
        refine z_callV0 (As := [.int a4]) (st := []) dX4_layNext_100 hy_X4_flip (co_25 hL).1 (co_25 hL).2 (by decide) wg_1182 wg_1184 wg_46 (Nat.le_refl _) (Nat.le_of_ble_eq_true rfl) (RM0.mono h ?_)
        clear h
        intro vv I15 L16 h
        obtain ⟨rfl, h⟩ := h
        change Z n0 xX4_layNext (d + 1) rc rs 103 [(0, .ref (n0 + 25)), (1, .int a1), (2, .int a2), (3, .int a3), (4, .int a4)] [] K I15 L16 (z_q0 K Q)
        refine z_iinc (j := 4) (a4 + 1) [1, 2, 3, 4, 0] [(0, .ref (n0 + 25)), (1, .int a1), (2, .int a2), (3, .int a3), (4, .int (a4 + 1))] dX4_layNext_103 rfl rfl (by decide) rfl ?_
        refine z_goto 26 dX4_layNext_106 (by decide) ?_
        exact h
      · rw [if_pos g6] at h
        refine z_goto 103 dX4_layNext_53 (by decide) ?_
        refine z_iinc (j := 4) (a4 + 1) [1, 2, 3, 4, 0] [(0, .ref (n0 + 25)), (1, .int a1), (2, .int a2), (3, .int a3), (4, .int (a4 + 1))] dX4_layNext_103 rfl rfl (by decide) rfl ?_
        refine z_goto 26 dX4_layNext_106 (by decide) ?_
        exact h
theorem dX4_keepBest_0 : decode cX4_keepBest 0 = .ok (.aload_n 0, 1) := by decide +kernel
theorem dX4_keepBest_1 : decode cX4_keepBest 1 = .ok (.iload_n 1, 1) := by decide +kernel
theorem dX4_keepBest_2 : decode cX4_keepBest 2 = .ok (.putfield 76, 3) := by decide +kernel
theorem dX4_keepBest_5 : decode cX4_keepBest 5 = .ok (.iconst 0, 1) := by decide +kernel
theorem dX4_keepBest_6 : decode cX4_keepBest 6 = .ok (.istore_n 2, 1) := by decide +kernel
theorem dX4_keepBest_7 : decode cX4_keepBest 7 = .ok (.iload_n 2, 1) := by decide +kernel
theorem dX4_keepBest_8 : decode cX4_keepBest 8 = .ok (.aload_n 0, 1) := by decide +kernel
theorem dX4_keepBest_9 : decode cX4_keepBest 9 = .ok (.getfield 57, 3) := by decide +kernel
theorem dX4_keepBest_12 : decode cX4_keepBest 12 = .ok (.if_icmp .ge 55, 3) := by decide +kernel
theorem dX4_keepBest_15 : decode cX4_keepBest 15 = .ok (.aload_n 0, 1) := by decide +kernel
theorem dX4_keepBest_16 : decode cX4_keepBest 16 = .ok (.getfield 50, 3) := by decide +kernel
theorem dX4_keepBest_19 : decode cX4_keepBest 19 = .ok (.iload_n 2, 1) := by decide +kernel
theorem dX4_keepBest_20 : decode cX4_keepBest 20 = .ok (.iconst 3, 1) := by decide +kernel
theorem dX4_keepBest_21 : decode cX4_keepBest 21 = .ok (.imul, 1) := by decide +kernel
theorem dX4_keepBest_22 : decode cX4_keepBest 22 = .ok (.aload_n 0, 1) := by decide +kernel
theorem dX4_keepBest_23 : decode cX4_keepBest 23 = .ok (.getfield 41, 3) := by decide +kernel
theorem dX4_keepBest_26 : decode cX4_keepBest 26 = .ok (.iload_n 2, 1) := by decide +kernel
theorem dX4_keepBest_27 : decode cX4_keepBest 27 = .ok (.iaload, 1) := by decide +kernel
theorem dX4_keepBest_28 : decode cX4_keepBest 28 = .ok (.iastore, 1) := by decide +kernel
theorem dX4_keepBest_29 : decode cX4_keepBest 29 = .ok (.aload_n 0, 1) := by decide +kernel
theorem dX4_keepBest_30 : decode cX4_keepBest 30 = .ok (.getfield 50, 3) := by decide +kernel
theorem dX4_keepBest_33 : decode cX4_keepBest 33 = .ok (.iload_n 2, 1) := by decide +kernel
theorem dX4_keepBest_34 : decode cX4_keepBest 34 = .ok (.iconst 3, 1) := by decide +kernel
theorem dX4_keepBest_35 : decode cX4_keepBest 35 = .ok (.imul, 1) := by decide +kernel
theorem dX4_keepBest_36 : decode cX4_keepBest 36 = .ok (.iconst 1, 1) := by decide +kernel
theorem dX4_keepBest_37 : decode cX4_keepBest 37 = .ok (.iadd, 1) := by decide +kernel
theorem dX4_keepBest_38 : decode cX4_keepBest 38 = .ok (.aload_n 0, 1) := by decide +kernel
theorem dX4_keepBest_39 : decode cX4_keepBest 39 = .ok (.getfield 44, 3) := by decide +kernel
theorem dX4_keepBest_42 : decode cX4_keepBest 42 = .ok (.iload_n 2, 1) := by decide +kernel
theorem dX4_keepBest_43 : decode cX4_keepBest 43 = .ok (.iaload, 1) := by decide +kernel
theorem dX4_keepBest_44 : decode cX4_keepBest 44 = .ok (.iastore, 1) := by decide +kernel
theorem dX4_keepBest_45 : decode cX4_keepBest 45 = .ok (.aload_n 0, 1) := by decide +kernel
theorem dX4_keepBest_46 : decode cX4_keepBest 46 = .ok (.getfield 50, 3) := by decide +kernel
theorem dX4_keepBest_49 : decode cX4_keepBest 49 = .ok (.iload_n 2, 1) := by decide +kernel
theorem dX4_keepBest_50 : decode cX4_keepBest 50 = .ok (.iconst 3, 1) := by decide +kernel
theorem dX4_keepBest_51 : decode cX4_keepBest 51 = .ok (.imul, 1) := by decide +kernel
theorem dX4_keepBest_52 : decode cX4_keepBest 52 = .ok (.iconst 2, 1) := by decide +kernel
theorem dX4_keepBest_53 : decode cX4_keepBest 53 = .ok (.iadd, 1) := by decide +kernel
theorem dX4_keepBest_54 : decode cX4_keepBest 54 = .ok (.aload_n 0, 1) := by decide +kernel
theorem dX4_keepBest_55 : decode cX4_keepBest 55 = .ok (.getfield 47, 3) := by decide +kernel
theorem dX4_keepBest_58 : decode cX4_keepBest 58 = .ok (.iload_n 2, 1) := by decide +kernel
theorem dX4_keepBest_59 : decode cX4_keepBest 59 = .ok (.iaload, 1) := by decide +kernel
theorem dX4_keepBest_60 : decode cX4_keepBest 60 = .ok (.iastore, 1) := by decide +kernel
theorem dX4_keepBest_61 : decode cX4_keepBest 61 = .ok (.iinc 2 1, 3) := by decide +kernel
theorem dX4_keepBest_64 : decode cX4_keepBest 64 = .ok (.goto (-57), 3) := by decide +kernel
theorem dX4_keepBest_67 : decode cX4_keepBest 67 = .ok (.return_, 1) := by decide +kernel
set_option maxRecDepth 100000 in
set_option maxHeartbeats 4000000 in
theorem wp_X4_keepBest {n0 d : Nat} {K : z_K} {I : z_I} {L : z_L} {Q : z_q} {p0 : Int32} (hL : CLay K) (h : Z n0 xX4_keepBest d 0 0 7 [(0, .ref (n0 + 25)), (2, .int 0)] [] K (zI I 25 10 p0) L (z_q0 K Q)) : RM0 n0 xX4_keepBest d [.ref (n0 + 25), .int p0] K I L Q := by
  refine z_entry0 (by decide) (Nat.le_of_ble_eq_true rfl) ?_
  change Z n0 xX4_keepBest d 0 0 0 [(0, .ref (n0 + 25)), (1, .int p0)] [] K I L (z_q0 K Q)
  refine z_aload_n 0 dX4_keepBest_0 rfl ?_
  refine z_iload_n 1 dX4_keepBest_1 rfl ?_
  refine fp_4_76 rfl dX4_keepBest_2 (co_25 hL).1 (co_25 hL).2 ?_
  refine z_iconst 0 dX4_keepBest_5 (by decide) ?_
  refine z_istore_n [1, 2, 0] [(0, .ref (n0 + 25)), (1, .int p0), (2, .int 0)] dX4_keepBest_6 (by decide) rfl ?_
  refine z_sub [0, 2] rfl ?_
  exact h
set_option maxRecDepth 100000 in
set_option maxHeartbeats 4000000 in
theorem wp_X4_keepBest_7 {n0 d : Nat} {rc rs : Nat} {K : z_K} {I : z_I} {L : z_L} {Q : z_q} {a2 : Int32} (hL : CLay K) (h : (if a2 < (I 25 4) then vp_in a2 4 ∧ vp_in (a2 * 3) 12 ∧ vp_in ((a2 * 3) + 1) 12 ∧ vp_in ((a2 * 3) + 2) 12 ∧ Z n0 xX4_keepBest d rc rs 7 [(0, .ref (n0 + 25)), (2, .int (a2 + 1))] [] K (zI (zI (zI I 34 ((a2 * 3).toNatClampNeg) (I 31 a2.toNatClampNeg)) 34 (((a2 * 3) + 1).toNatClampNeg) (I 32 a2.toNatClampNeg)) 34 (((a2 * 3) + 2).toNatClampNeg) (I 33 a2.toNatClampNeg)) L (z_q0 K Q) else Q none I L)) : Z n0 xX4_keepBest d rc rs 7 [(0, .ref (n0 + 25)), (2, .int a2)] [] K I L (z_q0 K Q) := by
  refine z_iload_n 1 dX4_keepBest_7 rfl ?_
  refine z_aload_n 0 dX4_keepBest_8 rfl ?_
  refine fg_4_57 (I 25 4) rfl dX4_keepBest_9 (co_25 hL).1 (co_25 hL).2 rfl ?_
  refine z_icmp_ge 67 dX4_keepBest_12 (by decide) (fun g1 => ?_) (fun g1 => ?_)
  · rw [if_neg g1] at h
    exact z_vret dX4_keepBest_67 rfl ⟨rfl, h⟩
  · rw [if_pos g1] at h
    refine z_aload_n 0 dX4_keepBest_15 rfl ?_
    refine fg_4_50 (some 34) rfl dX4_keepBest_16 (co_25 hL).1 (co_25 hL).2 (ca_34 hL).1 ?_
    refine z_iload_n 1 dX4_keepBest_19 rfl ?_
    refine z_iconst 3 dX4_keepBest_20 (by decide) ?_
    refine z_imul dX4_keepBest_21 ?_
    refine z_aload_n 0 dX4_keepBest_22 rfl ?_
    refine fg_4_41 (some 31) rfl dX4_keepBest_23 (co_25 hL).1 (co_25 hL).2 (ca_31 hL).1 ?_
    refine z_iload_n 1 dX4_keepBest_26 rfl ?_
    obtain ⟨o2, h⟩ := h
    refine z_iald (I 31 a2.toNatClampNeg) dX4_keepBest_27 (ca_31 hL).2.1 (ca_31 hL).2.2 o2 rfl ?_
    obtain ⟨o3, h⟩ := h
    refine z_iast dX4_keepBest_28 (ca_34 hL).2.1 (ca_34 hL).2.2 o3 ?_
    refine z_aload_n 0 dX4_keepBest_29 rfl ?_
    refine fg_4_50 (some 34) rfl dX4_keepBest_30 (co_25 hL).1 (co_25 hL).2 (ca_34 hL).1 ?_
    refine z_iload_n 1 dX4_keepBest_33 rfl ?_
    refine z_iconst 3 dX4_keepBest_34 (by decide) ?_
    refine z_imul dX4_keepBest_35 ?_
    refine z_iconst 1 dX4_keepBest_36 (by decide) ?_
    refine z_iadd dX4_keepBest_37 ?_
    refine z_aload_n 0 dX4_keepBest_38 rfl ?_
    refine fg_4_44 (some 32) rfl dX4_keepBest_39 (co_25 hL).1 (co_25 hL).2 (ca_32 hL).1 ?_
    refine z_iload_n 1 dX4_keepBest_42 rfl ?_
    refine z_iald (I 32 a2.toNatClampNeg) dX4_keepBest_43 (ca_32 hL).2.1 (ca_32 hL).2.2 o2 rfl ?_
    obtain ⟨o4, h⟩ := h
    refine z_iast dX4_keepBest_44 (ca_34 hL).2.1 (ca_34 hL).2.2 o4 ?_
    refine z_aload_n 0 dX4_keepBest_45 rfl ?_
    refine fg_4_50 (some 34) rfl dX4_keepBest_46 (co_25 hL).1 (co_25 hL).2 (ca_34 hL).1 ?_
    refine z_iload_n 1 dX4_keepBest_49 rfl ?_
    refine z_iconst 3 dX4_keepBest_50 (by decide) ?_
    refine z_imul dX4_keepBest_51 ?_
    refine z_iconst 2 dX4_keepBest_52 (by decide) ?_
    refine z_iadd dX4_keepBest_53 ?_
    refine z_aload_n 0 dX4_keepBest_54 rfl ?_
    refine fg_4_47 (some 33) rfl dX4_keepBest_55 (co_25 hL).1 (co_25 hL).2 (ca_33 hL).1 ?_
    refine z_iload_n 1 dX4_keepBest_58 rfl ?_
    refine z_iald (I 33 a2.toNatClampNeg) dX4_keepBest_59 (ca_33 hL).2.1 (ca_33 hL).2.2 o2 rfl ?_
    obtain ⟨o5, h⟩ := h
    refine z_iast dX4_keepBest_60 (ca_34 hL).2.1 (ca_34 hL).2.2 o5 ?_
    refine z_iinc (j := 1) (a2 + 1) [1, 0] [(0, .ref (n0 + 25)), (2, .int (a2 + 1))] dX4_keepBest_61 rfl rfl (by decide) rfl ?_
    refine z_goto 7 dX4_keepBest_64 (by decide) ?_
    exact h
theorem dX4_findPlace_0 : decode cX4_findPlace 0 = .ok (.aload_n 0, 1) := by decide +kernel
theorem dX4_findPlace_1 : decode cX4_findPlace 1 = .ok (.getfield 18, 3) := by decide +kernel
theorem dX4_findPlace_4 : decode cX4_findPlace 4 = .ok (.iconst 2, 1) := by decide +kernel
theorem dX4_findPlace_5 : decode cX4_findPlace 5 = .ok (.iaload, 1) := by decide +kernel
theorem dX4_findPlace_6 : decode cX4_findPlace 6 = .ok (.iconst 1, 1) := by decide +kernel
theorem dX4_findPlace_7 : decode cX4_findPlace 7 = .ok (.if_icmp .ne 7, 3) := by decide +kernel
theorem dX4_findPlace_10 : decode cX4_findPlace 10 = .ok (.iconst 1, 1) := by decide +kernel
theorem dX4_findPlace_11 : decode cX4_findPlace 11 = .ok (.goto 4, 3) := by decide +kernel
theorem dX4_findPlace_14 : decode cX4_findPlace 14 = .ok (.iconst 2, 1) := by decide +kernel
theorem dX4_findPlace_15 : decode cX4_findPlace 15 = .ok (.istore_n 2, 1) := by decide +kernel
theorem dX4_findPlace_16 : decode cX4_findPlace 16 = .ok (.iconst 1, 1) := by decide +kernel
theorem dX4_findPlace_17 : decode cX4_findPlace 17 = .ok (.aload_n 0, 1) := by decide +kernel
theorem dX4_findPlace_18 : decode cX4_findPlace 18 = .ok (.getfield 18, 3) := by decide +kernel
theorem dX4_findPlace_21 : decode cX4_findPlace 21 = .ok (.iconst 3, 1) := by decide +kernel
theorem dX4_findPlace_22 : decode cX4_findPlace 22 = .ok (.iaload, 1) := by decide +kernel
theorem dX4_findPlace_23 : decode cX4_findPlace 23 = .ok (.invokestatic 61, 3) := by decide +kernel
theorem dX4_findPlace_26 : decode cX4_findPlace 26 = .ok (.istore_n 3, 1) := by decide +kernel
theorem dX4_findPlace_27 : decode cX4_findPlace 27 = .ok (.iconst 0, 1) := by decide +kernel
theorem dX4_findPlace_28 : decode cX4_findPlace 28 = .ok (.istore 4, 2) := by decide +kernel
theorem dX4_findPlace_30 : decode cX4_findPlace 30 = .ok (.iload 4, 2) := by decide +kernel
theorem dX4_findPlace_32 : decode cX4_findPlace 32 = .ok (.aload_n 0, 1) := by decide +kernel
theorem dX4_findPlace_33 : decode cX4_findPlace 33 = .ok (.getfield 34, 3) := by decide +kernel
theorem dX4_findPlace_36 : decode cX4_findPlace 36 = .ok (.iload_n 1, 1) := by decide +kernel
theorem dX4_findPlace_37 : decode cX4_findPlace 37 = .ok (.aaload, 1) := by decide +kernel
theorem dX4_findPlace_38 : decode cX4_findPlace 38 = .ok (.getfield 94, 3) := by decide +kernel
theorem dX4_findPlace_41 : decode cX4_findPlace 41 = .ok (.iadd, 1) := by decide +kernel
theorem dX4_findPlace_42 : decode cX4_findPlace 42 = .ok (.bipush 96, 2) := by decide +kernel
theorem dX4_findPlace_44 : decode cX4_findPlace 44 = .ok (.if_icmp .gt 91, 3) := by decide +kernel
theorem dX4_findPlace_47 : decode cX4_findPlace 47 = .ok (.iconst 0, 1) := by decide +kernel
theorem dX4_findPlace_48 : decode cX4_findPlace 48 = .ok (.istore 5, 2) := by decide +kernel
theorem dX4_findPlace_50 : decode cX4_findPlace 50 = .ok (.iload 5, 2) := by decide +kernel
theorem dX4_findPlace_52 : decode cX4_findPlace 52 = .ok (.aload_n 0, 1) := by decide +kernel
theorem dX4_findPlace_53 : decode cX4_findPlace 53 = .ok (.getfield 34, 3) := by decide +kernel
theorem dX4_findPlace_56 : decode cX4_findPlace 56 = .ok (.iload_n 1, 1) := by decide +kernel
theorem dX4_findPlace_57 : decode cX4_findPlace 57 = .ok (.aaload, 1) := by decide +kernel
theorem dX4_findPlace_58 : decode cX4_findPlace 58 = .ok (.getfield 97, 3) := by decide +kernel
theorem dX4_findPlace_61 : decode cX4_findPlace 61 = .ok (.iadd, 1) := by decide +kernel
theorem dX4_findPlace_62 : decode cX4_findPlace 62 = .ok (.aload_n 0, 1) := by decide +kernel
theorem dX4_findPlace_63 : decode cX4_findPlace 63 = .ok (.getfield 18, 3) := by decide +kernel
theorem dX4_findPlace_66 : decode cX4_findPlace 66 = .ok (.iconst 0, 1) := by decide +kernel
theorem dX4_findPlace_67 : decode cX4_findPlace 67 = .ok (.iaload, 1) := by decide +kernel
theorem dX4_findPlace_68 : decode cX4_findPlace 68 = .ok (.if_icmp .gt 58, 3) := by decide +kernel
theorem dX4_findPlace_71 : decode cX4_findPlace 71 = .ok (.iconst 0, 1) := by decide +kernel
theorem dX4_findPlace_72 : decode cX4_findPlace 72 = .ok (.istore 6, 2) := by decide +kernel
theorem dX4_findPlace_74 : decode cX4_findPlace 74 = .ok (.iload 6, 2) := by decide +kernel
theorem dX4_findPlace_76 : decode cX4_findPlace 76 = .ok (.iload_n 2, 1) := by decide +kernel
theorem dX4_findPlace_77 : decode cX4_findPlace 77 = .ok (.if_icmp .ge 43, 3) := by decide +kernel
theorem dX4_findPlace_80 : decode cX4_findPlace 80 = .ok (.aload_n 0, 1) := by decide +kernel
theorem dX4_findPlace_81 : decode cX4_findPlace 81 = .ok (.getfield 41, 3) := by decide +kernel
theorem dX4_findPlace_84 : decode cX4_findPlace 84 = .ok (.iload_n 1, 1) := by decide +kernel
theorem dX4_findPlace_85 : decode cX4_findPlace 85 = .ok (.iload 4, 2) := by decide +kernel
theorem dX4_findPlace_87 : decode cX4_findPlace 87 = .ok (.iastore, 1) := by decide +kernel
theorem dX4_findPlace_88 : decode cX4_findPlace 88 = .ok (.aload_n 0, 1) := by decide +kernel
theorem dX4_findPlace_89 : decode cX4_findPlace 89 = .ok (.getfield 44, 3) := by decide +kernel
theorem dX4_findPlace_92 : decode cX4_findPlace 92 = .ok (.iload_n 1, 1) := by decide +kernel
theorem dX4_findPlace_93 : decode cX4_findPlace 93 = .ok (.iload 5, 2) := by decide +kernel
theorem dX4_findPlace_95 : decode cX4_findPlace 95 = .ok (.iastore, 1) := by decide +kernel
theorem dX4_findPlace_96 : decode cX4_findPlace 96 = .ok (.aload_n 0, 1) := by decide +kernel
theorem dX4_findPlace_97 : decode cX4_findPlace 97 = .ok (.getfield 47, 3) := by decide +kernel
theorem dX4_findPlace_100 : decode cX4_findPlace 100 = .ok (.iload_n 1, 1) := by decide +kernel
theorem dX4_findPlace_101 : decode cX4_findPlace 101 = .ok (.iload 6, 2) := by decide +kernel
theorem dX4_findPlace_103 : decode cX4_findPlace 103 = .ok (.iastore, 1) := by decide +kernel
theorem dX4_findPlace_104 : decode cX4_findPlace 104 = .ok (.aload_n 0, 1) := by decide +kernel
theorem dX4_findPlace_105 : decode cX4_findPlace 105 = .ok (.iload_n 1, 1) := by decide +kernel
theorem dX4_findPlace_106 : decode cX4_findPlace 106 = .ok (.invokevirtual 100, 3) := by decide +kernel
theorem dX4_findPlace_109 : decode cX4_findPlace 109 = .ok (.ifCond .eq 5, 3) := by decide +kernel
theorem dX4_findPlace_112 : decode cX4_findPlace 112 = .ok (.iconst 1, 1) := by decide +kernel
theorem dX4_findPlace_113 : decode cX4_findPlace 113 = .ok (.ireturn, 1) := by decide +kernel
theorem dX4_findPlace_114 : decode cX4_findPlace 114 = .ok (.iinc 6 1, 3) := by decide +kernel
theorem dX4_findPlace_117 : decode cX4_findPlace 117 = .ok (.goto (-43), 3) := by decide +kernel
theorem dX4_findPlace_120 : decode cX4_findPlace 120 = .ok (.iinc 5 1, 3) := by decide +kernel
theorem dX4_findPlace_123 : decode cX4_findPlace 123 = .ok (.goto (-73), 3) := by decide +kernel
theorem dX4_findPlace_126 : decode cX4_findPlace 126 = .ok (.iload 4, 2) := by decide +kernel
theorem dX4_findPlace_128 : decode cX4_findPlace 128 = .ok (.iload_n 3, 1) := by decide +kernel
theorem dX4_findPlace_129 : decode cX4_findPlace 129 = .ok (.iadd, 1) := by decide +kernel
theorem dX4_findPlace_130 : decode cX4_findPlace 130 = .ok (.istore 4, 2) := by decide +kernel
theorem dX4_findPlace_132 : decode cX4_findPlace 132 = .ok (.goto (-102), 3) := by decide +kernel
theorem dX4_findPlace_135 : decode cX4_findPlace 135 = .ok (.iconst 0, 1) := by decide +kernel
theorem dX4_findPlace_136 : decode cX4_findPlace 136 = .ok (.ireturn, 1) := by decide +kernel
set_option maxRecDepth 100000 in
set_option maxHeartbeats 4000000 in
theorem wp_X4_findPlace {n0 d : Nat} {K : z_K} {I : z_I} {L : z_L} {Q : z_q} {p0 : Int32} (hL : CLay K) (h : Z n0 xX4_findPlace (d + 1) 0 0 30 [(0, .ref (n0 + 25)), (1, .int p0), (2, .int (if ((I 26 2) : Int32) = 1 then 1 else 2)), (3, .int (if 1 < (I 26 3) then (I 26 3) else 1)), (4, .int 0)] [] K I L (z_q0 K Q)) : RM0 n0 xX4_findPlace (d + 1) [.ref (n0 + 25), .int p0] K I L Q := by
  refine z_entry0 (by decide) (Nat.le_of_ble_eq_true rfl) ?_
  change Z n0 xX4_findPlace (d + 1) 0 0 0 [(0, .ref (n0 + 25)), (1, .int p0)] [] K I L (z_q0 K Q)
  refine z_aload_n 0 dX4_findPlace_0 rfl ?_
  refine fg_4_18 (some 26) rfl dX4_findPlace_1 (co_25 hL).1 (co_25 hL).2 (ca_26 hL).1 ?_
  refine z_iconst 2 dX4_findPlace_4 (by decide) ?_
  refine z_iald (I 26 2) dX4_findPlace_5 (ca_26 hL).2.1 (ca_26 hL).2.2 (by unfold vp_in; decide) rfl ?_
  refine z_iconst 1 dX4_findPlace_6 (by decide) ?_
  have key2 : Z n0 xX4_findPlace (d + 1) 0 0 15 [(0, .ref (n0 + 25)), (1, .int p0)] [.int (if ((I 26 2) : Int32) = 1 then 1 else 2)] K I L (z_q0 K Q) := by
    refine z_istore_n [1, 2, 0] [(0, .ref (n0 + 25)), (1, .int p0), (2, .int (if ((I 26 2) : Int32) = 1 then 1 else 2))] dX4_findPlace_15 (by decide) rfl ?_
    refine z_iconst 1 dX4_findPlace_16 (by decide) ?_
    refine z_aload_n 0 dX4_findPlace_17 rfl ?_
    refine fg_4_18 (some 26) rfl dX4_findPlace_18 (co_25 hL).1 (co_25 hL).2 (ca_26 hL).1 ?_
    refine z_iconst 3 dX4_findPlace_21 (by decide) ?_
    refine z_iald (I 26 3) dX4_findPlace_22 (ca_26 hL).2.1 (ca_26 hL).2.2 (by unfold vp_in; decide) rfl ?_
    refine z_mmax dX4_findPlace_23 wg_1173 (by omega) (Nat.le_of_ble_eq_true rfl) ?_
    refine z_istore_n [1, 2, 3, 0] [(0, .ref (n0 + 25)), (1, .int p0), (2, .int (if ((I 26 2) : Int32) = 1 then 1 else 2)), (3, .int (if 1 < (I 26 3) then (I 26 3) else 1))] dX4_findPlace_26 (by decide) rfl ?_
    refine z_iconst 0 dX4_findPlace_27 (by decide) ?_
    refine z_istore [1, 2, 3, 4, 0] [(0, .ref (n0 + 25)), (1, .int p0), (2, .int (if ((I 26 2) : Int32) = 1 then 1 else 2)), (3, .int (if 1 < (I 26 3) then (I 26 3) else 1)), (4, .int 0)] dX4_findPlace_28 (by decide) rfl ?_
    exact h
  refine z_icmp_ne 14 dX4_findPlace_7 (by decide) (fun g1 => ?_) (fun g1 => ?_)
  · refine z_iconst 2 dX4_findPlace_14 (by decide) ?_
    have ee : ((if ((I 26 2) : Int32) = 1 then 1 else 2) : Int32) = 2 := by rw [if_neg g1]
    rw [ee] at key2
    clear ee
    exact key2
  · refine z_iconst 1 dX4_findPlace_10 (by decide) ?_
    refine z_goto 15 dX4_findPlace_11 (by decide) ?_
    have ee : ((if ((I 26 2) : Int32) = 1 then 1 else 2) : Int32) = 1 := by rw [if_pos g1]
    rw [ee] at key2
    clear ee
    exact key2
set_option maxRecDepth 100000 in
set_option maxHeartbeats 4000000 in
theorem wp_X4_findPlace_30 {n0 d : Nat} {rc rs : Nat} {K : z_K} {I : z_I} {L : z_L} {Q : z_q} {a1 : Int32} {a2 : Int32} {a3 : Int32} {a4 : Int32} (hL : CLay K) (h : vp_in a1 4 ∧ (∃ q2, K.2.2 29 a1.toNatClampNeg = some q2 ∧ q2 < K.1 ∧ (K.2.1 q2).1 = 10 ∧ (if 96 < ((a4 + (I q2 2)) : Int32) then Q (some (.int 0)) I L else Z n0 xX4_findPlace (d + 1) rc rs 50 [(0, .ref (n0 + 25)), (1, .int a1), (2, .int a2), (3, .int a3), (4, .int a4), (5, .int 0)] [] K I L (z_q0 K Q)))) : Z n0 xX4_findPlace (d + 1) rc rs 30 [(0, .ref (n0 + 25)), (1, .int a1), (2, .int a2), (3, .int a3), (4, .int a4)] [] K I L (z_q0 K Q) := by
  refine z_iload 4 dX4_findPlace_30 rfl ?_
  refine z_aload_n 0 dX4_findPlace_32 rfl ?_
  refine fg_4_34 (some 29) rfl dX4_findPlace_33 (co_25 hL).1 (co_25 hL).2 (ca_29 hL).1 ?_
  refine z_iload_n 1 dX4_findPlace_36 rfl ?_
  obtain ⟨o1, h⟩ := h
  obtain ⟨q2, q2e, h⟩ := h
  refine z_aald (some q2) dX4_findPlace_37 (ca_29 hL).2.1 (ca_29 hL).2.2 (by unfold z_rt; decide) o1 q2e ?_
  obtain ⟨o3, o4, h⟩ := h
  refine fg_4_94 (I q2 2) rfl dX4_findPlace_38 o3 o4 rfl ?_
  refine z_iadd dX4_findPlace_41 ?_
  refine z_bipush 96 dX4_findPlace_42 (by decide) ?_
  refine z_icmp_gt 135 dX4_findPlace_44 (by decide) (fun g5 => ?_) (fun g5 => ?_)
  · rw [if_pos g5] at h
    refine z_iconst 0 dX4_findPlace_135 (by decide) ?_
    exact z_zretb dX4_findPlace_136 rfl (Or.inl rfl) ⟨rfl, h⟩
  · rw [if_neg g5] at h
    refine z_iconst 0 dX4_findPlace_47 (by decide) ?_
    refine z_istore [1, 2, 3, 4, 5, 0] [(0, .ref (n0 + 25)), (1, .int a1), (2, .int a2), (3, .int a3), (4, .int a4), (5, .int 0)] dX4_findPlace_48 (by decide) rfl ?_
    exact h
set_option maxRecDepth 100000 in
set_option maxHeartbeats 4000000 in
theorem wp_X4_findPlace_50 {n0 d : Nat} {rc rs : Nat} {K : z_K} {I : z_I} {L : z_L} {Q : z_q} {a1 : Int32} {a2 : Int32} {a3 : Int32} {a4 : Int32} {a5 : Int32} (hL : CLay K) (h : vp_in a1 4 ∧ (∃ q2, K.2.2 29 a1.toNatClampNeg = some q2 ∧ q2 < K.1 ∧ (K.2.1 q2).1 = 10 ∧ (if (I 26 0) < ((a5 + (I q2 3)) : Int32) then Z n0 xX4_findPlace (d + 1) rc rs 30 [(0, .ref (n0 + 25)), (1, .int a1), (2, .int a2), (3, .int a3), (4, .int (a4 + a3))] [] K I L (z_q0 K Q) else Z n0 xX4_findPlace (d + 1) rc rs 74 [(0, .ref (n0 + 25)), (1, .int a1), (2, .int a2), (3, .int a3), (4, .int a4), (5, .int a5), (6, .int 0)] [] K I L (z_q0 K Q)))) : Z n0 xX4_findPlace (d + 1) rc rs 50 [(0, .ref (n0 + 25)), (1, .int a1), (2, .int a2), (3, .int a3), (4, .int a4), (5, .int a5)] [] K I L (z_q0 K Q) := by
  refine z_iload 5 dX4_findPlace_50 rfl ?_
  refine z_aload_n 0 dX4_findPlace_52 rfl ?_
  refine fg_4_34 (some 29) rfl dX4_findPlace_53 (co_25 hL).1 (co_25 hL).2 (ca_29 hL).1 ?_
  refine z_iload_n 1 dX4_findPlace_56 rfl ?_
  obtain ⟨o1, h⟩ := h
  obtain ⟨q2, q2e, h⟩ := h
  refine z_aald (some q2) dX4_findPlace_57 (ca_29 hL).2.1 (ca_29 hL).2.2 (by unfold z_rt; decide) o1 q2e ?_
  obtain ⟨o3, o4, h⟩ := h
  refine fg_4_97 (I q2 3) rfl dX4_findPlace_58 o3 o4 rfl ?_
  refine z_iadd dX4_findPlace_61 ?_
  refine z_aload_n 0 dX4_findPlace_62 rfl ?_
  refine fg_4_18 (some 26) rfl dX4_findPlace_63 (co_25 hL).1 (co_25 hL).2 (ca_26 hL).1 ?_
  refine z_iconst 0 dX4_findPlace_66 (by decide) ?_
  refine z_iald (I 26 0) dX4_findPlace_67 (ca_26 hL).2.1 (ca_26 hL).2.2 (by unfold vp_in; decide) rfl ?_
  refine z_icmp_gt 126 dX4_findPlace_68 (by decide) (fun g5 => ?_) (fun g5 => ?_)
  · rw [if_pos g5] at h
    refine z_iload 4 dX4_findPlace_126 rfl ?_
    refine z_iload_n 3 dX4_findPlace_128 rfl ?_
    refine z_iadd dX4_findPlace_129 ?_
    refine z_istore [1, 2, 3, 4, 0, 5] [(0, .ref (n0 + 25)), (1, .int a1), (2, .int a2), (3, .int a3), (4, .int (a4 + a3)), (5, .int a5)] dX4_findPlace_130 (by decide) rfl ?_
    refine z_goto 30 dX4_findPlace_132 (by decide) ?_
    refine z_sub [0, 1, 2, 3, 4] rfl ?_
    exact h
  · rw [if_neg g5] at h
    refine z_iconst 0 dX4_findPlace_71 (by decide) ?_
    refine z_istore [1, 2, 3, 4, 5, 6, 0] [(0, .ref (n0 + 25)), (1, .int a1), (2, .int a2), (3, .int a3), (4, .int a4), (5, .int a5), (6, .int 0)] dX4_findPlace_72 (by decide) rfl ?_
    exact h
set_option maxRecDepth 100000 in
set_option maxHeartbeats 4000000 in
theorem wp_X4_findPlace_74 {n0 d : Nat} {rc rs : Nat} {K : z_K} {I : z_I} {L : z_L} {Q : z_q} {a1 : Int32} {a2 : Int32} {a3 : Int32} {a4 : Int32} {a5 : Int32} {a6 : Int32} (hL : CLay K) (h : (if a6 < a2 then vp_in a1 4 ∧ RM0 n0 xX4_isFree d [.ref (n0 + 25), .int a1] K (zI (zI (zI I 31 a1.toNatClampNeg a4) 32 a1.toNatClampNeg a5) 33 a1.toNatClampNeg a6) L (fun vv I3 L4 => ∃ r5 : Int32, vv = some (.int r5) ∧ (if r5 = 0 then Z n0 xX4_findPlace (d + 1) rc rs 74 [(0, .ref (n0 + 25)), (1, .int a1), (2, .int a2), (3, .int a3), (4, .int a4), (5, .int a5), (6, .int (a6 + 1))] [] K I3 L4 (z_q0 K Q) else Q (some (.int 1)) I3 L4)) else Z n0 xX4_findPlace (d + 1) rc rs 50 [(0, .ref (n0 + 25)), (1, .int a1), (2, .int a2), (3, .int a3), (4, .int a4), (5, .int (a5 + 1))] [] K I L (z_q0 K Q))) : Z n0 xX4_findPlace (d + 1) rc rs 74 [(0, .ref (n0 + 25)), (1, .int a1), (2, .int a2), (3, .int a3), (4, .int a4), (5, .int a5), (6, .int a6)] [] K I L (z_q0 K Q) := by
  refine z_iload 6 dX4_findPlace_74 rfl ?_
  refine z_iload_n 2 dX4_findPlace_76 rfl ?_
  refine z_icmp_ge 120 dX4_findPlace_77 (by decide) (fun g1 => ?_) (fun g1 => ?_)
  · rw [if_neg g1] at h
    refine z_iinc (j := 5) (a5 + 1) [1, 2, 3, 4, 5, 0, 6] [(0, .ref (n0 + 25)), (1, .int a1), (2, .int a2), (3, .int a3), (4, .int a4), (5, .int (a5 + 1)), (6, .int a6)] dX4_findPlace_120 rfl rfl (by decide) rfl ?_
    refine z_goto 50 dX4_findPlace_123 (by decide) ?_
    refine z_sub [0, 1, 2, 3, 4, 5] rfl ?_
    exact h
  · rw [if_pos g1] at h
    refine z_aload_n 0 dX4_findPlace_80 rfl ?_
    refine fg_4_41 (some 31) rfl dX4_findPlace_81 (co_25 hL).1 (co_25 hL).2 (ca_31 hL).1 ?_
    refine z_iload_n 1 dX4_findPlace_84 rfl ?_
    refine z_iload 4 dX4_findPlace_85 rfl ?_
    obtain ⟨o2, h⟩ := h
    refine z_iast dX4_findPlace_87 (ca_31 hL).2.1 (ca_31 hL).2.2 o2 ?_
    refine z_aload_n 0 dX4_findPlace_88 rfl ?_
    refine fg_4_44 (some 32) rfl dX4_findPlace_89 (co_25 hL).1 (co_25 hL).2 (ca_32 hL).1 ?_
    refine z_iload_n 1 dX4_findPlace_92 rfl ?_
    refine z_iload 5 dX4_findPlace_93 rfl ?_
    refine z_iast dX4_findPlace_95 (ca_32 hL).2.1 (ca_32 hL).2.2 o2 ?_
    refine z_aload_n 0 dX4_findPlace_96 rfl ?_
    refine fg_4_47 (some 33) rfl dX4_findPlace_97 (co_25 hL).1 (co_25 hL).2 (ca_33 hL).1 ?_
    refine z_iload_n 1 dX4_findPlace_100 rfl ?_
    refine z_iload 6 dX4_findPlace_101 rfl ?_
    refine z_iast dX4_findPlace_103 (ca_33 hL).2.1 (ca_33 hL).2.2 o2 ?_
    refine z_aload_n 0 dX4_findPlace_104 rfl ?_
    refine z_iload_n 1 dX4_findPlace_105 rfl ?_
    refine z_callV0 (As := [.int a1]) (st := []) dX4_findPlace_106 hy_X4_isFree (co_25 hL).1 (co_25 hL).2 (by decide) wg_1174 wg_1176 wg_44 (Nat.le_refl _) (Nat.le_of_ble_eq_true rfl) (RM0.mono h ?_)
    clear h
    intro vv I3 L4 h
    obtain ⟨r5, rfl, h⟩ := h
    change Z n0 xX4_findPlace (d + 1) rc rs 109 [(0, .ref (n0 + 25)), (1, .int a1), (2, .int a2), (3, .int a3), (4, .int a4), (5, .int a5), (6, .int a6)] [.int r5] K I3 L4 (z_q0 K Q)
    refine z_if_eq 114 dX4_findPlace_109 (by decide) (fun g6 => ?_) (fun g6 => ?_)
    · rw [if_pos g6] at h
      refine z_iinc (j := 6) (a6 + 1) [1, 2, 3, 4, 5, 6, 0] [(0, .ref (n0 + 25)), (1, .int a1), (2, .int a2), (3, .int a3), (4, .int a4), (5, .int a5), (6, .int (a6 + 1))] dX4_findPlace_114 rfl rfl (by decide) rfl ?_
      refine z_goto 74 dX4_findPlace_117 (by decide) ?_
      exact h
    · rw [if_neg g6] at h
      refine z_iconst 1 dX4_findPlace_112 (by decide) ?_
      exact z_zretb dX4_findPlace_113 rfl (Or.inr rfl) ⟨rfl, h⟩
theorem dX4_cellsOf_0 : decode cX4_cellsOf 0 = .ok (.aload_n 0, 1) := by decide +kernel
theorem dX4_cellsOf_1 : decode cX4_cellsOf 1 = .ok (.getfield 47, 3) := by decide +kernel
theorem dX4_cellsOf_4 : decode cX4_cellsOf 4 = .ok (.iload_n 1, 1) := by decide +kernel
theorem dX4_cellsOf_5 : decode cX4_cellsOf 5 = .ok (.iaload, 1) := by decide +kernel
theorem dX4_cellsOf_6 : decode cX4_cellsOf 6 = .ok (.ifCond .ne 15, 3) := by decide +kernel
theorem dX4_cellsOf_9 : decode cX4_cellsOf 9 = .ok (.aload_n 0, 1) := by decide +kernel
theorem dX4_cellsOf_10 : decode cX4_cellsOf 10 = .ok (.getfield 34, 3) := by decide +kernel
theorem dX4_cellsOf_13 : decode cX4_cellsOf 13 = .ok (.iload_n 1, 1) := by decide +kernel
theorem dX4_cellsOf_14 : decode cX4_cellsOf 14 = .ok (.aaload, 1) := by decide +kernel
theorem dX4_cellsOf_15 : decode cX4_cellsOf 15 = .ok (.getfield 103, 3) := by decide +kernel
theorem dX4_cellsOf_18 : decode cX4_cellsOf 18 = .ok (.goto 12, 3) := by decide +kernel
theorem dX4_cellsOf_21 : decode cX4_cellsOf 21 = .ok (.aload_n 0, 1) := by decide +kernel
theorem dX4_cellsOf_22 : decode cX4_cellsOf 22 = .ok (.getfield 34, 3) := by decide +kernel
theorem dX4_cellsOf_25 : decode cX4_cellsOf 25 = .ok (.iload_n 1, 1) := by decide +kernel
theorem dX4_cellsOf_26 : decode cX4_cellsOf 26 = .ok (.aaload, 1) := by decide +kernel
theorem dX4_cellsOf_27 : decode cX4_cellsOf 27 = .ok (.getfield 106, 3) := by decide +kernel
theorem dX4_cellsOf_30 : decode cX4_cellsOf 30 = .ok (.areturn, 1) := by decide +kernel
set_option maxRecDepth 100000 in
set_option maxHeartbeats 4000000 in
theorem wp_X4_cellsOf {n0 d : Nat} {K : z_K} {I : z_I} {L : z_L} {Q : z_q} {p0 : Int32} (hL : CLay K) (h : vp_in p0 4 ∧ (if ((I 33 p0.toNatClampNeg) : Int32) = 0 then (∃ q7, K.2.2 29 p0.toNatClampNeg = some q7 ∧ q7 < K.1 ∧ (K.2.1 q7).1 = 10 ∧ (∃ q10, K.2.2 q7 0 = some q10 ∧ Q (some (.ref (n0 + q10))) I L)) else (∃ q3, K.2.2 29 p0.toNatClampNeg = some q3 ∧ q3 < K.1 ∧ (K.2.1 q3).1 = 10 ∧ (∃ q6, K.2.2 q3 1 = some q6 ∧ Q (some (.ref (n0 + q6))) I L)))) : RM0 n0 xX4_cellsOf d [.ref (n0 + 25), .int p0] K I L Q := by
  refine z_entry0 (by decide) (Nat.le_of_ble_eq_true rfl) ?_
  change Z n0 xX4_cellsOf d 0 0 0 [(0, .ref (n0 + 25)), (1, .int p0)] [] K I L (z_q0 K Q)
  refine z_aload_n 0 dX4_cellsOf_0 rfl ?_
  refine fg_4_47 (some 33) rfl dX4_cellsOf_1 (co_25 hL).1 (co_25 hL).2 (ca_33 hL).1 ?_
  refine z_iload_n 1 dX4_cellsOf_4 rfl ?_
  obtain ⟨o1, h⟩ := h
  refine z_iald (I 33 p0.toNatClampNeg) dX4_cellsOf_5 (ca_33 hL).2.1 (ca_33 hL).2.2 o1 rfl ?_
  refine z_if_ne 21 dX4_cellsOf_6 (by decide) (fun g2 => ?_) (fun g2 => ?_)
  · rw [if_neg g2] at h
    refine z_aload_n 0 dX4_cellsOf_21 rfl ?_
    refine fg_4_34 (some 29) rfl dX4_cellsOf_22 (co_25 hL).1 (co_25 hL).2 (ca_29 hL).1 ?_
    refine z_iload_n 1 dX4_cellsOf_25 rfl ?_
    obtain ⟨q3, q3e, h⟩ := h
    refine z_aald (some q3) dX4_cellsOf_26 (ca_29 hL).2.1 (ca_29 hL).2.2 (by unfold z_rt; decide) o1 q3e ?_
    obtain ⟨o4, o5, h⟩ := h
    obtain ⟨q6, q6e, h⟩ := h
    refine fg_4_106 (some q6) rfl dX4_cellsOf_27 o4 o5 q6e ?_
    exact z_aret (o := (some q6)) dX4_cellsOf_30 rfl (Or.inr ⟨_, rfl⟩) ⟨rfl, h⟩
  · rw [if_pos g2] at h
    refine z_aload_n 0 dX4_cellsOf_9 rfl ?_
    refine fg_4_34 (some 29) rfl dX4_cellsOf_10 (co_25 hL).1 (co_25 hL).2 (ca_29 hL).1 ?_
    refine z_iload_n 1 dX4_cellsOf_13 rfl ?_
    obtain ⟨q7, q7e, h⟩ := h
    refine z_aald (some q7) dX4_cellsOf_14 (ca_29 hL).2.1 (ca_29 hL).2.2 (by unfold z_rt; decide) o1 q7e ?_
    obtain ⟨o8, o9, h⟩ := h
    obtain ⟨q10, q10e, h⟩ := h
    refine fg_4_103 (some q10) rfl dX4_cellsOf_15 o8 o9 q10e ?_
    refine z_goto 30 dX4_cellsOf_18 (by decide) ?_
    exact z_aret (o := (some q10)) dX4_cellsOf_30 rfl (Or.inr ⟨_, rfl⟩) ⟨rfl, h⟩
theorem dX4_isFree_0 : decode cX4_isFree 0 = .ok (.aload_n 0, 1) := by decide +kernel
theorem dX4_isFree_1 : decode cX4_isFree 1 = .ok (.iload_n 1, 1) := by decide +kernel
theorem dX4_isFree_2 : decode cX4_isFree 2 = .ok (.invokevirtual 109, 3) := by decide +kernel
theorem dX4_isFree_5 : decode cX4_isFree 5 = .ok (.astore_n 2, 1) := by decide +kernel
theorem dX4_isFree_6 : decode cX4_isFree 6 = .ok (.iconst 0, 1) := by decide +kernel
theorem dX4_isFree_7 : decode cX4_isFree 7 = .ok (.istore_n 3, 1) := by decide +kernel
theorem dX4_isFree_8 : decode cX4_isFree 8 = .ok (.iload_n 3, 1) := by decide +kernel
theorem dX4_isFree_9 : decode cX4_isFree 9 = .ok (.aload_n 0, 1) := by decide +kernel
theorem dX4_isFree_10 : decode cX4_isFree 10 = .ok (.getfield 34, 3) := by decide +kernel
theorem dX4_isFree_13 : decode cX4_isFree 13 = .ok (.iload_n 1, 1) := by decide +kernel
theorem dX4_isFree_14 : decode cX4_isFree 14 = .ok (.aaload, 1) := by decide +kernel
theorem dX4_isFree_15 : decode cX4_isFree 15 = .ok (.getfield 94, 3) := by decide +kernel
theorem dX4_isFree_18 : decode cX4_isFree 18 = .ok (.if_icmp .ge 38, 3) := by decide +kernel
theorem dX4_isFree_21 : decode cX4_isFree 21 = .ok (.aload_n 2, 1) := by decide +kernel
theorem dX4_isFree_22 : decode cX4_isFree 22 = .ok (.iload_n 3, 1) := by decide +kernel
theorem dX4_isFree_23 : decode cX4_isFree 23 = .ok (.iaload, 1) := by decide +kernel
theorem dX4_isFree_24 : decode cX4_isFree 24 = .ok (.aload_n 0, 1) := by decide +kernel
theorem dX4_isFree_25 : decode cX4_isFree 25 = .ok (.getfield 44, 3) := by decide +kernel
theorem dX4_isFree_28 : decode cX4_isFree 28 = .ok (.iload_n 1, 1) := by decide +kernel
theorem dX4_isFree_29 : decode cX4_isFree 29 = .ok (.iaload, 1) := by decide +kernel
theorem dX4_isFree_30 : decode cX4_isFree 30 = .ok (.ishl, 1) := by decide +kernel
theorem dX4_isFree_31 : decode cX4_isFree 31 = .ok (.aload_n 0, 1) := by decide +kernel
theorem dX4_isFree_32 : decode cX4_isFree 32 = .ok (.getfield 38, 3) := by decide +kernel
theorem dX4_isFree_35 : decode cX4_isFree 35 = .ok (.aload_n 0, 1) := by decide +kernel
theorem dX4_isFree_36 : decode cX4_isFree 36 = .ok (.getfield 41, 3) := by decide +kernel
theorem dX4_isFree_39 : decode cX4_isFree 39 = .ok (.iload_n 1, 1) := by decide +kernel
theorem dX4_isFree_40 : decode cX4_isFree 40 = .ok (.iaload, 1) := by decide +kernel
theorem dX4_isFree_41 : decode cX4_isFree 41 = .ok (.iload_n 3, 1) := by decide +kernel
theorem dX4_isFree_42 : decode cX4_isFree 42 = .ok (.iadd, 1) := by decide +kernel
theorem dX4_isFree_43 : decode cX4_isFree 43 = .ok (.iaload, 1) := by decide +kernel
theorem dX4_isFree_44 : decode cX4_isFree 44 = .ok (.iand, 1) := by decide +kernel
theorem dX4_isFree_45 : decode cX4_isFree 45 = .ok (.ifCond .eq 5, 3) := by decide +kernel
theorem dX4_isFree_48 : decode cX4_isFree 48 = .ok (.iconst 0, 1) := by decide +kernel
theorem dX4_isFree_49 : decode cX4_isFree 49 = .ok (.ireturn, 1) := by decide +kernel
theorem dX4_isFree_50 : decode cX4_isFree 50 = .ok (.iinc 3 1, 3) := by decide +kernel
theorem dX4_isFree_53 : decode cX4_isFree 53 = .ok (.goto (-45), 3) := by decide +kernel
theorem dX4_isFree_56 : decode cX4_isFree 56 = .ok (.iconst 1, 1) := by decide +kernel
theorem dX4_isFree_57 : decode cX4_isFree 57 = .ok (.ireturn, 1) := by decide +kernel
set_option maxRecDepth 100000 in
set_option maxHeartbeats 4000000 in
theorem wp_X4_isFree {n0 d : Nat} {K : z_K} {I : z_I} {L : z_L} {Q : z_q} {p0 : Int32} (hL : CLay K) (h : RM0 n0 xX4_cellsOf d [.ref (n0 + 25), .int p0] K I L (fun vv I1 L2 => ∃ r3 : Nat, vv = some (.ref (n0 + r3)) ∧ Z n0 xX4_isFree (d + 1) 0 0 8 [(0, .ref (n0 + 25)), (1, .int p0), (2, .ref (n0 + r3)), (3, .int 0)] [] K I1 L2 (z_q0 K Q))) : RM0 n0 xX4_isFree (d + 1) [.ref (n0 + 25), .int p0] K I L Q := by
  refine z_entry0 (by decide) (Nat.le_of_ble_eq_true rfl) ?_
  change Z n0 xX4_isFree (d + 1) 0 0 0 [(0, .ref (n0 + 25)), (1, .int p0)] [] K I L (z_q0 K Q)
  refine z_aload_n 0 dX4_isFree_0 rfl ?_
  refine z_iload_n 1 dX4_isFree_1 rfl ?_
  refine z_callV0 (As := [.int p0]) (st := []) dX4_isFree_2 hy_X4_cellsOf (co_25 hL).1 (co_25 hL).2 (by decide) wg_1178 wg_1180 wg_45 (Nat.le_refl _) (Nat.le_of_ble_eq_true rfl) (RM0.mono h ?_)
  clear h
  intro vv I1 L2 h
  obtain ⟨r3, rfl, h⟩ := h
  change Z n0 xX4_isFree (d + 1) 0 0 5 [(0, .ref (n0 + 25)), (1, .int p0)] [.ref (n0 + r3)] K I1 L2 (z_q0 K Q)
  refine z_astore_n [1, 2, 0] [(0, .ref (n0 + 25)), (1, .int p0), (2, .ref (n0 + r3))] dX4_isFree_5 (by decide) rfl ?_
  refine z_iconst 0 dX4_isFree_6 (by decide) ?_
  refine z_istore_n [1, 2, 3, 0] [(0, .ref (n0 + 25)), (1, .int p0), (2, .ref (n0 + r3)), (3, .int 0)] dX4_isFree_7 (by decide) rfl ?_
  exact h
set_option maxRecDepth 100000 in
set_option maxHeartbeats 4000000 in
theorem wp_X4_isFree_8 {n0 d : Nat} {rc rs : Nat} {K : z_K} {I : z_I} {L : z_L} {Q : z_q} {a1 : Int32} {a2 : Option Nat} {a3 : Int32} (hL : CLay K) (h : vp_in a1 4 ∧ (∃ q2, K.2.2 29 a1.toNatClampNeg = some q2 ∧ q2 < K.1 ∧ (K.2.1 q2).1 = 10 ∧ (if a3 < (I q2 2) then (∃ q6, a2 = some q6 ∧ ∃ n7, q6 < K.1 ∧ K.2.1 q6 = (20, n7) ∧ vp_in a3 n7 ∧ vp_in ((I 31 a1.toNatClampNeg) + a3) 96 ∧ (if (((((I q6 a3.toNatClampNeg) : Int32) <<< ((I 32 a1.toNatClampNeg) &&& 31 : Int32)) &&& (I 30 (((I 31 a1.toNatClampNeg) + a3).toNatClampNeg))) : Int32) = 0 then Z n0 xX4_isFree (d + 1) rc rs 8 [(0, .ref (n0 + 25)), (1, .int a1), (2, .ref (n0 + q6)), (3, .int (a3 + 1))] [] K I L (z_q0 K Q) else Q (some (.int 0)) I L)) else Q (some (.int 1)) I L))) : Z n0 xX4_isFree (d + 1) rc rs 8 [(0, .ref (n0 + 25)), (1, .int a1), (2, zr n0 a2), (3, .int a3)] [] K I L (z_q0 K Q) := by
  refine z_iload_n 3 dX4_isFree_8 rfl ?_
  refine z_aload_n 0 dX4_isFree_9 rfl ?_
  refine fg_4_34 (some 29) rfl dX4_isFree_10 (co_25 hL).1 (co_25 hL).2 (ca_29 hL).1 ?_
  refine z_iload_n 1 dX4_isFree_13 rfl ?_
  obtain ⟨o1, h⟩ := h
  obtain ⟨q2, q2e, h⟩ := h
  refine z_aald (some q2) dX4_isFree_14 (ca_29 hL).2.1 (ca_29 hL).2.2 (by unfold z_rt; decide) o1 q2e ?_
  obtain ⟨o3, o4, h⟩ := h
  refine fg_4_94 (I q2 2) rfl dX4_isFree_15 o3 o4 rfl ?_
  refine z_icmp_ge 56 dX4_isFree_18 (by decide) (fun g5 => ?_) (fun g5 => ?_)
  · rw [if_neg g5] at h
    refine z_iconst 1 dX4_isFree_56 (by decide) ?_
    exact z_zretb dX4_isFree_57 rfl (Or.inr rfl) ⟨rfl, h⟩
  · rw [if_pos g5] at h
    refine z_aload_nO 2 dX4_isFree_21 rfl ?_
    refine z_iload_n 3 dX4_isFree_22 rfl ?_
    obtain ⟨q6, q6e, h⟩ := h
    subst q6e
    change Z n0 xX4_isFree (d + 1) rc rs 23 [(0, .ref (n0 + 25)), (1, .int a1), (2, .ref (n0 + q6)), (3, .int a3)] [.int a3, .ref (n0 + q6)] K I L (z_q0 K Q)
    obtain ⟨n7, o8, o9, o10, h⟩ := h
    refine z_iald (I q6 a3.toNatClampNeg) dX4_isFree_23 o8 o9 o10 rfl ?_
    refine z_aload_n 0 dX4_isFree_24 rfl ?_
    refine fg_4_44 (some 32) rfl dX4_isFree_25 (co_25 hL).1 (co_25 hL).2 (ca_32 hL).1 ?_
    refine z_iload_n 1 dX4_isFree_28 rfl ?_
    refine z_iald (I 32 a1.toNatClampNeg) dX4_isFree_29 (ca_32 hL).2.1 (ca_32 hL).2.2 o1 rfl ?_
    refine z_ishl dX4_isFree_30 ?_
    refine z_aload_n 0 dX4_isFree_31 rfl ?_
    refine fg_4_38 (some 30) rfl dX4_isFree_32 (co_25 hL).1 (co_25 hL).2 (ca_30 hL).1 ?_
    refine z_aload_n 0 dX4_isFree_35 rfl ?_
    refine fg_4_41 (some 31) rfl dX4_isFree_36 (co_25 hL).1 (co_25 hL).2 (ca_31 hL).1 ?_
    refine z_iload_n 1 dX4_isFree_39 rfl ?_
    refine z_iald (I 31 a1.toNatClampNeg) dX4_isFree_40 (ca_31 hL).2.1 (ca_31 hL).2.2 o1 rfl ?_
    refine z_iload_n 3 dX4_isFree_41 rfl ?_
    refine z_iadd dX4_isFree_42 ?_
    obtain ⟨o11, h⟩ := h
    refine z_iald (I 30 (((I 31 a1.toNatClampNeg) + a3).toNatClampNeg)) dX4_isFree_43 (ca_30 hL).2.1 (ca_30 hL).2.2 o11 rfl ?_
    refine z_iand dX4_isFree_44 ?_
    refine z_if_eq 50 dX4_isFree_45 (by decide) (fun g12 => ?_) (fun g12 => ?_)
    · rw [if_pos g12] at h
      refine z_iinc (j := 3) (a3 + 1) [1, 2, 3, 0] [(0, .ref (n0 + 25)), (1, .int a1), (2, .ref (n0 + q6)), (3, .int (a3 + 1))] dX4_isFree_50 rfl rfl (by decide) rfl ?_
      refine z_goto 8 dX4_isFree_53 (by decide) ?_
      exact h
    · rw [if_neg g12] at h
      refine z_iconst 0 dX4_isFree_48 (by decide) ?_
      exact z_zretb dX4_isFree_49 rfl (Or.inl rfl) ⟨rfl, h⟩
theorem dX4_flip_0 : decode cX4_flip 0 = .ok (.aload_n 0, 1) := by decide +kernel
theorem dX4_flip_1 : decode cX4_flip 1 = .ok (.iload_n 1, 1) := by decide +kernel
theorem dX4_flip_2 : decode cX4_flip 2 = .ok (.invokevirtual 109, 3) := by decide +kernel
theorem dX4_flip_5 : decode cX4_flip 5 = .ok (.astore_n 2, 1) := by decide +kernel
theorem dX4_flip_6 : decode cX4_flip 6 = .ok (.iconst 0, 1) := by decide +kernel
theorem dX4_flip_7 : decode cX4_flip 7 = .ok (.istore_n 3, 1) := by decide +kernel
theorem dX4_flip_8 : decode cX4_flip 8 = .ok (.iload_n 3, 1) := by decide +kernel
theorem dX4_flip_9 : decode cX4_flip 9 = .ok (.aload_n 0, 1) := by decide +kernel
theorem dX4_flip_10 : decode cX4_flip 10 = .ok (.getfield 34, 3) := by decide +kernel
theorem dX4_flip_13 : decode cX4_flip 13 = .ok (.iload_n 1, 1) := by decide +kernel
theorem dX4_flip_14 : decode cX4_flip 14 = .ok (.aaload, 1) := by decide +kernel
theorem dX4_flip_15 : decode cX4_flip 15 = .ok (.getfield 94, 3) := by decide +kernel
theorem dX4_flip_18 : decode cX4_flip 18 = .ok (.if_icmp .ge 35, 3) := by decide +kernel
theorem dX4_flip_21 : decode cX4_flip 21 = .ok (.aload_n 0, 1) := by decide +kernel
theorem dX4_flip_22 : decode cX4_flip 22 = .ok (.getfield 38, 3) := by decide +kernel
theorem dX4_flip_25 : decode cX4_flip 25 = .ok (.aload_n 0, 1) := by decide +kernel
theorem dX4_flip_26 : decode cX4_flip 26 = .ok (.getfield 41, 3) := by decide +kernel
theorem dX4_flip_29 : decode cX4_flip 29 = .ok (.iload_n 1, 1) := by decide +kernel
theorem dX4_flip_30 : decode cX4_flip 30 = .ok (.iaload, 1) := by decide +kernel
theorem dX4_flip_31 : decode cX4_flip 31 = .ok (.iload_n 3, 1) := by decide +kernel
theorem dX4_flip_32 : decode cX4_flip 32 = .ok (.iadd, 1) := by decide +kernel
theorem dX4_flip_33 : decode cX4_flip 33 = .ok (.dup2, 1) := by decide +kernel
theorem dX4_flip_34 : decode cX4_flip 34 = .ok (.iaload, 1) := by decide +kernel
theorem dX4_flip_35 : decode cX4_flip 35 = .ok (.aload_n 2, 1) := by decide +kernel
theorem dX4_flip_36 : decode cX4_flip 36 = .ok (.iload_n 3, 1) := by decide +kernel
theorem dX4_flip_37 : decode cX4_flip 37 = .ok (.iaload, 1) := by decide +kernel
theorem dX4_flip_38 : decode cX4_flip 38 = .ok (.aload_n 0, 1) := by decide +kernel
theorem dX4_flip_39 : decode cX4_flip 39 = .ok (.getfield 44, 3) := by decide +kernel
theorem dX4_flip_42 : decode cX4_flip 42 = .ok (.iload_n 1, 1) := by decide +kernel
theorem dX4_flip_43 : decode cX4_flip 43 = .ok (.iaload, 1) := by decide +kernel
theorem dX4_flip_44 : decode cX4_flip 44 = .ok (.ishl, 1) := by decide +kernel
theorem dX4_flip_45 : decode cX4_flip 45 = .ok (.ixor, 1) := by decide +kernel
theorem dX4_flip_46 : decode cX4_flip 46 = .ok (.iastore, 1) := by decide +kernel
theorem dX4_flip_47 : decode cX4_flip 47 = .ok (.iinc 3 1, 3) := by decide +kernel
theorem dX4_flip_50 : decode cX4_flip 50 = .ok (.goto (-42), 3) := by decide +kernel
theorem dX4_flip_53 : decode cX4_flip 53 = .ok (.return_, 1) := by decide +kernel
set_option maxRecDepth 100000 in
set_option maxHeartbeats 4000000 in
theorem wp_X4_flip {n0 d : Nat} {K : z_K} {I : z_I} {L : z_L} {Q : z_q} {p0 : Int32} (hL : CLay K) (h : RM0 n0 xX4_cellsOf d [.ref (n0 + 25), .int p0] K I L (fun vv I1 L2 => ∃ r3 : Nat, vv = some (.ref (n0 + r3)) ∧ Z n0 xX4_flip (d + 1) 0 0 8 [(0, .ref (n0 + 25)), (1, .int p0), (2, .ref (n0 + r3)), (3, .int 0)] [] K I1 L2 (z_q0 K Q))) : RM0 n0 xX4_flip (d + 1) [.ref (n0 + 25), .int p0] K I L Q := by
  refine z_entry0 (by decide) (Nat.le_of_ble_eq_true rfl) ?_
  change Z n0 xX4_flip (d + 1) 0 0 0 [(0, .ref (n0 + 25)), (1, .int p0)] [] K I L (z_q0 K Q)
  refine z_aload_n 0 dX4_flip_0 rfl ?_
  refine z_iload_n 1 dX4_flip_1 rfl ?_
  refine z_callV0 (As := [.int p0]) (st := []) dX4_flip_2 hy_X4_cellsOf (co_25 hL).1 (co_25 hL).2 (by decide) wg_1178 wg_1180 wg_45 (Nat.le_refl _) (Nat.le_of_ble_eq_true rfl) (RM0.mono h ?_)
  clear h
  intro vv I1 L2 h
  obtain ⟨r3, rfl, h⟩ := h
  change Z n0 xX4_flip (d + 1) 0 0 5 [(0, .ref (n0 + 25)), (1, .int p0)] [.ref (n0 + r3)] K I1 L2 (z_q0 K Q)
  refine z_astore_n [1, 2, 0] [(0, .ref (n0 + 25)), (1, .int p0), (2, .ref (n0 + r3))] dX4_flip_5 (by decide) rfl ?_
  refine z_iconst 0 dX4_flip_6 (by decide) ?_
  refine z_istore_n [1, 2, 3, 0] [(0, .ref (n0 + 25)), (1, .int p0), (2, .ref (n0 + r3)), (3, .int 0)] dX4_flip_7 (by decide) rfl ?_
  exact h
set_option maxRecDepth 100000 in
set_option maxHeartbeats 4000000 in
theorem wp_X4_flip_8 {n0 d : Nat} {rc rs : Nat} {K : z_K} {I : z_I} {L : z_L} {Q : z_q} {a1 : Int32} {a2 : Option Nat} {a3 : Int32} (hL : CLay K) (h : vp_in a1 4 ∧ (∃ q2, K.2.2 29 a1.toNatClampNeg = some q2 ∧ q2 < K.1 ∧ (K.2.1 q2).1 = 10 ∧ (if a3 < (I q2 2) then vp_in ((I 31 a1.toNatClampNeg) + a3) 96 ∧ (∃ q7, a2 = some q7 ∧ ∃ n8, q7 < K.1 ∧ K.2.1 q7 = (20, n8) ∧ vp_in a3 n8 ∧ Z n0 xX4_flip (d + 1) rc rs 8 [(0, .ref (n0 + 25)), (1, .int a1), (2, .ref (n0 + q7)), (3, .int (a3 + 1))] [] K (zI I 30 (((I 31 a1.toNatClampNeg) + a3).toNatClampNeg) ((I 30 (((I 31 a1.toNatClampNeg) + a3).toNatClampNeg)) ^^^ (((I q7 a3.toNatClampNeg) : Int32) <<< ((I 32 a1.toNatClampNeg) &&& 31 : Int32)))) L (z_q0 K Q)) else Q none I L))) : Z n0 xX4_flip (d + 1) rc rs 8 [(0, .ref (n0 + 25)), (1, .int a1), (2, zr n0 a2), (3, .int a3)] [] K I L (z_q0 K Q) := by
  refine z_iload_n 3 dX4_flip_8 rfl ?_
  refine z_aload_n 0 dX4_flip_9 rfl ?_
  refine fg_4_34 (some 29) rfl dX4_flip_10 (co_25 hL).1 (co_25 hL).2 (ca_29 hL).1 ?_
  refine z_iload_n 1 dX4_flip_13 rfl ?_
  obtain ⟨o1, h⟩ := h
  obtain ⟨q2, q2e, h⟩ := h
  refine z_aald (some q2) dX4_flip_14 (ca_29 hL).2.1 (ca_29 hL).2.2 (by unfold z_rt; decide) o1 q2e ?_
  obtain ⟨o3, o4, h⟩ := h
  refine fg_4_94 (I q2 2) rfl dX4_flip_15 o3 o4 rfl ?_
  refine z_icmp_ge 53 dX4_flip_18 (by decide) (fun g5 => ?_) (fun g5 => ?_)
  · rw [if_neg g5] at h
    exact z_vret dX4_flip_53 rfl ⟨rfl, h⟩
  · rw [if_pos g5] at h
    refine z_aload_n 0 dX4_flip_21 rfl ?_
    refine fg_4_38 (some 30) rfl dX4_flip_22 (co_25 hL).1 (co_25 hL).2 (ca_30 hL).1 ?_
    refine z_aload_n 0 dX4_flip_25 rfl ?_
    refine fg_4_41 (some 31) rfl dX4_flip_26 (co_25 hL).1 (co_25 hL).2 (ca_31 hL).1 ?_
    refine z_iload_n 1 dX4_flip_29 rfl ?_
    refine z_iald (I 31 a1.toNatClampNeg) dX4_flip_30 (ca_31 hL).2.1 (ca_31 hL).2.2 o1 rfl ?_
    refine z_iload_n 3 dX4_flip_31 rfl ?_
    refine z_iadd dX4_flip_32 ?_
    refine z_dup2 dX4_flip_33 rfl rfl ?_
    obtain ⟨o6, h⟩ := h
    refine z_iald (I 30 (((I 31 a1.toNatClampNeg) + a3).toNatClampNeg)) dX4_flip_34 (ca_30 hL).2.1 (ca_30 hL).2.2 o6 rfl ?_
    refine z_aload_nO 2 dX4_flip_35 rfl ?_
    refine z_iload_n 3 dX4_flip_36 rfl ?_
    obtain ⟨q7, q7e, h⟩ := h
    subst q7e
    change Z n0 xX4_flip (d + 1) rc rs 37 [(0, .ref (n0 + 25)), (1, .int a1), (2, .ref (n0 + q7)), (3, .int a3)] [.int a3, .ref (n0 + q7), .int (I 30 (((I 31 a1.toNatClampNeg) + a3).toNatClampNeg)), .int ((I 31 a1.toNatClampNeg) + a3), .ref (n0 + 30)] K I L (z_q0 K Q)
    obtain ⟨n8, o9, o10, o11, h⟩ := h
    refine z_iald (I q7 a3.toNatClampNeg) dX4_flip_37 o9 o10 o11 rfl ?_
    refine z_aload_n 0 dX4_flip_38 rfl ?_
    refine fg_4_44 (some 32) rfl dX4_flip_39 (co_25 hL).1 (co_25 hL).2 (ca_32 hL).1 ?_
    refine z_iload_n 1 dX4_flip_42 rfl ?_
    refine z_iald (I 32 a1.toNatClampNeg) dX4_flip_43 (ca_32 hL).2.1 (ca_32 hL).2.2 o1 rfl ?_
    refine z_ishl dX4_flip_44 ?_
    refine z_ixor dX4_flip_45 ?_
    refine z_iast dX4_flip_46 (ca_30 hL).2.1 (ca_30 hL).2.2 o6 ?_
    refine z_iinc (j := 3) (a3 + 1) [1, 2, 3, 0] [(0, .ref (n0 + 25)), (1, .int a1), (2, .ref (n0 + q7)), (3, .int (a3 + 1))] dX4_flip_47 rfl rfl (by decide) rfl ?_
    refine z_goto 8 dX4_flip_50 (by decide) ?_
    exact h
theorem dX4_judged_0 : decode cX4_judged 0 = .ok (.aload_n 0, 1) := by decide +kernel
theorem dX4_judged_1 : decode cX4_judged 1 = .ok (.getfield 38, 3) := by decide +kernel
theorem dX4_judged_4 : decode cX4_judged 4 = .ok (.iconst 0, 1) := by decide +kernel
theorem dX4_judged_5 : decode cX4_judged 5 = .ok (.invokestatic 70, 3) := by decide +kernel
theorem dX4_judged_8 : decode cX4_judged 8 = .ok (.iconst 0, 1) := by decide +kernel
theorem dX4_judged_9 : decode cX4_judged 9 = .ok (.istore_n 1, 1) := by decide +kernel
theorem dX4_judged_10 : decode cX4_judged 10 = .ok (.iconst 0, 1) := by decide +kernel
theorem dX4_judged_11 : decode cX4_judged 11 = .ok (.istore_n 2, 1) := by decide +kernel
theorem dX4_judged_12 : decode cX4_judged 12 = .ok (.iload_n 2, 1) := by decide +kernel
theorem dX4_judged_13 : decode cX4_judged 13 = .ok (.aload_n 0, 1) := by decide +kernel
theorem dX4_judged_14 : decode cX4_judged 14 = .ok (.getfield 57, 3) := by decide +kernel
theorem dX4_judged_17 : decode cX4_judged 17 = .ok (.if_icmp .ge 94, 3) := by decide +kernel
theorem dX4_judged_20 : decode cX4_judged 20 = .ok (.aload_n 0, 1) := by decide +kernel
theorem dX4_judged_21 : decode cX4_judged 21 = .ok (.getfield 41, 3) := by decide +kernel
theorem dX4_judged_24 : decode cX4_judged 24 = .ok (.iload_n 2, 1) := by decide +kernel
theorem dX4_judged_25 : decode cX4_judged 25 = .ok (.aload_n 0, 1) := by decide +kernel
theorem dX4_judged_26 : decode cX4_judged 26 = .ok (.getfield 53, 3) := by decide +kernel
theorem dX4_judged_29 : decode cX4_judged 29 = .ok (.iload_n 2, 1) := by decide +kernel
theorem dX4_judged_30 : decode cX4_judged 30 = .ok (.iconst 3, 1) := by decide +kernel
theorem dX4_judged_31 : decode cX4_judged 31 = .ok (.imul, 1) := by decide +kernel
theorem dX4_judged_32 : decode cX4_judged 32 = .ok (.iaload, 1) := by decide +kernel
theorem dX4_judged_33 : decode cX4_judged 33 = .ok (.iastore, 1) := by decide +kernel
theorem dX4_judged_34 : decode cX4_judged 34 = .ok (.aload_n 0, 1) := by decide +kernel
theorem dX4_judged_35 : decode cX4_judged 35 = .ok (.getfield 44, 3) := by decide +kernel
theorem dX4_judged_38 : decode cX4_judged 38 = .ok (.iload_n 2, 1) := by decide +kernel
theorem dX4_judged_39 : decode cX4_judged 39 = .ok (.aload_n 0, 1) := by decide +kernel
theorem dX4_judged_40 : decode cX4_judged 40 = .ok (.getfield 53, 3) := by decide +kernel
theorem dX4_judged_43 : decode cX4_judged 43 = .ok (.iload_n 2, 1) := by decide +kernel
theorem dX4_judged_44 : decode cX4_judged 44 = .ok (.iconst 3, 1) := by decide +kernel
theorem dX4_judged_45 : decode cX4_judged 45 = .ok (.imul, 1) := by decide +kernel
theorem dX4_judged_46 : decode cX4_judged 46 = .ok (.iconst 1, 1) := by decide +kernel
theorem dX4_judged_47 : decode cX4_judged 47 = .ok (.iadd, 1) := by decide +kernel
theorem dX4_judged_48 : decode cX4_judged 48 = .ok (.iaload, 1) := by decide +kernel
theorem dX4_judged_49 : decode cX4_judged 49 = .ok (.iastore, 1) := by decide +kernel
theorem dX4_judged_50 : decode cX4_judged 50 = .ok (.aload_n 0, 1) := by decide +kernel
theorem dX4_judged_51 : decode cX4_judged 51 = .ok (.getfield 47, 3) := by decide +kernel
theorem dX4_judged_54 : decode cX4_judged 54 = .ok (.iload_n 2, 1) := by decide +kernel
theorem dX4_judged_55 : decode cX4_judged 55 = .ok (.aload_n 0, 1) := by decide +kernel
theorem dX4_judged_56 : decode cX4_judged 56 = .ok (.getfield 53, 3) := by decide +kernel
theorem dX4_judged_59 : decode cX4_judged 59 = .ok (.iload_n 2, 1) := by decide +kernel
theorem dX4_judged_60 : decode cX4_judged 60 = .ok (.iconst 3, 1) := by decide +kernel
theorem dX4_judged_61 : decode cX4_judged 61 = .ok (.imul, 1) := by decide +kernel
theorem dX4_judged_62 : decode cX4_judged 62 = .ok (.iconst 2, 1) := by decide +kernel
theorem dX4_judged_63 : decode cX4_judged 63 = .ok (.iadd, 1) := by decide +kernel
theorem dX4_judged_64 : decode cX4_judged 64 = .ok (.iaload, 1) := by decide +kernel
theorem dX4_judged_65 : decode cX4_judged 65 = .ok (.iastore, 1) := by decide +kernel
theorem dX4_judged_66 : decode cX4_judged 66 = .ok (.aload_n 0, 1) := by decide +kernel
theorem dX4_judged_67 : decode cX4_judged 67 = .ok (.iload_n 2, 1) := by decide +kernel
theorem dX4_judged_68 : decode cX4_judged 68 = .ok (.invokevirtual 113, 3) := by decide +kernel
theorem dX4_judged_71 : decode cX4_judged 71 = .ok (.ifCond .ne 8, 3) := by decide +kernel
theorem dX4_judged_74 : decode cX4_judged 74 = .ok (.bipush (-100), 2) := by decide +kernel
theorem dX4_judged_76 : decode cX4_judged 76 = .ok (.iload_n 2, 1) := by decide +kernel
theorem dX4_judged_77 : decode cX4_judged 77 = .ok (.isub, 1) := by decide +kernel
theorem dX4_judged_78 : decode cX4_judged 78 = .ok (.ireturn, 1) := by decide +kernel
theorem dX4_judged_79 : decode cX4_judged 79 = .ok (.aload_n 0, 1) := by decide +kernel
theorem dX4_judged_80 : decode cX4_judged 80 = .ok (.iload_n 2, 1) := by decide +kernel
theorem dX4_judged_81 : decode cX4_judged 81 = .ok (.invokevirtual 91, 3) := by decide +kernel
theorem dX4_judged_84 : decode cX4_judged 84 = .ok (.iload_n 1, 1) := by decide +kernel
theorem dX4_judged_85 : decode cX4_judged 85 = .ok (.aload_n 0, 1) := by decide +kernel
theorem dX4_judged_86 : decode cX4_judged 86 = .ok (.getfield 41, 3) := by decide +kernel
theorem dX4_judged_89 : decode cX4_judged 89 = .ok (.iload_n 2, 1) := by decide +kernel
theorem dX4_judged_90 : decode cX4_judged 90 = .ok (.iaload, 1) := by decide +kernel
theorem dX4_judged_91 : decode cX4_judged 91 = .ok (.aload_n 0, 1) := by decide +kernel
theorem dX4_judged_92 : decode cX4_judged 92 = .ok (.getfield 34, 3) := by decide +kernel
theorem dX4_judged_95 : decode cX4_judged 95 = .ok (.iload_n 2, 1) := by decide +kernel
theorem dX4_judged_96 : decode cX4_judged 96 = .ok (.aaload, 1) := by decide +kernel
theorem dX4_judged_97 : decode cX4_judged 97 = .ok (.getfield 94, 3) := by decide +kernel
theorem dX4_judged_100 : decode cX4_judged 100 = .ok (.iadd, 1) := by decide +kernel
theorem dX4_judged_101 : decode cX4_judged 101 = .ok (.invokestatic 61, 3) := by decide +kernel
theorem dX4_judged_104 : decode cX4_judged 104 = .ok (.istore_n 1, 1) := by decide +kernel
theorem dX4_judged_105 : decode cX4_judged 105 = .ok (.iinc 2 1, 3) := by decide +kernel
theorem dX4_judged_108 : decode cX4_judged 108 = .ok (.goto (-96), 3) := by decide +kernel
theorem dX4_judged_111 : decode cX4_judged 111 = .ok (.iload_n 1, 1) := by decide +kernel
theorem dX4_judged_112 : decode cX4_judged 112 = .ok (.ireturn, 1) := by decide +kernel
set_option maxRecDepth 100000 in
set_option maxHeartbeats 4000000 in
theorem wp_X4_judged {n0 d : Nat} {K : z_K} {I : z_I} {L : z_L} {Q : z_q}  (hL : CLay K) (h : RM0 n0 xJ7_fill_53178 d [.ref (n0 + 30), .int 0] K I L (fun vv I1 L2 => vv = none ∧ Z n0 xX4_judged (d + 1) 0 0 12 [(0, .ref (n0 + 25)), (1, .int 0), (2, .int 0)] [] K I1 L2 (z_q0 K Q))) : RM0 n0 xX4_judged (d + 1) [.ref (n0 + 25)] K I L Q := by
  refine z_entry0 (by decide) (Nat.le_of_ble_eq_true rfl) ?_
  change Z n0 xX4_judged (d + 1) 0 0 0 [(0, .ref (n0 + 25))] [] K I L (z_q0 K Q)
  refine z_aload_n 0 dX4_judged_0 rfl ?_
  refine fg_4_38 (some 30) rfl dX4_judged_1 (co_25 hL).1 (co_25 hL).2 (ca_30 hL).1 ?_
  refine z_iconst 0 dX4_judged_4 (by decide) ?_
  refine z_callS0 (As := [.ref (n0 + 30), .int 0]) (st := []) dX4_judged_5 hy_J7_fill_53178 wg_1160 wg_775 (Nat.le_refl _) (Nat.le_of_ble_eq_true rfl) (RM0.mono h ?_)
  clear h
  intro vv I1 L2 h
  obtain ⟨rfl, h⟩ := h
  change Z n0 xX4_judged (d + 1) 0 0 8 [(0, .ref (n0 + 25))] [] K I1 L2 (z_q0 K Q)
  refine z_iconst 0 dX4_judged_8 (by decide) ?_
  refine z_istore_n [1, 0] [(0, .ref (n0 + 25)), (1, .int 0)] dX4_judged_9 (by decide) rfl ?_
  refine z_iconst 0 dX4_judged_10 (by decide) ?_
  refine z_istore_n [1, 2, 0] [(0, .ref (n0 + 25)), (1, .int 0), (2, .int 0)] dX4_judged_11 (by decide) rfl ?_
  exact h
set_option maxRecDepth 100000 in
set_option maxHeartbeats 4000000 in
theorem wp_X4_judged_12 {n0 d : Nat} {rc rs : Nat} {K : z_K} {I : z_I} {L : z_L} {Q : z_q} {a1 : Int32} {a2 : Int32} (hL : CLay K) (h : (if a2 < (I 25 4) then vp_in (a2 * 3) 12 ∧ vp_in a2 4 ∧ vp_in ((a2 * 3) + 1) 12 ∧ vp_in ((a2 * 3) + 2) 12 ∧ RM0 n0 xX4_liesWell d [.ref (n0 + 25), .int a2] K (zI (zI (zI I 31 a2.toNatClampNeg (I 35 ((a2 * 3).toNatClampNeg))) 32 a2.toNatClampNeg (I 35 (((a2 * 3) + 1).toNatClampNeg))) 33 a2.toNatClampNeg (I 35 (((a2 * 3) + 2).toNatClampNeg))) L (fun vv I6 L7 => ∃ r8 : Int32, vv = some (.int r8) ∧ (if r8 = 0 then Q (some (.int ((-100) - a2))) I6 L7 else RM0 n0 xX4_flip d [.ref (n0 + 25), .int a2] K I6 L7 (fun vv I10 L11 => vv = none ∧ (∃ q12, K.2.2 29 a2.toNatClampNeg = some q12 ∧ q12 < K.1 ∧ (K.2.1 q12).1 = 10 ∧ Z n0 xX4_judged (d + 1) rc rs 12 [(0, .ref (n0 + 25)), (1, .int (if a1 < ((I10 31 a2.toNatClampNeg) + (I10 q12 2)) then ((I10 31 a2.toNatClampNeg) + (I10 q12 2)) else a1)), (2, .int (a2 + 1))] [] K I10 L11 (z_q0 K Q))))) else Q (some (.int a1)) I L)) : Z n0 xX4_judged (d + 1) rc rs 12 [(0, .ref (n0 + 25)), (1, .int a1), (2, .int a2)] [] K I L (z_q0 K Q) := by
  refine z_iload_n 2 dX4_judged_12 rfl ?_
  refine z_aload_n 0 dX4_judged_13 rfl ?_
  refine fg_4_57 (I 25 4) rfl dX4_judged_14 (co_25 hL).1 (co_25 hL).2 rfl ?_
  refine z_icmp_ge 111 dX4_judged_17 (by decide) (fun g1 => ?_) (fun g1 => ?_)
  · rw [if_neg g1] at h
    refine z_iload_n 1 dX4_judged_111 rfl ?_
    exact z_iret dX4_judged_112 rfl ⟨rfl, h⟩
  · rw [if_pos g1] at h
    refine z_aload_n 0 dX4_judged_20 rfl ?_
    refine fg_4_41 (some 31) rfl dX4_judged_21 (co_25 hL).1 (co_25 hL).2 (ca_31 hL).1 ?_
    refine z_iload_n 2 dX4_judged_24 rfl ?_
    refine z_aload_n 0 dX4_judged_25 rfl ?_
    refine fg_4_53 (some 35) rfl dX4_judged_26 (co_25 hL).1 (co_25 hL).2 (ca_35 hL).1 ?_
    refine z_iload_n 2 dX4_judged_29 rfl ?_
    refine z_iconst 3 dX4_judged_30 (by decide) ?_
    refine z_imul dX4_judged_31 ?_
    obtain ⟨o2, h⟩ := h
    refine z_iald (I 35 ((a2 * 3).toNatClampNeg)) dX4_judged_32 (ca_35 hL).2.1 (ca_35 hL).2.2 o2 rfl ?_
    obtain ⟨o3, h⟩ := h
    refine z_iast dX4_judged_33 (ca_31 hL).2.1 (ca_31 hL).2.2 o3 ?_
    refine z_aload_n 0 dX4_judged_34 rfl ?_
    refine fg_4_44 (some 32) rfl dX4_judged_35 (co_25 hL).1 (co_25 hL).2 (ca_32 hL).1 ?_
    refine z_iload_n 2 dX4_judged_38 rfl ?_
    refine z_aload_n 0 dX4_judged_39 rfl ?_
    refine fg_4_53 (some 35) rfl dX4_judged_40 (co_25 hL).1 (co_25 hL).2 (ca_35 hL).1 ?_
    refine z_iload_n 2 dX4_judged_43 rfl ?_
    refine z_iconst 3 dX4_judged_44 (by decide) ?_
    refine z_imul dX4_judged_45 ?_
    refine z_iconst 1 dX4_judged_46 (by decide) ?_
    refine z_iadd dX4_judged_47 ?_
    obtain ⟨o4, h⟩ := h
    refine z_iald (I 35 (((a2 * 3) + 1).toNatClampNeg)) dX4_judged_48 (ca_35 hL).2.1 (ca_35 hL).2.2 o4 rfl ?_
    refine z_iast dX4_judged_49 (ca_32 hL).2.1 (ca_32 hL).2.2 o3 ?_
    refine z_aload_n 0 dX4_judged_50 rfl ?_
    refine fg_4_47 (some 33) rfl dX4_judged_51 (co_25 hL).1 (co_25 hL).2 (ca_33 hL).1 ?_
    refine z_iload_n 2 dX4_judged_54 rfl ?_
    refine z_aload_n 0 dX4_judged_55 rfl ?_
    refine fg_4_53 (some 35) rfl dX4_judged_56 (co_25 hL).1 (co_25 hL).2 (ca_35 hL).1 ?_
    refine z_iload_n 2 dX4_judged_59 rfl ?_
    refine z_iconst 3 dX4_judged_60 (by decide) ?_
    refine z_imul dX4_judged_61 ?_
    refine z_iconst 2 dX4_judged_62 (by decide) ?_
    refine z_iadd dX4_judged_63 ?_
    obtain ⟨o5, h⟩ := h
    refine z_iald (I 35 (((a2 * 3) + 2).toNatClampNeg)) dX4_judged_64 (ca_35 hL).2.1 (ca_35 hL).2.2 o5 rfl ?_
    refine z_iast dX4_judged_65 (ca_33 hL).2.1 (ca_33 hL).2.2 o3 ?_
    refine z_aload_n 0 dX4_judged_66 rfl ?_
    refine z_iload_n 2 dX4_judged_67 rfl ?_
    refine z_callV0 (As := [.int a2]) (st := []) dX4_judged_68 hy_X4_liesWell (co_25 hL).1 (co_25 hL).2 (by decide) wg_1206 wg_1208 wg_47 (Nat.le_refl _) (Nat.le_of_ble_eq_true rfl) (RM0.mono h ?_)
    clear h
    intro vv I6 L7 h
    obtain ⟨r8, rfl, h⟩ := h
    change Z n0 xX4_judged (d + 1) rc rs 71 [(0, .ref (n0 + 25)), (1, .int a1), (2, .int a2)] [.int r8] K I6 L7 (z_q0 K Q)
    refine z_if_ne 79 dX4_judged_71 (by decide) (fun g9 => ?_) (fun g9 => ?_)
    · rw [if_neg g9] at h
      refine z_aload_n 0 dX4_judged_79 rfl ?_
      refine z_iload_n 2 dX4_judged_80 rfl ?_
      refine z_callV0 (As := [.int a2]) (st := []) dX4_judged_81 hy_X4_flip (co_25 hL).1 (co_25 hL).2 (by decide) wg_1182 wg_1184 wg_46 (Nat.le_refl _) (Nat.le_of_ble_eq_true rfl) (RM0.mono h ?_)
      clear h
      intro vv I10 L11 h
      obtain ⟨rfl, h⟩ := h
      change Z n0 xX4_judged (d + 1) rc rs 84 [(0, .ref (n0 + 25)), (1, .int a1), (2, .int a2)] [] K I10 L11 (z_q0 K Q)
      refine z_iload_n 1 dX4_judged_84 rfl ?_
      refine z_aload_n 0 dX4_judged_85 rfl ?_
      refine fg_4_41 (some 31) rfl dX4_judged_86 (co_25 hL).1 (co_25 hL).2 (ca_31 hL).1 ?_
      refine z_iload_n 2 dX4_judged_89 rfl ?_
      refine z_iald (I10 31 a2.toNatClampNeg) dX4_judged_90 (ca_31 hL).2.1 (ca_31 hL).2.2 o3 rfl ?_
      refine z_aload_n 0 dX4_judged_91 rfl ?_
      refine fg_4_34 (some 29) rfl dX4_judged_92 (co_25 hL).1 (co_25 hL).2 (ca_29 hL).1 ?_
      refine z_iload_n 2 dX4_judged_95 rfl ?_
      obtain ⟨q12, q12e, h⟩ := h
      refine z_aald (some q12) dX4_judged_96 (ca_29 hL).2.1 (ca_29 hL).2.2 (by unfold z_rt; decide) o3 q12e ?_
      obtain ⟨o13, o14, h⟩ := h
      refine fg_4_94 (I10 q12 2) rfl dX4_judged_97 o13 o14 rfl ?_
      refine z_iadd dX4_judged_100 ?_
      refine z_mmax dX4_judged_101 wg_1173 (by omega) (Nat.le_of_ble_eq_true rfl) ?_
      refine z_istore_n [1, 0, 2] [(0, .ref (n0 + 25)), (1, .int (if a1 < ((I10 31 a2.toNatClampNeg) + (I10 q12 2)) then ((I10 31 a2.toNatClampNeg) + (I10 q12 2)) else a1)), (2, .int a2)] dX4_judged_104 (by decide) rfl ?_
      refine z_iinc (j := 2) (a2 + 1) [1, 2, 0] [(0, .ref (n0 + 25)), (1, .int (if a1 < ((I10 31 a2.toNatClampNeg) + (I10 q12 2)) then ((I10 31 a2.toNatClampNeg) + (I10 q12 2)) else a1)), (2, .int (a2 + 1))] dX4_judged_105 rfl rfl (by decide) rfl ?_
      refine z_goto 12 dX4_judged_108 (by decide) ?_
      exact h
    · rw [if_pos g9] at h
      refine z_bipush (-100) dX4_judged_74 (by decide) ?_
      refine z_iload_n 2 dX4_judged_76 rfl ?_
      refine z_isub dX4_judged_77 ?_
      exact z_iret dX4_judged_78 rfl ⟨rfl, h⟩
theorem dX4_liesWell_0 : decode cX4_liesWell 0 = .ok (.aload_n 0, 1) := by decide +kernel
theorem dX4_liesWell_1 : decode cX4_liesWell 1 = .ok (.getfield 47, 3) := by decide +kernel
theorem dX4_liesWell_4 : decode cX4_liesWell 4 = .ok (.iload_n 1, 1) := by decide +kernel
theorem dX4_liesWell_5 : decode cX4_liesWell 5 = .ok (.iaload, 1) := by decide +kernel
theorem dX4_liesWell_6 : decode cX4_liesWell 6 = .ok (.iconst 1, 1) := by decide +kernel
theorem dX4_liesWell_7 : decode cX4_liesWell 7 = .ok (.if_icmp .gt 23, 3) := by decide +kernel
theorem dX4_liesWell_10 : decode cX4_liesWell 10 = .ok (.aload_n 0, 1) := by decide +kernel
theorem dX4_liesWell_11 : decode cX4_liesWell 11 = .ok (.getfield 47, 3) := by decide +kernel
theorem dX4_liesWell_14 : decode cX4_liesWell 14 = .ok (.iload_n 1, 1) := by decide +kernel
theorem dX4_liesWell_15 : decode cX4_liesWell 15 = .ok (.iaload, 1) := by decide +kernel
theorem dX4_liesWell_16 : decode cX4_liesWell 16 = .ok (.iconst 1, 1) := by decide +kernel
theorem dX4_liesWell_17 : decode cX4_liesWell 17 = .ok (.if_icmp .ne 15, 3) := by decide +kernel
theorem dX4_liesWell_20 : decode cX4_liesWell 20 = .ok (.aload_n 0, 1) := by decide +kernel
theorem dX4_liesWell_21 : decode cX4_liesWell 21 = .ok (.getfield 18, 3) := by decide +kernel
theorem dX4_liesWell_24 : decode cX4_liesWell 24 = .ok (.iconst 2, 1) := by decide +kernel
theorem dX4_liesWell_25 : decode cX4_liesWell 25 = .ok (.iaload, 1) := by decide +kernel
theorem dX4_liesWell_26 : decode cX4_liesWell 26 = .ok (.iconst 1, 1) := by decide +kernel
theorem dX4_liesWell_27 : decode cX4_liesWell 27 = .ok (.if_icmp .ne 5, 3) := by decide +kernel
theorem dX4_liesWell_30 : decode cX4_liesWell 30 = .ok (.iconst 0, 1) := by decide +kernel
theorem dX4_liesWell_31 : decode cX4_liesWell 31 = .ok (.ireturn, 1) := by decide +kernel
theorem dX4_liesWell_32 : decode cX4_liesWell 32 = .ok (.aload_n 0, 1) := by decide +kernel
theorem dX4_liesWell_33 : decode cX4_liesWell 33 = .ok (.getfield 41, 3) := by decide +kernel
theorem dX4_liesWell_36 : decode cX4_liesWell 36 = .ok (.iload_n 1, 1) := by decide +kernel
theorem dX4_liesWell_37 : decode cX4_liesWell 37 = .ok (.iaload, 1) := by decide +kernel
theorem dX4_liesWell_38 : decode cX4_liesWell 38 = .ok (.aload_n 0, 1) := by decide +kernel
theorem dX4_liesWell_39 : decode cX4_liesWell 39 = .ok (.getfield 34, 3) := by decide +kernel
theorem dX4_liesWell_42 : decode cX4_liesWell 42 = .ok (.iload_n 1, 1) := by decide +kernel
theorem dX4_liesWell_43 : decode cX4_liesWell 43 = .ok (.aaload, 1) := by decide +kernel
theorem dX4_liesWell_44 : decode cX4_liesWell 44 = .ok (.getfield 94, 3) := by decide +kernel
theorem dX4_liesWell_47 : decode cX4_liesWell 47 = .ok (.iadd, 1) := by decide +kernel
theorem dX4_liesWell_48 : decode cX4_liesWell 48 = .ok (.bipush 96, 2) := by decide +kernel
theorem dX4_liesWell_50 : decode cX4_liesWell 50 = .ok (.if_icmp .le 5, 3) := by decide +kernel
theorem dX4_liesWell_53 : decode cX4_liesWell 53 = .ok (.iconst 0, 1) := by decide +kernel
theorem dX4_liesWell_54 : decode cX4_liesWell 54 = .ok (.ireturn, 1) := by decide +kernel
theorem dX4_liesWell_55 : decode cX4_liesWell 55 = .ok (.aload_n 0, 1) := by decide +kernel
theorem dX4_liesWell_56 : decode cX4_liesWell 56 = .ok (.getfield 44, 3) := by decide +kernel
theorem dX4_liesWell_59 : decode cX4_liesWell 59 = .ok (.iload_n 1, 1) := by decide +kernel
theorem dX4_liesWell_60 : decode cX4_liesWell 60 = .ok (.iaload, 1) := by decide +kernel
theorem dX4_liesWell_61 : decode cX4_liesWell 61 = .ok (.aload_n 0, 1) := by decide +kernel
theorem dX4_liesWell_62 : decode cX4_liesWell 62 = .ok (.getfield 34, 3) := by decide +kernel
theorem dX4_liesWell_65 : decode cX4_liesWell 65 = .ok (.iload_n 1, 1) := by decide +kernel
theorem dX4_liesWell_66 : decode cX4_liesWell 66 = .ok (.aaload, 1) := by decide +kernel
theorem dX4_liesWell_67 : decode cX4_liesWell 67 = .ok (.getfield 97, 3) := by decide +kernel
theorem dX4_liesWell_70 : decode cX4_liesWell 70 = .ok (.iadd, 1) := by decide +kernel
theorem dX4_liesWell_71 : decode cX4_liesWell 71 = .ok (.aload_n 0, 1) := by decide +kernel
theorem dX4_liesWell_72 : decode cX4_liesWell 72 = .ok (.getfield 18, 3) := by decide +kernel
theorem dX4_liesWell_75 : decode cX4_liesWell 75 = .ok (.iconst 0, 1) := by decide +kernel
theorem dX4_liesWell_76 : decode cX4_liesWell 76 = .ok (.iaload, 1) := by decide +kernel
theorem dX4_liesWell_77 : decode cX4_liesWell 77 = .ok (.if_icmp .le 5, 3) := by decide +kernel
theorem dX4_liesWell_80 : decode cX4_liesWell 80 = .ok (.iconst 0, 1) := by decide +kernel
theorem dX4_liesWell_81 : decode cX4_liesWell 81 = .ok (.ireturn, 1) := by decide +kernel
theorem dX4_liesWell_82 : decode cX4_liesWell 82 = .ok (.aload_n 0, 1) := by decide +kernel
theorem dX4_liesWell_83 : decode cX4_liesWell 83 = .ok (.getfield 41, 3) := by decide +kernel
theorem dX4_liesWell_86 : decode cX4_liesWell 86 = .ok (.iload_n 1, 1) := by decide +kernel
theorem dX4_liesWell_87 : decode cX4_liesWell 87 = .ok (.iaload, 1) := by decide +kernel
theorem dX4_liesWell_88 : decode cX4_liesWell 88 = .ok (.iconst 1, 1) := by decide +kernel
theorem dX4_liesWell_89 : decode cX4_liesWell 89 = .ok (.aload_n 0, 1) := by decide +kernel
theorem dX4_liesWell_90 : decode cX4_liesWell 90 = .ok (.getfield 18, 3) := by decide +kernel
theorem dX4_liesWell_93 : decode cX4_liesWell 93 = .ok (.iconst 3, 1) := by decide +kernel
theorem dX4_liesWell_94 : decode cX4_liesWell 94 = .ok (.iaload, 1) := by decide +kernel
theorem dX4_liesWell_95 : decode cX4_liesWell 95 = .ok (.invokestatic 61, 3) := by decide +kernel
theorem dX4_liesWell_98 : decode cX4_liesWell 98 = .ok (.irem, 1) := by decide +kernel
theorem dX4_liesWell_99 : decode cX4_liesWell 99 = .ok (.ifCond .eq 5, 3) := by decide +kernel
theorem dX4_liesWell_102 : decode cX4_liesWell 102 = .ok (.iconst 0, 1) := by decide +kernel
theorem dX4_liesWell_103 : decode cX4_liesWell 103 = .ok (.ireturn, 1) := by decide +kernel
theorem dX4_liesWell_104 : decode cX4_liesWell 104 = .ok (.aload_n 0, 1) := by decide +kernel
theorem dX4_liesWell_105 : decode cX4_liesWell 105 = .ok (.iload_n 1, 1) := by decide +kernel
theorem dX4_liesWell_106 : decode cX4_liesWell 106 = .ok (.invokevirtual 100, 3) := by decide +kernel
theorem dX4_liesWell_109 : decode cX4_liesWell 109 = .ok (.ireturn, 1) := by decide +kernel
set_option maxRecDepth 100000 in
set_option maxHeartbeats 4000000 in
theorem wp_X4_liesWell {n0 d : Nat} {K : z_K} {I : z_I} {L : z_L} {Q : z_q} {p0 : Int32} (hL : CLay K) (h : vp_in p0 4 ∧ (if 1 < ((I 33 p0.toNatClampNeg) : Int32) then Q (some (.int 0)) I L else (if ((I 33 p0.toNatClampNeg) : Int32) = 1 then (if ((I 26 2) : Int32) = 1 then Q (some (.int 0)) I L else (∃ q16, K.2.2 29 p0.toNatClampNeg = some q16 ∧ q16 < K.1 ∧ (K.2.1 q16).1 = 10 ∧ (if 96 < (((I 31 p0.toNatClampNeg) + (I q16 2)) : Int32) then Q (some (.int 0)) I L else (if (I 26 0) < (((I 32 p0.toNatClampNeg) + (I q16 3)) : Int32) then Q (some (.int 0)) I L else ¬ ((if 1 < (I 26 3) then (I 26 3) else 1) : Int32) = 0 ∧ (if (((I 31 p0.toNatClampNeg) - (I 31 p0.toNatClampNeg) / (if 1 < (I 26 3) then (I 26 3) else 1) * (if 1 < (I 26 3) then (I 26 3) else 1)) : Int32) = 0 then RM0 n0 xX4_isFree d [.ref (n0 + 25), .int p0] K I L (fun vv I23 L24 => ∃ r25 : Int32, vv = some (.int r25) ∧ z_b r25 ∧ Q (some (.int r25)) I23 L24) else Q (some (.int 0)) I L))))) else (∃ q4, K.2.2 29 p0.toNatClampNeg = some q4 ∧ q4 < K.1 ∧ (K.2.1 q4).1 = 10 ∧ (if 96 < (((I 31 p0.toNatClampNeg) + (I q4 2)) : Int32) then Q (some (.int 0)) I L else (if (I 26 0) < (((I 32 p0.toNatClampNeg) + (I q4 3)) : Int32) then Q (some (.int 0)) I L else ¬ ((if 1 < (I 26 3) then (I 26 3) else 1) : Int32) = 0 ∧ (if (((I 31 p0.toNatClampNeg) - (I 31 p0.toNatClampNeg) / (if 1 < (I 26 3) then (I 26 3) else 1) * (if 1 < (I 26 3) then (I 26 3) else 1)) : Int32) = 0 then RM0 n0 xX4_isFree d [.ref (n0 + 25), .int p0] K I L (fun vv I11 L12 => ∃ r13 : Int32, vv = some (.int r13) ∧ z_b r13 ∧ Q (some (.int r13)) I11 L12) else Q (some (.int 0)) I L))))))) : RM0 n0 xX4_liesWell (d + 1) [.ref (n0 + 25), .int p0] K I L Q := by
  refine z_entry0 (by decide) (Nat.le_of_ble_eq_true rfl) ?_
  change Z n0 xX4_liesWell (d + 1) 0 0 0 [(0, .ref (n0 + 25)), (1, .int p0)] [] K I L (z_q0 K Q)
  refine z_aload_n 0 dX4_liesWell_0 rfl ?_
  refine fg_4_47 (some 33) rfl dX4_liesWell_1 (co_25 hL).1 (co_25 hL).2 (ca_33 hL).1 ?_
  refine z_iload_n 1 dX4_liesWell_4 rfl ?_
  obtain ⟨o1, h⟩ := h
  refine z_iald (I 33 p0.toNatClampNeg) dX4_liesWell_5 (ca_33 hL).2.1 (ca_33 hL).2.2 o1 rfl ?_
  refine z_iconst 1 dX4_liesWell_6 (by decide) ?_
  refine z_icmp_gt 30 dX4_liesWell_7 (by decide) (fun g2 => ?_) (fun g2 => ?_)
  · rw [if_pos g2] at h
    refine z_iconst 0 dX4_liesWell_30 (by decide) ?_
    exact z_zretb dX4_liesWell_31 rfl (Or.inl rfl) ⟨rfl, h⟩
  · rw [if_neg g2] at h
    refine z_aload_n 0 dX4_liesWell_10 rfl ?_
    refine fg_4_47 (some 33) rfl dX4_liesWell_11 (co_25 hL).1 (co_25 hL).2 (ca_33 hL).1 ?_
    refine z_iload_n 1 dX4_liesWell_14 rfl ?_
    refine z_iald (I 33 p0.toNatClampNeg) dX4_liesWell_15 (ca_33 hL).2.1 (ca_33 hL).2.2 o1 rfl ?_
    refine z_iconst 1 dX4_liesWell_16 (by decide) ?_
    refine z_icmp_ne 32 dX4_liesWell_17 (by decide) (fun g3 => ?_) (fun g3 => ?_)
    · rw [if_neg g3] at h
      refine z_aload_n 0 dX4_liesWell_32 rfl ?_
      refine fg_4_41 (some 31) rfl dX4_liesWell_33 (co_25 hL).1 (co_25 hL).2 (ca_31 hL).1 ?_
      refine z_iload_n 1 dX4_liesWell_36 rfl ?_
      refine z_iald (I 31 p0.toNatClampNeg) dX4_liesWell_37 (ca_31 hL).2.1 (ca_31 hL).2.2 o1 rfl ?_
      refine z_aload_n 0 dX4_liesWell_38 rfl ?_
      refine fg_4_34 (some 29) rfl dX4_liesWell_39 (co_25 hL).1 (co_25 hL).2 (ca_29 hL).1 ?_
      refine z_iload_n 1 dX4_liesWell_42 rfl ?_
      obtain ⟨q4, q4e, h⟩ := h
      refine z_aald (some q4) dX4_liesWell_43 (ca_29 hL).2.1 (ca_29 hL).2.2 (by unfold z_rt; decide) o1 q4e ?_
      obtain ⟨o5, o6, h⟩ := h
      refine fg_4_94 (I q4 2) rfl dX4_liesWell_44 o5 o6 rfl ?_
      refine z_iadd dX4_liesWell_47 ?_
      refine z_bipush 96 dX4_liesWell_48 (by decide) ?_
      refine z_icmp_le 55 dX4_liesWell_50 (by decide) (fun g7 => ?_) (fun g7 => ?_)
      · rw [if_neg g7] at h
        refine z_aload_n 0 dX4_liesWell_55 rfl ?_
        refine fg_4_44 (some 32) rfl dX4_liesWell_56 (co_25 hL).1 (co_25 hL).2 (ca_32 hL).1 ?_
        refine z_iload_n 1 dX4_liesWell_59 rfl ?_
        refine z_iald (I 32 p0.toNatClampNeg) dX4_liesWell_60 (ca_32 hL).2.1 (ca_32 hL).2.2 o1 rfl ?_
        refine z_aload_n 0 dX4_liesWell_61 rfl ?_
        refine fg_4_34 (some 29) rfl dX4_liesWell_62 (co_25 hL).1 (co_25 hL).2 (ca_29 hL).1 ?_
        refine z_iload_n 1 dX4_liesWell_65 rfl ?_
        refine z_aald (some q4) dX4_liesWell_66 (ca_29 hL).2.1 (ca_29 hL).2.2 (by unfold z_rt; decide) o1 q4e ?_
        refine fg_4_97 (I q4 3) rfl dX4_liesWell_67 o5 o6 rfl ?_
        refine z_iadd dX4_liesWell_70 ?_
        refine z_aload_n 0 dX4_liesWell_71 rfl ?_
        refine fg_4_18 (some 26) rfl dX4_liesWell_72 (co_25 hL).1 (co_25 hL).2 (ca_26 hL).1 ?_
        refine z_iconst 0 dX4_liesWell_75 (by decide) ?_
        refine z_iald (I 26 0) dX4_liesWell_76 (ca_26 hL).2.1 (ca_26 hL).2.2 (by unfold vp_in; decide) rfl ?_
        refine z_icmp_le 82 dX4_liesWell_77 (by decide) (fun g8 => ?_) (fun g8 => ?_)
        · rw [if_neg g8] at h
          refine z_aload_n 0 dX4_liesWell_82 rfl ?_
          refine fg_4_41 (some 31) rfl dX4_liesWell_83 (co_25 hL).1 (co_25 hL).2 (ca_31 hL).1 ?_
          refine z_iload_n 1 dX4_liesWell_86 rfl ?_
          refine z_iald (I 31 p0.toNatClampNeg) dX4_liesWell_87 (ca_31 hL).2.1 (ca_31 hL).2.2 o1 rfl ?_
          refine z_iconst 1 dX4_liesWell_88 (by decide) ?_
          refine z_aload_n 0 dX4_liesWell_89 rfl ?_
          refine fg_4_18 (some 26) rfl dX4_liesWell_90 (co_25 hL).1 (co_25 hL).2 (ca_26 hL).1 ?_
          refine z_iconst 3 dX4_liesWell_93 (by decide) ?_
          refine z_iald (I 26 3) dX4_liesWell_94 (ca_26 hL).2.1 (ca_26 hL).2.2 (by unfold vp_in; decide) rfl ?_
          refine z_mmax dX4_liesWell_95 wg_1173 (by omega) (Nat.le_of_ble_eq_true rfl) ?_
          obtain ⟨o9, h⟩ := h
          refine z_irem dX4_liesWell_98 o9 ?_
          refine z_if_eq 104 dX4_liesWell_99 (by decide) (fun g10 => ?_) (fun g10 => ?_)
          · rw [if_pos g10] at h
            refine z_aload_n 0 dX4_liesWell_104 rfl ?_
            refine z_iload_n 1 dX4_liesWell_105 rfl ?_
            refine z_callV0 (As := [.int p0]) (st := []) dX4_liesWell_106 hy_X4_isFree (co_25 hL).1 (co_25 hL).2 (by decide) wg_1174 wg_1176 wg_44 (Nat.le_refl _) (Nat.le_of_ble_eq_true rfl) (RM0.mono h ?_)
            clear h
            intro vv I11 L12 h
            obtain ⟨r13, rfl, h⟩ := h
            change Z n0 xX4_liesWell (d + 1) 0 0 109 [(0, .ref (n0 + 25)), (1, .int p0)] [.int r13] K I11 L12 (z_q0 K Q)
            obtain ⟨o14, h⟩ := h
            exact z_zretb dX4_liesWell_109 rfl o14 ⟨rfl, h⟩
          · rw [if_neg g10] at h
            refine z_iconst 0 dX4_liesWell_102 (by decide) ?_
            exact z_zretb dX4_liesWell_103 rfl (Or.inl rfl) ⟨rfl, h⟩
        · rw [if_pos g8] at h
          refine z_iconst 0 dX4_liesWell_80 (by decide) ?_
          exact z_zretb dX4_liesWell_81 rfl (Or.inl rfl) ⟨rfl, h⟩
      · rw [if_pos g7] at h
        refine z_iconst 0 dX4_liesWell_53 (by decide) ?_
        exact z_zretb dX4_liesWell_54 rfl (Or.inl rfl) ⟨rfl, h⟩
    · rw [if_pos g3] at h
      refine z_aload_n 0 dX4_liesWell_20 rfl ?_
      refine fg_4_18 (some 26) rfl dX4_liesWell_21 (co_25 hL).1 (co_25 hL).2 (ca_26 hL).1 ?_
      refine z_iconst 2 dX4_liesWell_24 (by decide) ?_
      refine z_iald (I 26 2) dX4_liesWell_25 (ca_26 hL).2.1 (ca_26 hL).2.2 (by unfold vp_in; decide) rfl ?_
      refine z_iconst 1 dX4_liesWell_26 (by decide) ?_
      refine z_icmp_ne 32 dX4_liesWell_27 (by decide) (fun g15 => ?_) (fun g15 => ?_)
      · rw [if_neg g15] at h
        refine z_aload_n 0 dX4_liesWell_32 rfl ?_
        refine fg_4_41 (some 31) rfl dX4_liesWell_33 (co_25 hL).1 (co_25 hL).2 (ca_31 hL).1 ?_
        refine z_iload_n 1 dX4_liesWell_36 rfl ?_
        refine z_iald (I 31 p0.toNatClampNeg) dX4_liesWell_37 (ca_31 hL).2.1 (ca_31 hL).2.2 o1 rfl ?_
        refine z_aload_n 0 dX4_liesWell_38 rfl ?_
        refine fg_4_34 (some 29) rfl dX4_liesWell_39 (co_25 hL).1 (co_25 hL).2 (ca_29 hL).1 ?_
        refine z_iload_n 1 dX4_liesWell_42 rfl ?_
        obtain ⟨q16, q16e, h⟩ := h
        refine z_aald (some q16) dX4_liesWell_43 (ca_29 hL).2.1 (ca_29 hL).2.2 (by unfold z_rt; decide) o1 q16e ?_
        obtain ⟨o17, o18, h⟩ := h
        refine fg_4_94 (I q16 2) rfl dX4_liesWell_44 o17 o18 rfl ?_
        refine z_iadd dX4_liesWell_47 ?_
        refine z_bipush 96 dX4_liesWell_48 (by decide) ?_
        refine z_icmp_le 55 dX4_liesWell_50 (by decide) (fun g19 => ?_) (fun g19 => ?_)
        · rw [if_neg g19] at h
          refine z_aload_n 0 dX4_liesWell_55 rfl ?_
          refine fg_4_44 (some 32) rfl dX4_liesWell_56 (co_25 hL).1 (co_25 hL).2 (ca_32 hL).1 ?_
          refine z_iload_n 1 dX4_liesWell_59 rfl ?_
          refine z_iald (I 32 p0.toNatClampNeg) dX4_liesWell_60 (ca_32 hL).2.1 (ca_32 hL).2.2 o1 rfl ?_
          refine z_aload_n 0 dX4_liesWell_61 rfl ?_
          refine fg_4_34 (some 29) rfl dX4_liesWell_62 (co_25 hL).1 (co_25 hL).2 (ca_29 hL).1 ?_
          refine z_iload_n 1 dX4_liesWell_65 rfl ?_
          refine z_aald (some q16) dX4_liesWell_66 (ca_29 hL).2.1 (ca_29 hL).2.2 (by unfold z_rt; decide) o1 q16e ?_
          refine fg_4_97 (I q16 3) rfl dX4_liesWell_67 o17 o18 rfl ?_
          refine z_iadd dX4_liesWell_70 ?_
          refine z_aload_n 0 dX4_liesWell_71 rfl ?_
          refine fg_4_18 (some 26) rfl dX4_liesWell_72 (co_25 hL).1 (co_25 hL).2 (ca_26 hL).1 ?_
          refine z_iconst 0 dX4_liesWell_75 (by decide) ?_
          refine z_iald (I 26 0) dX4_liesWell_76 (ca_26 hL).2.1 (ca_26 hL).2.2 (by unfold vp_in; decide) rfl ?_
          refine z_icmp_le 82 dX4_liesWell_77 (by decide) (fun g20 => ?_) (fun g20 => ?_)
          · rw [if_neg g20] at h
            refine z_aload_n 0 dX4_liesWell_82 rfl ?_
            refine fg_4_41 (some 31) rfl dX4_liesWell_83 (co_25 hL).1 (co_25 hL).2 (ca_31 hL).1 ?_
            refine z_iload_n 1 dX4_liesWell_86 rfl ?_
            refine z_iald (I 31 p0.toNatClampNeg) dX4_liesWell_87 (ca_31 hL).2.1 (ca_31 hL).2.2 o1 rfl ?_
            refine z_iconst 1 dX4_liesWell_88 (by decide) ?_
            refine z_aload_n 0 dX4_liesWell_89 rfl ?_
            refine fg_4_18 (some 26) rfl dX4_liesWell_90 (co_25 hL).1 (co_25 hL).2 (ca_26 hL).1 ?_
            refine z_iconst 3 dX4_liesWell_93 (by decide) ?_
            refine z_iald (I 26 3) dX4_liesWell_94 (ca_26 hL).2.1 (ca_26 hL).2.2 (by unfold vp_in; decide) rfl ?_
            refine z_mmax dX4_liesWell_95 wg_1173 (by omega) (Nat.le_of_ble_eq_true rfl) ?_
            obtain ⟨o21, h⟩ := h
            refine z_irem dX4_liesWell_98 o21 ?_
            refine z_if_eq 104 dX4_liesWell_99 (by decide) (fun g22 => ?_) (fun g22 => ?_)
            · rw [if_pos g22] at h
              refine z_aload_n 0 dX4_liesWell_104 rfl ?_
              refine z_iload_n 1 dX4_liesWell_105 rfl ?_
              refine z_callV0 (As := [.int p0]) (st := []) dX4_liesWell_106 hy_X4_isFree (co_25 hL).1 (co_25 hL).2 (by decide) wg_1174 wg_1176 wg_44 (Nat.le_refl _) (Nat.le_of_ble_eq_true rfl) (RM0.mono h ?_)
              clear h
              intro vv I23 L24 h
              obtain ⟨r25, rfl, h⟩ := h
              change Z n0 xX4_liesWell (d + 1) 0 0 109 [(0, .ref (n0 + 25)), (1, .int p0)] [.int r25] K I23 L24 (z_q0 K Q)
              obtain ⟨o26, h⟩ := h
              exact z_zretb dX4_liesWell_109 rfl o26 ⟨rfl, h⟩
            · rw [if_neg g22] at h
              refine z_iconst 0 dX4_liesWell_102 (by decide) ?_
              exact z_zretb dX4_liesWell_103 rfl (Or.inl rfl) ⟨rfl, h⟩
          · rw [if_pos g20] at h
            refine z_iconst 0 dX4_liesWell_80 (by decide) ?_
            exact z_zretb dX4_liesWell_81 rfl (Or.inl rfl) ⟨rfl, h⟩
        · rw [if_pos g19] at h
          refine z_iconst 0 dX4_liesWell_53 (by decide) ?_
          exact z_zretb dX4_liesWell_54 rfl (Or.inl rfl) ⟨rfl, h⟩
      · rw [if_pos g15] at h
        refine z_iconst 0 dX4_liesWell_30 (by decide) ?_
        exact z_zretb dX4_liesWell_31 rfl (Or.inl rfl) ⟨rfl, h⟩
theorem dX5_lends_0 : decode cX5_lends 0 = .ok (.aload_n 0, 1) := by decide +kernel
theorem dX5_lends_1 : decode cX5_lends 1 = .ok (.getfield 15, 3) := by decide +kernel
theorem dX5_lends_4 : decode cX5_lends 4 = .ok (.ifCond .eq 11, 3) := by decide +kernel
theorem dX5_lends_7 : decode cX5_lends 7 = .ok (.aload_n 0, 1) := by decide +kernel
theorem dX5_lends_8 : decode cX5_lends 8 = .ok (.getfield 15, 3) := by decide +kernel
theorem dX5_lends_11 : decode cX5_lends 11 = .ok (.iconst 3, 1) := by decide +kernel
theorem dX5_lends_12 : decode cX5_lends 12 = .ok (.if_icmp .ne 7, 3) := by decide +kernel
theorem dX5_lends_15 : decode cX5_lends 15 = .ok (.iconst 1, 1) := by decide +kernel
theorem dX5_lends_16 : decode cX5_lends 16 = .ok (.goto 4, 3) := by decide +kernel
theorem dX5_lends_19 : decode cX5_lends 19 = .ok (.iconst 0, 1) := by decide +kernel
theorem dX5_lends_20 : decode cX5_lends 20 = .ok (.ireturn, 1) := by decide +kernel
set_option maxRecDepth 100000 in
set_option maxHeartbeats 4000000 in
theorem wp_X5_lends {n0 d : Nat} {K : z_K} {I : z_I} {L : z_L} {Q : z_q} {o0 : Nat} (h : o0 < K.1 ∧ (K.2.1 o0).1 = 5 ∧ Q (some (.int (if ((I o0 1) : Int32) = 0 then 1 else if ((I o0 1) : Int32) = 3 then 1 else 0))) I L) : RM0 n0 xX5_lends d [.ref (n0 + o0)] K I L Q := by
  refine z_entry0 (by decide) (Nat.le_of_ble_eq_true rfl) ?_
  change Z n0 xX5_lends d 0 0 0 [(0, .ref (n0 + o0))] [] K I L (z_q0 K Q)
  refine z_aload_n 0 dX5_lends_0 rfl ?_
  obtain ⟨o1, o2, h⟩ := h
  refine fg_5_15 (I o0 1) rfl dX5_lends_1 o1 o2 rfl ?_
  have key5 : Z n0 xX5_lends d 0 0 20 [] [.int (if ((I o0 1) : Int32) = 0 then 1 else if ((I o0 1) : Int32) = 3 then 1 else 0)] K I L (z_q0 K Q) := by
    exact z_zretb dX5_lends_20 rfl (z_bite (by repeat' (first | exact Or.inl rfl | exact Or.inr rfl | split))) ⟨rfl, h⟩
  refine z_if_eq 15 dX5_lends_4 (by decide) (fun g3 => ?_) (fun g3 => ?_)
  · refine z_iconst 1 dX5_lends_15 (by decide) ?_
    refine z_goto 20 dX5_lends_16 (by decide) ?_
    have ee : ((if ((I o0 1) : Int32) = 0 then 1 else if ((I o0 1) : Int32) = 3 then 1 else 0) : Int32) = 1 := by rw [if_pos g3]
    rw [ee] at key5
    clear ee
    refine z_sub [] rfl ?_
    exact key5
  · refine z_aload_n 0 dX5_lends_7 rfl ?_
    refine fg_5_15 (I o0 1) rfl dX5_lends_8 o1 o2 rfl ?_
    refine z_iconst 3 dX5_lends_11 (by decide) ?_
    refine z_icmp_ne 19 dX5_lends_12 (by decide) (fun g4 => ?_) (fun g4 => ?_)
    · refine z_iconst 0 dX5_lends_19 (by decide) ?_
      have ee : ((if ((I o0 1) : Int32) = 0 then 1 else if ((I o0 1) : Int32) = 3 then 1 else 0) : Int32) = 0 := by rw [if_neg g3, if_neg g4]
      rw [ee] at key5
      clear ee
      refine z_sub [] rfl ?_
      exact key5
    · refine z_iconst 1 dX5_lends_15 (by decide) ?_
      refine z_goto 20 dX5_lends_16 (by decide) ?_
      have ee : ((if ((I o0 1) : Int32) = 0 then 1 else if ((I o0 1) : Int32) = 3 then 1 else 0) : Int32) = 1 := by rw [if_neg g3, if_pos g4]
      rw [ee] at key5
      clear ee
      refine z_sub [] rfl ?_
      exact key5
theorem dX5_has_0 : decode cX5_has 0 = .ok (.iload_n 1, 1) := by decide +kernel
theorem dX5_has_1 : decode cX5_has 1 = .ok (.ifCond .lt 15, 3) := by decide +kernel
theorem dX5_has_4 : decode cX5_has 4 = .ok (.iload_n 1, 1) := by decide +kernel
theorem dX5_has_5 : decode cX5_has 5 = .ok (.aload_n 0, 1) := by decide +kernel
theorem dX5_has_6 : decode cX5_has 6 = .ok (.getfield 18, 3) := by decide +kernel
theorem dX5_has_9 : decode cX5_has 9 = .ok (.if_icmp .ge 7, 3) := by decide +kernel
theorem dX5_has_12 : decode cX5_has 12 = .ok (.iconst 1, 1) := by decide +kernel
theorem dX5_has_13 : decode cX5_has 13 = .ok (.goto 4, 3) := by decide +kernel
theorem dX5_has_16 : decode cX5_has 16 = .ok (.iconst 0, 1) := by decide +kernel
theorem dX5_has_17 : decode cX5_has 17 = .ok (.ireturn, 1) := by decide +kernel
set_option maxRecDepth 100000 in
set_option maxHeartbeats 4000000 in
theorem wp_X5_has {n0 d : Nat} {K : z_K} {I : z_I} {L : z_L} {Q : z_q} {o0 : Nat} {p0 : Int32} (h : (¬ (p0 < 0) → o0 < K.1) ∧ (¬ (p0 < 0) → (K.2.1 o0).1 = 5) ∧ Q (some (.int (if p0 < 0 then 0 else if p0 < (I o0 2) then 1 else 0))) I L) : RM0 n0 xX5_has d [.ref (n0 + o0), .int p0] K I L Q := by
  refine z_entry0 (by decide) (Nat.le_of_ble_eq_true rfl) ?_
  change Z n0 xX5_has d 0 0 0 [(0, .ref (n0 + o0)), (1, .int p0)] [] K I L (z_q0 K Q)
  refine z_iload_n 1 dX5_has_0 rfl ?_
  obtain ⟨o2, o3, h⟩ := h
  have key5 : Z n0 xX5_has d 0 0 17 [] [.int (if p0 < 0 then 0 else if p0 < (I o0 2) then 1 else 0)] K I L (z_q0 K Q) := by
    exact z_zretb dX5_has_17 rfl (z_bite (by repeat' (first | exact Or.inl rfl | exact Or.inr rfl | split))) ⟨rfl, h⟩
  refine z_if_lt 16 dX5_has_1 (by decide) (fun g1 => ?_) (fun g1 => ?_)
  · refine z_iconst 0 dX5_has_16 (by decide) ?_
    have ee : ((if p0 < 0 then 0 else if p0 < (I o0 2) then 1 else 0) : Int32) = 0 := by rw [if_pos g1]
    rw [ee] at key5
    clear ee
    refine z_sub [] rfl ?_
    exact key5
  · refine z_iload_n 1 dX5_has_4 rfl ?_
    refine z_aload_n 0 dX5_has_5 rfl ?_
    refine fg_5_18 (I o0 2) rfl dX5_has_6 (o2 g1) (o3 g1) rfl ?_
    refine z_icmp_ge 16 dX5_has_9 (by decide) (fun g4 => ?_) (fun g4 => ?_)
    · refine z_iconst 0 dX5_has_16 (by decide) ?_
      have ee : ((if p0 < 0 then 0 else if p0 < (I o0 2) then 1 else 0) : Int32) = 0 := by rw [if_neg g1, if_neg g4]
      rw [ee] at key5
      clear ee
      refine z_sub [] rfl ?_
      exact key5
    · refine z_iconst 1 dX5_has_12 (by decide) ?_
      refine z_goto 17 dX5_has_13 (by decide) ?_
      have ee : ((if p0 < 0 then 0 else if p0 < (I o0 2) then 1 else 0) : Int32) = 1 := by rw [if_neg g1, if_pos g4]
      rw [ee] at key5
      clear ee
      refine z_sub [] rfl ?_
      exact key5
theorem dX5_ruleOn_0 : decode cX5_ruleOn 0 = .ok (.aconst_null, 1) := by decide +kernel
theorem dX5_ruleOn_1 : decode cX5_ruleOn 1 = .ok (.astore_n 3, 1) := by decide +kernel
theorem dX5_ruleOn_2 : decode cX5_ruleOn 2 = .ok (.aload_n 0, 1) := by decide +kernel
theorem dX5_ruleOn_3 : decode cX5_ruleOn 3 = .ok (.getfield 27, 3) := by decide +kernel
theorem dX5_ruleOn_6 : decode cX5_ruleOn 6 = .ok (.iload_n 1, 1) := by decide +kernel
theorem dX5_ruleOn_7 : decode cX5_ruleOn 7 = .ok (.aaload, 1) := by decide +kernel
theorem dX5_ruleOn_8 : decode cX5_ruleOn 8 = .ok (.astore 4, 2) := by decide +kernel
theorem dX5_ruleOn_10 : decode cX5_ruleOn 10 = .ok (.aload 4, 2) := by decide +kernel
theorem dX5_ruleOn_12 : decode cX5_ruleOn 12 = .ok (.ifnull 41, 3) := by decide +kernel
theorem dX5_ruleOn_15 : decode cX5_ruleOn 15 = .ok (.aload 4, 2) := by decide +kernel
theorem dX5_ruleOn_17 : decode cX5_ruleOn 17 = .ok (.getfield 48, 3) := by decide +kernel
theorem dX5_ruleOn_20 : decode cX5_ruleOn 20 = .ok (.iload_n 2, 1) := by decide +kernel
theorem dX5_ruleOn_21 : decode cX5_ruleOn 21 = .ok (.if_icmp .gt 22, 3) := by decide +kernel
theorem dX5_ruleOn_24 : decode cX5_ruleOn 24 = .ok (.aload_n 3, 1) := by decide +kernel
theorem dX5_ruleOn_25 : decode cX5_ruleOn 25 = .ok (.ifnull 15, 3) := by decide +kernel
theorem dX5_ruleOn_28 : decode cX5_ruleOn 28 = .ok (.aload 4, 2) := by decide +kernel
theorem dX5_ruleOn_30 : decode cX5_ruleOn 30 = .ok (.getfield 48, 3) := by decide +kernel
theorem dX5_ruleOn_33 : decode cX5_ruleOn 33 = .ok (.aload_n 3, 1) := by decide +kernel
theorem dX5_ruleOn_34 : decode cX5_ruleOn 34 = .ok (.getfield 48, 3) := by decide +kernel
theorem dX5_ruleOn_37 : decode cX5_ruleOn 37 = .ok (.if_icmp .le 6, 3) := by decide +kernel
theorem dX5_ruleOn_40 : decode cX5_ruleOn 40 = .ok (.aload 4, 2) := by decide +kernel
theorem dX5_ruleOn_42 : decode cX5_ruleOn 42 = .ok (.astore_n 3, 1) := by decide +kernel
theorem dX5_ruleOn_43 : decode cX5_ruleOn 43 = .ok (.aload 4, 2) := by decide +kernel
theorem dX5_ruleOn_45 : decode cX5_ruleOn 45 = .ok (.getfield 51, 3) := by decide +kernel
theorem dX5_ruleOn_48 : decode cX5_ruleOn 48 = .ok (.astore 4, 2) := by decide +kernel
theorem dX5_ruleOn_50 : decode cX5_ruleOn 50 = .ok (.goto (-40), 3) := by decide +kernel
theorem dX5_ruleOn_53 : decode cX5_ruleOn 53 = .ok (.aload_n 3, 1) := by decide +kernel
theorem dX5_ruleOn_54 : decode cX5_ruleOn 54 = .ok (.areturn, 1) := by decide +kernel
set_option maxRecDepth 100000 in
set_option maxHeartbeats 4000000 in
theorem wp_X5_ruleOn {n0 d : Nat} {K : z_K} {I : z_I} {L : z_L} {Q : z_q} {o0 : Nat} {p0 : Int32} {p1 : Int32} (h : o0 < K.1 ∧ (K.2.1 o0).1 = 5 ∧ (∃ q3, K.2.2 o0 5 = some q3 ∧ ∃ n4, q3 < K.1 ∧ K.2.1 q3 = (36, n4) ∧ vp_in p0 n4 ∧ (∀ o8, K.2.2 q3 p0.toNatClampNeg = o8 → Z n0 xX5_ruleOn d 0 0 10 [(2, .int p1), (3, .null), (4, zr n0 o8)] [] K I L (z_q0 K Q)))) : RM0 n0 xX5_ruleOn d [.ref (n0 + o0), .int p0, .int p1] K I L Q := by
  refine z_entry0 (by decide) (Nat.le_of_ble_eq_true rfl) ?_
  change Z n0 xX5_ruleOn d 0 0 0 [(0, .ref (n0 + o0)), (1, .int p0), (2, .int p1)] [] K I L (z_q0 K Q)
  refine z_null dX5_ruleOn_0 ?_
  refine z_astore_nO (x := none) [1, 2, 3, 0] [(0, .ref (n0 + o0)), (1, .int p0), (2, .int p1), (3, .null)] dX5_ruleOn_1 (by decide) (fun v hv => by subst hv; rfl) ?_
  refine z_aload_n 0 dX5_ruleOn_2 rfl ?_
  obtain ⟨o1, o2, h⟩ := h
  obtain ⟨q3, q3e, h⟩ := h
  refine fg_5_27 (some q3) rfl dX5_ruleOn_3 o1 o2 q3e ?_
  refine z_iload_n 1 dX5_ruleOn_6 rfl ?_
  obtain ⟨n4, o5, o6, o7, h⟩ := h
  obtain ⟨o8, o8e⟩ : ∃ o, K.2.2 q3 p0.toNatClampNeg = o := ⟨_, rfl⟩
  replace h := h o8 o8e
  refine z_aald o8 dX5_ruleOn_7 o5 o6 (by unfold z_rt; decide) o7 o8e ?_
  refine z_astoreO [1, 2, 3, 4, 0] [(0, .ref (n0 + o0)), (1, .int p0), (2, .int p1), (3, .null), (4, zr n0 o8)] dX5_ruleOn_8 (by decide) (fun v hv => by subst hv; rfl) ?_
  refine z_sub [2, 3, 4] rfl ?_
  exact h
set_option maxRecDepth 100000 in
set_option maxHeartbeats 4000000 in
theorem wp_X5_ruleOn_10 {n0 d : Nat} {rc rs : Nat} {K : z_K} {I : z_I} {L : z_L} {Q : z_q} {a2 : Int32} {a3 : Option Nat} {a4 : Option Nat} (h : ((a4 = none → Q (some (zr n0 a3)) I L) ∧ (∀ q2, a4 = some q2 → q2 < K.1 ∧ (K.2.1 q2).1 = 6 ∧ (if a2 < ((I q2 0) : Int32) then (∀ o6, K.2.2 q2 3 = o6 → Z n0 xX5_ruleOn d rc rs 10 [(2, .int a2), (3, zr n0 a3), (4, zr n0 o6)] [] K I L (z_q0 K Q)) else ((a3 = none → (∀ o9, K.2.2 q2 3 = o9 → Z n0 xX5_ruleOn d rc rs 10 [(2, .int a2), (3, .ref (n0 + q2)), (4, zr n0 o9)] [] K I L (z_q0 K Q))) ∧ (∀ q8, a3 = some q8 → q8 < K.1 ∧ (K.2.1 q8).1 = 6 ∧ (if (I q8 0) < ((I q2 0) : Int32) then (∀ o14, K.2.2 q2 3 = o14 → Z n0 xX5_ruleOn d rc rs 10 [(2, .int a2), (3, .ref (n0 + q2)), (4, zr n0 o14)] [] K I L (z_q0 K Q)) else (∀ o13, K.2.2 q2 3 = o13 → Z n0 xX5_ruleOn d rc rs 10 [(2, .int a2), (3, .ref (n0 + q8)), (4, zr n0 o13)] [] K I L (z_q0 K Q))))))))) : Z n0 xX5_ruleOn d rc rs 10 [(2, .int a2), (3, zr n0 a3), (4, zr n0 a4)] [] K I L (z_q0 K Q) := by
  refine z_aloadO 2 dX5_ruleOn_10 rfl ?_
  refine z_ifnull 53 dX5_ruleOn_12 (by decide) (fun g1 => ?_) (fun q2 g1 => ?_)
  · replace h := h.1 g1
    subst g1
    change Z n0 xX5_ruleOn d rc rs 53 [(2, .int a2), (3, zr n0 a3), (4, .null)] [] K I L (z_q0 K Q)
    refine z_aload_nO 1 dX5_ruleOn_53 rfl ?_
    exact z_aret (o := a3) dX5_ruleOn_54 rfl (Or.inl ⟨_, rfl⟩) ⟨rfl, h⟩
  · replace h := h.2 q2 g1
    subst g1
    change Z n0 xX5_ruleOn d rc rs 15 [(2, .int a2), (3, zr n0 a3), (4, .ref (n0 + q2))] [] K I L (z_q0 K Q)
    refine z_aload 2 dX5_ruleOn_15 rfl ?_
    obtain ⟨o3, o4, h⟩ := h
    refine fg_5_48 (I q2 0) rfl dX5_ruleOn_17 o3 o4 rfl ?_
    refine z_iload_n 0 dX5_ruleOn_20 rfl ?_
    refine z_icmp_gt 43 dX5_ruleOn_21 (by decide) (fun g5 => ?_) (fun g5 => ?_)
    · rw [if_pos g5] at h
      refine z_aload 2 dX5_ruleOn_43 rfl ?_
      obtain ⟨o6, o6e⟩ : ∃ o, K.2.2 q2 3 = o := ⟨_, rfl⟩
      replace h := h o6 o6e
      refine fg_5_51 o6 rfl dX5_ruleOn_45 o3 o4 o6e ?_
      refine z_astoreO [1, 2, 0] [(2, .int a2), (3, zr n0 a3), (4, zr n0 o6)] dX5_ruleOn_48 (by decide) (fun v hv => by subst hv; cases a3 <;> rfl) ?_
      refine z_goto 10 dX5_ruleOn_50 (by decide) ?_
      exact h
    · rw [if_neg g5] at h
      refine z_aload_nO 1 dX5_ruleOn_24 rfl ?_
      refine z_ifnull 40 dX5_ruleOn_25 (by decide) (fun g7 => ?_) (fun q8 g7 => ?_)
      · replace h := h.1 g7
        subst g7
        change Z n0 xX5_ruleOn d rc rs 40 [(2, .int a2), (3, .null), (4, .ref (n0 + q2))] [] K I L (z_q0 K Q)
        refine z_aload 2 dX5_ruleOn_40 rfl ?_
        refine z_astore_n [1, 0, 2] [(2, .int a2), (3, .ref (n0 + q2)), (4, .ref (n0 + q2))] dX5_ruleOn_42 (by decide) rfl ?_
        refine z_aload 2 dX5_ruleOn_43 rfl ?_
        obtain ⟨o9, o9e⟩ : ∃ o, K.2.2 q2 3 = o := ⟨_, rfl⟩
        replace h := h o9 o9e
        refine fg_5_51 o9 rfl dX5_ruleOn_45 o3 o4 o9e ?_
        refine z_astoreO [1, 2, 0] [(2, .int a2), (3, .ref (n0 + q2)), (4, zr n0 o9)] dX5_ruleOn_48 (by decide) (fun v hv => by subst hv; rfl) ?_
        refine z_goto 10 dX5_ruleOn_50 (by decide) ?_
        exact h
      · replace h := h.2 q8 g7
        subst g7
        change Z n0 xX5_ruleOn d rc rs 28 [(2, .int a2), (3, .ref (n0 + q8)), (4, .ref (n0 + q2))] [] K I L (z_q0 K Q)
        refine z_aload 2 dX5_ruleOn_28 rfl ?_
        refine fg_5_48 (I q2 0) rfl dX5_ruleOn_30 o3 o4 rfl ?_
        refine z_aload_n 1 dX5_ruleOn_33 rfl ?_
        obtain ⟨o10, o11, h⟩ := h
        refine fg_5_48 (I q8 0) rfl dX5_ruleOn_34 o10 o11 rfl ?_
        refine z_icmp_le 43 dX5_ruleOn_37 (by decide) (fun g12 => ?_) (fun g12 => ?_)
        · rw [if_neg g12] at h
          refine z_aload 2 dX5_ruleOn_43 rfl ?_
          obtain ⟨o13, o13e⟩ : ∃ o, K.2.2 q2 3 = o := ⟨_, rfl⟩
          replace h := h o13 o13e
          refine fg_5_51 o13 rfl dX5_ruleOn_45 o3 o4 o13e ?_
          refine z_astoreO [1, 2, 0] [(2, .int a2), (3, .ref (n0 + q8)), (4, zr n0 o13)] dX5_ruleOn_48 (by decide) (fun v hv => by subst hv; rfl) ?_
          refine z_goto 10 dX5_ruleOn_50 (by decide) ?_
          exact h
        · rw [if_pos g12] at h
          refine z_aload 2 dX5_ruleOn_40 rfl ?_
          refine z_astore_n [1, 0, 2] [(2, .int a2), (3, .ref (n0 + q2)), (4, .ref (n0 + q2))] dX5_ruleOn_42 (by decide) rfl ?_
          refine z_aload 2 dX5_ruleOn_43 rfl ?_
          obtain ⟨o14, o14e⟩ : ∃ o, K.2.2 q2 3 = o := ⟨_, rfl⟩
          replace h := h o14 o14e
          refine fg_5_51 o14 rfl dX5_ruleOn_45 o3 o4 o14e ?_
          refine z_astoreO [1, 2, 0] [(2, .int a2), (3, .ref (n0 + q2)), (4, zr n0 o14)] dX5_ruleOn_48 (by decide) (fun v hv => by subst hv; rfl) ?_
          refine z_goto 10 dX5_ruleOn_50 (by decide) ?_
          exact h
theorem dX5_rulesAtOnce_0 : decode cX5_rulesAtOnce 0 = .ok (.aload_n 0, 1) := by decide +kernel
theorem dX5_rulesAtOnce_1 : decode cX5_rulesAtOnce 1 = .ok (.iload_n 1, 1) := by decide +kernel
theorem dX5_rulesAtOnce_2 : decode cX5_rulesAtOnce 2 = .ok (.iload_n 2, 1) := by decide +kernel
theorem dX5_rulesAtOnce_3 : decode cX5_rulesAtOnce 3 = .ok (.invokevirtual 55, 3) := by decide +kernel
theorem dX5_rulesAtOnce_6 : decode cX5_rulesAtOnce 6 = .ok (.astore_n 3, 1) := by decide +kernel
theorem dX5_rulesAtOnce_7 : decode cX5_rulesAtOnce 7 = .ok (.aload_n 3, 1) := by decide +kernel
theorem dX5_rulesAtOnce_8 : decode cX5_rulesAtOnce 8 = .ok (.ifnonnull 5, 3) := by decide +kernel
theorem dX5_rulesAtOnce_11 : decode cX5_rulesAtOnce 11 = .ok (.iconst 0, 1) := by decide +kernel
theorem dX5_rulesAtOnce_12 : decode cX5_rulesAtOnce 12 = .ok (.ireturn, 1) := by decide +kernel
theorem dX5_rulesAtOnce_13 : decode cX5_rulesAtOnce 13 = .ok (.iconst 0, 1) := by decide +kernel
theorem dX5_rulesAtOnce_14 : decode cX5_rulesAtOnce 14 = .ok (.istore 4, 2) := by decide +kernel
theorem dX5_rulesAtOnce_16 : decode cX5_rulesAtOnce 16 = .ok (.aload_n 0, 1) := by decide +kernel
theorem dX5_rulesAtOnce_17 : decode cX5_rulesAtOnce 17 = .ok (.getfield 27, 3) := by decide +kernel
theorem dX5_rulesAtOnce_20 : decode cX5_rulesAtOnce 20 = .ok (.iload_n 1, 1) := by decide +kernel
theorem dX5_rulesAtOnce_21 : decode cX5_rulesAtOnce 21 = .ok (.aaload, 1) := by decide +kernel
theorem dX5_rulesAtOnce_22 : decode cX5_rulesAtOnce 22 = .ok (.astore 5, 2) := by decide +kernel
theorem dX5_rulesAtOnce_24 : decode cX5_rulesAtOnce 24 = .ok (.aload 5, 2) := by decide +kernel
theorem dX5_rulesAtOnce_26 : decode cX5_rulesAtOnce 26 = .ok (.ifnull 28, 3) := by decide +kernel
theorem dX5_rulesAtOnce_29 : decode cX5_rulesAtOnce 29 = .ok (.aload 5, 2) := by decide +kernel
theorem dX5_rulesAtOnce_31 : decode cX5_rulesAtOnce 31 = .ok (.getfield 48, 3) := by decide +kernel
theorem dX5_rulesAtOnce_34 : decode cX5_rulesAtOnce 34 = .ok (.aload_n 3, 1) := by decide +kernel
theorem dX5_rulesAtOnce_35 : decode cX5_rulesAtOnce 35 = .ok (.getfield 48, 3) := by decide +kernel
theorem dX5_rulesAtOnce_38 : decode cX5_rulesAtOnce 38 = .ok (.if_icmp .ne 6, 3) := by decide +kernel
theorem dX5_rulesAtOnce_41 : decode cX5_rulesAtOnce 41 = .ok (.iinc 4 1, 3) := by decide +kernel
theorem dX5_rulesAtOnce_44 : decode cX5_rulesAtOnce 44 = .ok (.aload 5, 2) := by decide +kernel
theorem dX5_rulesAtOnce_46 : decode cX5_rulesAtOnce 46 = .ok (.getfield 51, 3) := by decide +kernel
theorem dX5_rulesAtOnce_49 : decode cX5_rulesAtOnce 49 = .ok (.astore 5, 2) := by decide +kernel
theorem dX5_rulesAtOnce_51 : decode cX5_rulesAtOnce 51 = .ok (.goto (-27), 3) := by decide +kernel
theorem dX5_rulesAtOnce_54 : decode cX5_rulesAtOnce 54 = .ok (.iload 4, 2) := by decide +kernel
theorem dX5_rulesAtOnce_56 : decode cX5_rulesAtOnce 56 = .ok (.ireturn, 1) := by decide +kernel
set_option maxRecDepth 100000 in
set_option maxHeartbeats 4000000 in
theorem wp_X5_rulesAtOnce {n0 d : Nat} {K : z_K} {I : z_I} {L : z_L} {Q : z_q} {o0 : Nat} {p0 : Int32} {p1 : Int32} (h : o0 < K.1 ∧ (K.2.1 o0).1 = 5 ∧ RM0 n0 xX5_ruleOn d [.ref (n0 + o0), .int p0, .int p1] K I L (fun vv I3 L4 => ∃ r5 : Option Nat, vv = some (zr n0 r5) ∧ ((r5 = none → Q (some (.int 0)) I3 L4) ∧ (∀ q7, r5 = some q7 → (∃ q8, K.2.2 o0 5 = some q8 ∧ ∃ n9, q8 < K.1 ∧ K.2.1 q8 = (36, n9) ∧ vp_in p0 n9 ∧ (∀ o13, K.2.2 q8 p0.toNatClampNeg = o13 → Z n0 xX5_rulesAtOnce (d + 1) 0 0 24 [(3, .ref (n0 + q7)), (4, .int 0), (5, zr n0 o13)] [] K I3 L4 (z_q0 K Q))))))) : RM0 n0 xX5_rulesAtOnce (d + 1) [.ref (n0 + o0), .int p0, .int p1] K I L Q := by
  refine z_entry0 (by decide) (Nat.le_of_ble_eq_true rfl) ?_
  change Z n0 xX5_rulesAtOnce (d + 1) 0 0 0 [(0, .ref (n0 + o0)), (1, .int p0), (2, .int p1)] [] K I L (z_q0 K Q)
  refine z_aload_n 0 dX5_rulesAtOnce_0 rfl ?_
  refine z_iload_n 1 dX5_rulesAtOnce_1 rfl ?_
  refine z_iload_n 2 dX5_rulesAtOnce_2 rfl ?_
  obtain ⟨o1, o2, h⟩ := h
  refine z_callV0 (As := [.int p0, .int p1]) (st := []) dX5_rulesAtOnce_3 hy_X5_ruleOn o1 o2 (by decide) wg_762 wg_763 wg_764 (Nat.le_refl _) (Nat.le_of_ble_eq_true rfl) (RM0.mono h ?_)
  clear h
  intro vv I3 L4 h
  obtain ⟨r5, rfl, h⟩ := h
  change Z n0 xX5_rulesAtOnce (d + 1) 0 0 6 [(0, .ref (n0 + o0)), (1, .int p0), (2, .int p1)] [zr n0 r5] K I3 L4 (z_q0 K Q)
  refine z_astore_nO [1, 2, 3, 0] [(0, .ref (n0 + o0)), (1, .int p0), (2, .int p1), (3, zr n0 r5)] dX5_rulesAtOnce_6 (by decide) (fun v hv => by subst hv; rfl) ?_
  refine z_aload_nO 3 dX5_rulesAtOnce_7 rfl ?_
  refine z_ifnonnull 13 dX5_rulesAtOnce_8 (by decide) (fun q7 g6 => ?_) (fun g6 => ?_)
  · replace h := h.2 q7 g6
    subst g6
    change Z n0 xX5_rulesAtOnce (d + 1) 0 0 13 [(0, .ref (n0 + o0)), (1, .int p0), (2, .int p1), (3, .ref (n0 + q7))] [] K I3 L4 (z_q0 K Q)
    refine z_iconst 0 dX5_rulesAtOnce_13 (by decide) ?_
    refine z_istore [1, 2, 3, 4, 0] [(0, .ref (n0 + o0)), (1, .int p0), (2, .int p1), (3, .ref (n0 + q7)), (4, .int 0)] dX5_rulesAtOnce_14 (by decide) rfl ?_
    refine z_aload_n 0 dX5_rulesAtOnce_16 rfl ?_
    obtain ⟨q8, q8e, h⟩ := h
    refine fg_5_27 (some q8) rfl dX5_rulesAtOnce_17 o1 o2 q8e ?_
    refine z_iload_n 1 dX5_rulesAtOnce_20 rfl ?_
    obtain ⟨n9, o10, o11, o12, h⟩ := h
    obtain ⟨o13, o13e⟩ : ∃ o, K.2.2 q8 p0.toNatClampNeg = o := ⟨_, rfl⟩
    replace h := h o13 o13e
    refine z_aald o13 dX5_rulesAtOnce_21 o10 o11 (by unfold z_rt; decide) o12 o13e ?_
    refine z_astoreO [1, 2, 3, 4, 5, 0] [(0, .ref (n0 + o0)), (1, .int p0), (2, .int p1), (3, .ref (n0 + q7)), (4, .int 0), (5, zr n0 o13)] dX5_rulesAtOnce_22 (by decide) (fun v hv => by subst hv; rfl) ?_
    refine z_sub [3, 4, 5] rfl ?_
    exact h
  · replace h := h.1 g6
    subst g6
    change Z n0 xX5_rulesAtOnce (d + 1) 0 0 11 [(0, .ref (n0 + o0)), (1, .int p0), (2, .int p1), (3, .null)] [] K I3 L4 (z_q0 K Q)
    refine z_iconst 0 dX5_rulesAtOnce_11 (by decide) ?_
    exact z_iret dX5_rulesAtOnce_12 rfl ⟨rfl, h⟩
set_option maxRecDepth 100000 in
set_option maxHeartbeats 4000000 in
theorem wp_X5_rulesAtOnce_24 {n0 d : Nat} {rc rs : Nat} {K : z_K} {I : z_I} {L : z_L} {Q : z_q} {a3 : Option Nat} {a4 : Int32} {a5 : Option Nat} (h : ((a5 = none → Q (some (.int a4)) I L) ∧ (∀ q2, a5 = some q2 → q2 < K.1 ∧ (K.2.1 q2).1 = 6 ∧ (∃ q5, a3 = some q5 ∧ q5 < K.1 ∧ (K.2.1 q5).1 = 6 ∧ (∀ o10, K.2.2 q2 3 = o10 → Z n0 xX5_rulesAtOnce (d + 1) rc rs 24 [(3, .ref (n0 + q5)), (4, .int (if ((I q2 0) : Int32) = (I q5 0) then (a4 + 1) else a4)), (5, zr n0 o10)] [] K I L (z_q0 K Q)))))) : Z n0 xX5_rulesAtOnce (d + 1) rc rs 24 [(3, zr n0 a3), (4, .int a4), (5, zr n0 a5)] [] K I L (z_q0 K Q) := by
  refine z_aloadO 2 dX5_rulesAtOnce_24 rfl ?_
  refine z_ifnull 54 dX5_rulesAtOnce_26 (by decide) (fun g1 => ?_) (fun q2 g1 => ?_)
  · replace h := h.1 g1
    subst g1
    change Z n0 xX5_rulesAtOnce (d + 1) rc rs 54 [(3, zr n0 a3), (4, .int a4), (5, .null)] [] K I L (z_q0 K Q)
    refine z_iload 1 dX5_rulesAtOnce_54 rfl ?_
    exact z_iret dX5_rulesAtOnce_56 rfl ⟨rfl, h⟩
  · replace h := h.2 q2 g1
    subst g1
    change Z n0 xX5_rulesAtOnce (d + 1) rc rs 29 [(3, zr n0 a3), (4, .int a4), (5, .ref (n0 + q2))] [] K I L (z_q0 K Q)
    refine z_aload 2 dX5_rulesAtOnce_29 rfl ?_
    obtain ⟨o3, o4, h⟩ := h
    refine fg_5_48 (I q2 0) rfl dX5_rulesAtOnce_31 o3 o4 rfl ?_
    refine z_aload_nO 0 dX5_rulesAtOnce_34 rfl ?_
    obtain ⟨q5, q5e, h⟩ := h
    subst q5e
    change Z n0 xX5_rulesAtOnce (d + 1) rc rs 35 [(3, .ref (n0 + q5)), (4, .int a4), (5, .ref (n0 + q2))] [.ref (n0 + q5), .int (I q2 0)] K I L (z_q0 K Q)
    obtain ⟨o6, o7, h⟩ := h
    refine fg_5_48 (I q5 0) rfl dX5_rulesAtOnce_35 o6 o7 rfl ?_
    have key9 : Z n0 xX5_rulesAtOnce (d + 1) rc rs 44 [(3, .ref (n0 + q5)), (4, .int (if ((I q2 0) : Int32) = (I q5 0) then (a4 + 1) else a4)), (5, .ref (n0 + q2))] [] K I L (z_q0 K Q) := by
      refine z_aload 2 dX5_rulesAtOnce_44 rfl ?_
      obtain ⟨o10, o10e⟩ : ∃ o, K.2.2 q2 3 = o := ⟨_, rfl⟩
      replace h := h o10 o10e
      refine fg_5_51 o10 rfl dX5_rulesAtOnce_46 o3 o4 o10e ?_
      refine z_astoreO [1, 2, 0] [(3, .ref (n0 + q5)), (4, .int (if ((I q2 0) : Int32) = (I q5 0) then (a4 + 1) else a4)), (5, zr n0 o10)] dX5_rulesAtOnce_49 (by decide) (fun v hv => by subst hv; rfl) ?_
      refine z_goto 24 dX5_rulesAtOnce_51 (by decide) ?_
      exact h
    refine z_icmp_ne 44 dX5_rulesAtOnce_38 (by decide) (fun g8 => ?_) (fun g8 => ?_)
    · have ee : ((if ((I q2 0) : Int32) = (I q5 0) then (a4 + 1) else a4) : Int32) = a4 := by rw [if_neg g8]
      rw [ee] at key9
      clear ee
      exact key9
    · refine z_iinc (j := 1) (a4 + 1) [1, 0, 2] [(3, .ref (n0 + q5)), (4, .int (a4 + 1)), (5, .ref (n0 + q2))] dX5_rulesAtOnce_41 rfl rfl (by decide) rfl ?_
      have ee : ((if ((I q2 0) : Int32) = (I q5 0) then (a4 + 1) else a4) : Int32) = (a4 + 1) := by rw [if_pos g8]
      rw [ee] at key9
      clear ee
      exact key9
theorem dX5_isOrComesFrom_0 : decode cX5_isOrComesFrom 0 = .ok (.aload_n 0, 1) := by decide +kernel
theorem dX5_isOrComesFrom_1 : decode cX5_isOrComesFrom 1 = .ok (.astore_n 2, 1) := by decide +kernel
theorem dX5_isOrComesFrom_2 : decode cX5_isOrComesFrom 2 = .ok (.aload_n 2, 1) := by decide +kernel
theorem dX5_isOrComesFrom_3 : decode cX5_isOrComesFrom 3 = .ok (.ifnull 18, 3) := by decide +kernel
theorem dX5_isOrComesFrom_6 : decode cX5_isOrComesFrom 6 = .ok (.aload_n 2, 1) := by decide +kernel
theorem dX5_isOrComesFrom_7 : decode cX5_isOrComesFrom 7 = .ok (.aload_n 1, 1) := by decide +kernel
theorem dX5_isOrComesFrom_8 : decode cX5_isOrComesFrom 8 = .ok (.if_acmp .ne 5, 3) := by decide +kernel
theorem dX5_isOrComesFrom_11 : decode cX5_isOrComesFrom 11 = .ok (.iconst 1, 1) := by decide +kernel
theorem dX5_isOrComesFrom_12 : decode cX5_isOrComesFrom 12 = .ok (.ireturn, 1) := by decide +kernel
theorem dX5_isOrComesFrom_13 : decode cX5_isOrComesFrom 13 = .ok (.aload_n 2, 1) := by decide +kernel
theorem dX5_isOrComesFrom_14 : decode cX5_isOrComesFrom 14 = .ok (.getfield 21, 3) := by decide +kernel
theorem dX5_isOrComesFrom_17 : decode cX5_isOrComesFrom 17 = .ok (.astore_n 2, 1) := by decide +kernel
theorem dX5_isOrComesFrom_18 : decode cX5_isOrComesFrom 18 = .ok (.goto (-16), 3) := by decide +kernel
theorem dX5_isOrComesFrom_21 : decode cX5_isOrComesFrom 21 = .ok (.iconst 0, 1) := by decide +kernel
theorem dX5_isOrComesFrom_22 : decode cX5_isOrComesFrom 22 = .ok (.ireturn, 1) := by decide +kernel
set_option maxRecDepth 100000 in
set_option maxHeartbeats 4000000 in
theorem wp_X5_isOrComesFrom {n0 d : Nat} {K : z_K} {I : z_I} {L : z_L} {Q : z_q} {o0 : Nat} {p0 : Nat} (h : Z n0 xX5_isOrComesFrom d 0 0 2 [(1, .ref (n0 + p0)), (2, .ref (n0 + o0))] [] K I L (z_q0 K Q)) : RM0 n0 xX5_isOrComesFrom d [.ref (n0 + o0), .ref (n0 + p0)] K I L Q := by
  refine z_entry0 (by decide) (Nat.le_of_ble_eq_true rfl) ?_
  change Z n0 xX5_isOrComesFrom d 0 0 0 [(0, .ref (n0 + o0)), (1, .ref (n0 + p0))] [] K I L (z_q0 K Q)
  refine z_aload_n 0 dX5_isOrComesFrom_0 rfl ?_
  refine z_astore_n [1, 2, 0] [(0, .ref (n0 + o0)), (1, .ref (n0 + p0)), (2, .ref (n0 + o0))] dX5_isOrComesFrom_1 (by decide) rfl ?_
  refine z_sub [1, 2] rfl ?_
  exact h
set_option maxRecDepth 100000 in
set_option maxHeartbeats 4000000 in
theorem wp_X5_isOrComesFrom_2 {n0 d : Nat} {rc rs : Nat} {K : z_K} {I : z_I} {L : z_L} {Q : z_q} {a1 : Nat} {a2 : Option Nat} (h : ((a2 = none → Q (some (.int 0)) I L) ∧ (∀ q2, a2 = some q2 → (if (some q2 : Option Nat) = some a1 then Q (some (.int 1)) I L else q2 < K.1 ∧ (K.2.1 q2).1 = 5 ∧ (∀ o6, K.2.2 q2 3 = o6 → Z n0 xX5_isOrComesFrom d rc rs 2 [(1, .ref (n0 + a1)), (2, zr n0 o6)] [] K I L (z_q0 K Q)))))) : Z n0 xX5_isOrComesFrom d rc rs 2 [(1, .ref (n0 + a1)), (2, zr n0 a2)] [] K I L (z_q0 K Q) := by
  refine z_aload_nO 1 dX5_isOrComesFrom_2 rfl ?_
  refine z_ifnull 21 dX5_isOrComesFrom_3 (by decide) (fun g1 => ?_) (fun q2 g1 => ?_)
  · replace h := h.1 g1
    subst g1
    change Z n0 xX5_isOrComesFrom d rc rs 21 [(1, .ref (n0 + a1)), (2, .null)] [] K I L (z_q0 K Q)
    refine z_iconst 0 dX5_isOrComesFrom_21 (by decide) ?_
    exact z_zretb dX5_isOrComesFrom_22 rfl (Or.inl rfl) ⟨rfl, h⟩
  · replace h := h.2 q2 g1
    subst g1
    change Z n0 xX5_isOrComesFrom d rc rs 6 [(1, .ref (n0 + a1)), (2, .ref (n0 + q2))] [] K I L (z_q0 K Q)
    refine z_aload_n 1 dX5_isOrComesFrom_6 rfl ?_
    refine z_aload_n 0 dX5_isOrComesFrom_7 rfl ?_
    refine z_acmp_ne (x := some q2) (y := some a1) 13 dX5_isOrComesFrom_8 (by decide) (fun g3 => ?_) (fun g3 => ?_)
    · rw [if_neg g3] at h
      refine z_aload_n 1 dX5_isOrComesFrom_13 rfl ?_
      obtain ⟨o4, o5, h⟩ := h
      obtain ⟨o6, o6e⟩ : ∃ o, K.2.2 q2 3 = o := ⟨_, rfl⟩
      replace h := h o6 o6e
      refine fg_5_21 o6 rfl dX5_isOrComesFrom_14 o4 o5 o6e ?_
      refine z_astore_nO [1, 0] [(1, .ref (n0 + a1)), (2, zr n0 o6)] dX5_isOrComesFrom_17 (by decide) (fun v hv => by subst hv; rfl) ?_
      refine z_goto 2 dX5_isOrComesFrom_18 (by decide) ?_
      exact h
    · rw [if_pos g3] at h
      refine z_iconst 1 dX5_isOrComesFrom_11 (by decide) ?_
      exact z_zretb dX5_isOrComesFrom_12 rfl (Or.inr rfl) ⟨rfl, h⟩
theorem dX7_add_0 : decode cX7_add 0 = .ok (.aload_n 0, 1) := by decide +kernel
theorem dX7_add_1 : decode cX7_add 1 = .ok (.getfield 18, 3) := by decide +kernel
theorem dX7_add_4 : decode cX7_add 4 = .ok (.bipush 60, 2) := by decide +kernel
theorem dX7_add_6 : decode cX7_add 6 = .ok (.if_icmp .lt 4, 3) := by decide +kernel
theorem dX7_add_9 : decode cX7_add 9 = .ok (.return_, 1) := by decide +kernel
theorem dX7_add_10 : decode cX7_add 10 = .ok (.aload_n 0, 1) := by decide +kernel
theorem dX7_add_11 : decode cX7_add 11 = .ok (.getfield 9, 3) := by decide +kernel
theorem dX7_add_14 : decode cX7_add 14 = .ok (.aload_n 0, 1) := by decide +kernel
theorem dX7_add_15 : decode cX7_add 15 = .ok (.getfield 18, 3) := by decide +kernel
theorem dX7_add_18 : decode cX7_add 18 = .ok (.iload_n 1, 1) := by decide +kernel
theorem dX7_add_19 : decode cX7_add 19 = .ok (.iastore, 1) := by decide +kernel
theorem dX7_add_20 : decode cX7_add 20 = .ok (.aload_n 0, 1) := by decide +kernel
theorem dX7_add_21 : decode cX7_add 21 = .ok (.dup, 1) := by decide +kernel
theorem dX7_add_22 : decode cX7_add 22 = .ok (.getfield 18, 3) := by decide +kernel
theorem dX7_add_25 : decode cX7_add 25 = .ok (.iconst 1, 1) := by decide +kernel
theorem dX7_add_26 : decode cX7_add 26 = .ok (.iadd, 1) := by decide +kernel
theorem dX7_add_27 : decode cX7_add 27 = .ok (.putfield 18, 3) := by decide +kernel
theorem dX7_add_30 : decode cX7_add 30 = .ok (.return_, 1) := by decide +kernel
set_option maxRecDepth 100000 in
set_option maxHeartbeats 4000000 in
theorem wp_X7_add {n0 d : Nat} {K : z_K} {I : z_I} {L : z_L} {Q : z_q} {p0 : Int32} (hL : CLay K) (h : (if ((I 5 1) : Int32) < 60 then vp_in (I 5 1) 60 ∧ Q none (zI (zI I 6 ((I 5 1).toNatClampNeg) p0) 5 1 ((I 5 1) + 1)) L else Q none I L)) : RM0 n0 xX7_add d [.ref (n0 + 5), .int p0] K I L Q := by
  refine z_entry0 (by decide) (Nat.le_of_ble_eq_true rfl) ?_
  change Z n0 xX7_add d 0 0 0 [(0, .ref (n0 + 5)), (1, .int p0)] [] K I L (z_q0 K Q)
  refine z_aload_n 0 dX7_add_0 rfl ?_
  refine fg_7_18 (I 5 1) rfl dX7_add_1 (co_5 hL).1 (co_5 hL).2 rfl ?_
  refine z_bipush 60 dX7_add_4 (by decide) ?_
  refine z_icmp_lt 10 dX7_add_6 (by decide) (fun g1 => ?_) (fun g1 => ?_)
  · rw [if_pos g1] at h
    refine z_aload_n 0 dX7_add_10 rfl ?_
    refine fg_7_9 (some 6) rfl dX7_add_11 (co_5 hL).1 (co_5 hL).2 (ca_6 hL).1 ?_
    refine z_aload_n 0 dX7_add_14 rfl ?_
    refine fg_7_18 (I 5 1) rfl dX7_add_15 (co_5 hL).1 (co_5 hL).2 rfl ?_
    refine z_iload_n 1 dX7_add_18 rfl ?_
    obtain ⟨o2, h⟩ := h
    refine z_iast dX7_add_19 (ca_6 hL).2.1 (ca_6 hL).2.2 o2 ?_
    refine z_aload_n 0 dX7_add_20 rfl ?_
    refine z_dup dX7_add_21 rfl ?_
    refine fg_7_18 (I 5 1) rfl dX7_add_22 (co_5 hL).1 (co_5 hL).2 rfl ?_
    refine z_iconst 1 dX7_add_25 (by decide) ?_
    refine z_iadd dX7_add_26 ?_
    refine fp_7_18 rfl dX7_add_27 (co_5 hL).1 (co_5 hL).2 ?_
    exact z_vret dX7_add_30 rfl ⟨rfl, h⟩
  · rw [if_neg g1] at h
    exact z_vret dX7_add_9 rfl ⟨rfl, h⟩
theorem dX7_reads_0 : decode cX7_reads 0 = .ok (.aload_n 0, 1) := by decide +kernel
theorem dX7_reads_1 : decode cX7_reads 1 = .ok (.iconst (-1), 1) := by decide +kernel
theorem dX7_reads_2 : decode cX7_reads 2 = .ok (.putfield 22, 3) := by decide +kernel
theorem dX7_reads_5 : decode cX7_reads 5 = .ok (.aload_n 0, 1) := by decide +kernel
theorem dX7_reads_6 : decode cX7_reads 6 = .ok (.iconst 0, 1) := by decide +kernel
theorem dX7_reads_7 : decode cX7_reads 7 = .ok (.putfield 25, 3) := by decide +kernel
theorem dX7_reads_10 : decode cX7_reads 10 = .ok (.aload_n 0, 1) := by decide +kernel
theorem dX7_reads_11 : decode cX7_reads 11 = .ok (.iload_n 1, 1) := by decide +kernel
theorem dX7_reads_12 : decode cX7_reads 12 = .ok (.putfield 28, 3) := by decide +kernel
theorem dX7_reads_15 : decode cX7_reads 15 = .ok (.aload_n 0, 1) := by decide +kernel
theorem dX7_reads_16 : decode cX7_reads 16 = .ok (.iconst 0, 1) := by decide +kernel
theorem dX7_reads_17 : decode cX7_reads 17 = .ok (.putfield 31, 3) := by decide +kernel
theorem dX7_reads_20 : decode cX7_reads 20 = .ok (.aload_n 0, 1) := by decide +kernel
theorem dX7_reads_21 : decode cX7_reads 21 = .ok (.iconst 0, 1) := by decide +kernel
theorem dX7_reads_22 : decode cX7_reads 22 = .ok (.invokevirtual 34, 3) := by decide +kernel
theorem dX7_reads_25 : decode cX7_reads 25 = .ok (.ifCond .ne 5, 3) := by decide +kernel
theorem dX7_reads_28 : decode cX7_reads 28 = .ok (.iconst 0, 1) := by decide +kernel
theorem dX7_reads_29 : decode cX7_reads 29 = .ok (.ireturn, 1) := by decide +kernel
theorem dX7_reads_30 : decode cX7_reads 30 = .ok (.aload_n 0, 1) := by decide +kernel
theorem dX7_reads_31 : decode cX7_reads 31 = .ok (.invokevirtual 38, 3) := by decide +kernel
theorem dX7_reads_34 : decode cX7_reads 34 = .ok (.bipush 44, 2) := by decide +kernel
theorem dX7_reads_36 : decode cX7_reads 36 = .ok (.if_icmp .eq 8, 3) := by decide +kernel
theorem dX7_reads_39 : decode cX7_reads 39 = .ok (.aload_n 0, 1) := by decide +kernel
theorem dX7_reads_40 : decode cX7_reads 40 = .ok (.invokevirtual 42, 3) := by decide +kernel
theorem dX7_reads_43 : decode cX7_reads 43 = .ok (.ireturn, 1) := by decide +kernel
theorem dX7_reads_44 : decode cX7_reads 44 = .ok (.aload_n 0, 1) := by decide +kernel
theorem dX7_reads_45 : decode cX7_reads 45 = .ok (.dup, 1) := by decide +kernel
theorem dX7_reads_46 : decode cX7_reads 46 = .ok (.getfield 25, 3) := by decide +kernel
theorem dX7_reads_49 : decode cX7_reads 49 = .ok (.iconst 1, 1) := by decide +kernel
theorem dX7_reads_50 : decode cX7_reads 50 = .ok (.iadd, 1) := by decide +kernel
theorem dX7_reads_51 : decode cX7_reads 51 = .ok (.putfield 25, 3) := by decide +kernel
theorem dX7_reads_54 : decode cX7_reads 54 = .ok (.aload_n 0, 1) := by decide +kernel
theorem dX7_reads_55 : decode cX7_reads 55 = .ok (.aload_n 0, 1) := by decide +kernel
theorem dX7_reads_56 : decode cX7_reads 56 = .ok (.getfield 31, 3) := by decide +kernel
theorem dX7_reads_59 : decode cX7_reads 59 = .ok (.putfield 46, 3) := by decide +kernel
theorem dX7_reads_62 : decode cX7_reads 62 = .ok (.aload_n 0, 1) := by decide +kernel
theorem dX7_reads_63 : decode cX7_reads 63 = .ok (.iconst 0, 1) := by decide +kernel
theorem dX7_reads_64 : decode cX7_reads 64 = .ok (.invokevirtual 34, 3) := by decide +kernel
theorem dX7_reads_67 : decode cX7_reads 67 = .ok (.ifCond .ne 5, 3) := by decide +kernel
theorem dX7_reads_70 : decode cX7_reads 70 = .ok (.iconst 0, 1) := by decide +kernel
theorem dX7_reads_71 : decode cX7_reads 71 = .ok (.ireturn, 1) := by decide +kernel
theorem dX7_reads_72 : decode cX7_reads 72 = .ok (.aload_n 0, 1) := by decide +kernel
theorem dX7_reads_73 : decode cX7_reads 73 = .ok (.invokevirtual 38, 3) := by decide +kernel
theorem dX7_reads_76 : decode cX7_reads 76 = .ok (.iconst (-1), 1) := by decide +kernel
theorem dX7_reads_77 : decode cX7_reads 77 = .ok (.if_icmp .eq 10, 3) := by decide +kernel
theorem dX7_reads_80 : decode cX7_reads 80 = .ok (.aload_n 0, 1) := by decide +kernel
theorem dX7_reads_81 : decode cX7_reads 81 = .ok (.invokevirtual 42, 3) := by decide +kernel
theorem dX7_reads_84 : decode cX7_reads 84 = .ok (.ifCond .eq 7, 3) := by decide +kernel
theorem dX7_reads_87 : decode cX7_reads 87 = .ok (.iconst 1, 1) := by decide +kernel
theorem dX7_reads_88 : decode cX7_reads 88 = .ok (.goto 4, 3) := by decide +kernel
theorem dX7_reads_91 : decode cX7_reads 91 = .ok (.iconst 0, 1) := by decide +kernel
theorem dX7_reads_92 : decode cX7_reads 92 = .ok (.ireturn, 1) := by decide +kernel
set_option maxRecDepth 100000 in
set_option maxHeartbeats 4000000 in
theorem wp_X7_reads {n0 d : Nat} {K : z_K} {I : z_I} {L : z_L} {Q : z_q} {p0 : Int32} (hL : CLay K) (h : RM0 n0 xX7_readSum d [.ref (n0 + 5), .int 0] K (zI (zI (zI (zI I 5 2 (-1)) 5 3 0) 5 4 p0) 5 6 0) L (fun vv I1 L2 => ∃ r3 : Int32, vv = some (.int r3) ∧ (if r3 = 0 then Q (some (.int 0)) I1 L2 else RM0 n0 xX7_next d [.ref (n0 + 5)] K I1 L2 (fun vv I5 L6 => ∃ r7 : Int32, vv = some (.int r7) ∧ (if r7 = 44 then RM0 n0 xX7_readSum d [.ref (n0 + 5), .int 0] K (zI (zI I5 5 3 ((I5 5 3) + 1)) 5 7 (I5 5 6)) L6 (fun vv I9 L10 => ∃ r11 : Int32, vv = some (.int r11) ∧ (if r11 = 0 then Q (some (.int 0)) I9 L10 else RM0 n0 xX7_next d [.ref (n0 + 5)] K I9 L10 (fun vv I13 L14 => ∃ r15 : Int32, vv = some (.int r15) ∧ (if r15 = (-1) then Q (some (.int 1)) I13 L14 else RM0 n0 xX7_failHere d [.ref (n0 + 5)] K I13 L14 (fun vv I17 L18 => ∃ r19 : Int32, vv = some (.int r19) ∧ Q (some (.int (if r19 = 0 then 0 else 1))) I17 L18))))) else RM0 n0 xX7_failHere d [.ref (n0 + 5)] K I5 L6 (fun vv I22 L23 => ∃ r24 : Int32, vv = some (.int r24) ∧ z_b r24 ∧ Q (some (.int r24)) I22 L23)))))) : RM0 n0 xX7_reads (d + 1) [.ref (n0 + 5), .int p0] K I L Q := by
  refine z_entry0 (by decide) (Nat.le_of_ble_eq_true rfl) ?_
  change Z n0 xX7_reads (d + 1) 0 0 0 [(0, .ref (n0 + 5)), (1, .int p0)] [] K I L (z_q0 K Q)
  refine z_aload_n 0 dX7_reads_0 rfl ?_
  refine z_iconst (-1) dX7_reads_1 (by decide) ?_
  refine fp_7_22 rfl dX7_reads_2 (co_5 hL).1 (co_5 hL).2 ?_
  refine z_aload_n 0 dX7_reads_5 rfl ?_
  refine z_iconst 0 dX7_reads_6 (by decide) ?_
  refine fp_7_25 rfl dX7_reads_7 (co_5 hL).1 (co_5 hL).2 ?_
  refine z_aload_n 0 dX7_reads_10 rfl ?_
  refine z_iload_n 1 dX7_reads_11 rfl ?_
  refine fp_7_28 rfl dX7_reads_12 (co_5 hL).1 (co_5 hL).2 ?_
  refine z_aload_n 0 dX7_reads_15 rfl ?_
  refine z_iconst 0 dX7_reads_16 (by decide) ?_
  refine fp_7_31 rfl dX7_reads_17 (co_5 hL).1 (co_5 hL).2 ?_
  refine z_aload_n 0 dX7_reads_20 rfl ?_
  refine z_iconst 0 dX7_reads_21 (by decide) ?_
  refine z_callV0 (As := [.int 0]) (st := []) dX7_reads_22 hy_X7_readSum (co_5 hL).1 (co_5 hL).2 (by decide) wg_667 wg_669 wg_7 (Nat.le_refl _) (Nat.le_of_ble_eq_true rfl) (RM0.mono h ?_)
  clear h
  intro vv I1 L2 h
  obtain ⟨r3, rfl, h⟩ := h
  change Z n0 xX7_reads (d + 1) 0 0 25 [(0, .ref (n0 + 5)), (1, .int p0)] [.int r3] K I1 L2 (z_q0 K Q)
  refine z_if_ne 30 dX7_reads_25 (by decide) (fun g4 => ?_) (fun g4 => ?_)
  · rw [if_neg g4] at h
    refine z_aload_n 0 dX7_reads_30 rfl ?_
    refine z_callV0 (As := []) (st := []) dX7_reads_31 hy_X7_next (co_5 hL).1 (co_5 hL).2 (by decide) wg_679 wg_681 wg_10 (Nat.le_refl _) (Nat.le_of_ble_eq_true rfl) (RM0.mono h ?_)
    clear h
    intro vv I5 L6 h
    obtain ⟨r7, rfl, h⟩ := h
    change Z n0 xX7_reads (d + 1) 0 0 34 [(0, .ref (n0 + 5)), (1, .int p0)] [.int r7] K I5 L6 (z_q0 K Q)
    refine z_bipush 44 dX7_reads_34 (by decide) ?_
    refine z_icmp_eq 44 dX7_reads_36 (by decide) (fun g8 => ?_) (fun g8 => ?_)
    · rw [if_pos g8] at h
      refine z_aload_n 0 dX7_reads_44 rfl ?_
      refine z_dup dX7_reads_45 rfl ?_
      refine fg_7_25 (I5 5 3) rfl dX7_reads_46 (co_5 hL).1 (co_5 hL).2 rfl ?_
      refine z_iconst 1 dX7_reads_49 (by decide) ?_
      refine z_iadd dX7_reads_50 ?_
      refine fp_7_25 rfl dX7_reads_51 (co_5 hL).1 (co_5 hL).2 ?_
      refine z_aload_n 0 dX7_reads_54 rfl ?_
      refine z_aload_n 0 dX7_reads_55 rfl ?_
      refine fg_7_31 (I5 5 6) rfl dX7_reads_56 (co_5 hL).1 (co_5 hL).2 rfl ?_
      refine fp_7_46 rfl dX7_reads_59 (co_5 hL).1 (co_5 hL).2 ?_
      refine z_aload_n 0 dX7_reads_62 rfl ?_
      refine z_iconst 0 dX7_reads_63 (by decide) ?_
      refine z_callV0 (As := [.int 0]) (st := []) dX7_reads_64 hy_X7_readSum (co_5 hL).1 (co_5 hL).2 (by decide) wg_667 wg_669 wg_7 (Nat.le_refl _) (Nat.le_of_ble_eq_true rfl) (RM0.mono h ?_)
      clear h
      intro vv I9 L10 h
      obtain ⟨r11, rfl, h⟩ := h
      change Z n0 xX7_reads (d + 1) 0 0 67 [(0, .ref (n0 + 5)), (1, .int p0)] [.int r11] K I9 L10 (z_q0 K Q)
      refine z_if_ne 72 dX7_reads_67 (by decide) (fun g12 => ?_) (fun g12 => ?_)
      · rw [if_neg g12] at h
        refine z_aload_n 0 dX7_reads_72 rfl ?_
        refine z_callV0 (As := []) (st := []) dX7_reads_73 hy_X7_next (co_5 hL).1 (co_5 hL).2 (by decide) wg_679 wg_681 wg_10 (Nat.le_refl _) (Nat.le_of_ble_eq_true rfl) (RM0.mono h ?_)
        clear h
        intro vv I13 L14 h
        obtain ⟨r15, rfl, h⟩ := h
        change Z n0 xX7_reads (d + 1) 0 0 76 [(0, .ref (n0 + 5)), (1, .int p0)] [.int r15] K I13 L14 (z_q0 K Q)
        refine z_iconst (-1) dX7_reads_76 (by decide) ?_
        refine z_icmp_eq 87 dX7_reads_77 (by decide) (fun g16 => ?_) (fun g16 => ?_)
        · rw [if_pos g16] at h
          refine z_iconst 1 dX7_reads_87 (by decide) ?_
          refine z_goto 92 dX7_reads_88 (by decide) ?_
          exact z_zretb dX7_reads_92 rfl (Or.inr rfl) ⟨rfl, h⟩
        · rw [if_neg g16] at h
          refine z_aload_n 0 dX7_reads_80 rfl ?_
          refine z_callV0 (As := []) (st := []) dX7_reads_81 hy_X7_failHere (co_5 hL).1 (co_5 hL).2 (by decide) wg_694 wg_696 wg_13 (Nat.le_refl _) (Nat.le_of_ble_eq_true rfl) (RM0.mono h ?_)
          clear h
          intro vv I17 L18 h
          obtain ⟨r19, rfl, h⟩ := h
          change Z n0 xX7_reads (d + 1) 0 0 84 [(0, .ref (n0 + 5)), (1, .int p0)] [.int r19] K I17 L18 (z_q0 K Q)
          have key21 : Z n0 xX7_reads (d + 1) 0 0 92 [] [.int (if r19 = 0 then 0 else 1)] K I17 L18 (z_q0 K Q) := by
            exact z_zretb dX7_reads_92 rfl (z_bite (by repeat' (first | exact Or.inl rfl | exact Or.inr rfl | split))) ⟨rfl, h⟩
          refine z_if_eq 91 dX7_reads_84 (by decide) (fun g20 => ?_) (fun g20 => ?_)
          · refine z_iconst 0 dX7_reads_91 (by decide) ?_
            have ee : ((if r19 = 0 then 0 else 1) : Int32) = 0 := by rw [if_pos g20]
            rw [ee] at key21
            clear ee
            refine z_sub [] rfl ?_
            exact key21
          · refine z_iconst 1 dX7_reads_87 (by decide) ?_
            refine z_goto 92 dX7_reads_88 (by decide) ?_
            have ee : ((if r19 = 0 then 0 else 1) : Int32) = 1 := by rw [if_neg g20]
            rw [ee] at key21
            clear ee
            refine z_sub [] rfl ?_
            exact key21
      · rw [if_pos g12] at h
        refine z_iconst 0 dX7_reads_70 (by decide) ?_
        exact z_zretb dX7_reads_71 rfl (Or.inl rfl) ⟨rfl, h⟩
    · rw [if_neg g8] at h
      refine z_aload_n 0 dX7_reads_39 rfl ?_
      refine z_callV0 (As := []) (st := []) dX7_reads_40 hy_X7_failHere (co_5 hL).1 (co_5 hL).2 (by decide) wg_694 wg_696 wg_13 (Nat.le_refl _) (Nat.le_of_ble_eq_true rfl) (RM0.mono h ?_)
      clear h
      intro vv I22 L23 h
      obtain ⟨r24, rfl, h⟩ := h
      change Z n0 xX7_reads (d + 1) 0 0 43 [(0, .ref (n0 + 5)), (1, .int p0)] [.int r24] K I22 L23 (z_q0 K Q)
      obtain ⟨o25, h⟩ := h
      exact z_zretb dX7_reads_43 rfl o25 ⟨rfl, h⟩
  · rw [if_pos g4] at h
    refine z_iconst 0 dX7_reads_28 (by decide) ?_
    exact z_zretb dX7_reads_29 rfl (Or.inl rfl) ⟨rfl, h⟩
theorem dX7_codeOfX_0 : decode cX7_codeOfX 0 = .ok (.aload_n 0, 1) := by decide +kernel
theorem dX7_codeOfX_1 : decode cX7_codeOfX 1 = .ok (.getfield 15, 3) := by decide +kernel
theorem dX7_codeOfX_4 : decode cX7_codeOfX 4 = .ok (.iconst 0, 1) := by decide +kernel
theorem dX7_codeOfX_5 : decode cX7_codeOfX 5 = .ok (.aload_n 0, 1) := by decide +kernel
theorem dX7_codeOfX_6 : decode cX7_codeOfX 6 = .ok (.getfield 46, 3) := by decide +kernel
theorem dX7_codeOfX_9 : decode cX7_codeOfX 9 = .ok (.invokestatic 49, 3) := by decide +kernel
theorem dX7_codeOfX_12 : decode cX7_codeOfX 12 = .ok (.areturn, 1) := by decide +kernel
set_option maxRecDepth 100000 in
set_option maxHeartbeats 4000000 in
theorem wp_X7_codeOfX {n0 d : Nat} {K : z_K} {I : z_I} {L : z_L} {Q : z_R}  (hL : CLay K) (h : RM n0 xJ7_copyOfRange_feecc d 1 60 [.ref (n0 + 7), .int 0, .int (I 5 7)] K I L (fun vv K3 I1 L2 => ∃ r4 : Nat, vv = some (.ref (n0 + r4)) ∧ CLay K3 ∧ Q (some (.ref (n0 + r4))) K3 I1 L2)) : RM n0 xX7_codeOfX (d + 1) 1 60 [.ref (n0 + 5)] K I L Q := by
  refine z_entry (by decide) (Nat.le_of_ble_eq_true rfl) ?_
  change Z n0 xX7_codeOfX (d + 1) 1 60 0 [(0, .ref (n0 + 5))] [] K I L Q
  refine z_aload_n 0 dX7_codeOfX_0 rfl ?_
  refine fg_7_15 (some 7) rfl dX7_codeOfX_1 (co_5 hL).1 (co_5 hL).2 (ca_7 hL).1 ?_
  refine z_iconst 0 dX7_codeOfX_4 (by decide) ?_
  refine z_aload_n 0 dX7_codeOfX_5 rfl ?_
  refine fg_7_46 (I 5 7) rfl dX7_codeOfX_6 (co_5 hL).1 (co_5 hL).2 rfl ?_
  refine z_callS (rc := 0) (rs := 0) (mc1 := 1) (ms1 := 60) (As := [.ref (n0 + 7), .int 0, .int (I 5 7)]) (st := []) dX7_codeOfX_9 hy_J7_copyOfRange_feecc wg_712 wg_713 (Nat.le_refl _) (Nat.le_of_ble_eq_true rfl) (RM.mono h ?_)
  clear h
  intro vv K3 I1 L2 h
  obtain ⟨r4, rfl, h⟩ := h
  obtain ⟨hL5, h⟩ := h
  change Z n0 xX7_codeOfX (d + 1) 0 0 12 [(0, .ref (n0 + 5))] [.ref (n0 + r4)] K3 I1 L2 Q
  exact z_aret (o := (some r4)) dX7_codeOfX_12 rfl (Or.inr ⟨_, rfl⟩) h
theorem dX7_codeOfY_0 : decode cX7_codeOfY 0 = .ok (.aload_n 0, 1) := by decide +kernel
theorem dX7_codeOfY_1 : decode cX7_codeOfY 1 = .ok (.getfield 15, 3) := by decide +kernel
theorem dX7_codeOfY_4 : decode cX7_codeOfY 4 = .ok (.aload_n 0, 1) := by decide +kernel
theorem dX7_codeOfY_5 : decode cX7_codeOfY 5 = .ok (.getfield 46, 3) := by decide +kernel
theorem dX7_codeOfY_8 : decode cX7_codeOfY 8 = .ok (.aload_n 0, 1) := by decide +kernel
theorem dX7_codeOfY_9 : decode cX7_codeOfY 9 = .ok (.getfield 31, 3) := by decide +kernel
theorem dX7_codeOfY_12 : decode cX7_codeOfY 12 = .ok (.invokestatic 49, 3) := by decide +kernel
theorem dX7_codeOfY_15 : decode cX7_codeOfY 15 = .ok (.areturn, 1) := by decide +kernel
set_option maxRecDepth 100000 in
set_option maxHeartbeats 4000000 in
theorem wp_X7_codeOfY {n0 d : Nat} {K : z_K} {I : z_I} {L : z_L} {Q : z_R}  (hL : CLay K) (h : RM n0 xJ7_copyOfRange_feecc d 1 60 [.ref (n0 + 7), .int (I 5 7), .int (I 5 6)] K I L (fun vv K3 I1 L2 => ∃ r4 : Nat, vv = some (.ref (n0 + r4)) ∧ CLay K3 ∧ Q (some (.ref (n0 + r4))) K3 I1 L2)) : RM n0 xX7_codeOfY (d + 1) 1 60 [.ref (n0 + 5)] K I L Q := by
  refine z_entry (by decide) (Nat.le_of_ble_eq_true rfl) ?_
  change Z n0 xX7_codeOfY (d + 1) 1 60 0 [(0, .ref (n0 + 5))] [] K I L Q
  refine z_aload_n 0 dX7_codeOfY_0 rfl ?_
  refine fg_7_15 (some 7) rfl dX7_codeOfY_1 (co_5 hL).1 (co_5 hL).2 (ca_7 hL).1 ?_
  refine z_aload_n 0 dX7_codeOfY_4 rfl ?_
  refine fg_7_46 (I 5 7) rfl dX7_codeOfY_5 (co_5 hL).1 (co_5 hL).2 rfl ?_
  refine z_aload_n 0 dX7_codeOfY_8 rfl ?_
  refine fg_7_31 (I 5 6) rfl dX7_codeOfY_9 (co_5 hL).1 (co_5 hL).2 rfl ?_
  refine z_callS (rc := 0) (rs := 0) (mc1 := 1) (ms1 := 60) (As := [.ref (n0 + 7), .int (I 5 7), .int (I 5 6)]) (st := []) dX7_codeOfY_12 hy_J7_copyOfRange_feecc wg_712 wg_713 (Nat.le_refl _) (Nat.le_of_ble_eq_true rfl) (RM.mono h ?_)
  clear h
  intro vv K3 I1 L2 h
  obtain ⟨r4, rfl, h⟩ := h
  obtain ⟨hL5, h⟩ := h
  change Z n0 xX7_codeOfY (d + 1) 0 0 15 [(0, .ref (n0 + 5))] [.ref (n0 + r4)] K3 I1 L2 Q
  exact z_aret (o := (some r4)) dX7_codeOfY_15 rfl (Or.inr ⟨_, rfl⟩) h
theorem dX7_next_0 : decode cX7_next 0 = .ok (.aload_n 0, 1) := by decide +kernel
theorem dX7_next_1 : decode cX7_next 1 = .ok (.getfield 25, 3) := by decide +kernel
theorem dX7_next_4 : decode cX7_next 4 = .ok (.aload_n 0, 1) := by decide +kernel
theorem dX7_next_5 : decode cX7_next 5 = .ok (.getfield 18, 3) := by decide +kernel
theorem dX7_next_8 : decode cX7_next 8 = .ok (.if_icmp .ge 15, 3) := by decide +kernel
theorem dX7_next_11 : decode cX7_next 11 = .ok (.aload_n 0, 1) := by decide +kernel
theorem dX7_next_12 : decode cX7_next 12 = .ok (.getfield 9, 3) := by decide +kernel
theorem dX7_next_15 : decode cX7_next 15 = .ok (.aload_n 0, 1) := by decide +kernel
theorem dX7_next_16 : decode cX7_next 16 = .ok (.getfield 25, 3) := by decide +kernel
theorem dX7_next_19 : decode cX7_next 19 = .ok (.iaload, 1) := by decide +kernel
theorem dX7_next_20 : decode cX7_next 20 = .ok (.goto 4, 3) := by decide +kernel
theorem dX7_next_23 : decode cX7_next 23 = .ok (.iconst (-1), 1) := by decide +kernel
theorem dX7_next_24 : decode cX7_next 24 = .ok (.ireturn, 1) := by decide +kernel
set_option maxRecDepth 100000 in
set_option maxHeartbeats 4000000 in
theorem wp_X7_next {n0 d : Nat} {K : z_K} {I : z_I} {L : z_L} {Q : z_q}  (hL : CLay K) (h : (((I 5 3) : Int32) < (I 5 1) → vp_in (I 5 3) 60) ∧ Q (some (.int (if ((I 5 3) : Int32) < (I 5 1) then (I 6 ((I 5 3).toNatClampNeg)) else (-1)))) I L) : RM0 n0 xX7_next d [.ref (n0 + 5)] K I L Q := by
  refine z_entry0 (by decide) (Nat.le_of_ble_eq_true rfl) ?_
  change Z n0 xX7_next d 0 0 0 [(0, .ref (n0 + 5))] [] K I L (z_q0 K Q)
  refine z_aload_n 0 dX7_next_0 rfl ?_
  refine fg_7_25 (I 5 3) rfl dX7_next_1 (co_5 hL).1 (co_5 hL).2 rfl ?_
  refine z_aload_n 0 dX7_next_4 rfl ?_
  refine fg_7_18 (I 5 1) rfl dX7_next_5 (co_5 hL).1 (co_5 hL).2 rfl ?_
  obtain ⟨o2, h⟩ := h
  have key3 : Z n0 xX7_next d 0 0 24 [] [.int (if ((I 5 3) : Int32) < (I 5 1) then (I 6 ((I 5 3).toNatClampNeg)) else (-1))] K I L (z_q0 K Q) := by
    exact z_iret dX7_next_24 rfl ⟨rfl, h⟩
  refine z_icmp_ge 23 dX7_next_8 (by decide) (fun g1 => ?_) (fun g1 => ?_)
  · refine z_iconst (-1) dX7_next_23 (by decide) ?_
    have ee : ((if ((I 5 3) : Int32) < (I 5 1) then (I 6 ((I 5 3).toNatClampNeg)) else (-1)) : Int32) = (-1) := by rw [if_neg g1]
    rw [ee] at key3
    clear ee
    refine z_sub [] rfl ?_
    exact key3
  · refine z_aload_n 0 dX7_next_11 rfl ?_
    refine fg_7_9 (some 6) rfl dX7_next_12 (co_5 hL).1 (co_5 hL).2 (ca_6 hL).1 ?_
    refine z_aload_n 0 dX7_next_15 rfl ?_
    refine fg_7_25 (I 5 3) rfl dX7_next_16 (co_5 hL).1 (co_5 hL).2 rfl ?_
    refine z_iald (I 6 ((I 5 3).toNatClampNeg)) dX7_next_19 (ca_6 hL).2.1 (ca_6 hL).2.2 (o2 g1) rfl ?_
    refine z_goto 24 dX7_next_20 (by decide) ?_
    have ee : ((if ((I 5 3) : Int32) < (I 5 1) then (I 6 ((I 5 3).toNatClampNeg)) else (-1)) : Int32) = (I 6 ((I 5 3).toNatClampNeg)) := by rw [if_pos g1]
    rw [ee] at key3
    clear ee
    refine z_sub [] rfl ?_
    exact key3
theorem dX7_failHere_0 : decode cX7_failHere 0 = .ok (.aload_n 0, 1) := by decide +kernel
theorem dX7_failHere_1 : decode cX7_failHere 1 = .ok (.aload_n 0, 1) := by decide +kernel
theorem dX7_failHere_2 : decode cX7_failHere 2 = .ok (.getfield 25, 3) := by decide +kernel
theorem dX7_failHere_5 : decode cX7_failHere 5 = .ok (.putfield 22, 3) := by decide +kernel
theorem dX7_failHere_8 : decode cX7_failHere 8 = .ok (.iconst 0, 1) := by decide +kernel
theorem dX7_failHere_9 : decode cX7_failHere 9 = .ok (.ireturn, 1) := by decide +kernel
set_option maxRecDepth 100000 in
set_option maxHeartbeats 4000000 in
theorem wp_X7_failHere {n0 d : Nat} {K : z_K} {I : z_I} {L : z_L} {Q : z_q}  (hL : CLay K) (h : Q (some (.int 0)) (zI I 5 2 (I 5 3)) L) : RM0 n0 xX7_failHere d [.ref (n0 + 5)] K I L Q := by
  refine z_entry0 (by decide) (Nat.le_of_ble_eq_true rfl) ?_
  change Z n0 xX7_failHere d 0 0 0 [(0, .ref (n0 + 5))] [] K I L (z_q0 K Q)
  refine z_aload_n 0 dX7_failHere_0 rfl ?_
  refine z_aload_n 0 dX7_failHere_1 rfl ?_
  refine fg_7_25 (I 5 3) rfl dX7_failHere_2 (co_5 hL).1 (co_5 hL).2 rfl ?_
  refine fp_7_22 rfl dX7_failHere_5 (co_5 hL).1 (co_5 hL).2 ?_
  refine z_iconst 0 dX7_failHere_8 (by decide) ?_
  exact z_zretb dX7_failHere_9 rfl (Or.inl rfl) ⟨rfl, h⟩
theorem dX7_emit_0 : decode cX7_emit 0 = .ok (.aload_n 0, 1) := by decide +kernel
theorem dX7_emit_1 : decode cX7_emit 1 = .ok (.getfield 31, 3) := by decide +kernel
theorem dX7_emit_4 : decode cX7_emit 4 = .ok (.bipush 60, 2) := by decide +kernel
theorem dX7_emit_6 : decode cX7_emit 6 = .ok (.if_icmp .lt 8, 3) := by decide +kernel
theorem dX7_emit_9 : decode cX7_emit 9 = .ok (.aload_n 0, 1) := by decide +kernel
theorem dX7_emit_10 : decode cX7_emit 10 = .ok (.invokevirtual 42, 3) := by decide +kernel
theorem dX7_emit_13 : decode cX7_emit 13 = .ok (.ireturn, 1) := by decide +kernel
theorem dX7_emit_14 : decode cX7_emit 14 = .ok (.aload_n 0, 1) := by decide +kernel
theorem dX7_emit_15 : decode cX7_emit 15 = .ok (.getfield 15, 3) := by decide +kernel
theorem dX7_emit_18 : decode cX7_emit 18 = .ok (.aload_n 0, 1) := by decide +kernel
theorem dX7_emit_19 : decode cX7_emit 19 = .ok (.getfield 31, 3) := by decide +kernel
theorem dX7_emit_22 : decode cX7_emit 22 = .ok (.iload_n 1, 1) := by decide +kernel
theorem dX7_emit_23 : decode cX7_emit 23 = .ok (.iastore, 1) := by decide +kernel
theorem dX7_emit_24 : decode cX7_emit 24 = .ok (.aload_n 0, 1) := by decide +kernel
theorem dX7_emit_25 : decode cX7_emit 25 = .ok (.dup, 1) := by decide +kernel
theorem dX7_emit_26 : decode cX7_emit 26 = .ok (.getfield 31, 3) := by decide +kernel
theorem dX7_emit_29 : decode cX7_emit 29 = .ok (.iconst 1, 1) := by decide +kernel
theorem dX7_emit_30 : decode cX7_emit 30 = .ok (.iadd, 1) := by decide +kernel
theorem dX7_emit_31 : decode cX7_emit 31 = .ok (.putfield 31, 3) := by decide +kernel
theorem dX7_emit_34 : decode cX7_emit 34 = .ok (.iconst 1, 1) := by decide +kernel
theorem dX7_emit_35 : decode cX7_emit 35 = .ok (.ireturn, 1) := by decide +kernel
set_option maxRecDepth 100000 in
set_option maxHeartbeats 4000000 in
theorem wp_X7_emit {n0 d : Nat} {K : z_K} {I : z_I} {L : z_L} {Q : z_q} {p0 : Int32} (hL : CLay K) (h : (if ((I 5 6) : Int32) < 60 then vp_in (I 5 6) 60 ∧ Q (some (.int 1)) (zI (zI I 7 ((I 5 6).toNatClampNeg) p0) 5 6 ((I 5 6) + 1)) L else RM0 n0 xX7_failHere d [.ref (n0 + 5)] K I L (fun vv I3 L4 => ∃ r5 : Int32, vv = some (.int r5) ∧ z_b r5 ∧ Q (some (.int r5)) I3 L4))) : RM0 n0 xX7_emit (d + 1) [.ref (n0 + 5), .int p0] K I L Q := by
  refine z_entry0 (by decide) (Nat.le_of_ble_eq_true rfl) ?_
  change Z n0 xX7_emit (d + 1) 0 0 0 [(0, .ref (n0 + 5)), (1, .int p0)] [] K I L (z_q0 K Q)
  refine z_aload_n 0 dX7_emit_0 rfl ?_
  refine fg_7_31 (I 5 6) rfl dX7_emit_1 (co_5 hL).1 (co_5 hL).2 rfl ?_
  refine z_bipush 60 dX7_emit_4 (by decide) ?_
  refine z_icmp_lt 14 dX7_emit_6 (by decide) (fun g1 => ?_) (fun g1 => ?_)
  · rw [if_pos g1] at h
    refine z_aload_n 0 dX7_emit_14 rfl ?_
    refine fg_7_15 (some 7) rfl dX7_emit_15 (co_5 hL).1 (co_5 hL).2 (ca_7 hL).1 ?_
    refine z_aload_n 0 dX7_emit_18 rfl ?_
    refine fg_7_31 (I 5 6) rfl dX7_emit_19 (co_5 hL).1 (co_5 hL).2 rfl ?_
    refine z_iload_n 1 dX7_emit_22 rfl ?_
    obtain ⟨o2, h⟩ := h
    refine z_iast dX7_emit_23 (ca_7 hL).2.1 (ca_7 hL).2.2 o2 ?_
    refine z_aload_n 0 dX7_emit_24 rfl ?_
    refine z_dup dX7_emit_25 rfl ?_
    refine fg_7_31 (I 5 6) rfl dX7_emit_26 (co_5 hL).1 (co_5 hL).2 rfl ?_
    refine z_iconst 1 dX7_emit_29 (by decide) ?_
    refine z_iadd dX7_emit_30 ?_
    refine fp_7_31 rfl dX7_emit_31 (co_5 hL).1 (co_5 hL).2 ?_
    refine z_iconst 1 dX7_emit_34 (by decide) ?_
    exact z_zretb dX7_emit_35 rfl (Or.inr rfl) ⟨rfl, h⟩
  · rw [if_neg g1] at h
    refine z_aload_n 0 dX7_emit_9 rfl ?_
    refine z_callV0 (As := []) (st := []) dX7_emit_10 hy_X7_failHere (co_5 hL).1 (co_5 hL).2 (by decide) wg_694 wg_696 wg_13 (Nat.le_refl _) (Nat.le_of_ble_eq_true rfl) (RM0.mono h ?_)
    clear h
    intro vv I3 L4 h
    obtain ⟨r5, rfl, h⟩ := h
    change Z n0 xX7_emit (d + 1) 0 0 13 [(0, .ref (n0 + 5)), (1, .int p0)] [.int r5] K I3 L4 (z_q0 K Q)
    obtain ⟨o6, h⟩ := h
    exact z_zretb dX7_emit_13 rfl o6 ⟨rfl, h⟩
theorem dX7_readSum_0 : decode cX7_readSum 0 = .ok (.aload_n 0, 1) := by decide +kernel
theorem dX7_readSum_1 : decode cX7_readSum 1 = .ok (.iload_n 1, 1) := by decide +kernel
theorem dX7_readSum_2 : decode cX7_readSum 2 = .ok (.invokevirtual 55, 3) := by decide +kernel
theorem dX7_readSum_5 : decode cX7_readSum 5 = .ok (.istore_n 2, 1) := by decide +kernel
theorem dX7_readSum_6 : decode cX7_readSum 6 = .ok (.iconst 0, 1) := by decide +kernel
theorem dX7_readSum_7 : decode cX7_readSum 7 = .ok (.istore_n 3, 1) := by decide +kernel
theorem dX7_readSum_8 : decode cX7_readSum 8 = .ok (.iload_n 2, 1) := by decide +kernel
theorem dX7_readSum_9 : decode cX7_readSum 9 = .ok (.ifCond .eq 86, 3) := by decide +kernel
theorem dX7_readSum_12 : decode cX7_readSum 12 = .ok (.iload_n 3, 1) := by decide +kernel
theorem dX7_readSum_13 : decode cX7_readSum 13 = .ok (.bipush 60, 2) := by decide +kernel
theorem dX7_readSum_15 : decode cX7_readSum 15 = .ok (.if_icmp .ge 80, 3) := by decide +kernel
theorem dX7_readSum_18 : decode cX7_readSum 18 = .ok (.aload_n 0, 1) := by decide +kernel
theorem dX7_readSum_19 : decode cX7_readSum 19 = .ok (.invokevirtual 38, 3) := by decide +kernel
theorem dX7_readSum_22 : decode cX7_readSum 22 = .ok (.bipush 43, 2) := by decide +kernel
theorem dX7_readSum_24 : decode cX7_readSum 24 = .ok (.if_icmp .eq 12, 3) := by decide +kernel
theorem dX7_readSum_27 : decode cX7_readSum 27 = .ok (.aload_n 0, 1) := by decide +kernel
theorem dX7_readSum_28 : decode cX7_readSum 28 = .ok (.invokevirtual 38, 3) := by decide +kernel
theorem dX7_readSum_31 : decode cX7_readSum 31 = .ok (.bipush 45, 2) := by decide +kernel
theorem dX7_readSum_33 : decode cX7_readSum 33 = .ok (.if_icmp .ne 62, 3) := by decide +kernel
theorem dX7_readSum_36 : decode cX7_readSum 36 = .ok (.aload_n 0, 1) := by decide +kernel
theorem dX7_readSum_37 : decode cX7_readSum 37 = .ok (.invokevirtual 38, 3) := by decide +kernel
theorem dX7_readSum_40 : decode cX7_readSum 40 = .ok (.bipush 43, 2) := by decide +kernel
theorem dX7_readSum_42 : decode cX7_readSum 42 = .ok (.if_icmp .ne 9, 3) := by decide +kernel
theorem dX7_readSum_45 : decode cX7_readSum 45 = .ok (.sipush 10030, 3) := by decide +kernel
theorem dX7_readSum_48 : decode cX7_readSum 48 = .ok (.goto 6, 3) := by decide +kernel
theorem dX7_readSum_51 : decode cX7_readSum 51 = .ok (.sipush 10031, 3) := by decide +kernel
theorem dX7_readSum_54 : decode cX7_readSum 54 = .ok (.istore 4, 2) := by decide +kernel
theorem dX7_readSum_56 : decode cX7_readSum 56 = .ok (.aload_n 0, 1) := by decide +kernel
theorem dX7_readSum_57 : decode cX7_readSum 57 = .ok (.dup, 1) := by decide +kernel
theorem dX7_readSum_58 : decode cX7_readSum 58 = .ok (.getfield 25, 3) := by decide +kernel
theorem dX7_readSum_61 : decode cX7_readSum 61 = .ok (.iconst 1, 1) := by decide +kernel
theorem dX7_readSum_62 : decode cX7_readSum 62 = .ok (.iadd, 1) := by decide +kernel
theorem dX7_readSum_63 : decode cX7_readSum 63 = .ok (.putfield 25, 3) := by decide +kernel
theorem dX7_readSum_66 : decode cX7_readSum 66 = .ok (.aload_n 0, 1) := by decide +kernel
theorem dX7_readSum_67 : decode cX7_readSum 67 = .ok (.iload_n 1, 1) := by decide +kernel
theorem dX7_readSum_68 : decode cX7_readSum 68 = .ok (.invokevirtual 55, 3) := by decide +kernel
theorem dX7_readSum_71 : decode cX7_readSum 71 = .ok (.ifCond .eq 16, 3) := by decide +kernel
theorem dX7_readSum_74 : decode cX7_readSum 74 = .ok (.aload_n 0, 1) := by decide +kernel
theorem dX7_readSum_75 : decode cX7_readSum 75 = .ok (.iload 4, 2) := by decide +kernel
theorem dX7_readSum_77 : decode cX7_readSum 77 = .ok (.invokevirtual 58, 3) := by decide +kernel
theorem dX7_readSum_80 : decode cX7_readSum 80 = .ok (.ifCond .eq 7, 3) := by decide +kernel
theorem dX7_readSum_83 : decode cX7_readSum 83 = .ok (.iconst 1, 1) := by decide +kernel
theorem dX7_readSum_84 : decode cX7_readSum 84 = .ok (.goto 4, 3) := by decide +kernel
theorem dX7_readSum_87 : decode cX7_readSum 87 = .ok (.iconst 0, 1) := by decide +kernel
theorem dX7_readSum_88 : decode cX7_readSum 88 = .ok (.istore_n 2, 1) := by decide +kernel
theorem dX7_readSum_89 : decode cX7_readSum 89 = .ok (.iinc 3 1, 3) := by decide +kernel
theorem dX7_readSum_92 : decode cX7_readSum 92 = .ok (.goto (-84), 3) := by decide +kernel
theorem dX7_readSum_95 : decode cX7_readSum 95 = .ok (.iload_n 2, 1) := by decide +kernel
theorem dX7_readSum_96 : decode cX7_readSum 96 = .ok (.ireturn, 1) := by decide +kernel
set_option maxRecDepth 100000 in
set_option maxHeartbeats 4000000 in
theorem wp_X7_readSum {n0 d : Nat} {K : z_K} {I : z_I} {L : z_L} {Q : z_q} {p0 : Int32} (hL : CLay K) (h : RM0 n0 xX7_readTerm d [.ref (n0 + 5), .int p0] K I L (fun vv I1 L2 => ∃ r3 : Int32, vv = some (.int r3) ∧ Z n0 xX7_readSum (d + 1) 0 0 8 [(0, .ref (n0 + 5)), (1, .int p0), (2, .int r3), (3, .int 0)] [] K I1 L2 (z_q0 K Q))) : RM0 n0 xX7_readSum (d + 1) [.ref (n0 + 5), .int p0] K I L Q := by
  refine z_entry0 (by decide) (Nat.le_of_ble_eq_true rfl) ?_
  change Z n0 xX7_readSum (d + 1) 0 0 0 [(0, .ref (n0 + 5)), (1, .int p0)] [] K I L (z_q0 K Q)
  refine z_aload_n 0 dX7_readSum_0 rfl ?_
  refine z_iload_n 1 dX7_readSum_1 rfl ?_
  refine z_callV0 (As := [.int p0]) (st := []) dX7_readSum_2 hy_X7_readTerm (co_5 hL).1 (co_5 hL).2 (by decide) wg_671 wg_673 wg_8 (Nat.le_refl _) (Nat.le_of_ble_eq_true rfl) (RM0.mono h ?_)
  clear h
  intro vv I1 L2 h
  obtain ⟨r3, rfl, h⟩ := h
  change Z n0 xX7_readSum (d + 1) 0 0 5 [(0, .ref (n0 + 5)), (1, .int p0)] [.int r3] K I1 L2 (z_q0 K Q)
  refine z_istore_n [1, 2, 0] [(0, .ref (n0 + 5)), (1, .int p0), (2, .int r3)] dX7_readSum_5 (by decide) rfl ?_
  refine z_iconst 0 dX7_readSum_6 (by decide) ?_
  refine z_istore_n [1, 2, 3, 0] [(0, .ref (n0 + 5)), (1, .int p0), (2, .int r3), (3, .int 0)] dX7_readSum_7 (by decide) rfl ?_
  exact h
set_option maxRecDepth 100000 in
set_option maxHeartbeats 4000000 in
theorem wp_X7_readSum_8 {n0 d : Nat} {rc rs : Nat} {K : z_K} {I : z_I} {L : z_L} {Q : z_q} {a1 : Int32} {a2 : Int32} {a3 : Int32} (hL : CLay K) (h : (if a2 = 0 then z_b a2 ∧ Q (some (.int a2)) I L else (if a3 < 60 then RM0 n0 xX7_next d [.ref (n0 + 5)] K I L (fun vv I5 L6 => ∃ r7 : Int32, vv = some (.int r7) ∧ (if r7 = 43 then RM0 n0 xX7_next d [.ref (n0 + 5)] K I5 L6 (fun vv I9 L10 => ∃ r11 : Int32, vv = some (.int r11) ∧ RM0 n0 xX7_readTerm d [.ref (n0 + 5), .int a1] K (zI I9 5 3 ((I9 5 3) + 1)) L10 (fun vv I14 L15 => ∃ r16 : Int32, vv = some (.int r16) ∧ (if r16 = 0 then Z n0 xX7_readSum (d + 1) rc rs 8 [(0, .ref (n0 + 5)), (1, .int a1), (2, .int 0), (3, .int (a3 + 1))] [] K I14 L15 (z_q0 K Q) else RM0 n0 xX7_emit d [.ref (n0 + 5), .int (if r11 = 43 then 10030 else 10031)] K I14 L15 (fun vv I18 L19 => ∃ r20 : Int32, vv = some (.int r20) ∧ Z n0 xX7_readSum (d + 1) rc rs 8 [(0, .ref (n0 + 5)), (1, .int a1), (2, .int (if r20 = 0 then 0 else 1)), (3, .int (a3 + 1))] [] K I18 L19 (z_q0 K Q))))) else RM0 n0 xX7_next d [.ref (n0 + 5)] K I5 L6 (fun vv I23 L24 => ∃ r25 : Int32, vv = some (.int r25) ∧ (if r25 = 45 then RM0 n0 xX7_next d [.ref (n0 + 5)] K I23 L24 (fun vv I28 L29 => ∃ r30 : Int32, vv = some (.int r30) ∧ RM0 n0 xX7_readTerm d [.ref (n0 + 5), .int a1] K (zI I28 5 3 ((I28 5 3) + 1)) L29 (fun vv I33 L34 => ∃ r35 : Int32, vv = some (.int r35) ∧ (if r35 = 0 then Z n0 xX7_readSum (d + 1) rc rs 8 [(0, .ref (n0 + 5)), (1, .int a1), (2, .int 0), (3, .int (a3 + 1))] [] K I33 L34 (z_q0 K Q) else RM0 n0 xX7_emit d [.ref (n0 + 5), .int (if r30 = 43 then 10030 else 10031)] K I33 L34 (fun vv I37 L38 => ∃ r39 : Int32, vv = some (.int r39) ∧ Z n0 xX7_readSum (d + 1) rc rs 8 [(0, .ref (n0 + 5)), (1, .int a1), (2, .int (if r39 = 0 then 0 else 1)), (3, .int (a3 + 1))] [] K I37 L38 (z_q0 K Q))))) else z_b a2 ∧ Q (some (.int a2)) I23 L24)))) else z_b a2 ∧ Q (some (.int a2)) I L))) : Z n0 xX7_readSum (d + 1) rc rs 8 [(0, .ref (n0 + 5)), (1, .int a1), (2, .int a2), (3, .int a3)] [] K I L (z_q0 K Q) := by
  refine z_iload_n 2 dX7_readSum_8 rfl ?_
  refine z_if_eq 95 dX7_readSum_9 (by decide) (fun g1 => ?_) (fun g1 => ?_)
  · rw [if_pos g1] at h
    refine z_iload_n 2 dX7_readSum_95 rfl ?_
    obtain ⟨o2, h⟩ := h
    exact z_zretb dX7_readSum_96 rfl o2 ⟨rfl, h⟩
  · rw [if_neg g1] at h
    refine z_iload_n 3 dX7_readSum_12 rfl ?_
    refine z_bipush 60 dX7_readSum_13 (by decide) ?_
    refine z_icmp_ge 95 dX7_readSum_15 (by decide) (fun g3 => ?_) (fun g3 => ?_)
    · rw [if_neg g3] at h
      refine z_iload_n 2 dX7_readSum_95 rfl ?_
      obtain ⟨o4, h⟩ := h
      exact z_zretb dX7_readSum_96 rfl o4 ⟨rfl, h⟩
    · rw [if_pos g3] at h
      refine z_aload_n 0 dX7_readSum_18 rfl ?_
      refine z_callV0 (As := []) (st := []) dX7_readSum_19 hy_X7_next (co_5 hL).1 (co_5 hL).2 (by decide) wg_679 wg_681 wg_10 (Nat.le_refl _) (Nat.le_of_ble_eq_true rfl) (RM0.mono h ?_)
      clear h
      intro vv I5 L6 h
      obtain ⟨r7, rfl, h⟩ := h
      change Z n0 xX7_readSum (d + 1) rc rs 22 [(0, .ref (n0 + 5)), (1, .int a1), (2, .int a2), (3, .int a3)] [.int r7] K I5 L6 (z_q0 K Q)
      refine z_bipush 43 dX7_readSum_22 (by decide) ?_
      refine z_icmp_eq 36 dX7_readSum_24 (by decide) (fun g8 => ?_) (fun g8 => ?_)
      · rw [if_pos g8] at h
        refine z_aload_n 0 dX7_readSum_36 rfl ?_
        refine z_callV0 (As := []) (st := []) dX7_readSum_37 hy_X7_next (co_5 hL).1 (co_5 hL).2 (by decide) wg_679 wg_681 wg_10 (Nat.le_refl _) (Nat.le_of_ble_eq_true rfl) (RM0.mono h ?_)
        clear h
        intro vv I9 L10 h
        obtain ⟨r11, rfl, h⟩ := h
        change Z n0 xX7_readSum (d + 1) rc rs 40 [(0, .ref (n0 + 5)), (1, .int a1), (2, .int a2), (3, .int a3)] [.int r11] K I9 L10 (z_q0 K Q)
        refine z_bipush 43 dX7_readSum_40 (by decide) ?_
        have key13 : Z n0 xX7_readSum (d + 1) rc rs 54 [(0, .ref (n0 + 5)), (1, .int a1), (3, .int a3)] [.int (if r11 = 43 then 10030 else 10031)] K I9 L10 (z_q0 K Q) := by
          refine z_istore [1, 2, 3, 0] [(0, .ref (n0 + 5)), (1, .int a1), (3, .int a3), (4, .int (if r11 = 43 then 10030 else 10031))] dX7_readSum_54 (by decide) rfl ?_
          refine z_aload_n 0 dX7_readSum_56 rfl ?_
          refine z_dup dX7_readSum_57 rfl ?_
          refine fg_7_25 (I9 5 3) rfl dX7_readSum_58 (co_5 hL).1 (co_5 hL).2 rfl ?_
          refine z_iconst 1 dX7_readSum_61 (by decide) ?_
          refine z_iadd dX7_readSum_62 ?_
          refine fp_7_25 rfl dX7_readSum_63 (co_5 hL).1 (co_5 hL).2 ?_
          refine z_aload_n 0 dX7_readSum_66 rfl ?_
          refine z_iload_n 1 dX7_readSum_67 rfl ?_
          refine z_callV0 (As := [.int a1]) (st := []) dX7_readSum_68 hy_X7_readTerm (co_5 hL).1 (co_5 hL).2 (by decide) wg_671 wg_673 wg_8 (Nat.le_refl _) (Nat.le_of_ble_eq_true rfl) (RM0.mono h ?_)
          clear h
          intro vv I14 L15 h
          obtain ⟨r16, rfl, h⟩ := h
          change Z n0 xX7_readSum (d + 1) rc rs 71 [(0, .ref (n0 + 5)), (1, .int a1), (3, .int a3), (4, .int (if r11 = 43 then 10030 else 10031))] [.int r16] K I14 L15 (z_q0 K Q)
          refine z_if_eq 87 dX7_readSum_71 (by decide) (fun g17 => ?_) (fun g17 => ?_)
          · rw [if_pos g17] at h
            refine z_iconst 0 dX7_readSum_87 (by decide) ?_
            refine z_istore_n [1, 2, 0, 3, 4] [(0, .ref (n0 + 5)), (1, .int a1), (2, .int 0), (3, .int a3), (4, .int (if r11 = 43 then 10030 else 10031))] dX7_readSum_88 (by decide) rfl ?_
            refine z_iinc (j := 3) (a3 + 1) [1, 2, 3, 0, 4] [(0, .ref (n0 + 5)), (1, .int a1), (2, .int 0), (3, .int (a3 + 1)), (4, .int (if r11 = 43 then 10030 else 10031))] dX7_readSum_89 rfl rfl (by decide) rfl ?_
            refine z_goto 8 dX7_readSum_92 (by decide) ?_
            refine z_sub [0, 1, 2, 3] rfl ?_
            exact h
          · rw [if_neg g17] at h
            refine z_aload_n 0 dX7_readSum_74 rfl ?_
            refine z_iload 3 dX7_readSum_75 rfl ?_
            refine z_callV0 (As := [.int (if r11 = 43 then 10030 else 10031)]) (st := []) dX7_readSum_77 hy_X7_emit (co_5 hL).1 (co_5 hL).2 (by decide) wg_690 wg_692 wg_12 (Nat.le_refl _) (Nat.le_of_ble_eq_true rfl) (RM0.mono h ?_)
            clear h
            intro vv I18 L19 h
            obtain ⟨r20, rfl, h⟩ := h
            change Z n0 xX7_readSum (d + 1) rc rs 80 [(0, .ref (n0 + 5)), (1, .int a1), (3, .int a3), (4, .int (if r11 = 43 then 10030 else 10031))] [.int r20] K I18 L19 (z_q0 K Q)
            have key22 : Z n0 xX7_readSum (d + 1) rc rs 88 [(0, .ref (n0 + 5)), (1, .int a1), (3, .int a3)] [.int (if r20 = 0 then 0 else 1)] K I18 L19 (z_q0 K Q) := by
              refine z_istore_n [1, 2, 0, 3] [(0, .ref (n0 + 5)), (1, .int a1), (2, .int (if r20 = 0 then 0 else 1)), (3, .int a3)] dX7_readSum_88 (by decide) rfl ?_
              refine z_iinc (j := 3) (a3 + 1) [1, 2, 3, 0] [(0, .ref (n0 + 5)), (1, .int a1), (2, .int (if r20 = 0 then 0 else 1)), (3, .int (a3 + 1))] dX7_readSum_89 rfl rfl (by decide) rfl ?_
              refine z_goto 8 dX7_readSum_92 (by decide) ?_
              exact h
            refine z_if_eq 87 dX7_readSum_80 (by decide) (fun g21 => ?_) (fun g21 => ?_)
            · refine z_iconst 0 dX7_readSum_87 (by decide) ?_
              have ee : ((if r20 = 0 then 0 else 1) : Int32) = 0 := by rw [if_pos g21]
              rw [ee] at key22
              clear ee
              refine z_sub [0, 1, 2] rfl ?_
              exact key22
            · refine z_iconst 1 dX7_readSum_83 (by decide) ?_
              refine z_goto 88 dX7_readSum_84 (by decide) ?_
              have ee : ((if r20 = 0 then 0 else 1) : Int32) = 1 := by rw [if_neg g21]
              rw [ee] at key22
              clear ee
              refine z_sub [0, 1, 2] rfl ?_
              exact key22
        refine z_icmp_ne 51 dX7_readSum_42 (by decide) (fun g12 => ?_) (fun g12 => ?_)
        · refine z_sipush 10031 dX7_readSum_51 (by decide) ?_
          have ee : ((if r11 = 43 then 10030 else 10031) : Int32) = 10031 := by rw [if_neg g12]
          rw [ee] at key13
          clear ee
          refine z_sub [0, 1, 3] rfl ?_
          exact key13
        · refine z_sipush 10030 dX7_readSum_45 (by decide) ?_
          refine z_goto 54 dX7_readSum_48 (by decide) ?_
          have ee : ((if r11 = 43 then 10030 else 10031) : Int32) = 10030 := by rw [if_pos g12]
          rw [ee] at key13
          clear ee
          refine z_sub [0, 1, 3] rfl ?_
          exact key13
      · rw [if_neg g8] at h
        refine z_aload_n 0 dX7_readSum_27 rfl ?_
        refine z_callV0 (As := []) (st := []) dX7_readSum_28 hy_X7_next (co_5 hL).1 (co_5 hL).2 (by decide) wg_679 wg_681 wg_10 (Nat.le_refl _) (Nat.le_of_ble_eq_true rfl) (RM0.mono h ?_)
        clear h
        intro vv I23 L24 h
        obtain ⟨r25, rfl, h⟩ := h
        change Z n0 xX7_readSum (d + 1) rc rs 31 [(0, .ref (n0 + 5)), (1, .int a1), (2, .int a2), (3, .int a3)] [.int r25] K I23 L24 (z_q0 K Q)
        refine z_bipush 45 dX7_readSum_31 (by decide) ?_
        refine z_icmp_ne 95 dX7_readSum_33 (by decide) (fun g26 => ?_) (fun g26 => ?_)
        · rw [if_neg g26] at h
          refine z_iload_n 2 dX7_readSum_95 rfl ?_
          obtain ⟨o27, h⟩ := h
          exact z_zretb dX7_readSum_96 rfl o27 ⟨rfl, h⟩
        · rw [if_pos g26] at h
          refine z_aload_n 0 dX7_readSum_36 rfl ?_
          refine z_callV0 (As := []) (st := []) dX7_readSum_37 hy_X7_next (co_5 hL).1 (co_5 hL).2 (by decide) wg_679 wg_681 wg_10 (Nat.le_refl _) (Nat.le_of_ble_eq_true rfl) (RM0.mono h ?_)
          clear h
          intro vv I28 L29 h
          obtain ⟨r30, rfl, h⟩ := h
          change Z n0 xX7_readSum (d + 1) rc rs 40 [(0, .ref (n0 + 5)), (1, .int a1), (2, .int a2), (3, .int a3)] [.int r30] K I28 L29 (z_q0 K Q)
          refine z_bipush 43 dX7_readSum_40 (by decide) ?_
          have key32 : Z n0 xX7_readSum (d + 1) rc rs 54 [(0, .ref (n0 + 5)), (1, .int a1), (3, .int a3)] [.int (if r30 = 43 then 10030 else 10031)] K I28 L29 (z_q0 K Q) := by
            refine z_istore [1, 2, 3, 0] [(0, .ref (n0 + 5)), (1, .int a1), (3, .int a3), (4, .int (if r30 = 43 then 10030 else 10031))] dX7_readSum_54 (by decide) rfl ?_
            refine z_aload_n 0 dX7_readSum_56 rfl ?_
            refine z_dup dX7_readSum_57 rfl ?_
            refine fg_7_25 (I28 5 3) rfl dX7_readSum_58 (co_5 hL).1 (co_5 hL).2 rfl ?_
            refine z_iconst 1 dX7_readSum_61 (by decide) ?_
            refine z_iadd dX7_readSum_62 ?_
            refine fp_7_25 rfl dX7_readSum_63 (co_5 hL).1 (co_5 hL).2 ?_
            refine z_aload_n 0 dX7_readSum_66 rfl ?_
            refine z_iload_n 1 dX7_readSum_67 rfl ?_
            refine z_callV0 (As := [.int a1]) (st := []) dX7_readSum_68 hy_X7_readTerm (co_5 hL).1 (co_5 hL).2 (by decide) wg_671 wg_673 wg_8 (Nat.le_refl _) (Nat.le_of_ble_eq_true rfl) (RM0.mono h ?_)
            clear h
            intro vv I33 L34 h
            obtain ⟨r35, rfl, h⟩ := h
            change Z n0 xX7_readSum (d + 1) rc rs 71 [(0, .ref (n0 + 5)), (1, .int a1), (3, .int a3), (4, .int (if r30 = 43 then 10030 else 10031))] [.int r35] K I33 L34 (z_q0 K Q)
            refine z_if_eq 87 dX7_readSum_71 (by decide) (fun g36 => ?_) (fun g36 => ?_)
            · rw [if_pos g36] at h
              refine z_iconst 0 dX7_readSum_87 (by decide) ?_
              refine z_istore_n [1, 2, 0, 3, 4] [(0, .ref (n0 + 5)), (1, .int a1), (2, .int 0), (3, .int a3), (4, .int (if r30 = 43 then 10030 else 10031))] dX7_readSum_88 (by decide) rfl ?_
              refine z_iinc (j := 3) (a3 + 1) [1, 2, 3, 0, 4] [(0, .ref (n0 + 5)), (1, .int a1), (2, .int 0), (3, .int (a3 + 1)), (4, .int (if r30 = 43 then 10030 else 10031))] dX7_readSum_89 rfl rfl (by decide) rfl ?_
              refine z_goto 8 dX7_readSum_92 (by decide) ?_
              refine z_sub [0, 1, 2, 3] rfl ?_
              exact h
            · rw [if_neg g36] at h
              refine z_aload_n 0 dX7_readSum_74 rfl ?_
              refine z_iload 3 dX7_readSum_75 rfl ?_
              refine z_callV0 (As := [.int (if r30 = 43 then 10030 else 10031)]) (st := []) dX7_readSum_77 hy_X7_emit (co_5 hL).1 (co_5 hL).2 (by decide) wg_690 wg_692 wg_12 (Nat.le_refl _) (Nat.le_of_ble_eq_true rfl) (RM0.mono h ?_)
              clear h
              intro vv I37 L38 h
              obtain ⟨r39, rfl, h⟩ := h
              change Z n0 xX7_readSum (d + 1) rc rs 80 [(0, .ref (n0 + 5)), (1, .int a1), (3, .int a3), (4, .int (if r30 = 43 then 10030 else 10031))] [.int r39] K I37 L38 (z_q0 K Q)
              have key41 : Z n0 xX7_readSum (d + 1) rc rs 88 [(0, .ref (n0 + 5)), (1, .int a1), (3, .int a3)] [.int (if r39 = 0 then 0 else 1)] K I37 L38 (z_q0 K Q) := by
                refine z_istore_n [1, 2, 0, 3] [(0, .ref (n0 + 5)), (1, .int a1), (2, .int (if r39 = 0 then 0 else 1)), (3, .int a3)] dX7_readSum_88 (by decide) rfl ?_
                refine z_iinc (j := 3) (a3 + 1) [1, 2, 3, 0] [(0, .ref (n0 + 5)), (1, .int a1), (2, .int (if r39 = 0 then 0 else 1)), (3, .int (a3 + 1))] dX7_readSum_89 rfl rfl (by decide) rfl ?_
                refine z_goto 8 dX7_readSum_92 (by decide) ?_
                exact h
              refine z_if_eq 87 dX7_readSum_80 (by decide) (fun g40 => ?_) (fun g40 => ?_)
              · refine z_iconst 0 dX7_readSum_87 (by decide) ?_
                have ee : ((if r39 = 0 then 0 else 1) : Int32) = 0 := by rw [if_pos g40]
                rw [ee] at key41
                clear ee
                refine z_sub [0, 1, 2] rfl ?_
                exact key41
              · refine z_iconst 1 dX7_readSum_83 (by decide) ?_
                refine z_goto 88 dX7_readSum_84 (by decide) ?_
                have ee : ((if r39 = 0 then 0 else 1) : Int32) = 1 := by rw [if_neg g40]
                rw [ee] at key41
                clear ee
                refine z_sub [0, 1, 2] rfl ?_
                exact key41
          refine z_icmp_ne 51 dX7_readSum_42 (by decide) (fun g31 => ?_) (fun g31 => ?_)
          · refine z_sipush 10031 dX7_readSum_51 (by decide) ?_
            have ee : ((if r30 = 43 then 10030 else 10031) : Int32) = 10031 := by rw [if_neg g31]
            rw [ee] at key32
            clear ee
            refine z_sub [0, 1, 3] rfl ?_
            exact key32
          · refine z_sipush 10030 dX7_readSum_45 (by decide) ?_
            refine z_goto 54 dX7_readSum_48 (by decide) ?_
            have ee : ((if r30 = 43 then 10030 else 10031) : Int32) = 10030 := by rw [if_pos g31]
            rw [ee] at key32
            clear ee
            refine z_sub [0, 1, 3] rfl ?_
            exact key32
theorem dX7_readTerm_0 : decode cX7_readTerm 0 = .ok (.aload_n 0, 1) := by decide +kernel
theorem dX7_readTerm_1 : decode cX7_readTerm 1 = .ok (.iload_n 1, 1) := by decide +kernel
theorem dX7_readTerm_2 : decode cX7_readTerm 2 = .ok (.invokevirtual 61, 3) := by decide +kernel
theorem dX7_readTerm_5 : decode cX7_readTerm 5 = .ok (.istore_n 2, 1) := by decide +kernel
theorem dX7_readTerm_6 : decode cX7_readTerm 6 = .ok (.iconst 0, 1) := by decide +kernel
theorem dX7_readTerm_7 : decode cX7_readTerm 7 = .ok (.istore_n 3, 1) := by decide +kernel
theorem dX7_readTerm_8 : decode cX7_readTerm 8 = .ok (.iload_n 2, 1) := by decide +kernel
theorem dX7_readTerm_9 : decode cX7_readTerm 9 = .ok (.ifCond .eq 86, 3) := by decide +kernel
theorem dX7_readTerm_12 : decode cX7_readTerm 12 = .ok (.iload_n 3, 1) := by decide +kernel
theorem dX7_readTerm_13 : decode cX7_readTerm 13 = .ok (.bipush 60, 2) := by decide +kernel
theorem dX7_readTerm_15 : decode cX7_readTerm 15 = .ok (.if_icmp .ge 80, 3) := by decide +kernel
theorem dX7_readTerm_18 : decode cX7_readTerm 18 = .ok (.aload_n 0, 1) := by decide +kernel
theorem dX7_readTerm_19 : decode cX7_readTerm 19 = .ok (.invokevirtual 38, 3) := by decide +kernel
theorem dX7_readTerm_22 : decode cX7_readTerm 22 = .ok (.bipush 42, 2) := by decide +kernel
theorem dX7_readTerm_24 : decode cX7_readTerm 24 = .ok (.if_icmp .eq 12, 3) := by decide +kernel
theorem dX7_readTerm_27 : decode cX7_readTerm 27 = .ok (.aload_n 0, 1) := by decide +kernel
theorem dX7_readTerm_28 : decode cX7_readTerm 28 = .ok (.invokevirtual 38, 3) := by decide +kernel
theorem dX7_readTerm_31 : decode cX7_readTerm 31 = .ok (.bipush 47, 2) := by decide +kernel
theorem dX7_readTerm_33 : decode cX7_readTerm 33 = .ok (.if_icmp .ne 62, 3) := by decide +kernel
theorem dX7_readTerm_36 : decode cX7_readTerm 36 = .ok (.aload_n 0, 1) := by decide +kernel
theorem dX7_readTerm_37 : decode cX7_readTerm 37 = .ok (.invokevirtual 38, 3) := by decide +kernel
theorem dX7_readTerm_40 : decode cX7_readTerm 40 = .ok (.bipush 42, 2) := by decide +kernel
theorem dX7_readTerm_42 : decode cX7_readTerm 42 = .ok (.if_icmp .ne 9, 3) := by decide +kernel
theorem dX7_readTerm_45 : decode cX7_readTerm 45 = .ok (.sipush 10032, 3) := by decide +kernel
theorem dX7_readTerm_48 : decode cX7_readTerm 48 = .ok (.goto 6, 3) := by decide +kernel
theorem dX7_readTerm_51 : decode cX7_readTerm 51 = .ok (.sipush 10033, 3) := by decide +kernel
theorem dX7_readTerm_54 : decode cX7_readTerm 54 = .ok (.istore 4, 2) := by decide +kernel
theorem dX7_readTerm_56 : decode cX7_readTerm 56 = .ok (.aload_n 0, 1) := by decide +kernel
theorem dX7_readTerm_57 : decode cX7_readTerm 57 = .ok (.dup, 1) := by decide +kernel
theorem dX7_readTerm_58 : decode cX7_readTerm 58 = .ok (.getfield 25, 3) := by decide +kernel
theorem dX7_readTerm_61 : decode cX7_readTerm 61 = .ok (.iconst 1, 1) := by decide +kernel
theorem dX7_readTerm_62 : decode cX7_readTerm 62 = .ok (.iadd, 1) := by decide +kernel
theorem dX7_readTerm_63 : decode cX7_readTerm 63 = .ok (.putfield 25, 3) := by decide +kernel
theorem dX7_readTerm_66 : decode cX7_readTerm 66 = .ok (.aload_n 0, 1) := by decide +kernel
theorem dX7_readTerm_67 : decode cX7_readTerm 67 = .ok (.iload_n 1, 1) := by decide +kernel
theorem dX7_readTerm_68 : decode cX7_readTerm 68 = .ok (.invokevirtual 61, 3) := by decide +kernel
theorem dX7_readTerm_71 : decode cX7_readTerm 71 = .ok (.ifCond .eq 16, 3) := by decide +kernel
theorem dX7_readTerm_74 : decode cX7_readTerm 74 = .ok (.aload_n 0, 1) := by decide +kernel
theorem dX7_readTerm_75 : decode cX7_readTerm 75 = .ok (.iload 4, 2) := by decide +kernel
theorem dX7_readTerm_77 : decode cX7_readTerm 77 = .ok (.invokevirtual 58, 3) := by decide +kernel
theorem dX7_readTerm_80 : decode cX7_readTerm 80 = .ok (.ifCond .eq 7, 3) := by decide +kernel
theorem dX7_readTerm_83 : decode cX7_readTerm 83 = .ok (.iconst 1, 1) := by decide +kernel
theorem dX7_readTerm_84 : decode cX7_readTerm 84 = .ok (.goto 4, 3) := by decide +kernel
theorem dX7_readTerm_87 : decode cX7_readTerm 87 = .ok (.iconst 0, 1) := by decide +kernel
theorem dX7_readTerm_88 : decode cX7_readTerm 88 = .ok (.istore_n 2, 1) := by decide +kernel
theorem dX7_readTerm_89 : decode cX7_readTerm 89 = .ok (.iinc 3 1, 3) := by decide +kernel
theorem dX7_readTerm_92 : decode cX7_readTerm 92 = .ok (.goto (-84), 3) := by decide +kernel
theorem dX7_readTerm_95 : decode cX7_readTerm 95 = .ok (.iload_n 2, 1) := by decide +kernel
theorem dX7_readTerm_96 : decode cX7_readTerm 96 = .ok (.ireturn, 1) := by decide +kernel
set_option maxRecDepth 100000 in
set_option maxHeartbeats 4000000 in
theorem wp_X7_readTerm {n0 d : Nat} {K : z_K} {I : z_I} {L : z_L} {Q : z_q} {p0 : Int32} (hL : CLay K) (h : RM0 n0 xX7_readUnit d [.ref (n0 + 5), .int p0] K I L (fun vv I1 L2 => ∃ r3 : Int32, vv = some (.int r3) ∧ Z n0 xX7_readTerm (d + 1) 0 0 8 [(0, .ref (n0 + 5)), (1, .int p0), (2, .int r3), (3, .int 0)] [] K I1 L2 (z_q0 K Q))) : RM0 n0 xX7_readTerm (d + 1) [.ref (n0 + 5), .int p0] K I L Q := by
  refine z_entry0 (by decide) (Nat.le_of_ble_eq_true rfl) ?_
  change Z n0 xX7_readTerm (d + 1) 0 0 0 [(0, .ref (n0 + 5)), (1, .int p0)] [] K I L (z_q0 K Q)
  refine z_aload_n 0 dX7_readTerm_0 rfl ?_
  refine z_iload_n 1 dX7_readTerm_1 rfl ?_
  refine z_callV0 (As := [.int p0]) (st := []) dX7_readTerm_2 hy_X7_readUnit (co_5 hL).1 (co_5 hL).2 (by decide) wg_675 wg_677 wg_9 (Nat.le_refl _) (Nat.le_of_ble_eq_true rfl) (RM0.mono h ?_)
  clear h
  intro vv I1 L2 h
  obtain ⟨r3, rfl, h⟩ := h
  change Z n0 xX7_readTerm (d + 1) 0 0 5 [(0, .ref (n0 + 5)), (1, .int p0)] [.int r3] K I1 L2 (z_q0 K Q)
  refine z_istore_n [1, 2, 0] [(0, .ref (n0 + 5)), (1, .int p0), (2, .int r3)] dX7_readTerm_5 (by decide) rfl ?_
  refine z_iconst 0 dX7_readTerm_6 (by decide) ?_
  refine z_istore_n [1, 2, 3, 0] [(0, .ref (n0 + 5)), (1, .int p0), (2, .int r3), (3, .int 0)] dX7_readTerm_7 (by decide) rfl ?_
  exact h
set_option maxRecDepth 100000 in
set_option maxHeartbeats 4000000 in
theorem wp_X7_readTerm_8 {n0 d : Nat} {rc rs : Nat} {K : z_K} {I : z_I} {L : z_L} {Q : z_q} {a1 : Int32} {a2 : Int32} {a3 : Int32} (hL : CLay K) (h : (if a2 = 0 then z_b a2 ∧ Q (some (.int a2)) I L else (if a3 < 60 then RM0 n0 xX7_next d [.ref (n0 + 5)] K I L (fun vv I5 L6 => ∃ r7 : Int32, vv = some (.int r7) ∧ (if r7 = 42 then RM0 n0 xX7_next d [.ref (n0 + 5)] K I5 L6 (fun vv I9 L10 => ∃ r11 : Int32, vv = some (.int r11) ∧ RM0 n0 xX7_readUnit d [.ref (n0 + 5), .int a1] K (zI I9 5 3 ((I9 5 3) + 1)) L10 (fun vv I14 L15 => ∃ r16 : Int32, vv = some (.int r16) ∧ (if r16 = 0 then Z n0 xX7_readTerm (d + 1) rc rs 8 [(0, .ref (n0 + 5)), (1, .int a1), (2, .int 0), (3, .int (a3 + 1))] [] K I14 L15 (z_q0 K Q) else RM0 n0 xX7_emit d [.ref (n0 + 5), .int (if r11 = 42 then 10032 else 10033)] K I14 L15 (fun vv I18 L19 => ∃ r20 : Int32, vv = some (.int r20) ∧ Z n0 xX7_readTerm (d + 1) rc rs 8 [(0, .ref (n0 + 5)), (1, .int a1), (2, .int (if r20 = 0 then 0 else 1)), (3, .int (a3 + 1))] [] K I18 L19 (z_q0 K Q))))) else RM0 n0 xX7_next d [.ref (n0 + 5)] K I5 L6 (fun vv I23 L24 => ∃ r25 : Int32, vv = some (.int r25) ∧ (if r25 = 47 then RM0 n0 xX7_next d [.ref (n0 + 5)] K I23 L24 (fun vv I28 L29 => ∃ r30 : Int32, vv = some (.int r30) ∧ RM0 n0 xX7_readUnit d [.ref (n0 + 5), .int a1] K (zI I28 5 3 ((I28 5 3) + 1)) L29 (fun vv I33 L34 => ∃ r35 : Int32, vv = some (.int r35) ∧ (if r35 = 0 then Z n0 xX7_readTerm (d + 1) rc rs 8 [(0, .ref (n0 + 5)), (1, .int a1), (2, .int 0), (3, .int (a3 + 1))] [] K I33 L34 (z_q0 K Q) else RM0 n0 xX7_emit d [.ref (n0 + 5), .int (if r30 = 42 then 10032 else 10033)] K I33 L34 (fun vv I37 L38 => ∃ r39 : Int32, vv = some (.int r39) ∧ Z n0 xX7_readTerm (d + 1) rc rs 8 [(0, .ref (n0 + 5)), (1, .int a1), (2, .int (if r39 = 0 then 0 else 1)), (3, .int (a3 + 1))] [] K I37 L38 (z_q0 K Q))))) else z_b a2 ∧ Q (some (.int a2)) I23 L24)))) else z_b a2 ∧ Q (some (.int a2)) I L))) : Z n0 xX7_readTerm (d + 1) rc rs 8 [(0, .ref (n0 + 5)), (1, .int a1), (2, .int a2), (3, .int a3)] [] K I L (z_q0 K Q) := by
  refine z_iload_n 2 dX7_readTerm_8 rfl ?_
  refine z_if_eq 95 dX7_readTerm_9 (by decide) (fun g1 => ?_) (fun g1 => ?_)
  · rw [if_pos g1] at h
    refine z_iload_n 2 dX7_readTerm_95 rfl ?_
    obtain ⟨o2, h⟩ := h
    exact z_zretb dX7_readTerm_96 rfl o2 ⟨rfl, h⟩
  · rw [if_neg g1] at h
    refine z_iload_n 3 dX7_readTerm_12 rfl ?_
    refine z_bipush 60 dX7_readTerm_13 (by decide) ?_
    refine z_icmp_ge 95 dX7_readTerm_15 (by decide) (fun g3 => ?_) (fun g3 => ?_)
    · rw [if_neg g3] at h
      refine z_iload_n 2 dX7_readTerm_95 rfl ?_
      obtain ⟨o4, h⟩ := h
      exact z_zretb dX7_readTerm_96 rfl o4 ⟨rfl, h⟩
    · rw [if_pos g3] at h
      refine z_aload_n 0 dX7_readTerm_18 rfl ?_
      refine z_callV0 (As := []) (st := []) dX7_readTerm_19 hy_X7_next (co_5 hL).1 (co_5 hL).2 (by decide) wg_679 wg_681 wg_10 (Nat.le_refl _) (Nat.le_of_ble_eq_true rfl) (RM0.mono h ?_)
      clear h
      intro vv I5 L6 h
      obtain ⟨r7, rfl, h⟩ := h
      change Z n0 xX7_readTerm (d + 1) rc rs 22 [(0, .ref (n0 + 5)), (1, .int a1), (2, .int a2), (3, .int a3)] [.int r7] K I5 L6 (z_q0 K Q)
      refine z_bipush 42 dX7_readTerm_22 (by decide) ?_
      refine z_icmp_eq 36 dX7_readTerm_24 (by decide) (fun g8 => ?_) (fun g8 => ?_)
      · rw [if_pos g8] at h
        refine z_aload_n 0 dX7_readTerm_36 rfl ?_
        refine z_callV0 (As := []) (st := []) dX7_readTerm_37 hy_X7_next (co_5 hL).1 (co_5 hL).2 (by decide) wg_679 wg_681 wg_10 (Nat.le_refl _) (Nat.le_of_ble_eq_true rfl) (RM0.mono h ?_)
        clear h
        intro vv I9 L10 h
        obtain ⟨r11, rfl, h⟩ := h
        change Z n0 xX7_readTerm (d + 1) rc rs 40 [(0, .ref (n0 + 5)), (1, .int a1), (2, .int a2), (3, .int a3)] [.int r11] K I9 L10 (z_q0 K Q)
        refine z_bipush 42 dX7_readTerm_40 (by decide) ?_
        have key13 : Z n0 xX7_readTerm (d + 1) rc rs 54 [(0, .ref (n0 + 5)), (1, .int a1), (3, .int a3)] [.int (if r11 = 42 then 10032 else 10033)] K I9 L10 (z_q0 K Q) := by
          refine z_istore [1, 2, 3, 0] [(0, .ref (n0 + 5)), (1, .int a1), (3, .int a3), (4, .int (if r11 = 42 then 10032 else 10033))] dX7_readTerm_54 (by decide) rfl ?_
          refine z_aload_n 0 dX7_readTerm_56 rfl ?_
          refine z_dup dX7_readTerm_57 rfl ?_
          refine fg_7_25 (I9 5 3) rfl dX7_readTerm_58 (co_5 hL).1 (co_5 hL).2 rfl ?_
          refine z_iconst 1 dX7_readTerm_61 (by decide) ?_
          refine z_iadd dX7_readTerm_62 ?_
          refine fp_7_25 rfl dX7_readTerm_63 (co_5 hL).1 (co_5 hL).2 ?_
          refine z_aload_n 0 dX7_readTerm_66 rfl ?_
          refine z_iload_n 1 dX7_readTerm_67 rfl ?_
          refine z_callV0 (As := [.int a1]) (st := []) dX7_readTerm_68 hy_X7_readUnit (co_5 hL).1 (co_5 hL).2 (by decide) wg_675 wg_677 wg_9 (Nat.le_refl _) (Nat.le_of_ble_eq_true rfl) (RM0.mono h ?_)
          clear h
          intro vv I14 L15 h
          obtain ⟨r16, rfl, h⟩ := h
          change Z n0 xX7_readTerm (d + 1) rc rs 71 [(0, .ref (n0 + 5)), (1, .int a1), (3, .int a3), (4, .int (if r11 = 42 then 10032 else 10033))] [.int r16] K I14 L15 (z_q0 K Q)
          refine z_if_eq 87 dX7_readTerm_71 (by decide) (fun g17 => ?_) (fun g17 => ?_)
          · rw [if_pos g17] at h
            refine z_iconst 0 dX7_readTerm_87 (by decide) ?_
            refine z_istore_n [1, 2, 0, 3, 4] [(0, .ref (n0 + 5)), (1, .int a1), (2, .int 0), (3, .int a3), (4, .int (if r11 = 42 then 10032 else 10033))] dX7_readTerm_88 (by decide) rfl ?_
            refine z_iinc (j := 3) (a3 + 1) [1, 2, 3, 0, 4] [(0, .ref (n0 + 5)), (1, .int a1), (2, .int 0), (3, .int (a3 + 1)), (4, .int (if r11 = 42 then 10032 else 10033))] dX7_readTerm_89 rfl rfl (by decide) rfl ?_
            refine z_goto 8 dX7_readTerm_92 (by decide) ?_
            refine z_sub [0, 1, 2, 3] rfl ?_
            exact h
          · rw [if_neg g17] at h
            refine z_aload_n 0 dX7_readTerm_74 rfl ?_
            refine z_iload 3 dX7_readTerm_75 rfl ?_
            refine z_callV0 (As := [.int (if r11 = 42 then 10032 else 10033)]) (st := []) dX7_readTerm_77 hy_X7_emit (co_5 hL).1 (co_5 hL).2 (by decide) wg_690 wg_692 wg_12 (Nat.le_refl _) (Nat.le_of_ble_eq_true rfl) (RM0.mono h ?_)
            clear h
            intro vv I18 L19 h
            obtain ⟨r20, rfl, h⟩ := h
            change Z n0 xX7_readTerm (d + 1) rc rs 80 [(0, .ref (n0 + 5)), (1, .int a1), (3, .int a3), (4, .int (if r11 = 42 then 10032 else 10033))] [.int r20] K I18 L19 (z_q0 K Q)
            have key22 : Z n0 xX7_readTerm (d + 1) rc rs 88 [(0, .ref (n0 + 5)), (1, .int a1), (3, .int a3)] [.int (if r20 = 0 then 0 else 1)] K I18 L19 (z_q0 K Q) := by
              refine z_istore_n [1, 2, 0, 3] [(0, .ref (n0 + 5)), (1, .int a1), (2, .int (if r20 = 0 then 0 else 1)), (3, .int a3)] dX7_readTerm_88 (by decide) rfl ?_
              refine z_iinc (j := 3) (a3 + 1) [1, 2, 3, 0] [(0, .ref (n0 + 5)), (1, .int a1), (2, .int (if r20 = 0 then 0 else 1)), (3, .int (a3 + 1))] dX7_readTerm_89 rfl rfl (by decide) rfl ?_
              refine z_goto 8 dX7_readTerm_92 (by decide) ?_
              exact h
            refine z_if_eq 87 dX7_readTerm_80 (by decide) (fun g21 => ?_) (fun g21 => ?_)
            · refine z_iconst 0 dX7_readTerm_87 (by decide) ?_
              have ee : ((if r20 = 0 then 0 else 1) : Int32) = 0 := by rw [if_pos g21]
              rw [ee] at key22
              clear ee
              refine z_sub [0, 1, 2] rfl ?_
              exact key22
            · refine z_iconst 1 dX7_readTerm_83 (by decide) ?_
              refine z_goto 88 dX7_readTerm_84 (by decide) ?_
              have ee : ((if r20 = 0 then 0 else 1) : Int32) = 1 := by rw [if_neg g21]
              rw [ee] at key22
              clear ee
              refine z_sub [0, 1, 2] rfl ?_
              exact key22
        refine z_icmp_ne 51 dX7_readTerm_42 (by decide) (fun g12 => ?_) (fun g12 => ?_)
        · refine z_sipush 10033 dX7_readTerm_51 (by decide) ?_
          have ee : ((if r11 = 42 then 10032 else 10033) : Int32) = 10033 := by rw [if_neg g12]
          rw [ee] at key13
          clear ee
          refine z_sub [0, 1, 3] rfl ?_
          exact key13
        · refine z_sipush 10032 dX7_readTerm_45 (by decide) ?_
          refine z_goto 54 dX7_readTerm_48 (by decide) ?_
          have ee : ((if r11 = 42 then 10032 else 10033) : Int32) = 10032 := by rw [if_pos g12]
          rw [ee] at key13
          clear ee
          refine z_sub [0, 1, 3] rfl ?_
          exact key13
      · rw [if_neg g8] at h
        refine z_aload_n 0 dX7_readTerm_27 rfl ?_
        refine z_callV0 (As := []) (st := []) dX7_readTerm_28 hy_X7_next (co_5 hL).1 (co_5 hL).2 (by decide) wg_679 wg_681 wg_10 (Nat.le_refl _) (Nat.le_of_ble_eq_true rfl) (RM0.mono h ?_)
        clear h
        intro vv I23 L24 h
        obtain ⟨r25, rfl, h⟩ := h
        change Z n0 xX7_readTerm (d + 1) rc rs 31 [(0, .ref (n0 + 5)), (1, .int a1), (2, .int a2), (3, .int a3)] [.int r25] K I23 L24 (z_q0 K Q)
        refine z_bipush 47 dX7_readTerm_31 (by decide) ?_
        refine z_icmp_ne 95 dX7_readTerm_33 (by decide) (fun g26 => ?_) (fun g26 => ?_)
        · rw [if_neg g26] at h
          refine z_iload_n 2 dX7_readTerm_95 rfl ?_
          obtain ⟨o27, h⟩ := h
          exact z_zretb dX7_readTerm_96 rfl o27 ⟨rfl, h⟩
        · rw [if_pos g26] at h
          refine z_aload_n 0 dX7_readTerm_36 rfl ?_
          refine z_callV0 (As := []) (st := []) dX7_readTerm_37 hy_X7_next (co_5 hL).1 (co_5 hL).2 (by decide) wg_679 wg_681 wg_10 (Nat.le_refl _) (Nat.le_of_ble_eq_true rfl) (RM0.mono h ?_)
          clear h
          intro vv I28 L29 h
          obtain ⟨r30, rfl, h⟩ := h
          change Z n0 xX7_readTerm (d + 1) rc rs 40 [(0, .ref (n0 + 5)), (1, .int a1), (2, .int a2), (3, .int a3)] [.int r30] K I28 L29 (z_q0 K Q)
          refine z_bipush 42 dX7_readTerm_40 (by decide) ?_
          have key32 : Z n0 xX7_readTerm (d + 1) rc rs 54 [(0, .ref (n0 + 5)), (1, .int a1), (3, .int a3)] [.int (if r30 = 42 then 10032 else 10033)] K I28 L29 (z_q0 K Q) := by
            refine z_istore [1, 2, 3, 0] [(0, .ref (n0 + 5)), (1, .int a1), (3, .int a3), (4, .int (if r30 = 42 then 10032 else 10033))] dX7_readTerm_54 (by decide) rfl ?_
            refine z_aload_n 0 dX7_readTerm_56 rfl ?_
            refine z_dup dX7_readTerm_57 rfl ?_
            refine fg_7_25 (I28 5 3) rfl dX7_readTerm_58 (co_5 hL).1 (co_5 hL).2 rfl ?_
            refine z_iconst 1 dX7_readTerm_61 (by decide) ?_
            refine z_iadd dX7_readTerm_62 ?_
            refine fp_7_25 rfl dX7_readTerm_63 (co_5 hL).1 (co_5 hL).2 ?_
            refine z_aload_n 0 dX7_readTerm_66 rfl ?_
            refine z_iload_n 1 dX7_readTerm_67 rfl ?_
            refine z_callV0 (As := [.int a1]) (st := []) dX7_readTerm_68 hy_X7_readUnit (co_5 hL).1 (co_5 hL).2 (by decide) wg_675 wg_677 wg_9 (Nat.le_refl _) (Nat.le_of_ble_eq_true rfl) (RM0.mono h ?_)
            clear h
            intro vv I33 L34 h
            obtain ⟨r35, rfl, h⟩ := h
            change Z n0 xX7_readTerm (d + 1) rc rs 71 [(0, .ref (n0 + 5)), (1, .int a1), (3, .int a3), (4, .int (if r30 = 42 then 10032 else 10033))] [.int r35] K I33 L34 (z_q0 K Q)
            refine z_if_eq 87 dX7_readTerm_71 (by decide) (fun g36 => ?_) (fun g36 => ?_)
            · rw [if_pos g36] at h
              refine z_iconst 0 dX7_readTerm_87 (by decide) ?_
              refine z_istore_n [1, 2, 0, 3, 4] [(0, .ref (n0 + 5)), (1, .int a1), (2, .int 0), (3, .int a3), (4, .int (if r30 = 42 then 10032 else 10033))] dX7_readTerm_88 (by decide) rfl ?_
              refine z_iinc (j := 3) (a3 + 1) [1, 2, 3, 0, 4] [(0, .ref (n0 + 5)), (1, .int a1), (2, .int 0), (3, .int (a3 + 1)), (4, .int (if r30 = 42 then 10032 else 10033))] dX7_readTerm_89 rfl rfl (by decide) rfl ?_
              refine z_goto 8 dX7_readTerm_92 (by decide) ?_
              refine z_sub [0, 1, 2, 3] rfl ?_
              exact h
            · rw [if_neg g36] at h
              refine z_aload_n 0 dX7_readTerm_74 rfl ?_
              refine z_iload 3 dX7_readTerm_75 rfl ?_
              refine z_callV0 (As := [.int (if r30 = 42 then 10032 else 10033)]) (st := []) dX7_readTerm_77 hy_X7_emit (co_5 hL).1 (co_5 hL).2 (by decide) wg_690 wg_692 wg_12 (Nat.le_refl _) (Nat.le_of_ble_eq_true rfl) (RM0.mono h ?_)
              clear h
              intro vv I37 L38 h
              obtain ⟨r39, rfl, h⟩ := h
              change Z n0 xX7_readTerm (d + 1) rc rs 80 [(0, .ref (n0 + 5)), (1, .int a1), (3, .int a3), (4, .int (if r30 = 42 then 10032 else 10033))] [.int r39] K I37 L38 (z_q0 K Q)
              have key41 : Z n0 xX7_readTerm (d + 1) rc rs 88 [(0, .ref (n0 + 5)), (1, .int a1), (3, .int a3)] [.int (if r39 = 0 then 0 else 1)] K I37 L38 (z_q0 K Q) := by
                refine z_istore_n [1, 2, 0, 3] [(0, .ref (n0 + 5)), (1, .int a1), (2, .int (if r39 = 0 then 0 else 1)), (3, .int a3)] dX7_readTerm_88 (by decide) rfl ?_
                refine z_iinc (j := 3) (a3 + 1) [1, 2, 3, 0] [(0, .ref (n0 + 5)), (1, .int a1), (2, .int (if r39 = 0 then 0 else 1)), (3, .int (a3 + 1))] dX7_readTerm_89 rfl rfl (by decide) rfl ?_
                refine z_goto 8 dX7_readTerm_92 (by decide) ?_
                exact h
              refine z_if_eq 87 dX7_readTerm_80 (by decide) (fun g40 => ?_) (fun g40 => ?_)
              · refine z_iconst 0 dX7_readTerm_87 (by decide) ?_
                have ee : ((if r39 = 0 then 0 else 1) : Int32) = 0 := by rw [if_pos g40]
                rw [ee] at key41
                clear ee
                refine z_sub [0, 1, 2] rfl ?_
                exact key41
              · refine z_iconst 1 dX7_readTerm_83 (by decide) ?_
                refine z_goto 88 dX7_readTerm_84 (by decide) ?_
                have ee : ((if r39 = 0 then 0 else 1) : Int32) = 1 := by rw [if_neg g40]
                rw [ee] at key41
                clear ee
                refine z_sub [0, 1, 2] rfl ?_
                exact key41
          refine z_icmp_ne 51 dX7_readTerm_42 (by decide) (fun g31 => ?_) (fun g31 => ?_)
          · refine z_sipush 10033 dX7_readTerm_51 (by decide) ?_
            have ee : ((if r30 = 42 then 10032 else 10033) : Int32) = 10033 := by rw [if_neg g31]
            rw [ee] at key32
            clear ee
            refine z_sub [0, 1, 3] rfl ?_
            exact key32
          · refine z_sipush 10032 dX7_readTerm_45 (by decide) ?_
            refine z_goto 54 dX7_readTerm_48 (by decide) ?_
            have ee : ((if r30 = 42 then 10032 else 10033) : Int32) = 10032 := by rw [if_pos g31]
            rw [ee] at key32
            clear ee
            refine z_sub [0, 1, 3] rfl ?_
            exact key32
theorem dX7_readUnit_0 : decode cX7_readUnit 0 = .ok (.aload_n 0, 1) := by decide +kernel
theorem dX7_readUnit_1 : decode cX7_readUnit 1 = .ok (.invokevirtual 38, 3) := by decide +kernel
theorem dX7_readUnit_4 : decode cX7_readUnit 4 = .ok (.istore_n 2, 1) := by decide +kernel
theorem dX7_readUnit_5 : decode cX7_readUnit 5 = .ok (.iload_n 2, 1) := by decide +kernel
theorem dX7_readUnit_6 : decode cX7_readUnit 6 = .ok (.invokestatic 64, 3) := by decide +kernel
theorem dX7_readUnit_9 : decode cX7_readUnit 9 = .ok (.ifCond .eq 8, 3) := by decide +kernel
theorem dX7_readUnit_12 : decode cX7_readUnit 12 = .ok (.aload_n 0, 1) := by decide +kernel
theorem dX7_readUnit_13 : decode cX7_readUnit 13 = .ok (.invokevirtual 67, 3) := by decide +kernel
theorem dX7_readUnit_16 : decode cX7_readUnit 16 = .ok (.ireturn, 1) := by decide +kernel
theorem dX7_readUnit_17 : decode cX7_readUnit 17 = .ok (.iload_n 2, 1) := by decide +kernel
theorem dX7_readUnit_18 : decode cX7_readUnit 18 = .ok (.bipush 97, 2) := by decide +kernel
theorem dX7_readUnit_20 : decode cX7_readUnit 20 = .ok (.if_icmp .lt 32, 3) := by decide +kernel
theorem dX7_readUnit_23 : decode cX7_readUnit 23 = .ok (.iload_n 2, 1) := by decide +kernel
theorem dX7_readUnit_24 : decode cX7_readUnit 24 = .ok (.bipush 105, 2) := by decide +kernel
theorem dX7_readUnit_26 : decode cX7_readUnit 26 = .ok (.if_icmp .ge 26, 3) := by decide +kernel
theorem dX7_readUnit_29 : decode cX7_readUnit 29 = .ok (.aload_n 0, 1) := by decide +kernel
theorem dX7_readUnit_30 : decode cX7_readUnit 30 = .ok (.dup, 1) := by decide +kernel
theorem dX7_readUnit_31 : decode cX7_readUnit 31 = .ok (.getfield 25, 3) := by decide +kernel
theorem dX7_readUnit_34 : decode cX7_readUnit 34 = .ok (.iconst 1, 1) := by decide +kernel
theorem dX7_readUnit_35 : decode cX7_readUnit 35 = .ok (.iadd, 1) := by decide +kernel
theorem dX7_readUnit_36 : decode cX7_readUnit 36 = .ok (.putfield 25, 3) := by decide +kernel
theorem dX7_readUnit_39 : decode cX7_readUnit 39 = .ok (.aload_n 0, 1) := by decide +kernel
theorem dX7_readUnit_40 : decode cX7_readUnit 40 = .ok (.sipush 10000, 3) := by decide +kernel
theorem dX7_readUnit_43 : decode cX7_readUnit 43 = .ok (.iload_n 2, 1) := by decide +kernel
theorem dX7_readUnit_44 : decode cX7_readUnit 44 = .ok (.iadd, 1) := by decide +kernel
theorem dX7_readUnit_45 : decode cX7_readUnit 45 = .ok (.bipush 97, 2) := by decide +kernel
theorem dX7_readUnit_47 : decode cX7_readUnit 47 = .ok (.isub, 1) := by decide +kernel
theorem dX7_readUnit_48 : decode cX7_readUnit 48 = .ok (.invokevirtual 58, 3) := by decide +kernel
theorem dX7_readUnit_51 : decode cX7_readUnit 51 = .ok (.ireturn, 1) := by decide +kernel
theorem dX7_readUnit_52 : decode cX7_readUnit 52 = .ok (.iload_n 2, 1) := by decide +kernel
theorem dX7_readUnit_53 : decode cX7_readUnit 53 = .ok (.bipush 120, 2) := by decide +kernel
theorem dX7_readUnit_55 : decode cX7_readUnit 55 = .ok (.if_icmp .eq 9, 3) := by decide +kernel
theorem dX7_readUnit_58 : decode cX7_readUnit 58 = .ok (.iload_n 2, 1) := by decide +kernel
theorem dX7_readUnit_59 : decode cX7_readUnit 59 = .ok (.bipush 121, 2) := by decide +kernel
theorem dX7_readUnit_61 : decode cX7_readUnit 61 = .ok (.if_icmp .ne 33, 3) := by decide +kernel
theorem dX7_readUnit_64 : decode cX7_readUnit 64 = .ok (.aload_n 0, 1) := by decide +kernel
theorem dX7_readUnit_65 : decode cX7_readUnit 65 = .ok (.dup, 1) := by decide +kernel
theorem dX7_readUnit_66 : decode cX7_readUnit 66 = .ok (.getfield 25, 3) := by decide +kernel
theorem dX7_readUnit_69 : decode cX7_readUnit 69 = .ok (.iconst 1, 1) := by decide +kernel
theorem dX7_readUnit_70 : decode cX7_readUnit 70 = .ok (.iadd, 1) := by decide +kernel
theorem dX7_readUnit_71 : decode cX7_readUnit 71 = .ok (.putfield 25, 3) := by decide +kernel
theorem dX7_readUnit_74 : decode cX7_readUnit 74 = .ok (.aload_n 0, 1) := by decide +kernel
theorem dX7_readUnit_75 : decode cX7_readUnit 75 = .ok (.iload_n 2, 1) := by decide +kernel
theorem dX7_readUnit_76 : decode cX7_readUnit 76 = .ok (.bipush 120, 2) := by decide +kernel
theorem dX7_readUnit_78 : decode cX7_readUnit 78 = .ok (.if_icmp .ne 9, 3) := by decide +kernel
theorem dX7_readUnit_81 : decode cX7_readUnit 81 = .ok (.sipush 10010, 3) := by decide +kernel
theorem dX7_readUnit_84 : decode cX7_readUnit 84 = .ok (.goto 6, 3) := by decide +kernel
theorem dX7_readUnit_87 : decode cX7_readUnit 87 = .ok (.sipush 10020, 3) := by decide +kernel
theorem dX7_readUnit_90 : decode cX7_readUnit 90 = .ok (.invokevirtual 70, 3) := by decide +kernel
theorem dX7_readUnit_93 : decode cX7_readUnit 93 = .ok (.ireturn, 1) := by decide +kernel
theorem dX7_readUnit_94 : decode cX7_readUnit 94 = .ok (.iload_n 2, 1) := by decide +kernel
theorem dX7_readUnit_95 : decode cX7_readUnit 95 = .ok (.bipush 114, 2) := by decide +kernel
theorem dX7_readUnit_97 : decode cX7_readUnit 97 = .ok (.if_icmp .ne 37, 3) := by decide +kernel
theorem dX7_readUnit_100 : decode cX7_readUnit 100 = .ok (.aload_n 0, 1) := by decide +kernel
theorem dX7_readUnit_101 : decode cX7_readUnit 101 = .ok (.dup, 1) := by decide +kernel
theorem dX7_readUnit_102 : decode cX7_readUnit 102 = .ok (.getfield 25, 3) := by decide +kernel
theorem dX7_readUnit_105 : decode cX7_readUnit 105 = .ok (.iconst 1, 1) := by decide +kernel
theorem dX7_readUnit_106 : decode cX7_readUnit 106 = .ok (.iadd, 1) := by decide +kernel
theorem dX7_readUnit_107 : decode cX7_readUnit 107 = .ok (.putfield 25, 3) := by decide +kernel
theorem dX7_readUnit_110 : decode cX7_readUnit 110 = .ok (.aload_n 0, 1) := by decide +kernel
theorem dX7_readUnit_111 : decode cX7_readUnit 111 = .ok (.iload_n 1, 1) := by decide +kernel
theorem dX7_readUnit_112 : decode cX7_readUnit 112 = .ok (.invokevirtual 73, 3) := by decide +kernel
theorem dX7_readUnit_115 : decode cX7_readUnit 115 = .ok (.ifCond .eq 17, 3) := by decide +kernel
theorem dX7_readUnit_118 : decode cX7_readUnit 118 = .ok (.aload_n 0, 1) := by decide +kernel
theorem dX7_readUnit_119 : decode cX7_readUnit 119 = .ok (.sipush 10034, 3) := by decide +kernel
theorem dX7_readUnit_122 : decode cX7_readUnit 122 = .ok (.invokevirtual 58, 3) := by decide +kernel
theorem dX7_readUnit_125 : decode cX7_readUnit 125 = .ok (.ifCond .eq 7, 3) := by decide +kernel
theorem dX7_readUnit_128 : decode cX7_readUnit 128 = .ok (.iconst 1, 1) := by decide +kernel
theorem dX7_readUnit_129 : decode cX7_readUnit 129 = .ok (.goto 4, 3) := by decide +kernel
theorem dX7_readUnit_132 : decode cX7_readUnit 132 = .ok (.iconst 0, 1) := by decide +kernel
theorem dX7_readUnit_133 : decode cX7_readUnit 133 = .ok (.ireturn, 1) := by decide +kernel
theorem dX7_readUnit_134 : decode cX7_readUnit 134 = .ok (.aload_n 0, 1) := by decide +kernel
theorem dX7_readUnit_135 : decode cX7_readUnit 135 = .ok (.iload_n 1, 1) := by decide +kernel
theorem dX7_readUnit_136 : decode cX7_readUnit 136 = .ok (.invokevirtual 73, 3) := by decide +kernel
theorem dX7_readUnit_139 : decode cX7_readUnit 139 = .ok (.ireturn, 1) := by decide +kernel
set_option maxRecDepth 100000 in
set_option maxHeartbeats 4000000 in
theorem wp_X7_readUnit {n0 d : Nat} {K : z_K} {I : z_I} {L : z_L} {Q : z_q} {p0 : Int32} (hL : CLay K) (h : RM0 n0 xX7_next d [.ref (n0 + 5)] K I L (fun vv I1 L2 => ∃ r3 : Int32, vv = some (.int r3) ∧ RM0 n0 xX7_isDigit d [.int r3] K I1 L2 (fun vv I4 L5 => ∃ r6 : Int32, vv = some (.int r6) ∧ (if r6 = 0 then (if r3 < 97 then (if r3 = 120 then RM0 n0 xX7_readPoint d [.ref (n0 + 5), .int (if r3 = 120 then 10010 else 10020)] K (zI I4 5 3 ((I4 5 3) + 1)) L5 (fun vv I12 L13 => ∃ r14 : Int32, vv = some (.int r14) ∧ z_b r14 ∧ Q (some (.int r14)) I12 L13) else (if r3 = 121 then RM0 n0 xX7_readPoint d [.ref (n0 + 5), .int (if r3 = 120 then 10010 else 10020)] K (zI I4 5 3 ((I4 5 3) + 1)) L5 (fun vv I33 L34 => ∃ r35 : Int32, vv = some (.int r35) ∧ z_b r35 ∧ Q (some (.int r35)) I33 L34) else (if r3 = 114 then RM0 n0 xX7_readBracket d [.ref (n0 + 5), .int p0] K (zI I4 5 3 ((I4 5 3) + 1)) L5 (fun vv I22 L23 => ∃ r24 : Int32, vv = some (.int r24) ∧ (if r24 = 0 then Q (some (.int 0)) I22 L23 else RM0 n0 xX7_emit d [.ref (n0 + 5), .int 10034] K I22 L23 (fun vv I26 L27 => ∃ r28 : Int32, vv = some (.int r28) ∧ Q (some (.int (if r28 = 0 then 0 else 1))) I26 L27))) else RM0 n0 xX7_readBracket d [.ref (n0 + 5), .int p0] K I4 L5 (fun vv I18 L19 => ∃ r20 : Int32, vv = some (.int r20) ∧ z_b r20 ∧ Q (some (.int r20)) I18 L19)))) else (if r3 < 105 then RM0 n0 xX7_emit d [.ref (n0 + 5), .int ((10000 + r3) - 97)] K (zI I4 5 3 ((I4 5 3) + 1)) L5 (fun vv I66 L67 => ∃ r68 : Int32, vv = some (.int r68) ∧ z_b r68 ∧ Q (some (.int r68)) I66 L67) else (if r3 = 120 then RM0 n0 xX7_readPoint d [.ref (n0 + 5), .int (if r3 = 120 then 10010 else 10020)] K (zI I4 5 3 ((I4 5 3) + 1)) L5 (fun vv I41 L42 => ∃ r43 : Int32, vv = some (.int r43) ∧ z_b r43 ∧ Q (some (.int r43)) I41 L42) else (if r3 = 121 then RM0 n0 xX7_readPoint d [.ref (n0 + 5), .int (if r3 = 120 then 10010 else 10020)] K (zI I4 5 3 ((I4 5 3) + 1)) L5 (fun vv I62 L63 => ∃ r64 : Int32, vv = some (.int r64) ∧ z_b r64 ∧ Q (some (.int r64)) I62 L63) else (if r3 = 114 then RM0 n0 xX7_readBracket d [.ref (n0 + 5), .int p0] K (zI I4 5 3 ((I4 5 3) + 1)) L5 (fun vv I51 L52 => ∃ r53 : Int32, vv = some (.int r53) ∧ (if r53 = 0 then Q (some (.int 0)) I51 L52 else RM0 n0 xX7_emit d [.ref (n0 + 5), .int 10034] K I51 L52 (fun vv I55 L56 => ∃ r57 : Int32, vv = some (.int r57) ∧ Q (some (.int (if r57 = 0 then 0 else 1))) I55 L56))) else RM0 n0 xX7_readBracket d [.ref (n0 + 5), .int p0] K I4 L5 (fun vv I47 L48 => ∃ r49 : Int32, vv = some (.int r49) ∧ z_b r49 ∧ Q (some (.int r49)) I47 L48)))))) else RM0 n0 xX7_readNumber d [.ref (n0 + 5)] K I4 L5 (fun vv I70 L71 => ∃ r72 : Int32, vv = some (.int r72) ∧ z_b r72 ∧ Q (some (.int r72)) I70 L71))))) : RM0 n0 xX7_readUnit (d + 1) [.ref (n0 + 5), .int p0] K I L Q := by
  refine z_entry0 (by decide) (Nat.le_of_ble_eq_true rfl) ?_
  change Z n0 xX7_readUnit (d + 1) 0 0 0 [(0, .ref (n0 + 5)), (1, .int p0)] [] K I L (z_q0 K Q)
  refine z_aload_n 0 dX7_readUnit_0 rfl ?_
  refine z_callV0 (As := []) (st := []) dX7_readUnit_1 hy_X7_next (co_5 hL).1 (co_5 hL).2 (by decide) wg_679 wg_681 wg_10 (Nat.le_refl _) (Nat.le_of_ble_eq_true rfl) (RM0.mono h ?_)
  clear h
  intro vv I1 L2 h
  obtain ⟨r3, rfl, h⟩ := h
  change Z n0 xX7_readUnit (d + 1) 0 0 4 [(0, .ref (n0 + 5)), (1, .int p0)] [.int r3] K I1 L2 (z_q0 K Q)
  refine z_istore_n [1, 2, 0] [(0, .ref (n0 + 5)), (1, .int p0), (2, .int r3)] dX7_readUnit_4 (by decide) rfl ?_
  refine z_iload_n 2 dX7_readUnit_5 rfl ?_
  refine z_callS0 (As := [.int r3]) (st := []) dX7_readUnit_6 hy_X7_isDigit wg_683 wg_684 (Nat.le_refl _) (Nat.le_of_ble_eq_true rfl) (RM0.mono h ?_)
  clear h
  intro vv I4 L5 h
  obtain ⟨r6, rfl, h⟩ := h
  change Z n0 xX7_readUnit (d + 1) 0 0 9 [(0, .ref (n0 + 5)), (1, .int p0), (2, .int r3)] [.int r6] K I4 L5 (z_q0 K Q)
  refine z_if_eq 17 dX7_readUnit_9 (by decide) (fun g7 => ?_) (fun g7 => ?_)
  · rw [if_pos g7] at h
    refine z_iload_n 2 dX7_readUnit_17 rfl ?_
    refine z_bipush 97 dX7_readUnit_18 (by decide) ?_
    refine z_icmp_lt 52 dX7_readUnit_20 (by decide) (fun g8 => ?_) (fun g8 => ?_)
    · rw [if_pos g8] at h
      refine z_iload_n 2 dX7_readUnit_52 rfl ?_
      refine z_bipush 120 dX7_readUnit_53 (by decide) ?_
      refine z_icmp_eq 64 dX7_readUnit_55 (by decide) (fun g9 => ?_) (fun g9 => ?_)
      · rw [if_pos g9] at h
        refine z_aload_n 0 dX7_readUnit_64 rfl ?_
        refine z_dup dX7_readUnit_65 rfl ?_
        refine fg_7_25 (I4 5 3) rfl dX7_readUnit_66 (co_5 hL).1 (co_5 hL).2 rfl ?_
        refine z_iconst 1 dX7_readUnit_69 (by decide) ?_
        refine z_iadd dX7_readUnit_70 ?_
        refine fp_7_25 rfl dX7_readUnit_71 (co_5 hL).1 (co_5 hL).2 ?_
        refine z_aload_n 0 dX7_readUnit_74 rfl ?_
        refine z_iload_n 2 dX7_readUnit_75 rfl ?_
        refine z_bipush 120 dX7_readUnit_76 (by decide) ?_
        have key11 : Z n0 xX7_readUnit (d + 1) 0 0 90 [] [.int (if r3 = 120 then 10010 else 10020), .ref (n0 + 5)] K (zI I4 5 3 ((I4 5 3) + 1)) L5 (z_q0 K Q) := by
          refine z_callV0 (As := [.int (if r3 = 120 then 10010 else 10020)]) (st := []) dX7_readUnit_90 hy_X7_readPoint (co_5 hL).1 (co_5 hL).2 (by decide) wg_698 wg_700 wg_14 (Nat.le_refl _) (Nat.le_of_ble_eq_true rfl) (RM0.mono h ?_)
          clear h
          intro vv I12 L13 h
          obtain ⟨r14, rfl, h⟩ := h
          change Z n0 xX7_readUnit (d + 1) 0 0 93 [] [.int r14] K I12 L13 (z_q0 K Q)
          obtain ⟨o15, h⟩ := h
          exact z_zretb dX7_readUnit_93 rfl o15 ⟨rfl, h⟩
        refine z_icmp_ne 87 dX7_readUnit_78 (by decide) (fun g10 => ?_) (fun g10 => ?_)
        · refine z_sipush 10020 dX7_readUnit_87 (by decide) ?_
          have ee : ((if r3 = 120 then 10010 else 10020) : Int32) = 10020 := by rw [if_neg g10]
          rw [ee] at key11
          clear ee
          refine z_sub [] rfl ?_
          exact key11
        · refine z_sipush 10010 dX7_readUnit_81 (by decide) ?_
          refine z_goto 90 dX7_readUnit_84 (by decide) ?_
          have ee : ((if r3 = 120 then 10010 else 10020) : Int32) = 10010 := by rw [if_pos g10]
          rw [ee] at key11
          clear ee
          refine z_sub [] rfl ?_
          exact key11
      · rw [if_neg g9] at h
        refine z_iload_n 2 dX7_readUnit_58 rfl ?_
        refine z_bipush 121 dX7_readUnit_59 (by decide) ?_
        refine z_icmp_ne 94 dX7_readUnit_61 (by decide) (fun g16 => ?_) (fun g16 => ?_)
        · rw [if_neg g16] at h
          refine z_iload_n 2 dX7_readUnit_94 rfl ?_
          refine z_bipush 114 dX7_readUnit_95 (by decide) ?_
          refine z_icmp_ne 134 dX7_readUnit_97 (by decide) (fun g17 => ?_) (fun g17 => ?_)
          · rw [if_neg g17] at h
            refine z_aload_n 0 dX7_readUnit_134 rfl ?_
            refine z_iload_n 1 dX7_readUnit_135 rfl ?_
            refine z_callV0 (As := [.int p0]) (st := []) dX7_readUnit_136 hy_X7_readBracket (co_5 hL).1 (co_5 hL).2 (by decide) wg_702 wg_704 wg_15 (Nat.le_refl _) (Nat.le_of_ble_eq_true rfl) (RM0.mono h ?_)
            clear h
            intro vv I18 L19 h
            obtain ⟨r20, rfl, h⟩ := h
            change Z n0 xX7_readUnit (d + 1) 0 0 139 [(0, .ref (n0 + 5)), (1, .int p0), (2, .int r3)] [.int r20] K I18 L19 (z_q0 K Q)
            obtain ⟨o21, h⟩ := h
            exact z_zretb dX7_readUnit_139 rfl o21 ⟨rfl, h⟩
          · rw [if_pos g17] at h
            refine z_aload_n 0 dX7_readUnit_100 rfl ?_
            refine z_dup dX7_readUnit_101 rfl ?_
            refine fg_7_25 (I4 5 3) rfl dX7_readUnit_102 (co_5 hL).1 (co_5 hL).2 rfl ?_
            refine z_iconst 1 dX7_readUnit_105 (by decide) ?_
            refine z_iadd dX7_readUnit_106 ?_
            refine fp_7_25 rfl dX7_readUnit_107 (co_5 hL).1 (co_5 hL).2 ?_
            refine z_aload_n 0 dX7_readUnit_110 rfl ?_
            refine z_iload_n 1 dX7_readUnit_111 rfl ?_
            refine z_callV0 (As := [.int p0]) (st := []) dX7_readUnit_112 hy_X7_readBracket (co_5 hL).1 (co_5 hL).2 (by decide) wg_702 wg_704 wg_15 (Nat.le_refl _) (Nat.le_of_ble_eq_true rfl) (RM0.mono h ?_)
            clear h
            intro vv I22 L23 h
            obtain ⟨r24, rfl, h⟩ := h
            change Z n0 xX7_readUnit (d + 1) 0 0 115 [(0, .ref (n0 + 5)), (1, .int p0), (2, .int r3)] [.int r24] K I22 L23 (z_q0 K Q)
            refine z_if_eq 132 dX7_readUnit_115 (by decide) (fun g25 => ?_) (fun g25 => ?_)
            · rw [if_pos g25] at h
              refine z_iconst 0 dX7_readUnit_132 (by decide) ?_
              exact z_zretb dX7_readUnit_133 rfl (Or.inl rfl) ⟨rfl, h⟩
            · rw [if_neg g25] at h
              refine z_aload_n 0 dX7_readUnit_118 rfl ?_
              refine z_sipush 10034 dX7_readUnit_119 (by decide) ?_
              refine z_callV0 (As := [.int 10034]) (st := []) dX7_readUnit_122 hy_X7_emit (co_5 hL).1 (co_5 hL).2 (by decide) wg_690 wg_692 wg_12 (Nat.le_refl _) (Nat.le_of_ble_eq_true rfl) (RM0.mono h ?_)
              clear h
              intro vv I26 L27 h
              obtain ⟨r28, rfl, h⟩ := h
              change Z n0 xX7_readUnit (d + 1) 0 0 125 [(0, .ref (n0 + 5)), (1, .int p0), (2, .int r3)] [.int r28] K I26 L27 (z_q0 K Q)
              have key30 : Z n0 xX7_readUnit (d + 1) 0 0 133 [] [.int (if r28 = 0 then 0 else 1)] K I26 L27 (z_q0 K Q) := by
                exact z_zretb dX7_readUnit_133 rfl (z_bite (by repeat' (first | exact Or.inl rfl | exact Or.inr rfl | split))) ⟨rfl, h⟩
              refine z_if_eq 132 dX7_readUnit_125 (by decide) (fun g29 => ?_) (fun g29 => ?_)
              · refine z_iconst 0 dX7_readUnit_132 (by decide) ?_
                have ee : ((if r28 = 0 then 0 else 1) : Int32) = 0 := by rw [if_pos g29]
                rw [ee] at key30
                clear ee
                refine z_sub [] rfl ?_
                exact key30
              · refine z_iconst 1 dX7_readUnit_128 (by decide) ?_
                refine z_goto 133 dX7_readUnit_129 (by decide) ?_
                have ee : ((if r28 = 0 then 0 else 1) : Int32) = 1 := by rw [if_neg g29]
                rw [ee] at key30
                clear ee
                refine z_sub [] rfl ?_
                exact key30
        · rw [if_pos g16] at h
          refine z_aload_n 0 dX7_readUnit_64 rfl ?_
          refine z_dup dX7_readUnit_65 rfl ?_
          refine fg_7_25 (I4 5 3) rfl dX7_readUnit_66 (co_5 hL).1 (co_5 hL).2 rfl ?_
          refine z_iconst 1 dX7_readUnit_69 (by decide) ?_
          refine z_iadd dX7_readUnit_70 ?_
          refine fp_7_25 rfl dX7_readUnit_71 (co_5 hL).1 (co_5 hL).2 ?_
          refine z_aload_n 0 dX7_readUnit_74 rfl ?_
          refine z_iload_n 2 dX7_readUnit_75 rfl ?_
          refine z_bipush 120 dX7_readUnit_76 (by decide) ?_
          have key32 : Z n0 xX7_readUnit (d + 1) 0 0 90 [] [.int (if r3 = 120 then 10010 else 10020), .ref (n0 + 5)] K (zI I4 5 3 ((I4 5 3) + 1)) L5 (z_q0 K Q) := by
            refine z_callV0 (As := [.int (if r3 = 120 then 10010 else 10020)]) (st := []) dX7_readUnit_90 hy_X7_readPoint (co_5 hL).1 (co_5 hL).2 (by decide) wg_698 wg_700 wg_14 (Nat.le_refl _) (Nat.le_of_ble_eq_true rfl) (RM0.mono h ?_)
            clear h
            intro vv I33 L34 h
            obtain ⟨r35, rfl, h⟩ := h
            change Z n0 xX7_readUnit (d + 1) 0 0 93 [] [.int r35] K I33 L34 (z_q0 K Q)
            obtain ⟨o36, h⟩ := h
            exact z_zretb dX7_readUnit_93 rfl o36 ⟨rfl, h⟩
          refine z_icmp_ne 87 dX7_readUnit_78 (by decide) (fun g31 => ?_) (fun g31 => ?_)
          · refine z_sipush 10020 dX7_readUnit_87 (by decide) ?_
            have ee : ((if r3 = 120 then 10010 else 10020) : Int32) = 10020 := by rw [if_neg g31]
            rw [ee] at key32
            clear ee
            refine z_sub [] rfl ?_
            exact key32
          · refine z_sipush 10010 dX7_readUnit_81 (by decide) ?_
            refine z_goto 90 dX7_readUnit_84 (by decide) ?_
            have ee : ((if r3 = 120 then 10010 else 10020) : Int32) = 10010 := by rw [if_pos g31]
            rw [ee] at key32
            clear ee
            refine z_sub [] rfl ?_
            exact key32
    · rw [if_neg g8] at h
      refine z_iload_n 2 dX7_readUnit_23 rfl ?_
      refine z_bipush 105 dX7_readUnit_24 (by decide) ?_
      refine z_icmp_ge 52 dX7_readUnit_26 (by decide) (fun g37 => ?_) (fun g37 => ?_)
      · rw [if_neg g37] at h
        refine z_iload_n 2 dX7_readUnit_52 rfl ?_
        refine z_bipush 120 dX7_readUnit_53 (by decide) ?_
        refine z_icmp_eq 64 dX7_readUnit_55 (by decide) (fun g38 => ?_) (fun g38 => ?_)
        · rw [if_pos g38] at h
          refine z_aload_n 0 dX7_readUnit_64 rfl ?_
          refine z_dup dX7_readUnit_65 rfl ?_
          refine fg_7_25 (I4 5 3) rfl dX7_readUnit_66 (co_5 hL).1 (co_5 hL).2 rfl ?_
          refine z_iconst 1 dX7_readUnit_69 (by decide) ?_
          refine z_iadd dX7_readUnit_70 ?_
          refine fp_7_25 rfl dX7_readUnit_71 (co_5 hL).1 (co_5 hL).2 ?_
          refine z_aload_n 0 dX7_readUnit_74 rfl ?_
          refine z_iload_n 2 dX7_readUnit_75 rfl ?_
          refine z_bipush 120 dX7_readUnit_76 (by decide) ?_
          have key40 : Z n0 xX7_readUnit (d + 1) 0 0 90 [] [.int (if r3 = 120 then 10010 else 10020), .ref (n0 + 5)] K (zI I4 5 3 ((I4 5 3) + 1)) L5 (z_q0 K Q) := by
            refine z_callV0 (As := [.int (if r3 = 120 then 10010 else 10020)]) (st := []) dX7_readUnit_90 hy_X7_readPoint (co_5 hL).1 (co_5 hL).2 (by decide) wg_698 wg_700 wg_14 (Nat.le_refl _) (Nat.le_of_ble_eq_true rfl) (RM0.mono h ?_)
            clear h
            intro vv I41 L42 h
            obtain ⟨r43, rfl, h⟩ := h
            change Z n0 xX7_readUnit (d + 1) 0 0 93 [] [.int r43] K I41 L42 (z_q0 K Q)
            obtain ⟨o44, h⟩ := h
            exact z_zretb dX7_readUnit_93 rfl o44 ⟨rfl, h⟩
          refine z_icmp_ne 87 dX7_readUnit_78 (by decide) (fun g39 => ?_) (fun g39 => ?_)
          · refine z_sipush 10020 dX7_readUnit_87 (by decide) ?_
            have ee : ((if r3 = 120 then 10010 else 10020) : Int32) = 10020 := by rw [if_neg g39]
            rw [ee] at key40
            clear ee
            refine z_sub [] rfl ?_
            exact key40
          · refine z_sipush 10010 dX7_readUnit_81 (by decide) ?_
            refine z_goto 90 dX7_readUnit_84 (by decide) ?_
            have ee : ((if r3 = 120 then 10010 else 10020) : Int32) = 10010 := by rw [if_pos g39]
            rw [ee] at key40
            clear ee
            refine z_sub [] rfl ?_
            exact key40
        · rw [if_neg g38] at h
          refine z_iload_n 2 dX7_readUnit_58 rfl ?_
          refine z_bipush 121 dX7_readUnit_59 (by decide) ?_
          refine z_icmp_ne 94 dX7_readUnit_61 (by decide) (fun g45 => ?_) (fun g45 => ?_)
          · rw [if_neg g45] at h
            refine z_iload_n 2 dX7_readUnit_94 rfl ?_
            refine z_bipush 114 dX7_readUnit_95 (by decide) ?_
            refine z_icmp_ne 134 dX7_readUnit_97 (by decide) (fun g46 => ?_) (fun g46 => ?_)
            · rw [if_neg g46] at h
              refine z_aload_n 0 dX7_readUnit_134 rfl ?_
              refine z_iload_n 1 dX7_readUnit_135 rfl ?_
              refine z_callV0 (As := [.int p0]) (st := []) dX7_readUnit_136 hy_X7_readBracket (co_5 hL).1 (co_5 hL).2 (by decide) wg_702 wg_704 wg_15 (Nat.le_refl _) (Nat.le_of_ble_eq_true rfl) (RM0.mono h ?_)
              clear h
              intro vv I47 L48 h
              obtain ⟨r49, rfl, h⟩ := h
              change Z n0 xX7_readUnit (d + 1) 0 0 139 [(0, .ref (n0 + 5)), (1, .int p0), (2, .int r3)] [.int r49] K I47 L48 (z_q0 K Q)
              obtain ⟨o50, h⟩ := h
              exact z_zretb dX7_readUnit_139 rfl o50 ⟨rfl, h⟩
            · rw [if_pos g46] at h
              refine z_aload_n 0 dX7_readUnit_100 rfl ?_
              refine z_dup dX7_readUnit_101 rfl ?_
              refine fg_7_25 (I4 5 3) rfl dX7_readUnit_102 (co_5 hL).1 (co_5 hL).2 rfl ?_
              refine z_iconst 1 dX7_readUnit_105 (by decide) ?_
              refine z_iadd dX7_readUnit_106 ?_
              refine fp_7_25 rfl dX7_readUnit_107 (co_5 hL).1 (co_5 hL).2 ?_
              refine z_aload_n 0 dX7_readUnit_110 rfl ?_
              refine z_iload_n 1 dX7_readUnit_111 rfl ?_
              refine z_callV0 (As := [.int p0]) (st := []) dX7_readUnit_112 hy_X7_readBracket (co_5 hL).1 (co_5 hL).2 (by decide) wg_702 wg_704 wg_15 (Nat.le_refl _) (Nat.le_of_ble_eq_true rfl) (RM0.mono h ?_)
              clear h
              intro vv I51 L52 h
              obtain ⟨r53, rfl, h⟩ := h
              change Z n0 xX7_readUnit (d + 1) 0 0 115 [(0, .ref (n0 + 5)), (1, .int p0), (2, .int r3)] [.int r53] K I51 L52 (z_q0 K Q)
              refine z_if_eq 132 dX7_readUnit_115 (by decide) (fun g54 => ?_) (fun g54 => ?_)
              · rw [if_pos g54] at h
                refine z_iconst 0 dX7_readUnit_132 (by decide) ?_
                exact z_zretb dX7_readUnit_133 rfl (Or.inl rfl) ⟨rfl, h⟩
              · rw [if_neg g54] at h
                refine z_aload_n 0 dX7_readUnit_118 rfl ?_
                refine z_sipush 10034 dX7_readUnit_119 (by decide) ?_
                refine z_callV0 (As := [.int 10034]) (st := []) dX7_readUnit_122 hy_X7_emit (co_5 hL).1 (co_5 hL).2 (by decide) wg_690 wg_692 wg_12 (Nat.le_refl _) (Nat.le_of_ble_eq_true rfl) (RM0.mono h ?_)
                clear h
                intro vv I55 L56 h
                obtain ⟨r57, rfl, h⟩ := h
                change Z n0 xX7_readUnit (d + 1) 0 0 125 [(0, .ref (n0 + 5)), (1, .int p0), (2, .int r3)] [.int r57] K I55 L56 (z_q0 K Q)
                have key59 : Z n0 xX7_readUnit (d + 1) 0 0 133 [] [.int (if r57 = 0 then 0 else 1)] K I55 L56 (z_q0 K Q) := by
                  exact z_zretb dX7_readUnit_133 rfl (z_bite (by repeat' (first | exact Or.inl rfl | exact Or.inr rfl | split))) ⟨rfl, h⟩
                refine z_if_eq 132 dX7_readUnit_125 (by decide) (fun g58 => ?_) (fun g58 => ?_)
                · refine z_iconst 0 dX7_readUnit_132 (by decide) ?_
                  have ee : ((if r57 = 0 then 0 else 1) : Int32) = 0 := by rw [if_pos g58]
                  rw [ee] at key59
                  clear ee
                  refine z_sub [] rfl ?_
                  exact key59
                · refine z_iconst 1 dX7_readUnit_128 (by decide) ?_
                  refine z_goto 133 dX7_readUnit_129 (by decide) ?_
                  have ee : ((if r57 = 0 then 0 else 1) : Int32) = 1 := by rw [if_neg g58]
                  rw [ee] at key59
                  clear ee
                  refine z_sub [] rfl ?_
                  exact key59
          · rw [if_pos g45] at h
            refine z_aload_n 0 dX7_readUnit_64 rfl ?_
            refine z_dup dX7_readUnit_65 rfl ?_
            refine fg_7_25 (I4 5 3) rfl dX7_readUnit_66 (co_5 hL).1 (co_5 hL).2 rfl ?_
            refine z_iconst 1 dX7_readUnit_69 (by decide) ?_
            refine z_iadd dX7_readUnit_70 ?_
            refine fp_7_25 rfl dX7_readUnit_71 (co_5 hL).1 (co_5 hL).2 ?_
            refine z_aload_n 0 dX7_readUnit_74 rfl ?_
            refine z_iload_n 2 dX7_readUnit_75 rfl ?_
            refine z_bipush 120 dX7_readUnit_76 (by decide) ?_
            have key61 : Z n0 xX7_readUnit (d + 1) 0 0 90 [] [.int (if r3 = 120 then 10010 else 10020), .ref (n0 + 5)] K (zI I4 5 3 ((I4 5 3) + 1)) L5 (z_q0 K Q) := by
              refine z_callV0 (As := [.int (if r3 = 120 then 10010 else 10020)]) (st := []) dX7_readUnit_90 hy_X7_readPoint (co_5 hL).1 (co_5 hL).2 (by decide) wg_698 wg_700 wg_14 (Nat.le_refl _) (Nat.le_of_ble_eq_true rfl) (RM0.mono h ?_)
              clear h
              intro vv I62 L63 h
              obtain ⟨r64, rfl, h⟩ := h
              change Z n0 xX7_readUnit (d + 1) 0 0 93 [] [.int r64] K I62 L63 (z_q0 K Q)
              obtain ⟨o65, h⟩ := h
              exact z_zretb dX7_readUnit_93 rfl o65 ⟨rfl, h⟩
            refine z_icmp_ne 87 dX7_readUnit_78 (by decide) (fun g60 => ?_) (fun g60 => ?_)
            · refine z_sipush 10020 dX7_readUnit_87 (by decide) ?_
              have ee : ((if r3 = 120 then 10010 else 10020) : Int32) = 10020 := by rw [if_neg g60]
              rw [ee] at key61
              clear ee
              refine z_sub [] rfl ?_
              exact key61
            · refine z_sipush 10010 dX7_readUnit_81 (by decide) ?_
              refine z_goto 90 dX7_readUnit_84 (by decide) ?_
              have ee : ((if r3 = 120 then 10010 else 10020) : Int32) = 10010 := by rw [if_pos g60]
              rw [ee] at key61
              clear ee
              refine z_sub [] rfl ?_
              exact key61
      · rw [if_pos g37] at h
        refine z_aload_n 0 dX7_readUnit_29 rfl ?_
        refine z_dup dX7_readUnit_30 rfl ?_
        refine fg_7_25 (I4 5 3) rfl dX7_readUnit_31 (co_5 hL).1 (co_5 hL).2 rfl ?_
        refine z_iconst 1 dX7_readUnit_34 (by decide) ?_
        refine z_iadd dX7_readUnit_35 ?_
        refine fp_7_25 rfl dX7_readUnit_36 (co_5 hL).1 (co_5 hL).2 ?_
        refine z_aload_n 0 dX7_readUnit_39 rfl ?_
        refine z_sipush 10000 dX7_readUnit_40 (by decide) ?_
        refine z_iload_n 2 dX7_readUnit_43 rfl ?_
        refine z_iadd dX7_readUnit_44 ?_
        refine z_bipush 97 dX7_readUnit_45 (by decide) ?_
        refine z_isub dX7_readUnit_47 ?_
        refine z_callV0 (As := [.int ((10000 + r3) - 97)]) (st := []) dX7_readUnit_48 hy_X7_emit (co_5 hL).1 (co_5 hL).2 (by decide) wg_690 wg_692 wg_12 (Nat.le_refl _) (Nat.le_of_ble_eq_true rfl) (RM0.mono h ?_)
        clear h
        intro vv I66 L67 h
        obtain ⟨r68, rfl, h⟩ := h
        change Z n0 xX7_readUnit (d + 1) 0 0 51 [(0, .ref (n0 + 5)), (1, .int p0), (2, .int r3)] [.int r68] K I66 L67 (z_q0 K Q)
        obtain ⟨o69, h⟩ := h
        exact z_zretb dX7_readUnit_51 rfl o69 ⟨rfl, h⟩
  · rw [if_neg g7] at h
    refine z_aload_n 0 dX7_readUnit_12 rfl ?_
    refine z_callV0 (As := []) (st := []) dX7_readUnit_13 hy_X7_readNumber (co_5 hL).1 (co_5 hL).2 (by decide) wg_686 wg_688 wg_11 (Nat.le_refl _) (Nat.le_of_ble_eq_true rfl) (RM0.mono h ?_)
    clear h
    intro vv I70 L71 h
    obtain ⟨r72, rfl, h⟩ := h
    change Z n0 xX7_readUnit (d + 1) 0 0 16 [(0, .ref (n0 + 5)), (1, .int p0), (2, .int r3)] [.int r72] K I70 L71 (z_q0 K Q)
    obtain ⟨o73, h⟩ := h
    exact z_zretb dX7_readUnit_16 rfl o73 ⟨rfl, h⟩
theorem dX7_readNumber_0 : decode cX7_readNumber 0 = .ok (.iconst 0, 1) := by decide +kernel
theorem dX7_readNumber_1 : decode cX7_readNumber 1 = .ok (.istore_n 1, 1) := by decide +kernel
theorem dX7_readNumber_2 : decode cX7_readNumber 2 = .ok (.iconst 0, 1) := by decide +kernel
theorem dX7_readNumber_3 : decode cX7_readNumber 3 = .ok (.istore_n 2, 1) := by decide +kernel
theorem dX7_readNumber_4 : decode cX7_readNumber 4 = .ok (.iload_n 2, 1) := by decide +kernel
theorem dX7_readNumber_5 : decode cX7_readNumber 5 = .ok (.iconst 4, 1) := by decide +kernel
theorem dX7_readNumber_6 : decode cX7_readNumber 6 = .ok (.if_icmp .ge 42, 3) := by decide +kernel
theorem dX7_readNumber_9 : decode cX7_readNumber 9 = .ok (.aload_n 0, 1) := by decide +kernel
theorem dX7_readNumber_10 : decode cX7_readNumber 10 = .ok (.invokevirtual 38, 3) := by decide +kernel
theorem dX7_readNumber_13 : decode cX7_readNumber 13 = .ok (.invokestatic 64, 3) := by decide +kernel
theorem dX7_readNumber_16 : decode cX7_readNumber 16 = .ok (.ifCond .eq 32, 3) := by decide +kernel
theorem dX7_readNumber_19 : decode cX7_readNumber 19 = .ok (.iload_n 1, 1) := by decide +kernel
theorem dX7_readNumber_20 : decode cX7_readNumber 20 = .ok (.bipush 10, 2) := by decide +kernel
theorem dX7_readNumber_22 : decode cX7_readNumber 22 = .ok (.imul, 1) := by decide +kernel
theorem dX7_readNumber_23 : decode cX7_readNumber 23 = .ok (.aload_n 0, 1) := by decide +kernel
theorem dX7_readNumber_24 : decode cX7_readNumber 24 = .ok (.invokevirtual 38, 3) := by decide +kernel
theorem dX7_readNumber_27 : decode cX7_readNumber 27 = .ok (.iadd, 1) := by decide +kernel
theorem dX7_readNumber_28 : decode cX7_readNumber 28 = .ok (.bipush 48, 2) := by decide +kernel
theorem dX7_readNumber_30 : decode cX7_readNumber 30 = .ok (.isub, 1) := by decide +kernel
theorem dX7_readNumber_31 : decode cX7_readNumber 31 = .ok (.istore_n 1, 1) := by decide +kernel
theorem dX7_readNumber_32 : decode cX7_readNumber 32 = .ok (.aload_n 0, 1) := by decide +kernel
theorem dX7_readNumber_33 : decode cX7_readNumber 33 = .ok (.dup, 1) := by decide +kernel
theorem dX7_readNumber_34 : decode cX7_readNumber 34 = .ok (.getfield 25, 3) := by decide +kernel
theorem dX7_readNumber_37 : decode cX7_readNumber 37 = .ok (.iconst 1, 1) := by decide +kernel
theorem dX7_readNumber_38 : decode cX7_readNumber 38 = .ok (.iadd, 1) := by decide +kernel
theorem dX7_readNumber_39 : decode cX7_readNumber 39 = .ok (.putfield 25, 3) := by decide +kernel
theorem dX7_readNumber_42 : decode cX7_readNumber 42 = .ok (.iinc 2 1, 3) := by decide +kernel
theorem dX7_readNumber_45 : decode cX7_readNumber 45 = .ok (.goto (-41), 3) := by decide +kernel
theorem dX7_readNumber_48 : decode cX7_readNumber 48 = .ok (.aload_n 0, 1) := by decide +kernel
theorem dX7_readNumber_49 : decode cX7_readNumber 49 = .ok (.iload_n 1, 1) := by decide +kernel
theorem dX7_readNumber_50 : decode cX7_readNumber 50 = .ok (.invokevirtual 58, 3) := by decide +kernel
theorem dX7_readNumber_53 : decode cX7_readNumber 53 = .ok (.ireturn, 1) := by decide +kernel
set_option maxRecDepth 100000 in
set_option maxHeartbeats 4000000 in
theorem wp_X7_readNumber {n0 d : Nat} {K : z_K} {I : z_I} {L : z_L} {Q : z_q}  (hL : CLay K) (h : Z n0 xX7_readNumber (d + 1) 0 0 4 [(0, .ref (n0 + 5)), (1, .int 0), (2, .int 0)] [] K I L (z_q0 K Q)) : RM0 n0 xX7_readNumber (d + 1) [.ref (n0 + 5)] K I L Q := by
  refine z_entry0 (by decide) (Nat.le_of_ble_eq_true rfl) ?_
  change Z n0 xX7_readNumber (d + 1) 0 0 0 [(0, .ref (n0 + 5))] [] K I L (z_q0 K Q)
  refine z_iconst 0 dX7_readNumber_0 (by decide) ?_
  refine z_istore_n [1, 0] [(0, .ref (n0 + 5)), (1, .int 0)] dX7_readNumber_1 (by decide) rfl ?_
  refine z_iconst 0 dX7_readNumber_2 (by decide) ?_
  refine z_istore_n [1, 2, 0] [(0, .ref (n0 + 5)), (1, .int 0), (2, .int 0)] dX7_readNumber_3 (by decide) rfl ?_
  exact h
set_option maxRecDepth 100000 in
set_option maxHeartbeats 4000000 in
theorem wp_X7_readNumber_4 {n0 d : Nat} {rc rs : Nat} {K : z_K} {I : z_I} {L : z_L} {Q : z_q} {a1 : Int32} {a2 : Int32} (hL : CLay K) (h : (if a2 < 4 then RM0 n0 xX7_next d [.ref (n0 + 5)] K I L (fun vv I6 L7 => ∃ r8 : Int32, vv = some (.int r8) ∧ RM0 n0 xX7_isDigit d [.int r8] K I6 L7 (fun vv I9 L10 => ∃ r11 : Int32, vv = some (.int r11) ∧ (if r11 = 0 then RM0 n0 xX7_emit d [.ref (n0 + 5), .int a1] K I9 L10 (fun vv I13 L14 => ∃ r15 : Int32, vv = some (.int r15) ∧ z_b r15 ∧ Q (some (.int r15)) I13 L14) else RM0 n0 xX7_next d [.ref (n0 + 5)] K I9 L10 (fun vv I17 L18 => ∃ r19 : Int32, vv = some (.int r19) ∧ Z n0 xX7_readNumber (d + 1) rc rs 4 [(0, .ref (n0 + 5)), (1, .int (((a1 * 10) + r19) - 48)), (2, .int (a2 + 1))] [] K (zI I17 5 3 ((I17 5 3) + 1)) L18 (z_q0 K Q))))) else RM0 n0 xX7_emit d [.ref (n0 + 5), .int a1] K I L (fun vv I2 L3 => ∃ r4 : Int32, vv = some (.int r4) ∧ z_b r4 ∧ Q (some (.int r4)) I2 L3))) : Z n0 xX7_readNumber (d + 1) rc rs 4 [(0, .ref (n0 + 5)), (1, .int a1), (2, .int a2)] [] K I L (z_q0 K Q) := by
  refine z_iload_n 2 dX7_readNumber_4 rfl ?_
  refine z_iconst 4 dX7_readNumber_5 (by decide) ?_
  refine z_icmp_ge 48 dX7_readNumber_6 (by decide) (fun g1 => ?_) (fun g1 => ?_)
  · rw [if_neg g1] at h
    refine z_aload_n 0 dX7_readNumber_48 rfl ?_
    refine z_iload_n 1 dX7_readNumber_49 rfl ?_
    refine z_callV0 (As := [.int a1]) (st := []) dX7_readNumber_50 hy_X7_emit (co_5 hL).1 (co_5 hL).2 (by decide) wg_690 wg_692 wg_12 (Nat.le_refl _) (Nat.le_of_ble_eq_true rfl) (RM0.mono h ?_)
    clear h
    intro vv I2 L3 h
    obtain ⟨r4, rfl, h⟩ := h
    change Z n0 xX7_readNumber (d + 1) rc rs 53 [(0, .ref (n0 + 5)), (1, .int a1), (2, .int a2)] [.int r4] K I2 L3 (z_q0 K Q)
    obtain ⟨o5, h⟩ := h
    exact z_zretb dX7_readNumber_53 rfl o5 ⟨rfl, h⟩
  · rw [if_pos g1] at h
    refine z_aload_n 0 dX7_readNumber_9 rfl ?_
    refine z_callV0 (As := []) (st := []) dX7_readNumber_10 hy_X7_next (co_5 hL).1 (co_5 hL).2 (by decide) wg_679 wg_681 wg_10 (Nat.le_refl _) (Nat.le_of_ble_eq_true rfl) (RM0.mono h ?_)
    clear h
    intro vv I6 L7 h
    obtain ⟨r8, rfl, h⟩ := h
    change Z n0 xX7_readNumber (d + 1) rc rs 13 [(0, .ref (n0 + 5)), (1, .int a1), (2, .int a2)] [.int r8] K I6 L7 (z_q0 K Q)
    refine z_callS0 (As := [.int r8]) (st := []) dX7_readNumber_13 hy_X7_isDigit wg_683 wg_684 (Nat.le_refl _) (Nat.le_of_ble_eq_true rfl) (RM0.mono h ?_)
    clear h
    intro vv I9 L10 h
    obtain ⟨r11, rfl, h⟩ := h
    change Z n0 xX7_readNumber (d + 1) rc rs 16 [(0, .ref (n0 + 5)), (1, .int a1), (2, .int a2)] [.int r11] K I9 L10 (z_q0 K Q)
    refine z_if_eq 48 dX7_readNumber_16 (by decide) (fun g12 => ?_) (fun g12 => ?_)
    · rw [if_pos g12] at h
      refine z_aload_n 0 dX7_readNumber_48 rfl ?_
      refine z_iload_n 1 dX7_readNumber_49 rfl ?_
      refine z_callV0 (As := [.int a1]) (st := []) dX7_readNumber_50 hy_X7_emit (co_5 hL).1 (co_5 hL).2 (by decide) wg_690 wg_692 wg_12 (Nat.le_refl _) (Nat.le_of_ble_eq_true rfl) (RM0.mono h ?_)
      clear h
      intro vv I13 L14 h
      obtain ⟨r15, rfl, h⟩ := h
      change Z n0 xX7_readNumber (d + 1) rc rs 53 [(0, .ref (n0 + 5)), (1, .int a1), (2, .int a2)] [.int r15] K I13 L14 (z_q0 K Q)
      obtain ⟨o16, h⟩ := h
      exact z_zretb dX7_readNumber_53 rfl o16 ⟨rfl, h⟩
    · rw [if_neg g12] at h
      refine z_iload_n 1 dX7_readNumber_19 rfl ?_
      refine z_bipush 10 dX7_readNumber_20 (by decide) ?_
      refine z_imul dX7_readNumber_22 ?_
      refine z_aload_n 0 dX7_readNumber_23 rfl ?_
      refine z_callV0 (As := []) (st := [.int (a1 * 10)]) dX7_readNumber_24 hy_X7_next (co_5 hL).1 (co_5 hL).2 (by decide) wg_679 wg_681 wg_10 (Nat.le_refl _) (Nat.le_of_ble_eq_true rfl) (RM0.mono h ?_)
      clear h
      intro vv I17 L18 h
      obtain ⟨r19, rfl, h⟩ := h
      change Z n0 xX7_readNumber (d + 1) rc rs 27 [(0, .ref (n0 + 5)), (1, .int a1), (2, .int a2)] [.int r19, .int (a1 * 10)] K I17 L18 (z_q0 K Q)
      refine z_iadd dX7_readNumber_27 ?_
      refine z_bipush 48 dX7_readNumber_28 (by decide) ?_
      refine z_isub dX7_readNumber_30 ?_
      refine z_istore_n [1, 0, 2] [(0, .ref (n0 + 5)), (1, .int (((a1 * 10) + r19) - 48)), (2, .int a2)] dX7_readNumber_31 (by decide) rfl ?_
      refine z_aload_n 0 dX7_readNumber_32 rfl ?_
      refine z_dup dX7_readNumber_33 rfl ?_
      refine fg_7_25 (I17 5 3) rfl dX7_readNumber_34 (co_5 hL).1 (co_5 hL).2 rfl ?_
      refine z_iconst 1 dX7_readNumber_37 (by decide) ?_
      refine z_iadd dX7_readNumber_38 ?_
      refine fp_7_25 rfl dX7_readNumber_39 (co_5 hL).1 (co_5 hL).2 ?_
      refine z_iinc (j := 2) (a2 + 1) [1, 2, 0] [(0, .ref (n0 + 5)), (1, .int (((a1 * 10) + r19) - 48)), (2, .int (a2 + 1))] dX7_readNumber_42 rfl rfl (by decide) rfl ?_
      refine z_goto 4 dX7_readNumber_45 (by decide) ?_
      exact h
theorem dX7_readPoint_0 : decode cX7_readPoint 0 = .ok (.aload_n 0, 1) := by decide +kernel
theorem dX7_readPoint_1 : decode cX7_readPoint 1 = .ok (.invokevirtual 38, 3) := by decide +kernel
theorem dX7_readPoint_4 : decode cX7_readPoint 4 = .ok (.bipush 48, 2) := by decide +kernel
theorem dX7_readPoint_6 : decode cX7_readPoint 6 = .ok (.isub, 1) := by decide +kernel
theorem dX7_readPoint_7 : decode cX7_readPoint 7 = .ok (.istore_n 2, 1) := by decide +kernel
theorem dX7_readPoint_8 : decode cX7_readPoint 8 = .ok (.iload_n 2, 1) := by decide +kernel
theorem dX7_readPoint_9 : decode cX7_readPoint 9 = .ok (.ifCond .lt 17, 3) := by decide +kernel
theorem dX7_readPoint_12 : decode cX7_readPoint 12 = .ok (.iload_n 2, 1) := by decide +kernel
theorem dX7_readPoint_13 : decode cX7_readPoint 13 = .ok (.bipush 9, 2) := by decide +kernel
theorem dX7_readPoint_15 : decode cX7_readPoint 15 = .ok (.if_icmp .gt 11, 3) := by decide +kernel
theorem dX7_readPoint_18 : decode cX7_readPoint 18 = .ok (.iload_n 2, 1) := by decide +kernel
theorem dX7_readPoint_19 : decode cX7_readPoint 19 = .ok (.aload_n 0, 1) := by decide +kernel
theorem dX7_readPoint_20 : decode cX7_readPoint 20 = .ok (.getfield 28, 3) := by decide +kernel
theorem dX7_readPoint_23 : decode cX7_readPoint 23 = .ok (.if_icmp .lt 8, 3) := by decide +kernel
theorem dX7_readPoint_26 : decode cX7_readPoint 26 = .ok (.aload_n 0, 1) := by decide +kernel
theorem dX7_readPoint_27 : decode cX7_readPoint 27 = .ok (.invokevirtual 42, 3) := by decide +kernel
theorem dX7_readPoint_30 : decode cX7_readPoint 30 = .ok (.ireturn, 1) := by decide +kernel
theorem dX7_readPoint_31 : decode cX7_readPoint 31 = .ok (.aload_n 0, 1) := by decide +kernel
theorem dX7_readPoint_32 : decode cX7_readPoint 32 = .ok (.dup, 1) := by decide +kernel
theorem dX7_readPoint_33 : decode cX7_readPoint 33 = .ok (.getfield 25, 3) := by decide +kernel
theorem dX7_readPoint_36 : decode cX7_readPoint 36 = .ok (.iconst 1, 1) := by decide +kernel
theorem dX7_readPoint_37 : decode cX7_readPoint 37 = .ok (.iadd, 1) := by decide +kernel
theorem dX7_readPoint_38 : decode cX7_readPoint 38 = .ok (.putfield 25, 3) := by decide +kernel
theorem dX7_readPoint_41 : decode cX7_readPoint 41 = .ok (.aload_n 0, 1) := by decide +kernel
theorem dX7_readPoint_42 : decode cX7_readPoint 42 = .ok (.iload_n 1, 1) := by decide +kernel
theorem dX7_readPoint_43 : decode cX7_readPoint 43 = .ok (.iload_n 2, 1) := by decide +kernel
theorem dX7_readPoint_44 : decode cX7_readPoint 44 = .ok (.iadd, 1) := by decide +kernel
theorem dX7_readPoint_45 : decode cX7_readPoint 45 = .ok (.invokevirtual 58, 3) := by decide +kernel
theorem dX7_readPoint_48 : decode cX7_readPoint 48 = .ok (.ireturn, 1) := by decide +kernel
set_option maxRecDepth 100000 in
set_option maxHeartbeats 4000000 in
theorem wp_X7_readPoint {n0 d : Nat} {K : z_K} {I : z_I} {L : z_L} {Q : z_q} {p0 : Int32} (hL : CLay K) (h : RM0 n0 xX7_next d [.ref (n0 + 5)] K I L (fun vv I1 L2 => ∃ r3 : Int32, vv = some (.int r3) ∧ (if ((r3 - 48) : Int32) < 0 then RM0 n0 xX7_failHere d [.ref (n0 + 5)] K I1 L2 (fun vv I5 L6 => ∃ r7 : Int32, vv = some (.int r7) ∧ z_b r7 ∧ Q (some (.int r7)) I5 L6) else (if 9 < ((r3 - 48) : Int32) then RM0 n0 xX7_failHere d [.ref (n0 + 5)] K I1 L2 (fun vv I10 L11 => ∃ r12 : Int32, vv = some (.int r12) ∧ z_b r12 ∧ Q (some (.int r12)) I10 L11) else (if ((r3 - 48) : Int32) < (I1 5 4) then RM0 n0 xX7_emit d [.ref (n0 + 5), .int (p0 + (r3 - 48))] K (zI I1 5 3 ((I1 5 3) + 1)) L2 (fun vv I15 L16 => ∃ r17 : Int32, vv = some (.int r17) ∧ z_b r17 ∧ Q (some (.int r17)) I15 L16) else RM0 n0 xX7_failHere d [.ref (n0 + 5)] K I1 L2 (fun vv I19 L20 => ∃ r21 : Int32, vv = some (.int r21) ∧ z_b r21 ∧ Q (some (.int r21)) I19 L20)))))) : RM0 n0 xX7_readPoint (d + 1) [.ref (n0 + 5), .int p0] K I L Q := by
  refine z_entry0 (by decide) (Nat.le_of_ble_eq_true rfl) ?_
  change Z n0 xX7_readPoint (d + 1) 0 0 0 [(0, .ref (n0 + 5)), (1, .int p0)] [] K I L (z_q0 K Q)
  refine z_aload_n 0 dX7_readPoint_0 rfl ?_
  refine z_callV0 (As := []) (st := []) dX7_readPoint_1 hy_X7_next (co_5 hL).1 (co_5 hL).2 (by decide) wg_679 wg_681 wg_10 (Nat.le_refl _) (Nat.le_of_ble_eq_true rfl) (RM0.mono h ?_)
  clear h
  intro vv I1 L2 h
  obtain ⟨r3, rfl, h⟩ := h
  change Z n0 xX7_readPoint (d + 1) 0 0 4 [(0, .ref (n0 + 5)), (1, .int p0)] [.int r3] K I1 L2 (z_q0 K Q)
  refine z_bipush 48 dX7_readPoint_4 (by decide) ?_
  refine z_isub dX7_readPoint_6 ?_
  refine z_istore_n [1, 2, 0] [(0, .ref (n0 + 5)), (1, .int p0), (2, .int (r3 - 48))] dX7_readPoint_7 (by decide) rfl ?_
  refine z_iload_n 2 dX7_readPoint_8 rfl ?_
  refine z_if_lt 26 dX7_readPoint_9 (by decide) (fun g4 => ?_) (fun g4 => ?_)
  · rw [if_pos g4] at h
    refine z_aload_n 0 dX7_readPoint_26 rfl ?_
    refine z_callV0 (As := []) (st := []) dX7_readPoint_27 hy_X7_failHere (co_5 hL).1 (co_5 hL).2 (by decide) wg_694 wg_696 wg_13 (Nat.le_refl _) (Nat.le_of_ble_eq_true rfl) (RM0.mono h ?_)
    clear h
    intro vv I5 L6 h
    obtain ⟨r7, rfl, h⟩ := h
    change Z n0 xX7_readPoint (d + 1) 0 0 30 [(0, .ref (n0 + 5)), (1, .int p0), (2, .int (r3 - 48))] [.int r7] K I5 L6 (z_q0 K Q)
    obtain ⟨o8, h⟩ := h
    exact z_zretb dX7_readPoint_30 rfl o8 ⟨rfl, h⟩
  · rw [if_neg g4] at h
    refine z_iload_n 2 dX7_readPoint_12 rfl ?_
    refine z_bipush 9 dX7_readPoint_13 (by decide) ?_
    refine z_icmp_gt 26 dX7_readPoint_15 (by decide) (fun g9 => ?_) (fun g9 => ?_)
    · rw [if_pos g9] at h
      refine z_aload_n 0 dX7_readPoint_26 rfl ?_
      refine z_callV0 (As := []) (st := []) dX7_readPoint_27 hy_X7_failHere (co_5 hL).1 (co_5 hL).2 (by decide) wg_694 wg_696 wg_13 (Nat.le_refl _) (Nat.le_of_ble_eq_true rfl) (RM0.mono h ?_)
      clear h
      intro vv I10 L11 h
      obtain ⟨r12, rfl, h⟩ := h
      change Z n0 xX7_readPoint (d + 1) 0 0 30 [(0, .ref (n0 + 5)), (1, .int p0), (2, .int (r3 - 48))] [.int r12] K I10 L11 (z_q0 K Q)
      obtain ⟨o13, h⟩ := h
      exact z_zretb dX7_readPoint_30 rfl o13 ⟨rfl, h⟩
    · rw [if_neg g9] at h
      refine z_iload_n 2 dX7_readPoint_18 rfl ?_
      refine z_aload_n 0 dX7_readPoint_19 rfl ?_
      refine fg_7_28 (I1 5 4) rfl dX7_readPoint_20 (co_5 hL).1 (co_5 hL).2 rfl ?_
      refine z_icmp_lt 31 dX7_readPoint_23 (by decide) (fun g14 => ?_) (fun g14 => ?_)
      · rw [if_pos g14] at h
        refine z_aload_n 0 dX7_readPoint_31 rfl ?_
        refine z_dup dX7_readPoint_32 rfl ?_
        refine fg_7_25 (I1 5 3) rfl dX7_readPoint_33 (co_5 hL).1 (co_5 hL).2 rfl ?_
        refine z_iconst 1 dX7_readPoint_36 (by decide) ?_
        refine z_iadd dX7_readPoint_37 ?_
        refine fp_7_25 rfl dX7_readPoint_38 (co_5 hL).1 (co_5 hL).2 ?_
        refine z_aload_n 0 dX7_readPoint_41 rfl ?_
        refine z_iload_n 1 dX7_readPoint_42 rfl ?_
        refine z_iload_n 2 dX7_readPoint_43 rfl ?_
        refine z_iadd dX7_readPoint_44 ?_
        refine z_callV0 (As := [.int (p0 + (r3 - 48))]) (st := []) dX7_readPoint_45 hy_X7_emit (co_5 hL).1 (co_5 hL).2 (by decide) wg_690 wg_692 wg_12 (Nat.le_refl _) (Nat.le_of_ble_eq_true rfl) (RM0.mono h ?_)
        clear h
        intro vv I15 L16 h
        obtain ⟨r17, rfl, h⟩ := h
        change Z n0 xX7_readPoint (d + 1) 0 0 48 [(0, .ref (n0 + 5)), (1, .int p0), (2, .int (r3 - 48))] [.int r17] K I15 L16 (z_q0 K Q)
        obtain ⟨o18, h⟩ := h
        exact z_zretb dX7_readPoint_48 rfl o18 ⟨rfl, h⟩
      · rw [if_neg g14] at h
        refine z_aload_n 0 dX7_readPoint_26 rfl ?_
        refine z_callV0 (As := []) (st := []) dX7_readPoint_27 hy_X7_failHere (co_5 hL).1 (co_5 hL).2 (by decide) wg_694 wg_696 wg_13 (Nat.le_refl _) (Nat.le_of_ble_eq_true rfl) (RM0.mono h ?_)
        clear h
        intro vv I19 L20 h
        obtain ⟨r21, rfl, h⟩ := h
        change Z n0 xX7_readPoint (d + 1) 0 0 30 [(0, .ref (n0 + 5)), (1, .int p0), (2, .int (r3 - 48))] [.int r21] K I19 L20 (z_q0 K Q)
        obtain ⟨o22, h⟩ := h
        exact z_zretb dX7_readPoint_30 rfl o22 ⟨rfl, h⟩
theorem dX7_readBracket_0 : decode cX7_readBracket 0 = .ok (.aload_n 0, 1) := by decide +kernel
theorem dX7_readBracket_1 : decode cX7_readBracket 1 = .ok (.invokevirtual 38, 3) := by decide +kernel
theorem dX7_readBracket_4 : decode cX7_readBracket 4 = .ok (.bipush 40, 2) := by decide +kernel
theorem dX7_readBracket_6 : decode cX7_readBracket 6 = .ok (.if_icmp .ne 8, 3) := by decide +kernel
theorem dX7_readBracket_9 : decode cX7_readBracket 9 = .ok (.iload_n 1, 1) := by decide +kernel
theorem dX7_readBracket_10 : decode cX7_readBracket 10 = .ok (.iconst 5, 1) := by decide +kernel
theorem dX7_readBracket_11 : decode cX7_readBracket 11 = .ok (.if_icmp .lt 8, 3) := by decide +kernel
theorem dX7_readBracket_14 : decode cX7_readBracket 14 = .ok (.aload_n 0, 1) := by decide +kernel
theorem dX7_readBracket_15 : decode cX7_readBracket 15 = .ok (.invokevirtual 42, 3) := by decide +kernel
theorem dX7_readBracket_18 : decode cX7_readBracket 18 = .ok (.ireturn, 1) := by decide +kernel
theorem dX7_readBracket_19 : decode cX7_readBracket 19 = .ok (.aload_n 0, 1) := by decide +kernel
theorem dX7_readBracket_20 : decode cX7_readBracket 20 = .ok (.dup, 1) := by decide +kernel
theorem dX7_readBracket_21 : decode cX7_readBracket 21 = .ok (.getfield 25, 3) := by decide +kernel
theorem dX7_readBracket_24 : decode cX7_readBracket 24 = .ok (.iconst 1, 1) := by decide +kernel
theorem dX7_readBracket_25 : decode cX7_readBracket 25 = .ok (.iadd, 1) := by decide +kernel
theorem dX7_readBracket_26 : decode cX7_readBracket 26 = .ok (.putfield 25, 3) := by decide +kernel
theorem dX7_readBracket_29 : decode cX7_readBracket 29 = .ok (.aload_n 0, 1) := by decide +kernel
theorem dX7_readBracket_30 : decode cX7_readBracket 30 = .ok (.iload_n 1, 1) := by decide +kernel
theorem dX7_readBracket_31 : decode cX7_readBracket 31 = .ok (.iconst 1, 1) := by decide +kernel
theorem dX7_readBracket_32 : decode cX7_readBracket 32 = .ok (.iadd, 1) := by decide +kernel
theorem dX7_readBracket_33 : decode cX7_readBracket 33 = .ok (.invokevirtual 34, 3) := by decide +kernel
theorem dX7_readBracket_36 : decode cX7_readBracket 36 = .ok (.ifCond .ne 5, 3) := by decide +kernel
theorem dX7_readBracket_39 : decode cX7_readBracket 39 = .ok (.iconst 0, 1) := by decide +kernel
theorem dX7_readBracket_40 : decode cX7_readBracket 40 = .ok (.ireturn, 1) := by decide +kernel
theorem dX7_readBracket_41 : decode cX7_readBracket 41 = .ok (.aload_n 0, 1) := by decide +kernel
theorem dX7_readBracket_42 : decode cX7_readBracket 42 = .ok (.invokevirtual 38, 3) := by decide +kernel
theorem dX7_readBracket_45 : decode cX7_readBracket 45 = .ok (.bipush 41, 2) := by decide +kernel
theorem dX7_readBracket_47 : decode cX7_readBracket 47 = .ok (.if_icmp .eq 8, 3) := by decide +kernel
theorem dX7_readBracket_50 : decode cX7_readBracket 50 = .ok (.aload_n 0, 1) := by decide +kernel
theorem dX7_readBracket_51 : decode cX7_readBracket 51 = .ok (.invokevirtual 42, 3) := by decide +kernel
theorem dX7_readBracket_54 : decode cX7_readBracket 54 = .ok (.ireturn, 1) := by decide +kernel
theorem dX7_readBracket_55 : decode cX7_readBracket 55 = .ok (.aload_n 0, 1) := by decide +kernel
theorem dX7_readBracket_56 : decode cX7_readBracket 56 = .ok (.dup, 1) := by decide +kernel
theorem dX7_readBracket_57 : decode cX7_readBracket 57 = .ok (.getfield 25, 3) := by decide +kernel
theorem dX7_readBracket_60 : decode cX7_readBracket 60 = .ok (.iconst 1, 1) := by decide +kernel
theorem dX7_readBracket_61 : decode cX7_readBracket 61 = .ok (.iadd, 1) := by decide +kernel
theorem dX7_readBracket_62 : decode cX7_readBracket 62 = .ok (.putfield 25, 3) := by decide +kernel
theorem dX7_readBracket_65 : decode cX7_readBracket 65 = .ok (.iconst 1, 1) := by decide +kernel
theorem dX7_readBracket_66 : decode cX7_readBracket 66 = .ok (.ireturn, 1) := by decide +kernel
set_option maxRecDepth 100000 in
set_option maxHeartbeats 4000000 in
theorem wp_X7_readBracket {n0 d : Nat} {K : z_K} {I : z_I} {L : z_L} {Q : z_q} {p0 : Int32} (hL : CLay K) (h : RM0 n0 xX7_next d [.ref (n0 + 5)] K I L (fun vv I1 L2 => ∃ r3 : Int32, vv = some (.int r3) ∧ (if r3 = 40 then (if p0 < 5 then RM0 n0 xX7_readSum d [.ref (n0 + 5), .int (p0 + 1)] K (zI I1 5 3 ((I1 5 3) + 1)) L2 (fun vv I10 L11 => ∃ r12 : Int32, vv = some (.int r12) ∧ (if r12 = 0 then Q (some (.int 0)) I10 L11 else RM0 n0 xX7_next d [.ref (n0 + 5)] K I10 L11 (fun vv I14 L15 => ∃ r16 : Int32, vv = some (.int r16) ∧ (if r16 = 41 then Q (some (.int 1)) (zI I14 5 3 ((I14 5 3) + 1)) L15 else RM0 n0 xX7_failHere d [.ref (n0 + 5)] K I14 L15 (fun vv I18 L19 => ∃ r20 : Int32, vv = some (.int r20) ∧ z_b r20 ∧ Q (some (.int r20)) I18 L19))))) else RM0 n0 xX7_failHere d [.ref (n0 + 5)] K I1 L2 (fun vv I22 L23 => ∃ r24 : Int32, vv = some (.int r24) ∧ z_b r24 ∧ Q (some (.int r24)) I22 L23)) else RM0 n0 xX7_failHere d [.ref (n0 + 5)] K I1 L2 (fun vv I5 L6 => ∃ r7 : Int32, vv = some (.int r7) ∧ z_b r7 ∧ Q (some (.int r7)) I5 L6)))) : RM0 n0 xX7_readBracket (d + 1) [.ref (n0 + 5), .int p0] K I L Q := by
  refine z_entry0 (by decide) (Nat.le_of_ble_eq_true rfl) ?_
  change Z n0 xX7_readBracket (d + 1) 0 0 0 [(0, .ref (n0 + 5)), (1, .int p0)] [] K I L (z_q0 K Q)
  refine z_aload_n 0 dX7_readBracket_0 rfl ?_
  refine z_callV0 (As := []) (st := []) dX7_readBracket_1 hy_X7_next (co_5 hL).1 (co_5 hL).2 (by decide) wg_679 wg_681 wg_10 (Nat.le_refl _) (Nat.le_of_ble_eq_true rfl) (RM0.mono h ?_)
  clear h
  intro vv I1 L2 h
  obtain ⟨r3, rfl, h⟩ := h
  change Z n0 xX7_readBracket (d + 1) 0 0 4 [(0, .ref (n0 + 5)), (1, .int p0)] [.int r3] K I1 L2 (z_q0 K Q)
  refine z_bipush 40 dX7_readBracket_4 (by decide) ?_
  refine z_icmp_ne 14 dX7_readBracket_6 (by decide) (fun g4 => ?_) (fun g4 => ?_)
  · rw [if_neg g4] at h
    refine z_aload_n 0 dX7_readBracket_14 rfl ?_
    refine z_callV0 (As := []) (st := []) dX7_readBracket_15 hy_X7_failHere (co_5 hL).1 (co_5 hL).2 (by decide) wg_694 wg_696 wg_13 (Nat.le_refl _) (Nat.le_of_ble_eq_true rfl) (RM0.mono h ?_)
    clear h
    intro vv I5 L6 h
    obtain ⟨r7, rfl, h⟩ := h
    change Z n0 xX7_readBracket (d + 1) 0 0 18 [(0, .ref (n0 + 5)), (1, .int p0)] [.int r7] K I5 L6 (z_q0 K Q)
    obtain ⟨o8, h⟩ := h
    exact z_zretb dX7_readBracket_18 rfl o8 ⟨rfl, h⟩
  · rw [if_pos g4] at h
    refine z_iload_n 1 dX7_readBracket_9 rfl ?_
    refine z_iconst 5 dX7_readBracket_10 (by decide) ?_
    refine z_icmp_lt 19 dX7_readBracket_11 (by decide) (fun g9 => ?_) (fun g9 => ?_)
    · rw [if_pos g9] at h
      refine z_aload_n 0 dX7_readBracket_19 rfl ?_
      refine z_dup dX7_readBracket_20 rfl ?_
      refine fg_7_25 (I1 5 3) rfl dX7_readBracket_21 (co_5 hL).1 (co_5 hL).2 rfl ?_
      refine z_iconst 1 dX7_readBracket_24 (by decide) ?_
      refine z_iadd dX7_readBracket_25 ?_
      refine fp_7_25 rfl dX7_readBracket_26 (co_5 hL).1 (co_5 hL).2 ?_
      refine z_aload_n 0 dX7_readBracket_29 rfl ?_
      refine z_iload_n 1 dX7_readBracket_30 rfl ?_
      refine z_iconst 1 dX7_readBracket_31 (by decide) ?_
      refine z_iadd dX7_readBracket_32 ?_
      refine z_callV0 (As := [.int (p0 + 1)]) (st := []) dX7_readBracket_33 hy_X7_readSum (co_5 hL).1 (co_5 hL).2 (by decide) wg_667 wg_669 wg_7 (Nat.le_refl _) (Nat.le_of_ble_eq_true rfl) (RM0.mono h ?_)
      clear h
      intro vv I10 L11 h
      obtain ⟨r12, rfl, h⟩ := h
      change Z n0 xX7_readBracket (d + 1) 0 0 36 [(0, .ref (n0 + 5)), (1, .int p0)] [.int r12] K I10 L11 (z_q0 K Q)
      refine z_if_ne 41 dX7_readBracket_36 (by decide) (fun g13 => ?_) (fun g13 => ?_)
      · rw [if_neg g13] at h
        refine z_aload_n 0 dX7_readBracket_41 rfl ?_
        refine z_callV0 (As := []) (st := []) dX7_readBracket_42 hy_X7_next (co_5 hL).1 (co_5 hL).2 (by decide) wg_679 wg_681 wg_10 (Nat.le_refl _) (Nat.le_of_ble_eq_true rfl) (RM0.mono h ?_)
        clear h
        intro vv I14 L15 h
        obtain ⟨r16, rfl, h⟩ := h
        change Z n0 xX7_readBracket (d + 1) 0 0 45 [(0, .ref (n0 + 5)), (1, .int p0)] [.int r16] K I14 L15 (z_q0 K Q)
        refine z_bipush 41 dX7_readBracket_45 (by decide) ?_
        refine z_icmp_eq 55 dX7_readBracket_47 (by decide) (fun g17 => ?_) (fun g17 => ?_)
        · rw [if_pos g17] at h
          refine z_aload_n 0 dX7_readBracket_55 rfl ?_
          refine z_dup dX7_readBracket_56 rfl ?_
          refine fg_7_25 (I14 5 3) rfl dX7_readBracket_57 (co_5 hL).1 (co_5 hL).2 rfl ?_
          refine z_iconst 1 dX7_readBracket_60 (by decide) ?_
          refine z_iadd dX7_readBracket_61 ?_
          refine fp_7_25 rfl dX7_readBracket_62 (co_5 hL).1 (co_5 hL).2 ?_
          refine z_iconst 1 dX7_readBracket_65 (by decide) ?_
          exact z_zretb dX7_readBracket_66 rfl (Or.inr rfl) ⟨rfl, h⟩
        · rw [if_neg g17] at h
          refine z_aload_n 0 dX7_readBracket_50 rfl ?_
          refine z_callV0 (As := []) (st := []) dX7_readBracket_51 hy_X7_failHere (co_5 hL).1 (co_5 hL).2 (by decide) wg_694 wg_696 wg_13 (Nat.le_refl _) (Nat.le_of_ble_eq_true rfl) (RM0.mono h ?_)
          clear h
          intro vv I18 L19 h
          obtain ⟨r20, rfl, h⟩ := h
          change Z n0 xX7_readBracket (d + 1) 0 0 54 [(0, .ref (n0 + 5)), (1, .int p0)] [.int r20] K I18 L19 (z_q0 K Q)
          obtain ⟨o21, h⟩ := h
          exact z_zretb dX7_readBracket_54 rfl o21 ⟨rfl, h⟩
      · rw [if_pos g13] at h
        refine z_iconst 0 dX7_readBracket_39 (by decide) ?_
        exact z_zretb dX7_readBracket_40 rfl (Or.inl rfl) ⟨rfl, h⟩
    · rw [if_neg g9] at h
      refine z_aload_n 0 dX7_readBracket_14 rfl ?_
      refine z_callV0 (As := []) (st := []) dX7_readBracket_15 hy_X7_failHere (co_5 hL).1 (co_5 hL).2 (by decide) wg_694 wg_696 wg_13 (Nat.le_refl _) (Nat.le_of_ble_eq_true rfl) (RM0.mono h ?_)
      clear h
      intro vv I22 L23 h
      obtain ⟨r24, rfl, h⟩ := h
      change Z n0 xX7_readBracket (d + 1) 0 0 18 [(0, .ref (n0 + 5)), (1, .int p0)] [.int r24] K I22 L23 (z_q0 K Q)
      obtain ⟨o25, h⟩ := h
      exact z_zretb dX7_readBracket_18 rfl o25 ⟨rfl, h⟩
theorem dX7_isDigit_0 : decode cX7_isDigit 0 = .ok (.iload_n 0, 1) := by decide +kernel
theorem dX7_isDigit_1 : decode cX7_isDigit 1 = .ok (.bipush 48, 2) := by decide +kernel
theorem dX7_isDigit_3 : decode cX7_isDigit 3 = .ok (.if_icmp .lt 13, 3) := by decide +kernel
theorem dX7_isDigit_6 : decode cX7_isDigit 6 = .ok (.iload_n 0, 1) := by decide +kernel
theorem dX7_isDigit_7 : decode cX7_isDigit 7 = .ok (.bipush 57, 2) := by decide +kernel
theorem dX7_isDigit_9 : decode cX7_isDigit 9 = .ok (.if_icmp .gt 7, 3) := by decide +kernel
theorem dX7_isDigit_12 : decode cX7_isDigit 12 = .ok (.iconst 1, 1) := by decide +kernel
theorem dX7_isDigit_13 : decode cX7_isDigit 13 = .ok (.goto 4, 3) := by decide +kernel
theorem dX7_isDigit_16 : decode cX7_isDigit 16 = .ok (.iconst 0, 1) := by decide +kernel
theorem dX7_isDigit_17 : decode cX7_isDigit 17 = .ok (.ireturn, 1) := by decide +kernel
set_option maxRecDepth 100000 in
set_option maxHeartbeats 4000000 in
theorem wp_X7_isDigit {n0 d : Nat} {K : z_K} {I : z_I} {L : z_L} {Q : z_q} {p0 : Int32} (hL : CLay K) (h : Q (some (.int (if p0 < 48 then 0 else if 57 < p0 then 0 else 1))) I L) : RM0 n0 xX7_isDigit d [.int p0] K I L Q := by
  refine z_entry0 (by decide) (Nat.le_of_ble_eq_true rfl) ?_
  change Z n0 xX7_isDigit d 0 0 0 [(0, .int p0)] [] K I L (z_q0 K Q)
  refine z_iload_n 0 dX7_isDigit_0 rfl ?_
  refine z_bipush 48 dX7_isDigit_1 (by decide) ?_
  have key3 : Z n0 xX7_isDigit d 0 0 17 [] [.int (if p0 < 48 then 0 else if 57 < p0 then 0 else 1)] K I L (z_q0 K Q) := by
    exact z_zretb dX7_isDigit_17 rfl (z_bite (by repeat' (first | exact Or.inl rfl | exact Or.inr rfl | split))) ⟨rfl, h⟩
  refine z_icmp_lt 16 dX7_isDigit_3 (by decide) (fun g1 => ?_) (fun g1 => ?_)
  · refine z_iconst 0 dX7_isDigit_16 (by decide) ?_
    have ee : ((if p0 < 48 then 0 else if 57 < p0 then 0 else 1) : Int32) = 0 := by rw [if_pos g1]
    rw [ee] at key3
    clear ee
    refine z_sub [] rfl ?_
    exact key3
  · refine z_iload_n 0 dX7_isDigit_6 rfl ?_
    refine z_bipush 57 dX7_isDigit_7 (by decide) ?_
    refine z_icmp_gt 16 dX7_isDigit_9 (by decide) (fun g2 => ?_) (fun g2 => ?_)
    · refine z_iconst 0 dX7_isDigit_16 (by decide) ?_
      have ee : ((if p0 < 48 then 0 else if 57 < p0 then 0 else 1) : Int32) = 0 := by rw [if_neg g1, if_pos g2]
      rw [ee] at key3
      clear ee
      refine z_sub [] rfl ?_
      exact key3
    · refine z_iconst 1 dX7_isDigit_12 (by decide) ?_
      refine z_goto 17 dX7_isDigit_13 (by decide) ?_
      have ee : ((if p0 < 48 then 0 else if 57 < p0 then 0 else 1) : Int32) = 1 := by rw [if_neg g1, if_neg g2]
      rw [ee] at key3
      clear ee
      refine z_sub [] rfl ?_
      exact key3
theorem dX8_sewTo_0 : decode cX8_sewTo 0 = .ok (.aload_n 0, 1) := by decide +kernel
theorem dX8_sewTo_1 : decode cX8_sewTo 1 = .ok (.aload_n 1, 1) := by decide +kernel
theorem dX8_sewTo_2 : decode cX8_sewTo 2 = .ok (.putfield 35, 3) := by decide +kernel
theorem dX8_sewTo_5 : decode cX8_sewTo 5 = .ok (.aload_n 0, 1) := by decide +kernel
theorem dX8_sewTo_6 : decode cX8_sewTo 6 = .ok (.iload_n 2, 1) := by decide +kernel
theorem dX8_sewTo_7 : decode cX8_sewTo 7 = .ok (.putfield 38, 3) := by decide +kernel
theorem dX8_sewTo_10 : decode cX8_sewTo 10 = .ok (.aload_n 0, 1) := by decide +kernel
theorem dX8_sewTo_11 : decode cX8_sewTo 11 = .ok (.iload_n 3, 1) := by decide +kernel
theorem dX8_sewTo_12 : decode cX8_sewTo 12 = .ok (.putfield 41, 3) := by decide +kernel
theorem dX8_sewTo_15 : decode cX8_sewTo 15 = .ok (.return_, 1) := by decide +kernel
set_option maxRecDepth 100000 in
set_option maxHeartbeats 4000000 in
theorem wp_X8_sewTo {n0 d : Nat} {K : z_K} {I : z_I} {L : z_L} {Q : z_R} {o0 : Nat} {p0 : Nat} {p1 : Int32} {p2 : Int32} (h : o0 < K.1 ∧ (K.2.1 o0).1 = 8 ∧ o0 < (zR K o0 5 (some p0)).1 ∧ ((zR K o0 5 (some p0)).2.1 o0).1 = 8 ∧ Q none (zR K o0 5 (some p0)) (zI (zI I o0 6 p1) o0 7 p2) L) : RM n0 xX8_sewTo d 0 0 [.ref (n0 + o0), .ref (n0 + p0), .int p1, .int p2] K I L Q := by
  refine z_entry (by decide) (Nat.le_of_ble_eq_true rfl) ?_
  change Z n0 xX8_sewTo d 0 0 0 [(0, .ref (n0 + o0)), (1, .ref (n0 + p0)), (2, .int p1), (3, .int p2)] [] K I L Q
  refine z_aload_n 0 dX8_sewTo_0 rfl ?_
  refine z_aload_n 1 dX8_sewTo_1 rfl ?_
  obtain ⟨o1, o2, h⟩ := h
  refine fp_8_35 (some p0) rfl dX8_sewTo_2 o1 o2 ?_
  refine z_aload_n 0 dX8_sewTo_5 rfl ?_
  refine z_iload_n 2 dX8_sewTo_6 rfl ?_
  obtain ⟨o3, o4, h⟩ := h
  refine fp_8_38 rfl dX8_sewTo_7 o3 o4 ?_
  refine z_aload_n 0 dX8_sewTo_10 rfl ?_
  refine z_iload_n 3 dX8_sewTo_11 rfl ?_
  refine fp_8_41 rfl dX8_sewTo_12 o3 o4 ?_
  exact z_vret dX8_sewTo_15 rfl h
theorem dX8_addNotch_0 : decode cX8_addNotch 0 = .ok (.aload_n 0, 1) := by decide +kernel
theorem dX8_addNotch_1 : decode cX8_addNotch 1 = .ok (.getfield 44, 3) := by decide +kernel
theorem dX8_addNotch_4 : decode cX8_addNotch 4 = .ok (.bipush 6, 2) := by decide +kernel
theorem dX8_addNotch_6 : decode cX8_addNotch 6 = .ok (.if_icmp .lt 8, 3) := by decide +kernel
theorem dX8_addNotch_9 : decode cX8_addNotch 9 = .ok (.aload_n 0, 1) := by decide +kernel
theorem dX8_addNotch_10 : decode cX8_addNotch 10 = .ok (.getfield 44, 3) := by decide +kernel
theorem dX8_addNotch_13 : decode cX8_addNotch 13 = .ok (.ireturn, 1) := by decide +kernel
theorem dX8_addNotch_14 : decode cX8_addNotch 14 = .ok (.aload_n 0, 1) := by decide +kernel
theorem dX8_addNotch_15 : decode cX8_addNotch 15 = .ok (.getfield 9, 3) := by decide +kernel
theorem dX8_addNotch_18 : decode cX8_addNotch 18 = .ok (.aload_n 0, 1) := by decide +kernel
theorem dX8_addNotch_19 : decode cX8_addNotch 19 = .ok (.getfield 44, 3) := by decide +kernel
theorem dX8_addNotch_22 : decode cX8_addNotch 22 = .ok (.iload_n 1, 1) := by decide +kernel
theorem dX8_addNotch_23 : decode cX8_addNotch 23 = .ok (.iastore, 1) := by decide +kernel
theorem dX8_addNotch_24 : decode cX8_addNotch 24 = .ok (.aload_n 0, 1) := by decide +kernel
theorem dX8_addNotch_25 : decode cX8_addNotch 25 = .ok (.getfield 15, 3) := by decide +kernel
theorem dX8_addNotch_28 : decode cX8_addNotch 28 = .ok (.aload_n 0, 1) := by decide +kernel
theorem dX8_addNotch_29 : decode cX8_addNotch 29 = .ok (.getfield 44, 3) := by decide +kernel
theorem dX8_addNotch_32 : decode cX8_addNotch 32 = .ok (.iload_n 2, 1) := by decide +kernel
theorem dX8_addNotch_33 : decode cX8_addNotch 33 = .ok (.iastore, 1) := by decide +kernel
theorem dX8_addNotch_34 : decode cX8_addNotch 34 = .ok (.aload_n 0, 1) := by decide +kernel
theorem dX8_addNotch_35 : decode cX8_addNotch 35 = .ok (.dup, 1) := by decide +kernel
theorem dX8_addNotch_36 : decode cX8_addNotch 36 = .ok (.getfield 44, 3) := by decide +kernel
theorem dX8_addNotch_39 : decode cX8_addNotch 39 = .ok (.iconst 1, 1) := by decide +kernel
theorem dX8_addNotch_40 : decode cX8_addNotch 40 = .ok (.iadd, 1) := by decide +kernel
theorem dX8_addNotch_41 : decode cX8_addNotch 41 = .ok (.putfield 44, 3) := by decide +kernel
theorem dX8_addNotch_44 : decode cX8_addNotch 44 = .ok (.aload_n 0, 1) := by decide +kernel
theorem dX8_addNotch_45 : decode cX8_addNotch 45 = .ok (.getfield 44, 3) := by decide +kernel
theorem dX8_addNotch_48 : decode cX8_addNotch 48 = .ok (.ireturn, 1) := by decide +kernel
set_option maxRecDepth 100000 in
set_option maxHeartbeats 4000000 in
theorem wp_X8_addNotch {n0 d : Nat} {K : z_K} {I : z_I} {L : z_L} {Q : z_q} {o0 : Nat} {p0 : Int32} {p1 : Int32} (h : o0 < K.1 ∧ (K.2.1 o0).1 = 8 ∧ (if ((I o0 11) : Int32) < 6 then (∃ q4, K.2.2 o0 9 = some q4 ∧ ∃ n5, q4 < K.1 ∧ K.2.1 q4 = (20, n5) ∧ vp_in (I o0 11) n5 ∧ (∃ q9, K.2.2 o0 10 = some q9 ∧ ∃ n10, q9 < K.1 ∧ K.2.1 q9 = (20, n10) ∧ vp_in ((zI I q4 ((I o0 11).toNatClampNeg) p0) o0 11) n10 ∧ Q (some (.int ((zI (zI (zI I q4 ((I o0 11).toNatClampNeg) p0) q9 (((zI I q4 ((I o0 11).toNatClampNeg) p0) o0 11).toNatClampNeg) p1) o0 11 (((zI (zI I q4 ((I o0 11).toNatClampNeg) p0) q9 (((zI I q4 ((I o0 11).toNatClampNeg) p0) o0 11).toNatClampNeg) p1) o0 11) + 1)) o0 11))) (zI (zI (zI I q4 ((I o0 11).toNatClampNeg) p0) q9 (((zI I q4 ((I o0 11).toNatClampNeg) p0) o0 11).toNatClampNeg) p1) o0 11 (((zI (zI I q4 ((I o0 11).toNatClampNeg) p0) q9 (((zI I q4 ((I o0 11).toNatClampNeg) p0) o0 11).toNatClampNeg) p1) o0 11) + 1)) L)) else Q (some (.int (I o0 11))) I L)) : RM0 n0 xX8_addNotch d [.ref (n0 + o0), .int p0, .int p1] K I L Q := by
  refine z_entry0 (by decide) (Nat.le_of_ble_eq_true rfl) ?_
  change Z n0 xX8_addNotch d 0 0 0 [(0, .ref (n0 + o0)), (1, .int p0), (2, .int p1)] [] K I L (z_q0 K Q)
  refine z_aload_n 0 dX8_addNotch_0 rfl ?_
  obtain ⟨o1, o2, h⟩ := h
  refine fg_8_44 (I o0 11) rfl dX8_addNotch_1 o1 o2 rfl ?_
  refine z_bipush 6 dX8_addNotch_4 (by decide) ?_
  refine z_icmp_lt 14 dX8_addNotch_6 (by decide) (fun g3 => ?_) (fun g3 => ?_)
  · rw [if_pos g3] at h
    refine z_aload_n 0 dX8_addNotch_14 rfl ?_
    obtain ⟨q4, q4e, h⟩ := h
    refine fg_8_9 (some q4) rfl dX8_addNotch_15 o1 o2 q4e ?_
    refine z_aload_n 0 dX8_addNotch_18 rfl ?_
    refine fg_8_44 (I o0 11) rfl dX8_addNotch_19 o1 o2 rfl ?_
    refine z_iload_n 1 dX8_addNotch_22 rfl ?_
    obtain ⟨n5, o6, o7, o8, h⟩ := h
    refine z_iast dX8_addNotch_23 o6 o7 o8 ?_
    refine z_aload_n 0 dX8_addNotch_24 rfl ?_
    obtain ⟨q9, q9e, h⟩ := h
    refine fg_8_15 (some q9) rfl dX8_addNotch_25 o1 o2 q9e ?_
    refine z_aload_n 0 dX8_addNotch_28 rfl ?_
    refine fg_8_44 ((zI I q4 ((I o0 11).toNatClampNeg) p0) o0 11) rfl dX8_addNotch_29 o1 o2 rfl ?_
    refine z_iload_n 2 dX8_addNotch_32 rfl ?_
    obtain ⟨n10, o11, o12, o13, h⟩ := h
    refine z_iast dX8_addNotch_33 o11 o12 o13 ?_
    refine z_aload_n 0 dX8_addNotch_34 rfl ?_
    refine z_dup dX8_addNotch_35 rfl ?_
    refine fg_8_44 ((zI (zI I q4 ((I o0 11).toNatClampNeg) p0) q9 (((zI I q4 ((I o0 11).toNatClampNeg) p0) o0 11).toNatClampNeg) p1) o0 11) rfl dX8_addNotch_36 o1 o2 rfl ?_
    refine z_iconst 1 dX8_addNotch_39 (by decide) ?_
    refine z_iadd dX8_addNotch_40 ?_
    refine fp_8_44 rfl dX8_addNotch_41 o1 o2 ?_
    refine z_aload_n 0 dX8_addNotch_44 rfl ?_
    refine fg_8_44 ((zI (zI (zI I q4 ((I o0 11).toNatClampNeg) p0) q9 (((zI I q4 ((I o0 11).toNatClampNeg) p0) o0 11).toNatClampNeg) p1) o0 11 (((zI (zI I q4 ((I o0 11).toNatClampNeg) p0) q9 (((zI I q4 ((I o0 11).toNatClampNeg) p0) o0 11).toNatClampNeg) p1) o0 11) + 1)) o0 11) rfl dX8_addNotch_45 o1 o2 rfl ?_
    exact z_iret dX8_addNotch_48 rfl ⟨rfl, h⟩
  · rw [if_neg g3] at h
    refine z_aload_n 0 dX8_addNotch_9 rfl ?_
    refine fg_8_44 (I o0 11) rfl dX8_addNotch_10 o1 o2 rfl ?_
    exact z_iret dX8_addNotch_13 rfl ⟨rfl, h⟩
theorem dX8_easeDrawn_0 : decode cX8_easeDrawn 0 = .ok (.aload_n 0, 1) := by decide +kernel
theorem dX8_easeDrawn_1 : decode cX8_easeDrawn 1 = .ok (.getfield 47, 3) := by decide +kernel
theorem dX8_easeDrawn_4 : decode cX8_easeDrawn 4 = .ok (.aload_n 0, 1) := by decide +kernel
theorem dX8_easeDrawn_5 : decode cX8_easeDrawn 5 = .ok (.getfield 50, 3) := by decide +kernel
theorem dX8_easeDrawn_8 : decode cX8_easeDrawn 8 = .ok (.isub, 1) := by decide +kernel
theorem dX8_easeDrawn_9 : decode cX8_easeDrawn 9 = .ok (.ireturn, 1) := by decide +kernel
set_option maxRecDepth 100000 in
set_option maxHeartbeats 4000000 in
theorem wp_X8_easeDrawn {n0 d : Nat} {K : z_K} {I : z_I} {L : z_L} {Q : z_q} {o0 : Nat} (h : o0 < K.1 ∧ (K.2.1 o0).1 = 8 ∧ Q (some (.int ((I o0 13) - (I o0 12)))) I L) : RM0 n0 xX8_easeDrawn d [.ref (n0 + o0)] K I L Q := by
  refine z_entry0 (by decide) (Nat.le_of_ble_eq_true rfl) ?_
  change Z n0 xX8_easeDrawn d 0 0 0 [(0, .ref (n0 + o0))] [] K I L (z_q0 K Q)
  refine z_aload_n 0 dX8_easeDrawn_0 rfl ?_
  obtain ⟨o1, o2, h⟩ := h
  refine fg_8_47 (I o0 13) rfl dX8_easeDrawn_1 o1 o2 rfl ?_
  refine z_aload_n 0 dX8_easeDrawn_4 rfl ?_
  refine fg_8_50 (I o0 12) rfl dX8_easeDrawn_5 o1 o2 rfl ?_
  refine z_isub dX8_easeDrawn_8 ?_
  exact z_iret dX8_easeDrawn_9 rfl ⟨rfl, h⟩
theorem dX8_isMet_0 : decode cX8_isMet 0 = .ok (.aload_n 0, 1) := by decide +kernel
theorem dX8_isMet_1 : decode cX8_isMet 1 = .ok (.invokevirtual 53, 3) := by decide +kernel
theorem dX8_isMet_4 : decode cX8_isMet 4 = .ok (.aload_n 0, 1) := by decide +kernel
theorem dX8_isMet_5 : decode cX8_isMet 5 = .ok (.getfield 29, 3) := by decide +kernel
theorem dX8_isMet_8 : decode cX8_isMet 8 = .ok (.if_icmp .lt 18, 3) := by decide +kernel
theorem dX8_isMet_11 : decode cX8_isMet 11 = .ok (.aload_n 0, 1) := by decide +kernel
theorem dX8_isMet_12 : decode cX8_isMet 12 = .ok (.invokevirtual 53, 3) := by decide +kernel
theorem dX8_isMet_15 : decode cX8_isMet 15 = .ok (.aload_n 0, 1) := by decide +kernel
theorem dX8_isMet_16 : decode cX8_isMet 16 = .ok (.getfield 32, 3) := by decide +kernel
theorem dX8_isMet_19 : decode cX8_isMet 19 = .ok (.if_icmp .gt 7, 3) := by decide +kernel
theorem dX8_isMet_22 : decode cX8_isMet 22 = .ok (.iconst 1, 1) := by decide +kernel
theorem dX8_isMet_23 : decode cX8_isMet 23 = .ok (.goto 4, 3) := by decide +kernel
theorem dX8_isMet_26 : decode cX8_isMet 26 = .ok (.iconst 0, 1) := by decide +kernel
theorem dX8_isMet_27 : decode cX8_isMet 27 = .ok (.ireturn, 1) := by decide +kernel
set_option maxRecDepth 100000 in
set_option maxHeartbeats 4000000 in
theorem wp_X8_isMet {n0 d : Nat} {K : z_K} {I : z_I} {L : z_L} {Q : z_q} {o0 : Nat} (h : o0 < K.1 ∧ (K.2.1 o0).1 = 8 ∧ RM0 n0 xX8_easeDrawn d [.ref (n0 + o0)] K I L (fun vv I3 L4 => ∃ r5 : Int32, vv = some (.int r5) ∧ (if r5 < (I3 o0 3) then Q (some (.int 0)) I3 L4 else RM0 n0 xX8_easeDrawn d [.ref (n0 + o0)] K I3 L4 (fun vv I7 L8 => ∃ r9 : Int32, vv = some (.int r9) ∧ Q (some (.int (if (I7 o0 4) < r9 then 0 else 1))) I7 L8)))) : RM0 n0 xX8_isMet (d + 1) [.ref (n0 + o0)] K I L Q := by
  refine z_entry0 (by decide) (Nat.le_of_ble_eq_true rfl) ?_
  change Z n0 xX8_isMet (d + 1) 0 0 0 [(0, .ref (n0 + o0))] [] K I L (z_q0 K Q)
  refine z_aload_n 0 dX8_isMet_0 rfl ?_
  obtain ⟨o1, o2, h⟩ := h
  refine z_callV0 (As := []) (st := []) dX8_isMet_1 hy_X8_easeDrawn o1 o2 (by decide) wg_1032 wg_1021 wg_1022 (Nat.le_refl _) (Nat.le_of_ble_eq_true rfl) (RM0.mono h ?_)
  clear h
  intro vv I3 L4 h
  obtain ⟨r5, rfl, h⟩ := h
  change Z n0 xX8_isMet (d + 1) 0 0 4 [(0, .ref (n0 + o0))] [.int r5] K I3 L4 (z_q0 K Q)
  refine z_aload_n 0 dX8_isMet_4 rfl ?_
  refine fg_8_29 (I3 o0 3) rfl dX8_isMet_5 o1 o2 rfl ?_
  refine z_icmp_lt 26 dX8_isMet_8 (by decide) (fun g6 => ?_) (fun g6 => ?_)
  · rw [if_pos g6] at h
    refine z_iconst 0 dX8_isMet_26 (by decide) ?_
    exact z_zretb dX8_isMet_27 rfl (Or.inl rfl) ⟨rfl, h⟩
  · rw [if_neg g6] at h
    refine z_aload_n 0 dX8_isMet_11 rfl ?_
    refine z_callV0 (As := []) (st := []) dX8_isMet_12 hy_X8_easeDrawn o1 o2 (by decide) wg_1032 wg_1021 wg_1022 (Nat.le_refl _) (Nat.le_of_ble_eq_true rfl) (RM0.mono h ?_)
    clear h
    intro vv I7 L8 h
    obtain ⟨r9, rfl, h⟩ := h
    change Z n0 xX8_isMet (d + 1) 0 0 15 [(0, .ref (n0 + o0))] [.int r9] K I7 L8 (z_q0 K Q)
    refine z_aload_n 0 dX8_isMet_15 rfl ?_
    refine fg_8_32 (I7 o0 4) rfl dX8_isMet_16 o1 o2 rfl ?_
    have key11 : Z n0 xX8_isMet (d + 1) 0 0 27 [] [.int (if (I7 o0 4) < r9 then 0 else 1)] K I7 L8 (z_q0 K Q) := by
      exact z_zretb dX8_isMet_27 rfl (z_bite (by repeat' (first | exact Or.inl rfl | exact Or.inr rfl | split))) ⟨rfl, h⟩
    refine z_icmp_gt 26 dX8_isMet_19 (by decide) (fun g10 => ?_) (fun g10 => ?_)
    · refine z_iconst 0 dX8_isMet_26 (by decide) ?_
      have ee : ((if (I7 o0 4) < r9 then 0 else 1) : Int32) = 0 := by rw [if_pos g10]
      rw [ee] at key11
      clear ee
      refine z_sub [] rfl ?_
      exact key11
    · refine z_iconst 1 dX8_isMet_22 (by decide) ?_
      refine z_goto 27 dX8_isMet_23 (by decide) ?_
      have ee : ((if (I7 o0 4) < r9 then 0 else 1) : Int32) = 1 := by rw [if_neg g10]
      rw [ee] at key11
      clear ee
      refine z_sub [] rfl ?_
      exact key11
theorem dX8_firstLost_0 : decode cX8_firstLost 0 = .ok (.iconst 0, 1) := by decide +kernel
theorem dX8_firstLost_1 : decode cX8_firstLost 1 = .ok (.istore_n 1, 1) := by decide +kernel
theorem dX8_firstLost_2 : decode cX8_firstLost 2 = .ok (.iload_n 1, 1) := by decide +kernel
theorem dX8_firstLost_3 : decode cX8_firstLost 3 = .ok (.aload_n 0, 1) := by decide +kernel
theorem dX8_firstLost_4 : decode cX8_firstLost 4 = .ok (.getfield 44, 3) := by decide +kernel
theorem dX8_firstLost_7 : decode cX8_firstLost 7 = .ok (.if_icmp .ge 19, 3) := by decide +kernel
theorem dX8_firstLost_10 : decode cX8_firstLost 10 = .ok (.aload_n 0, 1) := by decide +kernel
theorem dX8_firstLost_11 : decode cX8_firstLost 11 = .ok (.iload_n 1, 1) := by decide +kernel
theorem dX8_firstLost_12 : decode cX8_firstLost 12 = .ok (.invokevirtual 57, 3) := by decide +kernel
theorem dX8_firstLost_15 : decode cX8_firstLost 15 = .ok (.ifCond .ne 5, 3) := by decide +kernel
theorem dX8_firstLost_18 : decode cX8_firstLost 18 = .ok (.iload_n 1, 1) := by decide +kernel
theorem dX8_firstLost_19 : decode cX8_firstLost 19 = .ok (.ireturn, 1) := by decide +kernel
theorem dX8_firstLost_20 : decode cX8_firstLost 20 = .ok (.iinc 1 1, 3) := by decide +kernel
theorem dX8_firstLost_23 : decode cX8_firstLost 23 = .ok (.goto (-21), 3) := by decide +kernel
theorem dX8_firstLost_26 : decode cX8_firstLost 26 = .ok (.bipush (-9), 2) := by decide +kernel
theorem dX8_firstLost_28 : decode cX8_firstLost 28 = .ok (.ireturn, 1) := by decide +kernel
set_option maxRecDepth 100000 in
set_option maxHeartbeats 4000000 in
theorem wp_X8_firstLost {n0 d : Nat} {K : z_K} {I : z_I} {L : z_L} {Q : z_q} {o0 : Nat} (h : Z n0 xX8_firstLost (d + 1) 0 0 2 [(0, .ref (n0 + o0)), (1, .int 0)] [] K I L (z_q0 K Q)) : RM0 n0 xX8_firstLost (d + 1) [.ref (n0 + o0)] K I L Q := by
  refine z_entry0 (by decide) (Nat.le_of_ble_eq_true rfl) ?_
  change Z n0 xX8_firstLost (d + 1) 0 0 0 [(0, .ref (n0 + o0))] [] K I L (z_q0 K Q)
  refine z_iconst 0 dX8_firstLost_0 (by decide) ?_
  refine z_istore_n [1, 0] [(0, .ref (n0 + o0)), (1, .int 0)] dX8_firstLost_1 (by decide) rfl ?_
  exact h
set_option maxRecDepth 100000 in
set_option maxHeartbeats 4000000 in
theorem wp_X8_firstLost_2 {n0 d : Nat} {rc rs : Nat} {K : z_K} {I : z_I} {L : z_L} {Q : z_q} {o0 : Nat} {a1 : Int32} (h : o0 < K.1 ∧ (K.2.1 o0).1 = 8 ∧ (if a1 < (I o0 11) then RM0 n0 xX8_isWell d [.ref (n0 + o0), .int a1] K I L (fun vv I4 L5 => ∃ r6 : Int32, vv = some (.int r6) ∧ (if r6 = 0 then Q (some (.int a1)) I4 L5 else Z n0 xX8_firstLost (d + 1) rc rs 2 [(0, .ref (n0 + o0)), (1, .int (a1 + 1))] [] K I4 L5 (z_q0 K Q))) else Q (some (.int (-9))) I L)) : Z n0 xX8_firstLost (d + 1) rc rs 2 [(0, .ref (n0 + o0)), (1, .int a1)] [] K I L (z_q0 K Q) := by
  refine z_iload_n 1 dX8_firstLost_2 rfl ?_
  refine z_aload_n 0 dX8_firstLost_3 rfl ?_
  obtain ⟨o1, o2, h⟩ := h
  refine fg_8_44 (I o0 11) rfl dX8_firstLost_4 o1 o2 rfl ?_
  refine z_icmp_ge 26 dX8_firstLost_7 (by decide) (fun g3 => ?_) (fun g3 => ?_)
  · rw [if_neg g3] at h
    refine z_bipush (-9) dX8_firstLost_26 (by decide) ?_
    exact z_iret dX8_firstLost_28 rfl ⟨rfl, h⟩
  · rw [if_pos g3] at h
    refine z_aload_n 0 dX8_firstLost_10 rfl ?_
    refine z_iload_n 1 dX8_firstLost_11 rfl ?_
    refine z_callV0 (As := [.int a1]) (st := []) dX8_firstLost_12 hy_X8_isWell o1 o2 (by decide) wg_1041 wg_1043 wg_29 (Nat.le_refl _) (Nat.le_of_ble_eq_true rfl) (RM0.mono h ?_)
    clear h
    intro vv I4 L5 h
    obtain ⟨r6, rfl, h⟩ := h
    change Z n0 xX8_firstLost (d + 1) rc rs 15 [(0, .ref (n0 + o0)), (1, .int a1)] [.int r6] K I4 L5 (z_q0 K Q)
    refine z_if_ne 20 dX8_firstLost_15 (by decide) (fun g7 => ?_) (fun g7 => ?_)
    · rw [if_neg g7] at h
      refine z_iinc (j := 1) (a1 + 1) [1, 0] [(0, .ref (n0 + o0)), (1, .int (a1 + 1))] dX8_firstLost_20 rfl rfl (by decide) rfl ?_
      refine z_goto 2 dX8_firstLost_23 (by decide) ?_
      exact h
    · rw [if_pos g7] at h
      refine z_iload_n 1 dX8_firstLost_18 rfl ?_
      exact z_iret dX8_firstLost_19 rfl ⟨rfl, h⟩
theorem dX8_isWell_0 : decode cX8_isWell 0 = .ok (.aload_n 0, 1) := by decide +kernel
theorem dX8_isWell_1 : decode cX8_isWell 1 = .ok (.getfield 9, 3) := by decide +kernel
theorem dX8_isWell_4 : decode cX8_isWell 4 = .ok (.iload_n 1, 1) := by decide +kernel
theorem dX8_isWell_5 : decode cX8_isWell 5 = .ok (.iaload, 1) := by decide +kernel
theorem dX8_isWell_6 : decode cX8_isWell 6 = .ok (.aload_n 0, 1) := by decide +kernel
theorem dX8_isWell_7 : decode cX8_isWell 7 = .ok (.getfield 50, 3) := by decide +kernel
theorem dX8_isWell_10 : decode cX8_isWell 10 = .ok (.if_icmp .gt 16, 3) := by decide +kernel
theorem dX8_isWell_13 : decode cX8_isWell 13 = .ok (.aload_n 0, 1) := by decide +kernel
theorem dX8_isWell_14 : decode cX8_isWell 14 = .ok (.getfield 15, 3) := by decide +kernel
theorem dX8_isWell_17 : decode cX8_isWell 17 = .ok (.iload_n 1, 1) := by decide +kernel
theorem dX8_isWell_18 : decode cX8_isWell 18 = .ok (.iaload, 1) := by decide +kernel
theorem dX8_isWell_19 : decode cX8_isWell 19 = .ok (.aload_n 0, 1) := by decide +kernel
theorem dX8_isWell_20 : decode cX8_isWell 20 = .ok (.getfield 47, 3) := by decide +kernel
theorem dX8_isWell_23 : decode cX8_isWell 23 = .ok (.if_icmp .le 5, 3) := by decide +kernel
theorem dX8_isWell_26 : decode cX8_isWell 26 = .ok (.iconst 0, 1) := by decide +kernel
theorem dX8_isWell_27 : decode cX8_isWell 27 = .ok (.ireturn, 1) := by decide +kernel
theorem dX8_isWell_28 : decode cX8_isWell 28 = .ok (.aload_n 0, 1) := by decide +kernel
theorem dX8_isWell_29 : decode cX8_isWell 29 = .ok (.getfield 9, 3) := by decide +kernel
theorem dX8_isWell_32 : decode cX8_isWell 32 = .ok (.iload_n 1, 1) := by decide +kernel
theorem dX8_isWell_33 : decode cX8_isWell 33 = .ok (.iaload, 1) := by decide +kernel
theorem dX8_isWell_34 : decode cX8_isWell 34 = .ok (.istore_n 2, 1) := by decide +kernel
theorem dX8_isWell_35 : decode cX8_isWell 35 = .ok (.aload_n 0, 1) := by decide +kernel
theorem dX8_isWell_36 : decode cX8_isWell 36 = .ok (.getfield 15, 3) := by decide +kernel
theorem dX8_isWell_39 : decode cX8_isWell 39 = .ok (.iload_n 1, 1) := by decide +kernel
theorem dX8_isWell_40 : decode cX8_isWell 40 = .ok (.iaload, 1) := by decide +kernel
theorem dX8_isWell_41 : decode cX8_isWell 41 = .ok (.istore_n 3, 1) := by decide +kernel
theorem dX8_isWell_42 : decode cX8_isWell 42 = .ok (.iload_n 1, 1) := by decide +kernel
theorem dX8_isWell_43 : decode cX8_isWell 43 = .ok (.ifCond .le 35, 3) := by decide +kernel
theorem dX8_isWell_46 : decode cX8_isWell 46 = .ok (.iload_n 2, 1) := by decide +kernel
theorem dX8_isWell_47 : decode cX8_isWell 47 = .ok (.aload_n 0, 1) := by decide +kernel
theorem dX8_isWell_48 : decode cX8_isWell 48 = .ok (.getfield 9, 3) := by decide +kernel
theorem dX8_isWell_51 : decode cX8_isWell 51 = .ok (.iload_n 1, 1) := by decide +kernel
theorem dX8_isWell_52 : decode cX8_isWell 52 = .ok (.iconst 1, 1) := by decide +kernel
theorem dX8_isWell_53 : decode cX8_isWell 53 = .ok (.isub, 1) := by decide +kernel
theorem dX8_isWell_54 : decode cX8_isWell 54 = .ok (.iaload, 1) := by decide +kernel
theorem dX8_isWell_55 : decode cX8_isWell 55 = .ok (.isub, 1) := by decide +kernel
theorem dX8_isWell_56 : decode cX8_isWell 56 = .ok (.istore_n 2, 1) := by decide +kernel
theorem dX8_isWell_57 : decode cX8_isWell 57 = .ok (.iload_n 3, 1) := by decide +kernel
theorem dX8_isWell_58 : decode cX8_isWell 58 = .ok (.aload_n 0, 1) := by decide +kernel
theorem dX8_isWell_59 : decode cX8_isWell 59 = .ok (.getfield 15, 3) := by decide +kernel
theorem dX8_isWell_62 : decode cX8_isWell 62 = .ok (.iload_n 1, 1) := by decide +kernel
theorem dX8_isWell_63 : decode cX8_isWell 63 = .ok (.iconst 1, 1) := by decide +kernel
theorem dX8_isWell_64 : decode cX8_isWell 64 = .ok (.isub, 1) := by decide +kernel
theorem dX8_isWell_65 : decode cX8_isWell 65 = .ok (.iaload, 1) := by decide +kernel
theorem dX8_isWell_66 : decode cX8_isWell 66 = .ok (.isub, 1) := by decide +kernel
theorem dX8_isWell_67 : decode cX8_isWell 67 = .ok (.istore_n 3, 1) := by decide +kernel
theorem dX8_isWell_68 : decode cX8_isWell 68 = .ok (.iload_n 2, 1) := by decide +kernel
theorem dX8_isWell_69 : decode cX8_isWell 69 = .ok (.ifCond .le 7, 3) := by decide +kernel
theorem dX8_isWell_72 : decode cX8_isWell 72 = .ok (.iload_n 3, 1) := by decide +kernel
theorem dX8_isWell_73 : decode cX8_isWell 73 = .ok (.ifCond .gt 5, 3) := by decide +kernel
theorem dX8_isWell_76 : decode cX8_isWell 76 = .ok (.iconst 0, 1) := by decide +kernel
theorem dX8_isWell_77 : decode cX8_isWell 77 = .ok (.ireturn, 1) := by decide +kernel
theorem dX8_isWell_78 : decode cX8_isWell 78 = .ok (.iload_n 3, 1) := by decide +kernel
theorem dX8_isWell_79 : decode cX8_isWell 79 = .ok (.iload_n 2, 1) := by decide +kernel
theorem dX8_isWell_80 : decode cX8_isWell 80 = .ok (.isub, 1) := by decide +kernel
theorem dX8_isWell_81 : decode cX8_isWell 81 = .ok (.istore 4, 2) := by decide +kernel
theorem dX8_isWell_83 : decode cX8_isWell 83 = .ok (.iload 4, 2) := by decide +kernel
theorem dX8_isWell_85 : decode cX8_isWell 85 = .ok (.ifCond .lt 16, 3) := by decide +kernel
theorem dX8_isWell_88 : decode cX8_isWell 88 = .ok (.iload 4, 2) := by decide +kernel
theorem dX8_isWell_90 : decode cX8_isWell 90 = .ok (.aload_n 0, 1) := by decide +kernel
theorem dX8_isWell_91 : decode cX8_isWell 91 = .ok (.getfield 61, 3) := by decide +kernel
theorem dX8_isWell_94 : decode cX8_isWell 94 = .ok (.if_icmp .gt 7, 3) := by decide +kernel
theorem dX8_isWell_97 : decode cX8_isWell 97 = .ok (.iconst 1, 1) := by decide +kernel
theorem dX8_isWell_98 : decode cX8_isWell 98 = .ok (.goto 4, 3) := by decide +kernel
theorem dX8_isWell_101 : decode cX8_isWell 101 = .ok (.iconst 0, 1) := by decide +kernel
theorem dX8_isWell_102 : decode cX8_isWell 102 = .ok (.ireturn, 1) := by decide +kernel
set_option maxRecDepth 100000 in
set_option maxHeartbeats 4000000 in
theorem wp_X8_isWell {n0 d : Nat} {K : z_K} {I : z_I} {L : z_L} {Q : z_q} {o0 : Nat} {p0 : Int32} (h : o0 < K.1 ∧ (K.2.1 o0).1 = 8 ∧ (∃ q3, K.2.2 o0 9 = some q3 ∧ ∃ n4, q3 < K.1 ∧ K.2.1 q3 = (20, n4) ∧ vp_in p0 n4 ∧ (if (I o0 12) < ((I q3 p0.toNatClampNeg) : Int32) then Q (some (.int 0)) I L else (∃ q9, K.2.2 o0 10 = some q9 ∧ ∃ n10, q9 < K.1 ∧ K.2.1 q9 = (20, n10) ∧ vp_in p0 n10 ∧ (if (I o0 13) < ((I q9 p0.toNatClampNeg) : Int32) then Q (some (.int 0)) I L else (if 0 < p0 then vp_in (p0 - 1) n4 ∧ vp_in (p0 - 1) n10 ∧ (if 0 < (((I q3 p0.toNatClampNeg) - (I q3 ((p0 - 1).toNatClampNeg))) : Int32) then (if 0 < (((I q9 p0.toNatClampNeg) - (I q9 ((p0 - 1).toNatClampNeg))) : Int32) then Q (some (.int (if ((((I q9 p0.toNatClampNeg) - (I q9 ((p0 - 1).toNatClampNeg))) - ((I q3 p0.toNatClampNeg) - (I q3 ((p0 - 1).toNatClampNeg)))) : Int32) < 0 then 0 else if (I o0 8) < ((((I q9 p0.toNatClampNeg) - (I q9 ((p0 - 1).toNatClampNeg))) - ((I q3 p0.toNatClampNeg) - (I q3 ((p0 - 1).toNatClampNeg)))) : Int32) then 0 else 1))) I L else Q (some (.int 0)) I L) else Q (some (.int 0)) I L) else Q (some (.int (if (((I q9 p0.toNatClampNeg) - (I q3 p0.toNatClampNeg)) : Int32) < 0 then 0 else if (I o0 8) < (((I q9 p0.toNatClampNeg) - (I q3 p0.toNatClampNeg)) : Int32) then 0 else 1))) I L)))))) : RM0 n0 xX8_isWell d [.ref (n0 + o0), .int p0] K I L Q := by
  refine z_entry0 (by decide) (Nat.le_of_ble_eq_true rfl) ?_
  change Z n0 xX8_isWell d 0 0 0 [(0, .ref (n0 + o0)), (1, .int p0)] [] K I L (z_q0 K Q)
  refine z_aload_n 0 dX8_isWell_0 rfl ?_
  obtain ⟨o1, o2, h⟩ := h
  obtain ⟨q3, q3e, h⟩ := h
  refine fg_8_9 (some q3) rfl dX8_isWell_1 o1 o2 q3e ?_
  refine z_iload_n 1 dX8_isWell_4 rfl ?_
  obtain ⟨n4, o5, o6, o7, h⟩ := h
  refine z_iald (I q3 p0.toNatClampNeg) dX8_isWell_5 o5 o6 o7 rfl ?_
  refine z_aload_n 0 dX8_isWell_6 rfl ?_
  refine fg_8_50 (I o0 12) rfl dX8_isWell_7 o1 o2 rfl ?_
  refine z_icmp_gt 26 dX8_isWell_10 (by decide) (fun g8 => ?_) (fun g8 => ?_)
  · rw [if_pos g8] at h
    refine z_iconst 0 dX8_isWell_26 (by decide) ?_
    exact z_zretb dX8_isWell_27 rfl (Or.inl rfl) ⟨rfl, h⟩
  · rw [if_neg g8] at h
    refine z_aload_n 0 dX8_isWell_13 rfl ?_
    obtain ⟨q9, q9e, h⟩ := h
    refine fg_8_15 (some q9) rfl dX8_isWell_14 o1 o2 q9e ?_
    refine z_iload_n 1 dX8_isWell_17 rfl ?_
    obtain ⟨n10, o11, o12, o13, h⟩ := h
    refine z_iald (I q9 p0.toNatClampNeg) dX8_isWell_18 o11 o12 o13 rfl ?_
    refine z_aload_n 0 dX8_isWell_19 rfl ?_
    refine fg_8_47 (I o0 13) rfl dX8_isWell_20 o1 o2 rfl ?_
    refine z_icmp_le 28 dX8_isWell_23 (by decide) (fun g14 => ?_) (fun g14 => ?_)
    · rw [if_neg g14] at h
      refine z_aload_n 0 dX8_isWell_28 rfl ?_
      refine fg_8_9 (some q3) rfl dX8_isWell_29 o1 o2 q3e ?_
      refine z_iload_n 1 dX8_isWell_32 rfl ?_
      refine z_iald (I q3 p0.toNatClampNeg) dX8_isWell_33 o5 o6 o7 rfl ?_
      refine z_istore_n [1, 2, 0] [(0, .ref (n0 + o0)), (1, .int p0), (2, .int (I q3 p0.toNatClampNeg))] dX8_isWell_34 (by decide) rfl ?_
      refine z_aload_n 0 dX8_isWell_35 rfl ?_
      refine fg_8_15 (some q9) rfl dX8_isWell_36 o1 o2 q9e ?_
      refine z_iload_n 1 dX8_isWell_39 rfl ?_
      refine z_iald (I q9 p0.toNatClampNeg) dX8_isWell_40 o11 o12 o13 rfl ?_
      refine z_istore_n [1, 2, 3, 0] [(0, .ref (n0 + o0)), (1, .int p0), (2, .int (I q3 p0.toNatClampNeg)), (3, .int (I q9 p0.toNatClampNeg))] dX8_isWell_41 (by decide) rfl ?_
      refine z_iload_n 1 dX8_isWell_42 rfl ?_
      refine z_if_le 78 dX8_isWell_43 (by decide) (fun g15 => ?_) (fun g15 => ?_)
      · rw [if_neg g15] at h
        refine z_iload_n 3 dX8_isWell_78 rfl ?_
        refine z_iload_n 2 dX8_isWell_79 rfl ?_
        refine z_isub dX8_isWell_80 ?_
        refine z_istore [1, 2, 3, 4, 0] [(0, .ref (n0 + o0)), (1, .int p0), (2, .int (I q3 p0.toNatClampNeg)), (3, .int (I q9 p0.toNatClampNeg)), (4, .int ((I q9 p0.toNatClampNeg) - (I q3 p0.toNatClampNeg)))] dX8_isWell_81 (by decide) rfl ?_
        refine z_iload 4 dX8_isWell_83 rfl ?_
        have key18 : Z n0 xX8_isWell d 0 0 102 [] [.int (if (((I q9 p0.toNatClampNeg) - (I q3 p0.toNatClampNeg)) : Int32) < 0 then 0 else if (I o0 8) < (((I q9 p0.toNatClampNeg) - (I q3 p0.toNatClampNeg)) : Int32) then 0 else 1)] K I L (z_q0 K Q) := by
          exact z_zretb dX8_isWell_102 rfl (z_bite (by repeat' (first | exact Or.inl rfl | exact Or.inr rfl | split))) ⟨rfl, h⟩
        refine z_if_lt 101 dX8_isWell_85 (by decide) (fun g16 => ?_) (fun g16 => ?_)
        · refine z_iconst 0 dX8_isWell_101 (by decide) ?_
          have ee : ((if (((I q9 p0.toNatClampNeg) - (I q3 p0.toNatClampNeg)) : Int32) < 0 then 0 else if (I o0 8) < (((I q9 p0.toNatClampNeg) - (I q3 p0.toNatClampNeg)) : Int32) then 0 else 1) : Int32) = 0 := by rw [if_pos g16]
          rw [ee] at key18
          clear ee
          refine z_sub [] rfl ?_
          exact key18
        · refine z_iload 4 dX8_isWell_88 rfl ?_
          refine z_aload_n 0 dX8_isWell_90 rfl ?_
          refine fg_8_61 (I o0 8) rfl dX8_isWell_91 o1 o2 rfl ?_
          refine z_icmp_gt 101 dX8_isWell_94 (by decide) (fun g17 => ?_) (fun g17 => ?_)
          · refine z_iconst 0 dX8_isWell_101 (by decide) ?_
            have ee : ((if (((I q9 p0.toNatClampNeg) - (I q3 p0.toNatClampNeg)) : Int32) < 0 then 0 else if (I o0 8) < (((I q9 p0.toNatClampNeg) - (I q3 p0.toNatClampNeg)) : Int32) then 0 else 1) : Int32) = 0 := by rw [if_neg g16, if_pos g17]
            rw [ee] at key18
            clear ee
            refine z_sub [] rfl ?_
            exact key18
          · refine z_iconst 1 dX8_isWell_97 (by decide) ?_
            refine z_goto 102 dX8_isWell_98 (by decide) ?_
            have ee : ((if (((I q9 p0.toNatClampNeg) - (I q3 p0.toNatClampNeg)) : Int32) < 0 then 0 else if (I o0 8) < (((I q9 p0.toNatClampNeg) - (I q3 p0.toNatClampNeg)) : Int32) then 0 else 1) : Int32) = 1 := by rw [if_neg g16, if_neg g17]
            rw [ee] at key18
            clear ee
            refine z_sub [] rfl ?_
            exact key18
      · rw [if_pos g15] at h
        refine z_iload_n 2 dX8_isWell_46 rfl ?_
        refine z_aload_n 0 dX8_isWell_47 rfl ?_
        refine fg_8_9 (some q3) rfl dX8_isWell_48 o1 o2 q3e ?_
        refine z_iload_n 1 dX8_isWell_51 rfl ?_
        refine z_iconst 1 dX8_isWell_52 (by decide) ?_
        refine z_isub dX8_isWell_53 ?_
        obtain ⟨o19, h⟩ := h
        refine z_iald (I q3 ((p0 - 1).toNatClampNeg)) dX8_isWell_54 o5 o6 o19 rfl ?_
        refine z_isub dX8_isWell_55 ?_
        refine z_istore_n [1, 2, 0, 3] [(0, .ref (n0 + o0)), (1, .int p0), (2, .int ((I q3 p0.toNatClampNeg) - (I q3 ((p0 - 1).toNatClampNeg)))), (3, .int (I q9 p0.toNatClampNeg))] dX8_isWell_56 (by decide) rfl ?_
        refine z_iload_n 3 dX8_isWell_57 rfl ?_
        refine z_aload_n 0 dX8_isWell_58 rfl ?_
        refine fg_8_15 (some q9) rfl dX8_isWell_59 o1 o2 q9e ?_
        refine z_iload_n 1 dX8_isWell_62 rfl ?_
        refine z_iconst 1 dX8_isWell_63 (by decide) ?_
        refine z_isub dX8_isWell_64 ?_
        obtain ⟨o20, h⟩ := h
        refine z_iald (I q9 ((p0 - 1).toNatClampNeg)) dX8_isWell_65 o11 o12 o20 rfl ?_
        refine z_isub dX8_isWell_66 ?_
        refine z_istore_n [1, 2, 3, 0] [(0, .ref (n0 + o0)), (1, .int p0), (2, .int ((I q3 p0.toNatClampNeg) - (I q3 ((p0 - 1).toNatClampNeg)))), (3, .int ((I q9 p0.toNatClampNeg) - (I q9 ((p0 - 1).toNatClampNeg))))] dX8_isWell_67 (by decide) rfl ?_
        refine z_iload_n 2 dX8_isWell_68 rfl ?_
        refine z_if_le 76 dX8_isWell_69 (by decide) (fun g21 => ?_) (fun g21 => ?_)
        · rw [if_neg g21] at h
          refine z_iconst 0 dX8_isWell_76 (by decide) ?_
          exact z_zretb dX8_isWell_77 rfl (Or.inl rfl) ⟨rfl, h⟩
        · rw [if_pos g21] at h
          refine z_iload_n 3 dX8_isWell_72 rfl ?_
          refine z_if_gt 78 dX8_isWell_73 (by decide) (fun g22 => ?_) (fun g22 => ?_)
          · rw [if_pos g22] at h
            refine z_iload_n 3 dX8_isWell_78 rfl ?_
            refine z_iload_n 2 dX8_isWell_79 rfl ?_
            refine z_isub dX8_isWell_80 ?_
            refine z_istore [1, 2, 3, 4, 0] [(0, .ref (n0 + o0)), (1, .int p0), (2, .int ((I q3 p0.toNatClampNeg) - (I q3 ((p0 - 1).toNatClampNeg)))), (3, .int ((I q9 p0.toNatClampNeg) - (I q9 ((p0 - 1).toNatClampNeg)))), (4, .int (((I q9 p0.toNatClampNeg) - (I q9 ((p0 - 1).toNatClampNeg))) - ((I q3 p0.toNatClampNeg) - (I q3 ((p0 - 1).toNatClampNeg)))))] dX8_isWell_81 (by decide) rfl ?_
            refine z_iload 4 dX8_isWell_83 rfl ?_
            have key25 : Z n0 xX8_isWell d 0 0 102 [] [.int (if ((((I q9 p0.toNatClampNeg) - (I q9 ((p0 - 1).toNatClampNeg))) - ((I q3 p0.toNatClampNeg) - (I q3 ((p0 - 1).toNatClampNeg)))) : Int32) < 0 then 0 else if (I o0 8) < ((((I q9 p0.toNatClampNeg) - (I q9 ((p0 - 1).toNatClampNeg))) - ((I q3 p0.toNatClampNeg) - (I q3 ((p0 - 1).toNatClampNeg)))) : Int32) then 0 else 1)] K I L (z_q0 K Q) := by
              exact z_zretb dX8_isWell_102 rfl (z_bite (by repeat' (first | exact Or.inl rfl | exact Or.inr rfl | split))) ⟨rfl, h⟩
            refine z_if_lt 101 dX8_isWell_85 (by decide) (fun g23 => ?_) (fun g23 => ?_)
            · refine z_iconst 0 dX8_isWell_101 (by decide) ?_
              have ee : ((if ((((I q9 p0.toNatClampNeg) - (I q9 ((p0 - 1).toNatClampNeg))) - ((I q3 p0.toNatClampNeg) - (I q3 ((p0 - 1).toNatClampNeg)))) : Int32) < 0 then 0 else if (I o0 8) < ((((I q9 p0.toNatClampNeg) - (I q9 ((p0 - 1).toNatClampNeg))) - ((I q3 p0.toNatClampNeg) - (I q3 ((p0 - 1).toNatClampNeg)))) : Int32) then 0 else 1) : Int32) = 0 := by rw [if_pos g23]
              rw [ee] at key25
              clear ee
              refine z_sub [] rfl ?_
              exact key25
            · refine z_iload 4 dX8_isWell_88 rfl ?_
              refine z_aload_n 0 dX8_isWell_90 rfl ?_
              refine fg_8_61 (I o0 8) rfl dX8_isWell_91 o1 o2 rfl ?_
              refine z_icmp_gt 101 dX8_isWell_94 (by decide) (fun g24 => ?_) (fun g24 => ?_)
              · refine z_iconst 0 dX8_isWell_101 (by decide) ?_
                have ee : ((if ((((I q9 p0.toNatClampNeg) - (I q9 ((p0 - 1).toNatClampNeg))) - ((I q3 p0.toNatClampNeg) - (I q3 ((p0 - 1).toNatClampNeg)))) : Int32) < 0 then 0 else if (I o0 8) < ((((I q9 p0.toNatClampNeg) - (I q9 ((p0 - 1).toNatClampNeg))) - ((I q3 p0.toNatClampNeg) - (I q3 ((p0 - 1).toNatClampNeg)))) : Int32) then 0 else 1) : Int32) = 0 := by rw [if_neg g23, if_pos g24]
                rw [ee] at key25
                clear ee
                refine z_sub [] rfl ?_
                exact key25
              · refine z_iconst 1 dX8_isWell_97 (by decide) ?_
                refine z_goto 102 dX8_isWell_98 (by decide) ?_
                have ee : ((if ((((I q9 p0.toNatClampNeg) - (I q9 ((p0 - 1).toNatClampNeg))) - ((I q3 p0.toNatClampNeg) - (I q3 ((p0 - 1).toNatClampNeg)))) : Int32) < 0 then 0 else if (I o0 8) < ((((I q9 p0.toNatClampNeg) - (I q9 ((p0 - 1).toNatClampNeg))) - ((I q3 p0.toNatClampNeg) - (I q3 ((p0 - 1).toNatClampNeg)))) : Int32) then 0 else 1) : Int32) = 1 := by rw [if_neg g23, if_neg g24]
                rw [ee] at key25
                clear ee
                refine z_sub [] rfl ?_
                exact key25
          · rw [if_neg g22] at h
            refine z_iconst 0 dX8_isWell_76 (by decide) ?_
            exact z_zretb dX8_isWell_77 rfl (Or.inl rfl) ⟨rfl, h⟩
    · rw [if_pos g14] at h
      refine z_iconst 0 dX8_isWell_26 (by decide) ?_
      exact z_zretb dX8_isWell_27 rfl (Or.inl rfl) ⟨rfl, h⟩
