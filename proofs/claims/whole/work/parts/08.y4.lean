theorem dX13_isInside_0 : decode cX13_isInside 0 = .ok (.iconst 0, 1) := by decide +kernel
theorem dX13_isInside_1 : decode cX13_isInside 1 = .ok (.istore 5, 2) := by decide +kernel
theorem dX13_isInside_3 : decode cX13_isInside 3 = .ok (.iconst 0, 1) := by decide +kernel
theorem dX13_isInside_4 : decode cX13_isInside 4 = .ok (.istore 6, 2) := by decide +kernel
theorem dX13_isInside_6 : decode cX13_isInside 6 = .ok (.iload 6, 2) := by decide +kernel
theorem dX13_isInside_8 : decode cX13_isInside 8 = .ok (.iconst 1, 1) := by decide +kernel
theorem dX13_isInside_9 : decode cX13_isInside 9 = .ok (.iadd, 1) := by decide +kernel
theorem dX13_isInside_10 : decode cX13_isInside 10 = .ok (.aload_n 0, 1) := by decide +kernel
theorem dX13_isInside_11 : decode cX13_isInside 11 = .ok (.getfield 553, 3) := by decide +kernel
theorem dX13_isInside_14 : decode cX13_isInside 14 = .ok (.if_icmp .ge 95, 3) := by decide +kernel
theorem dX13_isInside_17 : decode cX13_isInside 17 = .ok (.iload 6, 2) := by decide +kernel
theorem dX13_isInside_19 : decode cX13_isInside 19 = .ok (.aload_n 0, 1) := by decide +kernel
theorem dX13_isInside_20 : decode cX13_isInside 20 = .ok (.getfield 478, 3) := by decide +kernel
theorem dX13_isInside_23 : decode cX13_isInside 23 = .ok (.if_icmp .eq 7, 3) := by decide +kernel
theorem dX13_isInside_26 : decode cX13_isInside 26 = .ok (.iconst 1, 1) := by decide +kernel
theorem dX13_isInside_27 : decode cX13_isInside 27 = .ok (.goto 4, 3) := by decide +kernel
theorem dX13_isInside_30 : decode cX13_isInside 30 = .ok (.iconst 0, 1) := by decide +kernel
theorem dX13_isInside_31 : decode cX13_isInside 31 = .ok (.istore 7, 2) := by decide +kernel
theorem dX13_isInside_33 : decode cX13_isInside 33 = .ok (.iload 7, 2) := by decide +kernel
theorem dX13_isInside_35 : decode cX13_isInside 35 = .ok (.ifCond .eq 51, 3) := by decide +kernel
theorem dX13_isInside_38 : decode cX13_isInside 38 = .ok (.aload_n 0, 1) := by decide +kernel
theorem dX13_isInside_39 : decode cX13_isInside 39 = .ok (.getfield 177, 3) := by decide +kernel
theorem dX13_isInside_42 : decode cX13_isInside 42 = .ok (.iload 6, 2) := by decide +kernel
theorem dX13_isInside_44 : decode cX13_isInside 44 = .ok (.iaload, 1) := by decide +kernel
theorem dX13_isInside_45 : decode cX13_isInside 45 = .ok (.i2l, 1) := by decide +kernel
theorem dX13_isInside_46 : decode cX13_isInside 46 = .ok (.aload_n 0, 1) := by decide +kernel
theorem dX13_isInside_47 : decode cX13_isInside 47 = .ok (.getfield 180, 3) := by decide +kernel
theorem dX13_isInside_50 : decode cX13_isInside 50 = .ok (.iload 6, 2) := by decide +kernel
theorem dX13_isInside_52 : decode cX13_isInside 52 = .ok (.iaload, 1) := by decide +kernel
theorem dX13_isInside_53 : decode cX13_isInside 53 = .ok (.i2l, 1) := by decide +kernel
theorem dX13_isInside_54 : decode cX13_isInside 54 = .ok (.aload_n 0, 1) := by decide +kernel
theorem dX13_isInside_55 : decode cX13_isInside 55 = .ok (.getfield 177, 3) := by decide +kernel
theorem dX13_isInside_58 : decode cX13_isInside 58 = .ok (.iload 6, 2) := by decide +kernel
theorem dX13_isInside_60 : decode cX13_isInside 60 = .ok (.iconst 1, 1) := by decide +kernel
theorem dX13_isInside_61 : decode cX13_isInside 61 = .ok (.iadd, 1) := by decide +kernel
theorem dX13_isInside_62 : decode cX13_isInside 62 = .ok (.iaload, 1) := by decide +kernel
theorem dX13_isInside_63 : decode cX13_isInside 63 = .ok (.i2l, 1) := by decide +kernel
theorem dX13_isInside_64 : decode cX13_isInside 64 = .ok (.aload_n 0, 1) := by decide +kernel
theorem dX13_isInside_65 : decode cX13_isInside 65 = .ok (.getfield 180, 3) := by decide +kernel
theorem dX13_isInside_68 : decode cX13_isInside 68 = .ok (.iload 6, 2) := by decide +kernel
theorem dX13_isInside_70 : decode cX13_isInside 70 = .ok (.iconst 1, 1) := by decide +kernel
theorem dX13_isInside_71 : decode cX13_isInside 71 = .ok (.iadd, 1) := by decide +kernel
theorem dX13_isInside_72 : decode cX13_isInside 72 = .ok (.iaload, 1) := by decide +kernel
theorem dX13_isInside_73 : decode cX13_isInside 73 = .ok (.i2l, 1) := by decide +kernel
theorem dX13_isInside_74 : decode cX13_isInside 74 = .ok (.lload_n 1, 1) := by decide +kernel
theorem dX13_isInside_75 : decode cX13_isInside 75 = .ok (.lload_n 3, 1) := by decide +kernel
theorem dX13_isInside_76 : decode cX13_isInside 76 = .ok (.invokestatic 556, 3) := by decide +kernel
theorem dX13_isInside_79 : decode cX13_isInside 79 = .ok (.ifCond .eq 7, 3) := by decide +kernel
theorem dX13_isInside_82 : decode cX13_isInside 82 = .ok (.iconst 1, 1) := by decide +kernel
theorem dX13_isInside_83 : decode cX13_isInside 83 = .ok (.goto 4, 3) := by decide +kernel
theorem dX13_isInside_86 : decode cX13_isInside 86 = .ok (.iconst 0, 1) := by decide +kernel
theorem dX13_isInside_87 : decode cX13_isInside 87 = .ok (.istore 8, 2) := by decide +kernel
theorem dX13_isInside_89 : decode cX13_isInside 89 = .ok (.iload 5, 2) := by decide +kernel
theorem dX13_isInside_91 : decode cX13_isInside 91 = .ok (.iload 8, 2) := by decide +kernel
theorem dX13_isInside_93 : decode cX13_isInside 93 = .ok (.if_icmp .eq 7, 3) := by decide +kernel
theorem dX13_isInside_96 : decode cX13_isInside 96 = .ok (.iconst 1, 1) := by decide +kernel
theorem dX13_isInside_97 : decode cX13_isInside 97 = .ok (.goto 4, 3) := by decide +kernel
theorem dX13_isInside_100 : decode cX13_isInside 100 = .ok (.iconst 0, 1) := by decide +kernel
theorem dX13_isInside_101 : decode cX13_isInside 101 = .ok (.istore 5, 2) := by decide +kernel
theorem dX13_isInside_103 : decode cX13_isInside 103 = .ok (.iinc 6 1, 3) := by decide +kernel
theorem dX13_isInside_106 : decode cX13_isInside 106 = .ok (.goto (-100), 3) := by decide +kernel
theorem dX13_isInside_109 : decode cX13_isInside 109 = .ok (.iload 5, 2) := by decide +kernel
theorem dX13_isInside_111 : decode cX13_isInside 111 = .ok (.ireturn, 1) := by decide +kernel
set_option maxRecDepth 100000 in
set_option maxHeartbeats 4000000 in
theorem wp_X13_isInside {n0 d : Nat} {K : z_K} {I : z_I} {L : z_L} {Q : z_q} {p0 : Int64} {p1 : Int64} (hL : MLay K) (h : Z n0 xX13_isInside (d + 1) 0 0 6 [(0, .ref (n0 + 59)), (1, .long p0), (3, .long p1), (5, .int 0), (6, .int 0)] [] K I L (z_q0 K Q)) : RM0 n0 xX13_isInside (d + 1) [.ref (n0 + 59), .long p0, .long p1] K I L Q := by
  refine z_entry0 (by decide) (Nat.le_of_ble_eq_true rfl) ?_
  change Z n0 xX13_isInside (d + 1) 0 0 0 [(0, .ref (n0 + 59)), (1, .long p0), (3, .long p1)] [] K I L (z_q0 K Q)
  refine z_iconst 0 dX13_isInside_0 (by decide) ?_
  refine z_istore [1, 2, 3, 0] [(0, .ref (n0 + 59)), (1, .long p0), (3, .long p1), (5, .int 0)] dX13_isInside_1 (by decide) rfl ?_
  refine z_iconst 0 dX13_isInside_3 (by decide) ?_
  refine z_istore [1, 2, 3, 4, 0] [(0, .ref (n0 + 59)), (1, .long p0), (3, .long p1), (5, .int 0), (6, .int 0)] dX13_isInside_4 (by decide) rfl ?_
  exact h
set_option maxRecDepth 100000 in
set_option maxHeartbeats 4000000 in
theorem wp_X13_isInside_6 {n0 d : Nat} {rc rs : Nat} {K : z_K} {I : z_I} {L : z_L} {Q : z_q} {a1 : Int64} {a3 : Int64} {a5 : Int32} {a6 : Int32} (hL : MLay K) (h : (if ((a6 + 1) : Int32) < (I 59 88) then (if a6 = (I 59 61) then Z n0 xX13_isInside (d + 1) rc rs 6 [(0, .ref (n0 + 59)), (1, .long a1), (3, .long a3), (5, .int (if a5 = 0 then 0 else 1)), (6, .int (a6 + 1))] [] K I L (z_q0 K Q) else vp_in a6 162 ∧ vp_in (a6 + 1) 162 ∧ RM0 n0 xX13_crosses d [.long (((I 115 a6.toNatClampNeg) : Int32).toInt64), .long (((I 116 a6.toNatClampNeg) : Int32).toInt64), .long (((I 115 ((a6 + 1).toNatClampNeg)) : Int32).toInt64), .long (((I 116 ((a6 + 1).toNatClampNeg)) : Int32).toInt64), .long a1, .long a3] K I L (fun vv I10 L11 => ∃ r12 : Int32, vv = some (.int r12) ∧ Z n0 xX13_isInside (d + 1) rc rs 6 [(0, .ref (n0 + 59)), (1, .long a1), (3, .long a3), (5, .int (if a5 = (if r12 = 0 then 0 else 1) then 0 else 1)), (6, .int (a6 + 1))] [] K I10 L11 (z_q0 K Q))) else z_b a5 ∧ Q (some (.int a5)) I L)) : Z n0 xX13_isInside (d + 1) rc rs 6 [(0, .ref (n0 + 59)), (1, .long a1), (3, .long a3), (5, .int a5), (6, .int a6)] [] K I L (z_q0 K Q) := by
  refine z_iload 4 dX13_isInside_6 rfl ?_
  refine z_iconst 1 dX13_isInside_8 (by decide) ?_
  refine z_iadd dX13_isInside_9 ?_
  refine z_aload_n 0 dX13_isInside_10 rfl ?_
  refine fg_13_553 (I 59 88) rfl dX13_isInside_11 hL.1 hL.2.1 rfl ?_
  refine z_icmp_ge 109 dX13_isInside_14 (by decide) (fun g1 => ?_) (fun g1 => ?_)
  · rw [if_neg g1] at h
    refine z_iload 3 dX13_isInside_109 rfl ?_
    obtain ⟨o2, h⟩ := h
    exact z_zretb dX13_isInside_111 rfl o2 ⟨rfl, h⟩
  · rw [if_pos g1] at h
    refine z_iload 4 dX13_isInside_17 rfl ?_
    refine z_aload_n 0 dX13_isInside_19 rfl ?_
    refine fg_13_478 (I 59 61) rfl dX13_isInside_20 hL.1 hL.2.1 rfl ?_
    have key4 : Z n0 xX13_isInside (d + 1) rc rs 31 [(0, .ref (n0 + 59)), (1, .long a1), (3, .long a3), (5, .int a5), (6, .int a6)] [.int (if a6 = (I 59 61) then 0 else 1)] K I L (z_q0 K Q) := by
      refine z_istore [1, 2, 3, 4, 5, 0] [(0, .ref (n0 + 59)), (1, .long a1), (3, .long a3), (5, .int a5), (6, .int a6), (7, .int (if a6 = (I 59 61) then 0 else 1))] dX13_isInside_31 (by decide) rfl ?_
      refine z_iload 5 dX13_isInside_33 rfl ?_
      refine z_if_eq 86 dX13_isInside_35 (by decide) (fun g5 => ?_) (fun g5 => ?_)
      · replace g5 := z_i01.mp g5
        rw [if_pos g5] at h
        refine z_iconst 0 dX13_isInside_86 (by decide) ?_
        refine z_istore [1, 2, 3, 4, 5, 6, 0] [(0, .ref (n0 + 59)), (1, .long a1), (3, .long a3), (5, .int a5), (6, .int a6), (7, .int (if a6 = (I 59 61) then 0 else 1)), (8, .int 0)] dX13_isInside_87 (by decide) rfl ?_
        refine z_iload 3 dX13_isInside_89 rfl ?_
        refine z_iload 6 dX13_isInside_91 rfl ?_
        have key7 : Z n0 xX13_isInside (d + 1) rc rs 101 [(0, .ref (n0 + 59)), (1, .long a1), (3, .long a3), (6, .int a6)] [.int (if a5 = 0 then 0 else 1)] K I L (z_q0 K Q) := by
          refine z_istore [1, 2, 3, 0, 4] [(0, .ref (n0 + 59)), (1, .long a1), (3, .long a3), (5, .int (if a5 = 0 then 0 else 1)), (6, .int a6)] dX13_isInside_101 (by decide) rfl ?_
          refine z_iinc (j := 4) (a6 + 1) [1, 2, 3, 4, 0] [(0, .ref (n0 + 59)), (1, .long a1), (3, .long a3), (5, .int (if a5 = 0 then 0 else 1)), (6, .int (a6 + 1))] dX13_isInside_103 rfl rfl (by decide) rfl ?_
          refine z_goto 6 dX13_isInside_106 (by decide) ?_
          exact h
        refine z_icmp_eq 100 dX13_isInside_93 (by decide) (fun g6 => ?_) (fun g6 => ?_)
        · refine z_iconst 0 dX13_isInside_100 (by decide) ?_
          have ee : ((if a5 = 0 then 0 else 1) : Int32) = 0 := by rw [if_pos g6]
          rw [ee] at key7
          clear ee
          refine z_sub [0, 1, 2, 4] rfl ?_
          exact key7
        · refine z_iconst 1 dX13_isInside_96 (by decide) ?_
          refine z_goto 101 dX13_isInside_97 (by decide) ?_
          have ee : ((if a5 = 0 then 0 else 1) : Int32) = 1 := by rw [if_neg g6]
          rw [ee] at key7
          clear ee
          refine z_sub [0, 1, 2, 4] rfl ?_
          exact key7
      · replace g5 := z_i01n g5
        rw [if_neg g5] at h
        refine z_aload_n 0 dX13_isInside_38 rfl ?_
        refine fg_13_177 (some 115) rfl dX13_isInside_39 hL.1 hL.2.1 (ma_86 hL).1 ?_
        refine z_iload 4 dX13_isInside_42 rfl ?_
        obtain ⟨o8, h⟩ := h
        refine z_iald (I 115 a6.toNatClampNeg) dX13_isInside_44 (ma_86 hL).2.1 (ma_86 hL).2.2 o8 rfl ?_
        refine z_i2l dX13_isInside_45 ?_
        refine z_aload_n 0 dX13_isInside_46 rfl ?_
        refine fg_13_180 (some 116) rfl dX13_isInside_47 hL.1 hL.2.1 (ma_87 hL).1 ?_
        refine z_iload 4 dX13_isInside_50 rfl ?_
        refine z_iald (I 116 a6.toNatClampNeg) dX13_isInside_52 (ma_87 hL).2.1 (ma_87 hL).2.2 o8 rfl ?_
        refine z_i2l dX13_isInside_53 ?_
        refine z_aload_n 0 dX13_isInside_54 rfl ?_
        refine fg_13_177 (some 115) rfl dX13_isInside_55 hL.1 hL.2.1 (ma_86 hL).1 ?_
        refine z_iload 4 dX13_isInside_58 rfl ?_
        refine z_iconst 1 dX13_isInside_60 (by decide) ?_
        refine z_iadd dX13_isInside_61 ?_
        obtain ⟨o9, h⟩ := h
        refine z_iald (I 115 ((a6 + 1).toNatClampNeg)) dX13_isInside_62 (ma_86 hL).2.1 (ma_86 hL).2.2 o9 rfl ?_
        refine z_i2l dX13_isInside_63 ?_
        refine z_aload_n 0 dX13_isInside_64 rfl ?_
        refine fg_13_180 (some 116) rfl dX13_isInside_65 hL.1 hL.2.1 (ma_87 hL).1 ?_
        refine z_iload 4 dX13_isInside_68 rfl ?_
        refine z_iconst 1 dX13_isInside_70 (by decide) ?_
        refine z_iadd dX13_isInside_71 ?_
        refine z_iald (I 116 ((a6 + 1).toNatClampNeg)) dX13_isInside_72 (ma_87 hL).2.1 (ma_87 hL).2.2 o9 rfl ?_
        refine z_i2l dX13_isInside_73 ?_
        refine z_lload_n 1 dX13_isInside_74 rfl ?_
        refine z_lload_n 2 dX13_isInside_75 rfl ?_
        refine z_callS0 (As := [.long (((I 115 a6.toNatClampNeg) : Int32).toInt64), .long (((I 116 a6.toNatClampNeg) : Int32).toInt64), .long (((I 115 ((a6 + 1).toNatClampNeg)) : Int32).toInt64), .long (((I 116 ((a6 + 1).toNatClampNeg)) : Int32).toInt64), .long a1, .long a3]) (st := []) dX13_isInside_76 hy_X13_crosses wg_2095 wg_2096 (Nat.le_refl _) (Nat.le_of_ble_eq_true rfl) (RM0.mono h (fun vv I10 L11 h => ?_))
        obtain ⟨r12, rfl, h⟩ := h
        change Z n0 xX13_isInside (d + 1) rc rs 79 [(0, .ref (n0 + 59)), (1, .long a1), (3, .long a3), (5, .int a5), (6, .int a6), (7, .int (if a6 = (I 59 61) then 0 else 1))] [.int r12] K I10 L11 (z_q0 K Q)
        have key14 : Z n0 xX13_isInside (d + 1) rc rs 87 [(0, .ref (n0 + 59)), (1, .long a1), (3, .long a3), (5, .int a5), (6, .int a6)] [.int (if r12 = 0 then 0 else 1)] K I10 L11 (z_q0 K Q) := by
          refine z_istore [1, 2, 3, 4, 5, 0] [(0, .ref (n0 + 59)), (1, .long a1), (3, .long a3), (5, .int a5), (6, .int a6), (8, .int (if r12 = 0 then 0 else 1))] dX13_isInside_87 (by decide) rfl ?_
          refine z_iload 3 dX13_isInside_89 rfl ?_
          refine z_iload 5 dX13_isInside_91 rfl ?_
          have key16 : Z n0 xX13_isInside (d + 1) rc rs 101 [(0, .ref (n0 + 59)), (1, .long a1), (3, .long a3), (6, .int a6)] [.int (if a5 = (if r12 = 0 then 0 else 1) then 0 else 1)] K I10 L11 (z_q0 K Q) := by
            refine z_istore [1, 2, 3, 0, 4] [(0, .ref (n0 + 59)), (1, .long a1), (3, .long a3), (5, .int (if a5 = (if r12 = 0 then 0 else 1) then 0 else 1)), (6, .int a6)] dX13_isInside_101 (by decide) rfl ?_
            refine z_iinc (j := 4) (a6 + 1) [1, 2, 3, 4, 0] [(0, .ref (n0 + 59)), (1, .long a1), (3, .long a3), (5, .int (if a5 = (if r12 = 0 then 0 else 1) then 0 else 1)), (6, .int (a6 + 1))] dX13_isInside_103 rfl rfl (by decide) rfl ?_
            refine z_goto 6 dX13_isInside_106 (by decide) ?_
            exact h
          refine z_icmp_eq 100 dX13_isInside_93 (by decide) (fun g15 => ?_) (fun g15 => ?_)
          · refine z_iconst 0 dX13_isInside_100 (by decide) ?_
            have ee : ((if a5 = (if r12 = 0 then 0 else 1) then 0 else 1) : Int32) = 0 := by rw [if_pos g15]
            rw [ee] at key16
            clear ee
            refine z_sub [0, 1, 2, 4] rfl ?_
            exact key16
          · refine z_iconst 1 dX13_isInside_96 (by decide) ?_
            refine z_goto 101 dX13_isInside_97 (by decide) ?_
            have ee : ((if a5 = (if r12 = 0 then 0 else 1) then 0 else 1) : Int32) = 1 := by rw [if_neg g15]
            rw [ee] at key16
            clear ee
            refine z_sub [0, 1, 2, 4] rfl ?_
            exact key16
        refine z_if_eq 86 dX13_isInside_79 (by decide) (fun g13 => ?_) (fun g13 => ?_)
        · refine z_iconst 0 dX13_isInside_86 (by decide) ?_
          have ee : ((if r12 = 0 then 0 else 1) : Int32) = 0 := by rw [if_pos g13]
          rw [ee] at key14
          clear ee
          refine z_sub [0, 1, 2, 3, 4] rfl ?_
          exact key14
        · refine z_iconst 1 dX13_isInside_82 (by decide) ?_
          refine z_goto 87 dX13_isInside_83 (by decide) ?_
          have ee : ((if r12 = 0 then 0 else 1) : Int32) = 1 := by rw [if_neg g13]
          rw [ee] at key14
          clear ee
          refine z_sub [0, 1, 2, 3, 4] rfl ?_
          exact key14
    refine z_icmp_eq 30 dX13_isInside_23 (by decide) (fun g3 => ?_) (fun g3 => ?_)
    · refine z_iconst 0 dX13_isInside_30 (by decide) ?_
      have ee : ((if a6 = (I 59 61) then 0 else 1) : Int32) = 0 := by rw [if_pos g3]
      rw [ee] at key4
      clear ee
      exact key4
    · refine z_iconst 1 dX13_isInside_26 (by decide) ?_
      refine z_goto 31 dX13_isInside_27 (by decide) ?_
      have ee : ((if a6 = (I 59 61) then 0 else 1) : Int32) = 1 := by rw [if_neg g3]
      rw [ee] at key4
      clear ee
      exact key4
theorem dX13_findCells_0 : decode cX13_findCells 0 = .ok (.aload_n 0, 1) := by decide +kernel
theorem dX13_findCells_1 : decode cX13_findCells 1 = .ok (.iload_n 1, 1) := by decide +kernel
theorem dX13_findCells_2 : decode cX13_findCells 2 = .ok (.invokevirtual 488, 3) := by decide +kernel
theorem dX13_findCells_5 : decode cX13_findCells 5 = .ok (.aload_n 0, 1) := by decide +kernel
theorem dX13_findCells_6 : decode cX13_findCells 6 = .ok (.aload_n 0, 1) := by decide +kernel
theorem dX13_findCells_7 : decode cX13_findCells 7 = .ok (.getfield 478, 3) := by decide +kernel
theorem dX13_findCells_10 : decode cX13_findCells 10 = .ok (.iconst 1, 1) := by decide +kernel
theorem dX13_findCells_11 : decode cX13_findCells 11 = .ok (.iadd, 1) := by decide +kernel
theorem dX13_findCells_12 : decode cX13_findCells 12 = .ok (.putfield 553, 3) := by decide +kernel
theorem dX13_findCells_15 : decode cX13_findCells 15 = .ok (.iconst 0, 1) := by decide +kernel
theorem dX13_findCells_16 : decode cX13_findCells 16 = .ok (.istore_n 2, 1) := by decide +kernel
theorem dX13_findCells_17 : decode cX13_findCells 17 = .ok (.iload_n 2, 1) := by decide +kernel
theorem dX13_findCells_18 : decode cX13_findCells 18 = .ok (.aload_n 0, 1) := by decide +kernel
theorem dX13_findCells_19 : decode cX13_findCells 19 = .ok (.getfield 478, 3) := by decide +kernel
theorem dX13_findCells_22 : decode cX13_findCells 22 = .ok (.if_icmp .gt 102, 3) := by decide +kernel
theorem dX13_findCells_25 : decode cX13_findCells 25 = .ok (.aload_n 0, 1) := by decide +kernel
theorem dX13_findCells_26 : decode cX13_findCells 26 = .ok (.getfield 177, 3) := by decide +kernel
theorem dX13_findCells_29 : decode cX13_findCells 29 = .ok (.iload_n 2, 1) := by decide +kernel
theorem dX13_findCells_30 : decode cX13_findCells 30 = .ok (.aload_n 0, 1) := by decide +kernel
theorem dX13_findCells_31 : decode cX13_findCells 31 = .ok (.getfield 117, 3) := by decide +kernel
theorem dX13_findCells_34 : decode cX13_findCells 34 = .ok (.iload_n 2, 1) := by decide +kernel
theorem dX13_findCells_35 : decode cX13_findCells 35 = .ok (.iaload, 1) := by decide +kernel
theorem dX13_findCells_36 : decode cX13_findCells 36 = .ok (.iastore, 1) := by decide +kernel
theorem dX13_findCells_37 : decode cX13_findCells 37 = .ok (.aload_n 0, 1) := by decide +kernel
theorem dX13_findCells_38 : decode cX13_findCells 38 = .ok (.getfield 180, 3) := by decide +kernel
theorem dX13_findCells_41 : decode cX13_findCells 41 = .ok (.iload_n 2, 1) := by decide +kernel
theorem dX13_findCells_42 : decode cX13_findCells 42 = .ok (.aload_n 0, 1) := by decide +kernel
theorem dX13_findCells_43 : decode cX13_findCells 43 = .ok (.getfield 120, 3) := by decide +kernel
theorem dX13_findCells_46 : decode cX13_findCells 46 = .ok (.iload_n 2, 1) := by decide +kernel
theorem dX13_findCells_47 : decode cX13_findCells 47 = .ok (.iaload, 1) := by decide +kernel
theorem dX13_findCells_48 : decode cX13_findCells 48 = .ok (.iastore, 1) := by decide +kernel
theorem dX13_findCells_49 : decode cX13_findCells 49 = .ok (.aload_n 0, 1) := by decide +kernel
theorem dX13_findCells_50 : decode cX13_findCells 50 = .ok (.getfield 28, 3) := by decide +kernel
theorem dX13_findCells_53 : decode cX13_findCells 53 = .ok (.iload_n 1, 1) := by decide +kernel
theorem dX13_findCells_54 : decode cX13_findCells 54 = .ok (.iaload, 1) := by decide +kernel
theorem dX13_findCells_55 : decode cX13_findCells 55 = .ok (.iconst 1, 1) := by decide +kernel
theorem dX13_findCells_56 : decode cX13_findCells 56 = .ok (.if_icmp .ne 62, 3) := by decide +kernel
theorem dX13_findCells_59 : decode cX13_findCells 59 = .ok (.aload_n 0, 1) := by decide +kernel
theorem dX13_findCells_60 : decode cX13_findCells 60 = .ok (.getfield 177, 3) := by decide +kernel
theorem dX13_findCells_63 : decode cX13_findCells 63 = .ok (.aload_n 0, 1) := by decide +kernel
theorem dX13_findCells_64 : decode cX13_findCells 64 = .ok (.getfield 478, 3) := by decide +kernel
theorem dX13_findCells_67 : decode cX13_findCells 67 = .ok (.iconst 1, 1) := by decide +kernel
theorem dX13_findCells_68 : decode cX13_findCells 68 = .ok (.iadd, 1) := by decide +kernel
theorem dX13_findCells_69 : decode cX13_findCells 69 = .ok (.iload_n 2, 1) := by decide +kernel
theorem dX13_findCells_70 : decode cX13_findCells 70 = .ok (.iadd, 1) := by decide +kernel
theorem dX13_findCells_71 : decode cX13_findCells 71 = .ok (.iconst 2, 1) := by decide +kernel
theorem dX13_findCells_72 : decode cX13_findCells 72 = .ok (.aload_n 0, 1) := by decide +kernel
theorem dX13_findCells_73 : decode cX13_findCells 73 = .ok (.getfield 108, 3) := by decide +kernel
theorem dX13_findCells_76 : decode cX13_findCells 76 = .ok (.iconst 0, 1) := by decide +kernel
theorem dX13_findCells_77 : decode cX13_findCells 77 = .ok (.iaload, 1) := by decide +kernel
theorem dX13_findCells_78 : decode cX13_findCells 78 = .ok (.imul, 1) := by decide +kernel
theorem dX13_findCells_79 : decode cX13_findCells 79 = .ok (.aload_n 0, 1) := by decide +kernel
theorem dX13_findCells_80 : decode cX13_findCells 80 = .ok (.getfield 117, 3) := by decide +kernel
theorem dX13_findCells_83 : decode cX13_findCells 83 = .ok (.iload_n 2, 1) := by decide +kernel
theorem dX13_findCells_84 : decode cX13_findCells 84 = .ok (.iaload, 1) := by decide +kernel
theorem dX13_findCells_85 : decode cX13_findCells 85 = .ok (.isub, 1) := by decide +kernel
theorem dX13_findCells_86 : decode cX13_findCells 86 = .ok (.iastore, 1) := by decide +kernel
theorem dX13_findCells_87 : decode cX13_findCells 87 = .ok (.aload_n 0, 1) := by decide +kernel
theorem dX13_findCells_88 : decode cX13_findCells 88 = .ok (.getfield 180, 3) := by decide +kernel
theorem dX13_findCells_91 : decode cX13_findCells 91 = .ok (.aload_n 0, 1) := by decide +kernel
theorem dX13_findCells_92 : decode cX13_findCells 92 = .ok (.getfield 478, 3) := by decide +kernel
theorem dX13_findCells_95 : decode cX13_findCells 95 = .ok (.iconst 1, 1) := by decide +kernel
theorem dX13_findCells_96 : decode cX13_findCells 96 = .ok (.iadd, 1) := by decide +kernel
theorem dX13_findCells_97 : decode cX13_findCells 97 = .ok (.iload_n 2, 1) := by decide +kernel
theorem dX13_findCells_98 : decode cX13_findCells 98 = .ok (.iadd, 1) := by decide +kernel
theorem dX13_findCells_99 : decode cX13_findCells 99 = .ok (.aload_n 0, 1) := by decide +kernel
theorem dX13_findCells_100 : decode cX13_findCells 100 = .ok (.getfield 120, 3) := by decide +kernel
theorem dX13_findCells_103 : decode cX13_findCells 103 = .ok (.iload_n 2, 1) := by decide +kernel
theorem dX13_findCells_104 : decode cX13_findCells 104 = .ok (.iaload, 1) := by decide +kernel
theorem dX13_findCells_105 : decode cX13_findCells 105 = .ok (.iastore, 1) := by decide +kernel
theorem dX13_findCells_106 : decode cX13_findCells 106 = .ok (.aload_n 0, 1) := by decide +kernel
theorem dX13_findCells_107 : decode cX13_findCells 107 = .ok (.iconst 2, 1) := by decide +kernel
theorem dX13_findCells_108 : decode cX13_findCells 108 = .ok (.aload_n 0, 1) := by decide +kernel
theorem dX13_findCells_109 : decode cX13_findCells 109 = .ok (.getfield 478, 3) := by decide +kernel
theorem dX13_findCells_112 : decode cX13_findCells 112 = .ok (.imul, 1) := by decide +kernel
theorem dX13_findCells_113 : decode cX13_findCells 113 = .ok (.iconst 2, 1) := by decide +kernel
theorem dX13_findCells_114 : decode cX13_findCells 114 = .ok (.iadd, 1) := by decide +kernel
theorem dX13_findCells_115 : decode cX13_findCells 115 = .ok (.putfield 553, 3) := by decide +kernel
theorem dX13_findCells_118 : decode cX13_findCells 118 = .ok (.iinc 2 1, 3) := by decide +kernel
theorem dX13_findCells_121 : decode cX13_findCells 121 = .ok (.goto (-104), 3) := by decide +kernel
theorem dX13_findCells_124 : decode cX13_findCells 124 = .ok (.aload_n 0, 1) := by decide +kernel
theorem dX13_findCells_125 : decode cX13_findCells 125 = .ok (.getfield 177, 3) := by decide +kernel
theorem dX13_findCells_128 : decode cX13_findCells 128 = .ok (.iconst 0, 1) := by decide +kernel
theorem dX13_findCells_129 : decode cX13_findCells 129 = .ok (.iaload, 1) := by decide +kernel
theorem dX13_findCells_130 : decode cX13_findCells 130 = .ok (.istore_n 2, 1) := by decide +kernel
theorem dX13_findCells_131 : decode cX13_findCells 131 = .ok (.aload_n 0, 1) := by decide +kernel
theorem dX13_findCells_132 : decode cX13_findCells 132 = .ok (.getfield 180, 3) := by decide +kernel
theorem dX13_findCells_135 : decode cX13_findCells 135 = .ok (.iconst 0, 1) := by decide +kernel
theorem dX13_findCells_136 : decode cX13_findCells 136 = .ok (.iaload, 1) := by decide +kernel
theorem dX13_findCells_137 : decode cX13_findCells 137 = .ok (.istore_n 3, 1) := by decide +kernel
theorem dX13_findCells_138 : decode cX13_findCells 138 = .ok (.aload_n 0, 1) := by decide +kernel
theorem dX13_findCells_139 : decode cX13_findCells 139 = .ok (.getfield 177, 3) := by decide +kernel
theorem dX13_findCells_142 : decode cX13_findCells 142 = .ok (.iconst 0, 1) := by decide +kernel
theorem dX13_findCells_143 : decode cX13_findCells 143 = .ok (.iaload, 1) := by decide +kernel
theorem dX13_findCells_144 : decode cX13_findCells 144 = .ok (.istore 4, 2) := by decide +kernel
theorem dX13_findCells_146 : decode cX13_findCells 146 = .ok (.aload_n 0, 1) := by decide +kernel
theorem dX13_findCells_147 : decode cX13_findCells 147 = .ok (.getfield 180, 3) := by decide +kernel
theorem dX13_findCells_150 : decode cX13_findCells 150 = .ok (.iconst 0, 1) := by decide +kernel
theorem dX13_findCells_151 : decode cX13_findCells 151 = .ok (.iaload, 1) := by decide +kernel
theorem dX13_findCells_152 : decode cX13_findCells 152 = .ok (.istore 5, 2) := by decide +kernel
theorem dX13_findCells_154 : decode cX13_findCells 154 = .ok (.iconst 0, 1) := by decide +kernel
theorem dX13_findCells_155 : decode cX13_findCells 155 = .ok (.istore 6, 2) := by decide +kernel
theorem dX13_findCells_157 : decode cX13_findCells 157 = .ok (.iload 6, 2) := by decide +kernel
theorem dX13_findCells_159 : decode cX13_findCells 159 = .ok (.aload_n 0, 1) := by decide +kernel
theorem dX13_findCells_160 : decode cX13_findCells 160 = .ok (.getfield 553, 3) := by decide +kernel
theorem dX13_findCells_163 : decode cX13_findCells 163 = .ok (.if_icmp .ge 107, 3) := by decide +kernel
theorem dX13_findCells_166 : decode cX13_findCells 166 = .ok (.aload_n 0, 1) := by decide +kernel
theorem dX13_findCells_167 : decode cX13_findCells 167 = .ok (.getfield 177, 3) := by decide +kernel
theorem dX13_findCells_170 : decode cX13_findCells 170 = .ok (.iload 6, 2) := by decide +kernel
theorem dX13_findCells_172 : decode cX13_findCells 172 = .ok (.iaload, 1) := by decide +kernel
theorem dX13_findCells_173 : decode cX13_findCells 173 = .ok (.iload_n 2, 1) := by decide +kernel
theorem dX13_findCells_174 : decode cX13_findCells 174 = .ok (.if_icmp .ge 13, 3) := by decide +kernel
theorem dX13_findCells_177 : decode cX13_findCells 177 = .ok (.aload_n 0, 1) := by decide +kernel
theorem dX13_findCells_178 : decode cX13_findCells 178 = .ok (.getfield 177, 3) := by decide +kernel
theorem dX13_findCells_181 : decode cX13_findCells 181 = .ok (.iload 6, 2) := by decide +kernel
theorem dX13_findCells_183 : decode cX13_findCells 183 = .ok (.iaload, 1) := by decide +kernel
theorem dX13_findCells_184 : decode cX13_findCells 184 = .ok (.goto 4, 3) := by decide +kernel
theorem dX13_findCells_187 : decode cX13_findCells 187 = .ok (.iload_n 2, 1) := by decide +kernel
theorem dX13_findCells_188 : decode cX13_findCells 188 = .ok (.istore_n 2, 1) := by decide +kernel
theorem dX13_findCells_189 : decode cX13_findCells 189 = .ok (.aload_n 0, 1) := by decide +kernel
theorem dX13_findCells_190 : decode cX13_findCells 190 = .ok (.getfield 180, 3) := by decide +kernel
theorem dX13_findCells_193 : decode cX13_findCells 193 = .ok (.iload 6, 2) := by decide +kernel
theorem dX13_findCells_195 : decode cX13_findCells 195 = .ok (.iaload, 1) := by decide +kernel
theorem dX13_findCells_196 : decode cX13_findCells 196 = .ok (.iload_n 3, 1) := by decide +kernel
theorem dX13_findCells_197 : decode cX13_findCells 197 = .ok (.if_icmp .ge 13, 3) := by decide +kernel
theorem dX13_findCells_200 : decode cX13_findCells 200 = .ok (.aload_n 0, 1) := by decide +kernel
theorem dX13_findCells_201 : decode cX13_findCells 201 = .ok (.getfield 180, 3) := by decide +kernel
theorem dX13_findCells_204 : decode cX13_findCells 204 = .ok (.iload 6, 2) := by decide +kernel
theorem dX13_findCells_206 : decode cX13_findCells 206 = .ok (.iaload, 1) := by decide +kernel
theorem dX13_findCells_207 : decode cX13_findCells 207 = .ok (.goto 4, 3) := by decide +kernel
theorem dX13_findCells_210 : decode cX13_findCells 210 = .ok (.iload_n 3, 1) := by decide +kernel
theorem dX13_findCells_211 : decode cX13_findCells 211 = .ok (.istore_n 3, 1) := by decide +kernel
theorem dX13_findCells_212 : decode cX13_findCells 212 = .ok (.aload_n 0, 1) := by decide +kernel
theorem dX13_findCells_213 : decode cX13_findCells 213 = .ok (.getfield 177, 3) := by decide +kernel
theorem dX13_findCells_216 : decode cX13_findCells 216 = .ok (.iload 6, 2) := by decide +kernel
theorem dX13_findCells_218 : decode cX13_findCells 218 = .ok (.iaload, 1) := by decide +kernel
theorem dX13_findCells_219 : decode cX13_findCells 219 = .ok (.iload 4, 2) := by decide +kernel
theorem dX13_findCells_221 : decode cX13_findCells 221 = .ok (.if_icmp .le 13, 3) := by decide +kernel
theorem dX13_findCells_224 : decode cX13_findCells 224 = .ok (.aload_n 0, 1) := by decide +kernel
theorem dX13_findCells_225 : decode cX13_findCells 225 = .ok (.getfield 177, 3) := by decide +kernel
theorem dX13_findCells_228 : decode cX13_findCells 228 = .ok (.iload 6, 2) := by decide +kernel
theorem dX13_findCells_230 : decode cX13_findCells 230 = .ok (.iaload, 1) := by decide +kernel
theorem dX13_findCells_231 : decode cX13_findCells 231 = .ok (.goto 5, 3) := by decide +kernel
theorem dX13_findCells_234 : decode cX13_findCells 234 = .ok (.iload 4, 2) := by decide +kernel
theorem dX13_findCells_236 : decode cX13_findCells 236 = .ok (.istore 4, 2) := by decide +kernel
theorem dX13_findCells_238 : decode cX13_findCells 238 = .ok (.aload_n 0, 1) := by decide +kernel
theorem dX13_findCells_239 : decode cX13_findCells 239 = .ok (.getfield 180, 3) := by decide +kernel
theorem dX13_findCells_242 : decode cX13_findCells 242 = .ok (.iload 6, 2) := by decide +kernel
theorem dX13_findCells_244 : decode cX13_findCells 244 = .ok (.iaload, 1) := by decide +kernel
theorem dX13_findCells_245 : decode cX13_findCells 245 = .ok (.iload 5, 2) := by decide +kernel
theorem dX13_findCells_247 : decode cX13_findCells 247 = .ok (.if_icmp .le 13, 3) := by decide +kernel
theorem dX13_findCells_250 : decode cX13_findCells 250 = .ok (.aload_n 0, 1) := by decide +kernel
theorem dX13_findCells_251 : decode cX13_findCells 251 = .ok (.getfield 180, 3) := by decide +kernel
theorem dX13_findCells_254 : decode cX13_findCells 254 = .ok (.iload 6, 2) := by decide +kernel
theorem dX13_findCells_256 : decode cX13_findCells 256 = .ok (.iaload, 1) := by decide +kernel
theorem dX13_findCells_257 : decode cX13_findCells 257 = .ok (.goto 5, 3) := by decide +kernel
theorem dX13_findCells_260 : decode cX13_findCells 260 = .ok (.iload 5, 2) := by decide +kernel
theorem dX13_findCells_262 : decode cX13_findCells 262 = .ok (.istore 5, 2) := by decide +kernel
theorem dX13_findCells_264 : decode cX13_findCells 264 = .ok (.iinc 6 1, 3) := by decide +kernel
theorem dX13_findCells_267 : decode cX13_findCells 267 = .ok (.goto (-110), 3) := by decide +kernel
theorem dX13_findCells_270 : decode cX13_findCells 270 = .ok (.aload_n 0, 1) := by decide +kernel
theorem dX13_findCells_271 : decode cX13_findCells 271 = .ok (.getfield 171, 3) := by decide +kernel
theorem dX13_findCells_274 : decode cX13_findCells 274 = .ok (.iconst 1, 1) := by decide +kernel
theorem dX13_findCells_275 : decode cX13_findCells 275 = .ok (.iaload, 1) := by decide +kernel
theorem dX13_findCells_276 : decode cX13_findCells 276 = .ok (.istore 6, 2) := by decide +kernel
theorem dX13_findCells_278 : decode cX13_findCells 278 = .ok (.iload 4, 2) := by decide +kernel
theorem dX13_findCells_280 : decode cX13_findCells 280 = .ok (.iload_n 2, 1) := by decide +kernel
theorem dX13_findCells_281 : decode cX13_findCells 281 = .ok (.isub, 1) := by decide +kernel
theorem dX13_findCells_282 : decode cX13_findCells 282 = .ok (.bipush 24, 2) := by decide +kernel
theorem dX13_findCells_284 : decode cX13_findCells 284 = .ok (.iload 6, 2) := by decide +kernel
theorem dX13_findCells_286 : decode cX13_findCells 286 = .ok (.imul, 1) := by decide +kernel
theorem dX13_findCells_287 : decode cX13_findCells 287 = .ok (.if_icmp .gt 15, 3) := by decide +kernel
theorem dX13_findCells_290 : decode cX13_findCells 290 = .ok (.iload 5, 2) := by decide +kernel
theorem dX13_findCells_292 : decode cX13_findCells 292 = .ok (.iload_n 3, 1) := by decide +kernel
theorem dX13_findCells_293 : decode cX13_findCells 293 = .ok (.isub, 1) := by decide +kernel
theorem dX13_findCells_294 : decode cX13_findCells 294 = .ok (.bipush 24, 2) := by decide +kernel
theorem dX13_findCells_296 : decode cX13_findCells 296 = .ok (.iload 6, 2) := by decide +kernel
theorem dX13_findCells_298 : decode cX13_findCells 298 = .ok (.imul, 1) := by decide +kernel
theorem dX13_findCells_299 : decode cX13_findCells 299 = .ok (.if_icmp .le 5, 3) := by decide +kernel
theorem dX13_findCells_302 : decode cX13_findCells 302 = .ok (.iconst 0, 1) := by decide +kernel
theorem dX13_findCells_303 : decode cX13_findCells 303 = .ok (.ireturn, 1) := by decide +kernel
theorem dX13_findCells_304 : decode cX13_findCells 304 = .ok (.iconst 0, 1) := by decide +kernel
theorem dX13_findCells_305 : decode cX13_findCells 305 = .ok (.istore 7, 2) := by decide +kernel
theorem dX13_findCells_307 : decode cX13_findCells 307 = .ok (.iload 7, 2) := by decide +kernel
theorem dX13_findCells_309 : decode cX13_findCells 309 = .ok (.aload_n 0, 1) := by decide +kernel
theorem dX13_findCells_310 : decode cX13_findCells 310 = .ok (.getfield 553, 3) := by decide +kernel
theorem dX13_findCells_313 : decode cX13_findCells 313 = .ok (.if_icmp .ge 45, 3) := by decide +kernel
theorem dX13_findCells_316 : decode cX13_findCells 316 = .ok (.aload_n 0, 1) := by decide +kernel
theorem dX13_findCells_317 : decode cX13_findCells 317 = .ok (.getfield 177, 3) := by decide +kernel
theorem dX13_findCells_320 : decode cX13_findCells 320 = .ok (.iload 7, 2) := by decide +kernel
theorem dX13_findCells_322 : decode cX13_findCells 322 = .ok (.iconst 2, 1) := by decide +kernel
theorem dX13_findCells_323 : decode cX13_findCells 323 = .ok (.aload_n 0, 1) := by decide +kernel
theorem dX13_findCells_324 : decode cX13_findCells 324 = .ok (.getfield 177, 3) := by decide +kernel
theorem dX13_findCells_327 : decode cX13_findCells 327 = .ok (.iload 7, 2) := by decide +kernel
theorem dX13_findCells_329 : decode cX13_findCells 329 = .ok (.iaload, 1) := by decide +kernel
theorem dX13_findCells_330 : decode cX13_findCells 330 = .ok (.iload_n 2, 1) := by decide +kernel
theorem dX13_findCells_331 : decode cX13_findCells 331 = .ok (.isub, 1) := by decide +kernel
theorem dX13_findCells_332 : decode cX13_findCells 332 = .ok (.imul, 1) := by decide +kernel
theorem dX13_findCells_333 : decode cX13_findCells 333 = .ok (.iastore, 1) := by decide +kernel
theorem dX13_findCells_334 : decode cX13_findCells 334 = .ok (.aload_n 0, 1) := by decide +kernel
theorem dX13_findCells_335 : decode cX13_findCells 335 = .ok (.getfield 180, 3) := by decide +kernel
theorem dX13_findCells_338 : decode cX13_findCells 338 = .ok (.iload 7, 2) := by decide +kernel
theorem dX13_findCells_340 : decode cX13_findCells 340 = .ok (.iconst 2, 1) := by decide +kernel
theorem dX13_findCells_341 : decode cX13_findCells 341 = .ok (.aload_n 0, 1) := by decide +kernel
theorem dX13_findCells_342 : decode cX13_findCells 342 = .ok (.getfield 180, 3) := by decide +kernel
theorem dX13_findCells_345 : decode cX13_findCells 345 = .ok (.iload 7, 2) := by decide +kernel
theorem dX13_findCells_347 : decode cX13_findCells 347 = .ok (.iaload, 1) := by decide +kernel
theorem dX13_findCells_348 : decode cX13_findCells 348 = .ok (.iload_n 3, 1) := by decide +kernel
theorem dX13_findCells_349 : decode cX13_findCells 349 = .ok (.isub, 1) := by decide +kernel
theorem dX13_findCells_350 : decode cX13_findCells 350 = .ok (.imul, 1) := by decide +kernel
theorem dX13_findCells_351 : decode cX13_findCells 351 = .ok (.iastore, 1) := by decide +kernel
theorem dX13_findCells_352 : decode cX13_findCells 352 = .ok (.iinc 7 1, 3) := by decide +kernel
theorem dX13_findCells_355 : decode cX13_findCells 355 = .ok (.goto (-48), 3) := by decide +kernel
theorem dX13_findCells_358 : decode cX13_findCells 358 = .ok (.iconst 0, 1) := by decide +kernel
theorem dX13_findCells_359 : decode cX13_findCells 359 = .ok (.istore 7, 2) := by decide +kernel
theorem dX13_findCells_361 : decode cX13_findCells 361 = .ok (.bipush 24, 2) := by decide +kernel
theorem dX13_findCells_363 : decode cX13_findCells 363 = .ok (.istore 8, 2) := by decide +kernel
theorem dX13_findCells_365 : decode cX13_findCells 365 = .ok (.bipush 24, 2) := by decide +kernel
theorem dX13_findCells_367 : decode cX13_findCells 367 = .ok (.istore 9, 2) := by decide +kernel
theorem dX13_findCells_369 : decode cX13_findCells 369 = .ok (.aload_n 0, 1) := by decide +kernel
theorem dX13_findCells_370 : decode cX13_findCells 370 = .ok (.iconst 0, 1) := by decide +kernel
theorem dX13_findCells_371 : decode cX13_findCells 371 = .ok (.putfield 560, 3) := by decide +kernel
theorem dX13_findCells_374 : decode cX13_findCells 374 = .ok (.aload_n 0, 1) := by decide +kernel
theorem dX13_findCells_375 : decode cX13_findCells 375 = .ok (.iconst 0, 1) := by decide +kernel
theorem dX13_findCells_376 : decode cX13_findCells 376 = .ok (.putfield 563, 3) := by decide +kernel
theorem dX13_findCells_379 : decode cX13_findCells 379 = .ok (.iconst 0, 1) := by decide +kernel
theorem dX13_findCells_380 : decode cX13_findCells 380 = .ok (.istore 10, 2) := by decide +kernel
theorem dX13_findCells_382 : decode cX13_findCells 382 = .ok (.iload 10, 2) := by decide +kernel
theorem dX13_findCells_384 : decode cX13_findCells 384 = .ok (.bipush 24, 2) := by decide +kernel
theorem dX13_findCells_386 : decode cX13_findCells 386 = .ok (.if_icmp .ge 137, 3) := by decide +kernel
theorem dX13_findCells_389 : decode cX13_findCells 389 = .ok (.aload_n 0, 1) := by decide +kernel
theorem dX13_findCells_390 : decode cX13_findCells 390 = .ok (.getfield 174, 3) := by decide +kernel
theorem dX13_findCells_393 : decode cX13_findCells 393 = .ok (.iload 10, 2) := by decide +kernel
theorem dX13_findCells_395 : decode cX13_findCells 395 = .ok (.iconst 0, 1) := by decide +kernel
theorem dX13_findCells_396 : decode cX13_findCells 396 = .ok (.iastore, 1) := by decide +kernel
theorem dX13_findCells_397 : decode cX13_findCells 397 = .ok (.iconst 0, 1) := by decide +kernel
theorem dX13_findCells_398 : decode cX13_findCells 398 = .ok (.istore 11, 2) := by decide +kernel
theorem dX13_findCells_400 : decode cX13_findCells 400 = .ok (.iload 11, 2) := by decide +kernel
theorem dX13_findCells_402 : decode cX13_findCells 402 = .ok (.bipush 24, 2) := by decide +kernel
theorem dX13_findCells_404 : decode cX13_findCells 404 = .ok (.if_icmp .ge 113, 3) := by decide +kernel
theorem dX13_findCells_407 : decode cX13_findCells 407 = .ok (.aload_n 0, 1) := by decide +kernel
theorem dX13_findCells_408 : decode cX13_findCells 408 = .ok (.iconst 2, 1) := by decide +kernel
theorem dX13_findCells_409 : decode cX13_findCells 409 = .ok (.iload 10, 2) := by decide +kernel
theorem dX13_findCells_411 : decode cX13_findCells 411 = .ok (.imul, 1) := by decide +kernel
theorem dX13_findCells_412 : decode cX13_findCells 412 = .ok (.iconst 1, 1) := by decide +kernel
theorem dX13_findCells_413 : decode cX13_findCells 413 = .ok (.iadd, 1) := by decide +kernel
theorem dX13_findCells_414 : decode cX13_findCells 414 = .ok (.iload 6, 2) := by decide +kernel
theorem dX13_findCells_416 : decode cX13_findCells 416 = .ok (.imul, 1) := by decide +kernel
theorem dX13_findCells_417 : decode cX13_findCells 417 = .ok (.i2l, 1) := by decide +kernel
theorem dX13_findCells_418 : decode cX13_findCells 418 = .ok (.iconst 2, 1) := by decide +kernel
theorem dX13_findCells_419 : decode cX13_findCells 419 = .ok (.iload 11, 2) := by decide +kernel
theorem dX13_findCells_421 : decode cX13_findCells 421 = .ok (.imul, 1) := by decide +kernel
theorem dX13_findCells_422 : decode cX13_findCells 422 = .ok (.iconst 1, 1) := by decide +kernel
theorem dX13_findCells_423 : decode cX13_findCells 423 = .ok (.iadd, 1) := by decide +kernel
theorem dX13_findCells_424 : decode cX13_findCells 424 = .ok (.iload 6, 2) := by decide +kernel
theorem dX13_findCells_426 : decode cX13_findCells 426 = .ok (.imul, 1) := by decide +kernel
theorem dX13_findCells_427 : decode cX13_findCells 427 = .ok (.i2l, 1) := by decide +kernel
theorem dX13_findCells_428 : decode cX13_findCells 428 = .ok (.invokevirtual 566, 3) := by decide +kernel
theorem dX13_findCells_431 : decode cX13_findCells 431 = .ok (.ifCond .eq 80, 3) := by decide +kernel
theorem dX13_findCells_434 : decode cX13_findCells 434 = .ok (.aload_n 0, 1) := by decide +kernel
theorem dX13_findCells_435 : decode cX13_findCells 435 = .ok (.getfield 174, 3) := by decide +kernel
theorem dX13_findCells_438 : decode cX13_findCells 438 = .ok (.iload 10, 2) := by decide +kernel
theorem dX13_findCells_440 : decode cX13_findCells 440 = .ok (.dup2, 1) := by decide +kernel
theorem dX13_findCells_441 : decode cX13_findCells 441 = .ok (.iaload, 1) := by decide +kernel
theorem dX13_findCells_442 : decode cX13_findCells 442 = .ok (.iconst 1, 1) := by decide +kernel
theorem dX13_findCells_443 : decode cX13_findCells 443 = .ok (.iload 11, 2) := by decide +kernel
theorem dX13_findCells_445 : decode cX13_findCells 445 = .ok (.ishl, 1) := by decide +kernel
theorem dX13_findCells_446 : decode cX13_findCells 446 = .ok (.ior, 1) := by decide +kernel
theorem dX13_findCells_447 : decode cX13_findCells 447 = .ok (.iastore, 1) := by decide +kernel
theorem dX13_findCells_448 : decode cX13_findCells 448 = .ok (.iinc 7 1, 3) := by decide +kernel
theorem dX13_findCells_451 : decode cX13_findCells 451 = .ok (.iload 10, 2) := by decide +kernel
theorem dX13_findCells_453 : decode cX13_findCells 453 = .ok (.iload 8, 2) := by decide +kernel
theorem dX13_findCells_455 : decode cX13_findCells 455 = .ok (.if_icmp .ge 8, 3) := by decide +kernel
theorem dX13_findCells_458 : decode cX13_findCells 458 = .ok (.iload 10, 2) := by decide +kernel
theorem dX13_findCells_460 : decode cX13_findCells 460 = .ok (.goto 5, 3) := by decide +kernel
theorem dX13_findCells_463 : decode cX13_findCells 463 = .ok (.iload 8, 2) := by decide +kernel
theorem dX13_findCells_465 : decode cX13_findCells 465 = .ok (.istore 8, 2) := by decide +kernel
theorem dX13_findCells_467 : decode cX13_findCells 467 = .ok (.iload 11, 2) := by decide +kernel
theorem dX13_findCells_469 : decode cX13_findCells 469 = .ok (.iload 9, 2) := by decide +kernel
theorem dX13_findCells_471 : decode cX13_findCells 471 = .ok (.if_icmp .ge 8, 3) := by decide +kernel
theorem dX13_findCells_474 : decode cX13_findCells 474 = .ok (.iload 11, 2) := by decide +kernel
theorem dX13_findCells_476 : decode cX13_findCells 476 = .ok (.goto 5, 3) := by decide +kernel
theorem dX13_findCells_479 : decode cX13_findCells 479 = .ok (.iload 9, 2) := by decide +kernel
theorem dX13_findCells_481 : decode cX13_findCells 481 = .ok (.istore 9, 2) := by decide +kernel
theorem dX13_findCells_483 : decode cX13_findCells 483 = .ok (.aload_n 0, 1) := by decide +kernel
theorem dX13_findCells_484 : decode cX13_findCells 484 = .ok (.iload 10, 2) := by decide +kernel
theorem dX13_findCells_486 : decode cX13_findCells 486 = .ok (.putfield 560, 3) := by decide +kernel
theorem dX13_findCells_489 : decode cX13_findCells 489 = .ok (.aload_n 0, 1) := by decide +kernel
theorem dX13_findCells_490 : decode cX13_findCells 490 = .ok (.iload 11, 2) := by decide +kernel
theorem dX13_findCells_492 : decode cX13_findCells 492 = .ok (.aload_n 0, 1) := by decide +kernel
theorem dX13_findCells_493 : decode cX13_findCells 493 = .ok (.getfield 563, 3) := by decide +kernel
theorem dX13_findCells_496 : decode cX13_findCells 496 = .ok (.if_icmp .le 8, 3) := by decide +kernel
theorem dX13_findCells_499 : decode cX13_findCells 499 = .ok (.iload 11, 2) := by decide +kernel
theorem dX13_findCells_501 : decode cX13_findCells 501 = .ok (.goto 7, 3) := by decide +kernel
theorem dX13_findCells_504 : decode cX13_findCells 504 = .ok (.aload_n 0, 1) := by decide +kernel
theorem dX13_findCells_505 : decode cX13_findCells 505 = .ok (.getfield 563, 3) := by decide +kernel
theorem dX13_findCells_508 : decode cX13_findCells 508 = .ok (.putfield 563, 3) := by decide +kernel
theorem dX13_findCells_511 : decode cX13_findCells 511 = .ok (.iinc 11 1, 3) := by decide +kernel
theorem dX13_findCells_514 : decode cX13_findCells 514 = .ok (.goto (-114), 3) := by decide +kernel
theorem dX13_findCells_517 : decode cX13_findCells 517 = .ok (.iinc 10 1, 3) := by decide +kernel
theorem dX13_findCells_520 : decode cX13_findCells 520 = .ok (.goto (-138), 3) := by decide +kernel
theorem dX13_findCells_523 : decode cX13_findCells 523 = .ok (.iload 7, 2) := by decide +kernel
theorem dX13_findCells_525 : decode cX13_findCells 525 = .ok (.ifCond .le 79, 3) := by decide +kernel
theorem dX13_findCells_528 : decode cX13_findCells 528 = .ok (.iconst 0, 1) := by decide +kernel
theorem dX13_findCells_529 : decode cX13_findCells 529 = .ok (.istore 10, 2) := by decide +kernel
theorem dX13_findCells_531 : decode cX13_findCells 531 = .ok (.iload 10, 2) := by decide +kernel
theorem dX13_findCells_533 : decode cX13_findCells 533 = .ok (.bipush 24, 2) := by decide +kernel
theorem dX13_findCells_535 : decode cX13_findCells 535 = .ok (.if_icmp .ge 43, 3) := by decide +kernel
theorem dX13_findCells_538 : decode cX13_findCells 538 = .ok (.aload_n 0, 1) := by decide +kernel
theorem dX13_findCells_539 : decode cX13_findCells 539 = .ok (.getfield 174, 3) := by decide +kernel
theorem dX13_findCells_542 : decode cX13_findCells 542 = .ok (.iload 10, 2) := by decide +kernel
theorem dX13_findCells_544 : decode cX13_findCells 544 = .ok (.iload 10, 2) := by decide +kernel
theorem dX13_findCells_546 : decode cX13_findCells 546 = .ok (.iload 8, 2) := by decide +kernel
theorem dX13_findCells_548 : decode cX13_findCells 548 = .ok (.iadd, 1) := by decide +kernel
theorem dX13_findCells_549 : decode cX13_findCells 549 = .ok (.bipush 24, 2) := by decide +kernel
theorem dX13_findCells_551 : decode cX13_findCells 551 = .ok (.if_icmp .ge 19, 3) := by decide +kernel
theorem dX13_findCells_554 : decode cX13_findCells 554 = .ok (.aload_n 0, 1) := by decide +kernel
theorem dX13_findCells_555 : decode cX13_findCells 555 = .ok (.getfield 174, 3) := by decide +kernel
theorem dX13_findCells_558 : decode cX13_findCells 558 = .ok (.iload 10, 2) := by decide +kernel
theorem dX13_findCells_560 : decode cX13_findCells 560 = .ok (.iload 8, 2) := by decide +kernel
theorem dX13_findCells_562 : decode cX13_findCells 562 = .ok (.iadd, 1) := by decide +kernel
theorem dX13_findCells_563 : decode cX13_findCells 563 = .ok (.iaload, 1) := by decide +kernel
theorem dX13_findCells_564 : decode cX13_findCells 564 = .ok (.iload 9, 2) := by decide +kernel
theorem dX13_findCells_566 : decode cX13_findCells 566 = .ok (.ishr, 1) := by decide +kernel
theorem dX13_findCells_567 : decode cX13_findCells 567 = .ok (.goto 4, 3) := by decide +kernel
theorem dX13_findCells_570 : decode cX13_findCells 570 = .ok (.iconst 0, 1) := by decide +kernel
theorem dX13_findCells_571 : decode cX13_findCells 571 = .ok (.iastore, 1) := by decide +kernel
theorem dX13_findCells_572 : decode cX13_findCells 572 = .ok (.iinc 10 1, 3) := by decide +kernel
theorem dX13_findCells_575 : decode cX13_findCells 575 = .ok (.goto (-44), 3) := by decide +kernel
theorem dX13_findCells_578 : decode cX13_findCells 578 = .ok (.aload_n 0, 1) := by decide +kernel
theorem dX13_findCells_579 : decode cX13_findCells 579 = .ok (.dup, 1) := by decide +kernel
theorem dX13_findCells_580 : decode cX13_findCells 580 = .ok (.getfield 560, 3) := by decide +kernel
theorem dX13_findCells_583 : decode cX13_findCells 583 = .ok (.iconst 1, 1) := by decide +kernel
theorem dX13_findCells_584 : decode cX13_findCells 584 = .ok (.iload 8, 2) := by decide +kernel
theorem dX13_findCells_586 : decode cX13_findCells 586 = .ok (.isub, 1) := by decide +kernel
theorem dX13_findCells_587 : decode cX13_findCells 587 = .ok (.iadd, 1) := by decide +kernel
theorem dX13_findCells_588 : decode cX13_findCells 588 = .ok (.putfield 560, 3) := by decide +kernel
theorem dX13_findCells_591 : decode cX13_findCells 591 = .ok (.aload_n 0, 1) := by decide +kernel
theorem dX13_findCells_592 : decode cX13_findCells 592 = .ok (.dup, 1) := by decide +kernel
theorem dX13_findCells_593 : decode cX13_findCells 593 = .ok (.getfield 563, 3) := by decide +kernel
theorem dX13_findCells_596 : decode cX13_findCells 596 = .ok (.iconst 1, 1) := by decide +kernel
theorem dX13_findCells_597 : decode cX13_findCells 597 = .ok (.iload 9, 2) := by decide +kernel
theorem dX13_findCells_599 : decode cX13_findCells 599 = .ok (.isub, 1) := by decide +kernel
theorem dX13_findCells_600 : decode cX13_findCells 600 = .ok (.iadd, 1) := by decide +kernel
theorem dX13_findCells_601 : decode cX13_findCells 601 = .ok (.putfield 563, 3) := by decide +kernel
theorem dX13_findCells_604 : decode cX13_findCells 604 = .ok (.iload 7, 2) := by decide +kernel
theorem dX13_findCells_606 : decode cX13_findCells 606 = .ok (.ireturn, 1) := by decide +kernel
set_option maxRecDepth 100000 in
set_option maxHeartbeats 4000000 in
theorem wp_X13_findCells {n0 d : Nat} {K : z_K} {I : z_I} {L : z_L} {Q : z_q} {p0 : Int32} (hL : MLay K) (h : RM0 n0 xX13_findWays d [.ref (n0 + 59), .int p0] K I L (fun vv I1 L2 => vv = none ∧ Z n0 xX13_findCells (d + 1) 0 0 17 [(0, .ref (n0 + 59)), (1, .int p0), (2, .int 0)] [] K (zI I1 59 88 ((I1 59 61) + 1)) L2 (z_q0 K Q))) : RM0 n0 xX13_findCells (d + 1) [.ref (n0 + 59), .int p0] K I L Q := by
  refine z_entry0 (by decide) (Nat.le_of_ble_eq_true rfl) ?_
  change Z n0 xX13_findCells (d + 1) 0 0 0 [(0, .ref (n0 + 59)), (1, .int p0)] [] K I L (z_q0 K Q)
  refine z_aload_n 0 dX13_findCells_0 rfl ?_
  refine z_iload_n 1 dX13_findCells_1 rfl ?_
  refine z_callV0 (As := [.int p0]) (st := []) dX13_findCells_2 hy_X13_findWays hL.1 hL.2.1 (by decide) wg_1982 wg_1984 wg_80 (Nat.le_refl _) (Nat.le_of_ble_eq_true rfl) (RM0.mono h (fun vv I1 L2 h => ?_))
  obtain ⟨rfl, h⟩ := h
  change Z n0 xX13_findCells (d + 1) 0 0 5 [(0, .ref (n0 + 59)), (1, .int p0)] [] K I1 L2 (z_q0 K Q)
  refine z_aload_n 0 dX13_findCells_5 rfl ?_
  refine z_aload_n 0 dX13_findCells_6 rfl ?_
  refine fg_13_478 (I1 59 61) rfl dX13_findCells_7 hL.1 hL.2.1 rfl ?_
  refine z_iconst 1 dX13_findCells_10 (by decide) ?_
  refine z_iadd dX13_findCells_11 ?_
  refine fp_13_553 rfl dX13_findCells_12 hL.1 hL.2.1 ?_
  refine z_iconst 0 dX13_findCells_15 (by decide) ?_
  refine z_istore_n [1, 2, 0] [(0, .ref (n0 + 59)), (1, .int p0), (2, .int 0)] dX13_findCells_16 (by decide) rfl ?_
  exact h
set_option maxRecDepth 100000 in
set_option maxHeartbeats 4000000 in
theorem wp_X13_findCells_17 {n0 d : Nat} {rc rs : Nat} {K : z_K} {I : z_I} {L : z_L} {Q : z_q} {a1 : Int32} {a2 : Int32} (hL : MLay K) (h : (if (I 59 61) < a2 then Z n0 xX13_findCells (d + 1) rc rs 157 [(0, .ref (n0 + 59)), (2, .int (I 115 0)), (3, .int (I 116 0)), (4, .int (I 115 0)), (5, .int (I 116 0)), (6, .int 0)] [] K I L (z_q0 K Q) else vp_in a2 81 ∧ vp_in a2 162 ∧ vp_in a1 16 ∧ (if ((I 66 a1.toNatClampNeg) : Int32) = 1 then vp_in (((I 59 61) + 1) + a2) 162 ∧ Z n0 xX13_findCells (d + 1) rc rs 17 [(0, .ref (n0 + 59)), (1, .int a1), (2, .int (a2 + 1))] [] K (zI (zI (zI (zI (zI I 115 a2.toNatClampNeg (I 95 a2.toNatClampNeg)) 116 a2.toNatClampNeg (I 96 a2.toNatClampNeg)) 115 ((((I 59 61) + 1) + a2).toNatClampNeg) ((2 * (I 92 0)) - (I 95 a2.toNatClampNeg))) 116 ((((I 59 61) + 1) + a2).toNatClampNeg) (I 96 a2.toNatClampNeg)) 59 88 ((2 * (I 59 61)) + 2)) L (z_q0 K Q) else Z n0 xX13_findCells (d + 1) rc rs 17 [(0, .ref (n0 + 59)), (1, .int a1), (2, .int (a2 + 1))] [] K (zI (zI I 115 a2.toNatClampNeg (I 95 a2.toNatClampNeg)) 116 a2.toNatClampNeg (I 96 a2.toNatClampNeg)) L (z_q0 K Q)))) : Z n0 xX13_findCells (d + 1) rc rs 17 [(0, .ref (n0 + 59)), (1, .int a1), (2, .int a2)] [] K I L (z_q0 K Q) := by
  refine z_iload_n 2 dX13_findCells_17 rfl ?_
  refine z_aload_n 0 dX13_findCells_18 rfl ?_
  refine fg_13_478 (I 59 61) rfl dX13_findCells_19 hL.1 hL.2.1 rfl ?_
  refine z_icmp_gt 124 dX13_findCells_22 (by decide) (fun g1 => ?_) (fun g1 => ?_)
  · rw [if_pos g1] at h
    refine z_aload_n 0 dX13_findCells_124 rfl ?_
    refine fg_13_177 (some 115) rfl dX13_findCells_125 hL.1 hL.2.1 (ma_86 hL).1 ?_
    refine z_iconst 0 dX13_findCells_128 (by decide) ?_
    refine z_iald (I 115 0) dX13_findCells_129 (ma_86 hL).2.1 (ma_86 hL).2.2 (by unfold vp_in; decide) rfl ?_
    refine z_istore_n [1, 2, 0] [(0, .ref (n0 + 59)), (1, .int a1), (2, .int (I 115 0))] dX13_findCells_130 (by decide) rfl ?_
    refine z_aload_n 0 dX13_findCells_131 rfl ?_
    refine fg_13_180 (some 116) rfl dX13_findCells_132 hL.1 hL.2.1 (ma_87 hL).1 ?_
    refine z_iconst 0 dX13_findCells_135 (by decide) ?_
    refine z_iald (I 116 0) dX13_findCells_136 (ma_87 hL).2.1 (ma_87 hL).2.2 (by unfold vp_in; decide) rfl ?_
    refine z_istore_n [1, 2, 3, 0] [(0, .ref (n0 + 59)), (1, .int a1), (2, .int (I 115 0)), (3, .int (I 116 0))] dX13_findCells_137 (by decide) rfl ?_
    refine z_aload_n 0 dX13_findCells_138 rfl ?_
    refine fg_13_177 (some 115) rfl dX13_findCells_139 hL.1 hL.2.1 (ma_86 hL).1 ?_
    refine z_iconst 0 dX13_findCells_142 (by decide) ?_
    refine z_iald (I 115 0) dX13_findCells_143 (ma_86 hL).2.1 (ma_86 hL).2.2 (by unfold vp_in; decide) rfl ?_
    refine z_istore [1, 2, 3, 4, 0] [(0, .ref (n0 + 59)), (1, .int a1), (2, .int (I 115 0)), (3, .int (I 116 0)), (4, .int (I 115 0))] dX13_findCells_144 (by decide) rfl ?_
    refine z_aload_n 0 dX13_findCells_146 rfl ?_
    refine fg_13_180 (some 116) rfl dX13_findCells_147 hL.1 hL.2.1 (ma_87 hL).1 ?_
    refine z_iconst 0 dX13_findCells_150 (by decide) ?_
    refine z_iald (I 116 0) dX13_findCells_151 (ma_87 hL).2.1 (ma_87 hL).2.2 (by unfold vp_in; decide) rfl ?_
    refine z_istore [1, 2, 3, 4, 5, 0] [(0, .ref (n0 + 59)), (1, .int a1), (2, .int (I 115 0)), (3, .int (I 116 0)), (4, .int (I 115 0)), (5, .int (I 116 0))] dX13_findCells_152 (by decide) rfl ?_
    refine z_iconst 0 dX13_findCells_154 (by decide) ?_
    refine z_istore [1, 2, 3, 4, 5, 6, 0] [(0, .ref (n0 + 59)), (1, .int a1), (2, .int (I 115 0)), (3, .int (I 116 0)), (4, .int (I 115 0)), (5, .int (I 116 0)), (6, .int 0)] dX13_findCells_155 (by decide) rfl ?_
    refine z_sub [0, 2, 3, 4, 5, 6] rfl ?_
    exact h
  · rw [if_neg g1] at h
    refine z_aload_n 0 dX13_findCells_25 rfl ?_
    refine fg_13_177 (some 115) rfl dX13_findCells_26 hL.1 hL.2.1 (ma_86 hL).1 ?_
    refine z_iload_n 2 dX13_findCells_29 rfl ?_
    refine z_aload_n 0 dX13_findCells_30 rfl ?_
    refine fg_13_117 (some 95) rfl dX13_findCells_31 hL.1 hL.2.1 (ma_58 hL).1 ?_
    refine z_iload_n 2 dX13_findCells_34 rfl ?_
    obtain ⟨o2, h⟩ := h
    refine z_iald (I 95 a2.toNatClampNeg) dX13_findCells_35 (ma_58 hL).2.1 (ma_58 hL).2.2 o2 rfl ?_
    obtain ⟨o3, h⟩ := h
    refine z_iast dX13_findCells_36 (ma_86 hL).2.1 (ma_86 hL).2.2 o3 ?_
    refine z_aload_n 0 dX13_findCells_37 rfl ?_
    refine fg_13_180 (some 116) rfl dX13_findCells_38 hL.1 hL.2.1 (ma_87 hL).1 ?_
    refine z_iload_n 2 dX13_findCells_41 rfl ?_
    refine z_aload_n 0 dX13_findCells_42 rfl ?_
    refine fg_13_120 (some 96) rfl dX13_findCells_43 hL.1 hL.2.1 (ma_59 hL).1 ?_
    refine z_iload_n 2 dX13_findCells_46 rfl ?_
    refine z_iald (I 96 a2.toNatClampNeg) dX13_findCells_47 (ma_59 hL).2.1 (ma_59 hL).2.2 o2 rfl ?_
    refine z_iast dX13_findCells_48 (ma_87 hL).2.1 (ma_87 hL).2.2 o3 ?_
    refine z_aload_n 0 dX13_findCells_49 rfl ?_
    refine fg_13_28 (some 66) rfl dX13_findCells_50 hL.1 hL.2.1 (ma_10 hL).1 ?_
    refine z_iload_n 1 dX13_findCells_53 rfl ?_
    obtain ⟨o4, h⟩ := h
    refine z_iald (I 66 a1.toNatClampNeg) dX13_findCells_54 (ma_10 hL).2.1 (ma_10 hL).2.2 o4 rfl ?_
    refine z_iconst 1 dX13_findCells_55 (by decide) ?_
    refine z_icmp_ne 118 dX13_findCells_56 (by decide) (fun g5 => ?_) (fun g5 => ?_)
    · rw [if_neg g5] at h
      refine z_iinc (j := 2) (a2 + 1) [1, 2, 0] [(0, .ref (n0 + 59)), (1, .int a1), (2, .int (a2 + 1))] dX13_findCells_118 rfl rfl (by decide) rfl ?_
      refine z_goto 17 dX13_findCells_121 (by decide) ?_
      exact h
    · rw [if_pos g5] at h
      refine z_aload_n 0 dX13_findCells_59 rfl ?_
      refine fg_13_177 (some 115) rfl dX13_findCells_60 hL.1 hL.2.1 (ma_86 hL).1 ?_
      refine z_aload_n 0 dX13_findCells_63 rfl ?_
      refine fg_13_478 (I 59 61) rfl dX13_findCells_64 hL.1 hL.2.1 rfl ?_
      refine z_iconst 1 dX13_findCells_67 (by decide) ?_
      refine z_iadd dX13_findCells_68 ?_
      refine z_iload_n 2 dX13_findCells_69 rfl ?_
      refine z_iadd dX13_findCells_70 ?_
      refine z_iconst 2 dX13_findCells_71 (by decide) ?_
      refine z_aload_n 0 dX13_findCells_72 rfl ?_
      refine fg_13_108 (some 92) rfl dX13_findCells_73 hL.1 hL.2.1 (ma_54 hL).1 ?_
      refine z_iconst 0 dX13_findCells_76 (by decide) ?_
      refine z_iald (I 92 0) dX13_findCells_77 (ma_54 hL).2.1 (ma_54 hL).2.2 (by unfold vp_in; decide) rfl ?_
      refine z_imul dX13_findCells_78 ?_
      refine z_aload_n 0 dX13_findCells_79 rfl ?_
      refine fg_13_117 (some 95) rfl dX13_findCells_80 hL.1 hL.2.1 (ma_58 hL).1 ?_
      refine z_iload_n 2 dX13_findCells_83 rfl ?_
      refine z_iald (I 95 a2.toNatClampNeg) dX13_findCells_84 (ma_58 hL).2.1 (ma_58 hL).2.2 o2 rfl ?_
      refine z_isub dX13_findCells_85 ?_
      obtain ⟨o6, h⟩ := h
      refine z_iast dX13_findCells_86 (ma_86 hL).2.1 (ma_86 hL).2.2 o6 ?_
      refine z_aload_n 0 dX13_findCells_87 rfl ?_
      refine fg_13_180 (some 116) rfl dX13_findCells_88 hL.1 hL.2.1 (ma_87 hL).1 ?_
      refine z_aload_n 0 dX13_findCells_91 rfl ?_
      refine fg_13_478 (I 59 61) rfl dX13_findCells_92 hL.1 hL.2.1 rfl ?_
      refine z_iconst 1 dX13_findCells_95 (by decide) ?_
      refine z_iadd dX13_findCells_96 ?_
      refine z_iload_n 2 dX13_findCells_97 rfl ?_
      refine z_iadd dX13_findCells_98 ?_
      refine z_aload_n 0 dX13_findCells_99 rfl ?_
      refine fg_13_120 (some 96) rfl dX13_findCells_100 hL.1 hL.2.1 (ma_59 hL).1 ?_
      refine z_iload_n 2 dX13_findCells_103 rfl ?_
      refine z_iald (I 96 a2.toNatClampNeg) dX13_findCells_104 (ma_59 hL).2.1 (ma_59 hL).2.2 o2 rfl ?_
      refine z_iast dX13_findCells_105 (ma_87 hL).2.1 (ma_87 hL).2.2 o6 ?_
      refine z_aload_n 0 dX13_findCells_106 rfl ?_
      refine z_iconst 2 dX13_findCells_107 (by decide) ?_
      refine z_aload_n 0 dX13_findCells_108 rfl ?_
      refine fg_13_478 (I 59 61) rfl dX13_findCells_109 hL.1 hL.2.1 rfl ?_
      refine z_imul dX13_findCells_112 ?_
      refine z_iconst 2 dX13_findCells_113 (by decide) ?_
      refine z_iadd dX13_findCells_114 ?_
      refine fp_13_553 rfl dX13_findCells_115 hL.1 hL.2.1 ?_
      refine z_iinc (j := 2) (a2 + 1) [1, 2, 0] [(0, .ref (n0 + 59)), (1, .int a1), (2, .int (a2 + 1))] dX13_findCells_118 rfl rfl (by decide) rfl ?_
      refine z_goto 17 dX13_findCells_121 (by decide) ?_
      exact h
set_option maxRecDepth 100000 in
set_option maxHeartbeats 4000000 in
theorem wp_X13_findCells_157 {n0 d : Nat} {rc rs : Nat} {K : z_K} {I : z_I} {L : z_L} {Q : z_q} {a2 : Int32} {a3 : Int32} {a4 : Int32} {a5 : Int32} {a6 : Int32} (hL : MLay K) (h : (if a6 < (I 59 88) then vp_in a6 162 ∧ Z n0 xX13_findCells (d + 1) rc rs 157 [(0, .ref (n0 + 59)), (2, .int (if ((I 115 a6.toNatClampNeg) : Int32) < a2 then (I 115 a6.toNatClampNeg) else a2)), (3, .int (if ((I 116 a6.toNatClampNeg) : Int32) < a3 then (I 116 a6.toNatClampNeg) else a3)), (4, .int (if a4 < ((I 115 a6.toNatClampNeg) : Int32) then (I 115 a6.toNatClampNeg) else a4)), (5, .int (if a5 < ((I 116 a6.toNatClampNeg) : Int32) then (I 116 a6.toNatClampNeg) else a5)), (6, .int (a6 + 1))] [] K I L (z_q0 K Q) else (if (24 * (I 113 1)) < ((a4 - a2) : Int32) then Q (some (.int 0)) I L else (if (24 * (I 113 1)) < ((a5 - a3) : Int32) then Q (some (.int 0)) I L else Z n0 xX13_findCells (d + 1) rc rs 307 [(0, .ref (n0 + 59)), (2, .int a2), (3, .int a3), (6, .int (I 113 1)), (7, .int 0)] [] K I L (z_q0 K Q))))) : Z n0 xX13_findCells (d + 1) rc rs 157 [(0, .ref (n0 + 59)), (2, .int a2), (3, .int a3), (4, .int a4), (5, .int a5), (6, .int a6)] [] K I L (z_q0 K Q) := by
  refine z_iload 5 dX13_findCells_157 rfl ?_
  refine z_aload_n 0 dX13_findCells_159 rfl ?_
  refine fg_13_553 (I 59 88) rfl dX13_findCells_160 hL.1 hL.2.1 rfl ?_
  refine z_icmp_ge 270 dX13_findCells_163 (by decide) (fun g1 => ?_) (fun g1 => ?_)
  · rw [if_neg g1] at h
    refine z_aload_n 0 dX13_findCells_270 rfl ?_
    refine fg_13_171 (some 113) rfl dX13_findCells_271 hL.1 hL.2.1 (ma_82 hL).1 ?_
    refine z_iconst 1 dX13_findCells_274 (by decide) ?_
    refine z_iald (I 113 1) dX13_findCells_275 (ma_82 hL).2.1 (ma_82 hL).2.2 (by unfold vp_in; decide) rfl ?_
    refine z_istore [1, 2, 3, 4, 5, 0] [(0, .ref (n0 + 59)), (2, .int a2), (3, .int a3), (4, .int a4), (5, .int a5), (6, .int (I 113 1))] dX13_findCells_276 (by decide) rfl ?_
    refine z_iload 3 dX13_findCells_278 rfl ?_
    refine z_iload_n 1 dX13_findCells_280 rfl ?_
    refine z_isub dX13_findCells_281 ?_
    refine z_bipush 24 dX13_findCells_282 (by decide) ?_
    refine z_iload 5 dX13_findCells_284 rfl ?_
    refine z_imul dX13_findCells_286 ?_
    refine z_icmp_gt 302 dX13_findCells_287 (by decide) (fun g2 => ?_) (fun g2 => ?_)
    · rw [if_pos g2] at h
      refine z_iconst 0 dX13_findCells_302 (by decide) ?_
      exact z_iret dX13_findCells_303 rfl ⟨rfl, h⟩
    · rw [if_neg g2] at h
      refine z_iload 4 dX13_findCells_290 rfl ?_
      refine z_iload_n 2 dX13_findCells_292 rfl ?_
      refine z_isub dX13_findCells_293 ?_
      refine z_bipush 24 dX13_findCells_294 (by decide) ?_
      refine z_iload 5 dX13_findCells_296 rfl ?_
      refine z_imul dX13_findCells_298 ?_
      refine z_icmp_le 304 dX13_findCells_299 (by decide) (fun g3 => ?_) (fun g3 => ?_)
      · rw [if_neg g3] at h
        refine z_iconst 0 dX13_findCells_304 (by decide) ?_
        refine z_istore [1, 2, 3, 4, 5, 6, 0] [(0, .ref (n0 + 59)), (2, .int a2), (3, .int a3), (4, .int a4), (5, .int a5), (6, .int (I 113 1)), (7, .int 0)] dX13_findCells_305 (by decide) rfl ?_
        refine z_sub [0, 1, 2, 5, 6] rfl ?_
        exact h
      · rw [if_pos g3] at h
        refine z_iconst 0 dX13_findCells_302 (by decide) ?_
        exact z_iret dX13_findCells_303 rfl ⟨rfl, h⟩
  · rw [if_pos g1] at h
    refine z_aload_n 0 dX13_findCells_166 rfl ?_
    refine fg_13_177 (some 115) rfl dX13_findCells_167 hL.1 hL.2.1 (ma_86 hL).1 ?_
    refine z_iload 5 dX13_findCells_170 rfl ?_
    obtain ⟨o4, h⟩ := h
    refine z_iald (I 115 a6.toNatClampNeg) dX13_findCells_172 (ma_86 hL).2.1 (ma_86 hL).2.2 o4 rfl ?_
    refine z_iload_n 1 dX13_findCells_173 rfl ?_
    have key6 : Z n0 xX13_findCells (d + 1) rc rs 188 [(0, .ref (n0 + 59)), (3, .int a3), (4, .int a4), (5, .int a5), (6, .int a6)] [.int (if ((I 115 a6.toNatClampNeg) : Int32) < a2 then (I 115 a6.toNatClampNeg) else a2)] K I L (z_q0 K Q) := by
      refine z_istore_n [1, 0, 2, 3, 4, 5] [(0, .ref (n0 + 59)), (2, .int (if ((I 115 a6.toNatClampNeg) : Int32) < a2 then (I 115 a6.toNatClampNeg) else a2)), (3, .int a3), (4, .int a4), (5, .int a5), (6, .int a6)] dX13_findCells_188 (by decide) rfl ?_
      refine z_aload_n 0 dX13_findCells_189 rfl ?_
      refine fg_13_180 (some 116) rfl dX13_findCells_190 hL.1 hL.2.1 (ma_87 hL).1 ?_
      refine z_iload 5 dX13_findCells_193 rfl ?_
      refine z_iald (I 116 a6.toNatClampNeg) dX13_findCells_195 (ma_87 hL).2.1 (ma_87 hL).2.2 o4 rfl ?_
      refine z_iload_n 2 dX13_findCells_196 rfl ?_
      have key8 : Z n0 xX13_findCells (d + 1) rc rs 211 [(0, .ref (n0 + 59)), (2, .int (if ((I 115 a6.toNatClampNeg) : Int32) < a2 then (I 115 a6.toNatClampNeg) else a2)), (4, .int a4), (5, .int a5), (6, .int a6)] [.int (if ((I 116 a6.toNatClampNeg) : Int32) < a3 then (I 116 a6.toNatClampNeg) else a3)] K I L (z_q0 K Q) := by
        refine z_istore_n [1, 2, 0, 3, 4, 5] [(0, .ref (n0 + 59)), (2, .int (if ((I 115 a6.toNatClampNeg) : Int32) < a2 then (I 115 a6.toNatClampNeg) else a2)), (3, .int (if ((I 116 a6.toNatClampNeg) : Int32) < a3 then (I 116 a6.toNatClampNeg) else a3)), (4, .int a4), (5, .int a5), (6, .int a6)] dX13_findCells_211 (by decide) rfl ?_
        refine z_aload_n 0 dX13_findCells_212 rfl ?_
        refine fg_13_177 (some 115) rfl dX13_findCells_213 hL.1 hL.2.1 (ma_86 hL).1 ?_
        refine z_iload 5 dX13_findCells_216 rfl ?_
        refine z_iald (I 115 a6.toNatClampNeg) dX13_findCells_218 (ma_86 hL).2.1 (ma_86 hL).2.2 o4 rfl ?_
        refine z_iload 3 dX13_findCells_219 rfl ?_
        have key10 : Z n0 xX13_findCells (d + 1) rc rs 236 [(0, .ref (n0 + 59)), (2, .int (if ((I 115 a6.toNatClampNeg) : Int32) < a2 then (I 115 a6.toNatClampNeg) else a2)), (3, .int (if ((I 116 a6.toNatClampNeg) : Int32) < a3 then (I 116 a6.toNatClampNeg) else a3)), (5, .int a5), (6, .int a6)] [.int (if a4 < ((I 115 a6.toNatClampNeg) : Int32) then (I 115 a6.toNatClampNeg) else a4)] K I L (z_q0 K Q) := by
          refine z_istore [1, 2, 3, 0, 4, 5] [(0, .ref (n0 + 59)), (2, .int (if ((I 115 a6.toNatClampNeg) : Int32) < a2 then (I 115 a6.toNatClampNeg) else a2)), (3, .int (if ((I 116 a6.toNatClampNeg) : Int32) < a3 then (I 116 a6.toNatClampNeg) else a3)), (4, .int (if a4 < ((I 115 a6.toNatClampNeg) : Int32) then (I 115 a6.toNatClampNeg) else a4)), (5, .int a5), (6, .int a6)] dX13_findCells_236 (by decide) rfl ?_
          refine z_aload_n 0 dX13_findCells_238 rfl ?_
          refine fg_13_180 (some 116) rfl dX13_findCells_239 hL.1 hL.2.1 (ma_87 hL).1 ?_
          refine z_iload 5 dX13_findCells_242 rfl ?_
          refine z_iald (I 116 a6.toNatClampNeg) dX13_findCells_244 (ma_87 hL).2.1 (ma_87 hL).2.2 o4 rfl ?_
          refine z_iload 4 dX13_findCells_245 rfl ?_
          have key12 : Z n0 xX13_findCells (d + 1) rc rs 262 [(0, .ref (n0 + 59)), (2, .int (if ((I 115 a6.toNatClampNeg) : Int32) < a2 then (I 115 a6.toNatClampNeg) else a2)), (3, .int (if ((I 116 a6.toNatClampNeg) : Int32) < a3 then (I 116 a6.toNatClampNeg) else a3)), (4, .int (if a4 < ((I 115 a6.toNatClampNeg) : Int32) then (I 115 a6.toNatClampNeg) else a4)), (6, .int a6)] [.int (if a5 < ((I 116 a6.toNatClampNeg) : Int32) then (I 116 a6.toNatClampNeg) else a5)] K I L (z_q0 K Q) := by
            refine z_istore [1, 2, 3, 4, 0, 5] [(0, .ref (n0 + 59)), (2, .int (if ((I 115 a6.toNatClampNeg) : Int32) < a2 then (I 115 a6.toNatClampNeg) else a2)), (3, .int (if ((I 116 a6.toNatClampNeg) : Int32) < a3 then (I 116 a6.toNatClampNeg) else a3)), (4, .int (if a4 < ((I 115 a6.toNatClampNeg) : Int32) then (I 115 a6.toNatClampNeg) else a4)), (5, .int (if a5 < ((I 116 a6.toNatClampNeg) : Int32) then (I 116 a6.toNatClampNeg) else a5)), (6, .int a6)] dX13_findCells_262 (by decide) rfl ?_
            refine z_iinc (j := 5) (a6 + 1) [1, 2, 3, 4, 5, 0] [(0, .ref (n0 + 59)), (2, .int (if ((I 115 a6.toNatClampNeg) : Int32) < a2 then (I 115 a6.toNatClampNeg) else a2)), (3, .int (if ((I 116 a6.toNatClampNeg) : Int32) < a3 then (I 116 a6.toNatClampNeg) else a3)), (4, .int (if a4 < ((I 115 a6.toNatClampNeg) : Int32) then (I 115 a6.toNatClampNeg) else a4)), (5, .int (if a5 < ((I 116 a6.toNatClampNeg) : Int32) then (I 116 a6.toNatClampNeg) else a5)), (6, .int (a6 + 1))] dX13_findCells_264 rfl rfl (by decide) rfl ?_
            refine z_goto 157 dX13_findCells_267 (by decide) ?_
            exact h
          refine z_icmp_le 260 dX13_findCells_247 (by decide) (fun g11 => ?_) (fun g11 => ?_)
          · refine z_iload 4 dX13_findCells_260 rfl ?_
            have ee : ((if a5 < ((I 116 a6.toNatClampNeg) : Int32) then (I 116 a6.toNatClampNeg) else a5) : Int32) = a5 := by rw [if_neg g11]
            rw [ee] at key12
            clear ee
            refine z_sub [0, 1, 2, 3, 5] rfl ?_
            exact key12
          · refine z_aload_n 0 dX13_findCells_250 rfl ?_
            refine fg_13_180 (some 116) rfl dX13_findCells_251 hL.1 hL.2.1 (ma_87 hL).1 ?_
            refine z_iload 5 dX13_findCells_254 rfl ?_
            refine z_iald (I 116 a6.toNatClampNeg) dX13_findCells_256 (ma_87 hL).2.1 (ma_87 hL).2.2 o4 rfl ?_
            refine z_goto 262 dX13_findCells_257 (by decide) ?_
            have ee : ((if a5 < ((I 116 a6.toNatClampNeg) : Int32) then (I 116 a6.toNatClampNeg) else a5) : Int32) = (I 116 a6.toNatClampNeg) := by rw [if_pos g11]
            rw [ee] at key12
            clear ee
            refine z_sub [0, 1, 2, 3, 5] rfl ?_
            exact key12
        refine z_icmp_le 234 dX13_findCells_221 (by decide) (fun g9 => ?_) (fun g9 => ?_)
        · refine z_iload 3 dX13_findCells_234 rfl ?_
          have ee : ((if a4 < ((I 115 a6.toNatClampNeg) : Int32) then (I 115 a6.toNatClampNeg) else a4) : Int32) = a4 := by rw [if_neg g9]
          rw [ee] at key10
          clear ee
          refine z_sub [0, 1, 2, 4, 5] rfl ?_
          exact key10
        · refine z_aload_n 0 dX13_findCells_224 rfl ?_
          refine fg_13_177 (some 115) rfl dX13_findCells_225 hL.1 hL.2.1 (ma_86 hL).1 ?_
          refine z_iload 5 dX13_findCells_228 rfl ?_
          refine z_iald (I 115 a6.toNatClampNeg) dX13_findCells_230 (ma_86 hL).2.1 (ma_86 hL).2.2 o4 rfl ?_
          refine z_goto 236 dX13_findCells_231 (by decide) ?_
          have ee : ((if a4 < ((I 115 a6.toNatClampNeg) : Int32) then (I 115 a6.toNatClampNeg) else a4) : Int32) = (I 115 a6.toNatClampNeg) := by rw [if_pos g9]
          rw [ee] at key10
          clear ee
          refine z_sub [0, 1, 2, 4, 5] rfl ?_
          exact key10
      refine z_icmp_ge 210 dX13_findCells_197 (by decide) (fun g7 => ?_) (fun g7 => ?_)
      · refine z_iload_n 2 dX13_findCells_210 rfl ?_
        have ee : ((if ((I 116 a6.toNatClampNeg) : Int32) < a3 then (I 116 a6.toNatClampNeg) else a3) : Int32) = a3 := by rw [if_neg g7]
        rw [ee] at key8
        clear ee
        refine z_sub [0, 1, 3, 4, 5] rfl ?_
        exact key8
      · refine z_aload_n 0 dX13_findCells_200 rfl ?_
        refine fg_13_180 (some 116) rfl dX13_findCells_201 hL.1 hL.2.1 (ma_87 hL).1 ?_
        refine z_iload 5 dX13_findCells_204 rfl ?_
        refine z_iald (I 116 a6.toNatClampNeg) dX13_findCells_206 (ma_87 hL).2.1 (ma_87 hL).2.2 o4 rfl ?_
        refine z_goto 211 dX13_findCells_207 (by decide) ?_
        have ee : ((if ((I 116 a6.toNatClampNeg) : Int32) < a3 then (I 116 a6.toNatClampNeg) else a3) : Int32) = (I 116 a6.toNatClampNeg) := by rw [if_pos g7]
        rw [ee] at key8
        clear ee
        refine z_sub [0, 1, 3, 4, 5] rfl ?_
        exact key8
    refine z_icmp_ge 187 dX13_findCells_174 (by decide) (fun g5 => ?_) (fun g5 => ?_)
    · refine z_iload_n 1 dX13_findCells_187 rfl ?_
      have ee : ((if ((I 115 a6.toNatClampNeg) : Int32) < a2 then (I 115 a6.toNatClampNeg) else a2) : Int32) = a2 := by rw [if_neg g5]
      rw [ee] at key6
      clear ee
      refine z_sub [0, 2, 3, 4, 5] rfl ?_
      exact key6
    · refine z_aload_n 0 dX13_findCells_177 rfl ?_
      refine fg_13_177 (some 115) rfl dX13_findCells_178 hL.1 hL.2.1 (ma_86 hL).1 ?_
      refine z_iload 5 dX13_findCells_181 rfl ?_
      refine z_iald (I 115 a6.toNatClampNeg) dX13_findCells_183 (ma_86 hL).2.1 (ma_86 hL).2.2 o4 rfl ?_
      refine z_goto 188 dX13_findCells_184 (by decide) ?_
      have ee : ((if ((I 115 a6.toNatClampNeg) : Int32) < a2 then (I 115 a6.toNatClampNeg) else a2) : Int32) = (I 115 a6.toNatClampNeg) := by rw [if_pos g5]
      rw [ee] at key6
      clear ee
      refine z_sub [0, 2, 3, 4, 5] rfl ?_
      exact key6
set_option maxRecDepth 100000 in
set_option maxHeartbeats 4000000 in
theorem wp_X13_findCells_307 {n0 d : Nat} {rc rs : Nat} {K : z_K} {I : z_I} {L : z_L} {Q : z_q} {a2 : Int32} {a3 : Int32} {a6 : Int32} {a7 : Int32} (hL : MLay K) (h : (if a7 < (I 59 88) then vp_in a7 162 ∧ Z n0 xX13_findCells (d + 1) rc rs 307 [(0, .ref (n0 + 59)), (2, .int a2), (3, .int a3), (6, .int a6), (7, .int (a7 + 1))] [] K (zI (zI I 115 a7.toNatClampNeg (2 * ((I 115 a7.toNatClampNeg) - a2))) 116 a7.toNatClampNeg (2 * ((I 116 a7.toNatClampNeg) - a3))) L (z_q0 K Q) else Z n0 xX13_findCells (d + 1) rc rs 382 [(0, .ref (n0 + 59)), (6, .int a6), (7, .int 0), (8, .int 24), (9, .int 24), (10, .int 0)] [] K (zI (zI I 59 84 0) 59 85 0) L (z_q0 K Q))) : Z n0 xX13_findCells (d + 1) rc rs 307 [(0, .ref (n0 + 59)), (2, .int a2), (3, .int a3), (6, .int a6), (7, .int a7)] [] K I L (z_q0 K Q) := by
  refine z_iload 4 dX13_findCells_307 rfl ?_
  refine z_aload_n 0 dX13_findCells_309 rfl ?_
  refine fg_13_553 (I 59 88) rfl dX13_findCells_310 hL.1 hL.2.1 rfl ?_
  refine z_icmp_ge 358 dX13_findCells_313 (by decide) (fun g1 => ?_) (fun g1 => ?_)
  · rw [if_neg g1] at h
    refine z_iconst 0 dX13_findCells_358 (by decide) ?_
    refine z_istore [1, 2, 3, 4, 0] [(0, .ref (n0 + 59)), (2, .int a2), (3, .int a3), (6, .int a6), (7, .int 0)] dX13_findCells_359 (by decide) rfl ?_
    refine z_bipush 24 dX13_findCells_361 (by decide) ?_
    refine z_istore [1, 2, 3, 4, 5, 0] [(0, .ref (n0 + 59)), (2, .int a2), (3, .int a3), (6, .int a6), (7, .int 0), (8, .int 24)] dX13_findCells_363 (by decide) rfl ?_
    refine z_bipush 24 dX13_findCells_365 (by decide) ?_
    refine z_istore [1, 2, 3, 4, 5, 6, 0] [(0, .ref (n0 + 59)), (2, .int a2), (3, .int a3), (6, .int a6), (7, .int 0), (8, .int 24), (9, .int 24)] dX13_findCells_367 (by decide) rfl ?_
    refine z_aload_n 0 dX13_findCells_369 rfl ?_
    refine z_iconst 0 dX13_findCells_370 (by decide) ?_
    refine fp_13_560 rfl dX13_findCells_371 hL.1 hL.2.1 ?_
    refine z_aload_n 0 dX13_findCells_374 rfl ?_
    refine z_iconst 0 dX13_findCells_375 (by decide) ?_
    refine fp_13_563 rfl dX13_findCells_376 hL.1 hL.2.1 ?_
    refine z_iconst 0 dX13_findCells_379 (by decide) ?_
    refine z_istore [1, 2, 3, 4, 5, 6, 7, 0] [(0, .ref (n0 + 59)), (2, .int a2), (3, .int a3), (6, .int a6), (7, .int 0), (8, .int 24), (9, .int 24), (10, .int 0)] dX13_findCells_380 (by decide) rfl ?_
    refine z_sub [0, 3, 4, 5, 6, 7] rfl ?_
    exact h
  · rw [if_pos g1] at h
    refine z_aload_n 0 dX13_findCells_316 rfl ?_
    refine fg_13_177 (some 115) rfl dX13_findCells_317 hL.1 hL.2.1 (ma_86 hL).1 ?_
    refine z_iload 4 dX13_findCells_320 rfl ?_
    refine z_iconst 2 dX13_findCells_322 (by decide) ?_
    refine z_aload_n 0 dX13_findCells_323 rfl ?_
    refine fg_13_177 (some 115) rfl dX13_findCells_324 hL.1 hL.2.1 (ma_86 hL).1 ?_
    refine z_iload 4 dX13_findCells_327 rfl ?_
    obtain ⟨o2, h⟩ := h
    refine z_iald (I 115 a7.toNatClampNeg) dX13_findCells_329 (ma_86 hL).2.1 (ma_86 hL).2.2 o2 rfl ?_
    refine z_iload_n 1 dX13_findCells_330 rfl ?_
    refine z_isub dX13_findCells_331 ?_
    refine z_imul dX13_findCells_332 ?_
    refine z_iast dX13_findCells_333 (ma_86 hL).2.1 (ma_86 hL).2.2 o2 ?_
    refine z_aload_n 0 dX13_findCells_334 rfl ?_
    refine fg_13_180 (some 116) rfl dX13_findCells_335 hL.1 hL.2.1 (ma_87 hL).1 ?_
    refine z_iload 4 dX13_findCells_338 rfl ?_
    refine z_iconst 2 dX13_findCells_340 (by decide) ?_
    refine z_aload_n 0 dX13_findCells_341 rfl ?_
    refine fg_13_180 (some 116) rfl dX13_findCells_342 hL.1 hL.2.1 (ma_87 hL).1 ?_
    refine z_iload 4 dX13_findCells_345 rfl ?_
    refine z_iald (I 116 a7.toNatClampNeg) dX13_findCells_347 (ma_87 hL).2.1 (ma_87 hL).2.2 o2 rfl ?_
    refine z_iload_n 2 dX13_findCells_348 rfl ?_
    refine z_isub dX13_findCells_349 ?_
    refine z_imul dX13_findCells_350 ?_
    refine z_iast dX13_findCells_351 (ma_87 hL).2.1 (ma_87 hL).2.2 o2 ?_
    refine z_iinc (j := 4) (a7 + 1) [1, 2, 3, 4, 0] [(0, .ref (n0 + 59)), (2, .int a2), (3, .int a3), (6, .int a6), (7, .int (a7 + 1))] dX13_findCells_352 rfl rfl (by decide) rfl ?_
    refine z_goto 307 dX13_findCells_355 (by decide) ?_
    exact h
set_option maxRecDepth 100000 in
set_option maxHeartbeats 4000000 in
theorem wp_X13_findCells_382 {n0 d : Nat} {rc rs : Nat} {K : z_K} {I : z_I} {L : z_L} {Q : z_q} {a6 : Int32} {a7 : Int32} {a8 : Int32} {a9 : Int32} {a10 : Int32} (hL : MLay K) (h : (if a10 < 24 then vp_in a10 24 ∧ Z n0 xX13_findCells (d + 1) rc rs 400 [(0, .ref (n0 + 59)), (6, .int a6), (7, .int a7), (8, .int a8), (9, .int a9), (10, .int a10), (11, .int 0)] [] K (zI I 114 a10.toNatClampNeg 0) L (z_q0 K Q) else (if 0 < a7 then Z n0 xX13_findCells (d + 1) rc rs 531 [(0, .ref (n0 + 59)), (7, .int a7), (8, .int a8), (9, .int a9), (10, .int 0)] [] K I L (z_q0 K Q) else Q (some (.int a7)) I L))) : Z n0 xX13_findCells (d + 1) rc rs 382 [(0, .ref (n0 + 59)), (6, .int a6), (7, .int a7), (8, .int a8), (9, .int a9), (10, .int a10)] [] K I L (z_q0 K Q) := by
  refine z_iload 5 dX13_findCells_382 rfl ?_
  refine z_bipush 24 dX13_findCells_384 (by decide) ?_
  refine z_icmp_ge 523 dX13_findCells_386 (by decide) (fun g1 => ?_) (fun g1 => ?_)
  · rw [if_neg g1] at h
    refine z_iload 2 dX13_findCells_523 rfl ?_
    refine z_if_le 604 dX13_findCells_525 (by decide) (fun g2 => ?_) (fun g2 => ?_)
    · rw [if_neg g2] at h
      refine z_iload 2 dX13_findCells_604 rfl ?_
      exact z_iret dX13_findCells_606 rfl ⟨rfl, h⟩
    · rw [if_pos g2] at h
      refine z_iconst 0 dX13_findCells_528 (by decide) ?_
      refine z_istore [1, 2, 3, 4, 5, 0] [(0, .ref (n0 + 59)), (6, .int a6), (7, .int a7), (8, .int a8), (9, .int a9), (10, .int 0)] dX13_findCells_529 (by decide) rfl ?_
      refine z_sub [0, 2, 3, 4, 5] rfl ?_
      exact h
  · rw [if_pos g1] at h
    refine z_aload_n 0 dX13_findCells_389 rfl ?_
    refine fg_13_174 (some 114) rfl dX13_findCells_390 hL.1 hL.2.1 (ma_83 hL).1 ?_
    refine z_iload 5 dX13_findCells_393 rfl ?_
    refine z_iconst 0 dX13_findCells_395 (by decide) ?_
    obtain ⟨o3, h⟩ := h
    refine z_iast dX13_findCells_396 (ma_83 hL).2.1 (ma_83 hL).2.2 o3 ?_
    refine z_iconst 0 dX13_findCells_397 (by decide) ?_
    refine z_istore [1, 2, 3, 4, 5, 6, 0] [(0, .ref (n0 + 59)), (6, .int a6), (7, .int a7), (8, .int a8), (9, .int a9), (10, .int a10), (11, .int 0)] dX13_findCells_398 (by decide) rfl ?_
    exact h
set_option maxRecDepth 100000 in
set_option maxHeartbeats 4000000 in
theorem wp_X13_findCells_400 {n0 d : Nat} {rc rs : Nat} {K : z_K} {I : z_I} {L : z_L} {Q : z_q} {a6 : Int32} {a7 : Int32} {a8 : Int32} {a9 : Int32} {a10 : Int32} {a11 : Int32} (hL : MLay K) (h : (if a11 < 24 then RM0 n0 xX13_isInside d [.ref (n0 + 59), .long (((((2 * a10) + 1) * a6) : Int32).toInt64), .long (((((2 * a11) + 1) * a6) : Int32).toInt64)] K I L (fun vv I2 L3 => ∃ r4 : Int32, vv = some (.int r4) ∧ (if r4 = 0 then Z n0 xX13_findCells (d + 1) rc rs 400 [(0, .ref (n0 + 59)), (6, .int a6), (7, .int a7), (8, .int a8), (9, .int a9), (10, .int a10), (11, .int (a11 + 1))] [] K I2 L3 (z_q0 K Q) else vp_in a10 24 ∧ Z n0 xX13_findCells (d + 1) rc rs 400 [(0, .ref (n0 + 59)), (6, .int a6), (7, .int (a7 + 1)), (8, .int (if a10 < a8 then a10 else a8)), (9, .int (if a11 < a9 then a11 else a9)), (10, .int a10), (11, .int (a11 + 1))] [] K (zI (zI (zI I2 114 a10.toNatClampNeg ((I2 114 a10.toNatClampNeg) ||| ((1 : Int32) <<< (a11 &&& 31 : Int32)))) 59 84 a10) 59 85 (if (I2 59 85) < a11 then a11 else (I2 59 85))) L3 (z_q0 K Q))) else Z n0 xX13_findCells (d + 1) rc rs 382 [(0, .ref (n0 + 59)), (6, .int a6), (7, .int a7), (8, .int a8), (9, .int a9), (10, .int (a10 + 1))] [] K I L (z_q0 K Q))) : Z n0 xX13_findCells (d + 1) rc rs 400 [(0, .ref (n0 + 59)), (6, .int a6), (7, .int a7), (8, .int a8), (9, .int a9), (10, .int a10), (11, .int a11)] [] K I L (z_q0 K Q) := by
  refine z_iload 6 dX13_findCells_400 rfl ?_
  refine z_bipush 24 dX13_findCells_402 (by decide) ?_
  refine z_icmp_ge 517 dX13_findCells_404 (by decide) (fun g1 => ?_) (fun g1 => ?_)
  · rw [if_neg g1] at h
    refine z_iinc (j := 5) (a10 + 1) [1, 2, 3, 4, 5, 0, 6] [(0, .ref (n0 + 59)), (6, .int a6), (7, .int a7), (8, .int a8), (9, .int a9), (10, .int (a10 + 1)), (11, .int a11)] dX13_findCells_517 rfl rfl (by decide) rfl ?_
    refine z_goto 382 dX13_findCells_520 (by decide) ?_
    refine z_sub [0, 1, 2, 3, 4, 5] rfl ?_
    exact h
  · rw [if_pos g1] at h
    refine z_aload_n 0 dX13_findCells_407 rfl ?_
    refine z_iconst 2 dX13_findCells_408 (by decide) ?_
    refine z_iload 5 dX13_findCells_409 rfl ?_
    refine z_imul dX13_findCells_411 ?_
    refine z_iconst 1 dX13_findCells_412 (by decide) ?_
    refine z_iadd dX13_findCells_413 ?_
    refine z_iload 1 dX13_findCells_414 rfl ?_
    refine z_imul dX13_findCells_416 ?_
    refine z_i2l dX13_findCells_417 ?_
    refine z_iconst 2 dX13_findCells_418 (by decide) ?_
    refine z_iload 6 dX13_findCells_419 rfl ?_
    refine z_imul dX13_findCells_421 ?_
    refine z_iconst 1 dX13_findCells_422 (by decide) ?_
    refine z_iadd dX13_findCells_423 ?_
    refine z_iload 1 dX13_findCells_424 rfl ?_
    refine z_imul dX13_findCells_426 ?_
    refine z_i2l dX13_findCells_427 ?_
    refine z_callV0 (As := [.long (((((2 * a10) + 1) * a6) : Int32).toInt64), .long (((((2 * a11) + 1) * a6) : Int32).toInt64)]) (st := []) dX13_findCells_428 hy_X13_isInside hL.1 hL.2.1 (by decide) wg_2091 wg_2093 wg_90 (Nat.le_refl _) (Nat.le_of_ble_eq_true rfl) (RM0.mono h (fun vv I2 L3 h => ?_))
    obtain ⟨r4, rfl, h⟩ := h
    change Z n0 xX13_findCells (d + 1) rc rs 431 [(0, .ref (n0 + 59)), (6, .int a6), (7, .int a7), (8, .int a8), (9, .int a9), (10, .int a10), (11, .int a11)] [.int r4] K I2 L3 (z_q0 K Q)
    refine z_if_eq 511 dX13_findCells_431 (by decide) (fun g5 => ?_) (fun g5 => ?_)
    · rw [if_pos g5] at h
      refine z_iinc (j := 6) (a11 + 1) [1, 2, 3, 4, 5, 6, 0] [(0, .ref (n0 + 59)), (6, .int a6), (7, .int a7), (8, .int a8), (9, .int a9), (10, .int a10), (11, .int (a11 + 1))] dX13_findCells_511 rfl rfl (by decide) rfl ?_
      refine z_goto 400 dX13_findCells_514 (by decide) ?_
      exact h
    · rw [if_neg g5] at h
      refine z_aload_n 0 dX13_findCells_434 rfl ?_
      refine fg_13_174 (some 114) rfl dX13_findCells_435 hL.1 hL.2.1 (ma_83 hL).1 ?_
      refine z_iload 5 dX13_findCells_438 rfl ?_
      refine z_dup2 dX13_findCells_440 rfl rfl ?_
      obtain ⟨o6, h⟩ := h
      refine z_iald (I2 114 a10.toNatClampNeg) dX13_findCells_441 (ma_83 hL).2.1 (ma_83 hL).2.2 o6 rfl ?_
      refine z_iconst 1 dX13_findCells_442 (by decide) ?_
      refine z_iload 6 dX13_findCells_443 rfl ?_
      refine z_ishl dX13_findCells_445 ?_
      refine z_ior dX13_findCells_446 ?_
      refine z_iast dX13_findCells_447 (ma_83 hL).2.1 (ma_83 hL).2.2 o6 ?_
      refine z_iinc (j := 2) (a7 + 1) [1, 2, 0, 3, 4, 5, 6] [(0, .ref (n0 + 59)), (6, .int a6), (7, .int (a7 + 1)), (8, .int a8), (9, .int a9), (10, .int a10), (11, .int a11)] dX13_findCells_448 rfl rfl (by decide) rfl ?_
      refine z_iload 5 dX13_findCells_451 rfl ?_
      refine z_iload 3 dX13_findCells_453 rfl ?_
      have key8 : Z n0 xX13_findCells (d + 1) rc rs 465 [(0, .ref (n0 + 59)), (6, .int a6), (7, .int (a7 + 1)), (9, .int a9), (10, .int a10), (11, .int a11)] [.int (if a10 < a8 then a10 else a8)] K (zI I2 114 a10.toNatClampNeg ((I2 114 a10.toNatClampNeg) ||| ((1 : Int32) <<< (a11 &&& 31 : Int32)))) L3 (z_q0 K Q) := by
        refine z_istore [1, 2, 3, 0, 4, 5, 6] [(0, .ref (n0 + 59)), (6, .int a6), (7, .int (a7 + 1)), (8, .int (if a10 < a8 then a10 else a8)), (9, .int a9), (10, .int a10), (11, .int a11)] dX13_findCells_465 (by decide) rfl ?_
        refine z_iload 6 dX13_findCells_467 rfl ?_
        refine z_iload 4 dX13_findCells_469 rfl ?_
        have key10 : Z n0 xX13_findCells (d + 1) rc rs 481 [(0, .ref (n0 + 59)), (6, .int a6), (7, .int (a7 + 1)), (8, .int (if a10 < a8 then a10 else a8)), (10, .int a10), (11, .int a11)] [.int (if a11 < a9 then a11 else a9)] K (zI I2 114 a10.toNatClampNeg ((I2 114 a10.toNatClampNeg) ||| ((1 : Int32) <<< (a11 &&& 31 : Int32)))) L3 (z_q0 K Q) := by
          refine z_istore [1, 2, 3, 4, 0, 5, 6] [(0, .ref (n0 + 59)), (6, .int a6), (7, .int (a7 + 1)), (8, .int (if a10 < a8 then a10 else a8)), (9, .int (if a11 < a9 then a11 else a9)), (10, .int a10), (11, .int a11)] dX13_findCells_481 (by decide) rfl ?_
          refine z_aload_n 0 dX13_findCells_483 rfl ?_
          refine z_iload 5 dX13_findCells_484 rfl ?_
          refine fp_13_560 rfl dX13_findCells_486 hL.1 hL.2.1 ?_
          refine z_aload_n 0 dX13_findCells_489 rfl ?_
          refine z_iload 6 dX13_findCells_490 rfl ?_
          refine z_aload_n 0 dX13_findCells_492 rfl ?_
          refine fg_13_563 (I2 59 85) rfl dX13_findCells_493 hL.1 hL.2.1 rfl ?_
          have key12 : Z n0 xX13_findCells (d + 1) rc rs 508 [(0, .ref (n0 + 59)), (6, .int a6), (7, .int (a7 + 1)), (8, .int (if a10 < a8 then a10 else a8)), (9, .int (if a11 < a9 then a11 else a9)), (10, .int a10), (11, .int a11)] [.int (if (I2 59 85) < a11 then a11 else (I2 59 85)), .ref (n0 + 59)] K (zI (zI I2 114 a10.toNatClampNeg ((I2 114 a10.toNatClampNeg) ||| ((1 : Int32) <<< (a11 &&& 31 : Int32)))) 59 84 a10) L3 (z_q0 K Q) := by
            refine fp_13_563 rfl dX13_findCells_508 hL.1 hL.2.1 ?_
            refine z_iinc (j := 6) (a11 + 1) [1, 2, 3, 4, 5, 6, 0] [(0, .ref (n0 + 59)), (6, .int a6), (7, .int (a7 + 1)), (8, .int (if a10 < a8 then a10 else a8)), (9, .int (if a11 < a9 then a11 else a9)), (10, .int a10), (11, .int (a11 + 1))] dX13_findCells_511 rfl rfl (by decide) rfl ?_
            refine z_goto 400 dX13_findCells_514 (by decide) ?_
            exact h
          refine z_icmp_le 504 dX13_findCells_496 (by decide) (fun g11 => ?_) (fun g11 => ?_)
          · refine z_aload_n 0 dX13_findCells_504 rfl ?_
            refine fg_13_563 (I2 59 85) rfl dX13_findCells_505 hL.1 hL.2.1 rfl ?_
            have ee : ((if (I2 59 85) < a11 then a11 else (I2 59 85)) : Int32) = (I2 59 85) := by rw [if_neg g11]
            rw [ee] at key12
            clear ee
            exact key12
          · refine z_iload 6 dX13_findCells_499 rfl ?_
            refine z_goto 508 dX13_findCells_501 (by decide) ?_
            have ee : ((if (I2 59 85) < a11 then a11 else (I2 59 85)) : Int32) = a11 := by rw [if_pos g11]
            rw [ee] at key12
            clear ee
            exact key12
        refine z_icmp_ge 479 dX13_findCells_471 (by decide) (fun g9 => ?_) (fun g9 => ?_)
        · refine z_iload 4 dX13_findCells_479 rfl ?_
          have ee : ((if a11 < a9 then a11 else a9) : Int32) = a9 := by rw [if_neg g9]
          rw [ee] at key10
          clear ee
          refine z_sub [0, 1, 2, 3, 5, 6] rfl ?_
          exact key10
        · refine z_iload 6 dX13_findCells_474 rfl ?_
          refine z_goto 481 dX13_findCells_476 (by decide) ?_
          have ee : ((if a11 < a9 then a11 else a9) : Int32) = a11 := by rw [if_pos g9]
          rw [ee] at key10
          clear ee
          refine z_sub [0, 1, 2, 3, 5, 6] rfl ?_
          exact key10
      refine z_icmp_ge 463 dX13_findCells_455 (by decide) (fun g7 => ?_) (fun g7 => ?_)
      · refine z_iload 3 dX13_findCells_463 rfl ?_
        have ee : ((if a10 < a8 then a10 else a8) : Int32) = a8 := by rw [if_neg g7]
        rw [ee] at key8
        clear ee
        refine z_sub [0, 1, 2, 4, 5, 6] rfl ?_
        exact key8
      · refine z_iload 5 dX13_findCells_458 rfl ?_
        refine z_goto 465 dX13_findCells_460 (by decide) ?_
        have ee : ((if a10 < a8 then a10 else a8) : Int32) = a10 := by rw [if_pos g7]
        rw [ee] at key8
        clear ee
        refine z_sub [0, 1, 2, 4, 5, 6] rfl ?_
        exact key8
set_option maxRecDepth 100000 in
set_option maxHeartbeats 4000000 in
theorem wp_X13_findCells_531 {n0 d : Nat} {rc rs : Nat} {K : z_K} {I : z_I} {L : z_L} {Q : z_q} {a7 : Int32} {a8 : Int32} {a9 : Int32} {a10 : Int32} (hL : MLay K) (h : (if a10 < 24 then (((a10 + a8) : Int32) < 24 → vp_in (a10 + a8) 24) ∧ vp_in a10 24 ∧ Z n0 xX13_findCells (d + 1) rc rs 531 [(0, .ref (n0 + 59)), (7, .int a7), (8, .int a8), (9, .int a9), (10, .int (a10 + 1))] [] K (zI I 114 a10.toNatClampNeg (if ((a10 + a8) : Int32) < 24 then (((I 114 ((a10 + a8).toNatClampNeg)) : Int32) >>> (a9 &&& 31 : Int32)) else 0)) L (z_q0 K Q) else Q (some (.int a7)) (zI (zI I 59 84 ((I 59 84) + (1 - a8))) 59 85 ((I 59 85) + (1 - a9))) L)) : Z n0 xX13_findCells (d + 1) rc rs 531 [(0, .ref (n0 + 59)), (7, .int a7), (8, .int a8), (9, .int a9), (10, .int a10)] [] K I L (z_q0 K Q) := by
  refine z_iload 4 dX13_findCells_531 rfl ?_
  refine z_bipush 24 dX13_findCells_533 (by decide) ?_
  refine z_icmp_ge 578 dX13_findCells_535 (by decide) (fun g1 => ?_) (fun g1 => ?_)
  · rw [if_neg g1] at h
    refine z_aload_n 0 dX13_findCells_578 rfl ?_
    refine z_dup dX13_findCells_579 rfl ?_
    refine fg_13_560 (I 59 84) rfl dX13_findCells_580 hL.1 hL.2.1 rfl ?_
    refine z_iconst 1 dX13_findCells_583 (by decide) ?_
    refine z_iload 2 dX13_findCells_584 rfl ?_
    refine z_isub dX13_findCells_586 ?_
    refine z_iadd dX13_findCells_587 ?_
    refine fp_13_560 rfl dX13_findCells_588 hL.1 hL.2.1 ?_
    refine z_aload_n 0 dX13_findCells_591 rfl ?_
    refine z_dup dX13_findCells_592 rfl ?_
    refine fg_13_563 (I 59 85) rfl dX13_findCells_593 hL.1 hL.2.1 rfl ?_
    refine z_iconst 1 dX13_findCells_596 (by decide) ?_
    refine z_iload 3 dX13_findCells_597 rfl ?_
    refine z_isub dX13_findCells_599 ?_
    refine z_iadd dX13_findCells_600 ?_
    refine fp_13_563 rfl dX13_findCells_601 hL.1 hL.2.1 ?_
    refine z_iload 1 dX13_findCells_604 rfl ?_
    exact z_iret dX13_findCells_606 rfl ⟨rfl, h⟩
  · rw [if_pos g1] at h
    refine z_aload_n 0 dX13_findCells_538 rfl ?_
    refine fg_13_174 (some 114) rfl dX13_findCells_539 hL.1 hL.2.1 (ma_83 hL).1 ?_
    refine z_iload 4 dX13_findCells_542 rfl ?_
    refine z_iload 4 dX13_findCells_544 rfl ?_
    refine z_iload 2 dX13_findCells_546 rfl ?_
    refine z_iadd dX13_findCells_548 ?_
    refine z_bipush 24 dX13_findCells_549 (by decide) ?_
    obtain ⟨o3, h⟩ := h
    have key4 : Z n0 xX13_findCells (d + 1) rc rs 571 [(0, .ref (n0 + 59)), (7, .int a7), (8, .int a8), (9, .int a9), (10, .int a10)] [.int (if ((a10 + a8) : Int32) < 24 then (((I 114 ((a10 + a8).toNatClampNeg)) : Int32) >>> (a9 &&& 31 : Int32)) else 0), .int a10, .ref (n0 + 114)] K I L (z_q0 K Q) := by
      obtain ⟨o5, h⟩ := h
      refine z_iast dX13_findCells_571 (ma_83 hL).2.1 (ma_83 hL).2.2 o5 ?_
      refine z_iinc (j := 4) (a10 + 1) [1, 2, 3, 4, 0] [(0, .ref (n0 + 59)), (7, .int a7), (8, .int a8), (9, .int a9), (10, .int (a10 + 1))] dX13_findCells_572 rfl rfl (by decide) rfl ?_
      refine z_goto 531 dX13_findCells_575 (by decide) ?_
      exact h
    refine z_icmp_ge 570 dX13_findCells_551 (by decide) (fun g2 => ?_) (fun g2 => ?_)
    · refine z_iconst 0 dX13_findCells_570 (by decide) ?_
      have ee : ((if ((a10 + a8) : Int32) < 24 then (((I 114 ((a10 + a8).toNatClampNeg)) : Int32) >>> (a9 &&& 31 : Int32)) else 0) : Int32) = 0 := by rw [if_neg g2]
      rw [ee] at key4
      clear ee
      exact key4
    · refine z_aload_n 0 dX13_findCells_554 rfl ?_
      refine fg_13_174 (some 114) rfl dX13_findCells_555 hL.1 hL.2.1 (ma_83 hL).1 ?_
      refine z_iload 4 dX13_findCells_558 rfl ?_
      refine z_iload 2 dX13_findCells_560 rfl ?_
      refine z_iadd dX13_findCells_562 ?_
      refine z_iald (I 114 ((a10 + a8).toNatClampNeg)) dX13_findCells_563 (ma_83 hL).2.1 (ma_83 hL).2.2 (o3 g2) rfl ?_
      refine z_iload 3 dX13_findCells_564 rfl ?_
      refine z_ishr dX13_findCells_566 ?_
      refine z_goto 571 dX13_findCells_567 (by decide) ?_
      have ee : ((if ((a10 + a8) : Int32) < 24 then (((I 114 ((a10 + a8).toNatClampNeg)) : Int32) >>> (a9 &&& 31 : Int32)) else 0) : Int32) = (((I 114 ((a10 + a8).toNatClampNeg)) : Int32) >>> (a9 &&& 31 : Int32)) := by rw [if_pos g2]
      rw [ee] at key4
      clear ee
      exact key4
theorem dX13_cells_0 : decode cX13_cells 0 = .ok (.aload_n 0, 1) := by decide +kernel
theorem dX13_cells_1 : decode cX13_cells 1 = .ok (.iload_n 1, 1) := by decide +kernel
theorem dX13_cells_2 : decode cX13_cells 2 = .ok (.iload_n 2, 1) := by decide +kernel
theorem dX13_cells_3 : decode cX13_cells 3 = .ok (.iload_n 3, 1) := by decide +kernel
theorem dX13_cells_4 : decode cX13_cells 4 = .ok (.invokevirtual 495, 3) := by decide +kernel
theorem dX13_cells_7 : decode cX13_cells 7 = .ok (.istore 4, 2) := by decide +kernel
theorem dX13_cells_9 : decode cX13_cells 9 = .ok (.iload 4, 2) := by decide +kernel
theorem dX13_cells_11 : decode cX13_cells 11 = .ok (.ifCond .ge 12, 3) := by decide +kernel
theorem dX13_cells_14 : decode cX13_cells 14 = .ok (.aload_n 0, 1) := by decide +kernel
theorem dX13_cells_15 : decode cX13_cells 15 = .ok (.iload 4, 2) := by decide +kernel
theorem dX13_cells_17 : decode cX13_cells 17 = .ok (.invokevirtual 308, 3) := by decide +kernel
theorem dX13_cells_20 : decode cX13_cells 20 = .ok (.goto 8, 3) := by decide +kernel
theorem dX13_cells_23 : decode cX13_cells 23 = .ok (.aload_n 0, 1) := by decide +kernel
theorem dX13_cells_24 : decode cX13_cells 24 = .ok (.iload_n 1, 1) := by decide +kernel
theorem dX13_cells_25 : decode cX13_cells 25 = .ok (.invokevirtual 570, 3) := by decide +kernel
theorem dX13_cells_28 : decode cX13_cells 28 = .ok (.ireturn, 1) := by decide +kernel
set_option maxRecDepth 100000 in
set_option maxHeartbeats 4000000 in
theorem wp_X13_cells {n0 d : Nat} {K : z_K} {I : z_I} {L : z_L} {Q : z_q} {p0 : Int32} {p1 : Int32} {p2 : Int32} (hL : MLay K) (h : RM0 n0 xX13_wrongDrawn d [.ref (n0 + 59), .int p0, .int p1, .int p2] K I L (fun vv I1 L2 => ∃ r3 : Int32, vv = some (.int r3) ∧ (if r3 < 0 then RM0 n0 xX13_refuse d [.ref (n0 + 59), .int r3] K I1 L2 (fun vv I8 L9 => ∃ r10 : Int32, vv = some (.int r10) ∧ Q (some (.int r10)) I8 L9) else RM0 n0 xX13_findCells d [.ref (n0 + 59), .int p0] K I1 L2 (fun vv I5 L6 => ∃ r7 : Int32, vv = some (.int r7) ∧ Q (some (.int r7)) I5 L6)))) : RM0 n0 xX13_cells (d + 1) [.ref (n0 + 59), .int p0, .int p1, .int p2] K I L Q := by
  refine z_entry0 (by decide) (Nat.le_of_ble_eq_true rfl) ?_
  change Z n0 xX13_cells (d + 1) 0 0 0 [(0, .ref (n0 + 59)), (1, .int p0), (2, .int p1), (3, .int p2)] [] K I L (z_q0 K Q)
  refine z_aload_n 0 dX13_cells_0 rfl ?_
  refine z_iload_n 1 dX13_cells_1 rfl ?_
  refine z_iload_n 2 dX13_cells_2 rfl ?_
  refine z_iload_n 3 dX13_cells_3 rfl ?_
  refine z_callV0 (As := [.int p0, .int p1, .int p2]) (st := []) dX13_cells_4 hy_X13_wrongDrawn hL.1 hL.2.1 (by decide) wg_1954 wg_1956 wg_75 (Nat.le_refl _) (Nat.le_of_ble_eq_true rfl) (RM0.mono h (fun vv I1 L2 h => ?_))
  obtain ⟨r3, rfl, h⟩ := h
  change Z n0 xX13_cells (d + 1) 0 0 7 [(0, .ref (n0 + 59)), (1, .int p0), (2, .int p1), (3, .int p2)] [.int r3] K I1 L2 (z_q0 K Q)
  refine z_istore [1, 2, 3, 4, 0] [(0, .ref (n0 + 59)), (1, .int p0), (2, .int p1), (3, .int p2), (4, .int r3)] dX13_cells_7 (by decide) rfl ?_
  refine z_iload 4 dX13_cells_9 rfl ?_
  refine z_if_ge 23 dX13_cells_11 (by decide) (fun g4 => ?_) (fun g4 => ?_)
  · rw [if_neg g4] at h
    refine z_aload_n 0 dX13_cells_23 rfl ?_
    refine z_iload_n 1 dX13_cells_24 rfl ?_
    refine z_callV0 (As := [.int p0]) (st := []) dX13_cells_25 hy_X13_findCells hL.1 hL.2.1 (by decide) wg_2087 wg_2089 wg_89 (Nat.le_refl _) (Nat.le_of_ble_eq_true rfl) (RM0.mono h (fun vv I5 L6 h => ?_))
    obtain ⟨r7, rfl, h⟩ := h
    change Z n0 xX13_cells (d + 1) 0 0 28 [(0, .ref (n0 + 59)), (1, .int p0), (2, .int p1), (3, .int p2), (4, .int r3)] [.int r7] K I5 L6 (z_q0 K Q)
    exact z_iret dX13_cells_28 rfl ⟨rfl, h⟩
  · rw [if_pos g4] at h
    refine z_aload_n 0 dX13_cells_14 rfl ?_
    refine z_iload 4 dX13_cells_15 rfl ?_
    refine z_callV0 (As := [.int r3]) (st := []) dX13_cells_17 hy_X13_refuse hL.1 hL.2.1 (by decide) wg_1778 wg_1780 wg_54 (Nat.le_refl _) (Nat.le_of_ble_eq_true rfl) (RM0.mono h (fun vv I8 L9 h => ?_))
    obtain ⟨r10, rfl, h⟩ := h
    change Z n0 xX13_cells (d + 1) 0 0 20 [(0, .ref (n0 + 59)), (1, .int p0), (2, .int p1), (3, .int p2), (4, .int r3)] [.int r10] K I8 L9 (z_q0 K Q)
    refine z_goto 28 dX13_cells_20 (by decide) ?_
    exact z_iret dX13_cells_28 rfl ⟨rfl, h⟩
theorem dX13_lays_0 : decode cX13_lays 0 = .ok (.aload_n 0, 1) := by decide +kernel
theorem dX13_lays_1 : decode cX13_lays 1 = .ok (.iload_n 1, 1) := by decide +kernel
theorem dX13_lays_2 : decode cX13_lays 2 = .ok (.invokevirtual 304, 3) := by decide +kernel
theorem dX13_lays_5 : decode cX13_lays 5 = .ok (.ifCond .eq 10, 3) := by decide +kernel
theorem dX13_lays_8 : decode cX13_lays 8 = .ok (.iload_n 2, 1) := by decide +kernel
theorem dX13_lays_9 : decode cX13_lays 9 = .ok (.invokestatic 321, 3) := by decide +kernel
theorem dX13_lays_12 : decode cX13_lays 12 = .ok (.ifCond .ne 9, 3) := by decide +kernel
theorem dX13_lays_15 : decode cX13_lays 15 = .ok (.aload_n 0, 1) := by decide +kernel
theorem dX13_lays_16 : decode cX13_lays 16 = .ok (.iconst (-1), 1) := by decide +kernel
theorem dX13_lays_17 : decode cX13_lays 17 = .ok (.invokevirtual 308, 3) := by decide +kernel
theorem dX13_lays_20 : decode cX13_lays 20 = .ok (.ireturn, 1) := by decide +kernel
theorem dX13_lays_21 : decode cX13_lays 21 = .ok (.aload_n 0, 1) := by decide +kernel
theorem dX13_lays_22 : decode cX13_lays 22 = .ok (.getfield 573, 3) := by decide +kernel
theorem dX13_lays_25 : decode cX13_lays 25 = .ok (.iconst 4, 1) := by decide +kernel
theorem dX13_lays_26 : decode cX13_lays 26 = .ok (.if_icmp .ne 10, 3) := by decide +kernel
theorem dX13_lays_29 : decode cX13_lays 29 = .ok (.aload_n 0, 1) := by decide +kernel
theorem dX13_lays_30 : decode cX13_lays 30 = .ok (.bipush (-6), 2) := by decide +kernel
theorem dX13_lays_32 : decode cX13_lays 32 = .ok (.invokevirtual 308, 3) := by decide +kernel
theorem dX13_lays_35 : decode cX13_lays 35 = .ok (.ireturn, 1) := by decide +kernel
theorem dX13_lays_36 : decode cX13_lays 36 = .ok (.aload_n 0, 1) := by decide +kernel
theorem dX13_lays_37 : decode cX13_lays 37 = .ok (.getfield 183, 3) := by decide +kernel
theorem dX13_lays_40 : decode cX13_lays 40 = .ok (.aload_n 0, 1) := by decide +kernel
theorem dX13_lays_41 : decode cX13_lays 41 = .ok (.getfield 573, 3) := by decide +kernel
theorem dX13_lays_44 : decode cX13_lays 44 = .ok (.iload_n 1, 1) := by decide +kernel
theorem dX13_lays_45 : decode cX13_lays 45 = .ok (.iastore, 1) := by decide +kernel
theorem dX13_lays_46 : decode cX13_lays 46 = .ok (.aload_n 0, 1) := by decide +kernel
theorem dX13_lays_47 : decode cX13_lays 47 = .ok (.getfield 186, 3) := by decide +kernel
theorem dX13_lays_50 : decode cX13_lays 50 = .ok (.aload_n 0, 1) := by decide +kernel
theorem dX13_lays_51 : decode cX13_lays 51 = .ok (.getfield 573, 3) := by decide +kernel
theorem dX13_lays_54 : decode cX13_lays 54 = .ok (.iload_n 2, 1) := by decide +kernel
theorem dX13_lays_55 : decode cX13_lays 55 = .ok (.iastore, 1) := by decide +kernel
theorem dX13_lays_56 : decode cX13_lays 56 = .ok (.aload_n 0, 1) := by decide +kernel
theorem dX13_lays_57 : decode cX13_lays 57 = .ok (.dup, 1) := by decide +kernel
theorem dX13_lays_58 : decode cX13_lays 58 = .ok (.getfield 573, 3) := by decide +kernel
theorem dX13_lays_61 : decode cX13_lays 61 = .ok (.iconst 1, 1) := by decide +kernel
theorem dX13_lays_62 : decode cX13_lays 62 = .ok (.iadd, 1) := by decide +kernel
theorem dX13_lays_63 : decode cX13_lays 63 = .ok (.putfield 573, 3) := by decide +kernel
theorem dX13_lays_66 : decode cX13_lays 66 = .ok (.aload_n 0, 1) := by decide +kernel
theorem dX13_lays_67 : decode cX13_lays 67 = .ok (.getfield 573, 3) := by decide +kernel
theorem dX13_lays_70 : decode cX13_lays 70 = .ok (.ireturn, 1) := by decide +kernel
set_option maxRecDepth 100000 in
set_option maxHeartbeats 4000000 in
theorem wp_X13_lays {n0 d : Nat} {K : z_K} {I : z_I} {L : z_L} {Q : z_q} {p0 : Int32} {p1 : Int32} (hL : MLay K) (h : RM0 n0 xX13_isPiece d [.ref (n0 + 59), .int p0] K I L (fun vv I1 L2 => ∃ r3 : Int32, vv = some (.int r3) ∧ (if r3 = 0 then RM0 n0 xX13_refuse d [.ref (n0 + 59), .int (-1)] K I1 L2 (fun vv I5 L6 => ∃ r7 : Int32, vv = some (.int r7) ∧ Q (some (.int r7)) I5 L6) else RM0 n0 xX13_isSize d [.int p1] K I1 L2 (fun vv I8 L9 => ∃ r10 : Int32, vv = some (.int r10) ∧ (if r10 = 0 then RM0 n0 xX13_refuse d [.ref (n0 + 59), .int (-1)] K I8 L9 (fun vv I17 L18 => ∃ r19 : Int32, vv = some (.int r19) ∧ Q (some (.int r19)) I17 L18) else (if ((I8 59 89) : Int32) = 4 then RM0 n0 xX13_refuse d [.ref (n0 + 59), .int (-6)] K I8 L9 (fun vv I14 L15 => ∃ r16 : Int32, vv = some (.int r16) ∧ Q (some (.int r16)) I14 L15) else vp_in (I8 59 89) 4 ∧ Q (some (.int (((I8 59 89) + 1)))) (zI (zI (zI I8 117 ((I8 59 89).toNatClampNeg) p0) 118 ((I8 59 89).toNatClampNeg) p1) 59 89 ((I8 59 89) + 1)) L9)))))) : RM0 n0 xX13_lays (d + 1) [.ref (n0 + 59), .int p0, .int p1] K I L Q := by
  refine z_entry0 (by decide) (Nat.le_of_ble_eq_true rfl) ?_
  change Z n0 xX13_lays (d + 1) 0 0 0 [(0, .ref (n0 + 59)), (1, .int p0), (2, .int p1)] [] K I L (z_q0 K Q)
  refine z_aload_n 0 dX13_lays_0 rfl ?_
  refine z_iload_n 1 dX13_lays_1 rfl ?_
  refine z_callV0 (As := [.int p0]) (st := []) dX13_lays_2 hy_X13_isPiece hL.1 hL.2.1 (by decide) wg_1838 wg_1840 wg_59 (Nat.le_refl _) (Nat.le_of_ble_eq_true rfl) (RM0.mono h (fun vv I1 L2 h => ?_))
  obtain ⟨r3, rfl, h⟩ := h
  change Z n0 xX13_lays (d + 1) 0 0 5 [(0, .ref (n0 + 59)), (1, .int p0), (2, .int p1)] [.int r3] K I1 L2 (z_q0 K Q)
  refine z_if_eq 15 dX13_lays_5 (by decide) (fun g4 => ?_) (fun g4 => ?_)
  · rw [if_pos g4] at h
    refine z_aload_n 0 dX13_lays_15 rfl ?_
    refine z_iconst (-1) dX13_lays_16 (by decide) ?_
    refine z_callV0 (As := [.int (-1)]) (st := []) dX13_lays_17 hy_X13_refuse hL.1 hL.2.1 (by decide) wg_1778 wg_1780 wg_54 (Nat.le_refl _) (Nat.le_of_ble_eq_true rfl) (RM0.mono h (fun vv I5 L6 h => ?_))
    obtain ⟨r7, rfl, h⟩ := h
    change Z n0 xX13_lays (d + 1) 0 0 20 [(0, .ref (n0 + 59)), (1, .int p0), (2, .int p1)] [.int r7] K I5 L6 (z_q0 K Q)
    exact z_iret dX13_lays_20 rfl ⟨rfl, h⟩
  · rw [if_neg g4] at h
    refine z_iload_n 2 dX13_lays_8 rfl ?_
    refine z_callS0 (As := [.int p1]) (st := []) dX13_lays_9 hy_X13_isSize wg_1793 wg_1794 (Nat.le_refl _) (Nat.le_of_ble_eq_true rfl) (RM0.mono h (fun vv I8 L9 h => ?_))
    obtain ⟨r10, rfl, h⟩ := h
    change Z n0 xX13_lays (d + 1) 0 0 12 [(0, .ref (n0 + 59)), (1, .int p0), (2, .int p1)] [.int r10] K I8 L9 (z_q0 K Q)
    refine z_if_ne 21 dX13_lays_12 (by decide) (fun g11 => ?_) (fun g11 => ?_)
    · rw [if_neg g11] at h
      refine z_aload_n 0 dX13_lays_21 rfl ?_
      refine fg_13_573 (I8 59 89) rfl dX13_lays_22 hL.1 hL.2.1 rfl ?_
      refine z_iconst 4 dX13_lays_25 (by decide) ?_
      refine z_icmp_ne 36 dX13_lays_26 (by decide) (fun g12 => ?_) (fun g12 => ?_)
      · rw [if_neg g12] at h
        refine z_aload_n 0 dX13_lays_36 rfl ?_
        refine fg_13_183 (some 117) rfl dX13_lays_37 hL.1 hL.2.1 (ma_90 hL).1 ?_
        refine z_aload_n 0 dX13_lays_40 rfl ?_
        refine fg_13_573 (I8 59 89) rfl dX13_lays_41 hL.1 hL.2.1 rfl ?_
        refine z_iload_n 1 dX13_lays_44 rfl ?_
        obtain ⟨o13, h⟩ := h
        refine z_iast dX13_lays_45 (ma_90 hL).2.1 (ma_90 hL).2.2 o13 ?_
        refine z_aload_n 0 dX13_lays_46 rfl ?_
        refine fg_13_186 (some 118) rfl dX13_lays_47 hL.1 hL.2.1 (ma_91 hL).1 ?_
        refine z_aload_n 0 dX13_lays_50 rfl ?_
        refine fg_13_573 (I8 59 89) rfl dX13_lays_51 hL.1 hL.2.1 rfl ?_
        refine z_iload_n 2 dX13_lays_54 rfl ?_
        refine z_iast dX13_lays_55 (ma_91 hL).2.1 (ma_91 hL).2.2 o13 ?_
        refine z_aload_n 0 dX13_lays_56 rfl ?_
        refine z_dup dX13_lays_57 rfl ?_
        refine fg_13_573 (I8 59 89) rfl dX13_lays_58 hL.1 hL.2.1 rfl ?_
        refine z_iconst 1 dX13_lays_61 (by decide) ?_
        refine z_iadd dX13_lays_62 ?_
        refine fp_13_573 rfl dX13_lays_63 hL.1 hL.2.1 ?_
        refine z_aload_n 0 dX13_lays_66 rfl ?_
        refine fg_13_573 (((I8 59 89) + 1)) rfl dX13_lays_67 hL.1 hL.2.1 rfl ?_
        exact z_iret dX13_lays_70 rfl ⟨rfl, h⟩
      · rw [if_pos g12] at h
        refine z_aload_n 0 dX13_lays_29 rfl ?_
        refine z_bipush (-6) dX13_lays_30 (by decide) ?_
        refine z_callV0 (As := [.int (-6)]) (st := []) dX13_lays_32 hy_X13_refuse hL.1 hL.2.1 (by decide) wg_1778 wg_1780 wg_54 (Nat.le_refl _) (Nat.le_of_ble_eq_true rfl) (RM0.mono h (fun vv I14 L15 h => ?_))
        obtain ⟨r16, rfl, h⟩ := h
        change Z n0 xX13_lays (d + 1) 0 0 35 [(0, .ref (n0 + 59)), (1, .int p0), (2, .int p1)] [.int r16] K I14 L15 (z_q0 K Q)
        exact z_iret dX13_lays_35 rfl ⟨rfl, h⟩
    · rw [if_pos g11] at h
      refine z_aload_n 0 dX13_lays_15 rfl ?_
      refine z_iconst (-1) dX13_lays_16 (by decide) ?_
      refine z_callV0 (As := [.int (-1)]) (st := []) dX13_lays_17 hy_X13_refuse hL.1 hL.2.1 (by decide) wg_1778 wg_1780 wg_54 (Nat.le_refl _) (Nat.le_of_ble_eq_true rfl) (RM0.mono h (fun vv I17 L18 h => ?_))
      obtain ⟨r19, rfl, h⟩ := h
      change Z n0 xX13_lays (d + 1) 0 0 20 [(0, .ref (n0 + 59)), (1, .int p0), (2, .int p1)] [.int r19] K I17 L18 (z_q0 K Q)
      exact z_iret dX13_lays_20 rfl ⟨rfl, h⟩
theorem dX13_clear_0 : decode cX13_clear 0 = .ok (.aload_n 0, 1) := by decide +kernel
theorem dX13_clear_1 : decode cX13_clear 1 = .ok (.getfield 573, 3) := by decide +kernel
theorem dX13_clear_4 : decode cX13_clear 4 = .ok (.istore_n 1, 1) := by decide +kernel
theorem dX13_clear_5 : decode cX13_clear 5 = .ok (.aload_n 0, 1) := by decide +kernel
theorem dX13_clear_6 : decode cX13_clear 6 = .ok (.iconst 0, 1) := by decide +kernel
theorem dX13_clear_7 : decode cX13_clear 7 = .ok (.putfield 573, 3) := by decide +kernel
theorem dX13_clear_10 : decode cX13_clear 10 = .ok (.iload_n 1, 1) := by decide +kernel
theorem dX13_clear_11 : decode cX13_clear 11 = .ok (.ireturn, 1) := by decide +kernel
set_option maxRecDepth 100000 in
set_option maxHeartbeats 4000000 in
theorem wp_X13_clear {n0 d : Nat} {K : z_K} {I : z_I} {L : z_L} {Q : z_q}  (hL : MLay K) (h : Q (some (.int (I 59 89))) (zI I 59 89 0) L) : RM0 n0 xX13_clear d [.ref (n0 + 59)] K I L Q := by
  refine z_entry0 (by decide) (Nat.le_of_ble_eq_true rfl) ?_
  change Z n0 xX13_clear d 0 0 0 [(0, .ref (n0 + 59))] [] K I L (z_q0 K Q)
  refine z_aload_n 0 dX13_clear_0 rfl ?_
  refine fg_13_573 (I 59 89) rfl dX13_clear_1 hL.1 hL.2.1 rfl ?_
  refine z_istore_n [1, 0] [(0, .ref (n0 + 59)), (1, .int (I 59 89))] dX13_clear_4 (by decide) rfl ?_
  refine z_aload_n 0 dX13_clear_5 rfl ?_
  refine z_iconst 0 dX13_clear_6 (by decide) ?_
  refine fp_13_573 rfl dX13_clear_7 hL.1 hL.2.1 ?_
  refine z_iload_n 1 dX13_clear_10 rfl ?_
  exact z_iret dX13_clear_11 rfl ⟨rfl, h⟩
theorem dX13_findMarker_0 : decode cX13_findMarker 0 = .ok (.iconst 1, 1) := by decide +kernel
theorem dX13_findMarker_1 : decode cX13_findMarker 1 = .ok (.istore_n 1, 1) := by decide +kernel
theorem dX13_findMarker_2 : decode cX13_findMarker 2 = .ok (.iconst 0, 1) := by decide +kernel
theorem dX13_findMarker_3 : decode cX13_findMarker 3 = .ok (.istore_n 2, 1) := by decide +kernel
theorem dX13_findMarker_4 : decode cX13_findMarker 4 = .ok (.iload_n 2, 1) := by decide +kernel
theorem dX13_findMarker_5 : decode cX13_findMarker 5 = .ok (.aload_n 0, 1) := by decide +kernel
theorem dX13_findMarker_6 : decode cX13_findMarker 6 = .ok (.getfield 573, 3) := by decide +kernel
theorem dX13_findMarker_9 : decode cX13_findMarker 9 = .ok (.if_icmp .ge 137, 3) := by decide +kernel
theorem dX13_findMarker_12 : decode cX13_findMarker 12 = .ok (.iload_n 1, 1) := by decide +kernel
theorem dX13_findMarker_13 : decode cX13_findMarker 13 = .ok (.ifCond .eq 31, 3) := by decide +kernel
theorem dX13_findMarker_16 : decode cX13_findMarker 16 = .ok (.aload_n 0, 1) := by decide +kernel
theorem dX13_findMarker_17 : decode cX13_findMarker 17 = .ok (.aload_n 0, 1) := by decide +kernel
theorem dX13_findMarker_18 : decode cX13_findMarker 18 = .ok (.getfield 183, 3) := by decide +kernel
theorem dX13_findMarker_21 : decode cX13_findMarker 21 = .ok (.iload_n 2, 1) := by decide +kernel
theorem dX13_findMarker_22 : decode cX13_findMarker 22 = .ok (.iaload, 1) := by decide +kernel
theorem dX13_findMarker_23 : decode cX13_findMarker 23 = .ok (.aload_n 0, 1) := by decide +kernel
theorem dX13_findMarker_24 : decode cX13_findMarker 24 = .ok (.getfield 186, 3) := by decide +kernel
theorem dX13_findMarker_27 : decode cX13_findMarker 27 = .ok (.iload_n 2, 1) := by decide +kernel
theorem dX13_findMarker_28 : decode cX13_findMarker 28 = .ok (.iaload, 1) := by decide +kernel
theorem dX13_findMarker_29 : decode cX13_findMarker 29 = .ok (.aload_n 0, 1) := by decide +kernel
theorem dX13_findMarker_30 : decode cX13_findMarker 30 = .ok (.getfield 312, 3) := by decide +kernel
theorem dX13_findMarker_33 : decode cX13_findMarker 33 = .ok (.iconst (-1), 1) := by decide +kernel
theorem dX13_findMarker_34 : decode cX13_findMarker 34 = .ok (.invokevirtual 491, 3) := by decide +kernel
theorem dX13_findMarker_37 : decode cX13_findMarker 37 = .ok (.ifCond .eq 7, 3) := by decide +kernel
theorem dX13_findMarker_40 : decode cX13_findMarker 40 = .ok (.iconst 1, 1) := by decide +kernel
theorem dX13_findMarker_41 : decode cX13_findMarker 41 = .ok (.goto 4, 3) := by decide +kernel
theorem dX13_findMarker_44 : decode cX13_findMarker 44 = .ok (.iconst 0, 1) := by decide +kernel
theorem dX13_findMarker_45 : decode cX13_findMarker 45 = .ok (.istore_n 1, 1) := by decide +kernel
theorem dX13_findMarker_46 : decode cX13_findMarker 46 = .ok (.aload_n 0, 1) := by decide +kernel
theorem dX13_findMarker_47 : decode cX13_findMarker 47 = .ok (.getfield 198, 3) := by decide +kernel
theorem dX13_findMarker_50 : decode cX13_findMarker 50 = .ok (.iload_n 2, 1) := by decide +kernel
theorem dX13_findMarker_51 : decode cX13_findMarker 51 = .ok (.iload_n 1, 1) := by decide +kernel
theorem dX13_findMarker_52 : decode cX13_findMarker 52 = .ok (.ifCond .eq 16, 3) := by decide +kernel
theorem dX13_findMarker_55 : decode cX13_findMarker 55 = .ok (.aload_n 0, 1) := by decide +kernel
theorem dX13_findMarker_56 : decode cX13_findMarker 56 = .ok (.aload_n 0, 1) := by decide +kernel
theorem dX13_findMarker_57 : decode cX13_findMarker 57 = .ok (.getfield 183, 3) := by decide +kernel
theorem dX13_findMarker_60 : decode cX13_findMarker 60 = .ok (.iload_n 2, 1) := by decide +kernel
theorem dX13_findMarker_61 : decode cX13_findMarker 61 = .ok (.iaload, 1) := by decide +kernel
theorem dX13_findMarker_62 : decode cX13_findMarker 62 = .ok (.invokevirtual 570, 3) := by decide +kernel
theorem dX13_findMarker_65 : decode cX13_findMarker 65 = .ok (.goto 4, 3) := by decide +kernel
theorem dX13_findMarker_68 : decode cX13_findMarker 68 = .ok (.iconst 0, 1) := by decide +kernel
theorem dX13_findMarker_69 : decode cX13_findMarker 69 = .ok (.iastore, 1) := by decide +kernel
theorem dX13_findMarker_70 : decode cX13_findMarker 70 = .ok (.iload_n 1, 1) := by decide +kernel
theorem dX13_findMarker_71 : decode cX13_findMarker 71 = .ok (.ifCond .eq 16, 3) := by decide +kernel
theorem dX13_findMarker_74 : decode cX13_findMarker 74 = .ok (.aload_n 0, 1) := by decide +kernel
theorem dX13_findMarker_75 : decode cX13_findMarker 75 = .ok (.getfield 198, 3) := by decide +kernel
theorem dX13_findMarker_78 : decode cX13_findMarker 78 = .ok (.iload_n 2, 1) := by decide +kernel
theorem dX13_findMarker_79 : decode cX13_findMarker 79 = .ok (.iaload, 1) := by decide +kernel
theorem dX13_findMarker_80 : decode cX13_findMarker 80 = .ok (.ifCond .le 7, 3) := by decide +kernel
theorem dX13_findMarker_83 : decode cX13_findMarker 83 = .ok (.iconst 1, 1) := by decide +kernel
theorem dX13_findMarker_84 : decode cX13_findMarker 84 = .ok (.goto 4, 3) := by decide +kernel
theorem dX13_findMarker_87 : decode cX13_findMarker 87 = .ok (.iconst 0, 1) := by decide +kernel
theorem dX13_findMarker_88 : decode cX13_findMarker 88 = .ok (.istore_n 1, 1) := by decide +kernel
theorem dX13_findMarker_89 : decode cX13_findMarker 89 = .ok (.aload_n 0, 1) := by decide +kernel
theorem dX13_findMarker_90 : decode cX13_findMarker 90 = .ok (.getfield 192, 3) := by decide +kernel
theorem dX13_findMarker_93 : decode cX13_findMarker 93 = .ok (.iload_n 2, 1) := by decide +kernel
theorem dX13_findMarker_94 : decode cX13_findMarker 94 = .ok (.aload_n 0, 1) := by decide +kernel
theorem dX13_findMarker_95 : decode cX13_findMarker 95 = .ok (.getfield 560, 3) := by decide +kernel
theorem dX13_findMarker_98 : decode cX13_findMarker 98 = .ok (.iastore, 1) := by decide +kernel
theorem dX13_findMarker_99 : decode cX13_findMarker 99 = .ok (.aload_n 0, 1) := by decide +kernel
theorem dX13_findMarker_100 : decode cX13_findMarker 100 = .ok (.getfield 195, 3) := by decide +kernel
theorem dX13_findMarker_103 : decode cX13_findMarker 103 = .ok (.iload_n 2, 1) := by decide +kernel
theorem dX13_findMarker_104 : decode cX13_findMarker 104 = .ok (.aload_n 0, 1) := by decide +kernel
theorem dX13_findMarker_105 : decode cX13_findMarker 105 = .ok (.getfield 563, 3) := by decide +kernel
theorem dX13_findMarker_108 : decode cX13_findMarker 108 = .ok (.iastore, 1) := by decide +kernel
theorem dX13_findMarker_109 : decode cX13_findMarker 109 = .ok (.iconst 0, 1) := by decide +kernel
theorem dX13_findMarker_110 : decode cX13_findMarker 110 = .ok (.istore_n 3, 1) := by decide +kernel
theorem dX13_findMarker_111 : decode cX13_findMarker 111 = .ok (.iload_n 3, 1) := by decide +kernel
theorem dX13_findMarker_112 : decode cX13_findMarker 112 = .ok (.bipush 24, 2) := by decide +kernel
theorem dX13_findMarker_114 : decode cX13_findMarker 114 = .ok (.if_icmp .ge 26, 3) := by decide +kernel
theorem dX13_findMarker_117 : decode cX13_findMarker 117 = .ok (.aload_n 0, 1) := by decide +kernel
theorem dX13_findMarker_118 : decode cX13_findMarker 118 = .ok (.getfield 189, 3) := by decide +kernel
theorem dX13_findMarker_121 : decode cX13_findMarker 121 = .ok (.bipush 24, 2) := by decide +kernel
theorem dX13_findMarker_123 : decode cX13_findMarker 123 = .ok (.iload_n 2, 1) := by decide +kernel
theorem dX13_findMarker_124 : decode cX13_findMarker 124 = .ok (.imul, 1) := by decide +kernel
theorem dX13_findMarker_125 : decode cX13_findMarker 125 = .ok (.iload_n 3, 1) := by decide +kernel
theorem dX13_findMarker_126 : decode cX13_findMarker 126 = .ok (.iadd, 1) := by decide +kernel
theorem dX13_findMarker_127 : decode cX13_findMarker 127 = .ok (.aload_n 0, 1) := by decide +kernel
theorem dX13_findMarker_128 : decode cX13_findMarker 128 = .ok (.getfield 174, 3) := by decide +kernel
theorem dX13_findMarker_131 : decode cX13_findMarker 131 = .ok (.iload_n 3, 1) := by decide +kernel
theorem dX13_findMarker_132 : decode cX13_findMarker 132 = .ok (.iaload, 1) := by decide +kernel
theorem dX13_findMarker_133 : decode cX13_findMarker 133 = .ok (.iastore, 1) := by decide +kernel
theorem dX13_findMarker_134 : decode cX13_findMarker 134 = .ok (.iinc 3 1, 3) := by decide +kernel
theorem dX13_findMarker_137 : decode cX13_findMarker 137 = .ok (.goto (-26), 3) := by decide +kernel
theorem dX13_findMarker_140 : decode cX13_findMarker 140 = .ok (.iinc 2 1, 3) := by decide +kernel
theorem dX13_findMarker_143 : decode cX13_findMarker 143 = .ok (.goto (-139), 3) := by decide +kernel
theorem dX13_findMarker_146 : decode cX13_findMarker 146 = .ok (.iload_n 1, 1) := by decide +kernel
theorem dX13_findMarker_147 : decode cX13_findMarker 147 = .ok (.ireturn, 1) := by decide +kernel
set_option maxRecDepth 100000 in
set_option maxHeartbeats 4000000 in
theorem wp_X13_findMarker {n0 d : Nat} {K : z_K} {I : z_I} {L : z_L} {Q : z_q}  (hL : MLay K) (h : Z n0 xX13_findMarker (d + 1) 0 0 4 [(0, .ref (n0 + 59)), (1, .int 1), (2, .int 0)] [] K I L (z_q0 K Q)) : RM0 n0 xX13_findMarker (d + 1) [.ref (n0 + 59)] K I L Q := by
  refine z_entry0 (by decide) (Nat.le_of_ble_eq_true rfl) ?_
  change Z n0 xX13_findMarker (d + 1) 0 0 0 [(0, .ref (n0 + 59))] [] K I L (z_q0 K Q)
  refine z_iconst 1 dX13_findMarker_0 (by decide) ?_
  refine z_istore_n [1, 0] [(0, .ref (n0 + 59)), (1, .int 1)] dX13_findMarker_1 (by decide) rfl ?_
  refine z_iconst 0 dX13_findMarker_2 (by decide) ?_
  refine z_istore_n [1, 2, 0] [(0, .ref (n0 + 59)), (1, .int 1), (2, .int 0)] dX13_findMarker_3 (by decide) rfl ?_
  exact h
set_option maxRecDepth 100000 in
set_option maxHeartbeats 4000000 in
theorem wp_X13_findMarker_4 {n0 d : Nat} {rc rs : Nat} {K : z_K} {I : z_I} {L : z_L} {Q : z_q} {a1 : Int32} {a2 : Int32} (hL : MLay K) (h : (if a2 < (I 59 89) then (if a1 = 0 then vp_in a2 4 ∧ Z n0 xX13_findMarker (d + 1) rc rs 111 [(0, .ref (n0 + 59)), (1, .int 0), (2, .int a2), (3, .int 0)] [] K (zI (zI (zI I 122 a2.toNatClampNeg 0) 120 a2.toNatClampNeg (I 59 84)) 121 a2.toNatClampNeg (I 59 85)) L (z_q0 K Q) else vp_in a2 4 ∧ RM0 n0 xX13_draw d [.ref (n0 + 59), .int (I 117 a2.toNatClampNeg), .int (I 118 a2.toNatClampNeg), .int (I 59 0), .int (-1)] K I L (fun vv I6 L7 => ∃ r8 : Int32, vv = some (.int r8) ∧ (if r8 = 0 then (if r8 = 0 then Z n0 xX13_findMarker (d + 1) rc rs 111 [(0, .ref (n0 + 59)), (1, .int 0), (2, .int a2), (3, .int 0)] [] K (zI (zI (zI I6 122 a2.toNatClampNeg 0) 120 a2.toNatClampNeg (I6 59 84)) 121 a2.toNatClampNeg (I6 59 85)) L7 (z_q0 K Q) else Z n0 xX13_findMarker (d + 1) rc rs 111 [(0, .ref (n0 + 59)), (1, .int (if 0 < (((zI I6 122 a2.toNatClampNeg 0) 122 a2.toNatClampNeg) : Int32) then 1 else 0)), (2, .int a2), (3, .int 0)] [] K (zI (zI (zI I6 122 a2.toNatClampNeg 0) 120 a2.toNatClampNeg (I6 59 84)) 121 a2.toNatClampNeg (I6 59 85)) L7 (z_q0 K Q)) else RM0 n0 xX13_findCells d [.ref (n0 + 59), .int (I6 117 a2.toNatClampNeg)] K I6 L7 (fun vv I15 L16 => ∃ r17 : Int32, vv = some (.int r17) ∧ (if r8 = 0 then Z n0 xX13_findMarker (d + 1) rc rs 111 [(0, .ref (n0 + 59)), (1, .int 0), (2, .int a2), (3, .int 0)] [] K (zI (zI (zI I15 122 a2.toNatClampNeg r17) 120 a2.toNatClampNeg (I15 59 84)) 121 a2.toNatClampNeg (I15 59 85)) L16 (z_q0 K Q) else Z n0 xX13_findMarker (d + 1) rc rs 111 [(0, .ref (n0 + 59)), (1, .int (if 0 < (((zI I15 122 a2.toNatClampNeg r17) 122 a2.toNatClampNeg) : Int32) then 1 else 0)), (2, .int a2), (3, .int 0)] [] K (zI (zI (zI I15 122 a2.toNatClampNeg r17) 120 a2.toNatClampNeg (I15 59 84)) 121 a2.toNatClampNeg (I15 59 85)) L16 (z_q0 K Q)))))) else z_b a1 ∧ Q (some (.int a1)) I L)) : Z n0 xX13_findMarker (d + 1) rc rs 4 [(0, .ref (n0 + 59)), (1, .int a1), (2, .int a2)] [] K I L (z_q0 K Q) := by
  refine z_iload_n 2 dX13_findMarker_4 rfl ?_
  refine z_aload_n 0 dX13_findMarker_5 rfl ?_
  refine fg_13_573 (I 59 89) rfl dX13_findMarker_6 hL.1 hL.2.1 rfl ?_
  refine z_icmp_ge 146 dX13_findMarker_9 (by decide) (fun g1 => ?_) (fun g1 => ?_)
  · rw [if_neg g1] at h
    refine z_iload_n 1 dX13_findMarker_146 rfl ?_
    obtain ⟨o2, h⟩ := h
    exact z_zretb dX13_findMarker_147 rfl o2 ⟨rfl, h⟩
  · rw [if_pos g1] at h
    refine z_iload_n 1 dX13_findMarker_12 rfl ?_
    refine z_if_eq 44 dX13_findMarker_13 (by decide) (fun g3 => ?_) (fun g3 => ?_)
    · rw [if_pos g3] at h
      refine z_iconst 0 dX13_findMarker_44 (by decide) ?_
      refine z_istore_n [1, 0, 2] [(0, .ref (n0 + 59)), (1, .int 0), (2, .int a2)] dX13_findMarker_45 (by decide) rfl ?_
      refine z_aload_n 0 dX13_findMarker_46 rfl ?_
      refine fg_13_198 (some 122) rfl dX13_findMarker_47 hL.1 hL.2.1 (ma_95 hL).1 ?_
      refine z_iload_n 2 dX13_findMarker_50 rfl ?_
      refine z_iload_n 1 dX13_findMarker_51 rfl ?_
      refine z_if_eq 68 dX13_findMarker_52 (by decide) (fun _ => ?_) (fun q => absurd q (by decide))
      refine z_iconst 0 dX13_findMarker_68 (by decide) ?_
      obtain ⟨o4, h⟩ := h
      refine z_iast dX13_findMarker_69 (ma_95 hL).2.1 (ma_95 hL).2.2 o4 ?_
      refine z_iload_n 1 dX13_findMarker_70 rfl ?_
      refine z_if_eq 87 dX13_findMarker_71 (by decide) (fun _ => ?_) (fun q => absurd q (by decide))
      refine z_iconst 0 dX13_findMarker_87 (by decide) ?_
      refine z_istore_n [1, 0, 2] [(0, .ref (n0 + 59)), (1, .int 0), (2, .int a2)] dX13_findMarker_88 (by decide) rfl ?_
      refine z_aload_n 0 dX13_findMarker_89 rfl ?_
      refine fg_13_192 (some 120) rfl dX13_findMarker_90 hL.1 hL.2.1 (ma_93 hL).1 ?_
      refine z_iload_n 2 dX13_findMarker_93 rfl ?_
      refine z_aload_n 0 dX13_findMarker_94 rfl ?_
      refine fg_13_560 (I 59 84) rfl dX13_findMarker_95 hL.1 hL.2.1 rfl ?_
      refine z_iast dX13_findMarker_98 (ma_93 hL).2.1 (ma_93 hL).2.2 o4 ?_
      refine z_aload_n 0 dX13_findMarker_99 rfl ?_
      refine fg_13_195 (some 121) rfl dX13_findMarker_100 hL.1 hL.2.1 (ma_94 hL).1 ?_
      refine z_iload_n 2 dX13_findMarker_103 rfl ?_
      refine z_aload_n 0 dX13_findMarker_104 rfl ?_
      refine fg_13_563 (I 59 85) rfl dX13_findMarker_105 hL.1 hL.2.1 rfl ?_
      refine z_iast dX13_findMarker_108 (ma_94 hL).2.1 (ma_94 hL).2.2 o4 ?_
      refine z_iconst 0 dX13_findMarker_109 (by decide) ?_
      refine z_istore_n [1, 2, 3, 0] [(0, .ref (n0 + 59)), (1, .int 0), (2, .int a2), (3, .int 0)] dX13_findMarker_110 (by decide) rfl ?_
      exact h
    · rw [if_neg g3] at h
      refine z_aload_n 0 dX13_findMarker_16 rfl ?_
      refine z_aload_n 0 dX13_findMarker_17 rfl ?_
      refine fg_13_183 (some 117) rfl dX13_findMarker_18 hL.1 hL.2.1 (ma_90 hL).1 ?_
      refine z_iload_n 2 dX13_findMarker_21 rfl ?_
      obtain ⟨o5, h⟩ := h
      refine z_iald (I 117 a2.toNatClampNeg) dX13_findMarker_22 (ma_90 hL).2.1 (ma_90 hL).2.2 o5 rfl ?_
      refine z_aload_n 0 dX13_findMarker_23 rfl ?_
      refine fg_13_186 (some 118) rfl dX13_findMarker_24 hL.1 hL.2.1 (ma_91 hL).1 ?_
      refine z_iload_n 2 dX13_findMarker_27 rfl ?_
      refine z_iald (I 118 a2.toNatClampNeg) dX13_findMarker_28 (ma_91 hL).2.1 (ma_91 hL).2.2 o5 rfl ?_
      refine z_aload_n 0 dX13_findMarker_29 rfl ?_
      refine fg_13_312 (I 59 0) rfl dX13_findMarker_30 hL.1 hL.2.1 rfl ?_
      refine z_iconst (-1) dX13_findMarker_33 (by decide) ?_
      refine z_callV0 (As := [.int (I 117 a2.toNatClampNeg), .int (I 118 a2.toNatClampNeg), .int (I 59 0), .int (-1)]) (st := []) dX13_findMarker_34 hy_X13_draw hL.1 hL.2.1 (by decide) wg_1958 wg_1960 wg_76 (Nat.le_refl _) (Nat.le_of_ble_eq_true rfl) (RM0.mono h (fun vv I6 L7 h => ?_))
      obtain ⟨r8, rfl, h⟩ := h
      change Z n0 xX13_findMarker (d + 1) rc rs 37 [(0, .ref (n0 + 59)), (1, .int a1), (2, .int a2)] [.int r8] K I6 L7 (z_q0 K Q)
      have key10 : Z n0 xX13_findMarker (d + 1) rc rs 45 [(0, .ref (n0 + 59)), (2, .int a2)] [.int (if r8 = 0 then 0 else 1)] K I6 L7 (z_q0 K Q) := by
        refine z_istore_n [1, 0, 2] [(0, .ref (n0 + 59)), (1, .int (if r8 = 0 then 0 else 1)), (2, .int a2)] dX13_findMarker_45 (by decide) rfl ?_
        refine z_aload_n 0 dX13_findMarker_46 rfl ?_
        refine fg_13_198 (some 122) rfl dX13_findMarker_47 hL.1 hL.2.1 (ma_95 hL).1 ?_
        refine z_iload_n 2 dX13_findMarker_50 rfl ?_
        refine z_iload_n 1 dX13_findMarker_51 rfl ?_
        refine z_if_eq 68 dX13_findMarker_52 (by decide) (fun g11 => ?_) (fun g11 => ?_)
        · replace g11 := z_i01.mp g11
          rw [if_pos g11] at h
          refine z_iconst 0 dX13_findMarker_68 (by decide) ?_
          refine z_iast dX13_findMarker_69 (ma_95 hL).2.1 (ma_95 hL).2.2 o5 ?_
          refine z_iload_n 1 dX13_findMarker_70 rfl ?_
          refine z_if_eq 87 dX13_findMarker_71 (by decide) (fun g12 => ?_) (fun g12 => ?_)
          · replace g12 := z_i01.mp g12
            rw [if_pos g12] at h
            refine z_iconst 0 dX13_findMarker_87 (by decide) ?_
            refine z_istore_n [1, 0, 2] [(0, .ref (n0 + 59)), (1, .int 0), (2, .int a2)] dX13_findMarker_88 (by decide) rfl ?_
            refine z_aload_n 0 dX13_findMarker_89 rfl ?_
            refine fg_13_192 (some 120) rfl dX13_findMarker_90 hL.1 hL.2.1 (ma_93 hL).1 ?_
            refine z_iload_n 2 dX13_findMarker_93 rfl ?_
            refine z_aload_n 0 dX13_findMarker_94 rfl ?_
            refine fg_13_560 (I6 59 84) rfl dX13_findMarker_95 hL.1 hL.2.1 rfl ?_
            refine z_iast dX13_findMarker_98 (ma_93 hL).2.1 (ma_93 hL).2.2 o5 ?_
            refine z_aload_n 0 dX13_findMarker_99 rfl ?_
            refine fg_13_195 (some 121) rfl dX13_findMarker_100 hL.1 hL.2.1 (ma_94 hL).1 ?_
            refine z_iload_n 2 dX13_findMarker_103 rfl ?_
            refine z_aload_n 0 dX13_findMarker_104 rfl ?_
            refine fg_13_563 (I6 59 85) rfl dX13_findMarker_105 hL.1 hL.2.1 rfl ?_
            refine z_iast dX13_findMarker_108 (ma_94 hL).2.1 (ma_94 hL).2.2 o5 ?_
            refine z_iconst 0 dX13_findMarker_109 (by decide) ?_
            refine z_istore_n [1, 2, 3, 0] [(0, .ref (n0 + 59)), (1, .int 0), (2, .int a2), (3, .int 0)] dX13_findMarker_110 (by decide) rfl ?_
            exact h
          · replace g12 := z_i01n g12
            rw [if_neg g12] at h
            refine z_aload_n 0 dX13_findMarker_74 rfl ?_
            refine fg_13_198 (some 122) rfl dX13_findMarker_75 hL.1 hL.2.1 (ma_95 hL).1 ?_
            refine z_iload_n 2 dX13_findMarker_78 rfl ?_
            refine z_iald ((zI I6 122 a2.toNatClampNeg 0) 122 a2.toNatClampNeg) dX13_findMarker_79 (ma_95 hL).2.1 (ma_95 hL).2.2 o5 rfl ?_
            have key14 : Z n0 xX13_findMarker (d + 1) rc rs 88 [(0, .ref (n0 + 59)), (2, .int a2)] [.int (if 0 < (((zI I6 122 a2.toNatClampNeg 0) 122 a2.toNatClampNeg) : Int32) then 1 else 0)] K (zI I6 122 a2.toNatClampNeg 0) L7 (z_q0 K Q) := by
              refine z_istore_n [1, 0, 2] [(0, .ref (n0 + 59)), (1, .int (if 0 < (((zI I6 122 a2.toNatClampNeg 0) 122 a2.toNatClampNeg) : Int32) then 1 else 0)), (2, .int a2)] dX13_findMarker_88 (by decide) rfl ?_
              refine z_aload_n 0 dX13_findMarker_89 rfl ?_
              refine fg_13_192 (some 120) rfl dX13_findMarker_90 hL.1 hL.2.1 (ma_93 hL).1 ?_
              refine z_iload_n 2 dX13_findMarker_93 rfl ?_
              refine z_aload_n 0 dX13_findMarker_94 rfl ?_
              refine fg_13_560 (I6 59 84) rfl dX13_findMarker_95 hL.1 hL.2.1 rfl ?_
              refine z_iast dX13_findMarker_98 (ma_93 hL).2.1 (ma_93 hL).2.2 o5 ?_
              refine z_aload_n 0 dX13_findMarker_99 rfl ?_
              refine fg_13_195 (some 121) rfl dX13_findMarker_100 hL.1 hL.2.1 (ma_94 hL).1 ?_
              refine z_iload_n 2 dX13_findMarker_103 rfl ?_
              refine z_aload_n 0 dX13_findMarker_104 rfl ?_
              refine fg_13_563 (I6 59 85) rfl dX13_findMarker_105 hL.1 hL.2.1 rfl ?_
              refine z_iast dX13_findMarker_108 (ma_94 hL).2.1 (ma_94 hL).2.2 o5 ?_
              refine z_iconst 0 dX13_findMarker_109 (by decide) ?_
              refine z_istore_n [1, 2, 3, 0] [(0, .ref (n0 + 59)), (1, .int (if 0 < (((zI I6 122 a2.toNatClampNeg 0) 122 a2.toNatClampNeg) : Int32) then 1 else 0)), (2, .int a2), (3, .int 0)] dX13_findMarker_110 (by decide) rfl ?_
              exact h
            refine z_if_le 87 dX13_findMarker_80 (by decide) (fun g13 => ?_) (fun g13 => ?_)
            · refine z_iconst 0 dX13_findMarker_87 (by decide) ?_
              have ee : ((if 0 < (((zI I6 122 a2.toNatClampNeg 0) 122 a2.toNatClampNeg) : Int32) then 1 else 0) : Int32) = 0 := by rw [if_neg g13]
              rw [ee] at key14
              clear ee
              refine z_sub [0, 2] rfl ?_
              exact key14
            · refine z_iconst 1 dX13_findMarker_83 (by decide) ?_
              refine z_goto 88 dX13_findMarker_84 (by decide) ?_
              have ee : ((if 0 < (((zI I6 122 a2.toNatClampNeg 0) 122 a2.toNatClampNeg) : Int32) then 1 else 0) : Int32) = 1 := by rw [if_pos g13]
              rw [ee] at key14
              clear ee
              refine z_sub [0, 2] rfl ?_
              exact key14
        · replace g11 := z_i01n g11
          rw [if_neg g11] at h
          refine z_aload_n 0 dX13_findMarker_55 rfl ?_
          refine z_aload_n 0 dX13_findMarker_56 rfl ?_
          refine fg_13_183 (some 117) rfl dX13_findMarker_57 hL.1 hL.2.1 (ma_90 hL).1 ?_
          refine z_iload_n 2 dX13_findMarker_60 rfl ?_
          refine z_iald (I6 117 a2.toNatClampNeg) dX13_findMarker_61 (ma_90 hL).2.1 (ma_90 hL).2.2 o5 rfl ?_
          refine z_callV0 (As := [.int (I6 117 a2.toNatClampNeg)]) (st := [.int a2, .ref (n0 + 122)]) dX13_findMarker_62 hy_X13_findCells hL.1 hL.2.1 (by decide) wg_2087 wg_2089 wg_89 (Nat.le_refl _) (Nat.le_of_ble_eq_true rfl) (RM0.mono h (fun vv I15 L16 h => ?_))
          obtain ⟨r17, rfl, h⟩ := h
          change Z n0 xX13_findMarker (d + 1) rc rs 65 [(0, .ref (n0 + 59)), (1, .int (if r8 = 0 then 0 else 1)), (2, .int a2)] [.int r17, .int a2, .ref (n0 + 122)] K I15 L16 (z_q0 K Q)
          refine z_goto 69 dX13_findMarker_65 (by decide) ?_
          refine z_iast dX13_findMarker_69 (ma_95 hL).2.1 (ma_95 hL).2.2 o5 ?_
          refine z_iload_n 1 dX13_findMarker_70 rfl ?_
          refine z_if_eq 87 dX13_findMarker_71 (by decide) (fun g18 => ?_) (fun g18 => ?_)
          · replace g18 := z_i01.mp g18
            rw [if_pos g18] at h
            refine z_iconst 0 dX13_findMarker_87 (by decide) ?_
            refine z_istore_n [1, 0, 2] [(0, .ref (n0 + 59)), (1, .int 0), (2, .int a2)] dX13_findMarker_88 (by decide) rfl ?_
            refine z_aload_n 0 dX13_findMarker_89 rfl ?_
            refine fg_13_192 (some 120) rfl dX13_findMarker_90 hL.1 hL.2.1 (ma_93 hL).1 ?_
            refine z_iload_n 2 dX13_findMarker_93 rfl ?_
            refine z_aload_n 0 dX13_findMarker_94 rfl ?_
            refine fg_13_560 (I15 59 84) rfl dX13_findMarker_95 hL.1 hL.2.1 rfl ?_
            refine z_iast dX13_findMarker_98 (ma_93 hL).2.1 (ma_93 hL).2.2 o5 ?_
            refine z_aload_n 0 dX13_findMarker_99 rfl ?_
            refine fg_13_195 (some 121) rfl dX13_findMarker_100 hL.1 hL.2.1 (ma_94 hL).1 ?_
            refine z_iload_n 2 dX13_findMarker_103 rfl ?_
            refine z_aload_n 0 dX13_findMarker_104 rfl ?_
            refine fg_13_563 (I15 59 85) rfl dX13_findMarker_105 hL.1 hL.2.1 rfl ?_
            refine z_iast dX13_findMarker_108 (ma_94 hL).2.1 (ma_94 hL).2.2 o5 ?_
            refine z_iconst 0 dX13_findMarker_109 (by decide) ?_
            refine z_istore_n [1, 2, 3, 0] [(0, .ref (n0 + 59)), (1, .int 0), (2, .int a2), (3, .int 0)] dX13_findMarker_110 (by decide) rfl ?_
            exact h
          · replace g18 := z_i01n g18
            rw [if_neg g18] at h
            refine z_aload_n 0 dX13_findMarker_74 rfl ?_
            refine fg_13_198 (some 122) rfl dX13_findMarker_75 hL.1 hL.2.1 (ma_95 hL).1 ?_
            refine z_iload_n 2 dX13_findMarker_78 rfl ?_
            refine z_iald ((zI I15 122 a2.toNatClampNeg r17) 122 a2.toNatClampNeg) dX13_findMarker_79 (ma_95 hL).2.1 (ma_95 hL).2.2 o5 rfl ?_
            have key20 : Z n0 xX13_findMarker (d + 1) rc rs 88 [(0, .ref (n0 + 59)), (2, .int a2)] [.int (if 0 < (((zI I15 122 a2.toNatClampNeg r17) 122 a2.toNatClampNeg) : Int32) then 1 else 0)] K (zI I15 122 a2.toNatClampNeg r17) L16 (z_q0 K Q) := by
              refine z_istore_n [1, 0, 2] [(0, .ref (n0 + 59)), (1, .int (if 0 < (((zI I15 122 a2.toNatClampNeg r17) 122 a2.toNatClampNeg) : Int32) then 1 else 0)), (2, .int a2)] dX13_findMarker_88 (by decide) rfl ?_
              refine z_aload_n 0 dX13_findMarker_89 rfl ?_
              refine fg_13_192 (some 120) rfl dX13_findMarker_90 hL.1 hL.2.1 (ma_93 hL).1 ?_
              refine z_iload_n 2 dX13_findMarker_93 rfl ?_
              refine z_aload_n 0 dX13_findMarker_94 rfl ?_
              refine fg_13_560 (I15 59 84) rfl dX13_findMarker_95 hL.1 hL.2.1 rfl ?_
              refine z_iast dX13_findMarker_98 (ma_93 hL).2.1 (ma_93 hL).2.2 o5 ?_
              refine z_aload_n 0 dX13_findMarker_99 rfl ?_
              refine fg_13_195 (some 121) rfl dX13_findMarker_100 hL.1 hL.2.1 (ma_94 hL).1 ?_
              refine z_iload_n 2 dX13_findMarker_103 rfl ?_
              refine z_aload_n 0 dX13_findMarker_104 rfl ?_
              refine fg_13_563 (I15 59 85) rfl dX13_findMarker_105 hL.1 hL.2.1 rfl ?_
              refine z_iast dX13_findMarker_108 (ma_94 hL).2.1 (ma_94 hL).2.2 o5 ?_
              refine z_iconst 0 dX13_findMarker_109 (by decide) ?_
              refine z_istore_n [1, 2, 3, 0] [(0, .ref (n0 + 59)), (1, .int (if 0 < (((zI I15 122 a2.toNatClampNeg r17) 122 a2.toNatClampNeg) : Int32) then 1 else 0)), (2, .int a2), (3, .int 0)] dX13_findMarker_110 (by decide) rfl ?_
              exact h
            refine z_if_le 87 dX13_findMarker_80 (by decide) (fun g19 => ?_) (fun g19 => ?_)
            · refine z_iconst 0 dX13_findMarker_87 (by decide) ?_
              have ee : ((if 0 < (((zI I15 122 a2.toNatClampNeg r17) 122 a2.toNatClampNeg) : Int32) then 1 else 0) : Int32) = 0 := by rw [if_neg g19]
              rw [ee] at key20
              clear ee
              refine z_sub [0, 2] rfl ?_
              exact key20
            · refine z_iconst 1 dX13_findMarker_83 (by decide) ?_
              refine z_goto 88 dX13_findMarker_84 (by decide) ?_
              have ee : ((if 0 < (((zI I15 122 a2.toNatClampNeg r17) 122 a2.toNatClampNeg) : Int32) then 1 else 0) : Int32) = 1 := by rw [if_pos g19]
              rw [ee] at key20
              clear ee
              refine z_sub [0, 2] rfl ?_
              exact key20
      refine z_if_eq 44 dX13_findMarker_37 (by decide) (fun g9 => ?_) (fun g9 => ?_)
      · refine z_iconst 0 dX13_findMarker_44 (by decide) ?_
        have ee : ((if r8 = 0 then 0 else 1) : Int32) = 0 := by rw [if_pos g9]
        rw [ee] at key10
        clear ee
        refine z_sub [0, 2] rfl ?_
        exact key10
      · refine z_iconst 1 dX13_findMarker_40 (by decide) ?_
        refine z_goto 45 dX13_findMarker_41 (by decide) ?_
        have ee : ((if r8 = 0 then 0 else 1) : Int32) = 1 := by rw [if_neg g9]
        rw [ee] at key10
        clear ee
        refine z_sub [0, 2] rfl ?_
        exact key10
set_option maxRecDepth 100000 in
set_option maxHeartbeats 4000000 in
theorem wp_X13_findMarker_111 {n0 d : Nat} {rc rs : Nat} {K : z_K} {I : z_I} {L : z_L} {Q : z_q} {a1 : Int32} {a2 : Int32} {a3 : Int32} (hL : MLay K) (h : (if a3 < 24 then vp_in a3 24 ∧ vp_in ((24 * a2) + a3) 96 ∧ Z n0 xX13_findMarker (d + 1) rc rs 111 [(0, .ref (n0 + 59)), (1, .int a1), (2, .int a2), (3, .int (a3 + 1))] [] K (zI I 119 (((24 * a2) + a3).toNatClampNeg) (I 114 a3.toNatClampNeg)) L (z_q0 K Q) else Z n0 xX13_findMarker (d + 1) rc rs 4 [(0, .ref (n0 + 59)), (1, .int a1), (2, .int (a2 + 1))] [] K I L (z_q0 K Q))) : Z n0 xX13_findMarker (d + 1) rc rs 111 [(0, .ref (n0 + 59)), (1, .int a1), (2, .int a2), (3, .int a3)] [] K I L (z_q0 K Q) := by
  refine z_iload_n 3 dX13_findMarker_111 rfl ?_
  refine z_bipush 24 dX13_findMarker_112 (by decide) ?_
  refine z_icmp_ge 140 dX13_findMarker_114 (by decide) (fun g1 => ?_) (fun g1 => ?_)
  · rw [if_neg g1] at h
    refine z_iinc (j := 2) (a2 + 1) [1, 2, 0, 3] [(0, .ref (n0 + 59)), (1, .int a1), (2, .int (a2 + 1)), (3, .int a3)] dX13_findMarker_140 rfl rfl (by decide) rfl ?_
    refine z_goto 4 dX13_findMarker_143 (by decide) ?_
    refine z_sub [0, 1, 2] rfl ?_
    exact h
  · rw [if_pos g1] at h
    refine z_aload_n 0 dX13_findMarker_117 rfl ?_
    refine fg_13_189 (some 119) rfl dX13_findMarker_118 hL.1 hL.2.1 (ma_92 hL).1 ?_
    refine z_bipush 24 dX13_findMarker_121 (by decide) ?_
    refine z_iload_n 2 dX13_findMarker_123 rfl ?_
    refine z_imul dX13_findMarker_124 ?_
    refine z_iload_n 3 dX13_findMarker_125 rfl ?_
    refine z_iadd dX13_findMarker_126 ?_
    refine z_aload_n 0 dX13_findMarker_127 rfl ?_
    refine fg_13_174 (some 114) rfl dX13_findMarker_128 hL.1 hL.2.1 (ma_83 hL).1 ?_
    refine z_iload_n 3 dX13_findMarker_131 rfl ?_
    obtain ⟨o2, h⟩ := h
    refine z_iald (I 114 a3.toNatClampNeg) dX13_findMarker_132 (ma_83 hL).2.1 (ma_83 hL).2.2 o2 rfl ?_
    obtain ⟨o3, h⟩ := h
    refine z_iast dX13_findMarker_133 (ma_92 hL).2.1 (ma_92 hL).2.2 o3 ?_
    refine z_iinc (j := 3) (a3 + 1) [1, 2, 3, 0] [(0, .ref (n0 + 59)), (1, .int a1), (2, .int a2), (3, .int (a3 + 1))] dX13_findMarker_134 rfl rfl (by decide) rfl ?_
    refine z_goto 111 dX13_findMarker_137 (by decide) ?_
    exact h
theorem dX13_turnedOver_0 : decode cX13_turnedOver 0 = .ok (.iconst 0, 1) := by decide +kernel
theorem dX13_turnedOver_1 : decode cX13_turnedOver 1 = .ok (.istore_n 2, 1) := by decide +kernel
theorem dX13_turnedOver_2 : decode cX13_turnedOver 2 = .ok (.iconst 0, 1) := by decide +kernel
theorem dX13_turnedOver_3 : decode cX13_turnedOver 3 = .ok (.istore_n 3, 1) := by decide +kernel
theorem dX13_turnedOver_4 : decode cX13_turnedOver 4 = .ok (.iload_n 3, 1) := by decide +kernel
theorem dX13_turnedOver_5 : decode cX13_turnedOver 5 = .ok (.iload_n 1, 1) := by decide +kernel
theorem dX13_turnedOver_6 : decode cX13_turnedOver 6 = .ok (.if_icmp .ge 23, 3) := by decide +kernel
theorem dX13_turnedOver_9 : decode cX13_turnedOver 9 = .ok (.iload_n 2, 1) := by decide +kernel
theorem dX13_turnedOver_10 : decode cX13_turnedOver 10 = .ok (.iload_n 0, 1) := by decide +kernel
theorem dX13_turnedOver_11 : decode cX13_turnedOver 11 = .ok (.iload_n 3, 1) := by decide +kernel
theorem dX13_turnedOver_12 : decode cX13_turnedOver 12 = .ok (.ishr, 1) := by decide +kernel
theorem dX13_turnedOver_13 : decode cX13_turnedOver 13 = .ok (.iconst 1, 1) := by decide +kernel
theorem dX13_turnedOver_14 : decode cX13_turnedOver 14 = .ok (.iand, 1) := by decide +kernel
theorem dX13_turnedOver_15 : decode cX13_turnedOver 15 = .ok (.iload_n 1, 1) := by decide +kernel
theorem dX13_turnedOver_16 : decode cX13_turnedOver 16 = .ok (.iconst 1, 1) := by decide +kernel
theorem dX13_turnedOver_17 : decode cX13_turnedOver 17 = .ok (.isub, 1) := by decide +kernel
theorem dX13_turnedOver_18 : decode cX13_turnedOver 18 = .ok (.iload_n 3, 1) := by decide +kernel
theorem dX13_turnedOver_19 : decode cX13_turnedOver 19 = .ok (.isub, 1) := by decide +kernel
theorem dX13_turnedOver_20 : decode cX13_turnedOver 20 = .ok (.ishl, 1) := by decide +kernel
theorem dX13_turnedOver_21 : decode cX13_turnedOver 21 = .ok (.ior, 1) := by decide +kernel
theorem dX13_turnedOver_22 : decode cX13_turnedOver 22 = .ok (.istore_n 2, 1) := by decide +kernel
theorem dX13_turnedOver_23 : decode cX13_turnedOver 23 = .ok (.iinc 3 1, 3) := by decide +kernel
theorem dX13_turnedOver_26 : decode cX13_turnedOver 26 = .ok (.goto (-22), 3) := by decide +kernel
theorem dX13_turnedOver_29 : decode cX13_turnedOver 29 = .ok (.iload_n 2, 1) := by decide +kernel
theorem dX13_turnedOver_30 : decode cX13_turnedOver 30 = .ok (.ireturn, 1) := by decide +kernel
set_option maxRecDepth 100000 in
set_option maxHeartbeats 4000000 in
theorem wp_X13_turnedOver {n0 d : Nat} {K : z_K} {I : z_I} {L : z_L} {Q : z_q} {p0 : Int32} {p1 : Int32} (hL : MLay K) (h : Z n0 xX13_turnedOver d 0 0 4 [(0, .int p0), (1, .int p1), (2, .int 0), (3, .int 0)] [] K I L (z_q0 K Q)) : RM0 n0 xX13_turnedOver d [.int p0, .int p1] K I L Q := by
  refine z_entry0 (by decide) (Nat.le_of_ble_eq_true rfl) ?_
  change Z n0 xX13_turnedOver d 0 0 0 [(0, .int p0), (1, .int p1)] [] K I L (z_q0 K Q)
  refine z_iconst 0 dX13_turnedOver_0 (by decide) ?_
  refine z_istore_n [1, 2, 0] [(0, .int p0), (1, .int p1), (2, .int 0)] dX13_turnedOver_1 (by decide) rfl ?_
  refine z_iconst 0 dX13_turnedOver_2 (by decide) ?_
  refine z_istore_n [1, 2, 3, 0] [(0, .int p0), (1, .int p1), (2, .int 0), (3, .int 0)] dX13_turnedOver_3 (by decide) rfl ?_
  exact h
set_option maxRecDepth 100000 in
set_option maxHeartbeats 4000000 in
theorem wp_X13_turnedOver_4 {n0 d : Nat} {rc rs : Nat} {K : z_K} {I : z_I} {L : z_L} {Q : z_q} {a0 : Int32} {a1 : Int32} {a2 : Int32} {a3 : Int32} (hL : MLay K) (h : (if a3 < a1 then Z n0 xX13_turnedOver d rc rs 4 [(0, .int a0), (1, .int a1), (2, .int (a2 ||| (((((a0 : Int32) >>> (a3 &&& 31 : Int32)) &&& 1) : Int32) <<< (((a1 - 1) - a3) &&& 31 : Int32)))), (3, .int (a3 + 1))] [] K I L (z_q0 K Q) else Q (some (.int a2)) I L)) : Z n0 xX13_turnedOver d rc rs 4 [(0, .int a0), (1, .int a1), (2, .int a2), (3, .int a3)] [] K I L (z_q0 K Q) := by
  refine z_iload_n 3 dX13_turnedOver_4 rfl ?_
  refine z_iload_n 1 dX13_turnedOver_5 rfl ?_
  refine z_icmp_ge 29 dX13_turnedOver_6 (by decide) (fun g1 => ?_) (fun g1 => ?_)
  · rw [if_neg g1] at h
    refine z_iload_n 2 dX13_turnedOver_29 rfl ?_
    exact z_iret dX13_turnedOver_30 rfl ⟨rfl, h⟩
  · rw [if_pos g1] at h
    refine z_iload_n 2 dX13_turnedOver_9 rfl ?_
    refine z_iload_n 0 dX13_turnedOver_10 rfl ?_
    refine z_iload_n 3 dX13_turnedOver_11 rfl ?_
    refine z_ishr dX13_turnedOver_12 ?_
    refine z_iconst 1 dX13_turnedOver_13 (by decide) ?_
    refine z_iand dX13_turnedOver_14 ?_
    refine z_iload_n 1 dX13_turnedOver_15 rfl ?_
    refine z_iconst 1 dX13_turnedOver_16 (by decide) ?_
    refine z_isub dX13_turnedOver_17 ?_
    refine z_iload_n 3 dX13_turnedOver_18 rfl ?_
    refine z_isub dX13_turnedOver_19 ?_
    refine z_ishl dX13_turnedOver_20 ?_
    refine z_ior dX13_turnedOver_21 ?_
    refine z_istore_n [1, 2, 0, 3] [(0, .int a0), (1, .int a1), (2, .int (a2 ||| (((((a0 : Int32) >>> (a3 &&& 31 : Int32)) &&& 1) : Int32) <<< (((a1 - 1) - a3) &&& 31 : Int32)))), (3, .int a3)] dX13_turnedOver_22 (by decide) rfl ?_
    refine z_iinc (j := 3) (a3 + 1) [1, 2, 3, 0] [(0, .int a0), (1, .int a1), (2, .int (a2 ||| (((((a0 : Int32) >>> (a3 &&& 31 : Int32)) &&& 1) : Int32) <<< (((a1 - 1) - a3) &&& 31 : Int32)))), (3, .int (a3 + 1))] dX13_turnedOver_23 rfl rfl (by decide) rfl ?_
    refine z_goto 4 dX13_turnedOver_26 (by decide) ?_
    exact h
theorem dX13_findTurned_0 : decode cX13_findTurned 0 = .ok (.iconst 0, 1) := by decide +kernel
theorem dX13_findTurned_1 : decode cX13_findTurned 1 = .ok (.istore_n 1, 1) := by decide +kernel
theorem dX13_findTurned_2 : decode cX13_findTurned 2 = .ok (.iload_n 1, 1) := by decide +kernel
theorem dX13_findTurned_3 : decode cX13_findTurned 3 = .ok (.aload_n 0, 1) := by decide +kernel
theorem dX13_findTurned_4 : decode cX13_findTurned 4 = .ok (.getfield 573, 3) := by decide +kernel
theorem dX13_findTurned_7 : decode cX13_findTurned 7 = .ok (.if_icmp .ge 102, 3) := by decide +kernel
theorem dX13_findTurned_10 : decode cX13_findTurned 10 = .ok (.iconst 0, 1) := by decide +kernel
theorem dX13_findTurned_11 : decode cX13_findTurned 11 = .ok (.istore_n 2, 1) := by decide +kernel
theorem dX13_findTurned_12 : decode cX13_findTurned 12 = .ok (.iload_n 2, 1) := by decide +kernel
theorem dX13_findTurned_13 : decode cX13_findTurned 13 = .ok (.bipush 24, 2) := by decide +kernel
theorem dX13_findTurned_15 : decode cX13_findTurned 15 = .ok (.if_icmp .ge 88, 3) := by decide +kernel
theorem dX13_findTurned_18 : decode cX13_findTurned 18 = .ok (.aload_n 0, 1) := by decide +kernel
theorem dX13_findTurned_19 : decode cX13_findTurned 19 = .ok (.getfield 222, 3) := by decide +kernel
theorem dX13_findTurned_22 : decode cX13_findTurned 22 = .ok (.bipush 48, 2) := by decide +kernel
theorem dX13_findTurned_24 : decode cX13_findTurned 24 = .ok (.iload_n 1, 1) := by decide +kernel
theorem dX13_findTurned_25 : decode cX13_findTurned 25 = .ok (.imul, 1) := by decide +kernel
theorem dX13_findTurned_26 : decode cX13_findTurned 26 = .ok (.iload_n 2, 1) := by decide +kernel
theorem dX13_findTurned_27 : decode cX13_findTurned 27 = .ok (.iadd, 1) := by decide +kernel
theorem dX13_findTurned_28 : decode cX13_findTurned 28 = .ok (.aload_n 0, 1) := by decide +kernel
theorem dX13_findTurned_29 : decode cX13_findTurned 29 = .ok (.getfield 189, 3) := by decide +kernel
theorem dX13_findTurned_32 : decode cX13_findTurned 32 = .ok (.bipush 24, 2) := by decide +kernel
theorem dX13_findTurned_34 : decode cX13_findTurned 34 = .ok (.iload_n 1, 1) := by decide +kernel
theorem dX13_findTurned_35 : decode cX13_findTurned 35 = .ok (.imul, 1) := by decide +kernel
theorem dX13_findTurned_36 : decode cX13_findTurned 36 = .ok (.iload_n 2, 1) := by decide +kernel
theorem dX13_findTurned_37 : decode cX13_findTurned 37 = .ok (.iadd, 1) := by decide +kernel
theorem dX13_findTurned_38 : decode cX13_findTurned 38 = .ok (.iaload, 1) := by decide +kernel
theorem dX13_findTurned_39 : decode cX13_findTurned 39 = .ok (.iastore, 1) := by decide +kernel
theorem dX13_findTurned_40 : decode cX13_findTurned 40 = .ok (.aload_n 0, 1) := by decide +kernel
theorem dX13_findTurned_41 : decode cX13_findTurned 41 = .ok (.getfield 222, 3) := by decide +kernel
theorem dX13_findTurned_44 : decode cX13_findTurned 44 = .ok (.bipush 48, 2) := by decide +kernel
theorem dX13_findTurned_46 : decode cX13_findTurned 46 = .ok (.iload_n 1, 1) := by decide +kernel
theorem dX13_findTurned_47 : decode cX13_findTurned 47 = .ok (.imul, 1) := by decide +kernel
theorem dX13_findTurned_48 : decode cX13_findTurned 48 = .ok (.bipush 24, 2) := by decide +kernel
theorem dX13_findTurned_50 : decode cX13_findTurned 50 = .ok (.iadd, 1) := by decide +kernel
theorem dX13_findTurned_51 : decode cX13_findTurned 51 = .ok (.iload_n 2, 1) := by decide +kernel
theorem dX13_findTurned_52 : decode cX13_findTurned 52 = .ok (.iadd, 1) := by decide +kernel
theorem dX13_findTurned_53 : decode cX13_findTurned 53 = .ok (.iload_n 2, 1) := by decide +kernel
theorem dX13_findTurned_54 : decode cX13_findTurned 54 = .ok (.aload_n 0, 1) := by decide +kernel
theorem dX13_findTurned_55 : decode cX13_findTurned 55 = .ok (.getfield 192, 3) := by decide +kernel
theorem dX13_findTurned_58 : decode cX13_findTurned 58 = .ok (.iload_n 1, 1) := by decide +kernel
theorem dX13_findTurned_59 : decode cX13_findTurned 59 = .ok (.iaload, 1) := by decide +kernel
theorem dX13_findTurned_60 : decode cX13_findTurned 60 = .ok (.if_icmp .ge 35, 3) := by decide +kernel
theorem dX13_findTurned_63 : decode cX13_findTurned 63 = .ok (.aload_n 0, 1) := by decide +kernel
theorem dX13_findTurned_64 : decode cX13_findTurned 64 = .ok (.getfield 189, 3) := by decide +kernel
theorem dX13_findTurned_67 : decode cX13_findTurned 67 = .ok (.bipush 24, 2) := by decide +kernel
theorem dX13_findTurned_69 : decode cX13_findTurned 69 = .ok (.iload_n 1, 1) := by decide +kernel
theorem dX13_findTurned_70 : decode cX13_findTurned 70 = .ok (.imul, 1) := by decide +kernel
theorem dX13_findTurned_71 : decode cX13_findTurned 71 = .ok (.aload_n 0, 1) := by decide +kernel
theorem dX13_findTurned_72 : decode cX13_findTurned 72 = .ok (.getfield 192, 3) := by decide +kernel
theorem dX13_findTurned_75 : decode cX13_findTurned 75 = .ok (.iload_n 1, 1) := by decide +kernel
theorem dX13_findTurned_76 : decode cX13_findTurned 76 = .ok (.iaload, 1) := by decide +kernel
theorem dX13_findTurned_77 : decode cX13_findTurned 77 = .ok (.iadd, 1) := by decide +kernel
theorem dX13_findTurned_78 : decode cX13_findTurned 78 = .ok (.iconst 1, 1) := by decide +kernel
theorem dX13_findTurned_79 : decode cX13_findTurned 79 = .ok (.isub, 1) := by decide +kernel
theorem dX13_findTurned_80 : decode cX13_findTurned 80 = .ok (.iload_n 2, 1) := by decide +kernel
theorem dX13_findTurned_81 : decode cX13_findTurned 81 = .ok (.isub, 1) := by decide +kernel
theorem dX13_findTurned_82 : decode cX13_findTurned 82 = .ok (.iaload, 1) := by decide +kernel
theorem dX13_findTurned_83 : decode cX13_findTurned 83 = .ok (.aload_n 0, 1) := by decide +kernel
theorem dX13_findTurned_84 : decode cX13_findTurned 84 = .ok (.getfield 195, 3) := by decide +kernel
theorem dX13_findTurned_87 : decode cX13_findTurned 87 = .ok (.iload_n 1, 1) := by decide +kernel
theorem dX13_findTurned_88 : decode cX13_findTurned 88 = .ok (.iaload, 1) := by decide +kernel
theorem dX13_findTurned_89 : decode cX13_findTurned 89 = .ok (.invokestatic 576, 3) := by decide +kernel
theorem dX13_findTurned_92 : decode cX13_findTurned 92 = .ok (.goto 4, 3) := by decide +kernel
theorem dX13_findTurned_95 : decode cX13_findTurned 95 = .ok (.iconst 0, 1) := by decide +kernel
theorem dX13_findTurned_96 : decode cX13_findTurned 96 = .ok (.iastore, 1) := by decide +kernel
theorem dX13_findTurned_97 : decode cX13_findTurned 97 = .ok (.iinc 2 1, 3) := by decide +kernel
theorem dX13_findTurned_100 : decode cX13_findTurned 100 = .ok (.goto (-88), 3) := by decide +kernel
theorem dX13_findTurned_103 : decode cX13_findTurned 103 = .ok (.iinc 1 1, 3) := by decide +kernel
theorem dX13_findTurned_106 : decode cX13_findTurned 106 = .ok (.goto (-104), 3) := by decide +kernel
theorem dX13_findTurned_109 : decode cX13_findTurned 109 = .ok (.return_, 1) := by decide +kernel
set_option maxRecDepth 100000 in
set_option maxHeartbeats 4000000 in
theorem wp_X13_findTurned {n0 d : Nat} {K : z_K} {I : z_I} {L : z_L} {Q : z_q}  (hL : MLay K) (h : Z n0 xX13_findTurned (d + 1) 0 0 2 [(0, .ref (n0 + 59)), (1, .int 0)] [] K I L (z_q0 K Q)) : RM0 n0 xX13_findTurned (d + 1) [.ref (n0 + 59)] K I L Q := by
  refine z_entry0 (by decide) (Nat.le_of_ble_eq_true rfl) ?_
  change Z n0 xX13_findTurned (d + 1) 0 0 0 [(0, .ref (n0 + 59))] [] K I L (z_q0 K Q)
  refine z_iconst 0 dX13_findTurned_0 (by decide) ?_
  refine z_istore_n [1, 0] [(0, .ref (n0 + 59)), (1, .int 0)] dX13_findTurned_1 (by decide) rfl ?_
  exact h
set_option maxRecDepth 100000 in
set_option maxHeartbeats 4000000 in
theorem wp_X13_findTurned_2 {n0 d : Nat} {rc rs : Nat} {K : z_K} {I : z_I} {L : z_L} {Q : z_q} {a1 : Int32} (hL : MLay K) (h : (if a1 < (I 59 89) then Z n0 xX13_findTurned (d + 1) rc rs 12 [(0, .ref (n0 + 59)), (1, .int a1), (2, .int 0)] [] K I L (z_q0 K Q) else Q none I L)) : Z n0 xX13_findTurned (d + 1) rc rs 2 [(0, .ref (n0 + 59)), (1, .int a1)] [] K I L (z_q0 K Q) := by
  refine z_iload_n 1 dX13_findTurned_2 rfl ?_
  refine z_aload_n 0 dX13_findTurned_3 rfl ?_
  refine fg_13_573 (I 59 89) rfl dX13_findTurned_4 hL.1 hL.2.1 rfl ?_
  refine z_icmp_ge 109 dX13_findTurned_7 (by decide) (fun g1 => ?_) (fun g1 => ?_)
  · rw [if_neg g1] at h
    exact z_vret dX13_findTurned_109 rfl ⟨rfl, h⟩
  · rw [if_pos g1] at h
    refine z_iconst 0 dX13_findTurned_10 (by decide) ?_
    refine z_istore_n [1, 2, 0] [(0, .ref (n0 + 59)), (1, .int a1), (2, .int 0)] dX13_findTurned_11 (by decide) rfl ?_
    exact h
set_option maxRecDepth 100000 in
set_option maxHeartbeats 4000000 in
theorem wp_X13_findTurned_12 {n0 d : Nat} {rc rs : Nat} {K : z_K} {I : z_I} {L : z_L} {Q : z_q} {a1 : Int32} {a2 : Int32} (hL : MLay K) (h : (if a2 < 24 then vp_in ((24 * a1) + a2) 96 ∧ vp_in ((48 * a1) + a2) 192 ∧ vp_in a1 4 ∧ (if a2 < (I 120 a1.toNatClampNeg) then vp_in ((((24 * a1) + (I 120 a1.toNatClampNeg)) - 1) - a2) 96 ∧ RM0 n0 xX13_turnedOver d [.int (I 119 (((((24 * a1) + (I 120 a1.toNatClampNeg)) - 1) - a2).toNatClampNeg)), .int (I 121 a1.toNatClampNeg)] K (zI I 130 (((48 * a1) + a2).toNatClampNeg) (I 119 (((24 * a1) + a2).toNatClampNeg))) L (fun vv I8 L9 => ∃ r10 : Int32, vv = some (.int r10) ∧ vp_in (((48 * a1) + 24) + a2) 192 ∧ Z n0 xX13_findTurned (d + 1) rc rs 12 [(0, .ref (n0 + 59)), (1, .int a1), (2, .int (a2 + 1))] [] K (zI I8 130 ((((48 * a1) + 24) + a2).toNatClampNeg) r10) L9 (z_q0 K Q)) else vp_in (((48 * a1) + 24) + a2) 192 ∧ Z n0 xX13_findTurned (d + 1) rc rs 12 [(0, .ref (n0 + 59)), (1, .int a1), (2, .int (a2 + 1))] [] K (zI (zI I 130 (((48 * a1) + a2).toNatClampNeg) (I 119 (((24 * a1) + a2).toNatClampNeg))) 130 ((((48 * a1) + 24) + a2).toNatClampNeg) 0) L (z_q0 K Q)) else Z n0 xX13_findTurned (d + 1) rc rs 2 [(0, .ref (n0 + 59)), (1, .int (a1 + 1))] [] K I L (z_q0 K Q))) : Z n0 xX13_findTurned (d + 1) rc rs 12 [(0, .ref (n0 + 59)), (1, .int a1), (2, .int a2)] [] K I L (z_q0 K Q) := by
  refine z_iload_n 2 dX13_findTurned_12 rfl ?_
  refine z_bipush 24 dX13_findTurned_13 (by decide) ?_
  refine z_icmp_ge 103 dX13_findTurned_15 (by decide) (fun g1 => ?_) (fun g1 => ?_)
  · rw [if_neg g1] at h
    refine z_iinc (j := 1) (a1 + 1) [1, 0, 2] [(0, .ref (n0 + 59)), (1, .int (a1 + 1)), (2, .int a2)] dX13_findTurned_103 rfl rfl (by decide) rfl ?_
    refine z_goto 2 dX13_findTurned_106 (by decide) ?_
    refine z_sub [0, 1] rfl ?_
    exact h
  · rw [if_pos g1] at h
    refine z_aload_n 0 dX13_findTurned_18 rfl ?_
    refine fg_13_222 (some 130) rfl dX13_findTurned_19 hL.1 hL.2.1 (ma_103 hL).1 ?_
    refine z_bipush 48 dX13_findTurned_22 (by decide) ?_
    refine z_iload_n 1 dX13_findTurned_24 rfl ?_
    refine z_imul dX13_findTurned_25 ?_
    refine z_iload_n 2 dX13_findTurned_26 rfl ?_
    refine z_iadd dX13_findTurned_27 ?_
    refine z_aload_n 0 dX13_findTurned_28 rfl ?_
    refine fg_13_189 (some 119) rfl dX13_findTurned_29 hL.1 hL.2.1 (ma_92 hL).1 ?_
    refine z_bipush 24 dX13_findTurned_32 (by decide) ?_
    refine z_iload_n 1 dX13_findTurned_34 rfl ?_
    refine z_imul dX13_findTurned_35 ?_
    refine z_iload_n 2 dX13_findTurned_36 rfl ?_
    refine z_iadd dX13_findTurned_37 ?_
    obtain ⟨o2, h⟩ := h
    refine z_iald (I 119 (((24 * a1) + a2).toNatClampNeg)) dX13_findTurned_38 (ma_92 hL).2.1 (ma_92 hL).2.2 o2 rfl ?_
    obtain ⟨o3, h⟩ := h
    refine z_iast dX13_findTurned_39 (ma_103 hL).2.1 (ma_103 hL).2.2 o3 ?_
    refine z_aload_n 0 dX13_findTurned_40 rfl ?_
    refine fg_13_222 (some 130) rfl dX13_findTurned_41 hL.1 hL.2.1 (ma_103 hL).1 ?_
    refine z_bipush 48 dX13_findTurned_44 (by decide) ?_
    refine z_iload_n 1 dX13_findTurned_46 rfl ?_
    refine z_imul dX13_findTurned_47 ?_
    refine z_bipush 24 dX13_findTurned_48 (by decide) ?_
    refine z_iadd dX13_findTurned_50 ?_
    refine z_iload_n 2 dX13_findTurned_51 rfl ?_
    refine z_iadd dX13_findTurned_52 ?_
    refine z_iload_n 2 dX13_findTurned_53 rfl ?_
    refine z_aload_n 0 dX13_findTurned_54 rfl ?_
    refine fg_13_192 (some 120) rfl dX13_findTurned_55 hL.1 hL.2.1 (ma_93 hL).1 ?_
    refine z_iload_n 1 dX13_findTurned_58 rfl ?_
    obtain ⟨o4, h⟩ := h
    refine z_iald (I 120 a1.toNatClampNeg) dX13_findTurned_59 (ma_93 hL).2.1 (ma_93 hL).2.2 o4 rfl ?_
    refine z_icmp_ge 95 dX13_findTurned_60 (by decide) (fun g5 => ?_) (fun g5 => ?_)
    · rw [if_neg g5] at h
      refine z_iconst 0 dX13_findTurned_95 (by decide) ?_
      obtain ⟨o6, h⟩ := h
      refine z_iast dX13_findTurned_96 (ma_103 hL).2.1 (ma_103 hL).2.2 o6 ?_
      refine z_iinc (j := 2) (a2 + 1) [1, 2, 0] [(0, .ref (n0 + 59)), (1, .int a1), (2, .int (a2 + 1))] dX13_findTurned_97 rfl rfl (by decide) rfl ?_
      refine z_goto 12 dX13_findTurned_100 (by decide) ?_
      exact h
    · rw [if_pos g5] at h
      refine z_aload_n 0 dX13_findTurned_63 rfl ?_
      refine fg_13_189 (some 119) rfl dX13_findTurned_64 hL.1 hL.2.1 (ma_92 hL).1 ?_
      refine z_bipush 24 dX13_findTurned_67 (by decide) ?_
      refine z_iload_n 1 dX13_findTurned_69 rfl ?_
      refine z_imul dX13_findTurned_70 ?_
      refine z_aload_n 0 dX13_findTurned_71 rfl ?_
      refine fg_13_192 (some 120) rfl dX13_findTurned_72 hL.1 hL.2.1 (ma_93 hL).1 ?_
      refine z_iload_n 1 dX13_findTurned_75 rfl ?_
      refine z_iald (I 120 a1.toNatClampNeg) dX13_findTurned_76 (ma_93 hL).2.1 (ma_93 hL).2.2 o4 rfl ?_
      refine z_iadd dX13_findTurned_77 ?_
      refine z_iconst 1 dX13_findTurned_78 (by decide) ?_
      refine z_isub dX13_findTurned_79 ?_
      refine z_iload_n 2 dX13_findTurned_80 rfl ?_
      refine z_isub dX13_findTurned_81 ?_
      obtain ⟨o7, h⟩ := h
      refine z_iald (I 119 (((((24 * a1) + (I 120 a1.toNatClampNeg)) - 1) - a2).toNatClampNeg)) dX13_findTurned_82 (ma_92 hL).2.1 (ma_92 hL).2.2 o7 rfl ?_
      refine z_aload_n 0 dX13_findTurned_83 rfl ?_
      refine fg_13_195 (some 121) rfl dX13_findTurned_84 hL.1 hL.2.1 (ma_94 hL).1 ?_
      refine z_iload_n 1 dX13_findTurned_87 rfl ?_
      refine z_iald (I 121 a1.toNatClampNeg) dX13_findTurned_88 (ma_94 hL).2.1 (ma_94 hL).2.2 o4 rfl ?_
      refine z_callS0 (As := [.int (I 119 (((((24 * a1) + (I 120 a1.toNatClampNeg)) - 1) - a2).toNatClampNeg)), .int (I 121 a1.toNatClampNeg)]) (st := [.int (((48 * a1) + 24) + a2), .ref (n0 + 130)]) dX13_findTurned_89 hy_X13_turnedOver wg_2126 wg_2127 (Nat.le_refl _) (Nat.le_of_ble_eq_true rfl) (RM0.mono h (fun vv I8 L9 h => ?_))
      obtain ⟨r10, rfl, h⟩ := h
      change Z n0 xX13_findTurned (d + 1) rc rs 92 [(0, .ref (n0 + 59)), (1, .int a1), (2, .int a2)] [.int r10, .int (((48 * a1) + 24) + a2), .ref (n0 + 130)] K I8 L9 (z_q0 K Q)
      refine z_goto 96 dX13_findTurned_92 (by decide) ?_
      obtain ⟨o11, h⟩ := h
      refine z_iast dX13_findTurned_96 (ma_103 hL).2.1 (ma_103 hL).2.2 o11 ?_
      refine z_iinc (j := 2) (a2 + 1) [1, 2, 0] [(0, .ref (n0 + 59)), (1, .int a1), (2, .int (a2 + 1))] dX13_findTurned_97 rfl rfl (by decide) rfl ?_
      refine z_goto 12 dX13_findTurned_100 (by decide) ?_
      exact h
theorem dX13_canLie_0 : decode cX13_canLie 0 = .ok (.iload 4, 2) := by decide +kernel
theorem dX13_canLie_2 : decode cX13_canLie 2 = .ok (.iconst 1, 1) := by decide +kernel
theorem dX13_canLie_3 : decode cX13_canLie 3 = .ok (.if_icmp .gt 49, 3) := by decide +kernel
theorem dX13_canLie_6 : decode cX13_canLie 6 = .ok (.iload 4, 2) := by decide +kernel
theorem dX13_canLie_8 : decode cX13_canLie 8 = .ok (.iconst 1, 1) := by decide +kernel
theorem dX13_canLie_9 : decode cX13_canLie 9 = .ok (.if_icmp .ne 13, 3) := by decide +kernel
theorem dX13_canLie_12 : decode cX13_canLie 12 = .ok (.aload_n 0, 1) := by decide +kernel
theorem dX13_canLie_13 : decode cX13_canLie 13 = .ok (.getfield 171, 3) := by decide +kernel
theorem dX13_canLie_16 : decode cX13_canLie 16 = .ok (.iconst 2, 1) := by decide +kernel
theorem dX13_canLie_17 : decode cX13_canLie 17 = .ok (.iaload, 1) := by decide +kernel
theorem dX13_canLie_18 : decode cX13_canLie 18 = .ok (.iconst 1, 1) := by decide +kernel
theorem dX13_canLie_19 : decode cX13_canLie 19 = .ok (.if_icmp .eq 33, 3) := by decide +kernel
theorem dX13_canLie_22 : decode cX13_canLie 22 = .ok (.iload_n 2, 1) := by decide +kernel
theorem dX13_canLie_23 : decode cX13_canLie 23 = .ok (.aload_n 0, 1) := by decide +kernel
theorem dX13_canLie_24 : decode cX13_canLie 24 = .ok (.getfield 192, 3) := by decide +kernel
theorem dX13_canLie_27 : decode cX13_canLie 27 = .ok (.iload_n 1, 1) := by decide +kernel
theorem dX13_canLie_28 : decode cX13_canLie 28 = .ok (.iaload, 1) := by decide +kernel
theorem dX13_canLie_29 : decode cX13_canLie 29 = .ok (.iadd, 1) := by decide +kernel
theorem dX13_canLie_30 : decode cX13_canLie 30 = .ok (.bipush 96, 2) := by decide +kernel
theorem dX13_canLie_32 : decode cX13_canLie 32 = .ok (.if_icmp .gt 20, 3) := by decide +kernel
theorem dX13_canLie_35 : decode cX13_canLie 35 = .ok (.iload_n 3, 1) := by decide +kernel
theorem dX13_canLie_36 : decode cX13_canLie 36 = .ok (.aload_n 0, 1) := by decide +kernel
theorem dX13_canLie_37 : decode cX13_canLie 37 = .ok (.getfield 195, 3) := by decide +kernel
theorem dX13_canLie_40 : decode cX13_canLie 40 = .ok (.iload_n 1, 1) := by decide +kernel
theorem dX13_canLie_41 : decode cX13_canLie 41 = .ok (.iaload, 1) := by decide +kernel
theorem dX13_canLie_42 : decode cX13_canLie 42 = .ok (.iadd, 1) := by decide +kernel
theorem dX13_canLie_43 : decode cX13_canLie 43 = .ok (.aload_n 0, 1) := by decide +kernel
theorem dX13_canLie_44 : decode cX13_canLie 44 = .ok (.getfield 171, 3) := by decide +kernel
theorem dX13_canLie_47 : decode cX13_canLie 47 = .ok (.iconst 0, 1) := by decide +kernel
theorem dX13_canLie_48 : decode cX13_canLie 48 = .ok (.iaload, 1) := by decide +kernel
theorem dX13_canLie_49 : decode cX13_canLie 49 = .ok (.if_icmp .le 5, 3) := by decide +kernel
theorem dX13_canLie_52 : decode cX13_canLie 52 = .ok (.iconst 0, 1) := by decide +kernel
theorem dX13_canLie_53 : decode cX13_canLie 53 = .ok (.ireturn, 1) := by decide +kernel
theorem dX13_canLie_54 : decode cX13_canLie 54 = .ok (.aload_n 0, 1) := by decide +kernel
theorem dX13_canLie_55 : decode cX13_canLie 55 = .ok (.getfield 171, 3) := by decide +kernel
theorem dX13_canLie_58 : decode cX13_canLie 58 = .ok (.iconst 3, 1) := by decide +kernel
theorem dX13_canLie_59 : decode cX13_canLie 59 = .ok (.iaload, 1) := by decide +kernel
theorem dX13_canLie_60 : decode cX13_canLie 60 = .ok (.ifCond .le 16, 3) := by decide +kernel
theorem dX13_canLie_63 : decode cX13_canLie 63 = .ok (.iload_n 2, 1) := by decide +kernel
theorem dX13_canLie_64 : decode cX13_canLie 64 = .ok (.aload_n 0, 1) := by decide +kernel
theorem dX13_canLie_65 : decode cX13_canLie 65 = .ok (.getfield 171, 3) := by decide +kernel
theorem dX13_canLie_68 : decode cX13_canLie 68 = .ok (.iconst 3, 1) := by decide +kernel
theorem dX13_canLie_69 : decode cX13_canLie 69 = .ok (.iaload, 1) := by decide +kernel
theorem dX13_canLie_70 : decode cX13_canLie 70 = .ok (.irem, 1) := by decide +kernel
theorem dX13_canLie_71 : decode cX13_canLie 71 = .ok (.ifCond .eq 5, 3) := by decide +kernel
theorem dX13_canLie_74 : decode cX13_canLie 74 = .ok (.iconst 0, 1) := by decide +kernel
theorem dX13_canLie_75 : decode cX13_canLie 75 = .ok (.ireturn, 1) := by decide +kernel
theorem dX13_canLie_76 : decode cX13_canLie 76 = .ok (.iconst 0, 1) := by decide +kernel
theorem dX13_canLie_77 : decode cX13_canLie 77 = .ok (.istore 5, 2) := by decide +kernel
theorem dX13_canLie_79 : decode cX13_canLie 79 = .ok (.iload 5, 2) := by decide +kernel
theorem dX13_canLie_81 : decode cX13_canLie 81 = .ok (.aload_n 0, 1) := by decide +kernel
theorem dX13_canLie_82 : decode cX13_canLie 82 = .ok (.getfield 192, 3) := by decide +kernel
theorem dX13_canLie_85 : decode cX13_canLie 85 = .ok (.iload_n 1, 1) := by decide +kernel
theorem dX13_canLie_86 : decode cX13_canLie 86 = .ok (.iaload, 1) := by decide +kernel
theorem dX13_canLie_87 : decode cX13_canLie 87 = .ok (.if_icmp .ge 44, 3) := by decide +kernel
theorem dX13_canLie_90 : decode cX13_canLie 90 = .ok (.aload_n 0, 1) := by decide +kernel
theorem dX13_canLie_91 : decode cX13_canLie 91 = .ok (.getfield 201, 3) := by decide +kernel
theorem dX13_canLie_94 : decode cX13_canLie 94 = .ok (.iload_n 2, 1) := by decide +kernel
theorem dX13_canLie_95 : decode cX13_canLie 95 = .ok (.iload 5, 2) := by decide +kernel
theorem dX13_canLie_97 : decode cX13_canLie 97 = .ok (.iadd, 1) := by decide +kernel
theorem dX13_canLie_98 : decode cX13_canLie 98 = .ok (.iaload, 1) := by decide +kernel
theorem dX13_canLie_99 : decode cX13_canLie 99 = .ok (.aload_n 0, 1) := by decide +kernel
theorem dX13_canLie_100 : decode cX13_canLie 100 = .ok (.getfield 222, 3) := by decide +kernel
theorem dX13_canLie_103 : decode cX13_canLie 103 = .ok (.bipush 48, 2) := by decide +kernel
theorem dX13_canLie_105 : decode cX13_canLie 105 = .ok (.iload_n 1, 1) := by decide +kernel
theorem dX13_canLie_106 : decode cX13_canLie 106 = .ok (.imul, 1) := by decide +kernel
theorem dX13_canLie_107 : decode cX13_canLie 107 = .ok (.bipush 24, 2) := by decide +kernel
theorem dX13_canLie_109 : decode cX13_canLie 109 = .ok (.iload 4, 2) := by decide +kernel
theorem dX13_canLie_111 : decode cX13_canLie 111 = .ok (.imul, 1) := by decide +kernel
theorem dX13_canLie_112 : decode cX13_canLie 112 = .ok (.iadd, 1) := by decide +kernel
theorem dX13_canLie_113 : decode cX13_canLie 113 = .ok (.iload 5, 2) := by decide +kernel
theorem dX13_canLie_115 : decode cX13_canLie 115 = .ok (.iadd, 1) := by decide +kernel
theorem dX13_canLie_116 : decode cX13_canLie 116 = .ok (.iaload, 1) := by decide +kernel
theorem dX13_canLie_117 : decode cX13_canLie 117 = .ok (.iload_n 3, 1) := by decide +kernel
theorem dX13_canLie_118 : decode cX13_canLie 118 = .ok (.ishl, 1) := by decide +kernel
theorem dX13_canLie_119 : decode cX13_canLie 119 = .ok (.iand, 1) := by decide +kernel
theorem dX13_canLie_120 : decode cX13_canLie 120 = .ok (.ifCond .eq 5, 3) := by decide +kernel
theorem dX13_canLie_123 : decode cX13_canLie 123 = .ok (.iconst 0, 1) := by decide +kernel
theorem dX13_canLie_124 : decode cX13_canLie 124 = .ok (.ireturn, 1) := by decide +kernel
theorem dX13_canLie_125 : decode cX13_canLie 125 = .ok (.iinc 5 1, 3) := by decide +kernel
theorem dX13_canLie_128 : decode cX13_canLie 128 = .ok (.goto (-49), 3) := by decide +kernel
theorem dX13_canLie_131 : decode cX13_canLie 131 = .ok (.iconst 1, 1) := by decide +kernel
theorem dX13_canLie_132 : decode cX13_canLie 132 = .ok (.ireturn, 1) := by decide +kernel
set_option maxRecDepth 100000 in
set_option maxHeartbeats 4000000 in
theorem wp_X13_canLie {n0 d : Nat} {K : z_K} {I : z_I} {L : z_L} {Q : z_q} {p0 : Int32} {p1 : Int32} {p2 : Int32} {p3 : Int32} (hL : MLay K) (h : (if 1 < p3 then Q (some (.int 0)) I L else (if p3 = 1 then (if ((I 113 2) : Int32) = 1 then Q (some (.int 0)) I L else vp_in p0 4 ∧ (if 96 < ((p1 + (I 120 p0.toNatClampNeg)) : Int32) then Q (some (.int 0)) I L else (if (I 113 0) < ((p2 + (I 121 p0.toNatClampNeg)) : Int32) then Q (some (.int 0)) I L else (if 0 < ((I 113 3) : Int32) then ¬ ((I 113 3) : Int32) = 0 ∧ (if ((p1 - p1 / (I 113 3) * (I 113 3)) : Int32) = 0 then Z n0 xX13_canLie d 0 0 79 [(0, .ref (n0 + 59)), (1, .int p0), (2, .int p1), (3, .int p2), (4, .int p3), (5, .int 0)] [] K I L (z_q0 K Q) else Q (some (.int 0)) I L) else Z n0 xX13_canLie d 0 0 79 [(0, .ref (n0 + 59)), (1, .int p0), (2, .int p1), (3, .int p2), (4, .int p3), (5, .int 0)] [] K I L (z_q0 K Q))))) else vp_in p0 4 ∧ (if 96 < ((p1 + (I 120 p0.toNatClampNeg)) : Int32) then Q (some (.int 0)) I L else (if (I 113 0) < ((p2 + (I 121 p0.toNatClampNeg)) : Int32) then Q (some (.int 0)) I L else (if 0 < ((I 113 3) : Int32) then ¬ ((I 113 3) : Int32) = 0 ∧ (if ((p1 - p1 / (I 113 3) * (I 113 3)) : Int32) = 0 then Z n0 xX13_canLie d 0 0 79 [(0, .ref (n0 + 59)), (1, .int p0), (2, .int p1), (3, .int p2), (4, .int p3), (5, .int 0)] [] K I L (z_q0 K Q) else Q (some (.int 0)) I L) else Z n0 xX13_canLie d 0 0 79 [(0, .ref (n0 + 59)), (1, .int p0), (2, .int p1), (3, .int p2), (4, .int p3), (5, .int 0)] [] K I L (z_q0 K Q))))))) : RM0 n0 xX13_canLie d [.ref (n0 + 59), .int p0, .int p1, .int p2, .int p3] K I L Q := by
  refine z_entry0 (by decide) (Nat.le_of_ble_eq_true rfl) ?_
  change Z n0 xX13_canLie d 0 0 0 [(0, .ref (n0 + 59)), (1, .int p0), (2, .int p1), (3, .int p2), (4, .int p3)] [] K I L (z_q0 K Q)
  refine z_iload 4 dX13_canLie_0 rfl ?_
  refine z_iconst 1 dX13_canLie_2 (by decide) ?_
  refine z_icmp_gt 52 dX13_canLie_3 (by decide) (fun g1 => ?_) (fun g1 => ?_)
  · rw [if_pos g1] at h
    refine z_iconst 0 dX13_canLie_52 (by decide) ?_
    exact z_zretb dX13_canLie_53 rfl (Or.inl rfl) ⟨rfl, h⟩
  · rw [if_neg g1] at h
    refine z_iload 4 dX13_canLie_6 rfl ?_
    refine z_iconst 1 dX13_canLie_8 (by decide) ?_
    refine z_icmp_ne 22 dX13_canLie_9 (by decide) (fun g2 => ?_) (fun g2 => ?_)
    · rw [if_neg g2] at h
      refine z_iload_n 2 dX13_canLie_22 rfl ?_
      refine z_aload_n 0 dX13_canLie_23 rfl ?_
      refine fg_13_192 (some 120) rfl dX13_canLie_24 hL.1 hL.2.1 (ma_93 hL).1 ?_
      refine z_iload_n 1 dX13_canLie_27 rfl ?_
      obtain ⟨o3, h⟩ := h
      refine z_iald (I 120 p0.toNatClampNeg) dX13_canLie_28 (ma_93 hL).2.1 (ma_93 hL).2.2 o3 rfl ?_
      refine z_iadd dX13_canLie_29 ?_
      refine z_bipush 96 dX13_canLie_30 (by decide) ?_
      refine z_icmp_gt 52 dX13_canLie_32 (by decide) (fun g4 => ?_) (fun g4 => ?_)
      · rw [if_pos g4] at h
        refine z_iconst 0 dX13_canLie_52 (by decide) ?_
        exact z_zretb dX13_canLie_53 rfl (Or.inl rfl) ⟨rfl, h⟩
      · rw [if_neg g4] at h
        refine z_iload_n 3 dX13_canLie_35 rfl ?_
        refine z_aload_n 0 dX13_canLie_36 rfl ?_
        refine fg_13_195 (some 121) rfl dX13_canLie_37 hL.1 hL.2.1 (ma_94 hL).1 ?_
        refine z_iload_n 1 dX13_canLie_40 rfl ?_
        refine z_iald (I 121 p0.toNatClampNeg) dX13_canLie_41 (ma_94 hL).2.1 (ma_94 hL).2.2 o3 rfl ?_
        refine z_iadd dX13_canLie_42 ?_
        refine z_aload_n 0 dX13_canLie_43 rfl ?_
        refine fg_13_171 (some 113) rfl dX13_canLie_44 hL.1 hL.2.1 (ma_82 hL).1 ?_
        refine z_iconst 0 dX13_canLie_47 (by decide) ?_
        refine z_iald (I 113 0) dX13_canLie_48 (ma_82 hL).2.1 (ma_82 hL).2.2 (by unfold vp_in; decide) rfl ?_
        refine z_icmp_le 54 dX13_canLie_49 (by decide) (fun g5 => ?_) (fun g5 => ?_)
        · rw [if_neg g5] at h
          refine z_aload_n 0 dX13_canLie_54 rfl ?_
          refine fg_13_171 (some 113) rfl dX13_canLie_55 hL.1 hL.2.1 (ma_82 hL).1 ?_
          refine z_iconst 3 dX13_canLie_58 (by decide) ?_
          refine z_iald (I 113 3) dX13_canLie_59 (ma_82 hL).2.1 (ma_82 hL).2.2 (by unfold vp_in; decide) rfl ?_
          refine z_if_le 76 dX13_canLie_60 (by decide) (fun g6 => ?_) (fun g6 => ?_)
          · rw [if_neg g6] at h
            refine z_iconst 0 dX13_canLie_76 (by decide) ?_
            refine z_istore [1, 2, 3, 4, 5, 0] [(0, .ref (n0 + 59)), (1, .int p0), (2, .int p1), (3, .int p2), (4, .int p3), (5, .int 0)] dX13_canLie_77 (by decide) rfl ?_
            exact h
          · rw [if_pos g6] at h
            refine z_iload_n 2 dX13_canLie_63 rfl ?_
            refine z_aload_n 0 dX13_canLie_64 rfl ?_
            refine fg_13_171 (some 113) rfl dX13_canLie_65 hL.1 hL.2.1 (ma_82 hL).1 ?_
            refine z_iconst 3 dX13_canLie_68 (by decide) ?_
            refine z_iald (I 113 3) dX13_canLie_69 (ma_82 hL).2.1 (ma_82 hL).2.2 (by unfold vp_in; decide) rfl ?_
            obtain ⟨o7, h⟩ := h
            refine z_irem dX13_canLie_70 o7 ?_
            refine z_if_eq 76 dX13_canLie_71 (by decide) (fun g8 => ?_) (fun g8 => ?_)
            · rw [if_pos g8] at h
              refine z_iconst 0 dX13_canLie_76 (by decide) ?_
              refine z_istore [1, 2, 3, 4, 5, 0] [(0, .ref (n0 + 59)), (1, .int p0), (2, .int p1), (3, .int p2), (4, .int p3), (5, .int 0)] dX13_canLie_77 (by decide) rfl ?_
              exact h
            · rw [if_neg g8] at h
              refine z_iconst 0 dX13_canLie_74 (by decide) ?_
              exact z_zretb dX13_canLie_75 rfl (Or.inl rfl) ⟨rfl, h⟩
        · rw [if_pos g5] at h
          refine z_iconst 0 dX13_canLie_52 (by decide) ?_
          exact z_zretb dX13_canLie_53 rfl (Or.inl rfl) ⟨rfl, h⟩
    · rw [if_pos g2] at h
      refine z_aload_n 0 dX13_canLie_12 rfl ?_
      refine fg_13_171 (some 113) rfl dX13_canLie_13 hL.1 hL.2.1 (ma_82 hL).1 ?_
      refine z_iconst 2 dX13_canLie_16 (by decide) ?_
      refine z_iald (I 113 2) dX13_canLie_17 (ma_82 hL).2.1 (ma_82 hL).2.2 (by unfold vp_in; decide) rfl ?_
      refine z_iconst 1 dX13_canLie_18 (by decide) ?_
      refine z_icmp_eq 52 dX13_canLie_19 (by decide) (fun g9 => ?_) (fun g9 => ?_)
      · rw [if_pos g9] at h
        refine z_iconst 0 dX13_canLie_52 (by decide) ?_
        exact z_zretb dX13_canLie_53 rfl (Or.inl rfl) ⟨rfl, h⟩
      · rw [if_neg g9] at h
        refine z_iload_n 2 dX13_canLie_22 rfl ?_
        refine z_aload_n 0 dX13_canLie_23 rfl ?_
        refine fg_13_192 (some 120) rfl dX13_canLie_24 hL.1 hL.2.1 (ma_93 hL).1 ?_
        refine z_iload_n 1 dX13_canLie_27 rfl ?_
        obtain ⟨o10, h⟩ := h
        refine z_iald (I 120 p0.toNatClampNeg) dX13_canLie_28 (ma_93 hL).2.1 (ma_93 hL).2.2 o10 rfl ?_
        refine z_iadd dX13_canLie_29 ?_
        refine z_bipush 96 dX13_canLie_30 (by decide) ?_
        refine z_icmp_gt 52 dX13_canLie_32 (by decide) (fun g11 => ?_) (fun g11 => ?_)
        · rw [if_pos g11] at h
          refine z_iconst 0 dX13_canLie_52 (by decide) ?_
          exact z_zretb dX13_canLie_53 rfl (Or.inl rfl) ⟨rfl, h⟩
        · rw [if_neg g11] at h
          refine z_iload_n 3 dX13_canLie_35 rfl ?_
          refine z_aload_n 0 dX13_canLie_36 rfl ?_
          refine fg_13_195 (some 121) rfl dX13_canLie_37 hL.1 hL.2.1 (ma_94 hL).1 ?_
          refine z_iload_n 1 dX13_canLie_40 rfl ?_
          refine z_iald (I 121 p0.toNatClampNeg) dX13_canLie_41 (ma_94 hL).2.1 (ma_94 hL).2.2 o10 rfl ?_
          refine z_iadd dX13_canLie_42 ?_
          refine z_aload_n 0 dX13_canLie_43 rfl ?_
          refine fg_13_171 (some 113) rfl dX13_canLie_44 hL.1 hL.2.1 (ma_82 hL).1 ?_
          refine z_iconst 0 dX13_canLie_47 (by decide) ?_
          refine z_iald (I 113 0) dX13_canLie_48 (ma_82 hL).2.1 (ma_82 hL).2.2 (by unfold vp_in; decide) rfl ?_
          refine z_icmp_le 54 dX13_canLie_49 (by decide) (fun g12 => ?_) (fun g12 => ?_)
          · rw [if_neg g12] at h
            refine z_aload_n 0 dX13_canLie_54 rfl ?_
            refine fg_13_171 (some 113) rfl dX13_canLie_55 hL.1 hL.2.1 (ma_82 hL).1 ?_
            refine z_iconst 3 dX13_canLie_58 (by decide) ?_
            refine z_iald (I 113 3) dX13_canLie_59 (ma_82 hL).2.1 (ma_82 hL).2.2 (by unfold vp_in; decide) rfl ?_
            refine z_if_le 76 dX13_canLie_60 (by decide) (fun g13 => ?_) (fun g13 => ?_)
            · rw [if_neg g13] at h
              refine z_iconst 0 dX13_canLie_76 (by decide) ?_
              refine z_istore [1, 2, 3, 4, 5, 0] [(0, .ref (n0 + 59)), (1, .int p0), (2, .int p1), (3, .int p2), (4, .int p3), (5, .int 0)] dX13_canLie_77 (by decide) rfl ?_
              exact h
            · rw [if_pos g13] at h
              refine z_iload_n 2 dX13_canLie_63 rfl ?_
              refine z_aload_n 0 dX13_canLie_64 rfl ?_
              refine fg_13_171 (some 113) rfl dX13_canLie_65 hL.1 hL.2.1 (ma_82 hL).1 ?_
              refine z_iconst 3 dX13_canLie_68 (by decide) ?_
              refine z_iald (I 113 3) dX13_canLie_69 (ma_82 hL).2.1 (ma_82 hL).2.2 (by unfold vp_in; decide) rfl ?_
              obtain ⟨o14, h⟩ := h
              refine z_irem dX13_canLie_70 o14 ?_
              refine z_if_eq 76 dX13_canLie_71 (by decide) (fun g15 => ?_) (fun g15 => ?_)
              · rw [if_pos g15] at h
                refine z_iconst 0 dX13_canLie_76 (by decide) ?_
                refine z_istore [1, 2, 3, 4, 5, 0] [(0, .ref (n0 + 59)), (1, .int p0), (2, .int p1), (3, .int p2), (4, .int p3), (5, .int 0)] dX13_canLie_77 (by decide) rfl ?_
                exact h
              · rw [if_neg g15] at h
                refine z_iconst 0 dX13_canLie_74 (by decide) ?_
                exact z_zretb dX13_canLie_75 rfl (Or.inl rfl) ⟨rfl, h⟩
          · rw [if_pos g12] at h
            refine z_iconst 0 dX13_canLie_52 (by decide) ?_
            exact z_zretb dX13_canLie_53 rfl (Or.inl rfl) ⟨rfl, h⟩
set_option maxRecDepth 100000 in
set_option maxHeartbeats 4000000 in
theorem wp_X13_canLie_79 {n0 d : Nat} {rc rs : Nat} {K : z_K} {I : z_I} {L : z_L} {Q : z_q} {a1 : Int32} {a2 : Int32} {a3 : Int32} {a4 : Int32} {a5 : Int32} (hL : MLay K) (h : vp_in a1 4 ∧ (if a5 < (I 120 a1.toNatClampNeg) then vp_in (a2 + a5) 96 ∧ vp_in (((48 * a1) + (24 * a4)) + a5) 192 ∧ (if (((I 123 ((a2 + a5).toNatClampNeg)) &&& (((I 130 ((((48 * a1) + (24 * a4)) + a5).toNatClampNeg)) : Int32) <<< (a3 &&& 31 : Int32))) : Int32) = 0 then Z n0 xX13_canLie d rc rs 79 [(0, .ref (n0 + 59)), (1, .int a1), (2, .int a2), (3, .int a3), (4, .int a4), (5, .int (a5 + 1))] [] K I L (z_q0 K Q) else Q (some (.int 0)) I L) else Q (some (.int 1)) I L)) : Z n0 xX13_canLie d rc rs 79 [(0, .ref (n0 + 59)), (1, .int a1), (2, .int a2), (3, .int a3), (4, .int a4), (5, .int a5)] [] K I L (z_q0 K Q) := by
  refine z_iload 5 dX13_canLie_79 rfl ?_
  refine z_aload_n 0 dX13_canLie_81 rfl ?_
  refine fg_13_192 (some 120) rfl dX13_canLie_82 hL.1 hL.2.1 (ma_93 hL).1 ?_
  refine z_iload_n 1 dX13_canLie_85 rfl ?_
  obtain ⟨o1, h⟩ := h
  refine z_iald (I 120 a1.toNatClampNeg) dX13_canLie_86 (ma_93 hL).2.1 (ma_93 hL).2.2 o1 rfl ?_
  refine z_icmp_ge 131 dX13_canLie_87 (by decide) (fun g2 => ?_) (fun g2 => ?_)
  · rw [if_neg g2] at h
    refine z_iconst 1 dX13_canLie_131 (by decide) ?_
    exact z_zretb dX13_canLie_132 rfl (Or.inr rfl) ⟨rfl, h⟩
  · rw [if_pos g2] at h
    refine z_aload_n 0 dX13_canLie_90 rfl ?_
    refine fg_13_201 (some 123) rfl dX13_canLie_91 hL.1 hL.2.1 (ma_96 hL).1 ?_
    refine z_iload_n 2 dX13_canLie_94 rfl ?_
    refine z_iload 5 dX13_canLie_95 rfl ?_
    refine z_iadd dX13_canLie_97 ?_
    obtain ⟨o3, h⟩ := h
    refine z_iald (I 123 ((a2 + a5).toNatClampNeg)) dX13_canLie_98 (ma_96 hL).2.1 (ma_96 hL).2.2 o3 rfl ?_
    refine z_aload_n 0 dX13_canLie_99 rfl ?_
    refine fg_13_222 (some 130) rfl dX13_canLie_100 hL.1 hL.2.1 (ma_103 hL).1 ?_
    refine z_bipush 48 dX13_canLie_103 (by decide) ?_
    refine z_iload_n 1 dX13_canLie_105 rfl ?_
    refine z_imul dX13_canLie_106 ?_
    refine z_bipush 24 dX13_canLie_107 (by decide) ?_
    refine z_iload 4 dX13_canLie_109 rfl ?_
    refine z_imul dX13_canLie_111 ?_
    refine z_iadd dX13_canLie_112 ?_
    refine z_iload 5 dX13_canLie_113 rfl ?_
    refine z_iadd dX13_canLie_115 ?_
    obtain ⟨o4, h⟩ := h
    refine z_iald (I 130 ((((48 * a1) + (24 * a4)) + a5).toNatClampNeg)) dX13_canLie_116 (ma_103 hL).2.1 (ma_103 hL).2.2 o4 rfl ?_
    refine z_iload_n 3 dX13_canLie_117 rfl ?_
    refine z_ishl dX13_canLie_118 ?_
    refine z_iand dX13_canLie_119 ?_
    refine z_if_eq 125 dX13_canLie_120 (by decide) (fun g5 => ?_) (fun g5 => ?_)
    · rw [if_pos g5] at h
      refine z_iinc (j := 5) (a5 + 1) [1, 2, 3, 4, 5, 0] [(0, .ref (n0 + 59)), (1, .int a1), (2, .int a2), (3, .int a3), (4, .int a4), (5, .int (a5 + 1))] dX13_canLie_125 rfl rfl (by decide) rfl ?_
      refine z_goto 79 dX13_canLie_128 (by decide) ?_
      exact h
    · rw [if_neg g5] at h
      refine z_iconst 0 dX13_canLie_123 (by decide) ?_
      exact z_zretb dX13_canLie_124 rfl (Or.inl rfl) ⟨rfl, h⟩
theorem dX13_lie_0 : decode cX13_lie 0 = .ok (.iconst 0, 1) := by decide +kernel
theorem dX13_lie_1 : decode cX13_lie 1 = .ok (.istore 5, 2) := by decide +kernel
theorem dX13_lie_3 : decode cX13_lie 3 = .ok (.iload 5, 2) := by decide +kernel
theorem dX13_lie_5 : decode cX13_lie 5 = .ok (.aload_n 0, 1) := by decide +kernel
theorem dX13_lie_6 : decode cX13_lie 6 = .ok (.getfield 192, 3) := by decide +kernel
theorem dX13_lie_9 : decode cX13_lie 9 = .ok (.iload_n 1, 1) := by decide +kernel
theorem dX13_lie_10 : decode cX13_lie 10 = .ok (.iaload, 1) := by decide +kernel
theorem dX13_lie_11 : decode cX13_lie 11 = .ok (.if_icmp .ge 41, 3) := by decide +kernel
theorem dX13_lie_14 : decode cX13_lie 14 = .ok (.aload_n 0, 1) := by decide +kernel
theorem dX13_lie_15 : decode cX13_lie 15 = .ok (.getfield 201, 3) := by decide +kernel
theorem dX13_lie_18 : decode cX13_lie 18 = .ok (.iload_n 2, 1) := by decide +kernel
theorem dX13_lie_19 : decode cX13_lie 19 = .ok (.iload 5, 2) := by decide +kernel
theorem dX13_lie_21 : decode cX13_lie 21 = .ok (.iadd, 1) := by decide +kernel
theorem dX13_lie_22 : decode cX13_lie 22 = .ok (.dup2, 1) := by decide +kernel
theorem dX13_lie_23 : decode cX13_lie 23 = .ok (.iaload, 1) := by decide +kernel
theorem dX13_lie_24 : decode cX13_lie 24 = .ok (.aload_n 0, 1) := by decide +kernel
theorem dX13_lie_25 : decode cX13_lie 25 = .ok (.getfield 222, 3) := by decide +kernel
theorem dX13_lie_28 : decode cX13_lie 28 = .ok (.bipush 48, 2) := by decide +kernel
theorem dX13_lie_30 : decode cX13_lie 30 = .ok (.iload_n 1, 1) := by decide +kernel
theorem dX13_lie_31 : decode cX13_lie 31 = .ok (.imul, 1) := by decide +kernel
theorem dX13_lie_32 : decode cX13_lie 32 = .ok (.bipush 24, 2) := by decide +kernel
theorem dX13_lie_34 : decode cX13_lie 34 = .ok (.iload 4, 2) := by decide +kernel
theorem dX13_lie_36 : decode cX13_lie 36 = .ok (.imul, 1) := by decide +kernel
theorem dX13_lie_37 : decode cX13_lie 37 = .ok (.iadd, 1) := by decide +kernel
theorem dX13_lie_38 : decode cX13_lie 38 = .ok (.iload 5, 2) := by decide +kernel
theorem dX13_lie_40 : decode cX13_lie 40 = .ok (.iadd, 1) := by decide +kernel
theorem dX13_lie_41 : decode cX13_lie 41 = .ok (.iaload, 1) := by decide +kernel
theorem dX13_lie_42 : decode cX13_lie 42 = .ok (.iload_n 3, 1) := by decide +kernel
theorem dX13_lie_43 : decode cX13_lie 43 = .ok (.ishl, 1) := by decide +kernel
theorem dX13_lie_44 : decode cX13_lie 44 = .ok (.ior, 1) := by decide +kernel
theorem dX13_lie_45 : decode cX13_lie 45 = .ok (.iastore, 1) := by decide +kernel
theorem dX13_lie_46 : decode cX13_lie 46 = .ok (.iinc 5 1, 3) := by decide +kernel
theorem dX13_lie_49 : decode cX13_lie 49 = .ok (.goto (-46), 3) := by decide +kernel
theorem dX13_lie_52 : decode cX13_lie 52 = .ok (.aload_n 0, 1) := by decide +kernel
theorem dX13_lie_53 : decode cX13_lie 53 = .ok (.getfield 204, 3) := by decide +kernel
theorem dX13_lie_56 : decode cX13_lie 56 = .ok (.iload_n 1, 1) := by decide +kernel
theorem dX13_lie_57 : decode cX13_lie 57 = .ok (.iload_n 2, 1) := by decide +kernel
theorem dX13_lie_58 : decode cX13_lie 58 = .ok (.iastore, 1) := by decide +kernel
theorem dX13_lie_59 : decode cX13_lie 59 = .ok (.aload_n 0, 1) := by decide +kernel
theorem dX13_lie_60 : decode cX13_lie 60 = .ok (.getfield 207, 3) := by decide +kernel
theorem dX13_lie_63 : decode cX13_lie 63 = .ok (.iload_n 1, 1) := by decide +kernel
theorem dX13_lie_64 : decode cX13_lie 64 = .ok (.iload_n 3, 1) := by decide +kernel
theorem dX13_lie_65 : decode cX13_lie 65 = .ok (.iastore, 1) := by decide +kernel
theorem dX13_lie_66 : decode cX13_lie 66 = .ok (.aload_n 0, 1) := by decide +kernel
theorem dX13_lie_67 : decode cX13_lie 67 = .ok (.getfield 210, 3) := by decide +kernel
theorem dX13_lie_70 : decode cX13_lie 70 = .ok (.iload_n 1, 1) := by decide +kernel
theorem dX13_lie_71 : decode cX13_lie 71 = .ok (.iload 4, 2) := by decide +kernel
theorem dX13_lie_73 : decode cX13_lie 73 = .ok (.iastore, 1) := by decide +kernel
theorem dX13_lie_74 : decode cX13_lie 74 = .ok (.return_, 1) := by decide +kernel
set_option maxRecDepth 100000 in
set_option maxHeartbeats 4000000 in
theorem wp_X13_lie {n0 d : Nat} {K : z_K} {I : z_I} {L : z_L} {Q : z_q} {p0 : Int32} {p1 : Int32} {p2 : Int32} {p3 : Int32} (hL : MLay K) (h : Z n0 xX13_lie d 0 0 3 [(0, .ref (n0 + 59)), (1, .int p0), (2, .int p1), (3, .int p2), (4, .int p3), (5, .int 0)] [] K I L (z_q0 K Q)) : RM0 n0 xX13_lie d [.ref (n0 + 59), .int p0, .int p1, .int p2, .int p3] K I L Q := by
  refine z_entry0 (by decide) (Nat.le_of_ble_eq_true rfl) ?_
  change Z n0 xX13_lie d 0 0 0 [(0, .ref (n0 + 59)), (1, .int p0), (2, .int p1), (3, .int p2), (4, .int p3)] [] K I L (z_q0 K Q)
  refine z_iconst 0 dX13_lie_0 (by decide) ?_
  refine z_istore [1, 2, 3, 4, 5, 0] [(0, .ref (n0 + 59)), (1, .int p0), (2, .int p1), (3, .int p2), (4, .int p3), (5, .int 0)] dX13_lie_1 (by decide) rfl ?_
  exact h
set_option maxRecDepth 100000 in
set_option maxHeartbeats 4000000 in
theorem wp_X13_lie_3 {n0 d : Nat} {rc rs : Nat} {K : z_K} {I : z_I} {L : z_L} {Q : z_q} {a1 : Int32} {a2 : Int32} {a3 : Int32} {a4 : Int32} {a5 : Int32} (hL : MLay K) (h : vp_in a1 4 ∧ (if a5 < (I 120 a1.toNatClampNeg) then vp_in (a2 + a5) 96 ∧ vp_in (((48 * a1) + (24 * a4)) + a5) 192 ∧ Z n0 xX13_lie d rc rs 3 [(0, .ref (n0 + 59)), (1, .int a1), (2, .int a2), (3, .int a3), (4, .int a4), (5, .int (a5 + 1))] [] K (zI I 123 ((a2 + a5).toNatClampNeg) ((I 123 ((a2 + a5).toNatClampNeg)) ||| (((I 130 ((((48 * a1) + (24 * a4)) + a5).toNatClampNeg)) : Int32) <<< (a3 &&& 31 : Int32)))) L (z_q0 K Q) else Q none (zI (zI (zI I 124 a1.toNatClampNeg a2) 125 a1.toNatClampNeg a3) 126 a1.toNatClampNeg a4) L)) : Z n0 xX13_lie d rc rs 3 [(0, .ref (n0 + 59)), (1, .int a1), (2, .int a2), (3, .int a3), (4, .int a4), (5, .int a5)] [] K I L (z_q0 K Q) := by
  refine z_iload 5 dX13_lie_3 rfl ?_
  refine z_aload_n 0 dX13_lie_5 rfl ?_
  refine fg_13_192 (some 120) rfl dX13_lie_6 hL.1 hL.2.1 (ma_93 hL).1 ?_
  refine z_iload_n 1 dX13_lie_9 rfl ?_
  obtain ⟨o1, h⟩ := h
  refine z_iald (I 120 a1.toNatClampNeg) dX13_lie_10 (ma_93 hL).2.1 (ma_93 hL).2.2 o1 rfl ?_
  refine z_icmp_ge 52 dX13_lie_11 (by decide) (fun g2 => ?_) (fun g2 => ?_)
  · rw [if_neg g2] at h
    refine z_aload_n 0 dX13_lie_52 rfl ?_
    refine fg_13_204 (some 124) rfl dX13_lie_53 hL.1 hL.2.1 (ma_97 hL).1 ?_
    refine z_iload_n 1 dX13_lie_56 rfl ?_
    refine z_iload_n 2 dX13_lie_57 rfl ?_
    refine z_iast dX13_lie_58 (ma_97 hL).2.1 (ma_97 hL).2.2 o1 ?_
    refine z_aload_n 0 dX13_lie_59 rfl ?_
    refine fg_13_207 (some 125) rfl dX13_lie_60 hL.1 hL.2.1 (ma_98 hL).1 ?_
    refine z_iload_n 1 dX13_lie_63 rfl ?_
    refine z_iload_n 3 dX13_lie_64 rfl ?_
    refine z_iast dX13_lie_65 (ma_98 hL).2.1 (ma_98 hL).2.2 o1 ?_
    refine z_aload_n 0 dX13_lie_66 rfl ?_
    refine fg_13_210 (some 126) rfl dX13_lie_67 hL.1 hL.2.1 (ma_99 hL).1 ?_
    refine z_iload_n 1 dX13_lie_70 rfl ?_
    refine z_iload 4 dX13_lie_71 rfl ?_
    refine z_iast dX13_lie_73 (ma_99 hL).2.1 (ma_99 hL).2.2 o1 ?_
    exact z_vret dX13_lie_74 rfl ⟨rfl, h⟩
  · rw [if_pos g2] at h
    refine z_aload_n 0 dX13_lie_14 rfl ?_
    refine fg_13_201 (some 123) rfl dX13_lie_15 hL.1 hL.2.1 (ma_96 hL).1 ?_
    refine z_iload_n 2 dX13_lie_18 rfl ?_
    refine z_iload 5 dX13_lie_19 rfl ?_
    refine z_iadd dX13_lie_21 ?_
    refine z_dup2 dX13_lie_22 rfl rfl ?_
    obtain ⟨o3, h⟩ := h
    refine z_iald (I 123 ((a2 + a5).toNatClampNeg)) dX13_lie_23 (ma_96 hL).2.1 (ma_96 hL).2.2 o3 rfl ?_
    refine z_aload_n 0 dX13_lie_24 rfl ?_
    refine fg_13_222 (some 130) rfl dX13_lie_25 hL.1 hL.2.1 (ma_103 hL).1 ?_
    refine z_bipush 48 dX13_lie_28 (by decide) ?_
    refine z_iload_n 1 dX13_lie_30 rfl ?_
    refine z_imul dX13_lie_31 ?_
    refine z_bipush 24 dX13_lie_32 (by decide) ?_
    refine z_iload 4 dX13_lie_34 rfl ?_
    refine z_imul dX13_lie_36 ?_
    refine z_iadd dX13_lie_37 ?_
    refine z_iload 5 dX13_lie_38 rfl ?_
    refine z_iadd dX13_lie_40 ?_
    obtain ⟨o4, h⟩ := h
    refine z_iald (I 130 ((((48 * a1) + (24 * a4)) + a5).toNatClampNeg)) dX13_lie_41 (ma_103 hL).2.1 (ma_103 hL).2.2 o4 rfl ?_
    refine z_iload_n 3 dX13_lie_42 rfl ?_
    refine z_ishl dX13_lie_43 ?_
    refine z_ior dX13_lie_44 ?_
    refine z_iast dX13_lie_45 (ma_96 hL).2.1 (ma_96 hL).2.2 o3 ?_
    refine z_iinc (j := 5) (a5 + 1) [1, 2, 3, 4, 5, 0] [(0, .ref (n0 + 59)), (1, .int a1), (2, .int a2), (3, .int a3), (4, .int a4), (5, .int (a5 + 1))] dX13_lie_46 rfl rfl (by decide) rfl ?_
    refine z_goto 3 dX13_lie_49 (by decide) ?_
    exact h
theorem dX13_layFirst_0 : decode cX13_layFirst 0 = .ok (.iconst 0, 1) := by decide +kernel
theorem dX13_layFirst_1 : decode cX13_layFirst 1 = .ok (.istore_n 2, 1) := by decide +kernel
theorem dX13_layFirst_2 : decode cX13_layFirst 2 = .ok (.iload_n 2, 1) := by decide +kernel
theorem dX13_layFirst_3 : decode cX13_layFirst 3 = .ok (.bipush 96, 2) := by decide +kernel
theorem dX13_layFirst_5 : decode cX13_layFirst 5 = .ok (.if_icmp .ge 72, 3) := by decide +kernel
theorem dX13_layFirst_8 : decode cX13_layFirst 8 = .ok (.iconst 0, 1) := by decide +kernel
theorem dX13_layFirst_9 : decode cX13_layFirst 9 = .ok (.istore_n 3, 1) := by decide +kernel
theorem dX13_layFirst_10 : decode cX13_layFirst 10 = .ok (.iload_n 3, 1) := by decide +kernel
theorem dX13_layFirst_11 : decode cX13_layFirst 11 = .ok (.aload_n 0, 1) := by decide +kernel
theorem dX13_layFirst_12 : decode cX13_layFirst 12 = .ok (.getfield 195, 3) := by decide +kernel
theorem dX13_layFirst_15 : decode cX13_layFirst 15 = .ok (.iload_n 1, 1) := by decide +kernel
theorem dX13_layFirst_16 : decode cX13_layFirst 16 = .ok (.iaload, 1) := by decide +kernel
theorem dX13_layFirst_17 : decode cX13_layFirst 17 = .ok (.iadd, 1) := by decide +kernel
theorem dX13_layFirst_18 : decode cX13_layFirst 18 = .ok (.aload_n 0, 1) := by decide +kernel
theorem dX13_layFirst_19 : decode cX13_layFirst 19 = .ok (.getfield 171, 3) := by decide +kernel
theorem dX13_layFirst_22 : decode cX13_layFirst 22 = .ok (.iconst 0, 1) := by decide +kernel
theorem dX13_layFirst_23 : decode cX13_layFirst 23 = .ok (.iaload, 1) := by decide +kernel
theorem dX13_layFirst_24 : decode cX13_layFirst 24 = .ok (.if_icmp .gt 47, 3) := by decide +kernel
theorem dX13_layFirst_27 : decode cX13_layFirst 27 = .ok (.iconst 0, 1) := by decide +kernel
theorem dX13_layFirst_28 : decode cX13_layFirst 28 = .ok (.istore 4, 2) := by decide +kernel
theorem dX13_layFirst_30 : decode cX13_layFirst 30 = .ok (.iload 4, 2) := by decide +kernel
theorem dX13_layFirst_32 : decode cX13_layFirst 32 = .ok (.iconst 2, 1) := by decide +kernel
theorem dX13_layFirst_33 : decode cX13_layFirst 33 = .ok (.if_icmp .ge 32, 3) := by decide +kernel
theorem dX13_layFirst_36 : decode cX13_layFirst 36 = .ok (.aload_n 0, 1) := by decide +kernel
theorem dX13_layFirst_37 : decode cX13_layFirst 37 = .ok (.iload_n 1, 1) := by decide +kernel
theorem dX13_layFirst_38 : decode cX13_layFirst 38 = .ok (.iload_n 2, 1) := by decide +kernel
theorem dX13_layFirst_39 : decode cX13_layFirst 39 = .ok (.iload_n 3, 1) := by decide +kernel
theorem dX13_layFirst_40 : decode cX13_layFirst 40 = .ok (.iload 4, 2) := by decide +kernel
theorem dX13_layFirst_42 : decode cX13_layFirst 42 = .ok (.invokevirtual 579, 3) := by decide +kernel
theorem dX13_layFirst_45 : decode cX13_layFirst 45 = .ok (.ifCond .eq 14, 3) := by decide +kernel
theorem dX13_layFirst_48 : decode cX13_layFirst 48 = .ok (.aload_n 0, 1) := by decide +kernel
theorem dX13_layFirst_49 : decode cX13_layFirst 49 = .ok (.iload_n 1, 1) := by decide +kernel
theorem dX13_layFirst_50 : decode cX13_layFirst 50 = .ok (.iload_n 2, 1) := by decide +kernel
theorem dX13_layFirst_51 : decode cX13_layFirst 51 = .ok (.iload_n 3, 1) := by decide +kernel
theorem dX13_layFirst_52 : decode cX13_layFirst 52 = .ok (.iload 4, 2) := by decide +kernel
theorem dX13_layFirst_54 : decode cX13_layFirst 54 = .ok (.invokevirtual 582, 3) := by decide +kernel
theorem dX13_layFirst_57 : decode cX13_layFirst 57 = .ok (.iconst 1, 1) := by decide +kernel
theorem dX13_layFirst_58 : decode cX13_layFirst 58 = .ok (.ireturn, 1) := by decide +kernel
theorem dX13_layFirst_59 : decode cX13_layFirst 59 = .ok (.iinc 4 1, 3) := by decide +kernel
theorem dX13_layFirst_62 : decode cX13_layFirst 62 = .ok (.goto (-32), 3) := by decide +kernel
theorem dX13_layFirst_65 : decode cX13_layFirst 65 = .ok (.iinc 3 1, 3) := by decide +kernel
theorem dX13_layFirst_68 : decode cX13_layFirst 68 = .ok (.goto (-58), 3) := by decide +kernel
theorem dX13_layFirst_71 : decode cX13_layFirst 71 = .ok (.iinc 2 1, 3) := by decide +kernel
theorem dX13_layFirst_74 : decode cX13_layFirst 74 = .ok (.goto (-72), 3) := by decide +kernel
theorem dX13_layFirst_77 : decode cX13_layFirst 77 = .ok (.iconst 0, 1) := by decide +kernel
theorem dX13_layFirst_78 : decode cX13_layFirst 78 = .ok (.ireturn, 1) := by decide +kernel
set_option maxRecDepth 100000 in
set_option maxHeartbeats 4000000 in
theorem wp_X13_layFirst {n0 d : Nat} {K : z_K} {I : z_I} {L : z_L} {Q : z_q} {p0 : Int32} (hL : MLay K) (h : Z n0 xX13_layFirst (d + 1) 0 0 2 [(0, .ref (n0 + 59)), (1, .int p0), (2, .int 0)] [] K I L (z_q0 K Q)) : RM0 n0 xX13_layFirst (d + 1) [.ref (n0 + 59), .int p0] K I L Q := by
  refine z_entry0 (by decide) (Nat.le_of_ble_eq_true rfl) ?_
  change Z n0 xX13_layFirst (d + 1) 0 0 0 [(0, .ref (n0 + 59)), (1, .int p0)] [] K I L (z_q0 K Q)
  refine z_iconst 0 dX13_layFirst_0 (by decide) ?_
  refine z_istore_n [1, 2, 0] [(0, .ref (n0 + 59)), (1, .int p0), (2, .int 0)] dX13_layFirst_1 (by decide) rfl ?_
  exact h
set_option maxRecDepth 100000 in
set_option maxHeartbeats 4000000 in
theorem wp_X13_layFirst_2 {n0 d : Nat} {rc rs : Nat} {K : z_K} {I : z_I} {L : z_L} {Q : z_q} {a1 : Int32} {a2 : Int32} (hL : MLay K) (h : (if a2 < 96 then Z n0 xX13_layFirst (d + 1) rc rs 10 [(0, .ref (n0 + 59)), (1, .int a1), (2, .int a2), (3, .int 0)] [] K I L (z_q0 K Q) else Q (some (.int 0)) I L)) : Z n0 xX13_layFirst (d + 1) rc rs 2 [(0, .ref (n0 + 59)), (1, .int a1), (2, .int a2)] [] K I L (z_q0 K Q) := by
  refine z_iload_n 2 dX13_layFirst_2 rfl ?_
  refine z_bipush 96 dX13_layFirst_3 (by decide) ?_
  refine z_icmp_ge 77 dX13_layFirst_5 (by decide) (fun g1 => ?_) (fun g1 => ?_)
  · rw [if_neg g1] at h
    refine z_iconst 0 dX13_layFirst_77 (by decide) ?_
    exact z_zretb dX13_layFirst_78 rfl (Or.inl rfl) ⟨rfl, h⟩
  · rw [if_pos g1] at h
    refine z_iconst 0 dX13_layFirst_8 (by decide) ?_
    refine z_istore_n [1, 2, 3, 0] [(0, .ref (n0 + 59)), (1, .int a1), (2, .int a2), (3, .int 0)] dX13_layFirst_9 (by decide) rfl ?_
    exact h
set_option maxRecDepth 100000 in
set_option maxHeartbeats 4000000 in
theorem wp_X13_layFirst_10 {n0 d : Nat} {rc rs : Nat} {K : z_K} {I : z_I} {L : z_L} {Q : z_q} {a1 : Int32} {a2 : Int32} {a3 : Int32} (hL : MLay K) (h : vp_in a1 4 ∧ (if (I 113 0) < ((a3 + (I 121 a1.toNatClampNeg)) : Int32) then Z n0 xX13_layFirst (d + 1) rc rs 2 [(0, .ref (n0 + 59)), (1, .int a1), (2, .int (a2 + 1))] [] K I L (z_q0 K Q) else Z n0 xX13_layFirst (d + 1) rc rs 30 [(0, .ref (n0 + 59)), (1, .int a1), (2, .int a2), (3, .int a3), (4, .int 0)] [] K I L (z_q0 K Q))) : Z n0 xX13_layFirst (d + 1) rc rs 10 [(0, .ref (n0 + 59)), (1, .int a1), (2, .int a2), (3, .int a3)] [] K I L (z_q0 K Q) := by
  refine z_iload_n 3 dX13_layFirst_10 rfl ?_
  refine z_aload_n 0 dX13_layFirst_11 rfl ?_
  refine fg_13_195 (some 121) rfl dX13_layFirst_12 hL.1 hL.2.1 (ma_94 hL).1 ?_
  refine z_iload_n 1 dX13_layFirst_15 rfl ?_
  obtain ⟨o1, h⟩ := h
  refine z_iald (I 121 a1.toNatClampNeg) dX13_layFirst_16 (ma_94 hL).2.1 (ma_94 hL).2.2 o1 rfl ?_
  refine z_iadd dX13_layFirst_17 ?_
  refine z_aload_n 0 dX13_layFirst_18 rfl ?_
  refine fg_13_171 (some 113) rfl dX13_layFirst_19 hL.1 hL.2.1 (ma_82 hL).1 ?_
  refine z_iconst 0 dX13_layFirst_22 (by decide) ?_
  refine z_iald (I 113 0) dX13_layFirst_23 (ma_82 hL).2.1 (ma_82 hL).2.2 (by unfold vp_in; decide) rfl ?_
  refine z_icmp_gt 71 dX13_layFirst_24 (by decide) (fun g2 => ?_) (fun g2 => ?_)
  · rw [if_pos g2] at h
    refine z_iinc (j := 2) (a2 + 1) [1, 2, 0, 3] [(0, .ref (n0 + 59)), (1, .int a1), (2, .int (a2 + 1)), (3, .int a3)] dX13_layFirst_71 rfl rfl (by decide) rfl ?_
    refine z_goto 2 dX13_layFirst_74 (by decide) ?_
    refine z_sub [0, 1, 2] rfl ?_
    exact h
  · rw [if_neg g2] at h
    refine z_iconst 0 dX13_layFirst_27 (by decide) ?_
    refine z_istore [1, 2, 3, 4, 0] [(0, .ref (n0 + 59)), (1, .int a1), (2, .int a2), (3, .int a3), (4, .int 0)] dX13_layFirst_28 (by decide) rfl ?_
    exact h
set_option maxRecDepth 100000 in
set_option maxHeartbeats 4000000 in
theorem wp_X13_layFirst_30 {n0 d : Nat} {rc rs : Nat} {K : z_K} {I : z_I} {L : z_L} {Q : z_q} {a1 : Int32} {a2 : Int32} {a3 : Int32} {a4 : Int32} (hL : MLay K) (h : (if a4 < 2 then RM0 n0 xX13_canLie d [.ref (n0 + 59), .int a1, .int a2, .int a3, .int a4] K I L (fun vv I2 L3 => ∃ r4 : Int32, vv = some (.int r4) ∧ (if r4 = 0 then Z n0 xX13_layFirst (d + 1) rc rs 30 [(0, .ref (n0 + 59)), (1, .int a1), (2, .int a2), (3, .int a3), (4, .int (a4 + 1))] [] K I2 L3 (z_q0 K Q) else RM0 n0 xX13_lie d [.ref (n0 + 59), .int a1, .int a2, .int a3, .int a4] K I2 L3 (fun vv I6 L7 => vv = none ∧ Q (some (.int 1)) I6 L7))) else Z n0 xX13_layFirst (d + 1) rc rs 10 [(0, .ref (n0 + 59)), (1, .int a1), (2, .int a2), (3, .int (a3 + 1))] [] K I L (z_q0 K Q))) : Z n0 xX13_layFirst (d + 1) rc rs 30 [(0, .ref (n0 + 59)), (1, .int a1), (2, .int a2), (3, .int a3), (4, .int a4)] [] K I L (z_q0 K Q) := by
  refine z_iload 4 dX13_layFirst_30 rfl ?_
  refine z_iconst 2 dX13_layFirst_32 (by decide) ?_
  refine z_icmp_ge 65 dX13_layFirst_33 (by decide) (fun g1 => ?_) (fun g1 => ?_)
  · rw [if_neg g1] at h
    refine z_iinc (j := 3) (a3 + 1) [1, 2, 3, 0, 4] [(0, .ref (n0 + 59)), (1, .int a1), (2, .int a2), (3, .int (a3 + 1)), (4, .int a4)] dX13_layFirst_65 rfl rfl (by decide) rfl ?_
    refine z_goto 10 dX13_layFirst_68 (by decide) ?_
    refine z_sub [0, 1, 2, 3] rfl ?_
    exact h
  · rw [if_pos g1] at h
    refine z_aload_n 0 dX13_layFirst_36 rfl ?_
    refine z_iload_n 1 dX13_layFirst_37 rfl ?_
    refine z_iload_n 2 dX13_layFirst_38 rfl ?_
    refine z_iload_n 3 dX13_layFirst_39 rfl ?_
    refine z_iload 4 dX13_layFirst_40 rfl ?_
    refine z_callV0 (As := [.int a1, .int a2, .int a3, .int a4]) (st := []) dX13_layFirst_42 hy_X13_canLie hL.1 hL.2.1 (by decide) wg_2144 wg_2146 wg_98 (Nat.le_refl _) (Nat.le_of_ble_eq_true rfl) (RM0.mono h (fun vv I2 L3 h => ?_))
    obtain ⟨r4, rfl, h⟩ := h
    change Z n0 xX13_layFirst (d + 1) rc rs 45 [(0, .ref (n0 + 59)), (1, .int a1), (2, .int a2), (3, .int a3), (4, .int a4)] [.int r4] K I2 L3 (z_q0 K Q)
    refine z_if_eq 59 dX13_layFirst_45 (by decide) (fun g5 => ?_) (fun g5 => ?_)
    · rw [if_pos g5] at h
      refine z_iinc (j := 4) (a4 + 1) [1, 2, 3, 4, 0] [(0, .ref (n0 + 59)), (1, .int a1), (2, .int a2), (3, .int a3), (4, .int (a4 + 1))] dX13_layFirst_59 rfl rfl (by decide) rfl ?_
      refine z_goto 30 dX13_layFirst_62 (by decide) ?_
      exact h
    · rw [if_neg g5] at h
      refine z_aload_n 0 dX13_layFirst_48 rfl ?_
      refine z_iload_n 1 dX13_layFirst_49 rfl ?_
      refine z_iload_n 2 dX13_layFirst_50 rfl ?_
      refine z_iload_n 3 dX13_layFirst_51 rfl ?_
      refine z_iload 4 dX13_layFirst_52 rfl ?_
      refine z_callV0 (As := [.int a1, .int a2, .int a3, .int a4]) (st := []) dX13_layFirst_54 hy_X13_lie hL.1 hL.2.1 (by decide) wg_2148 wg_2150 wg_99 (Nat.le_refl _) (Nat.le_of_ble_eq_true rfl) (RM0.mono h (fun vv I6 L7 h => ?_))
      obtain ⟨rfl, h⟩ := h
      change Z n0 xX13_layFirst (d + 1) rc rs 57 [(0, .ref (n0 + 59)), (1, .int a1), (2, .int a2), (3, .int a3), (4, .int a4)] [] K I6 L7 (z_q0 K Q)
      refine z_iconst 1 dX13_layFirst_57 (by decide) ?_
      exact z_zretb dX13_layFirst_58 rfl (Or.inr rfl) ⟨rfl, h⟩
theorem dX13_clearCloth_0 : decode cX13_clearCloth 0 = .ok (.iconst 0, 1) := by decide +kernel
theorem dX13_clearCloth_1 : decode cX13_clearCloth 1 = .ok (.istore_n 1, 1) := by decide +kernel
theorem dX13_clearCloth_2 : decode cX13_clearCloth 2 = .ok (.iload_n 1, 1) := by decide +kernel
theorem dX13_clearCloth_3 : decode cX13_clearCloth 3 = .ok (.bipush 96, 2) := by decide +kernel
theorem dX13_clearCloth_5 : decode cX13_clearCloth 5 = .ok (.if_icmp .ge 16, 3) := by decide +kernel
theorem dX13_clearCloth_8 : decode cX13_clearCloth 8 = .ok (.aload_n 0, 1) := by decide +kernel
theorem dX13_clearCloth_9 : decode cX13_clearCloth 9 = .ok (.getfield 201, 3) := by decide +kernel
theorem dX13_clearCloth_12 : decode cX13_clearCloth 12 = .ok (.iload_n 1, 1) := by decide +kernel
theorem dX13_clearCloth_13 : decode cX13_clearCloth 13 = .ok (.iconst 0, 1) := by decide +kernel
theorem dX13_clearCloth_14 : decode cX13_clearCloth 14 = .ok (.iastore, 1) := by decide +kernel
theorem dX13_clearCloth_15 : decode cX13_clearCloth 15 = .ok (.iinc 1 1, 3) := by decide +kernel
theorem dX13_clearCloth_18 : decode cX13_clearCloth 18 = .ok (.goto (-16), 3) := by decide +kernel
theorem dX13_clearCloth_21 : decode cX13_clearCloth 21 = .ok (.return_, 1) := by decide +kernel
set_option maxRecDepth 100000 in
set_option maxHeartbeats 4000000 in
theorem wp_X13_clearCloth {n0 d : Nat} {K : z_K} {I : z_I} {L : z_L} {Q : z_q}  (hL : MLay K) (h : Z n0 xX13_clearCloth d 0 0 2 [(0, .ref (n0 + 59)), (1, .int 0)] [] K I L (z_q0 K Q)) : RM0 n0 xX13_clearCloth d [.ref (n0 + 59)] K I L Q := by
  refine z_entry0 (by decide) (Nat.le_of_ble_eq_true rfl) ?_
  change Z n0 xX13_clearCloth d 0 0 0 [(0, .ref (n0 + 59))] [] K I L (z_q0 K Q)
  refine z_iconst 0 dX13_clearCloth_0 (by decide) ?_
  refine z_istore_n [1, 0] [(0, .ref (n0 + 59)), (1, .int 0)] dX13_clearCloth_1 (by decide) rfl ?_
  exact h
set_option maxRecDepth 100000 in
set_option maxHeartbeats 4000000 in
theorem wp_X13_clearCloth_2 {n0 d : Nat} {rc rs : Nat} {K : z_K} {I : z_I} {L : z_L} {Q : z_q} {a1 : Int32} (hL : MLay K) (h : (if a1 < 96 then vp_in a1 96 ∧ Z n0 xX13_clearCloth d rc rs 2 [(0, .ref (n0 + 59)), (1, .int (a1 + 1))] [] K (zI I 123 a1.toNatClampNeg 0) L (z_q0 K Q) else Q none I L)) : Z n0 xX13_clearCloth d rc rs 2 [(0, .ref (n0 + 59)), (1, .int a1)] [] K I L (z_q0 K Q) := by
  refine z_iload_n 1 dX13_clearCloth_2 rfl ?_
  refine z_bipush 96 dX13_clearCloth_3 (by decide) ?_
  refine z_icmp_ge 21 dX13_clearCloth_5 (by decide) (fun g1 => ?_) (fun g1 => ?_)
  · rw [if_neg g1] at h
    exact z_vret dX13_clearCloth_21 rfl ⟨rfl, h⟩
  · rw [if_pos g1] at h
    refine z_aload_n 0 dX13_clearCloth_8 rfl ?_
    refine fg_13_201 (some 123) rfl dX13_clearCloth_9 hL.1 hL.2.1 (ma_96 hL).1 ?_
    refine z_iload_n 1 dX13_clearCloth_12 rfl ?_
    refine z_iconst 0 dX13_clearCloth_13 (by decide) ?_
    obtain ⟨o2, h⟩ := h
    refine z_iast dX13_clearCloth_14 (ma_96 hL).2.1 (ma_96 hL).2.2 o2 ?_
    refine z_iinc (j := 1) (a1 + 1) [1, 0] [(0, .ref (n0 + 59)), (1, .int (a1 + 1))] dX13_clearCloth_15 rfl rfl (by decide) rfl ?_
    refine z_goto 2 dX13_clearCloth_18 (by decide) ?_
    exact h
theorem dX13_longOf_0 : decode cX13_longOf 0 = .ok (.iconst 0, 1) := by decide +kernel
theorem dX13_longOf_1 : decode cX13_longOf 1 = .ok (.istore_n 1, 1) := by decide +kernel
theorem dX13_longOf_2 : decode cX13_longOf 2 = .ok (.iconst 0, 1) := by decide +kernel
theorem dX13_longOf_3 : decode cX13_longOf 3 = .ok (.istore_n 2, 1) := by decide +kernel
theorem dX13_longOf_4 : decode cX13_longOf 4 = .ok (.iload_n 2, 1) := by decide +kernel
theorem dX13_longOf_5 : decode cX13_longOf 5 = .ok (.bipush 96, 2) := by decide +kernel
theorem dX13_longOf_7 : decode cX13_longOf 7 = .ok (.if_icmp .ge 26, 3) := by decide +kernel
theorem dX13_longOf_10 : decode cX13_longOf 10 = .ok (.aload_n 0, 1) := by decide +kernel
theorem dX13_longOf_11 : decode cX13_longOf 11 = .ok (.getfield 201, 3) := by decide +kernel
theorem dX13_longOf_14 : decode cX13_longOf 14 = .ok (.iload_n 2, 1) := by decide +kernel
theorem dX13_longOf_15 : decode cX13_longOf 15 = .ok (.iaload, 1) := by decide +kernel
theorem dX13_longOf_16 : decode cX13_longOf 16 = .ok (.ifCond .eq 9, 3) := by decide +kernel
theorem dX13_longOf_19 : decode cX13_longOf 19 = .ok (.iload_n 2, 1) := by decide +kernel
theorem dX13_longOf_20 : decode cX13_longOf 20 = .ok (.iconst 1, 1) := by decide +kernel
theorem dX13_longOf_21 : decode cX13_longOf 21 = .ok (.iadd, 1) := by decide +kernel
theorem dX13_longOf_22 : decode cX13_longOf 22 = .ok (.goto 4, 3) := by decide +kernel
theorem dX13_longOf_25 : decode cX13_longOf 25 = .ok (.iload_n 1, 1) := by decide +kernel
theorem dX13_longOf_26 : decode cX13_longOf 26 = .ok (.istore_n 1, 1) := by decide +kernel
theorem dX13_longOf_27 : decode cX13_longOf 27 = .ok (.iinc 2 1, 3) := by decide +kernel
theorem dX13_longOf_30 : decode cX13_longOf 30 = .ok (.goto (-26), 3) := by decide +kernel
theorem dX13_longOf_33 : decode cX13_longOf 33 = .ok (.iload_n 1, 1) := by decide +kernel
theorem dX13_longOf_34 : decode cX13_longOf 34 = .ok (.ireturn, 1) := by decide +kernel
set_option maxRecDepth 100000 in
set_option maxHeartbeats 4000000 in
theorem wp_X13_longOf {n0 d : Nat} {K : z_K} {I : z_I} {L : z_L} {Q : z_q}  (hL : MLay K) (h : Z n0 xX13_longOf d 0 0 4 [(0, .ref (n0 + 59)), (1, .int 0), (2, .int 0)] [] K I L (z_q0 K Q)) : RM0 n0 xX13_longOf d [.ref (n0 + 59)] K I L Q := by
  refine z_entry0 (by decide) (Nat.le_of_ble_eq_true rfl) ?_
  change Z n0 xX13_longOf d 0 0 0 [(0, .ref (n0 + 59))] [] K I L (z_q0 K Q)
  refine z_iconst 0 dX13_longOf_0 (by decide) ?_
  refine z_istore_n [1, 0] [(0, .ref (n0 + 59)), (1, .int 0)] dX13_longOf_1 (by decide) rfl ?_
  refine z_iconst 0 dX13_longOf_2 (by decide) ?_
  refine z_istore_n [1, 2, 0] [(0, .ref (n0 + 59)), (1, .int 0), (2, .int 0)] dX13_longOf_3 (by decide) rfl ?_
  exact h
set_option maxRecDepth 100000 in
set_option maxHeartbeats 4000000 in
theorem wp_X13_longOf_4 {n0 d : Nat} {rc rs : Nat} {K : z_K} {I : z_I} {L : z_L} {Q : z_q} {a1 : Int32} {a2 : Int32} (hL : MLay K) (h : (if a2 < 96 then vp_in a2 96 ∧ Z n0 xX13_longOf d rc rs 4 [(0, .ref (n0 + 59)), (1, .int (if ((I 123 a2.toNatClampNeg) : Int32) = 0 then a1 else (a2 + 1))), (2, .int (a2 + 1))] [] K I L (z_q0 K Q) else Q (some (.int a1)) I L)) : Z n0 xX13_longOf d rc rs 4 [(0, .ref (n0 + 59)), (1, .int a1), (2, .int a2)] [] K I L (z_q0 K Q) := by
  refine z_iload_n 2 dX13_longOf_4 rfl ?_
  refine z_bipush 96 dX13_longOf_5 (by decide) ?_
  refine z_icmp_ge 33 dX13_longOf_7 (by decide) (fun g1 => ?_) (fun g1 => ?_)
  · rw [if_neg g1] at h
    refine z_iload_n 1 dX13_longOf_33 rfl ?_
    exact z_iret dX13_longOf_34 rfl ⟨rfl, h⟩
  · rw [if_pos g1] at h
    refine z_aload_n 0 dX13_longOf_10 rfl ?_
    refine fg_13_201 (some 123) rfl dX13_longOf_11 hL.1 hL.2.1 (ma_96 hL).1 ?_
    refine z_iload_n 2 dX13_longOf_14 rfl ?_
    obtain ⟨o2, h⟩ := h
    refine z_iald (I 123 a2.toNatClampNeg) dX13_longOf_15 (ma_96 hL).2.1 (ma_96 hL).2.2 o2 rfl ?_
    have key4 : Z n0 xX13_longOf d rc rs 26 [(0, .ref (n0 + 59)), (2, .int a2)] [.int (if ((I 123 a2.toNatClampNeg) : Int32) = 0 then a1 else (a2 + 1))] K I L (z_q0 K Q) := by
      refine z_istore_n [1, 0, 2] [(0, .ref (n0 + 59)), (1, .int (if ((I 123 a2.toNatClampNeg) : Int32) = 0 then a1 else (a2 + 1))), (2, .int a2)] dX13_longOf_26 (by decide) rfl ?_
      refine z_iinc (j := 2) (a2 + 1) [1, 2, 0] [(0, .ref (n0 + 59)), (1, .int (if ((I 123 a2.toNatClampNeg) : Int32) = 0 then a1 else (a2 + 1))), (2, .int (a2 + 1))] dX13_longOf_27 rfl rfl (by decide) rfl ?_
      refine z_goto 4 dX13_longOf_30 (by decide) ?_
      exact h
    refine z_if_eq 25 dX13_longOf_16 (by decide) (fun g3 => ?_) (fun g3 => ?_)
    · refine z_iload_n 1 dX13_longOf_25 rfl ?_
      have ee : ((if ((I 123 a2.toNatClampNeg) : Int32) = 0 then a1 else (a2 + 1)) : Int32) = a1 := by rw [if_pos g3]
      rw [ee] at key4
      clear ee
      refine z_sub [0, 2] rfl ?_
      exact key4
    · refine z_iload_n 2 dX13_longOf_19 rfl ?_
      refine z_iconst 1 dX13_longOf_20 (by decide) ?_
      refine z_iadd dX13_longOf_21 ?_
      refine z_goto 26 dX13_longOf_22 (by decide) ?_
      have ee : ((if ((I 123 a2.toNatClampNeg) : Int32) = 0 then a1 else (a2 + 1)) : Int32) = (a2 + 1) := by rw [if_neg g3]
      rw [ee] at key4
      clear ee
      refine z_sub [0, 2] rfl ?_
      exact key4
theorem dX13_findOrder_0 : decode cX13_findOrder 0 = .ok (.iload_n 1, 1) := by decide +kernel
theorem dX13_findOrder_1 : decode cX13_findOrder 1 = .ok (.istore_n 2, 1) := by decide +kernel
theorem dX13_findOrder_2 : decode cX13_findOrder 2 = .ok (.iconst 0, 1) := by decide +kernel
theorem dX13_findOrder_3 : decode cX13_findOrder 3 = .ok (.istore_n 3, 1) := by decide +kernel
theorem dX13_findOrder_4 : decode cX13_findOrder 4 = .ok (.aload_n 0, 1) := by decide +kernel
theorem dX13_findOrder_5 : decode cX13_findOrder 5 = .ok (.getfield 573, 3) := by decide +kernel
theorem dX13_findOrder_8 : decode cX13_findOrder 8 = .ok (.iconst 4, 1) := by decide +kernel
theorem dX13_findOrder_9 : decode cX13_findOrder 9 = .ok (.if_icmp .ne 8, 3) := by decide +kernel
theorem dX13_findOrder_12 : decode cX13_findOrder 12 = .ok (.bipush 6, 2) := by decide +kernel
theorem dX13_findOrder_14 : decode cX13_findOrder 14 = .ok (.goto 16, 3) := by decide +kernel
theorem dX13_findOrder_17 : decode cX13_findOrder 17 = .ok (.aload_n 0, 1) := by decide +kernel
theorem dX13_findOrder_18 : decode cX13_findOrder 18 = .ok (.getfield 573, 3) := by decide +kernel
theorem dX13_findOrder_21 : decode cX13_findOrder 21 = .ok (.iconst 3, 1) := by decide +kernel
theorem dX13_findOrder_22 : decode cX13_findOrder 22 = .ok (.if_icmp .ne 7, 3) := by decide +kernel
theorem dX13_findOrder_25 : decode cX13_findOrder 25 = .ok (.iconst 2, 1) := by decide +kernel
theorem dX13_findOrder_26 : decode cX13_findOrder 26 = .ok (.goto 4, 3) := by decide +kernel
theorem dX13_findOrder_29 : decode cX13_findOrder 29 = .ok (.iconst 1, 1) := by decide +kernel
theorem dX13_findOrder_30 : decode cX13_findOrder 30 = .ok (.istore 4, 2) := by decide +kernel
theorem dX13_findOrder_32 : decode cX13_findOrder 32 = .ok (.iconst 0, 1) := by decide +kernel
theorem dX13_findOrder_33 : decode cX13_findOrder 33 = .ok (.istore 5, 2) := by decide +kernel
theorem dX13_findOrder_35 : decode cX13_findOrder 35 = .ok (.iload 5, 2) := by decide +kernel
theorem dX13_findOrder_37 : decode cX13_findOrder 37 = .ok (.aload_n 0, 1) := by decide +kernel
theorem dX13_findOrder_38 : decode cX13_findOrder 38 = .ok (.getfield 573, 3) := by decide +kernel
theorem dX13_findOrder_41 : decode cX13_findOrder 41 = .ok (.if_icmp .ge 110, 3) := by decide +kernel
theorem dX13_findOrder_44 : decode cX13_findOrder 44 = .ok (.iload_n 2, 1) := by decide +kernel
theorem dX13_findOrder_45 : decode cX13_findOrder 45 = .ok (.iload 4, 2) := by decide +kernel
theorem dX13_findOrder_47 : decode cX13_findOrder 47 = .ok (.idiv, 1) := by decide +kernel
theorem dX13_findOrder_48 : decode cX13_findOrder 48 = .ok (.istore 6, 2) := by decide +kernel
theorem dX13_findOrder_50 : decode cX13_findOrder 50 = .ok (.iload_n 2, 1) := by decide +kernel
theorem dX13_findOrder_51 : decode cX13_findOrder 51 = .ok (.iload 4, 2) := by decide +kernel
theorem dX13_findOrder_53 : decode cX13_findOrder 53 = .ok (.irem, 1) := by decide +kernel
theorem dX13_findOrder_54 : decode cX13_findOrder 54 = .ok (.istore_n 2, 1) := by decide +kernel
theorem dX13_findOrder_55 : decode cX13_findOrder 55 = .ok (.aload_n 0, 1) := by decide +kernel
theorem dX13_findOrder_56 : decode cX13_findOrder 56 = .ok (.getfield 573, 3) := by decide +kernel
theorem dX13_findOrder_59 : decode cX13_findOrder 59 = .ok (.iload 5, 2) := by decide +kernel
theorem dX13_findOrder_61 : decode cX13_findOrder 61 = .ok (.isub, 1) := by decide +kernel
theorem dX13_findOrder_62 : decode cX13_findOrder 62 = .ok (.iconst 2, 1) := by decide +kernel
theorem dX13_findOrder_63 : decode cX13_findOrder 63 = .ok (.isub, 1) := by decide +kernel
theorem dX13_findOrder_64 : decode cX13_findOrder 64 = .ok (.ifCond .le 18, 3) := by decide +kernel
theorem dX13_findOrder_67 : decode cX13_findOrder 67 = .ok (.iload 4, 2) := by decide +kernel
theorem dX13_findOrder_69 : decode cX13_findOrder 69 = .ok (.aload_n 0, 1) := by decide +kernel
theorem dX13_findOrder_70 : decode cX13_findOrder 70 = .ok (.getfield 573, 3) := by decide +kernel
theorem dX13_findOrder_73 : decode cX13_findOrder 73 = .ok (.iload 5, 2) := by decide +kernel
theorem dX13_findOrder_75 : decode cX13_findOrder 75 = .ok (.isub, 1) := by decide +kernel
theorem dX13_findOrder_76 : decode cX13_findOrder 76 = .ok (.iconst 1, 1) := by decide +kernel
theorem dX13_findOrder_77 : decode cX13_findOrder 77 = .ok (.isub, 1) := by decide +kernel
theorem dX13_findOrder_78 : decode cX13_findOrder 78 = .ok (.idiv, 1) := by decide +kernel
theorem dX13_findOrder_79 : decode cX13_findOrder 79 = .ok (.goto 4, 3) := by decide +kernel
theorem dX13_findOrder_82 : decode cX13_findOrder 82 = .ok (.iconst 1, 1) := by decide +kernel
theorem dX13_findOrder_83 : decode cX13_findOrder 83 = .ok (.istore 4, 2) := by decide +kernel
theorem dX13_findOrder_85 : decode cX13_findOrder 85 = .ok (.iconst 0, 1) := by decide +kernel
theorem dX13_findOrder_86 : decode cX13_findOrder 86 = .ok (.istore 7, 2) := by decide +kernel
theorem dX13_findOrder_88 : decode cX13_findOrder 88 = .ok (.iload_n 3, 1) := by decide +kernel
theorem dX13_findOrder_89 : decode cX13_findOrder 89 = .ok (.iload 7, 2) := by decide +kernel
theorem dX13_findOrder_91 : decode cX13_findOrder 91 = .ok (.ishr, 1) := by decide +kernel
theorem dX13_findOrder_92 : decode cX13_findOrder 92 = .ok (.iconst 1, 1) := by decide +kernel
theorem dX13_findOrder_93 : decode cX13_findOrder 93 = .ok (.iand, 1) := by decide +kernel
theorem dX13_findOrder_94 : decode cX13_findOrder 94 = .ok (.iconst 1, 1) := by decide +kernel
theorem dX13_findOrder_95 : decode cX13_findOrder 95 = .ok (.if_icmp .eq 8, 3) := by decide +kernel
theorem dX13_findOrder_98 : decode cX13_findOrder 98 = .ok (.iload 6, 2) := by decide +kernel
theorem dX13_findOrder_100 : decode cX13_findOrder 100 = .ok (.ifCond .le 29, 3) := by decide +kernel
theorem dX13_findOrder_103 : decode cX13_findOrder 103 = .ok (.iload 6, 2) := by decide +kernel
theorem dX13_findOrder_105 : decode cX13_findOrder 105 = .ok (.iload_n 3, 1) := by decide +kernel
theorem dX13_findOrder_106 : decode cX13_findOrder 106 = .ok (.iload 7, 2) := by decide +kernel
theorem dX13_findOrder_108 : decode cX13_findOrder 108 = .ok (.ishr, 1) := by decide +kernel
theorem dX13_findOrder_109 : decode cX13_findOrder 109 = .ok (.iconst 1, 1) := by decide +kernel
theorem dX13_findOrder_110 : decode cX13_findOrder 110 = .ok (.iand, 1) := by decide +kernel
theorem dX13_findOrder_111 : decode cX13_findOrder 111 = .ok (.iconst 1, 1) := by decide +kernel
theorem dX13_findOrder_112 : decode cX13_findOrder 112 = .ok (.if_icmp .ne 7, 3) := by decide +kernel
theorem dX13_findOrder_115 : decode cX13_findOrder 115 = .ok (.iconst 0, 1) := by decide +kernel
theorem dX13_findOrder_116 : decode cX13_findOrder 116 = .ok (.goto 4, 3) := by decide +kernel
theorem dX13_findOrder_119 : decode cX13_findOrder 119 = .ok (.iconst 1, 1) := by decide +kernel
theorem dX13_findOrder_120 : decode cX13_findOrder 120 = .ok (.isub, 1) := by decide +kernel
theorem dX13_findOrder_121 : decode cX13_findOrder 121 = .ok (.istore 6, 2) := by decide +kernel
theorem dX13_findOrder_123 : decode cX13_findOrder 123 = .ok (.iinc 7 1, 3) := by decide +kernel
theorem dX13_findOrder_126 : decode cX13_findOrder 126 = .ok (.goto (-38), 3) := by decide +kernel
theorem dX13_findOrder_129 : decode cX13_findOrder 129 = .ok (.iload_n 3, 1) := by decide +kernel
theorem dX13_findOrder_130 : decode cX13_findOrder 130 = .ok (.iconst 1, 1) := by decide +kernel
theorem dX13_findOrder_131 : decode cX13_findOrder 131 = .ok (.iload 7, 2) := by decide +kernel
theorem dX13_findOrder_133 : decode cX13_findOrder 133 = .ok (.ishl, 1) := by decide +kernel
theorem dX13_findOrder_134 : decode cX13_findOrder 134 = .ok (.ior, 1) := by decide +kernel
theorem dX13_findOrder_135 : decode cX13_findOrder 135 = .ok (.istore_n 3, 1) := by decide +kernel
theorem dX13_findOrder_136 : decode cX13_findOrder 136 = .ok (.aload_n 0, 1) := by decide +kernel
theorem dX13_findOrder_137 : decode cX13_findOrder 137 = .ok (.getfield 225, 3) := by decide +kernel
theorem dX13_findOrder_140 : decode cX13_findOrder 140 = .ok (.iload 5, 2) := by decide +kernel
theorem dX13_findOrder_142 : decode cX13_findOrder 142 = .ok (.iload 7, 2) := by decide +kernel
theorem dX13_findOrder_144 : decode cX13_findOrder 144 = .ok (.iastore, 1) := by decide +kernel
theorem dX13_findOrder_145 : decode cX13_findOrder 145 = .ok (.iinc 5 1, 3) := by decide +kernel
theorem dX13_findOrder_148 : decode cX13_findOrder 148 = .ok (.goto (-113), 3) := by decide +kernel
theorem dX13_findOrder_151 : decode cX13_findOrder 151 = .ok (.return_, 1) := by decide +kernel
set_option maxRecDepth 100000 in
set_option maxHeartbeats 4000000 in
theorem wp_X13_findOrder {n0 d : Nat} {K : z_K} {I : z_I} {L : z_L} {Q : z_q} {p0 : Int32} (hL : MLay K) (h : Z n0 xX13_findOrder d 0 0 35 [(0, .ref (n0 + 59)), (2, .int p0), (3, .int 0), (4, .int (if ((I 59 89) : Int32) = 4 then 6 else if ((I 59 89) : Int32) = 3 then 2 else 1)), (5, .int 0)] [] K I L (z_q0 K Q)) : RM0 n0 xX13_findOrder d [.ref (n0 + 59), .int p0] K I L Q := by
  refine z_entry0 (by decide) (Nat.le_of_ble_eq_true rfl) ?_
  change Z n0 xX13_findOrder d 0 0 0 [(0, .ref (n0 + 59)), (1, .int p0)] [] K I L (z_q0 K Q)
  refine z_iload_n 1 dX13_findOrder_0 rfl ?_
  refine z_istore_n [1, 2, 0] [(0, .ref (n0 + 59)), (1, .int p0), (2, .int p0)] dX13_findOrder_1 (by decide) rfl ?_
  refine z_iconst 0 dX13_findOrder_2 (by decide) ?_
  refine z_istore_n [1, 2, 3, 0] [(0, .ref (n0 + 59)), (1, .int p0), (2, .int p0), (3, .int 0)] dX13_findOrder_3 (by decide) rfl ?_
  refine z_aload_n 0 dX13_findOrder_4 rfl ?_
  refine fg_13_573 (I 59 89) rfl dX13_findOrder_5 hL.1 hL.2.1 rfl ?_
  refine z_iconst 4 dX13_findOrder_8 (by decide) ?_
  have key3 : Z n0 xX13_findOrder d 0 0 30 [(0, .ref (n0 + 59)), (2, .int p0), (3, .int 0)] [.int (if ((I 59 89) : Int32) = 4 then 6 else if ((I 59 89) : Int32) = 3 then 2 else 1)] K I L (z_q0 K Q) := by
    refine z_istore [1, 2, 3, 0] [(0, .ref (n0 + 59)), (2, .int p0), (3, .int 0), (4, .int (if ((I 59 89) : Int32) = 4 then 6 else if ((I 59 89) : Int32) = 3 then 2 else 1))] dX13_findOrder_30 (by decide) rfl ?_
    refine z_iconst 0 dX13_findOrder_32 (by decide) ?_
    refine z_istore [1, 2, 3, 4, 0] [(0, .ref (n0 + 59)), (2, .int p0), (3, .int 0), (4, .int (if ((I 59 89) : Int32) = 4 then 6 else if ((I 59 89) : Int32) = 3 then 2 else 1)), (5, .int 0)] dX13_findOrder_33 (by decide) rfl ?_
    exact h
  refine z_icmp_ne 17 dX13_findOrder_9 (by decide) (fun g1 => ?_) (fun g1 => ?_)
  · refine z_aload_n 0 dX13_findOrder_17 rfl ?_
    refine fg_13_573 (I 59 89) rfl dX13_findOrder_18 hL.1 hL.2.1 rfl ?_
    refine z_iconst 3 dX13_findOrder_21 (by decide) ?_
    refine z_icmp_ne 29 dX13_findOrder_22 (by decide) (fun g2 => ?_) (fun g2 => ?_)
    · refine z_iconst 1 dX13_findOrder_29 (by decide) ?_
      have ee : ((if ((I 59 89) : Int32) = 4 then 6 else if ((I 59 89) : Int32) = 3 then 2 else 1) : Int32) = 1 := by rw [if_neg g1, if_neg g2]
      rw [ee] at key3
      clear ee
      refine z_sub [0, 2, 3] rfl ?_
      exact key3
    · refine z_iconst 2 dX13_findOrder_25 (by decide) ?_
      refine z_goto 30 dX13_findOrder_26 (by decide) ?_
      have ee : ((if ((I 59 89) : Int32) = 4 then 6 else if ((I 59 89) : Int32) = 3 then 2 else 1) : Int32) = 2 := by rw [if_neg g1, if_pos g2]
      rw [ee] at key3
      clear ee
      refine z_sub [0, 2, 3] rfl ?_
      exact key3
  · refine z_bipush 6 dX13_findOrder_12 (by decide) ?_
    refine z_goto 30 dX13_findOrder_14 (by decide) ?_
    have ee : ((if ((I 59 89) : Int32) = 4 then 6 else if ((I 59 89) : Int32) = 3 then 2 else 1) : Int32) = 6 := by rw [if_pos g1]
    rw [ee] at key3
    clear ee
    refine z_sub [0, 2, 3] rfl ?_
    exact key3
set_option maxRecDepth 100000 in
set_option maxHeartbeats 4000000 in
theorem wp_X13_findOrder_35 {n0 d : Nat} {rc rs : Nat} {K : z_K} {I : z_I} {L : z_L} {Q : z_q} {a2 : Int32} {a3 : Int32} {a4 : Int32} {a5 : Int32} (hL : MLay K) (h : (if a5 < (I 59 89) then ¬ (a4 : Int32) = 0 ∧ (0 < ((((I 59 89) - a5) - 2) : Int32) → ¬ ((((I 59 89) - a5) - 1) : Int32) = 0) ∧ Z n0 xX13_findOrder d rc rs 88 [(0, .ref (n0 + 59)), (2, .int (a2 - a2 / a4 * a4)), (3, .int a3), (4, .int (if 0 < ((((I 59 89) - a5) - 2) : Int32) then (a4 / (((I 59 89) - a5) - 1)) else 1)), (5, .int a5), (6, .int (a2 / a4)), (7, .int 0)] [] K I L (z_q0 K Q) else Q none I L)) : Z n0 xX13_findOrder d rc rs 35 [(0, .ref (n0 + 59)), (2, .int a2), (3, .int a3), (4, .int a4), (5, .int a5)] [] K I L (z_q0 K Q) := by
  refine z_iload 4 dX13_findOrder_35 rfl ?_
  refine z_aload_n 0 dX13_findOrder_37 rfl ?_
  refine fg_13_573 (I 59 89) rfl dX13_findOrder_38 hL.1 hL.2.1 rfl ?_
  refine z_icmp_ge 151 dX13_findOrder_41 (by decide) (fun g1 => ?_) (fun g1 => ?_)
  · rw [if_neg g1] at h
    exact z_vret dX13_findOrder_151 rfl ⟨rfl, h⟩
  · rw [if_pos g1] at h
    refine z_iload_n 1 dX13_findOrder_44 rfl ?_
    refine z_iload 3 dX13_findOrder_45 rfl ?_
    obtain ⟨o2, h⟩ := h
    refine z_idiv dX13_findOrder_47 o2 ?_
    refine z_istore [1, 2, 3, 4, 5, 0] [(0, .ref (n0 + 59)), (2, .int a2), (3, .int a3), (4, .int a4), (5, .int a5), (6, .int (a2 / a4))] dX13_findOrder_48 (by decide) rfl ?_
    refine z_iload_n 1 dX13_findOrder_50 rfl ?_
    refine z_iload 3 dX13_findOrder_51 rfl ?_
    refine z_irem dX13_findOrder_53 o2 ?_
    refine z_istore_n [1, 0, 2, 3, 4, 5] [(0, .ref (n0 + 59)), (2, .int (a2 - a2 / a4 * a4)), (3, .int a3), (4, .int a4), (5, .int a5), (6, .int (a2 / a4))] dX13_findOrder_54 (by decide) rfl ?_
    refine z_aload_n 0 dX13_findOrder_55 rfl ?_
    refine fg_13_573 (I 59 89) rfl dX13_findOrder_56 hL.1 hL.2.1 rfl ?_
    refine z_iload 4 dX13_findOrder_59 rfl ?_
    refine z_isub dX13_findOrder_61 ?_
    refine z_iconst 2 dX13_findOrder_62 (by decide) ?_
    refine z_isub dX13_findOrder_63 ?_
    obtain ⟨o4, h⟩ := h
    have key5 : Z n0 xX13_findOrder d rc rs 83 [(0, .ref (n0 + 59)), (2, .int (a2 - a2 / a4 * a4)), (3, .int a3), (5, .int a5), (6, .int (a2 / a4))] [.int (if 0 < ((((I 59 89) - a5) - 2) : Int32) then (a4 / (((I 59 89) - a5) - 1)) else 1)] K I L (z_q0 K Q) := by
      refine z_istore [1, 2, 3, 0, 4, 5] [(0, .ref (n0 + 59)), (2, .int (a2 - a2 / a4 * a4)), (3, .int a3), (4, .int (if 0 < ((((I 59 89) - a5) - 2) : Int32) then (a4 / (((I 59 89) - a5) - 1)) else 1)), (5, .int a5), (6, .int (a2 / a4))] dX13_findOrder_83 (by decide) rfl ?_
      refine z_iconst 0 dX13_findOrder_85 (by decide) ?_
      refine z_istore [1, 2, 3, 4, 5, 6, 0] [(0, .ref (n0 + 59)), (2, .int (a2 - a2 / a4 * a4)), (3, .int a3), (4, .int (if 0 < ((((I 59 89) - a5) - 2) : Int32) then (a4 / (((I 59 89) - a5) - 1)) else 1)), (5, .int a5), (6, .int (a2 / a4)), (7, .int 0)] dX13_findOrder_86 (by decide) rfl ?_
      exact h
    refine z_if_le 82 dX13_findOrder_64 (by decide) (fun g3 => ?_) (fun g3 => ?_)
    · refine z_iconst 1 dX13_findOrder_82 (by decide) ?_
      have ee : ((if 0 < ((((I 59 89) - a5) - 2) : Int32) then (a4 / (((I 59 89) - a5) - 1)) else 1) : Int32) = 1 := by rw [if_neg g3]
      rw [ee] at key5
      clear ee
      refine z_sub [0, 1, 2, 4, 5] rfl ?_
      exact key5
    · refine z_iload 3 dX13_findOrder_67 rfl ?_
      refine z_aload_n 0 dX13_findOrder_69 rfl ?_
      refine fg_13_573 (I 59 89) rfl dX13_findOrder_70 hL.1 hL.2.1 rfl ?_
      refine z_iload 4 dX13_findOrder_73 rfl ?_
      refine z_isub dX13_findOrder_75 ?_
      refine z_iconst 1 dX13_findOrder_76 (by decide) ?_
      refine z_isub dX13_findOrder_77 ?_
      refine z_idiv dX13_findOrder_78 (o4 g3) ?_
      refine z_goto 83 dX13_findOrder_79 (by decide) ?_
      have ee : ((if 0 < ((((I 59 89) - a5) - 2) : Int32) then (a4 / (((I 59 89) - a5) - 1)) else 1) : Int32) = (a4 / (((I 59 89) - a5) - 1)) := by rw [if_pos g3]
      rw [ee] at key5
      clear ee
      refine z_sub [0, 1, 2, 4, 5] rfl ?_
      exact key5
set_option maxRecDepth 100000 in
set_option maxHeartbeats 4000000 in
theorem wp_X13_findOrder_88 {n0 d : Nat} {rc rs : Nat} {K : z_K} {I : z_I} {L : z_L} {Q : z_q} {a2 : Int32} {a3 : Int32} {a4 : Int32} {a5 : Int32} {a6 : Int32} {a7 : Int32} (hL : MLay K) (h : (if ((((a3 : Int32) >>> (a7 &&& 31 : Int32)) &&& 1) : Int32) = 1 then Z n0 xX13_findOrder d rc rs 88 [(0, .ref (n0 + 59)), (2, .int a2), (3, .int a3), (4, .int a4), (5, .int a5), (6, .int (a6 - (if ((((a3 : Int32) >>> (a7 &&& 31 : Int32)) &&& 1) : Int32) = 1 then 0 else 1))), (7, .int (a7 + 1))] [] K I L (z_q0 K Q) else (if 0 < a6 then Z n0 xX13_findOrder d rc rs 88 [(0, .ref (n0 + 59)), (2, .int a2), (3, .int a3), (4, .int a4), (5, .int a5), (6, .int (a6 - (if ((((a3 : Int32) >>> (a7 &&& 31 : Int32)) &&& 1) : Int32) = 1 then 0 else 1))), (7, .int (a7 + 1))] [] K I L (z_q0 K Q) else vp_in a5 4 ∧ Z n0 xX13_findOrder d rc rs 35 [(0, .ref (n0 + 59)), (2, .int a2), (3, .int (a3 ||| ((1 : Int32) <<< (a7 &&& 31 : Int32)))), (4, .int a4), (5, .int (a5 + 1))] [] K (zI I 131 a5.toNatClampNeg a7) L (z_q0 K Q)))) : Z n0 xX13_findOrder d rc rs 88 [(0, .ref (n0 + 59)), (2, .int a2), (3, .int a3), (4, .int a4), (5, .int a5), (6, .int a6), (7, .int a7)] [] K I L (z_q0 K Q) := by
  refine z_iload_n 2 dX13_findOrder_88 rfl ?_
  refine z_iload 6 dX13_findOrder_89 rfl ?_
  refine z_ishr dX13_findOrder_91 ?_
  refine z_iconst 1 dX13_findOrder_92 (by decide) ?_
  refine z_iand dX13_findOrder_93 ?_
  refine z_iconst 1 dX13_findOrder_94 (by decide) ?_
  refine z_icmp_eq 103 dX13_findOrder_95 (by decide) (fun g1 => ?_) (fun g1 => ?_)
  · rw [if_pos g1] at h
    refine z_iload 5 dX13_findOrder_103 rfl ?_
    refine z_iload_n 2 dX13_findOrder_105 rfl ?_
    refine z_iload 6 dX13_findOrder_106 rfl ?_
    refine z_ishr dX13_findOrder_108 ?_
    refine z_iconst 1 dX13_findOrder_109 (by decide) ?_
    refine z_iand dX13_findOrder_110 ?_
    refine z_iconst 1 dX13_findOrder_111 (by decide) ?_
    have key3 : Z n0 xX13_findOrder d rc rs 120 [(0, .ref (n0 + 59)), (2, .int a2), (3, .int a3), (4, .int a4), (5, .int a5), (7, .int a7)] [.int (if ((((a3 : Int32) >>> (a7 &&& 31 : Int32)) &&& 1) : Int32) = 1 then 0 else 1), .int a6] K I L (z_q0 K Q) := by
      refine z_isub dX13_findOrder_120 ?_
      refine z_istore [1, 2, 3, 4, 5, 0, 6] [(0, .ref (n0 + 59)), (2, .int a2), (3, .int a3), (4, .int a4), (5, .int a5), (6, .int (a6 - (if ((((a3 : Int32) >>> (a7 &&& 31 : Int32)) &&& 1) : Int32) = 1 then 0 else 1))), (7, .int a7)] dX13_findOrder_121 (by decide) rfl ?_
      refine z_iinc (j := 6) (a7 + 1) [1, 2, 3, 4, 5, 6, 0] [(0, .ref (n0 + 59)), (2, .int a2), (3, .int a3), (4, .int a4), (5, .int a5), (6, .int (a6 - (if ((((a3 : Int32) >>> (a7 &&& 31 : Int32)) &&& 1) : Int32) = 1 then 0 else 1))), (7, .int (a7 + 1))] dX13_findOrder_123 rfl rfl (by decide) rfl ?_
      refine z_goto 88 dX13_findOrder_126 (by decide) ?_
      exact h
    refine z_icmp_ne 119 dX13_findOrder_112 (by decide) (fun g2 => ?_) (fun g2 => ?_)
    · refine z_iconst 1 dX13_findOrder_119 (by decide) ?_
      have ee : ((if ((((a3 : Int32) >>> (a7 &&& 31 : Int32)) &&& 1) : Int32) = 1 then 0 else 1) : Int32) = 1 := by rw [if_neg g2]
      rw [ee] at key3
      clear ee
      refine z_sub [0, 1, 2, 3, 4, 6] rfl ?_
      exact key3
    · refine z_iconst 0 dX13_findOrder_115 (by decide) ?_
      refine z_goto 120 dX13_findOrder_116 (by decide) ?_
      have ee : ((if ((((a3 : Int32) >>> (a7 &&& 31 : Int32)) &&& 1) : Int32) = 1 then 0 else 1) : Int32) = 0 := by rw [if_pos g2]
      rw [ee] at key3
      clear ee
      refine z_sub [0, 1, 2, 3, 4, 6] rfl ?_
      exact key3
  · rw [if_neg g1] at h
    refine z_iload 5 dX13_findOrder_98 rfl ?_
    refine z_if_le 129 dX13_findOrder_100 (by decide) (fun g4 => ?_) (fun g4 => ?_)
    · rw [if_neg g4] at h
      refine z_iload_n 2 dX13_findOrder_129 rfl ?_
      refine z_iconst 1 dX13_findOrder_130 (by decide) ?_
      refine z_iload 6 dX13_findOrder_131 rfl ?_
      refine z_ishl dX13_findOrder_133 ?_
      refine z_ior dX13_findOrder_134 ?_
      refine z_istore_n [1, 2, 0, 3, 4, 5, 6] [(0, .ref (n0 + 59)), (2, .int a2), (3, .int (a3 ||| ((1 : Int32) <<< (a7 &&& 31 : Int32)))), (4, .int a4), (5, .int a5), (6, .int a6), (7, .int a7)] dX13_findOrder_135 (by decide) rfl ?_
      refine z_aload_n 0 dX13_findOrder_136 rfl ?_
      refine fg_13_225 (some 131) rfl dX13_findOrder_137 hL.1 hL.2.1 (ma_104 hL).1 ?_
      refine z_iload 4 dX13_findOrder_140 rfl ?_
      refine z_iload 6 dX13_findOrder_142 rfl ?_
      obtain ⟨o5, h⟩ := h
      refine z_iast dX13_findOrder_144 (ma_104 hL).2.1 (ma_104 hL).2.2 o5 ?_
      refine z_iinc (j := 4) (a5 + 1) [1, 2, 3, 4, 0, 5, 6] [(0, .ref (n0 + 59)), (2, .int a2), (3, .int (a3 ||| ((1 : Int32) <<< (a7 &&& 31 : Int32)))), (4, .int a4), (5, .int (a5 + 1)), (6, .int a6), (7, .int a7)] dX13_findOrder_145 rfl rfl (by decide) rfl ?_
      refine z_goto 35 dX13_findOrder_148 (by decide) ?_
      refine z_sub [0, 1, 2, 3, 4] rfl ?_
      exact h
    · rw [if_pos g4] at h
      refine z_iload 5 dX13_findOrder_103 rfl ?_
      refine z_iload_n 2 dX13_findOrder_105 rfl ?_
      refine z_iload 6 dX13_findOrder_106 rfl ?_
      refine z_ishr dX13_findOrder_108 ?_
      refine z_iconst 1 dX13_findOrder_109 (by decide) ?_
      refine z_iand dX13_findOrder_110 ?_
      refine z_iconst 1 dX13_findOrder_111 (by decide) ?_
      have key7 : Z n0 xX13_findOrder d rc rs 120 [(0, .ref (n0 + 59)), (2, .int a2), (3, .int a3), (4, .int a4), (5, .int a5), (7, .int a7)] [.int (if ((((a3 : Int32) >>> (a7 &&& 31 : Int32)) &&& 1) : Int32) = 1 then 0 else 1), .int a6] K I L (z_q0 K Q) := by
        refine z_isub dX13_findOrder_120 ?_
        refine z_istore [1, 2, 3, 4, 5, 0, 6] [(0, .ref (n0 + 59)), (2, .int a2), (3, .int a3), (4, .int a4), (5, .int a5), (6, .int (a6 - (if ((((a3 : Int32) >>> (a7 &&& 31 : Int32)) &&& 1) : Int32) = 1 then 0 else 1))), (7, .int a7)] dX13_findOrder_121 (by decide) rfl ?_
        refine z_iinc (j := 6) (a7 + 1) [1, 2, 3, 4, 5, 6, 0] [(0, .ref (n0 + 59)), (2, .int a2), (3, .int a3), (4, .int a4), (5, .int a5), (6, .int (a6 - (if ((((a3 : Int32) >>> (a7 &&& 31 : Int32)) &&& 1) : Int32) = 1 then 0 else 1))), (7, .int (a7 + 1))] dX13_findOrder_123 rfl rfl (by decide) rfl ?_
        refine z_goto 88 dX13_findOrder_126 (by decide) ?_
        exact h
      refine z_icmp_ne 119 dX13_findOrder_112 (by decide) (fun g6 => ?_) (fun g6 => ?_)
      · refine z_iconst 1 dX13_findOrder_119 (by decide) ?_
        have ee : ((if ((((a3 : Int32) >>> (a7 &&& 31 : Int32)) &&& 1) : Int32) = 1 then 0 else 1) : Int32) = 1 := by rw [if_neg g6]
        rw [ee] at key7
        clear ee
        refine z_sub [0, 1, 2, 3, 4, 6] rfl ?_
        exact key7
      · refine z_iconst 0 dX13_findOrder_115 (by decide) ?_
        refine z_goto 120 dX13_findOrder_116 (by decide) ?_
        have ee : ((if ((((a3 : Int32) >>> (a7 &&& 31 : Int32)) &&& 1) : Int32) = 1 then 0 else 1) : Int32) = 0 := by rw [if_pos g6]
        rw [ee] at key7
        clear ee
        refine z_sub [0, 1, 2, 3, 4, 6] rfl ?_
        exact key7
theorem dX13_ways_0 : decode cX13_ways 0 = .ok (.iload_n 0, 1) := by decide +kernel
theorem dX13_ways_1 : decode cX13_ways 1 = .ok (.iconst 4, 1) := by decide +kernel
theorem dX13_ways_2 : decode cX13_ways 2 = .ok (.if_icmp .ne 8, 3) := by decide +kernel
theorem dX13_ways_5 : decode cX13_ways 5 = .ok (.bipush 24, 2) := by decide +kernel
theorem dX13_ways_7 : decode cX13_ways 7 = .ok (.goto 23, 3) := by decide +kernel
theorem dX13_ways_10 : decode cX13_ways 10 = .ok (.iload_n 0, 1) := by decide +kernel
theorem dX13_ways_11 : decode cX13_ways 11 = .ok (.iconst 3, 1) := by decide +kernel
theorem dX13_ways_12 : decode cX13_ways 12 = .ok (.if_icmp .ne 8, 3) := by decide +kernel
theorem dX13_ways_15 : decode cX13_ways 15 = .ok (.bipush 6, 2) := by decide +kernel
theorem dX13_ways_17 : decode cX13_ways 17 = .ok (.goto 13, 3) := by decide +kernel
theorem dX13_ways_20 : decode cX13_ways 20 = .ok (.iload_n 0, 1) := by decide +kernel
theorem dX13_ways_21 : decode cX13_ways 21 = .ok (.iconst 2, 1) := by decide +kernel
theorem dX13_ways_22 : decode cX13_ways 22 = .ok (.if_icmp .ne 7, 3) := by decide +kernel
theorem dX13_ways_25 : decode cX13_ways 25 = .ok (.iconst 2, 1) := by decide +kernel
theorem dX13_ways_26 : decode cX13_ways 26 = .ok (.goto 4, 3) := by decide +kernel
theorem dX13_ways_29 : decode cX13_ways 29 = .ok (.iconst 1, 1) := by decide +kernel
theorem dX13_ways_30 : decode cX13_ways 30 = .ok (.ireturn, 1) := by decide +kernel
set_option maxRecDepth 100000 in
set_option maxHeartbeats 4000000 in
theorem wp_X13_ways {n0 d : Nat} {K : z_K} {I : z_I} {L : z_L} {Q : z_q} {p0 : Int32} (hL : MLay K) (h : Q (some (.int (if p0 = 4 then 24 else if p0 = 3 then 6 else if p0 = 2 then 2 else 1))) I L) : RM0 n0 xX13_ways d [.int p0] K I L Q := by
  refine z_entry0 (by decide) (Nat.le_of_ble_eq_true rfl) ?_
  change Z n0 xX13_ways d 0 0 0 [(0, .int p0)] [] K I L (z_q0 K Q)
  refine z_iload_n 0 dX13_ways_0 rfl ?_
  refine z_iconst 4 dX13_ways_1 (by decide) ?_
  have key4 : Z n0 xX13_ways d 0 0 30 [] [.int (if p0 = 4 then 24 else if p0 = 3 then 6 else if p0 = 2 then 2 else 1)] K I L (z_q0 K Q) := by
    exact z_iret dX13_ways_30 rfl ⟨rfl, h⟩
  refine z_icmp_ne 10 dX13_ways_2 (by decide) (fun g1 => ?_) (fun g1 => ?_)
  · refine z_iload_n 0 dX13_ways_10 rfl ?_
    refine z_iconst 3 dX13_ways_11 (by decide) ?_
    refine z_icmp_ne 20 dX13_ways_12 (by decide) (fun g2 => ?_) (fun g2 => ?_)
    · refine z_iload_n 0 dX13_ways_20 rfl ?_
      refine z_iconst 2 dX13_ways_21 (by decide) ?_
      refine z_icmp_ne 29 dX13_ways_22 (by decide) (fun g3 => ?_) (fun g3 => ?_)
      · refine z_iconst 1 dX13_ways_29 (by decide) ?_
        have ee : ((if p0 = 4 then 24 else if p0 = 3 then 6 else if p0 = 2 then 2 else 1) : Int32) = 1 := by rw [if_neg g1, if_neg g2, if_neg g3]
        rw [ee] at key4
        clear ee
        refine z_sub [] rfl ?_
        exact key4
      · refine z_iconst 2 dX13_ways_25 (by decide) ?_
        refine z_goto 30 dX13_ways_26 (by decide) ?_
        have ee : ((if p0 = 4 then 24 else if p0 = 3 then 6 else if p0 = 2 then 2 else 1) : Int32) = 2 := by rw [if_neg g1, if_neg g2, if_pos g3]
        rw [ee] at key4
        clear ee
        refine z_sub [] rfl ?_
        exact key4
    · refine z_bipush 6 dX13_ways_15 (by decide) ?_
      refine z_goto 30 dX13_ways_17 (by decide) ?_
      have ee : ((if p0 = 4 then 24 else if p0 = 3 then 6 else if p0 = 2 then 2 else 1) : Int32) = 6 := by rw [if_neg g1, if_pos g2]
      rw [ee] at key4
      clear ee
      refine z_sub [] rfl ?_
      exact key4
  · refine z_bipush 24 dX13_ways_5 (by decide) ?_
    refine z_goto 30 dX13_ways_7 (by decide) ?_
    have ee : ((if p0 = 4 then 24 else if p0 = 3 then 6 else if p0 = 2 then 2 else 1) : Int32) = 24 := by rw [if_pos g1]
    rw [ee] at key4
    clear ee
    refine z_sub [] rfl ?_
    exact key4
theorem dX13_findShortest_0 : decode cX13_findShortest 0 = .ok (.aload_n 0, 1) := by decide +kernel
theorem dX13_findShortest_1 : decode cX13_findShortest 1 = .ok (.invokevirtual 586, 3) := by decide +kernel
theorem dX13_findShortest_4 : decode cX13_findShortest 4 = .ok (.iconst (-1), 1) := by decide +kernel
theorem dX13_findShortest_5 : decode cX13_findShortest 5 = .ok (.istore_n 1, 1) := by decide +kernel
theorem dX13_findShortest_6 : decode cX13_findShortest 6 = .ok (.iconst 0, 1) := by decide +kernel
theorem dX13_findShortest_7 : decode cX13_findShortest 7 = .ok (.istore_n 2, 1) := by decide +kernel
theorem dX13_findShortest_8 : decode cX13_findShortest 8 = .ok (.iload_n 2, 1) := by decide +kernel
theorem dX13_findShortest_9 : decode cX13_findShortest 9 = .ok (.aload_n 0, 1) := by decide +kernel
theorem dX13_findShortest_10 : decode cX13_findShortest 10 = .ok (.getfield 573, 3) := by decide +kernel
theorem dX13_findShortest_13 : decode cX13_findShortest 13 = .ok (.invokestatic 589, 3) := by decide +kernel
theorem dX13_findShortest_16 : decode cX13_findShortest 16 = .ok (.if_icmp .ge 135, 3) := by decide +kernel
theorem dX13_findShortest_19 : decode cX13_findShortest 19 = .ok (.aload_n 0, 1) := by decide +kernel
theorem dX13_findShortest_20 : decode cX13_findShortest 20 = .ok (.iload_n 2, 1) := by decide +kernel
theorem dX13_findShortest_21 : decode cX13_findShortest 21 = .ok (.invokevirtual 592, 3) := by decide +kernel
theorem dX13_findShortest_24 : decode cX13_findShortest 24 = .ok (.aload_n 0, 1) := by decide +kernel
theorem dX13_findShortest_25 : decode cX13_findShortest 25 = .ok (.invokevirtual 595, 3) := by decide +kernel
theorem dX13_findShortest_28 : decode cX13_findShortest 28 = .ok (.iconst 1, 1) := by decide +kernel
theorem dX13_findShortest_29 : decode cX13_findShortest 29 = .ok (.istore_n 3, 1) := by decide +kernel
theorem dX13_findShortest_30 : decode cX13_findShortest 30 = .ok (.iconst 0, 1) := by decide +kernel
theorem dX13_findShortest_31 : decode cX13_findShortest 31 = .ok (.istore 4, 2) := by decide +kernel
theorem dX13_findShortest_33 : decode cX13_findShortest 33 = .ok (.iload 4, 2) := by decide +kernel
theorem dX13_findShortest_35 : decode cX13_findShortest 35 = .ok (.aload_n 0, 1) := by decide +kernel
theorem dX13_findShortest_36 : decode cX13_findShortest 36 = .ok (.getfield 573, 3) := by decide +kernel
theorem dX13_findShortest_39 : decode cX13_findShortest 39 = .ok (.if_icmp .ge 25, 3) := by decide +kernel
theorem dX13_findShortest_42 : decode cX13_findShortest 42 = .ok (.iload_n 3, 1) := by decide +kernel
theorem dX13_findShortest_43 : decode cX13_findShortest 43 = .ok (.ifCond .eq 21, 3) := by decide +kernel
theorem dX13_findShortest_46 : decode cX13_findShortest 46 = .ok (.aload_n 0, 1) := by decide +kernel
theorem dX13_findShortest_47 : decode cX13_findShortest 47 = .ok (.aload_n 0, 1) := by decide +kernel
theorem dX13_findShortest_48 : decode cX13_findShortest 48 = .ok (.getfield 225, 3) := by decide +kernel
theorem dX13_findShortest_51 : decode cX13_findShortest 51 = .ok (.iload 4, 2) := by decide +kernel
theorem dX13_findShortest_53 : decode cX13_findShortest 53 = .ok (.iaload, 1) := by decide +kernel
theorem dX13_findShortest_54 : decode cX13_findShortest 54 = .ok (.invokevirtual 598, 3) := by decide +kernel
theorem dX13_findShortest_57 : decode cX13_findShortest 57 = .ok (.istore_n 3, 1) := by decide +kernel
theorem dX13_findShortest_58 : decode cX13_findShortest 58 = .ok (.iinc 4 1, 3) := by decide +kernel
theorem dX13_findShortest_61 : decode cX13_findShortest 61 = .ok (.goto (-28), 3) := by decide +kernel
theorem dX13_findShortest_64 : decode cX13_findShortest 64 = .ok (.iload_n 3, 1) := by decide +kernel
theorem dX13_findShortest_65 : decode cX13_findShortest 65 = .ok (.ifCond .eq 80, 3) := by decide +kernel
theorem dX13_findShortest_68 : decode cX13_findShortest 68 = .ok (.iload_n 1, 1) := by decide +kernel
theorem dX13_findShortest_69 : decode cX13_findShortest 69 = .ok (.ifCond .lt 11, 3) := by decide +kernel
theorem dX13_findShortest_72 : decode cX13_findShortest 72 = .ok (.aload_n 0, 1) := by decide +kernel
theorem dX13_findShortest_73 : decode cX13_findShortest 73 = .ok (.invokevirtual 601, 3) := by decide +kernel
theorem dX13_findShortest_76 : decode cX13_findShortest 76 = .ok (.iload_n 1, 1) := by decide +kernel
theorem dX13_findShortest_77 : decode cX13_findShortest 77 = .ok (.if_icmp .ge 68, 3) := by decide +kernel
theorem dX13_findShortest_80 : decode cX13_findShortest 80 = .ok (.aload_n 0, 1) := by decide +kernel
theorem dX13_findShortest_81 : decode cX13_findShortest 81 = .ok (.invokevirtual 601, 3) := by decide +kernel
theorem dX13_findShortest_84 : decode cX13_findShortest 84 = .ok (.istore_n 1, 1) := by decide +kernel
theorem dX13_findShortest_85 : decode cX13_findShortest 85 = .ok (.iconst 0, 1) := by decide +kernel
theorem dX13_findShortest_86 : decode cX13_findShortest 86 = .ok (.istore 4, 2) := by decide +kernel
theorem dX13_findShortest_88 : decode cX13_findShortest 88 = .ok (.iload 4, 2) := by decide +kernel
theorem dX13_findShortest_90 : decode cX13_findShortest 90 = .ok (.aload_n 0, 1) := by decide +kernel
theorem dX13_findShortest_91 : decode cX13_findShortest 91 = .ok (.getfield 573, 3) := by decide +kernel
theorem dX13_findShortest_94 : decode cX13_findShortest 94 = .ok (.if_icmp .ge 51, 3) := by decide +kernel
theorem dX13_findShortest_97 : decode cX13_findShortest 97 = .ok (.aload_n 0, 1) := by decide +kernel
theorem dX13_findShortest_98 : decode cX13_findShortest 98 = .ok (.getfield 213, 3) := by decide +kernel
theorem dX13_findShortest_101 : decode cX13_findShortest 101 = .ok (.iload 4, 2) := by decide +kernel
theorem dX13_findShortest_103 : decode cX13_findShortest 103 = .ok (.aload_n 0, 1) := by decide +kernel
theorem dX13_findShortest_104 : decode cX13_findShortest 104 = .ok (.getfield 204, 3) := by decide +kernel
theorem dX13_findShortest_107 : decode cX13_findShortest 107 = .ok (.iload 4, 2) := by decide +kernel
theorem dX13_findShortest_109 : decode cX13_findShortest 109 = .ok (.iaload, 1) := by decide +kernel
theorem dX13_findShortest_110 : decode cX13_findShortest 110 = .ok (.iastore, 1) := by decide +kernel
theorem dX13_findShortest_111 : decode cX13_findShortest 111 = .ok (.aload_n 0, 1) := by decide +kernel
theorem dX13_findShortest_112 : decode cX13_findShortest 112 = .ok (.getfield 216, 3) := by decide +kernel
theorem dX13_findShortest_115 : decode cX13_findShortest 115 = .ok (.iload 4, 2) := by decide +kernel
theorem dX13_findShortest_117 : decode cX13_findShortest 117 = .ok (.aload_n 0, 1) := by decide +kernel
theorem dX13_findShortest_118 : decode cX13_findShortest 118 = .ok (.getfield 207, 3) := by decide +kernel
theorem dX13_findShortest_121 : decode cX13_findShortest 121 = .ok (.iload 4, 2) := by decide +kernel
theorem dX13_findShortest_123 : decode cX13_findShortest 123 = .ok (.iaload, 1) := by decide +kernel
theorem dX13_findShortest_124 : decode cX13_findShortest 124 = .ok (.iastore, 1) := by decide +kernel
theorem dX13_findShortest_125 : decode cX13_findShortest 125 = .ok (.aload_n 0, 1) := by decide +kernel
theorem dX13_findShortest_126 : decode cX13_findShortest 126 = .ok (.getfield 219, 3) := by decide +kernel
theorem dX13_findShortest_129 : decode cX13_findShortest 129 = .ok (.iload 4, 2) := by decide +kernel
theorem dX13_findShortest_131 : decode cX13_findShortest 131 = .ok (.aload_n 0, 1) := by decide +kernel
theorem dX13_findShortest_132 : decode cX13_findShortest 132 = .ok (.getfield 210, 3) := by decide +kernel
theorem dX13_findShortest_135 : decode cX13_findShortest 135 = .ok (.iload 4, 2) := by decide +kernel
theorem dX13_findShortest_137 : decode cX13_findShortest 137 = .ok (.iaload, 1) := by decide +kernel
theorem dX13_findShortest_138 : decode cX13_findShortest 138 = .ok (.iastore, 1) := by decide +kernel
theorem dX13_findShortest_139 : decode cX13_findShortest 139 = .ok (.iinc 4 1, 3) := by decide +kernel
theorem dX13_findShortest_142 : decode cX13_findShortest 142 = .ok (.goto (-54), 3) := by decide +kernel
theorem dX13_findShortest_145 : decode cX13_findShortest 145 = .ok (.iinc 2 1, 3) := by decide +kernel
theorem dX13_findShortest_148 : decode cX13_findShortest 148 = .ok (.goto (-140), 3) := by decide +kernel
theorem dX13_findShortest_151 : decode cX13_findShortest 151 = .ok (.iload_n 1, 1) := by decide +kernel
theorem dX13_findShortest_152 : decode cX13_findShortest 152 = .ok (.ireturn, 1) := by decide +kernel
set_option maxRecDepth 100000 in
set_option maxHeartbeats 4000000 in
theorem wp_X13_findShortest {n0 d : Nat} {K : z_K} {I : z_I} {L : z_L} {Q : z_q}  (hL : MLay K) (h : RM0 n0 xX13_findTurned d [.ref (n0 + 59)] K I L (fun vv I1 L2 => vv = none ∧ Z n0 xX13_findShortest (d + 1) 0 0 8 [(0, .ref (n0 + 59)), (1, .int (-1)), (2, .int 0)] [] K I1 L2 (z_q0 K Q))) : RM0 n0 xX13_findShortest (d + 1) [.ref (n0 + 59)] K I L Q := by
  refine z_entry0 (by decide) (Nat.le_of_ble_eq_true rfl) ?_
  change Z n0 xX13_findShortest (d + 1) 0 0 0 [(0, .ref (n0 + 59))] [] K I L (z_q0 K Q)
  refine z_aload_n 0 dX13_findShortest_0 rfl ?_
  refine z_callV0 (As := []) (st := []) dX13_findShortest_1 hy_X13_findTurned hL.1 hL.2.1 (by decide) wg_2122 wg_2124 wg_94 (Nat.le_refl _) (Nat.le_of_ble_eq_true rfl) (RM0.mono h (fun vv I1 L2 h => ?_))
  obtain ⟨rfl, h⟩ := h
  change Z n0 xX13_findShortest (d + 1) 0 0 4 [(0, .ref (n0 + 59))] [] K I1 L2 (z_q0 K Q)
  refine z_iconst (-1) dX13_findShortest_4 (by decide) ?_
  refine z_istore_n [1, 0] [(0, .ref (n0 + 59)), (1, .int (-1))] dX13_findShortest_5 (by decide) rfl ?_
  refine z_iconst 0 dX13_findShortest_6 (by decide) ?_
  refine z_istore_n [1, 2, 0] [(0, .ref (n0 + 59)), (1, .int (-1)), (2, .int 0)] dX13_findShortest_7 (by decide) rfl ?_
  exact h
set_option maxRecDepth 100000 in
set_option maxHeartbeats 4000000 in
theorem wp_X13_findShortest_8 {n0 d : Nat} {rc rs : Nat} {K : z_K} {I : z_I} {L : z_L} {Q : z_q} {a1 : Int32} {a2 : Int32} (hL : MLay K) (h : RM0 n0 xX13_ways d [.int (I 59 89)] K I L (fun vv I1 L2 => ∃ r3 : Int32, vv = some (.int r3) ∧ (if a2 < r3 then RM0 n0 xX13_findOrder d [.ref (n0 + 59), .int a2] K I1 L2 (fun vv I5 L6 => vv = none ∧ RM0 n0 xX13_clearCloth d [.ref (n0 + 59)] K I5 L6 (fun vv I7 L8 => vv = none ∧ Z n0 xX13_findShortest (d + 1) rc rs 33 [(0, .ref (n0 + 59)), (1, .int a1), (2, .int a2), (3, .int 1), (4, .int 0)] [] K I7 L8 (z_q0 K Q))) else Q (some (.int a1)) I1 L2))) : Z n0 xX13_findShortest (d + 1) rc rs 8 [(0, .ref (n0 + 59)), (1, .int a1), (2, .int a2)] [] K I L (z_q0 K Q) := by
  refine z_iload_n 2 dX13_findShortest_8 rfl ?_
  refine z_aload_n 0 dX13_findShortest_9 rfl ?_
  refine fg_13_573 (I 59 89) rfl dX13_findShortest_10 hL.1 hL.2.1 rfl ?_
  refine z_callS0 (As := [.int (I 59 89)]) (st := [.int a2]) dX13_findShortest_13 hy_X13_ways wg_2129 wg_2130 (Nat.le_refl _) (Nat.le_of_ble_eq_true rfl) (RM0.mono h (fun vv I1 L2 h => ?_))
  obtain ⟨r3, rfl, h⟩ := h
  change Z n0 xX13_findShortest (d + 1) rc rs 16 [(0, .ref (n0 + 59)), (1, .int a1), (2, .int a2)] [.int r3, .int a2] K I1 L2 (z_q0 K Q)
  refine z_icmp_ge 151 dX13_findShortest_16 (by decide) (fun g4 => ?_) (fun g4 => ?_)
  · rw [if_neg g4] at h
    refine z_iload_n 1 dX13_findShortest_151 rfl ?_
    exact z_iret dX13_findShortest_152 rfl ⟨rfl, h⟩
  · rw [if_pos g4] at h
    refine z_aload_n 0 dX13_findShortest_19 rfl ?_
    refine z_iload_n 2 dX13_findShortest_20 rfl ?_
    refine z_callV0 (As := [.int a2]) (st := []) dX13_findShortest_21 hy_X13_findOrder hL.1 hL.2.1 (by decide) wg_2132 wg_2134 wg_95 (Nat.le_refl _) (Nat.le_of_ble_eq_true rfl) (RM0.mono h (fun vv I5 L6 h => ?_))
    obtain ⟨rfl, h⟩ := h
    change Z n0 xX13_findShortest (d + 1) rc rs 24 [(0, .ref (n0 + 59)), (1, .int a1), (2, .int a2)] [] K I5 L6 (z_q0 K Q)
    refine z_aload_n 0 dX13_findShortest_24 rfl ?_
    refine z_callV0 (As := []) (st := []) dX13_findShortest_25 hy_X13_clearCloth hL.1 hL.2.1 (by decide) wg_2136 wg_2138 wg_96 (Nat.le_refl _) (Nat.le_of_ble_eq_true rfl) (RM0.mono h (fun vv I7 L8 h => ?_))
    obtain ⟨rfl, h⟩ := h
    change Z n0 xX13_findShortest (d + 1) rc rs 28 [(0, .ref (n0 + 59)), (1, .int a1), (2, .int a2)] [] K I7 L8 (z_q0 K Q)
    refine z_iconst 1 dX13_findShortest_28 (by decide) ?_
    refine z_istore_n [1, 2, 3, 0] [(0, .ref (n0 + 59)), (1, .int a1), (2, .int a2), (3, .int 1)] dX13_findShortest_29 (by decide) rfl ?_
    refine z_iconst 0 dX13_findShortest_30 (by decide) ?_
    refine z_istore [1, 2, 3, 4, 0] [(0, .ref (n0 + 59)), (1, .int a1), (2, .int a2), (3, .int 1), (4, .int 0)] dX13_findShortest_31 (by decide) rfl ?_
    exact h
set_option maxRecDepth 100000 in
set_option maxHeartbeats 4000000 in
theorem wp_X13_findShortest_33 {n0 d : Nat} {rc rs : Nat} {K : z_K} {I : z_I} {L : z_L} {Q : z_q} {a1 : Int32} {a2 : Int32} {a3 : Int32} {a4 : Int32} (hL : MLay K) (h : (if a4 < (I 59 89) then (if a3 = 0 then (if a3 = 0 then Z n0 xX13_findShortest (d + 1) rc rs 8 [(0, .ref (n0 + 59)), (1, .int a1), (2, .int (a2 + 1))] [] K I L (z_q0 K Q) else (if a1 < 0 then RM0 n0 xX13_longOf d [.ref (n0 + 59)] K I L (fun vv I17 L18 => ∃ r19 : Int32, vv = some (.int r19) ∧ Z n0 xX13_findShortest (d + 1) rc rs 88 [(0, .ref (n0 + 59)), (1, .int r19), (2, .int a2), (4, .int 0)] [] K I17 L18 (z_q0 K Q)) else RM0 n0 xX13_longOf d [.ref (n0 + 59)] K I L (fun vv I20 L21 => ∃ r22 : Int32, vv = some (.int r22) ∧ (if r22 < a1 then RM0 n0 xX13_longOf d [.ref (n0 + 59)] K I20 L21 (fun vv I24 L25 => ∃ r26 : Int32, vv = some (.int r26) ∧ Z n0 xX13_findShortest (d + 1) rc rs 88 [(0, .ref (n0 + 59)), (1, .int r26), (2, .int a2), (4, .int 0)] [] K I24 L25 (z_q0 K Q)) else Z n0 xX13_findShortest (d + 1) rc rs 8 [(0, .ref (n0 + 59)), (1, .int a1), (2, .int (a2 + 1))] [] K I20 L21 (z_q0 K Q))))) else vp_in a4 4 ∧ RM0 n0 xX13_layFirst d [.ref (n0 + 59), .int (I 131 a4.toNatClampNeg)] K I L (fun vv I28 L29 => ∃ r30 : Int32, vv = some (.int r30) ∧ Z n0 xX13_findShortest (d + 1) rc rs 33 [(0, .ref (n0 + 59)), (1, .int a1), (2, .int a2), (3, .int r30), (4, .int (a4 + 1))] [] K I28 L29 (z_q0 K Q))) else (if a3 = 0 then Z n0 xX13_findShortest (d + 1) rc rs 8 [(0, .ref (n0 + 59)), (1, .int a1), (2, .int (a2 + 1))] [] K I L (z_q0 K Q) else (if a1 < 0 then RM0 n0 xX13_longOf d [.ref (n0 + 59)] K I L (fun vv I4 L5 => ∃ r6 : Int32, vv = some (.int r6) ∧ Z n0 xX13_findShortest (d + 1) rc rs 88 [(0, .ref (n0 + 59)), (1, .int r6), (2, .int a2), (4, .int 0)] [] K I4 L5 (z_q0 K Q)) else RM0 n0 xX13_longOf d [.ref (n0 + 59)] K I L (fun vv I7 L8 => ∃ r9 : Int32, vv = some (.int r9) ∧ (if r9 < a1 then RM0 n0 xX13_longOf d [.ref (n0 + 59)] K I7 L8 (fun vv I11 L12 => ∃ r13 : Int32, vv = some (.int r13) ∧ Z n0 xX13_findShortest (d + 1) rc rs 88 [(0, .ref (n0 + 59)), (1, .int r13), (2, .int a2), (4, .int 0)] [] K I11 L12 (z_q0 K Q)) else Z n0 xX13_findShortest (d + 1) rc rs 8 [(0, .ref (n0 + 59)), (1, .int a1), (2, .int (a2 + 1))] [] K I7 L8 (z_q0 K Q))))))) : Z n0 xX13_findShortest (d + 1) rc rs 33 [(0, .ref (n0 + 59)), (1, .int a1), (2, .int a2), (3, .int a3), (4, .int a4)] [] K I L (z_q0 K Q) := by
  refine z_iload 4 dX13_findShortest_33 rfl ?_
  refine z_aload_n 0 dX13_findShortest_35 rfl ?_
  refine fg_13_573 (I 59 89) rfl dX13_findShortest_36 hL.1 hL.2.1 rfl ?_
  refine z_icmp_ge 64 dX13_findShortest_39 (by decide) (fun g1 => ?_) (fun g1 => ?_)
  · rw [if_neg g1] at h
    refine z_iload_n 3 dX13_findShortest_64 rfl ?_
    refine z_if_eq 145 dX13_findShortest_65 (by decide) (fun g2 => ?_) (fun g2 => ?_)
    · rw [if_pos g2] at h
      refine z_iinc (j := 2) (a2 + 1) [1, 2, 0, 3, 4] [(0, .ref (n0 + 59)), (1, .int a1), (2, .int (a2 + 1)), (3, .int a3), (4, .int a4)] dX13_findShortest_145 rfl rfl (by decide) rfl ?_
      refine z_goto 8 dX13_findShortest_148 (by decide) ?_
      refine z_sub [0, 1, 2] rfl ?_
      exact h
    · rw [if_neg g2] at h
      refine z_iload_n 1 dX13_findShortest_68 rfl ?_
      refine z_if_lt 80 dX13_findShortest_69 (by decide) (fun g3 => ?_) (fun g3 => ?_)
      · rw [if_pos g3] at h
        refine z_aload_n 0 dX13_findShortest_80 rfl ?_
        refine z_callV0 (As := []) (st := []) dX13_findShortest_81 hy_X13_longOf hL.1 hL.2.1 (by decide) wg_2152 wg_2154 wg_100 (Nat.le_refl _) (Nat.le_of_ble_eq_true rfl) (RM0.mono h (fun vv I4 L5 h => ?_))
        obtain ⟨r6, rfl, h⟩ := h
        change Z n0 xX13_findShortest (d + 1) rc rs 84 [(0, .ref (n0 + 59)), (1, .int a1), (2, .int a2), (3, .int a3), (4, .int a4)] [.int r6] K I4 L5 (z_q0 K Q)
        refine z_istore_n [1, 0, 2, 3, 4] [(0, .ref (n0 + 59)), (1, .int r6), (2, .int a2), (3, .int a3), (4, .int a4)] dX13_findShortest_84 (by decide) rfl ?_
        refine z_iconst 0 dX13_findShortest_85 (by decide) ?_
        refine z_istore [1, 2, 3, 4, 0] [(0, .ref (n0 + 59)), (1, .int r6), (2, .int a2), (3, .int a3), (4, .int 0)] dX13_findShortest_86 (by decide) rfl ?_
        refine z_sub [0, 1, 2, 4] rfl ?_
        exact h
      · rw [if_neg g3] at h
        refine z_aload_n 0 dX13_findShortest_72 rfl ?_
        refine z_callV0 (As := []) (st := []) dX13_findShortest_73 hy_X13_longOf hL.1 hL.2.1 (by decide) wg_2152 wg_2154 wg_100 (Nat.le_refl _) (Nat.le_of_ble_eq_true rfl) (RM0.mono h (fun vv I7 L8 h => ?_))
        obtain ⟨r9, rfl, h⟩ := h
        change Z n0 xX13_findShortest (d + 1) rc rs 76 [(0, .ref (n0 + 59)), (1, .int a1), (2, .int a2), (3, .int a3), (4, .int a4)] [.int r9] K I7 L8 (z_q0 K Q)
        refine z_iload_n 1 dX13_findShortest_76 rfl ?_
        refine z_icmp_ge 145 dX13_findShortest_77 (by decide) (fun g10 => ?_) (fun g10 => ?_)
        · rw [if_neg g10] at h
          refine z_iinc (j := 2) (a2 + 1) [1, 2, 0, 3, 4] [(0, .ref (n0 + 59)), (1, .int a1), (2, .int (a2 + 1)), (3, .int a3), (4, .int a4)] dX13_findShortest_145 rfl rfl (by decide) rfl ?_
          refine z_goto 8 dX13_findShortest_148 (by decide) ?_
          refine z_sub [0, 1, 2] rfl ?_
          exact h
        · rw [if_pos g10] at h
          refine z_aload_n 0 dX13_findShortest_80 rfl ?_
          refine z_callV0 (As := []) (st := []) dX13_findShortest_81 hy_X13_longOf hL.1 hL.2.1 (by decide) wg_2152 wg_2154 wg_100 (Nat.le_refl _) (Nat.le_of_ble_eq_true rfl) (RM0.mono h (fun vv I11 L12 h => ?_))
          obtain ⟨r13, rfl, h⟩ := h
          change Z n0 xX13_findShortest (d + 1) rc rs 84 [(0, .ref (n0 + 59)), (1, .int a1), (2, .int a2), (3, .int a3), (4, .int a4)] [.int r13] K I11 L12 (z_q0 K Q)
          refine z_istore_n [1, 0, 2, 3, 4] [(0, .ref (n0 + 59)), (1, .int r13), (2, .int a2), (3, .int a3), (4, .int a4)] dX13_findShortest_84 (by decide) rfl ?_
          refine z_iconst 0 dX13_findShortest_85 (by decide) ?_
          refine z_istore [1, 2, 3, 4, 0] [(0, .ref (n0 + 59)), (1, .int r13), (2, .int a2), (3, .int a3), (4, .int 0)] dX13_findShortest_86 (by decide) rfl ?_
          refine z_sub [0, 1, 2, 4] rfl ?_
          exact h
  · rw [if_pos g1] at h
    refine z_iload_n 3 dX13_findShortest_42 rfl ?_
    refine z_if_eq 64 dX13_findShortest_43 (by decide) (fun g14 => ?_) (fun g14 => ?_)
    · rw [if_pos g14] at h
      refine z_iload_n 3 dX13_findShortest_64 rfl ?_
      refine z_if_eq 145 dX13_findShortest_65 (by decide) (fun g15 => ?_) (fun g15 => ?_)
      · rw [if_pos g15] at h
        refine z_iinc (j := 2) (a2 + 1) [1, 2, 0, 3, 4] [(0, .ref (n0 + 59)), (1, .int a1), (2, .int (a2 + 1)), (3, .int a3), (4, .int a4)] dX13_findShortest_145 rfl rfl (by decide) rfl ?_
        refine z_goto 8 dX13_findShortest_148 (by decide) ?_
        refine z_sub [0, 1, 2] rfl ?_
        exact h
      · rw [if_neg g15] at h
        refine z_iload_n 1 dX13_findShortest_68 rfl ?_
        refine z_if_lt 80 dX13_findShortest_69 (by decide) (fun g16 => ?_) (fun g16 => ?_)
        · rw [if_pos g16] at h
          refine z_aload_n 0 dX13_findShortest_80 rfl ?_
          refine z_callV0 (As := []) (st := []) dX13_findShortest_81 hy_X13_longOf hL.1 hL.2.1 (by decide) wg_2152 wg_2154 wg_100 (Nat.le_refl _) (Nat.le_of_ble_eq_true rfl) (RM0.mono h (fun vv I17 L18 h => ?_))
          obtain ⟨r19, rfl, h⟩ := h
          change Z n0 xX13_findShortest (d + 1) rc rs 84 [(0, .ref (n0 + 59)), (1, .int a1), (2, .int a2), (3, .int a3), (4, .int a4)] [.int r19] K I17 L18 (z_q0 K Q)
          refine z_istore_n [1, 0, 2, 3, 4] [(0, .ref (n0 + 59)), (1, .int r19), (2, .int a2), (3, .int a3), (4, .int a4)] dX13_findShortest_84 (by decide) rfl ?_
          refine z_iconst 0 dX13_findShortest_85 (by decide) ?_
          refine z_istore [1, 2, 3, 4, 0] [(0, .ref (n0 + 59)), (1, .int r19), (2, .int a2), (3, .int a3), (4, .int 0)] dX13_findShortest_86 (by decide) rfl ?_
          refine z_sub [0, 1, 2, 4] rfl ?_
          exact h
        · rw [if_neg g16] at h
          refine z_aload_n 0 dX13_findShortest_72 rfl ?_
          refine z_callV0 (As := []) (st := []) dX13_findShortest_73 hy_X13_longOf hL.1 hL.2.1 (by decide) wg_2152 wg_2154 wg_100 (Nat.le_refl _) (Nat.le_of_ble_eq_true rfl) (RM0.mono h (fun vv I20 L21 h => ?_))
          obtain ⟨r22, rfl, h⟩ := h
          change Z n0 xX13_findShortest (d + 1) rc rs 76 [(0, .ref (n0 + 59)), (1, .int a1), (2, .int a2), (3, .int a3), (4, .int a4)] [.int r22] K I20 L21 (z_q0 K Q)
          refine z_iload_n 1 dX13_findShortest_76 rfl ?_
          refine z_icmp_ge 145 dX13_findShortest_77 (by decide) (fun g23 => ?_) (fun g23 => ?_)
          · rw [if_neg g23] at h
            refine z_iinc (j := 2) (a2 + 1) [1, 2, 0, 3, 4] [(0, .ref (n0 + 59)), (1, .int a1), (2, .int (a2 + 1)), (3, .int a3), (4, .int a4)] dX13_findShortest_145 rfl rfl (by decide) rfl ?_
            refine z_goto 8 dX13_findShortest_148 (by decide) ?_
            refine z_sub [0, 1, 2] rfl ?_
            exact h
          · rw [if_pos g23] at h
            refine z_aload_n 0 dX13_findShortest_80 rfl ?_
            refine z_callV0 (As := []) (st := []) dX13_findShortest_81 hy_X13_longOf hL.1 hL.2.1 (by decide) wg_2152 wg_2154 wg_100 (Nat.le_refl _) (Nat.le_of_ble_eq_true rfl) (RM0.mono h (fun vv I24 L25 h => ?_))
            obtain ⟨r26, rfl, h⟩ := h
            change Z n0 xX13_findShortest (d + 1) rc rs 84 [(0, .ref (n0 + 59)), (1, .int a1), (2, .int a2), (3, .int a3), (4, .int a4)] [.int r26] K I24 L25 (z_q0 K Q)
            refine z_istore_n [1, 0, 2, 3, 4] [(0, .ref (n0 + 59)), (1, .int r26), (2, .int a2), (3, .int a3), (4, .int a4)] dX13_findShortest_84 (by decide) rfl ?_
            refine z_iconst 0 dX13_findShortest_85 (by decide) ?_
            refine z_istore [1, 2, 3, 4, 0] [(0, .ref (n0 + 59)), (1, .int r26), (2, .int a2), (3, .int a3), (4, .int 0)] dX13_findShortest_86 (by decide) rfl ?_
            refine z_sub [0, 1, 2, 4] rfl ?_
            exact h
    · rw [if_neg g14] at h
      refine z_aload_n 0 dX13_findShortest_46 rfl ?_
      refine z_aload_n 0 dX13_findShortest_47 rfl ?_
      refine fg_13_225 (some 131) rfl dX13_findShortest_48 hL.1 hL.2.1 (ma_104 hL).1 ?_
      refine z_iload 4 dX13_findShortest_51 rfl ?_
      obtain ⟨o27, h⟩ := h
      refine z_iald (I 131 a4.toNatClampNeg) dX13_findShortest_53 (ma_104 hL).2.1 (ma_104 hL).2.2 o27 rfl ?_
      refine z_callV0 (As := [.int (I 131 a4.toNatClampNeg)]) (st := []) dX13_findShortest_54 hy_X13_layFirst hL.1 hL.2.1 (by decide) wg_2140 wg_2142 wg_97 (Nat.le_refl _) (Nat.le_of_ble_eq_true rfl) (RM0.mono h (fun vv I28 L29 h => ?_))
      obtain ⟨r30, rfl, h⟩ := h
      change Z n0 xX13_findShortest (d + 1) rc rs 57 [(0, .ref (n0 + 59)), (1, .int a1), (2, .int a2), (3, .int a3), (4, .int a4)] [.int r30] K I28 L29 (z_q0 K Q)
      refine z_istore_n [1, 2, 3, 0, 4] [(0, .ref (n0 + 59)), (1, .int a1), (2, .int a2), (3, .int r30), (4, .int a4)] dX13_findShortest_57 (by decide) rfl ?_
      refine z_iinc (j := 4) (a4 + 1) [1, 2, 3, 4, 0] [(0, .ref (n0 + 59)), (1, .int a1), (2, .int a2), (3, .int r30), (4, .int (a4 + 1))] dX13_findShortest_58 rfl rfl (by decide) rfl ?_
      refine z_goto 33 dX13_findShortest_61 (by decide) ?_
      exact h
set_option maxRecDepth 100000 in
set_option maxHeartbeats 4000000 in
theorem wp_X13_findShortest_88 {n0 d : Nat} {rc rs : Nat} {K : z_K} {I : z_I} {L : z_L} {Q : z_q} {a1 : Int32} {a2 : Int32} {a4 : Int32} (hL : MLay K) (h : (if a4 < (I 59 89) then vp_in a4 4 ∧ Z n0 xX13_findShortest (d + 1) rc rs 88 [(0, .ref (n0 + 59)), (1, .int a1), (2, .int a2), (4, .int (a4 + 1))] [] K (zI (zI (zI I 127 a4.toNatClampNeg (I 124 a4.toNatClampNeg)) 128 a4.toNatClampNeg (I 125 a4.toNatClampNeg)) 129 a4.toNatClampNeg (I 126 a4.toNatClampNeg)) L (z_q0 K Q) else Z n0 xX13_findShortest (d + 1) rc rs 8 [(0, .ref (n0 + 59)), (1, .int a1), (2, .int (a2 + 1))] [] K I L (z_q0 K Q))) : Z n0 xX13_findShortest (d + 1) rc rs 88 [(0, .ref (n0 + 59)), (1, .int a1), (2, .int a2), (4, .int a4)] [] K I L (z_q0 K Q) := by
  refine z_iload 3 dX13_findShortest_88 rfl ?_
  refine z_aload_n 0 dX13_findShortest_90 rfl ?_
  refine fg_13_573 (I 59 89) rfl dX13_findShortest_91 hL.1 hL.2.1 rfl ?_
  refine z_icmp_ge 145 dX13_findShortest_94 (by decide) (fun g1 => ?_) (fun g1 => ?_)
  · rw [if_neg g1] at h
    refine z_iinc (j := 2) (a2 + 1) [1, 2, 0, 3] [(0, .ref (n0 + 59)), (1, .int a1), (2, .int (a2 + 1)), (4, .int a4)] dX13_findShortest_145 rfl rfl (by decide) rfl ?_
    refine z_goto 8 dX13_findShortest_148 (by decide) ?_
    refine z_sub [0, 1, 2] rfl ?_
    exact h
  · rw [if_pos g1] at h
    refine z_aload_n 0 dX13_findShortest_97 rfl ?_
    refine fg_13_213 (some 127) rfl dX13_findShortest_98 hL.1 hL.2.1 (ma_100 hL).1 ?_
    refine z_iload 3 dX13_findShortest_101 rfl ?_
    refine z_aload_n 0 dX13_findShortest_103 rfl ?_
    refine fg_13_204 (some 124) rfl dX13_findShortest_104 hL.1 hL.2.1 (ma_97 hL).1 ?_
    refine z_iload 3 dX13_findShortest_107 rfl ?_
    obtain ⟨o2, h⟩ := h
    refine z_iald (I 124 a4.toNatClampNeg) dX13_findShortest_109 (ma_97 hL).2.1 (ma_97 hL).2.2 o2 rfl ?_
    refine z_iast dX13_findShortest_110 (ma_100 hL).2.1 (ma_100 hL).2.2 o2 ?_
    refine z_aload_n 0 dX13_findShortest_111 rfl ?_
    refine fg_13_216 (some 128) rfl dX13_findShortest_112 hL.1 hL.2.1 (ma_101 hL).1 ?_
    refine z_iload 3 dX13_findShortest_115 rfl ?_
    refine z_aload_n 0 dX13_findShortest_117 rfl ?_
    refine fg_13_207 (some 125) rfl dX13_findShortest_118 hL.1 hL.2.1 (ma_98 hL).1 ?_
    refine z_iload 3 dX13_findShortest_121 rfl ?_
    refine z_iald (I 125 a4.toNatClampNeg) dX13_findShortest_123 (ma_98 hL).2.1 (ma_98 hL).2.2 o2 rfl ?_
    refine z_iast dX13_findShortest_124 (ma_101 hL).2.1 (ma_101 hL).2.2 o2 ?_
    refine z_aload_n 0 dX13_findShortest_125 rfl ?_
    refine fg_13_219 (some 129) rfl dX13_findShortest_126 hL.1 hL.2.1 (ma_102 hL).1 ?_
    refine z_iload 3 dX13_findShortest_129 rfl ?_
    refine z_aload_n 0 dX13_findShortest_131 rfl ?_
    refine fg_13_210 (some 126) rfl dX13_findShortest_132 hL.1 hL.2.1 (ma_99 hL).1 ?_
    refine z_iload 3 dX13_findShortest_135 rfl ?_
    refine z_iald (I 126 a4.toNatClampNeg) dX13_findShortest_137 (ma_99 hL).2.1 (ma_99 hL).2.2 o2 rfl ?_
    refine z_iast dX13_findShortest_138 (ma_102 hL).2.1 (ma_102 hL).2.2 o2 ?_
    refine z_iinc (j := 3) (a4 + 1) [1, 2, 3, 0] [(0, .ref (n0 + 59)), (1, .int a1), (2, .int a2), (4, .int (a4 + 1))] dX13_findShortest_139 rfl rfl (by decide) rfl ?_
    refine z_goto 88 dX13_findShortest_142 (by decide) ?_
    exact h
theorem dX13_shortestOr_0 : decode cX13_shortestOr 0 = .ok (.aload_n 0, 1) := by decide +kernel
theorem dX13_shortestOr_1 : decode cX13_shortestOr 1 = .ok (.getfield 573, 3) := by decide +kernel
theorem dX13_shortestOr_4 : decode cX13_shortestOr 4 = .ok (.ifCond .ne 6, 3) := by decide +kernel
theorem dX13_shortestOr_7 : decode cX13_shortestOr 7 = .ok (.bipush (-5), 2) := by decide +kernel
theorem dX13_shortestOr_9 : decode cX13_shortestOr 9 = .ok (.ireturn, 1) := by decide +kernel
theorem dX13_shortestOr_10 : decode cX13_shortestOr 10 = .ok (.aload_n 0, 1) := by decide +kernel
theorem dX13_shortestOr_11 : decode cX13_shortestOr 11 = .ok (.invokevirtual 604, 3) := by decide +kernel
theorem dX13_shortestOr_14 : decode cX13_shortestOr 14 = .ok (.ifCond .ne 6, 3) := by decide +kernel
theorem dX13_shortestOr_17 : decode cX13_shortestOr 17 = .ok (.bipush (-7), 2) := by decide +kernel
theorem dX13_shortestOr_19 : decode cX13_shortestOr 19 = .ok (.ireturn, 1) := by decide +kernel
theorem dX13_shortestOr_20 : decode cX13_shortestOr 20 = .ok (.aload_n 0, 1) := by decide +kernel
theorem dX13_shortestOr_21 : decode cX13_shortestOr 21 = .ok (.invokevirtual 607, 3) := by decide +kernel
theorem dX13_shortestOr_24 : decode cX13_shortestOr 24 = .ok (.istore_n 1, 1) := by decide +kernel
theorem dX13_shortestOr_25 : decode cX13_shortestOr 25 = .ok (.iload_n 1, 1) := by decide +kernel
theorem dX13_shortestOr_26 : decode cX13_shortestOr 26 = .ok (.ifCond .ge 8, 3) := by decide +kernel
theorem dX13_shortestOr_29 : decode cX13_shortestOr 29 = .ok (.bipush (-3), 2) := by decide +kernel
theorem dX13_shortestOr_31 : decode cX13_shortestOr 31 = .ok (.goto 4, 3) := by decide +kernel
theorem dX13_shortestOr_34 : decode cX13_shortestOr 34 = .ok (.iload_n 1, 1) := by decide +kernel
theorem dX13_shortestOr_35 : decode cX13_shortestOr 35 = .ok (.ireturn, 1) := by decide +kernel
set_option maxRecDepth 100000 in
set_option maxHeartbeats 4000000 in
theorem wp_X13_shortestOr {n0 d : Nat} {K : z_K} {I : z_I} {L : z_L} {Q : z_q}  (hL : MLay K) (h : (if ((I 59 89) : Int32) = 0 then Q (some (.int (-5))) I L else RM0 n0 xX13_findMarker d [.ref (n0 + 59)] K I L (fun vv I2 L3 => ∃ r4 : Int32, vv = some (.int r4) ∧ (if r4 = 0 then Q (some (.int (-7))) I2 L3 else RM0 n0 xX13_findShortest d [.ref (n0 + 59)] K I2 L3 (fun vv I6 L7 => ∃ r8 : Int32, vv = some (.int r8) ∧ Q (some (.int (if r8 < 0 then (-3) else r8))) I6 L7))))) : RM0 n0 xX13_shortestOr (d + 1) [.ref (n0 + 59)] K I L Q := by
  refine z_entry0 (by decide) (Nat.le_of_ble_eq_true rfl) ?_
  change Z n0 xX13_shortestOr (d + 1) 0 0 0 [(0, .ref (n0 + 59))] [] K I L (z_q0 K Q)
  refine z_aload_n 0 dX13_shortestOr_0 rfl ?_
  refine fg_13_573 (I 59 89) rfl dX13_shortestOr_1 hL.1 hL.2.1 rfl ?_
  refine z_if_ne 10 dX13_shortestOr_4 (by decide) (fun g1 => ?_) (fun g1 => ?_)
  · rw [if_neg g1] at h
    refine z_aload_n 0 dX13_shortestOr_10 rfl ?_
    refine z_callV0 (As := []) (st := []) dX13_shortestOr_11 hy_X13_findMarker hL.1 hL.2.1 (by decide) wg_2114 wg_2116 wg_92 (Nat.le_refl _) (Nat.le_of_ble_eq_true rfl) (RM0.mono h (fun vv I2 L3 h => ?_))
    obtain ⟨r4, rfl, h⟩ := h
    change Z n0 xX13_shortestOr (d + 1) 0 0 14 [(0, .ref (n0 + 59))] [.int r4] K I2 L3 (z_q0 K Q)
    refine z_if_ne 20 dX13_shortestOr_14 (by decide) (fun g5 => ?_) (fun g5 => ?_)
    · rw [if_neg g5] at h
      refine z_aload_n 0 dX13_shortestOr_20 rfl ?_
      refine z_callV0 (As := []) (st := []) dX13_shortestOr_21 hy_X13_findShortest hL.1 hL.2.1 (by decide) wg_2118 wg_2120 wg_93 (Nat.le_refl _) (Nat.le_of_ble_eq_true rfl) (RM0.mono h (fun vv I6 L7 h => ?_))
      obtain ⟨r8, rfl, h⟩ := h
      change Z n0 xX13_shortestOr (d + 1) 0 0 24 [(0, .ref (n0 + 59))] [.int r8] K I6 L7 (z_q0 K Q)
      refine z_istore_n [1, 0] [(0, .ref (n0 + 59)), (1, .int r8)] dX13_shortestOr_24 (by decide) rfl ?_
      refine z_iload_n 1 dX13_shortestOr_25 rfl ?_
      have key10 : Z n0 xX13_shortestOr (d + 1) 0 0 35 [] [.int (if r8 < 0 then (-3) else r8)] K I6 L7 (z_q0 K Q) := by
        exact z_iret dX13_shortestOr_35 rfl ⟨rfl, h⟩
      refine z_if_ge 34 dX13_shortestOr_26 (by decide) (fun g9 => ?_) (fun g9 => ?_)
      · refine z_iload_n 1 dX13_shortestOr_34 rfl ?_
        have ee : ((if r8 < 0 then (-3) else r8) : Int32) = r8 := by rw [if_neg g9]
        rw [ee] at key10
        clear ee
        refine z_sub [] rfl ?_
        exact key10
      · refine z_bipush (-3) dX13_shortestOr_29 (by decide) ?_
        refine z_goto 35 dX13_shortestOr_31 (by decide) ?_
        have ee : ((if r8 < 0 then (-3) else r8) : Int32) = (-3) := by rw [if_pos g9]
        rw [ee] at key10
        clear ee
        refine z_sub [] rfl ?_
        exact key10
    · rw [if_pos g5] at h
      refine z_bipush (-7) dX13_shortestOr_17 (by decide) ?_
      exact z_iret dX13_shortestOr_19 rfl ⟨rfl, h⟩
  · rw [if_pos g1] at h
    refine z_bipush (-5) dX13_shortestOr_7 (by decide) ?_
    exact z_iret dX13_shortestOr_9 rfl ⟨rfl, h⟩
theorem dX13_shortest_0 : decode cX13_shortest 0 = .ok (.iload_n 1, 1) := by decide +kernel
theorem dX13_shortest_1 : decode cX13_shortest 1 = .ok (.i2l, 1) := by decide +kernel
theorem dX13_shortest_2 : decode cX13_shortest 2 = .ok (.lconst 0, 1) := by decide +kernel
theorem dX13_shortest_3 : decode cX13_shortest 3 = .ok (.lconst 1, 1) := by decide +kernel
theorem dX13_shortest_4 : decode cX13_shortest 4 = .ok (.invokestatic 291, 3) := by decide +kernel
theorem dX13_shortest_7 : decode cX13_shortest 7 = .ok (.ifCond .ne 10, 3) := by decide +kernel
theorem dX13_shortest_10 : decode cX13_shortest 10 = .ok (.aload_n 0, 1) := by decide +kernel
theorem dX13_shortest_11 : decode cX13_shortest 11 = .ok (.bipush (-2), 2) := by decide +kernel
theorem dX13_shortest_13 : decode cX13_shortest 13 = .ok (.invokevirtual 308, 3) := by decide +kernel
theorem dX13_shortest_16 : decode cX13_shortest 16 = .ok (.ireturn, 1) := by decide +kernel
theorem dX13_shortest_17 : decode cX13_shortest 17 = .ok (.aload_n 0, 1) := by decide +kernel
theorem dX13_shortest_18 : decode cX13_shortest 18 = .ok (.invokevirtual 610, 3) := by decide +kernel
theorem dX13_shortest_21 : decode cX13_shortest 21 = .ok (.istore_n 2, 1) := by decide +kernel
theorem dX13_shortest_22 : decode cX13_shortest 22 = .ok (.iload_n 2, 1) := by decide +kernel
theorem dX13_shortest_23 : decode cX13_shortest 23 = .ok (.ifCond .ge 9, 3) := by decide +kernel
theorem dX13_shortest_26 : decode cX13_shortest 26 = .ok (.aload_n 0, 1) := by decide +kernel
theorem dX13_shortest_27 : decode cX13_shortest 27 = .ok (.iload_n 2, 1) := by decide +kernel
theorem dX13_shortest_28 : decode cX13_shortest 28 = .ok (.invokevirtual 308, 3) := by decide +kernel
theorem dX13_shortest_31 : decode cX13_shortest 31 = .ok (.ireturn, 1) := by decide +kernel
theorem dX13_shortest_32 : decode cX13_shortest 32 = .ok (.iconst 0, 1) := by decide +kernel
theorem dX13_shortest_33 : decode cX13_shortest 33 = .ok (.istore_n 3, 1) := by decide +kernel
theorem dX13_shortest_34 : decode cX13_shortest 34 = .ok (.iconst 0, 1) := by decide +kernel
theorem dX13_shortest_35 : decode cX13_shortest 35 = .ok (.istore 4, 2) := by decide +kernel
theorem dX13_shortest_37 : decode cX13_shortest 37 = .ok (.iload 4, 2) := by decide +kernel
theorem dX13_shortest_39 : decode cX13_shortest 39 = .ok (.aload_n 0, 1) := by decide +kernel
theorem dX13_shortest_40 : decode cX13_shortest 40 = .ok (.getfield 573, 3) := by decide +kernel
theorem dX13_shortest_43 : decode cX13_shortest 43 = .ok (.if_icmp .ge 19, 3) := by decide +kernel
theorem dX13_shortest_46 : decode cX13_shortest 46 = .ok (.iload_n 3, 1) := by decide +kernel
theorem dX13_shortest_47 : decode cX13_shortest 47 = .ok (.aload_n 0, 1) := by decide +kernel
theorem dX13_shortest_48 : decode cX13_shortest 48 = .ok (.getfield 198, 3) := by decide +kernel
theorem dX13_shortest_51 : decode cX13_shortest 51 = .ok (.iload 4, 2) := by decide +kernel
theorem dX13_shortest_53 : decode cX13_shortest 53 = .ok (.iaload, 1) := by decide +kernel
theorem dX13_shortest_54 : decode cX13_shortest 54 = .ok (.iadd, 1) := by decide +kernel
theorem dX13_shortest_55 : decode cX13_shortest 55 = .ok (.istore_n 3, 1) := by decide +kernel
theorem dX13_shortest_56 : decode cX13_shortest 56 = .ok (.iinc 4 1, 3) := by decide +kernel
theorem dX13_shortest_59 : decode cX13_shortest 59 = .ok (.goto (-22), 3) := by decide +kernel
theorem dX13_shortest_62 : decode cX13_shortest 62 = .ok (.iload_n 1, 1) := by decide +kernel
theorem dX13_shortest_63 : decode cX13_shortest 63 = .ok (.ifCond .ne 7, 3) := by decide +kernel
theorem dX13_shortest_66 : decode cX13_shortest 66 = .ok (.iload_n 2, 1) := by decide +kernel
theorem dX13_shortest_67 : decode cX13_shortest 67 = .ok (.goto 20, 3) := by decide +kernel
theorem dX13_shortest_70 : decode cX13_shortest 70 = .ok (.iload_n 3, 1) := by decide +kernel
theorem dX13_shortest_71 : decode cX13_shortest 71 = .ok (.aload_n 0, 1) := by decide +kernel
theorem dX13_shortest_72 : decode cX13_shortest 72 = .ok (.getfield 171, 3) := by decide +kernel
theorem dX13_shortest_75 : decode cX13_shortest 75 = .ok (.iconst 0, 1) := by decide +kernel
theorem dX13_shortest_76 : decode cX13_shortest 76 = .ok (.iaload, 1) := by decide +kernel
theorem dX13_shortest_77 : decode cX13_shortest 77 = .ok (.iadd, 1) := by decide +kernel
theorem dX13_shortest_78 : decode cX13_shortest 78 = .ok (.iconst 1, 1) := by decide +kernel
theorem dX13_shortest_79 : decode cX13_shortest 79 = .ok (.isub, 1) := by decide +kernel
theorem dX13_shortest_80 : decode cX13_shortest 80 = .ok (.aload_n 0, 1) := by decide +kernel
theorem dX13_shortest_81 : decode cX13_shortest 81 = .ok (.getfield 171, 3) := by decide +kernel
theorem dX13_shortest_84 : decode cX13_shortest 84 = .ok (.iconst 0, 1) := by decide +kernel
theorem dX13_shortest_85 : decode cX13_shortest 85 = .ok (.iaload, 1) := by decide +kernel
theorem dX13_shortest_86 : decode cX13_shortest 86 = .ok (.idiv, 1) := by decide +kernel
theorem dX13_shortest_87 : decode cX13_shortest 87 = .ok (.ireturn, 1) := by decide +kernel
set_option maxRecDepth 100000 in
set_option maxHeartbeats 4000000 in
theorem wp_X13_shortest {n0 d : Nat} {K : z_K} {I : z_I} {L : z_L} {Q : z_q} {p0 : Int32} (hL : MLay K) (h : RM0 n0 xX13_in d [.long p0.toInt64, .long 0, .long 1] K I L (fun vv I1 L2 => ∃ r3 : Int32, vv = some (.int r3) ∧ (if r3 = 0 then RM0 n0 xX13_refuse d [.ref (n0 + 59), .int (-2)] K I1 L2 (fun vv I12 L13 => ∃ r14 : Int32, vv = some (.int r14) ∧ Q (some (.int r14)) I12 L13) else RM0 n0 xX13_shortestOr d [.ref (n0 + 59)] K I1 L2 (fun vv I5 L6 => ∃ r7 : Int32, vv = some (.int r7) ∧ (if r7 < 0 then RM0 n0 xX13_refuse d [.ref (n0 + 59), .int r7] K I5 L6 (fun vv I9 L10 => ∃ r11 : Int32, vv = some (.int r11) ∧ Q (some (.int r11)) I9 L10) else Z n0 xX13_shortest (d + 1) 0 0 37 [(0, .ref (n0 + 59)), (1, .int p0), (2, .int r7), (3, .int 0), (4, .int 0)] [] K I5 L6 (z_q0 K Q)))))) : RM0 n0 xX13_shortest (d + 1) [.ref (n0 + 59), .int p0] K I L Q := by
  refine z_entry0 (by decide) (Nat.le_of_ble_eq_true rfl) ?_
  change Z n0 xX13_shortest (d + 1) 0 0 0 [(0, .ref (n0 + 59)), (1, .int p0)] [] K I L (z_q0 K Q)
  refine z_iload_n 1 dX13_shortest_0 rfl ?_
  refine z_i2l dX13_shortest_1 ?_
  refine z_lconst 0 dX13_shortest_2 (by decide) ?_
  refine z_lconst 1 dX13_shortest_3 (by decide) ?_
  refine z_callS0 (As := [.long p0.toInt64, .long 0, .long 1]) (st := []) dX13_shortest_4 hy_X13_in wg_1790 wg_1791 (Nat.le_refl _) (Nat.le_of_ble_eq_true rfl) (RM0.mono h (fun vv I1 L2 h => ?_))
  obtain ⟨r3, rfl, h⟩ := h
  change Z n0 xX13_shortest (d + 1) 0 0 7 [(0, .ref (n0 + 59)), (1, .int p0)] [.int r3] K I1 L2 (z_q0 K Q)
  refine z_if_ne 17 dX13_shortest_7 (by decide) (fun g4 => ?_) (fun g4 => ?_)
  · rw [if_neg g4] at h
    refine z_aload_n 0 dX13_shortest_17 rfl ?_
    refine z_callV0 (As := []) (st := []) dX13_shortest_18 hy_X13_shortestOr hL.1 hL.2.1 (by decide) wg_2110 wg_2112 wg_91 (Nat.le_refl _) (Nat.le_of_ble_eq_true rfl) (RM0.mono h (fun vv I5 L6 h => ?_))
    obtain ⟨r7, rfl, h⟩ := h
    change Z n0 xX13_shortest (d + 1) 0 0 21 [(0, .ref (n0 + 59)), (1, .int p0)] [.int r7] K I5 L6 (z_q0 K Q)
    refine z_istore_n [1, 2, 0] [(0, .ref (n0 + 59)), (1, .int p0), (2, .int r7)] dX13_shortest_21 (by decide) rfl ?_
    refine z_iload_n 2 dX13_shortest_22 rfl ?_
    refine z_if_ge 32 dX13_shortest_23 (by decide) (fun g8 => ?_) (fun g8 => ?_)
    · rw [if_neg g8] at h
      refine z_iconst 0 dX13_shortest_32 (by decide) ?_
      refine z_istore_n [1, 2, 3, 0] [(0, .ref (n0 + 59)), (1, .int p0), (2, .int r7), (3, .int 0)] dX13_shortest_33 (by decide) rfl ?_
      refine z_iconst 0 dX13_shortest_34 (by decide) ?_
      refine z_istore [1, 2, 3, 4, 0] [(0, .ref (n0 + 59)), (1, .int p0), (2, .int r7), (3, .int 0), (4, .int 0)] dX13_shortest_35 (by decide) rfl ?_
      exact h
    · rw [if_pos g8] at h
      refine z_aload_n 0 dX13_shortest_26 rfl ?_
      refine z_iload_n 2 dX13_shortest_27 rfl ?_
      refine z_callV0 (As := [.int r7]) (st := []) dX13_shortest_28 hy_X13_refuse hL.1 hL.2.1 (by decide) wg_1778 wg_1780 wg_54 (Nat.le_refl _) (Nat.le_of_ble_eq_true rfl) (RM0.mono h (fun vv I9 L10 h => ?_))
      obtain ⟨r11, rfl, h⟩ := h
      change Z n0 xX13_shortest (d + 1) 0 0 31 [(0, .ref (n0 + 59)), (1, .int p0), (2, .int r7)] [.int r11] K I9 L10 (z_q0 K Q)
      exact z_iret dX13_shortest_31 rfl ⟨rfl, h⟩
  · rw [if_pos g4] at h
    refine z_aload_n 0 dX13_shortest_10 rfl ?_
    refine z_bipush (-2) dX13_shortest_11 (by decide) ?_
    refine z_callV0 (As := [.int (-2)]) (st := []) dX13_shortest_13 hy_X13_refuse hL.1 hL.2.1 (by decide) wg_1778 wg_1780 wg_54 (Nat.le_refl _) (Nat.le_of_ble_eq_true rfl) (RM0.mono h (fun vv I12 L13 h => ?_))
    obtain ⟨r14, rfl, h⟩ := h
    change Z n0 xX13_shortest (d + 1) 0 0 16 [(0, .ref (n0 + 59)), (1, .int p0)] [.int r14] K I12 L13 (z_q0 K Q)
    exact z_iret dX13_shortest_16 rfl ⟨rfl, h⟩
set_option maxRecDepth 100000 in
set_option maxHeartbeats 4000000 in
theorem wp_X13_shortest_37 {n0 d : Nat} {rc rs : Nat} {K : z_K} {I : z_I} {L : z_L} {Q : z_q} {a1 : Int32} {a2 : Int32} {a3 : Int32} {a4 : Int32} (hL : MLay K) (h : (if a4 < (I 59 89) then vp_in a4 4 ∧ Z n0 xX13_shortest (d + 1) rc rs 37 [(0, .ref (n0 + 59)), (1, .int a1), (2, .int a2), (3, .int (a3 + (I 122 a4.toNatClampNeg))), (4, .int (a4 + 1))] [] K I L (z_q0 K Q) else (¬ (a1 = 0) → ¬ ((I 113 0) : Int32) = 0) ∧ Q (some (.int (if a1 = 0 then a2 else (((a3 + (I 113 0)) - 1) / (I 113 0))))) I L)) : Z n0 xX13_shortest (d + 1) rc rs 37 [(0, .ref (n0 + 59)), (1, .int a1), (2, .int a2), (3, .int a3), (4, .int a4)] [] K I L (z_q0 K Q) := by
  refine z_iload 4 dX13_shortest_37 rfl ?_
  refine z_aload_n 0 dX13_shortest_39 rfl ?_
  refine fg_13_573 (I 59 89) rfl dX13_shortest_40 hL.1 hL.2.1 rfl ?_
  refine z_icmp_ge 62 dX13_shortest_43 (by decide) (fun g1 => ?_) (fun g1 => ?_)
  · rw [if_neg g1] at h
    refine z_iload_n 1 dX13_shortest_62 rfl ?_
    obtain ⟨o3, h⟩ := h
    have key4 : Z n0 xX13_shortest (d + 1) rc rs 87 [] [.int (if a1 = 0 then a2 else (((a3 + (I 113 0)) - 1) / (I 113 0)))] K I L (z_q0 K Q) := by
      exact z_iret dX13_shortest_87 rfl ⟨rfl, h⟩
    refine z_if_ne 70 dX13_shortest_63 (by decide) (fun g2 => ?_) (fun g2 => ?_)
    · refine z_iload_n 3 dX13_shortest_70 rfl ?_
      refine z_aload_n 0 dX13_shortest_71 rfl ?_
      refine fg_13_171 (some 113) rfl dX13_shortest_72 hL.1 hL.2.1 (ma_82 hL).1 ?_
      refine z_iconst 0 dX13_shortest_75 (by decide) ?_
      refine z_iald (I 113 0) dX13_shortest_76 (ma_82 hL).2.1 (ma_82 hL).2.2 (by unfold vp_in; decide) rfl ?_
      refine z_iadd dX13_shortest_77 ?_
      refine z_iconst 1 dX13_shortest_78 (by decide) ?_
      refine z_isub dX13_shortest_79 ?_
      refine z_aload_n 0 dX13_shortest_80 rfl ?_
      refine fg_13_171 (some 113) rfl dX13_shortest_81 hL.1 hL.2.1 (ma_82 hL).1 ?_
      refine z_iconst 0 dX13_shortest_84 (by decide) ?_
      refine z_iald (I 113 0) dX13_shortest_85 (ma_82 hL).2.1 (ma_82 hL).2.2 (by unfold vp_in; decide) rfl ?_
      refine z_idiv dX13_shortest_86 (o3 g2) ?_
      have ee : ((if a1 = 0 then a2 else (((a3 + (I 113 0)) - 1) / (I 113 0))) : Int32) = (((a3 + (I 113 0)) - 1) / (I 113 0)) := by rw [if_neg g2]
      rw [ee] at key4
      clear ee
      refine z_sub [] rfl ?_
      exact key4
    · refine z_iload_n 2 dX13_shortest_66 rfl ?_
      refine z_goto 87 dX13_shortest_67 (by decide) ?_
      have ee : ((if a1 = 0 then a2 else (((a3 + (I 113 0)) - 1) / (I 113 0))) : Int32) = a2 := by rw [if_pos g2]
      rw [ee] at key4
      clear ee
      refine z_sub [] rfl ?_
      exact key4
  · rw [if_pos g1] at h
    refine z_iload_n 3 dX13_shortest_46 rfl ?_
    refine z_aload_n 0 dX13_shortest_47 rfl ?_
    refine fg_13_198 (some 122) rfl dX13_shortest_48 hL.1 hL.2.1 (ma_95 hL).1 ?_
    refine z_iload 4 dX13_shortest_51 rfl ?_
    obtain ⟨o5, h⟩ := h
    refine z_iald (I 122 a4.toNatClampNeg) dX13_shortest_53 (ma_95 hL).2.1 (ma_95 hL).2.2 o5 rfl ?_
    refine z_iadd dX13_shortest_54 ?_
    refine z_istore_n [1, 2, 3, 0, 4] [(0, .ref (n0 + 59)), (1, .int a1), (2, .int a2), (3, .int (a3 + (I 122 a4.toNatClampNeg))), (4, .int a4)] dX13_shortest_55 (by decide) rfl ?_
    refine z_iinc (j := 4) (a4 + 1) [1, 2, 3, 4, 0] [(0, .ref (n0 + 59)), (1, .int a1), (2, .int a2), (3, .int (a3 + (I 122 a4.toNatClampNeg))), (4, .int (a4 + 1))] dX13_shortest_56 rfl rfl (by decide) rfl ?_
    refine z_goto 37 dX13_shortest_59 (by decide) ?_
    exact h
theorem dX13_place_0 : decode cX13_place 0 = .ok (.iload_n 2, 1) := by decide +kernel
theorem dX13_place_1 : decode cX13_place 1 = .ok (.i2l, 1) := by decide +kernel
theorem dX13_place_2 : decode cX13_place 2 = .ok (.lconst 0, 1) := by decide +kernel
theorem dX13_place_3 : decode cX13_place 3 = .ok (.ldc2_w 366, 3) := by decide +kernel
theorem dX13_place_6 : decode cX13_place 6 = .ok (.invokestatic 291, 3) := by decide +kernel
theorem dX13_place_9 : decode cX13_place 9 = .ok (.ifCond .ne 10, 3) := by decide +kernel
theorem dX13_place_12 : decode cX13_place 12 = .ok (.aload_n 0, 1) := by decide +kernel
theorem dX13_place_13 : decode cX13_place 13 = .ok (.bipush (-2), 2) := by decide +kernel
theorem dX13_place_15 : decode cX13_place 15 = .ok (.invokevirtual 308, 3) := by decide +kernel
theorem dX13_place_18 : decode cX13_place 18 = .ok (.ireturn, 1) := by decide +kernel
theorem dX13_place_19 : decode cX13_place 19 = .ok (.aload_n 0, 1) := by decide +kernel
theorem dX13_place_20 : decode cX13_place 20 = .ok (.invokevirtual 610, 3) := by decide +kernel
theorem dX13_place_23 : decode cX13_place 23 = .ok (.istore_n 3, 1) := by decide +kernel
theorem dX13_place_24 : decode cX13_place 24 = .ok (.iload_n 3, 1) := by decide +kernel
theorem dX13_place_25 : decode cX13_place 25 = .ok (.ifCond .ge 9, 3) := by decide +kernel
theorem dX13_place_28 : decode cX13_place 28 = .ok (.aload_n 0, 1) := by decide +kernel
theorem dX13_place_29 : decode cX13_place 29 = .ok (.iload_n 3, 1) := by decide +kernel
theorem dX13_place_30 : decode cX13_place 30 = .ok (.invokevirtual 308, 3) := by decide +kernel
theorem dX13_place_33 : decode cX13_place 33 = .ok (.ireturn, 1) := by decide +kernel
theorem dX13_place_34 : decode cX13_place 34 = .ok (.iload_n 1, 1) := by decide +kernel
theorem dX13_place_35 : decode cX13_place 35 = .ok (.i2l, 1) := by decide +kernel
theorem dX13_place_36 : decode cX13_place 36 = .ok (.lconst 0, 1) := by decide +kernel
theorem dX13_place_37 : decode cX13_place 37 = .ok (.aload_n 0, 1) := by decide +kernel
theorem dX13_place_38 : decode cX13_place 38 = .ok (.getfield 573, 3) := by decide +kernel
theorem dX13_place_41 : decode cX13_place 41 = .ok (.iconst 1, 1) := by decide +kernel
theorem dX13_place_42 : decode cX13_place 42 = .ok (.isub, 1) := by decide +kernel
theorem dX13_place_43 : decode cX13_place 43 = .ok (.i2l, 1) := by decide +kernel
theorem dX13_place_44 : decode cX13_place 44 = .ok (.invokestatic 291, 3) := by decide +kernel
theorem dX13_place_47 : decode cX13_place 47 = .ok (.ifCond .ne 9, 3) := by decide +kernel
theorem dX13_place_50 : decode cX13_place 50 = .ok (.aload_n 0, 1) := by decide +kernel
theorem dX13_place_51 : decode cX13_place 51 = .ok (.iconst (-1), 1) := by decide +kernel
theorem dX13_place_52 : decode cX13_place 52 = .ok (.invokevirtual 308, 3) := by decide +kernel
theorem dX13_place_55 : decode cX13_place 55 = .ok (.ireturn, 1) := by decide +kernel
theorem dX13_place_56 : decode cX13_place 56 = .ok (.iload_n 2, 1) := by decide +kernel
theorem dX13_place_57 : decode cX13_place 57 = .ok (.ifCond .ne 12, 3) := by decide +kernel
theorem dX13_place_60 : decode cX13_place 60 = .ok (.aload_n 0, 1) := by decide +kernel
theorem dX13_place_61 : decode cX13_place 61 = .ok (.getfield 213, 3) := by decide +kernel
theorem dX13_place_64 : decode cX13_place 64 = .ok (.iload_n 1, 1) := by decide +kernel
theorem dX13_place_65 : decode cX13_place 65 = .ok (.iaload, 1) := by decide +kernel
theorem dX13_place_66 : decode cX13_place 66 = .ok (.goto 23, 3) := by decide +kernel
theorem dX13_place_69 : decode cX13_place 69 = .ok (.iload_n 2, 1) := by decide +kernel
theorem dX13_place_70 : decode cX13_place 70 = .ok (.iconst 1, 1) := by decide +kernel
theorem dX13_place_71 : decode cX13_place 71 = .ok (.if_icmp .ne 12, 3) := by decide +kernel
theorem dX13_place_74 : decode cX13_place 74 = .ok (.aload_n 0, 1) := by decide +kernel
theorem dX13_place_75 : decode cX13_place 75 = .ok (.getfield 216, 3) := by decide +kernel
theorem dX13_place_78 : decode cX13_place 78 = .ok (.iload_n 1, 1) := by decide +kernel
theorem dX13_place_79 : decode cX13_place 79 = .ok (.iaload, 1) := by decide +kernel
theorem dX13_place_80 : decode cX13_place 80 = .ok (.goto 9, 3) := by decide +kernel
theorem dX13_place_83 : decode cX13_place 83 = .ok (.aload_n 0, 1) := by decide +kernel
theorem dX13_place_84 : decode cX13_place 84 = .ok (.getfield 219, 3) := by decide +kernel
theorem dX13_place_87 : decode cX13_place 87 = .ok (.iload_n 1, 1) := by decide +kernel
theorem dX13_place_88 : decode cX13_place 88 = .ok (.iaload, 1) := by decide +kernel
theorem dX13_place_89 : decode cX13_place 89 = .ok (.ireturn, 1) := by decide +kernel
set_option maxRecDepth 100000 in
set_option maxHeartbeats 4000000 in
theorem wp_X13_place {n0 d : Nat} {K : z_K} {I : z_I} {L : z_L} {Q : z_q} {p0 : Int32} {p1 : Int32} (hL : MLay K) (h : RM0 n0 xX13_in d [.long p1.toInt64, .long 0, .long 2] K I L (fun vv I1 L2 => ∃ r3 : Int32, vv = some (.int r3) ∧ (if r3 = 0 then RM0 n0 xX13_refuse d [.ref (n0 + 59), .int (-2)] K I1 L2 (fun vv I25 L26 => ∃ r27 : Int32, vv = some (.int r27) ∧ Q (some (.int r27)) I25 L26) else RM0 n0 xX13_shortestOr d [.ref (n0 + 59)] K I1 L2 (fun vv I5 L6 => ∃ r7 : Int32, vv = some (.int r7) ∧ (if r7 < 0 then RM0 n0 xX13_refuse d [.ref (n0 + 59), .int r7] K I5 L6 (fun vv I22 L23 => ∃ r24 : Int32, vv = some (.int r24) ∧ Q (some (.int r24)) I22 L23) else RM0 n0 xX13_in d [.long p0.toInt64, .long 0, .long ((((I5 59 89) - 1) : Int32).toInt64)] K I5 L6 (fun vv I9 L10 => ∃ r11 : Int32, vv = some (.int r11) ∧ (if r11 = 0 then RM0 n0 xX13_refuse d [.ref (n0 + 59), .int (-1)] K I9 L10 (fun vv I19 L20 => ∃ r21 : Int32, vv = some (.int r21) ∧ Q (some (.int r21)) I19 L20) else (¬ (p1 = 0) → ¬ (p1 = 1) → vp_in p0 4) ∧ (¬ (p1 = 0) → p1 = 1 → vp_in p0 4) ∧ (p1 = 0 → vp_in p0 4) ∧ Q (some (.int (if p1 = 0 then (I9 127 p0.toNatClampNeg) else if p1 = 1 then (I9 128 p0.toNatClampNeg) else (I9 129 p0.toNatClampNeg)))) I9 L10))))))) : RM0 n0 xX13_place (d + 1) [.ref (n0 + 59), .int p0, .int p1] K I L Q := by
  refine z_entry0 (by decide) (Nat.le_of_ble_eq_true rfl) ?_
  change Z n0 xX13_place (d + 1) 0 0 0 [(0, .ref (n0 + 59)), (1, .int p0), (2, .int p1)] [] K I L (z_q0 K Q)
  refine z_iload_n 2 dX13_place_0 rfl ?_
  refine z_i2l dX13_place_1 ?_
  refine z_lconst 0 dX13_place_2 (by decide) ?_
  refine z_ldc2_w 2 dX13_place_3 wg_1913 ?_
  refine z_callS0 (As := [.long p1.toInt64, .long 0, .long 2]) (st := []) dX13_place_6 hy_X13_in wg_1790 wg_1791 (Nat.le_refl _) (Nat.le_of_ble_eq_true rfl) (RM0.mono h (fun vv I1 L2 h => ?_))
  obtain ⟨r3, rfl, h⟩ := h
  change Z n0 xX13_place (d + 1) 0 0 9 [(0, .ref (n0 + 59)), (1, .int p0), (2, .int p1)] [.int r3] K I1 L2 (z_q0 K Q)
  refine z_if_ne 19 dX13_place_9 (by decide) (fun g4 => ?_) (fun g4 => ?_)
  · rw [if_neg g4] at h
    refine z_aload_n 0 dX13_place_19 rfl ?_
    refine z_callV0 (As := []) (st := []) dX13_place_20 hy_X13_shortestOr hL.1 hL.2.1 (by decide) wg_2110 wg_2112 wg_91 (Nat.le_refl _) (Nat.le_of_ble_eq_true rfl) (RM0.mono h (fun vv I5 L6 h => ?_))
    obtain ⟨r7, rfl, h⟩ := h
    change Z n0 xX13_place (d + 1) 0 0 23 [(0, .ref (n0 + 59)), (1, .int p0), (2, .int p1)] [.int r7] K I5 L6 (z_q0 K Q)
    refine z_istore_n [1, 2, 3, 0] [(0, .ref (n0 + 59)), (1, .int p0), (2, .int p1), (3, .int r7)] dX13_place_23 (by decide) rfl ?_
    refine z_iload_n 3 dX13_place_24 rfl ?_
    refine z_if_ge 34 dX13_place_25 (by decide) (fun g8 => ?_) (fun g8 => ?_)
    · rw [if_neg g8] at h
      refine z_iload_n 1 dX13_place_34 rfl ?_
      refine z_i2l dX13_place_35 ?_
      refine z_lconst 0 dX13_place_36 (by decide) ?_
      refine z_aload_n 0 dX13_place_37 rfl ?_
      refine fg_13_573 (I5 59 89) rfl dX13_place_38 hL.1 hL.2.1 rfl ?_
      refine z_iconst 1 dX13_place_41 (by decide) ?_
      refine z_isub dX13_place_42 ?_
      refine z_i2l dX13_place_43 ?_
      refine z_callS0 (As := [.long p0.toInt64, .long 0, .long ((((I5 59 89) - 1) : Int32).toInt64)]) (st := []) dX13_place_44 hy_X13_in wg_1790 wg_1791 (Nat.le_refl _) (Nat.le_of_ble_eq_true rfl) (RM0.mono h (fun vv I9 L10 h => ?_))
      obtain ⟨r11, rfl, h⟩ := h
      change Z n0 xX13_place (d + 1) 0 0 47 [(0, .ref (n0 + 59)), (1, .int p0), (2, .int p1), (3, .int r7)] [.int r11] K I9 L10 (z_q0 K Q)
      refine z_if_ne 56 dX13_place_47 (by decide) (fun g12 => ?_) (fun g12 => ?_)
      · rw [if_neg g12] at h
        refine z_iload_n 2 dX13_place_56 rfl ?_
        obtain ⟨o15, o16, o17, h⟩ := h
        have key18 : Z n0 xX13_place (d + 1) 0 0 89 [] [.int (if p1 = 0 then (I9 127 p0.toNatClampNeg) else if p1 = 1 then (I9 128 p0.toNatClampNeg) else (I9 129 p0.toNatClampNeg))] K I9 L10 (z_q0 K Q) := by
          exact z_iret dX13_place_89 rfl ⟨rfl, h⟩
        refine z_if_ne 69 dX13_place_57 (by decide) (fun g13 => ?_) (fun g13 => ?_)
        · refine z_iload_n 2 dX13_place_69 rfl ?_
          refine z_iconst 1 dX13_place_70 (by decide) ?_
          refine z_icmp_ne 83 dX13_place_71 (by decide) (fun g14 => ?_) (fun g14 => ?_)
          · refine z_aload_n 0 dX13_place_83 rfl ?_
            refine fg_13_219 (some 129) rfl dX13_place_84 hL.1 hL.2.1 (ma_102 hL).1 ?_
            refine z_iload_n 1 dX13_place_87 rfl ?_
            refine z_iald (I9 129 p0.toNatClampNeg) dX13_place_88 (ma_102 hL).2.1 (ma_102 hL).2.2 (o15 g13 g14) rfl ?_
            have ee : ((if p1 = 0 then (I9 127 p0.toNatClampNeg) else if p1 = 1 then (I9 128 p0.toNatClampNeg) else (I9 129 p0.toNatClampNeg)) : Int32) = (I9 129 p0.toNatClampNeg) := by rw [if_neg g13, if_neg g14]
            rw [ee] at key18
            clear ee
            refine z_sub [] rfl ?_
            exact key18
          · refine z_aload_n 0 dX13_place_74 rfl ?_
            refine fg_13_216 (some 128) rfl dX13_place_75 hL.1 hL.2.1 (ma_101 hL).1 ?_
            refine z_iload_n 1 dX13_place_78 rfl ?_
            refine z_iald (I9 128 p0.toNatClampNeg) dX13_place_79 (ma_101 hL).2.1 (ma_101 hL).2.2 (o16 g13 g14) rfl ?_
            refine z_goto 89 dX13_place_80 (by decide) ?_
            have ee : ((if p1 = 0 then (I9 127 p0.toNatClampNeg) else if p1 = 1 then (I9 128 p0.toNatClampNeg) else (I9 129 p0.toNatClampNeg)) : Int32) = (I9 128 p0.toNatClampNeg) := by rw [if_neg g13, if_pos g14]
            rw [ee] at key18
            clear ee
            refine z_sub [] rfl ?_
            exact key18
        · refine z_aload_n 0 dX13_place_60 rfl ?_
          refine fg_13_213 (some 127) rfl dX13_place_61 hL.1 hL.2.1 (ma_100 hL).1 ?_
          refine z_iload_n 1 dX13_place_64 rfl ?_
          refine z_iald (I9 127 p0.toNatClampNeg) dX13_place_65 (ma_100 hL).2.1 (ma_100 hL).2.2 (o17 g13) rfl ?_
          refine z_goto 89 dX13_place_66 (by decide) ?_
          have ee : ((if p1 = 0 then (I9 127 p0.toNatClampNeg) else if p1 = 1 then (I9 128 p0.toNatClampNeg) else (I9 129 p0.toNatClampNeg)) : Int32) = (I9 127 p0.toNatClampNeg) := by rw [if_pos g13]
          rw [ee] at key18
          clear ee
          refine z_sub [] rfl ?_
          exact key18
      · rw [if_pos g12] at h
        refine z_aload_n 0 dX13_place_50 rfl ?_
        refine z_iconst (-1) dX13_place_51 (by decide) ?_
        refine z_callV0 (As := [.int (-1)]) (st := []) dX13_place_52 hy_X13_refuse hL.1 hL.2.1 (by decide) wg_1778 wg_1780 wg_54 (Nat.le_refl _) (Nat.le_of_ble_eq_true rfl) (RM0.mono h (fun vv I19 L20 h => ?_))
        obtain ⟨r21, rfl, h⟩ := h
        change Z n0 xX13_place (d + 1) 0 0 55 [(0, .ref (n0 + 59)), (1, .int p0), (2, .int p1), (3, .int r7)] [.int r21] K I19 L20 (z_q0 K Q)
        exact z_iret dX13_place_55 rfl ⟨rfl, h⟩
    · rw [if_pos g8] at h
      refine z_aload_n 0 dX13_place_28 rfl ?_
      refine z_iload_n 3 dX13_place_29 rfl ?_
      refine z_callV0 (As := [.int r7]) (st := []) dX13_place_30 hy_X13_refuse hL.1 hL.2.1 (by decide) wg_1778 wg_1780 wg_54 (Nat.le_refl _) (Nat.le_of_ble_eq_true rfl) (RM0.mono h (fun vv I22 L23 h => ?_))
      obtain ⟨r24, rfl, h⟩ := h
      change Z n0 xX13_place (d + 1) 0 0 33 [(0, .ref (n0 + 59)), (1, .int p0), (2, .int p1), (3, .int r7)] [.int r24] K I22 L23 (z_q0 K Q)
      exact z_iret dX13_place_33 rfl ⟨rfl, h⟩
  · rw [if_pos g4] at h
    refine z_aload_n 0 dX13_place_12 rfl ?_
    refine z_bipush (-2) dX13_place_13 (by decide) ?_
    refine z_callV0 (As := [.int (-2)]) (st := []) dX13_place_15 hy_X13_refuse hL.1 hL.2.1 (by decide) wg_1778 wg_1780 wg_54 (Nat.le_refl _) (Nat.le_of_ble_eq_true rfl) (RM0.mono h (fun vv I25 L26 h => ?_))
    obtain ⟨r27, rfl, h⟩ := h
    change Z n0 xX13_place (d + 1) 0 0 18 [(0, .ref (n0 + 59)), (1, .int p0), (2, .int p1)] [.int r27] K I25 L26 (z_q0 K Q)
    exact z_iret dX13_place_18 rfl ⟨rfl, h⟩
theorem dX13_put_0 : decode cX13_put 0 = .ok (.iload_n 1, 1) := by decide +kernel
theorem dX13_put_1 : decode cX13_put 1 = .ok (.ifCond .ge 10, 3) := by decide +kernel
theorem dX13_put_4 : decode cX13_put 4 = .ok (.aload_n 0, 1) := by decide +kernel
theorem dX13_put_5 : decode cX13_put 5 = .ok (.bipush (-4), 2) := by decide +kernel
theorem dX13_put_7 : decode cX13_put 7 = .ok (.invokevirtual 308, 3) := by decide +kernel
theorem dX13_put_10 : decode cX13_put 10 = .ok (.ireturn, 1) := by decide +kernel
theorem dX13_put_11 : decode cX13_put 11 = .ok (.iload_n 1, 1) := by decide +kernel
theorem dX13_put_12 : decode cX13_put 12 = .ok (.bipush 95, 2) := by decide +kernel
theorem dX13_put_14 : decode cX13_put 14 = .ok (.if_icmp .gt 12, 3) := by decide +kernel
theorem dX13_put_17 : decode cX13_put 17 = .ok (.aload_n 0, 1) := by decide +kernel
theorem dX13_put_18 : decode cX13_put 18 = .ok (.getfield 613, 3) := by decide +kernel
theorem dX13_put_21 : decode cX13_put 21 = .ok (.bipush 12, 2) := by decide +kernel
theorem dX13_put_23 : decode cX13_put 23 = .ok (.if_icmp .ne 10, 3) := by decide +kernel
theorem dX13_put_26 : decode cX13_put 26 = .ok (.aload_n 0, 1) := by decide +kernel
theorem dX13_put_27 : decode cX13_put 27 = .ok (.bipush (-6), 2) := by decide +kernel
theorem dX13_put_29 : decode cX13_put 29 = .ok (.invokevirtual 308, 3) := by decide +kernel
theorem dX13_put_32 : decode cX13_put 32 = .ok (.ireturn, 1) := by decide +kernel
theorem dX13_put_33 : decode cX13_put 33 = .ok (.aload_n 0, 1) := by decide +kernel
theorem dX13_put_34 : decode cX13_put 34 = .ok (.getfield 228, 3) := by decide +kernel
theorem dX13_put_37 : decode cX13_put 37 = .ok (.aload_n 0, 1) := by decide +kernel
theorem dX13_put_38 : decode cX13_put 38 = .ok (.getfield 613, 3) := by decide +kernel
theorem dX13_put_41 : decode cX13_put 41 = .ok (.iload_n 1, 1) := by decide +kernel
theorem dX13_put_42 : decode cX13_put 42 = .ok (.iastore, 1) := by decide +kernel
theorem dX13_put_43 : decode cX13_put 43 = .ok (.aload_n 0, 1) := by decide +kernel
theorem dX13_put_44 : decode cX13_put 44 = .ok (.dup, 1) := by decide +kernel
theorem dX13_put_45 : decode cX13_put 45 = .ok (.getfield 613, 3) := by decide +kernel
theorem dX13_put_48 : decode cX13_put 48 = .ok (.iconst 1, 1) := by decide +kernel
theorem dX13_put_49 : decode cX13_put 49 = .ok (.iadd, 1) := by decide +kernel
theorem dX13_put_50 : decode cX13_put 50 = .ok (.putfield 613, 3) := by decide +kernel
theorem dX13_put_53 : decode cX13_put 53 = .ok (.aload_n 0, 1) := by decide +kernel
theorem dX13_put_54 : decode cX13_put 54 = .ok (.getfield 613, 3) := by decide +kernel
theorem dX13_put_57 : decode cX13_put 57 = .ok (.ireturn, 1) := by decide +kernel
set_option maxRecDepth 100000 in
set_option maxHeartbeats 4000000 in
theorem wp_X13_put {n0 d : Nat} {K : z_K} {I : z_I} {L : z_L} {Q : z_q} {p0 : Int32} (hL : MLay K) (h : (if p0 < 0 then RM0 n0 xX13_refuse d [.ref (n0 + 59), .int (-4)] K I L (fun vv I11 L12 => ∃ r13 : Int32, vv = some (.int r13) ∧ Q (some (.int r13)) I11 L12) else (if 95 < p0 then RM0 n0 xX13_refuse d [.ref (n0 + 59), .int (-6)] K I L (fun vv I3 L4 => ∃ r5 : Int32, vv = some (.int r5) ∧ Q (some (.int r5)) I3 L4) else (if ((I 59 106) : Int32) = 12 then RM0 n0 xX13_refuse d [.ref (n0 + 59), .int (-6)] K I L (fun vv I8 L9 => ∃ r10 : Int32, vv = some (.int r10) ∧ Q (some (.int r10)) I8 L9) else vp_in (I 59 106) 12 ∧ Q (some (.int (((I 59 106) + 1)))) (zI (zI I 132 ((I 59 106).toNatClampNeg) p0) 59 106 ((I 59 106) + 1)) L)))) : RM0 n0 xX13_put (d + 1) [.ref (n0 + 59), .int p0] K I L Q := by
  refine z_entry0 (by decide) (Nat.le_of_ble_eq_true rfl) ?_
  change Z n0 xX13_put (d + 1) 0 0 0 [(0, .ref (n0 + 59)), (1, .int p0)] [] K I L (z_q0 K Q)
  refine z_iload_n 1 dX13_put_0 rfl ?_
  refine z_if_ge 11 dX13_put_1 (by decide) (fun g1 => ?_) (fun g1 => ?_)
  · rw [if_neg g1] at h
    refine z_iload_n 1 dX13_put_11 rfl ?_
    refine z_bipush 95 dX13_put_12 (by decide) ?_
    refine z_icmp_gt 26 dX13_put_14 (by decide) (fun g2 => ?_) (fun g2 => ?_)
    · rw [if_pos g2] at h
      refine z_aload_n 0 dX13_put_26 rfl ?_
      refine z_bipush (-6) dX13_put_27 (by decide) ?_
      refine z_callV0 (As := [.int (-6)]) (st := []) dX13_put_29 hy_X13_refuse hL.1 hL.2.1 (by decide) wg_1778 wg_1780 wg_54 (Nat.le_refl _) (Nat.le_of_ble_eq_true rfl) (RM0.mono h (fun vv I3 L4 h => ?_))
      obtain ⟨r5, rfl, h⟩ := h
      change Z n0 xX13_put (d + 1) 0 0 32 [(0, .ref (n0 + 59)), (1, .int p0)] [.int r5] K I3 L4 (z_q0 K Q)
      exact z_iret dX13_put_32 rfl ⟨rfl, h⟩
    · rw [if_neg g2] at h
      refine z_aload_n 0 dX13_put_17 rfl ?_
      refine fg_13_613 (I 59 106) rfl dX13_put_18 hL.1 hL.2.1 rfl ?_
      refine z_bipush 12 dX13_put_21 (by decide) ?_
      refine z_icmp_ne 33 dX13_put_23 (by decide) (fun g6 => ?_) (fun g6 => ?_)
      · rw [if_neg g6] at h
        refine z_aload_n 0 dX13_put_33 rfl ?_
        refine fg_13_228 (some 132) rfl dX13_put_34 hL.1 hL.2.1 (ma_105 hL).1 ?_
        refine z_aload_n 0 dX13_put_37 rfl ?_
        refine fg_13_613 (I 59 106) rfl dX13_put_38 hL.1 hL.2.1 rfl ?_
        refine z_iload_n 1 dX13_put_41 rfl ?_
        obtain ⟨o7, h⟩ := h
        refine z_iast dX13_put_42 (ma_105 hL).2.1 (ma_105 hL).2.2 o7 ?_
        refine z_aload_n 0 dX13_put_43 rfl ?_
        refine z_dup dX13_put_44 rfl ?_
        refine fg_13_613 (I 59 106) rfl dX13_put_45 hL.1 hL.2.1 rfl ?_
        refine z_iconst 1 dX13_put_48 (by decide) ?_
        refine z_iadd dX13_put_49 ?_
        refine fp_13_613 rfl dX13_put_50 hL.1 hL.2.1 ?_
        refine z_aload_n 0 dX13_put_53 rfl ?_
        refine fg_13_613 (((I 59 106) + 1)) rfl dX13_put_54 hL.1 hL.2.1 rfl ?_
        exact z_iret dX13_put_57 rfl ⟨rfl, h⟩
      · rw [if_pos g6] at h
        refine z_aload_n 0 dX13_put_26 rfl ?_
        refine z_bipush (-6) dX13_put_27 (by decide) ?_
        refine z_callV0 (As := [.int (-6)]) (st := []) dX13_put_29 hy_X13_refuse hL.1 hL.2.1 (by decide) wg_1778 wg_1780 wg_54 (Nat.le_refl _) (Nat.le_of_ble_eq_true rfl) (RM0.mono h (fun vv I8 L9 h => ?_))
        obtain ⟨r10, rfl, h⟩ := h
        change Z n0 xX13_put (d + 1) 0 0 32 [(0, .ref (n0 + 59)), (1, .int p0)] [.int r10] K I8 L9 (z_q0 K Q)
        exact z_iret dX13_put_32 rfl ⟨rfl, h⟩
  · rw [if_pos g1] at h
    refine z_aload_n 0 dX13_put_4 rfl ?_
    refine z_bipush (-4) dX13_put_5 (by decide) ?_
    refine z_callV0 (As := [.int (-4)]) (st := []) dX13_put_7 hy_X13_refuse hL.1 hL.2.1 (by decide) wg_1778 wg_1780 wg_54 (Nat.le_refl _) (Nat.le_of_ble_eq_true rfl) (RM0.mono h (fun vv I11 L12 h => ?_))
    obtain ⟨r13, rfl, h⟩ := h
    change Z n0 xX13_put (d + 1) 0 0 10 [(0, .ref (n0 + 59)), (1, .int p0)] [.int r13] K I11 L12 (z_q0 K Q)
    exact z_iret dX13_put_10 rfl ⟨rfl, h⟩
theorem dX13_judge_0 : decode cX13_judge 0 = .ok (.aload_n 0, 1) := by decide +kernel
theorem dX13_judge_1 : decode cX13_judge 1 = .ok (.getfield 573, 3) := by decide +kernel
theorem dX13_judge_4 : decode cX13_judge 4 = .ok (.ifCond .eq 16, 3) := by decide +kernel
theorem dX13_judge_7 : decode cX13_judge 7 = .ok (.aload_n 0, 1) := by decide +kernel
theorem dX13_judge_8 : decode cX13_judge 8 = .ok (.getfield 613, 3) := by decide +kernel
theorem dX13_judge_11 : decode cX13_judge 11 = .ok (.iconst 3, 1) := by decide +kernel
theorem dX13_judge_12 : decode cX13_judge 12 = .ok (.aload_n 0, 1) := by decide +kernel
theorem dX13_judge_13 : decode cX13_judge 13 = .ok (.getfield 573, 3) := by decide +kernel
theorem dX13_judge_16 : decode cX13_judge 16 = .ok (.imul, 1) := by decide +kernel
theorem dX13_judge_17 : decode cX13_judge 17 = .ok (.if_icmp .eq 10, 3) := by decide +kernel
theorem dX13_judge_20 : decode cX13_judge 20 = .ok (.aload_n 0, 1) := by decide +kernel
theorem dX13_judge_21 : decode cX13_judge 21 = .ok (.bipush (-5), 2) := by decide +kernel
theorem dX13_judge_23 : decode cX13_judge 23 = .ok (.invokevirtual 308, 3) := by decide +kernel
theorem dX13_judge_26 : decode cX13_judge 26 = .ok (.ireturn, 1) := by decide +kernel
theorem dX13_judge_27 : decode cX13_judge 27 = .ok (.aload_n 0, 1) := by decide +kernel
theorem dX13_judge_28 : decode cX13_judge 28 = .ok (.invokevirtual 604, 3) := by decide +kernel
theorem dX13_judge_31 : decode cX13_judge 31 = .ok (.ifCond .ne 10, 3) := by decide +kernel
theorem dX13_judge_34 : decode cX13_judge 34 = .ok (.aload_n 0, 1) := by decide +kernel
theorem dX13_judge_35 : decode cX13_judge 35 = .ok (.bipush (-7), 2) := by decide +kernel
theorem dX13_judge_37 : decode cX13_judge 37 = .ok (.invokevirtual 308, 3) := by decide +kernel
theorem dX13_judge_40 : decode cX13_judge 40 = .ok (.ireturn, 1) := by decide +kernel
theorem dX13_judge_41 : decode cX13_judge 41 = .ok (.aload_n 0, 1) := by decide +kernel
theorem dX13_judge_42 : decode cX13_judge 42 = .ok (.iconst 0, 1) := by decide +kernel
theorem dX13_judge_43 : decode cX13_judge 43 = .ok (.putfield 613, 3) := by decide +kernel
theorem dX13_judge_46 : decode cX13_judge 46 = .ok (.aload_n 0, 1) := by decide +kernel
theorem dX13_judge_47 : decode cX13_judge 47 = .ok (.invokevirtual 586, 3) := by decide +kernel
theorem dX13_judge_50 : decode cX13_judge 50 = .ok (.aload_n 0, 1) := by decide +kernel
theorem dX13_judge_51 : decode cX13_judge 51 = .ok (.invokevirtual 595, 3) := by decide +kernel
theorem dX13_judge_54 : decode cX13_judge 54 = .ok (.iconst 0, 1) := by decide +kernel
theorem dX13_judge_55 : decode cX13_judge 55 = .ok (.istore_n 1, 1) := by decide +kernel
theorem dX13_judge_56 : decode cX13_judge 56 = .ok (.iload_n 1, 1) := by decide +kernel
theorem dX13_judge_57 : decode cX13_judge 57 = .ok (.aload_n 0, 1) := by decide +kernel
theorem dX13_judge_58 : decode cX13_judge 58 = .ok (.getfield 573, 3) := by decide +kernel
theorem dX13_judge_61 : decode cX13_judge 61 = .ok (.if_icmp .ge 83, 3) := by decide +kernel
theorem dX13_judge_64 : decode cX13_judge 64 = .ok (.aload_n 0, 1) := by decide +kernel
theorem dX13_judge_65 : decode cX13_judge 65 = .ok (.iload_n 1, 1) := by decide +kernel
theorem dX13_judge_66 : decode cX13_judge 66 = .ok (.aload_n 0, 1) := by decide +kernel
theorem dX13_judge_67 : decode cX13_judge 67 = .ok (.getfield 228, 3) := by decide +kernel
theorem dX13_judge_70 : decode cX13_judge 70 = .ok (.iconst 3, 1) := by decide +kernel
theorem dX13_judge_71 : decode cX13_judge 71 = .ok (.iload_n 1, 1) := by decide +kernel
theorem dX13_judge_72 : decode cX13_judge 72 = .ok (.imul, 1) := by decide +kernel
theorem dX13_judge_73 : decode cX13_judge 73 = .ok (.iaload, 1) := by decide +kernel
theorem dX13_judge_74 : decode cX13_judge 74 = .ok (.aload_n 0, 1) := by decide +kernel
theorem dX13_judge_75 : decode cX13_judge 75 = .ok (.getfield 228, 3) := by decide +kernel
theorem dX13_judge_78 : decode cX13_judge 78 = .ok (.iconst 3, 1) := by decide +kernel
theorem dX13_judge_79 : decode cX13_judge 79 = .ok (.iload_n 1, 1) := by decide +kernel
theorem dX13_judge_80 : decode cX13_judge 80 = .ok (.imul, 1) := by decide +kernel
theorem dX13_judge_81 : decode cX13_judge 81 = .ok (.iconst 1, 1) := by decide +kernel
theorem dX13_judge_82 : decode cX13_judge 82 = .ok (.iadd, 1) := by decide +kernel
theorem dX13_judge_83 : decode cX13_judge 83 = .ok (.iaload, 1) := by decide +kernel
theorem dX13_judge_84 : decode cX13_judge 84 = .ok (.aload_n 0, 1) := by decide +kernel
theorem dX13_judge_85 : decode cX13_judge 85 = .ok (.getfield 228, 3) := by decide +kernel
theorem dX13_judge_88 : decode cX13_judge 88 = .ok (.iconst 3, 1) := by decide +kernel
theorem dX13_judge_89 : decode cX13_judge 89 = .ok (.iload_n 1, 1) := by decide +kernel
theorem dX13_judge_90 : decode cX13_judge 90 = .ok (.imul, 1) := by decide +kernel
theorem dX13_judge_91 : decode cX13_judge 91 = .ok (.iconst 2, 1) := by decide +kernel
theorem dX13_judge_92 : decode cX13_judge 92 = .ok (.iadd, 1) := by decide +kernel
theorem dX13_judge_93 : decode cX13_judge 93 = .ok (.iaload, 1) := by decide +kernel
theorem dX13_judge_94 : decode cX13_judge 94 = .ok (.invokevirtual 579, 3) := by decide +kernel
theorem dX13_judge_97 : decode cX13_judge 97 = .ok (.ifCond .ne 8, 3) := by decide +kernel
theorem dX13_judge_100 : decode cX13_judge 100 = .ok (.bipush (-100), 2) := by decide +kernel
theorem dX13_judge_102 : decode cX13_judge 102 = .ok (.iload_n 1, 1) := by decide +kernel
theorem dX13_judge_103 : decode cX13_judge 103 = .ok (.isub, 1) := by decide +kernel
theorem dX13_judge_104 : decode cX13_judge 104 = .ok (.ireturn, 1) := by decide +kernel
theorem dX13_judge_105 : decode cX13_judge 105 = .ok (.aload_n 0, 1) := by decide +kernel
theorem dX13_judge_106 : decode cX13_judge 106 = .ok (.iload_n 1, 1) := by decide +kernel
theorem dX13_judge_107 : decode cX13_judge 107 = .ok (.aload_n 0, 1) := by decide +kernel
theorem dX13_judge_108 : decode cX13_judge 108 = .ok (.getfield 228, 3) := by decide +kernel
theorem dX13_judge_111 : decode cX13_judge 111 = .ok (.iconst 3, 1) := by decide +kernel
theorem dX13_judge_112 : decode cX13_judge 112 = .ok (.iload_n 1, 1) := by decide +kernel
theorem dX13_judge_113 : decode cX13_judge 113 = .ok (.imul, 1) := by decide +kernel
theorem dX13_judge_114 : decode cX13_judge 114 = .ok (.iaload, 1) := by decide +kernel
theorem dX13_judge_115 : decode cX13_judge 115 = .ok (.aload_n 0, 1) := by decide +kernel
theorem dX13_judge_116 : decode cX13_judge 116 = .ok (.getfield 228, 3) := by decide +kernel
theorem dX13_judge_119 : decode cX13_judge 119 = .ok (.iconst 3, 1) := by decide +kernel
theorem dX13_judge_120 : decode cX13_judge 120 = .ok (.iload_n 1, 1) := by decide +kernel
theorem dX13_judge_121 : decode cX13_judge 121 = .ok (.imul, 1) := by decide +kernel
theorem dX13_judge_122 : decode cX13_judge 122 = .ok (.iconst 1, 1) := by decide +kernel
theorem dX13_judge_123 : decode cX13_judge 123 = .ok (.iadd, 1) := by decide +kernel
theorem dX13_judge_124 : decode cX13_judge 124 = .ok (.iaload, 1) := by decide +kernel
theorem dX13_judge_125 : decode cX13_judge 125 = .ok (.aload_n 0, 1) := by decide +kernel
theorem dX13_judge_126 : decode cX13_judge 126 = .ok (.getfield 228, 3) := by decide +kernel
theorem dX13_judge_129 : decode cX13_judge 129 = .ok (.iconst 3, 1) := by decide +kernel
theorem dX13_judge_130 : decode cX13_judge 130 = .ok (.iload_n 1, 1) := by decide +kernel
theorem dX13_judge_131 : decode cX13_judge 131 = .ok (.imul, 1) := by decide +kernel
theorem dX13_judge_132 : decode cX13_judge 132 = .ok (.iconst 2, 1) := by decide +kernel
theorem dX13_judge_133 : decode cX13_judge 133 = .ok (.iadd, 1) := by decide +kernel
theorem dX13_judge_134 : decode cX13_judge 134 = .ok (.iaload, 1) := by decide +kernel
theorem dX13_judge_135 : decode cX13_judge 135 = .ok (.invokevirtual 582, 3) := by decide +kernel
theorem dX13_judge_138 : decode cX13_judge 138 = .ok (.iinc 1 1, 3) := by decide +kernel
theorem dX13_judge_141 : decode cX13_judge 141 = .ok (.goto (-85), 3) := by decide +kernel
theorem dX13_judge_144 : decode cX13_judge 144 = .ok (.aload_n 0, 1) := by decide +kernel
theorem dX13_judge_145 : decode cX13_judge 145 = .ok (.invokevirtual 601, 3) := by decide +kernel
theorem dX13_judge_148 : decode cX13_judge 148 = .ok (.ireturn, 1) := by decide +kernel
set_option maxRecDepth 100000 in
set_option maxHeartbeats 4000000 in
theorem wp_X13_judge {n0 d : Nat} {K : z_K} {I : z_I} {L : z_L} {Q : z_q}  (hL : MLay K) (h : (if ((I 59 89) : Int32) = 0 then RM0 n0 xX13_refuse d [.ref (n0 + 59), .int (-5)] K I L (fun vv I2 L3 => ∃ r4 : Int32, vv = some (.int r4) ∧ Q (some (.int r4)) I2 L3) else (if ((I 59 106) : Int32) = (3 * (I 59 89)) then RM0 n0 xX13_findMarker d [.ref (n0 + 59)] K I L (fun vv I6 L7 => ∃ r8 : Int32, vv = some (.int r8) ∧ (if r8 = 0 then RM0 n0 xX13_refuse d [.ref (n0 + 59), .int (-7)] K I6 L7 (fun vv I14 L15 => ∃ r16 : Int32, vv = some (.int r16) ∧ Q (some (.int r16)) I14 L15) else RM0 n0 xX13_findTurned d [.ref (n0 + 59)] K (zI I6 59 106 0) L7 (fun vv I10 L11 => vv = none ∧ RM0 n0 xX13_clearCloth d [.ref (n0 + 59)] K I10 L11 (fun vv I12 L13 => vv = none ∧ Z n0 xX13_judge (d + 1) 0 0 56 [(0, .ref (n0 + 59)), (1, .int 0)] [] K I12 L13 (z_q0 K Q))))) else RM0 n0 xX13_refuse d [.ref (n0 + 59), .int (-5)] K I L (fun vv I17 L18 => ∃ r19 : Int32, vv = some (.int r19) ∧ Q (some (.int r19)) I17 L18)))) : RM0 n0 xX13_judge (d + 1) [.ref (n0 + 59)] K I L Q := by
  refine z_entry0 (by decide) (Nat.le_of_ble_eq_true rfl) ?_
  change Z n0 xX13_judge (d + 1) 0 0 0 [(0, .ref (n0 + 59))] [] K I L (z_q0 K Q)
  refine z_aload_n 0 dX13_judge_0 rfl ?_
  refine fg_13_573 (I 59 89) rfl dX13_judge_1 hL.1 hL.2.1 rfl ?_
  refine z_if_eq 20 dX13_judge_4 (by decide) (fun g1 => ?_) (fun g1 => ?_)
  · rw [if_pos g1] at h
    refine z_aload_n 0 dX13_judge_20 rfl ?_
    refine z_bipush (-5) dX13_judge_21 (by decide) ?_
    refine z_callV0 (As := [.int (-5)]) (st := []) dX13_judge_23 hy_X13_refuse hL.1 hL.2.1 (by decide) wg_1778 wg_1780 wg_54 (Nat.le_refl _) (Nat.le_of_ble_eq_true rfl) (RM0.mono h (fun vv I2 L3 h => ?_))
    obtain ⟨r4, rfl, h⟩ := h
    change Z n0 xX13_judge (d + 1) 0 0 26 [(0, .ref (n0 + 59))] [.int r4] K I2 L3 (z_q0 K Q)
    exact z_iret dX13_judge_26 rfl ⟨rfl, h⟩
  · rw [if_neg g1] at h
    refine z_aload_n 0 dX13_judge_7 rfl ?_
    refine fg_13_613 (I 59 106) rfl dX13_judge_8 hL.1 hL.2.1 rfl ?_
    refine z_iconst 3 dX13_judge_11 (by decide) ?_
    refine z_aload_n 0 dX13_judge_12 rfl ?_
    refine fg_13_573 (I 59 89) rfl dX13_judge_13 hL.1 hL.2.1 rfl ?_
    refine z_imul dX13_judge_16 ?_
    refine z_icmp_eq 27 dX13_judge_17 (by decide) (fun g5 => ?_) (fun g5 => ?_)
    · rw [if_pos g5] at h
      refine z_aload_n 0 dX13_judge_27 rfl ?_
      refine z_callV0 (As := []) (st := []) dX13_judge_28 hy_X13_findMarker hL.1 hL.2.1 (by decide) wg_2114 wg_2116 wg_92 (Nat.le_refl _) (Nat.le_of_ble_eq_true rfl) (RM0.mono h (fun vv I6 L7 h => ?_))
      obtain ⟨r8, rfl, h⟩ := h
      change Z n0 xX13_judge (d + 1) 0 0 31 [(0, .ref (n0 + 59))] [.int r8] K I6 L7 (z_q0 K Q)
      refine z_if_ne 41 dX13_judge_31 (by decide) (fun g9 => ?_) (fun g9 => ?_)
      · rw [if_neg g9] at h
        refine z_aload_n 0 dX13_judge_41 rfl ?_
        refine z_iconst 0 dX13_judge_42 (by decide) ?_
        refine fp_13_613 rfl dX13_judge_43 hL.1 hL.2.1 ?_
        refine z_aload_n 0 dX13_judge_46 rfl ?_
        refine z_callV0 (As := []) (st := []) dX13_judge_47 hy_X13_findTurned hL.1 hL.2.1 (by decide) wg_2122 wg_2124 wg_94 (Nat.le_refl _) (Nat.le_of_ble_eq_true rfl) (RM0.mono h (fun vv I10 L11 h => ?_))
        obtain ⟨rfl, h⟩ := h
        change Z n0 xX13_judge (d + 1) 0 0 50 [(0, .ref (n0 + 59))] [] K I10 L11 (z_q0 K Q)
        refine z_aload_n 0 dX13_judge_50 rfl ?_
        refine z_callV0 (As := []) (st := []) dX13_judge_51 hy_X13_clearCloth hL.1 hL.2.1 (by decide) wg_2136 wg_2138 wg_96 (Nat.le_refl _) (Nat.le_of_ble_eq_true rfl) (RM0.mono h (fun vv I12 L13 h => ?_))
        obtain ⟨rfl, h⟩ := h
        change Z n0 xX13_judge (d + 1) 0 0 54 [(0, .ref (n0 + 59))] [] K I12 L13 (z_q0 K Q)
        refine z_iconst 0 dX13_judge_54 (by decide) ?_
        refine z_istore_n [1, 0] [(0, .ref (n0 + 59)), (1, .int 0)] dX13_judge_55 (by decide) rfl ?_
        exact h
      · rw [if_pos g9] at h
        refine z_aload_n 0 dX13_judge_34 rfl ?_
        refine z_bipush (-7) dX13_judge_35 (by decide) ?_
        refine z_callV0 (As := [.int (-7)]) (st := []) dX13_judge_37 hy_X13_refuse hL.1 hL.2.1 (by decide) wg_1778 wg_1780 wg_54 (Nat.le_refl _) (Nat.le_of_ble_eq_true rfl) (RM0.mono h (fun vv I14 L15 h => ?_))
        obtain ⟨r16, rfl, h⟩ := h
        change Z n0 xX13_judge (d + 1) 0 0 40 [(0, .ref (n0 + 59))] [.int r16] K I14 L15 (z_q0 K Q)
        exact z_iret dX13_judge_40 rfl ⟨rfl, h⟩
    · rw [if_neg g5] at h
      refine z_aload_n 0 dX13_judge_20 rfl ?_
      refine z_bipush (-5) dX13_judge_21 (by decide) ?_
      refine z_callV0 (As := [.int (-5)]) (st := []) dX13_judge_23 hy_X13_refuse hL.1 hL.2.1 (by decide) wg_1778 wg_1780 wg_54 (Nat.le_refl _) (Nat.le_of_ble_eq_true rfl) (RM0.mono h (fun vv I17 L18 h => ?_))
      obtain ⟨r19, rfl, h⟩ := h
      change Z n0 xX13_judge (d + 1) 0 0 26 [(0, .ref (n0 + 59))] [.int r19] K I17 L18 (z_q0 K Q)
      exact z_iret dX13_judge_26 rfl ⟨rfl, h⟩
set_option maxRecDepth 100000 in
set_option maxHeartbeats 4000000 in
theorem wp_X13_judge_56 {n0 d : Nat} {rc rs : Nat} {K : z_K} {I : z_I} {L : z_L} {Q : z_q} {a1 : Int32} (hL : MLay K) (h : (if a1 < (I 59 89) then vp_in (3 * a1) 12 ∧ vp_in ((3 * a1) + 1) 12 ∧ vp_in ((3 * a1) + 2) 12 ∧ RM0 n0 xX13_canLie d [.ref (n0 + 59), .int a1, .int (I 132 ((3 * a1).toNatClampNeg)), .int (I 132 (((3 * a1) + 1).toNatClampNeg)), .int (I 132 (((3 * a1) + 2).toNatClampNeg))] K I L (fun vv I8 L9 => ∃ r10 : Int32, vv = some (.int r10) ∧ (if r10 = 0 then Q (some (.int ((-100) - a1))) I8 L9 else RM0 n0 xX13_lie d [.ref (n0 + 59), .int a1, .int (I8 132 ((3 * a1).toNatClampNeg)), .int (I8 132 (((3 * a1) + 1).toNatClampNeg)), .int (I8 132 (((3 * a1) + 2).toNatClampNeg))] K I8 L9 (fun vv I12 L13 => vv = none ∧ Z n0 xX13_judge (d + 1) rc rs 56 [(0, .ref (n0 + 59)), (1, .int (a1 + 1))] [] K I12 L13 (z_q0 K Q)))) else RM0 n0 xX13_longOf d [.ref (n0 + 59)] K I L (fun vv I2 L3 => ∃ r4 : Int32, vv = some (.int r4) ∧ Q (some (.int r4)) I2 L3))) : Z n0 xX13_judge (d + 1) rc rs 56 [(0, .ref (n0 + 59)), (1, .int a1)] [] K I L (z_q0 K Q) := by
  refine z_iload_n 1 dX13_judge_56 rfl ?_
  refine z_aload_n 0 dX13_judge_57 rfl ?_
  refine fg_13_573 (I 59 89) rfl dX13_judge_58 hL.1 hL.2.1 rfl ?_
  refine z_icmp_ge 144 dX13_judge_61 (by decide) (fun g1 => ?_) (fun g1 => ?_)
  · rw [if_neg g1] at h
    refine z_aload_n 0 dX13_judge_144 rfl ?_
    refine z_callV0 (As := []) (st := []) dX13_judge_145 hy_X13_longOf hL.1 hL.2.1 (by decide) wg_2152 wg_2154 wg_100 (Nat.le_refl _) (Nat.le_of_ble_eq_true rfl) (RM0.mono h (fun vv I2 L3 h => ?_))
    obtain ⟨r4, rfl, h⟩ := h
    change Z n0 xX13_judge (d + 1) rc rs 148 [(0, .ref (n0 + 59)), (1, .int a1)] [.int r4] K I2 L3 (z_q0 K Q)
    exact z_iret dX13_judge_148 rfl ⟨rfl, h⟩
  · rw [if_pos g1] at h
    refine z_aload_n 0 dX13_judge_64 rfl ?_
    refine z_iload_n 1 dX13_judge_65 rfl ?_
    refine z_aload_n 0 dX13_judge_66 rfl ?_
    refine fg_13_228 (some 132) rfl dX13_judge_67 hL.1 hL.2.1 (ma_105 hL).1 ?_
    refine z_iconst 3 dX13_judge_70 (by decide) ?_
    refine z_iload_n 1 dX13_judge_71 rfl ?_
    refine z_imul dX13_judge_72 ?_
    obtain ⟨o5, h⟩ := h
    refine z_iald (I 132 ((3 * a1).toNatClampNeg)) dX13_judge_73 (ma_105 hL).2.1 (ma_105 hL).2.2 o5 rfl ?_
    refine z_aload_n 0 dX13_judge_74 rfl ?_
    refine fg_13_228 (some 132) rfl dX13_judge_75 hL.1 hL.2.1 (ma_105 hL).1 ?_
    refine z_iconst 3 dX13_judge_78 (by decide) ?_
    refine z_iload_n 1 dX13_judge_79 rfl ?_
    refine z_imul dX13_judge_80 ?_
    refine z_iconst 1 dX13_judge_81 (by decide) ?_
    refine z_iadd dX13_judge_82 ?_
    obtain ⟨o6, h⟩ := h
    refine z_iald (I 132 (((3 * a1) + 1).toNatClampNeg)) dX13_judge_83 (ma_105 hL).2.1 (ma_105 hL).2.2 o6 rfl ?_
    refine z_aload_n 0 dX13_judge_84 rfl ?_
    refine fg_13_228 (some 132) rfl dX13_judge_85 hL.1 hL.2.1 (ma_105 hL).1 ?_
    refine z_iconst 3 dX13_judge_88 (by decide) ?_
    refine z_iload_n 1 dX13_judge_89 rfl ?_
    refine z_imul dX13_judge_90 ?_
    refine z_iconst 2 dX13_judge_91 (by decide) ?_
    refine z_iadd dX13_judge_92 ?_
    obtain ⟨o7, h⟩ := h
    refine z_iald (I 132 (((3 * a1) + 2).toNatClampNeg)) dX13_judge_93 (ma_105 hL).2.1 (ma_105 hL).2.2 o7 rfl ?_
    refine z_callV0 (As := [.int a1, .int (I 132 ((3 * a1).toNatClampNeg)), .int (I 132 (((3 * a1) + 1).toNatClampNeg)), .int (I 132 (((3 * a1) + 2).toNatClampNeg))]) (st := []) dX13_judge_94 hy_X13_canLie hL.1 hL.2.1 (by decide) wg_2144 wg_2146 wg_98 (Nat.le_refl _) (Nat.le_of_ble_eq_true rfl) (RM0.mono h (fun vv I8 L9 h => ?_))
    obtain ⟨r10, rfl, h⟩ := h
    change Z n0 xX13_judge (d + 1) rc rs 97 [(0, .ref (n0 + 59)), (1, .int a1)] [.int r10] K I8 L9 (z_q0 K Q)
    refine z_if_ne 105 dX13_judge_97 (by decide) (fun g11 => ?_) (fun g11 => ?_)
    · rw [if_neg g11] at h
      refine z_aload_n 0 dX13_judge_105 rfl ?_
      refine z_iload_n 1 dX13_judge_106 rfl ?_
      refine z_aload_n 0 dX13_judge_107 rfl ?_
      refine fg_13_228 (some 132) rfl dX13_judge_108 hL.1 hL.2.1 (ma_105 hL).1 ?_
      refine z_iconst 3 dX13_judge_111 (by decide) ?_
      refine z_iload_n 1 dX13_judge_112 rfl ?_
      refine z_imul dX13_judge_113 ?_
      refine z_iald (I8 132 ((3 * a1).toNatClampNeg)) dX13_judge_114 (ma_105 hL).2.1 (ma_105 hL).2.2 o5 rfl ?_
      refine z_aload_n 0 dX13_judge_115 rfl ?_
      refine fg_13_228 (some 132) rfl dX13_judge_116 hL.1 hL.2.1 (ma_105 hL).1 ?_
      refine z_iconst 3 dX13_judge_119 (by decide) ?_
      refine z_iload_n 1 dX13_judge_120 rfl ?_
      refine z_imul dX13_judge_121 ?_
      refine z_iconst 1 dX13_judge_122 (by decide) ?_
      refine z_iadd dX13_judge_123 ?_
      refine z_iald (I8 132 (((3 * a1) + 1).toNatClampNeg)) dX13_judge_124 (ma_105 hL).2.1 (ma_105 hL).2.2 o6 rfl ?_
      refine z_aload_n 0 dX13_judge_125 rfl ?_
      refine fg_13_228 (some 132) rfl dX13_judge_126 hL.1 hL.2.1 (ma_105 hL).1 ?_
      refine z_iconst 3 dX13_judge_129 (by decide) ?_
      refine z_iload_n 1 dX13_judge_130 rfl ?_
      refine z_imul dX13_judge_131 ?_
      refine z_iconst 2 dX13_judge_132 (by decide) ?_
      refine z_iadd dX13_judge_133 ?_
      refine z_iald (I8 132 (((3 * a1) + 2).toNatClampNeg)) dX13_judge_134 (ma_105 hL).2.1 (ma_105 hL).2.2 o7 rfl ?_
      refine z_callV0 (As := [.int a1, .int (I8 132 ((3 * a1).toNatClampNeg)), .int (I8 132 (((3 * a1) + 1).toNatClampNeg)), .int (I8 132 (((3 * a1) + 2).toNatClampNeg))]) (st := []) dX13_judge_135 hy_X13_lie hL.1 hL.2.1 (by decide) wg_2148 wg_2150 wg_99 (Nat.le_refl _) (Nat.le_of_ble_eq_true rfl) (RM0.mono h (fun vv I12 L13 h => ?_))
      obtain ⟨rfl, h⟩ := h
      change Z n0 xX13_judge (d + 1) rc rs 138 [(0, .ref (n0 + 59)), (1, .int a1)] [] K I12 L13 (z_q0 K Q)
      refine z_iinc (j := 1) (a1 + 1) [1, 0] [(0, .ref (n0 + 59)), (1, .int (a1 + 1))] dX13_judge_138 rfl rfl (by decide) rfl ?_
      refine z_goto 56 dX13_judge_141 (by decide) ?_
      exact h
    · rw [if_pos g11] at h
      refine z_bipush (-100) dX13_judge_100 (by decide) ?_
      refine z_iload_n 1 dX13_judge_102 rfl ?_
      refine z_isub dX13_judge_103 ?_
      exact z_iret dX13_judge_104 rfl ⟨rfl, h⟩
theorem dX13_cut_0 : decode cX13_cut 0 = .ok (.iload_n 2, 1) := by decide +kernel
theorem dX13_cut_1 : decode cX13_cut 1 = .ok (.i2l, 1) := by decide +kernel
theorem dX13_cut_2 : decode cX13_cut 2 = .ok (.lconst 0, 1) := by decide +kernel
theorem dX13_cut_3 : decode cX13_cut 3 = .ok (.lconst 1, 1) := by decide +kernel
theorem dX13_cut_4 : decode cX13_cut 4 = .ok (.invokestatic 291, 3) := by decide +kernel
theorem dX13_cut_7 : decode cX13_cut 7 = .ok (.ifCond .ne 10, 3) := by decide +kernel
theorem dX13_cut_10 : decode cX13_cut 10 = .ok (.aload_n 0, 1) := by decide +kernel
theorem dX13_cut_11 : decode cX13_cut 11 = .ok (.bipush (-2), 2) := by decide +kernel
theorem dX13_cut_13 : decode cX13_cut 13 = .ok (.invokevirtual 334, 3) := by decide +kernel
theorem dX13_cut_16 : decode cX13_cut 16 = .ok (.ireturn, 1) := by decide +kernel
theorem dX13_cut_17 : decode cX13_cut 17 = .ok (.iload_n 1, 1) := by decide +kernel
theorem dX13_cut_18 : decode cX13_cut 18 = .ok (.ldc_w 616, 3) := by decide +kernel
theorem dX13_cut_21 : decode cX13_cut 21 = .ok (.ldc_w 514, 3) := by decide +kernel
theorem dX13_cut_24 : decode cX13_cut 24 = .ok (.invokestatic 324, 3) := by decide +kernel
theorem dX13_cut_27 : decode cX13_cut 27 = .ok (.ifCond .ge 18, 3) := by decide +kernel
theorem dX13_cut_30 : decode cX13_cut 30 = .ok (.aload_n 0, 1) := by decide +kernel
theorem dX13_cut_31 : decode cX13_cut 31 = .ok (.iload_n 1, 1) := by decide +kernel
theorem dX13_cut_32 : decode cX13_cut 32 = .ok (.ldc_w 616, 3) := by decide +kernel
theorem dX13_cut_35 : decode cX13_cut 35 = .ok (.ldc_w 514, 3) := by decide +kernel
theorem dX13_cut_38 : decode cX13_cut 38 = .ok (.invokestatic 324, 3) := by decide +kernel
theorem dX13_cut_41 : decode cX13_cut 41 = .ok (.invokevirtual 334, 3) := by decide +kernel
theorem dX13_cut_44 : decode cX13_cut 44 = .ok (.ireturn, 1) := by decide +kernel
theorem dX13_cut_45 : decode cX13_cut 45 = .ok (.bipush 100, 2) := by decide +kernel
theorem dX13_cut_47 : decode cX13_cut 47 = .ok (.aload_n 0, 1) := by decide +kernel
theorem dX13_cut_48 : decode cX13_cut 48 = .ok (.getfield 171, 3) := by decide +kernel
theorem dX13_cut_51 : decode cX13_cut 51 = .ok (.iconst 4, 1) := by decide +kernel
theorem dX13_cut_52 : decode cX13_cut 52 = .ok (.iload_n 2, 1) := by decide +kernel
theorem dX13_cut_53 : decode cX13_cut 53 = .ok (.iadd, 1) := by decide +kernel
theorem dX13_cut_54 : decode cX13_cut 54 = .ok (.iaload, 1) := by decide +kernel
theorem dX13_cut_55 : decode cX13_cut 55 = .ok (.isub, 1) := by decide +kernel
theorem dX13_cut_56 : decode cX13_cut 56 = .ok (.istore 4, 2) := by decide +kernel
theorem dX13_cut_58 : decode cX13_cut 58 = .ok (.iload_n 1, 1) := by decide +kernel
theorem dX13_cut_59 : decode cX13_cut 59 = .ok (.ifCond .ge 8, 3) := by decide +kernel
theorem dX13_cut_62 : decode cX13_cut 62 = .ok (.iload_n 1, 1) := by decide +kernel
theorem dX13_cut_63 : decode cX13_cut 63 = .ok (.ineg, 1) := by decide +kernel
theorem dX13_cut_64 : decode cX13_cut 64 = .ok (.goto 4, 3) := by decide +kernel
theorem dX13_cut_67 : decode cX13_cut 67 = .ok (.iload_n 1, 1) := by decide +kernel
theorem dX13_cut_68 : decode cX13_cut 68 = .ok (.istore 5, 2) := by decide +kernel
theorem dX13_cut_70 : decode cX13_cut 70 = .ok (.bipush 100, 2) := by decide +kernel
theorem dX13_cut_72 : decode cX13_cut 72 = .ok (.iload 5, 2) := by decide +kernel
theorem dX13_cut_74 : decode cX13_cut 74 = .ok (.imul, 1) := by decide +kernel
theorem dX13_cut_75 : decode cX13_cut 75 = .ok (.iload 4, 2) := by decide +kernel
theorem dX13_cut_77 : decode cX13_cut 77 = .ok (.iadd, 1) := by decide +kernel
theorem dX13_cut_78 : decode cX13_cut 78 = .ok (.iconst 1, 1) := by decide +kernel
theorem dX13_cut_79 : decode cX13_cut 79 = .ok (.isub, 1) := by decide +kernel
theorem dX13_cut_80 : decode cX13_cut 80 = .ok (.iload 4, 2) := by decide +kernel
theorem dX13_cut_82 : decode cX13_cut 82 = .ok (.idiv, 1) := by decide +kernel
theorem dX13_cut_83 : decode cX13_cut 83 = .ok (.istore 6, 2) := by decide +kernel
theorem dX13_cut_85 : decode cX13_cut 85 = .ok (.iload_n 1, 1) := by decide +kernel
theorem dX13_cut_86 : decode cX13_cut 86 = .ok (.ifCond .ge 9, 3) := by decide +kernel
theorem dX13_cut_89 : decode cX13_cut 89 = .ok (.iload 6, 2) := by decide +kernel
theorem dX13_cut_91 : decode cX13_cut 91 = .ok (.ineg, 1) := by decide +kernel
theorem dX13_cut_92 : decode cX13_cut 92 = .ok (.goto 5, 3) := by decide +kernel
theorem dX13_cut_95 : decode cX13_cut 95 = .ok (.iload 6, 2) := by decide +kernel
theorem dX13_cut_97 : decode cX13_cut 97 = .ok (.istore 6, 2) := by decide +kernel
theorem dX13_cut_99 : decode cX13_cut 99 = .ok (.iload_n 3, 1) := by decide +kernel
theorem dX13_cut_100 : decode cX13_cut 100 = .ok (.ifCond .eq 18, 3) := by decide +kernel
theorem dX13_cut_103 : decode cX13_cut 103 = .ok (.iload 6, 2) := by decide +kernel
theorem dX13_cut_105 : decode cX13_cut 105 = .ok (.i2l, 1) := by decide +kernel
theorem dX13_cut_106 : decode cX13_cut 106 = .ok (.iload 4, 2) := by decide +kernel
theorem dX13_cut_108 : decode cX13_cut 108 = .ok (.i2l, 1) := by decide +kernel
theorem dX13_cut_109 : decode cX13_cut 109 = .ok (.lmul, 1) := by decide +kernel
theorem dX13_cut_110 : decode cX13_cut 110 = .ok (.ldc2_w 617, 3) := by decide +kernel
theorem dX13_cut_113 : decode cX13_cut 113 = .ok (.ldiv, 1) := by decide +kernel
theorem dX13_cut_114 : decode cX13_cut 114 = .ok (.l2i, 1) := by decide +kernel
theorem dX13_cut_115 : decode cX13_cut 115 = .ok (.goto 5, 3) := by decide +kernel
theorem dX13_cut_118 : decode cX13_cut 118 = .ok (.iload 6, 2) := by decide +kernel
theorem dX13_cut_120 : decode cX13_cut 120 = .ok (.ireturn, 1) := by decide +kernel
set_option maxRecDepth 100000 in
set_option maxHeartbeats 4000000 in
theorem wp_X13_cut {n0 d : Nat} {K : z_K} {I : z_I} {L : z_L} {Q : z_q} {p0 : Int32} {p1 : Int32} {p2 : Int32} (hL : MLay K) (h : RM0 n0 xX13_in d [.long p1.toInt64, .long 0, .long 1] K I L (fun vv I1 L2 => ∃ r3 : Int32, vv = some (.int r3) ∧ (if r3 = 0 then RM0 n0 xX13_refuseFar d [.ref (n0 + 59), .int (-2)] K I1 L2 (fun vv I23 L24 => ∃ r25 : Int32, vv = some (.int r25) ∧ Q (some (.int r25)) I23 L24) else RM0 n0 xX13_bounds d [.int p0, .int (-99999), .int 99999] K I1 L2 (fun vv I5 L6 => ∃ r7 : Int32, vv = some (.int r7) ∧ (if r7 < 0 then RM0 n0 xX13_bounds d [.int p0, .int (-99999), .int 99999] K I5 L6 (fun vv I17 L18 => ∃ r19 : Int32, vv = some (.int r19) ∧ RM0 n0 xX13_refuseFar d [.ref (n0 + 59), .int r19] K I17 L18 (fun vv I20 L21 => ∃ r22 : Int32, vv = some (.int r22) ∧ Q (some (.int r22)) I20 L21)) else vp_in (4 + p1) 6 ∧ ¬ ((100 - (I5 113 ((4 + p1).toNatClampNeg))) : Int32) = 0 ∧ Q (some (.int (if p2 = 0 then (if p0 < 0 then (-((((100 * (if p0 < 0 then (-p0) else p0)) + (100 - (I5 113 ((4 + p1).toNatClampNeg)))) - 1) / (100 - (I5 113 ((4 + p1).toNatClampNeg))))) else ((((100 * (if p0 < 0 then (-p0) else p0)) + (100 - (I5 113 ((4 + p1).toNatClampNeg)))) - 1) / (100 - (I5 113 ((4 + p1).toNatClampNeg))))) else ((((((if p0 < 0 then (-((((100 * (if p0 < 0 then (-p0) else p0)) + (100 - (I5 113 ((4 + p1).toNatClampNeg)))) - 1) / (100 - (I5 113 ((4 + p1).toNatClampNeg))))) else ((((100 * (if p0 < 0 then (-p0) else p0)) + (100 - (I5 113 ((4 + p1).toNatClampNeg)))) - 1) / (100 - (I5 113 ((4 + p1).toNatClampNeg))))) : Int32).toInt64) * (((100 - (I5 113 ((4 + p1).toNatClampNeg))) : Int32).toInt64)) / 100) : Int64).toInt32))) I5 L6))))) : RM0 n0 xX13_cut (d + 1) [.ref (n0 + 59), .int p0, .int p1, .int p2] K I L Q := by
  refine z_entry0 (by decide) (Nat.le_of_ble_eq_true rfl) ?_
  change Z n0 xX13_cut (d + 1) 0 0 0 [(0, .ref (n0 + 59)), (1, .int p0), (2, .int p1), (3, .int p2)] [] K I L (z_q0 K Q)
  refine z_iload_n 2 dX13_cut_0 rfl ?_
  refine z_i2l dX13_cut_1 ?_
  refine z_lconst 0 dX13_cut_2 (by decide) ?_
  refine z_lconst 1 dX13_cut_3 (by decide) ?_
  refine z_callS0 (As := [.long p1.toInt64, .long 0, .long 1]) (st := []) dX13_cut_4 hy_X13_in wg_1790 wg_1791 (Nat.le_refl _) (Nat.le_of_ble_eq_true rfl) (RM0.mono h (fun vv I1 L2 h => ?_))
  obtain ⟨r3, rfl, h⟩ := h
  change Z n0 xX13_cut (d + 1) 0 0 7 [(0, .ref (n0 + 59)), (1, .int p0), (2, .int p1), (3, .int p2)] [.int r3] K I1 L2 (z_q0 K Q)
  refine z_if_ne 17 dX13_cut_7 (by decide) (fun g4 => ?_) (fun g4 => ?_)
  · rw [if_neg g4] at h
    refine z_iload_n 1 dX13_cut_17 rfl ?_
    refine z_ldc_w (-99999) dX13_cut_18 wg_2172 ?_
    refine z_ldc_w 99999 dX13_cut_21 wg_2018 ?_
    refine z_callS0 (As := [.int p0, .int (-99999), .int 99999]) (st := []) dX13_cut_24 hy_X13_bounds wg_1797 wg_1798 (Nat.le_refl _) (Nat.le_of_ble_eq_true rfl) (RM0.mono h (fun vv I5 L6 h => ?_))
    obtain ⟨r7, rfl, h⟩ := h
    change Z n0 xX13_cut (d + 1) 0 0 27 [(0, .ref (n0 + 59)), (1, .int p0), (2, .int p1), (3, .int p2)] [.int r7] K I5 L6 (z_q0 K Q)
    refine z_if_ge 45 dX13_cut_27 (by decide) (fun g8 => ?_) (fun g8 => ?_)
    · rw [if_neg g8] at h
      refine z_bipush 100 dX13_cut_45 (by decide) ?_
      refine z_aload_n 0 dX13_cut_47 rfl ?_
      refine fg_13_171 (some 113) rfl dX13_cut_48 hL.1 hL.2.1 (ma_82 hL).1 ?_
      refine z_iconst 4 dX13_cut_51 (by decide) ?_
      refine z_iload_n 2 dX13_cut_52 rfl ?_
      refine z_iadd dX13_cut_53 ?_
      obtain ⟨o9, h⟩ := h
      refine z_iald (I5 113 ((4 + p1).toNatClampNeg)) dX13_cut_54 (ma_82 hL).2.1 (ma_82 hL).2.2 o9 rfl ?_
      refine z_isub dX13_cut_55 ?_
      refine z_istore [1, 2, 3, 4, 0] [(0, .ref (n0 + 59)), (1, .int p0), (2, .int p1), (3, .int p2), (4, .int (100 - (I5 113 ((4 + p1).toNatClampNeg))))] dX13_cut_56 (by decide) rfl ?_
      refine z_iload_n 1 dX13_cut_58 rfl ?_
      have key11 : Z n0 xX13_cut (d + 1) 0 0 68 [(1, .int p0), (3, .int p2), (4, .int (100 - (I5 113 ((4 + p1).toNatClampNeg))))] [.int (if p0 < 0 then (-p0) else p0)] K I5 L6 (z_q0 K Q) := by
        refine z_istore [1, 2, 3, 0] [(1, .int p0), (3, .int p2), (4, .int (100 - (I5 113 ((4 + p1).toNatClampNeg)))), (5, .int (if p0 < 0 then (-p0) else p0))] dX13_cut_68 (by decide) rfl ?_
        refine z_bipush 100 dX13_cut_70 (by decide) ?_
        refine z_iload 3 dX13_cut_72 rfl ?_
        refine z_imul dX13_cut_74 ?_
        refine z_iload 2 dX13_cut_75 rfl ?_
        refine z_iadd dX13_cut_77 ?_
        refine z_iconst 1 dX13_cut_78 (by decide) ?_
        refine z_isub dX13_cut_79 ?_
        refine z_iload 2 dX13_cut_80 rfl ?_
        obtain ⟨o12, h⟩ := h
        refine z_idiv dX13_cut_82 o12 ?_
        refine z_istore [1, 2, 3, 4, 0] [(1, .int p0), (3, .int p2), (4, .int (100 - (I5 113 ((4 + p1).toNatClampNeg)))), (5, .int (if p0 < 0 then (-p0) else p0)), (6, .int ((((100 * (if p0 < 0 then (-p0) else p0)) + (100 - (I5 113 ((4 + p1).toNatClampNeg)))) - 1) / (100 - (I5 113 ((4 + p1).toNatClampNeg)))))] dX13_cut_83 (by decide) rfl ?_
        refine z_iload_n 0 dX13_cut_85 rfl ?_
        have key14 : Z n0 xX13_cut (d + 1) 0 0 97 [(3, .int p2), (4, .int (100 - (I5 113 ((4 + p1).toNatClampNeg))))] [.int (if p0 < 0 then (-((((100 * (if p0 < 0 then (-p0) else p0)) + (100 - (I5 113 ((4 + p1).toNatClampNeg)))) - 1) / (100 - (I5 113 ((4 + p1).toNatClampNeg))))) else ((((100 * (if p0 < 0 then (-p0) else p0)) + (100 - (I5 113 ((4 + p1).toNatClampNeg)))) - 1) / (100 - (I5 113 ((4 + p1).toNatClampNeg)))))] K I5 L6 (z_q0 K Q) := by
          refine z_istore [1, 2, 0] [(3, .int p2), (4, .int (100 - (I5 113 ((4 + p1).toNatClampNeg)))), (6, .int (if p0 < 0 then (-((((100 * (if p0 < 0 then (-p0) else p0)) + (100 - (I5 113 ((4 + p1).toNatClampNeg)))) - 1) / (100 - (I5 113 ((4 + p1).toNatClampNeg))))) else ((((100 * (if p0 < 0 then (-p0) else p0)) + (100 - (I5 113 ((4 + p1).toNatClampNeg)))) - 1) / (100 - (I5 113 ((4 + p1).toNatClampNeg))))))] dX13_cut_97 (by decide) rfl ?_
          refine z_iload_n 0 dX13_cut_99 rfl ?_
          have key16 : Z n0 xX13_cut (d + 1) 0 0 120 [] [.int (if p2 = 0 then (if p0 < 0 then (-((((100 * (if p0 < 0 then (-p0) else p0)) + (100 - (I5 113 ((4 + p1).toNatClampNeg)))) - 1) / (100 - (I5 113 ((4 + p1).toNatClampNeg))))) else ((((100 * (if p0 < 0 then (-p0) else p0)) + (100 - (I5 113 ((4 + p1).toNatClampNeg)))) - 1) / (100 - (I5 113 ((4 + p1).toNatClampNeg))))) else ((((((if p0 < 0 then (-((((100 * (if p0 < 0 then (-p0) else p0)) + (100 - (I5 113 ((4 + p1).toNatClampNeg)))) - 1) / (100 - (I5 113 ((4 + p1).toNatClampNeg))))) else ((((100 * (if p0 < 0 then (-p0) else p0)) + (100 - (I5 113 ((4 + p1).toNatClampNeg)))) - 1) / (100 - (I5 113 ((4 + p1).toNatClampNeg))))) : Int32).toInt64) * (((100 - (I5 113 ((4 + p1).toNatClampNeg))) : Int32).toInt64)) / 100) : Int64).toInt32)] K I5 L6 (z_q0 K Q) := by
            exact z_iret dX13_cut_120 rfl ⟨rfl, h⟩
          refine z_if_eq 118 dX13_cut_100 (by decide) (fun g15 => ?_) (fun g15 => ?_)
          · refine z_iload 2 dX13_cut_118 rfl ?_
            have ee : ((if p2 = 0 then (if p0 < 0 then (-((((100 * (if p0 < 0 then (-p0) else p0)) + (100 - (I5 113 ((4 + p1).toNatClampNeg)))) - 1) / (100 - (I5 113 ((4 + p1).toNatClampNeg))))) else ((((100 * (if p0 < 0 then (-p0) else p0)) + (100 - (I5 113 ((4 + p1).toNatClampNeg)))) - 1) / (100 - (I5 113 ((4 + p1).toNatClampNeg))))) else ((((((if p0 < 0 then (-((((100 * (if p0 < 0 then (-p0) else p0)) + (100 - (I5 113 ((4 + p1).toNatClampNeg)))) - 1) / (100 - (I5 113 ((4 + p1).toNatClampNeg))))) else ((((100 * (if p0 < 0 then (-p0) else p0)) + (100 - (I5 113 ((4 + p1).toNatClampNeg)))) - 1) / (100 - (I5 113 ((4 + p1).toNatClampNeg))))) : Int32).toInt64) * (((100 - (I5 113 ((4 + p1).toNatClampNeg))) : Int32).toInt64)) / 100) : Int64).toInt32) : Int32) = (if p0 < 0 then (-((((100 * (if p0 < 0 then (-p0) else p0)) + (100 - (I5 113 ((4 + p1).toNatClampNeg)))) - 1) / (100 - (I5 113 ((4 + p1).toNatClampNeg))))) else ((((100 * (if p0 < 0 then (-p0) else p0)) + (100 - (I5 113 ((4 + p1).toNatClampNeg)))) - 1) / (100 - (I5 113 ((4 + p1).toNatClampNeg))))) := by rw [if_pos g15]
            rw [ee] at key16
            clear ee
            refine z_sub [] rfl ?_
            exact key16
          · refine z_iload 2 dX13_cut_103 rfl ?_
            refine z_i2l dX13_cut_105 ?_
            refine z_iload 1 dX13_cut_106 rfl ?_
            refine z_i2l dX13_cut_108 ?_
            refine z_lmul dX13_cut_109 ?_
            refine z_ldc2_w 100 dX13_cut_110 wg_2173 ?_
            refine z_ldiv dX13_cut_113 (by decide) ?_
            refine z_l2i dX13_cut_114 ?_
            refine z_goto 120 dX13_cut_115 (by decide) ?_
            have ee : ((if p2 = 0 then (if p0 < 0 then (-((((100 * (if p0 < 0 then (-p0) else p0)) + (100 - (I5 113 ((4 + p1).toNatClampNeg)))) - 1) / (100 - (I5 113 ((4 + p1).toNatClampNeg))))) else ((((100 * (if p0 < 0 then (-p0) else p0)) + (100 - (I5 113 ((4 + p1).toNatClampNeg)))) - 1) / (100 - (I5 113 ((4 + p1).toNatClampNeg))))) else ((((((if p0 < 0 then (-((((100 * (if p0 < 0 then (-p0) else p0)) + (100 - (I5 113 ((4 + p1).toNatClampNeg)))) - 1) / (100 - (I5 113 ((4 + p1).toNatClampNeg))))) else ((((100 * (if p0 < 0 then (-p0) else p0)) + (100 - (I5 113 ((4 + p1).toNatClampNeg)))) - 1) / (100 - (I5 113 ((4 + p1).toNatClampNeg))))) : Int32).toInt64) * (((100 - (I5 113 ((4 + p1).toNatClampNeg))) : Int32).toInt64)) / 100) : Int64).toInt32) : Int32) = ((((((if p0 < 0 then (-((((100 * (if p0 < 0 then (-p0) else p0)) + (100 - (I5 113 ((4 + p1).toNatClampNeg)))) - 1) / (100 - (I5 113 ((4 + p1).toNatClampNeg))))) else ((((100 * (if p0 < 0 then (-p0) else p0)) + (100 - (I5 113 ((4 + p1).toNatClampNeg)))) - 1) / (100 - (I5 113 ((4 + p1).toNatClampNeg))))) : Int32).toInt64) * (((100 - (I5 113 ((4 + p1).toNatClampNeg))) : Int32).toInt64)) / 100) : Int64).toInt32 := by rw [if_neg g15]
            rw [ee] at key16
            clear ee
            refine z_sub [] rfl ?_
            exact key16
        refine z_if_ge 95 dX13_cut_86 (by decide) (fun g13 => ?_) (fun g13 => ?_)
        · refine z_iload 4 dX13_cut_95 rfl ?_
          have ee : ((if p0 < 0 then (-((((100 * (if p0 < 0 then (-p0) else p0)) + (100 - (I5 113 ((4 + p1).toNatClampNeg)))) - 1) / (100 - (I5 113 ((4 + p1).toNatClampNeg))))) else ((((100 * (if p0 < 0 then (-p0) else p0)) + (100 - (I5 113 ((4 + p1).toNatClampNeg)))) - 1) / (100 - (I5 113 ((4 + p1).toNatClampNeg))))) : Int32) = ((((100 * (if p0 < 0 then (-p0) else p0)) + (100 - (I5 113 ((4 + p1).toNatClampNeg)))) - 1) / (100 - (I5 113 ((4 + p1).toNatClampNeg)))) := by rw [if_neg g13]
          rw [ee] at key14
          clear ee
          refine z_sub [1, 2] rfl ?_
          exact key14
        · refine z_iload 4 dX13_cut_89 rfl ?_
          refine z_ineg dX13_cut_91 ?_
          refine z_goto 97 dX13_cut_92 (by decide) ?_
          have ee : ((if p0 < 0 then (-((((100 * (if p0 < 0 then (-p0) else p0)) + (100 - (I5 113 ((4 + p1).toNatClampNeg)))) - 1) / (100 - (I5 113 ((4 + p1).toNatClampNeg))))) else ((((100 * (if p0 < 0 then (-p0) else p0)) + (100 - (I5 113 ((4 + p1).toNatClampNeg)))) - 1) / (100 - (I5 113 ((4 + p1).toNatClampNeg))))) : Int32) = (-((((100 * (if p0 < 0 then (-p0) else p0)) + (100 - (I5 113 ((4 + p1).toNatClampNeg)))) - 1) / (100 - (I5 113 ((4 + p1).toNatClampNeg))))) := by rw [if_pos g13]
          rw [ee] at key14
          clear ee
          refine z_sub [1, 2] rfl ?_
          exact key14
      refine z_if_ge 67 dX13_cut_59 (by decide) (fun g10 => ?_) (fun g10 => ?_)
      · refine z_iload_n 1 dX13_cut_67 rfl ?_
        have ee : ((if p0 < 0 then (-p0) else p0) : Int32) = p0 := by rw [if_neg g10]
        rw [ee] at key11
        clear ee
        refine z_sub [1, 3, 4] rfl ?_
        exact key11
      · refine z_iload_n 1 dX13_cut_62 rfl ?_
        refine z_ineg dX13_cut_63 ?_
        refine z_goto 68 dX13_cut_64 (by decide) ?_
        have ee : ((if p0 < 0 then (-p0) else p0) : Int32) = (-p0) := by rw [if_pos g10]
        rw [ee] at key11
        clear ee
        refine z_sub [1, 3, 4] rfl ?_
        exact key11
    · rw [if_pos g8] at h
      refine z_aload_n 0 dX13_cut_30 rfl ?_
      refine z_iload_n 1 dX13_cut_31 rfl ?_
      refine z_ldc_w (-99999) dX13_cut_32 wg_2172 ?_
      refine z_ldc_w 99999 dX13_cut_35 wg_2018 ?_
      refine z_callS0 (As := [.int p0, .int (-99999), .int 99999]) (st := [.ref (n0 + 59)]) dX13_cut_38 hy_X13_bounds wg_1797 wg_1798 (Nat.le_refl _) (Nat.le_of_ble_eq_true rfl) (RM0.mono h (fun vv I17 L18 h => ?_))
      obtain ⟨r19, rfl, h⟩ := h
      change Z n0 xX13_cut (d + 1) 0 0 41 [(0, .ref (n0 + 59)), (1, .int p0), (2, .int p1), (3, .int p2)] [.int r19, .ref (n0 + 59)] K I17 L18 (z_q0 K Q)
      refine z_callV0 (As := [.int r19]) (st := []) dX13_cut_41 hy_X13_refuseFar hL.1 hL.2.1 (by decide) wg_1820 wg_1822 wg_57 (Nat.le_refl _) (Nat.le_of_ble_eq_true rfl) (RM0.mono h (fun vv I20 L21 h => ?_))
      obtain ⟨r22, rfl, h⟩ := h
      change Z n0 xX13_cut (d + 1) 0 0 44 [(0, .ref (n0 + 59)), (1, .int p0), (2, .int p1), (3, .int p2)] [.int r22] K I20 L21 (z_q0 K Q)
      exact z_iret dX13_cut_44 rfl ⟨rfl, h⟩
  · rw [if_pos g4] at h
    refine z_aload_n 0 dX13_cut_10 rfl ?_
    refine z_bipush (-2) dX13_cut_11 (by decide) ?_
    refine z_callV0 (As := [.int (-2)]) (st := []) dX13_cut_13 hy_X13_refuseFar hL.1 hL.2.1 (by decide) wg_1820 wg_1822 wg_57 (Nat.le_refl _) (Nat.le_of_ble_eq_true rfl) (RM0.mono h (fun vv I23 L24 h => ?_))
    obtain ⟨r25, rfl, h⟩ := h
    change Z n0 xX13_cut (d + 1) 0 0 16 [(0, .ref (n0 + 59)), (1, .int p0), (2, .int p1), (3, .int p2)] [.int r25] K I23 L24 (z_q0 K Q)
    exact z_iret dX13_cut_16 rfl ⟨rfl, h⟩
