theorem dX13_readSum_0 : decode cX13_readSum 0 = .ok (.aload_n 0, 1) := by decide +kernel
theorem dX13_readSum_1 : decode cX13_readSum 1 = .ok (.iconst 0, 1) := by decide +kernel
theorem dX13_readSum_2 : decode cX13_readSum 2 = .ok (.putfield 375, 3) := by decide +kernel
theorem dX13_readSum_5 : decode cX13_readSum 5 = .ok (.aload_n 0, 1) := by decide +kernel
theorem dX13_readSum_6 : decode cX13_readSum 6 = .ok (.iconst 0, 1) := by decide +kernel
theorem dX13_readSum_7 : decode cX13_readSum 7 = .ok (.putfield 361, 3) := by decide +kernel
theorem dX13_readSum_10 : decode cX13_readSum 10 = .ok (.aload_n 0, 1) := by decide +kernel
theorem dX13_readSum_11 : decode cX13_readSum 11 = .ok (.iconst 0, 1) := by decide +kernel
theorem dX13_readSum_12 : decode cX13_readSum 12 = .ok (.putfield 392, 3) := by decide +kernel
theorem dX13_readSum_15 : decode cX13_readSum 15 = .ok (.aload_n 0, 1) := by decide +kernel
theorem dX13_readSum_16 : decode cX13_readSum 16 = .ok (.iconst 0, 1) := by decide +kernel
theorem dX13_readSum_17 : decode cX13_readSum 17 = .ok (.putfield 426, 3) := by decide +kernel
theorem dX13_readSum_20 : decode cX13_readSum 20 = .ok (.iconst 1, 1) := by decide +kernel
theorem dX13_readSum_21 : decode cX13_readSum 21 = .ok (.istore_n 1, 1) := by decide +kernel
theorem dX13_readSum_22 : decode cX13_readSum 22 = .ok (.aload_n 0, 1) := by decide +kernel
theorem dX13_readSum_23 : decode cX13_readSum 23 = .ok (.getfield 395, 3) := by decide +kernel
theorem dX13_readSum_26 : decode cX13_readSum 26 = .ok (.ifCond .ne 29, 3) := by decide +kernel
theorem dX13_readSum_29 : decode cX13_readSum 29 = .ok (.aload_n 0, 1) := by decide +kernel
theorem dX13_readSum_30 : decode cX13_readSum 30 = .ok (.getfield 426, 3) := by decide +kernel
theorem dX13_readSum_33 : decode cX13_readSum 33 = .ok (.ifCond .ne 22, 3) := by decide +kernel
theorem dX13_readSum_36 : decode cX13_readSum 36 = .ok (.iload_n 1, 1) := by decide +kernel
theorem dX13_readSum_37 : decode cX13_readSum 37 = .ok (.ifCond .eq 10, 3) := by decide +kernel
theorem dX13_readSum_40 : decode cX13_readSum 40 = .ok (.aload_n 0, 1) := by decide +kernel
theorem dX13_readSum_41 : decode cX13_readSum 41 = .ok (.invokevirtual 429, 3) := by decide +kernel
theorem dX13_readSum_44 : decode cX13_readSum 44 = .ok (.goto 7, 3) := by decide +kernel
theorem dX13_readSum_47 : decode cX13_readSum 47 = .ok (.aload_n 0, 1) := by decide +kernel
theorem dX13_readSum_48 : decode cX13_readSum 48 = .ok (.invokevirtual 433, 3) := by decide +kernel
theorem dX13_readSum_51 : decode cX13_readSum 51 = .ok (.istore_n 1, 1) := by decide +kernel
theorem dX13_readSum_52 : decode cX13_readSum 52 = .ok (.goto (-30), 3) := by decide +kernel
theorem dX13_readSum_55 : decode cX13_readSum 55 = .ok (.aload_n 0, 1) := by decide +kernel
theorem dX13_readSum_56 : decode cX13_readSum 56 = .ok (.getfield 395, 3) := by decide +kernel
theorem dX13_readSum_59 : decode cX13_readSum 59 = .ok (.ifCond .eq 7, 3) := by decide +kernel
theorem dX13_readSum_62 : decode cX13_readSum 62 = .ok (.iconst 0, 1) := by decide +kernel
theorem dX13_readSum_63 : decode cX13_readSum 63 = .ok (.goto 10, 3) := by decide +kernel
theorem dX13_readSum_66 : decode cX13_readSum 66 = .ok (.aload_n 0, 1) := by decide +kernel
theorem dX13_readSum_67 : decode cX13_readSum 67 = .ok (.getfield 86, 3) := by decide +kernel
theorem dX13_readSum_70 : decode cX13_readSum 70 = .ok (.iconst 0, 1) := by decide +kernel
theorem dX13_readSum_71 : decode cX13_readSum 71 = .ok (.laload, 1) := by decide +kernel
theorem dX13_readSum_72 : decode cX13_readSum 72 = .ok (.l2i, 1) := by decide +kernel
theorem dX13_readSum_73 : decode cX13_readSum 73 = .ok (.ireturn, 1) := by decide +kernel
set_option maxRecDepth 100000 in
set_option maxHeartbeats 4000000 in
theorem wp_X13_readSum {n0 d : Nat} {K : z_K} {I : z_I} {L : z_L} {Q : z_q}  (hL : MLay K) (h : Z n0 xX13_readSum (d + 1) 0 0 22 [(0, .ref (n0 + 59)), (1, .int 1)] [] K (zI (zI (zI (zI I 59 41 0) 59 43 0) 59 44 0) 59 45 0) L (z_q0 K Q)) : RM0 n0 xX13_readSum (d + 1) [.ref (n0 + 59)] K I L Q := by
  refine z_entry0 (by decide) (Nat.le_of_ble_eq_true rfl) ?_
  change Z n0 xX13_readSum (d + 1) 0 0 0 [(0, .ref (n0 + 59))] [] K I L (z_q0 K Q)
  refine z_aload_n 0 dX13_readSum_0 rfl ?_
  refine z_iconst 0 dX13_readSum_1 (by decide) ?_
  refine fp_13_375 rfl dX13_readSum_2 hL.1 hL.2.1 ?_
  refine z_aload_n 0 dX13_readSum_5 rfl ?_
  refine z_iconst 0 dX13_readSum_6 (by decide) ?_
  refine fp_13_361 rfl dX13_readSum_7 hL.1 hL.2.1 ?_
  refine z_aload_n 0 dX13_readSum_10 rfl ?_
  refine z_iconst 0 dX13_readSum_11 (by decide) ?_
  refine fp_13_392 rfl dX13_readSum_12 hL.1 hL.2.1 ?_
  refine z_aload_n 0 dX13_readSum_15 rfl ?_
  refine z_iconst 0 dX13_readSum_16 (by decide) ?_
  refine fp_13_426 rfl dX13_readSum_17 hL.1 hL.2.1 (Or.inl rfl) ?_
  refine z_iconst 1 dX13_readSum_20 (by decide) ?_
  refine z_istore_n [1, 0] [(0, .ref (n0 + 59)), (1, .int 1)] dX13_readSum_21 (by decide) rfl ?_
  exact h
set_option maxRecDepth 100000 in
set_option maxHeartbeats 4000000 in
theorem wp_X13_readSum_22 {n0 d : Nat} {rc rs : Nat} {K : z_K} {I : z_I} {L : z_L} {Q : z_q} {a1 : Int32} (hL : MLay K) (h : (if ((I 59 33) : Int32) = 0 then (if ((I 59 45) : Int32) = 0 then (if a1 = 0 then RM0 n0 xX13_readSign d [.ref (n0 + 59)] K I L (fun vv I8 L9 => ∃ r10 : Int32, vv = some (.int r10) ∧ Z n0 xX13_readSum (d + 1) rc rs 22 [(0, .ref (n0 + 59)), (1, .int r10)] [] K I8 L9 (z_q0 K Q)) else RM0 n0 xX13_readUnit d [.ref (n0 + 59)] K I L (fun vv I11 L12 => ∃ r13 : Int32, vv = some (.int r13) ∧ Z n0 xX13_readSum (d + 1) rc rs 22 [(0, .ref (n0 + 59)), (1, .int r13)] [] K I11 L12 (z_q0 K Q))) else Q (some (.int (if ((I 59 33) : Int32) = 0 then ((L 85 0) : Int64).toInt32 else 0))) I L) else Q (some (.int (if ((I 59 33) : Int32) = 0 then ((L 85 0) : Int64).toInt32 else 0))) I L)) : Z n0 xX13_readSum (d + 1) rc rs 22 [(0, .ref (n0 + 59)), (1, .int a1)] [] K I L (z_q0 K Q) := by
  refine z_aload_n 0 dX13_readSum_22 rfl ?_
  refine fg_13_395 (I 59 33) rfl dX13_readSum_23 hL.1 hL.2.1 rfl ?_
  refine z_if_ne 55 dX13_readSum_26 (by decide) (fun g1 => ?_) (fun g1 => ?_)
  · rw [if_neg g1] at h
    refine z_aload_n 0 dX13_readSum_55 rfl ?_
    refine fg_13_395 (I 59 33) rfl dX13_readSum_56 hL.1 hL.2.1 rfl ?_
    have key3 : Z n0 xX13_readSum (d + 1) rc rs 73 [] [.int (if ((I 59 33) : Int32) = 0 then ((L 85 0) : Int64).toInt32 else 0)] K I L (z_q0 K Q) := by
      exact z_iret dX13_readSum_73 rfl ⟨rfl, h⟩
    refine z_if_eq 66 dX13_readSum_59 (by decide) (fun g2 => ?_) (fun g2 => ?_)
    · refine z_aload_n 0 dX13_readSum_66 rfl ?_
      refine fg_13_86 (some 85) rfl dX13_readSum_67 hL.1 hL.2.1 (ma_40 hL).1 ?_
      refine z_iconst 0 dX13_readSum_70 (by decide) ?_
      refine z_lald (L 85 0) dX13_readSum_71 (ma_40 hL).2.1 (ma_40 hL).2.2 (by unfold vp_in; decide) rfl ?_
      refine z_l2i dX13_readSum_72 ?_
      have ee : ((if ((I 59 33) : Int32) = 0 then ((L 85 0) : Int64).toInt32 else 0) : Int32) = ((L 85 0) : Int64).toInt32 := by rw [if_pos g2]
      rw [ee] at key3
      clear ee
      refine z_sub [] rfl ?_
      exact key3
    · refine z_iconst 0 dX13_readSum_62 (by decide) ?_
      refine z_goto 73 dX13_readSum_63 (by decide) ?_
      have ee : ((if ((I 59 33) : Int32) = 0 then ((L 85 0) : Int64).toInt32 else 0) : Int32) = 0 := by rw [if_neg g2]
      rw [ee] at key3
      clear ee
      refine z_sub [] rfl ?_
      exact key3
  · rw [if_pos g1] at h
    refine z_aload_n 0 dX13_readSum_29 rfl ?_
    refine fg_13_426 (I 59 45) rfl dX13_readSum_30 hL.1 hL.2.1 rfl ?_
    refine z_if_ne 55 dX13_readSum_33 (by decide) (fun g4 => ?_) (fun g4 => ?_)
    · rw [if_neg g4] at h
      refine z_aload_n 0 dX13_readSum_55 rfl ?_
      refine fg_13_395 (I 59 33) rfl dX13_readSum_56 hL.1 hL.2.1 rfl ?_
      have key6 : Z n0 xX13_readSum (d + 1) rc rs 73 [] [.int (if ((I 59 33) : Int32) = 0 then ((L 85 0) : Int64).toInt32 else 0)] K I L (z_q0 K Q) := by
        exact z_iret dX13_readSum_73 rfl ⟨rfl, h⟩
      refine z_if_eq 66 dX13_readSum_59 (by decide) (fun g5 => ?_) (fun g5 => ?_)
      · refine z_aload_n 0 dX13_readSum_66 rfl ?_
        refine fg_13_86 (some 85) rfl dX13_readSum_67 hL.1 hL.2.1 (ma_40 hL).1 ?_
        refine z_iconst 0 dX13_readSum_70 (by decide) ?_
        refine z_lald (L 85 0) dX13_readSum_71 (ma_40 hL).2.1 (ma_40 hL).2.2 (by unfold vp_in; decide) rfl ?_
        refine z_l2i dX13_readSum_72 ?_
        have ee : ((if ((I 59 33) : Int32) = 0 then ((L 85 0) : Int64).toInt32 else 0) : Int32) = ((L 85 0) : Int64).toInt32 := by rw [if_pos g5]
        rw [ee] at key6
        clear ee
        refine z_sub [] rfl ?_
        exact key6
      · refine z_iconst 0 dX13_readSum_62 (by decide) ?_
        refine z_goto 73 dX13_readSum_63 (by decide) ?_
        have ee : ((if ((I 59 33) : Int32) = 0 then ((L 85 0) : Int64).toInt32 else 0) : Int32) = 0 := by rw [if_neg g5]
        rw [ee] at key6
        clear ee
        refine z_sub [] rfl ?_
        exact key6
    · rw [if_pos g4] at h
      refine z_iload_n 1 dX13_readSum_36 rfl ?_
      refine z_if_eq 47 dX13_readSum_37 (by decide) (fun g7 => ?_) (fun g7 => ?_)
      · rw [if_pos g7] at h
        refine z_aload_n 0 dX13_readSum_47 rfl ?_
        refine z_callV0 (As := []) (st := []) dX13_readSum_48 hy_X13_readSign hL.1 hL.2.1 (by decide) wg_1889 wg_1891 wg_67 (Nat.le_refl _) (Nat.le_of_ble_eq_true rfl) (RM0.mono h (fun vv I8 L9 h => ?_))
        obtain ⟨r10, rfl, h⟩ := h
        change Z n0 xX13_readSum (d + 1) rc rs 51 [(0, .ref (n0 + 59)), (1, .int a1)] [.int r10] K I8 L9 (z_q0 K Q)
        refine z_istore_n [1, 0] [(0, .ref (n0 + 59)), (1, .int r10)] dX13_readSum_51 (by decide) rfl ?_
        refine z_goto 22 dX13_readSum_52 (by decide) ?_
        exact h
      · rw [if_neg g7] at h
        refine z_aload_n 0 dX13_readSum_40 rfl ?_
        refine z_callV0 (As := []) (st := []) dX13_readSum_41 hy_X13_readUnit hL.1 hL.2.1 (by decide) wg_1867 wg_1869 wg_63 (Nat.le_refl _) (Nat.le_of_ble_eq_true rfl) (RM0.mono h (fun vv I11 L12 h => ?_))
        obtain ⟨r13, rfl, h⟩ := h
        change Z n0 xX13_readSum (d + 1) rc rs 44 [(0, .ref (n0 + 59)), (1, .int a1)] [.int r13] K I11 L12 (z_q0 K Q)
        refine z_goto 51 dX13_readSum_44 (by decide) ?_
        refine z_istore_n [1, 0] [(0, .ref (n0 + 59)), (1, .int r13)] dX13_readSum_51 (by decide) rfl ?_
        refine z_goto 22 dX13_readSum_52 (by decide) ?_
        exact h
theorem dX13_readText_0 : decode cX13_readText 0 = .ok (.aload_n 0, 1) := by decide +kernel
theorem dX13_readText_1 : decode cX13_readText 1 = .ok (.iconst 0, 1) := by decide +kernel
theorem dX13_readText_2 : decode cX13_readText 2 = .ok (.putfield 348, 3) := by decide +kernel
theorem dX13_readText_5 : decode cX13_readText 5 = .ok (.aload_n 0, 1) := by decide +kernel
theorem dX13_readText_6 : decode cX13_readText 6 = .ok (.iconst 0, 1) := by decide +kernel
theorem dX13_readText_7 : decode cX13_readText 7 = .ok (.putfield 395, 3) := by decide +kernel
theorem dX13_readText_10 : decode cX13_readText 10 = .ok (.aload_n 0, 1) := by decide +kernel
theorem dX13_readText_11 : decode cX13_readText 11 = .ok (.iconst 0, 1) := by decide +kernel
theorem dX13_readText_12 : decode cX13_readText 12 = .ok (.putfield 368, 3) := by decide +kernel
theorem dX13_readText_15 : decode cX13_readText 15 = .ok (.aload_n 0, 1) := by decide +kernel
theorem dX13_readText_16 : decode cX13_readText 16 = .ok (.iconst 0, 1) := by decide +kernel
theorem dX13_readText_17 : decode cX13_readText 17 = .ok (.putfield 405, 3) := by decide +kernel
theorem dX13_readText_20 : decode cX13_readText 20 = .ok (.aload_n 0, 1) := by decide +kernel
theorem dX13_readText_21 : decode cX13_readText 21 = .ok (.iconst 0, 1) := by decide +kernel
theorem dX13_readText_22 : decode cX13_readText 22 = .ok (.putfield 414, 3) := by decide +kernel
theorem dX13_readText_25 : decode cX13_readText 25 = .ok (.aload_n 0, 1) := by decide +kernel
theorem dX13_readText_26 : decode cX13_readText 26 = .ok (.aload_n 0, 1) := by decide +kernel
theorem dX13_readText_27 : decode cX13_readText 27 = .ok (.invokevirtual 436, 3) := by decide +kernel
theorem dX13_readText_30 : decode cX13_readText 30 = .ok (.putfield 439, 3) := by decide +kernel
theorem dX13_readText_33 : decode cX13_readText 33 = .ok (.aload_n 0, 1) := by decide +kernel
theorem dX13_readText_34 : decode cX13_readText 34 = .ok (.aload_n 0, 1) := by decide +kernel
theorem dX13_readText_35 : decode cX13_readText 35 = .ok (.getfield 395, 3) := by decide +kernel
theorem dX13_readText_38 : decode cX13_readText 38 = .ok (.ifCond .ne 12, 3) := by decide +kernel
theorem dX13_readText_41 : decode cX13_readText 41 = .ok (.aload_n 0, 1) := by decide +kernel
theorem dX13_readText_42 : decode cX13_readText 42 = .ok (.invokevirtual 398, 3) := by decide +kernel
theorem dX13_readText_45 : decode cX13_readText 45 = .ok (.bipush 44, 2) := by decide +kernel
theorem dX13_readText_47 : decode cX13_readText 47 = .ok (.if_icmp .eq 7, 3) := by decide +kernel
theorem dX13_readText_50 : decode cX13_readText 50 = .ok (.iconst 1, 1) := by decide +kernel
theorem dX13_readText_51 : decode cX13_readText 51 = .ok (.goto 4, 3) := by decide +kernel
theorem dX13_readText_54 : decode cX13_readText 54 = .ok (.iconst 0, 1) := by decide +kernel
theorem dX13_readText_55 : decode cX13_readText 55 = .ok (.putfield 395, 3) := by decide +kernel
theorem dX13_readText_58 : decode cX13_readText 58 = .ok (.aload_n 0, 1) := by decide +kernel
theorem dX13_readText_59 : decode cX13_readText 59 = .ok (.getfield 395, 3) := by decide +kernel
theorem dX13_readText_62 : decode cX13_readText 62 = .ok (.ifCond .ne 48, 3) := by decide +kernel
theorem dX13_readText_65 : decode cX13_readText 65 = .ok (.aload_n 0, 1) := by decide +kernel
theorem dX13_readText_66 : decode cX13_readText 66 = .ok (.dup, 1) := by decide +kernel
theorem dX13_readText_67 : decode cX13_readText 67 = .ok (.getfield 348, 3) := by decide +kernel
theorem dX13_readText_70 : decode cX13_readText 70 = .ok (.iconst 1, 1) := by decide +kernel
theorem dX13_readText_71 : decode cX13_readText 71 = .ok (.iadd, 1) := by decide +kernel
theorem dX13_readText_72 : decode cX13_readText 72 = .ok (.putfield 348, 3) := by decide +kernel
theorem dX13_readText_75 : decode cX13_readText 75 = .ok (.aload_n 0, 1) := by decide +kernel
theorem dX13_readText_76 : decode cX13_readText 76 = .ok (.aload_n 0, 1) := by decide +kernel
theorem dX13_readText_77 : decode cX13_readText 77 = .ok (.invokevirtual 436, 3) := by decide +kernel
theorem dX13_readText_80 : decode cX13_readText 80 = .ok (.putfield 442, 3) := by decide +kernel
theorem dX13_readText_83 : decode cX13_readText 83 = .ok (.aload_n 0, 1) := by decide +kernel
theorem dX13_readText_84 : decode cX13_readText 84 = .ok (.aload_n 0, 1) := by decide +kernel
theorem dX13_readText_85 : decode cX13_readText 85 = .ok (.getfield 395, 3) := by decide +kernel
theorem dX13_readText_88 : decode cX13_readText 88 = .ok (.ifCond .ne 14, 3) := by decide +kernel
theorem dX13_readText_91 : decode cX13_readText 91 = .ok (.aload_n 0, 1) := by decide +kernel
theorem dX13_readText_92 : decode cX13_readText 92 = .ok (.getfield 348, 3) := by decide +kernel
theorem dX13_readText_95 : decode cX13_readText 95 = .ok (.aload_n 0, 1) := by decide +kernel
theorem dX13_readText_96 : decode cX13_readText 96 = .ok (.getfield 351, 3) := by decide +kernel
theorem dX13_readText_99 : decode cX13_readText 99 = .ok (.if_icmp .ge 7, 3) := by decide +kernel
theorem dX13_readText_102 : decode cX13_readText 102 = .ok (.iconst 1, 1) := by decide +kernel
theorem dX13_readText_103 : decode cX13_readText 103 = .ok (.goto 4, 3) := by decide +kernel
theorem dX13_readText_106 : decode cX13_readText 106 = .ok (.iconst 0, 1) := by decide +kernel
theorem dX13_readText_107 : decode cX13_readText 107 = .ok (.putfield 395, 3) := by decide +kernel
theorem dX13_readText_110 : decode cX13_readText 110 = .ok (.return_, 1) := by decide +kernel
set_option maxRecDepth 100000 in
set_option maxHeartbeats 4000000 in
theorem wp_X13_readText {n0 d : Nat} {K : z_K} {I : z_I} {L : z_L} {Q : z_q}  (hL : MLay K) (h : RM0 n0 xX13_readSum d [.ref (n0 + 59)] K (zI (zI (zI (zI (zI I 59 31 0) 59 33 0) 59 34 0) 59 38 0) 59 39 0) L (fun vv I1 L2 => ∃ r3 : Int32, vv = some (.int r3) ∧ (if ((I1 59 33) : Int32) = 0 then RM0 n0 xX13_here d [.ref (n0 + 59)] K (zI I1 59 46 r3) L2 (fun vv I12 L13 => ∃ r14 : Int32, vv = some (.int r14) ∧ (if (((if r14 = 44 then 0 else 1)) : Int32) = 0 then RM0 n0 xX13_readSum d [.ref (n0 + 59)] K (zI (zI I12 59 33 (if r14 = 44 then 0 else 1)) 59 31 ((I12 59 31) + 1)) L13 (fun vv I18 L19 => ∃ r20 : Int32, vv = some (.int r20) ∧ Q none (zI (zI I18 59 47 r20) 59 33 (if ((I18 59 33) : Int32) = 0 then if ((I18 59 31) : Int32) < (I18 59 30) then 1 else 0 else 1)) L19) else Q none (zI I12 59 33 (if r14 = 44 then 0 else 1)) L13)) else (if ((1) : Int32) = 0 then RM0 n0 xX13_readSum d [.ref (n0 + 59)] K (zI (zI (zI I1 59 46 r3) 59 33 1) 59 31 ((I1 59 31) + 1)) L2 (fun vv I6 L7 => ∃ r8 : Int32, vv = some (.int r8) ∧ Q none (zI (zI I6 59 47 r8) 59 33 (if ((I6 59 33) : Int32) = 0 then if ((I6 59 31) : Int32) < (I6 59 30) then 1 else 0 else 1)) L7) else Q none (zI (zI I1 59 46 r3) 59 33 1) L2)))) : RM0 n0 xX13_readText (d + 1) [.ref (n0 + 59)] K I L Q := by
  refine z_entry0 (by decide) (Nat.le_of_ble_eq_true rfl) ?_
  change Z n0 xX13_readText (d + 1) 0 0 0 [(0, .ref (n0 + 59))] [] K I L (z_q0 K Q)
  refine z_aload_n 0 dX13_readText_0 rfl ?_
  refine z_iconst 0 dX13_readText_1 (by decide) ?_
  refine fp_13_348 rfl dX13_readText_2 hL.1 hL.2.1 ?_
  refine z_aload_n 0 dX13_readText_5 rfl ?_
  refine z_iconst 0 dX13_readText_6 (by decide) ?_
  refine fp_13_395 rfl dX13_readText_7 hL.1 hL.2.1 (Or.inl rfl) ?_
  refine z_aload_n 0 dX13_readText_10 rfl ?_
  refine z_iconst 0 dX13_readText_11 (by decide) ?_
  refine fp_13_368 rfl dX13_readText_12 hL.1 hL.2.1 (Or.inl rfl) ?_
  refine z_aload_n 0 dX13_readText_15 rfl ?_
  refine z_iconst 0 dX13_readText_16 (by decide) ?_
  refine fp_13_405 rfl dX13_readText_17 hL.1 hL.2.1 ?_
  refine z_aload_n 0 dX13_readText_20 rfl ?_
  refine z_iconst 0 dX13_readText_21 (by decide) ?_
  refine fp_13_414 rfl dX13_readText_22 hL.1 hL.2.1 ?_
  refine z_aload_n 0 dX13_readText_25 rfl ?_
  refine z_aload_n 0 dX13_readText_26 rfl ?_
  refine z_callV0 (As := []) (st := [.ref (n0 + 59)]) dX13_readText_27 hy_X13_readSum hL.1 hL.2.1 (by decide) wg_1863 wg_1865 wg_62 (Nat.le_refl _) (Nat.le_of_ble_eq_true rfl) (RM0.mono h (fun vv I1 L2 h => ?_))
  obtain ⟨r3, rfl, h⟩ := h
  change Z n0 xX13_readText (d + 1) 0 0 30 [(0, .ref (n0 + 59))] [.int r3, .ref (n0 + 59)] K I1 L2 (z_q0 K Q)
  refine fp_13_439 rfl dX13_readText_30 hL.1 hL.2.1 ?_
  refine z_aload_n 0 dX13_readText_33 rfl ?_
  refine z_aload_n 0 dX13_readText_34 rfl ?_
  refine fg_13_395 (I1 59 33) rfl dX13_readText_35 hL.1 hL.2.1 rfl ?_
  refine z_if_ne 50 dX13_readText_38 (by decide) (fun g4 => ?_) (fun g4 => ?_)
  · rw [if_neg g4] at h
    refine z_iconst 1 dX13_readText_50 (by decide) ?_
    refine z_goto 55 dX13_readText_51 (by decide) ?_
    refine fp_13_395 rfl dX13_readText_55 hL.1 hL.2.1 (Or.inr rfl) ?_
    refine z_aload_n 0 dX13_readText_58 rfl ?_
    refine fg_13_395 (1) rfl dX13_readText_59 hL.1 hL.2.1 rfl ?_
    refine z_if_ne 110 dX13_readText_62 (by decide) (fun g5 => ?_) (fun g5 => ?_)
    · rw [if_neg g5] at h
      exact z_vret dX13_readText_110 rfl ⟨rfl, h⟩
    · rw [if_pos g5] at h
      refine z_aload_n 0 dX13_readText_65 rfl ?_
      refine z_dup dX13_readText_66 rfl ?_
      refine fg_13_348 (I1 59 31) rfl dX13_readText_67 hL.1 hL.2.1 rfl ?_
      refine z_iconst 1 dX13_readText_70 (by decide) ?_
      refine z_iadd dX13_readText_71 ?_
      refine fp_13_348 rfl dX13_readText_72 hL.1 hL.2.1 ?_
      refine z_aload_n 0 dX13_readText_75 rfl ?_
      refine z_aload_n 0 dX13_readText_76 rfl ?_
      refine z_callV0 (As := []) (st := [.ref (n0 + 59)]) dX13_readText_77 hy_X13_readSum hL.1 hL.2.1 (by decide) wg_1863 wg_1865 wg_62 (Nat.le_refl _) (Nat.le_of_ble_eq_true rfl) (RM0.mono h (fun vv I6 L7 h => ?_))
      obtain ⟨r8, rfl, h⟩ := h
      change Z n0 xX13_readText (d + 1) 0 0 80 [(0, .ref (n0 + 59))] [.int r8, .ref (n0 + 59)] K I6 L7 (z_q0 K Q)
      refine fp_13_442 rfl dX13_readText_80 hL.1 hL.2.1 ?_
      refine z_aload_n 0 dX13_readText_83 rfl ?_
      refine z_aload_n 0 dX13_readText_84 rfl ?_
      refine fg_13_395 (I6 59 33) rfl dX13_readText_85 hL.1 hL.2.1 rfl ?_
      have key11 : Z n0 xX13_readText (d + 1) 0 0 107 [] [.int (if ((I6 59 33) : Int32) = 0 then if ((I6 59 31) : Int32) < (I6 59 30) then 1 else 0 else 1), .ref (n0 + 59)] K (zI I6 59 47 r8) L7 (z_q0 K Q) := by
        refine fp_13_395 rfl dX13_readText_107 hL.1 hL.2.1 (z_bite (by repeat' (first | exact Or.inl rfl | exact Or.inr rfl | split))) ?_
        exact z_vret dX13_readText_110 rfl ⟨rfl, h⟩
      refine z_if_ne 102 dX13_readText_88 (by decide) (fun g9 => ?_) (fun g9 => ?_)
      · refine z_iconst 1 dX13_readText_102 (by decide) ?_
        refine z_goto 107 dX13_readText_103 (by decide) ?_
        have ee : ((if ((I6 59 33) : Int32) = 0 then if ((I6 59 31) : Int32) < (I6 59 30) then 1 else 0 else 1) : Int32) = 1 := by rw [if_neg g9]
        rw [ee] at key11
        clear ee
        refine z_sub [] rfl ?_
        exact key11
      · refine z_aload_n 0 dX13_readText_91 rfl ?_
        refine fg_13_348 (I6 59 31) rfl dX13_readText_92 hL.1 hL.2.1 rfl ?_
        refine z_aload_n 0 dX13_readText_95 rfl ?_
        refine fg_13_351 (I6 59 30) rfl dX13_readText_96 hL.1 hL.2.1 rfl ?_
        refine z_icmp_ge 106 dX13_readText_99 (by decide) (fun g10 => ?_) (fun g10 => ?_)
        · refine z_iconst 0 dX13_readText_106 (by decide) ?_
          have ee : ((if ((I6 59 33) : Int32) = 0 then if ((I6 59 31) : Int32) < (I6 59 30) then 1 else 0 else 1) : Int32) = 0 := by rw [if_pos g9, if_neg g10]
          rw [ee] at key11
          clear ee
          refine z_sub [] rfl ?_
          exact key11
        · refine z_iconst 1 dX13_readText_102 (by decide) ?_
          refine z_goto 107 dX13_readText_103 (by decide) ?_
          have ee : ((if ((I6 59 33) : Int32) = 0 then if ((I6 59 31) : Int32) < (I6 59 30) then 1 else 0 else 1) : Int32) = 1 := by rw [if_pos g9, if_pos g10]
          rw [ee] at key11
          clear ee
          refine z_sub [] rfl ?_
          exact key11
  · rw [if_pos g4] at h
    refine z_aload_n 0 dX13_readText_41 rfl ?_
    refine z_callV0 (As := []) (st := [.ref (n0 + 59)]) dX13_readText_42 hy_X13_here hL.1 hL.2.1 (by decide) wg_1871 wg_1873 wg_64 (Nat.le_refl _) (Nat.le_of_ble_eq_true rfl) (RM0.mono h (fun vv I12 L13 h => ?_))
    obtain ⟨r14, rfl, h⟩ := h
    change Z n0 xX13_readText (d + 1) 0 0 45 [(0, .ref (n0 + 59))] [.int r14, .ref (n0 + 59)] K I12 L13 (z_q0 K Q)
    refine z_bipush 44 dX13_readText_45 (by decide) ?_
    have key16 : Z n0 xX13_readText (d + 1) 0 0 55 [(0, .ref (n0 + 59))] [.int (if r14 = 44 then 0 else 1), .ref (n0 + 59)] K I12 L13 (z_q0 K Q) := by
      refine fp_13_395 rfl dX13_readText_55 hL.1 hL.2.1 (z_bite (by repeat' (first | exact Or.inl rfl | exact Or.inr rfl | split))) ?_
      refine z_aload_n 0 dX13_readText_58 rfl ?_
      refine fg_13_395 ((if r14 = 44 then 0 else 1)) rfl dX13_readText_59 hL.1 hL.2.1 rfl ?_
      refine z_if_ne 110 dX13_readText_62 (by decide) (fun g17 => ?_) (fun g17 => ?_)
      · rw [if_neg g17] at h
        exact z_vret dX13_readText_110 rfl ⟨rfl, h⟩
      · rw [if_pos g17] at h
        refine z_aload_n 0 dX13_readText_65 rfl ?_
        refine z_dup dX13_readText_66 rfl ?_
        refine fg_13_348 (I12 59 31) rfl dX13_readText_67 hL.1 hL.2.1 rfl ?_
        refine z_iconst 1 dX13_readText_70 (by decide) ?_
        refine z_iadd dX13_readText_71 ?_
        refine fp_13_348 rfl dX13_readText_72 hL.1 hL.2.1 ?_
        refine z_aload_n 0 dX13_readText_75 rfl ?_
        refine z_aload_n 0 dX13_readText_76 rfl ?_
        refine z_callV0 (As := []) (st := [.ref (n0 + 59)]) dX13_readText_77 hy_X13_readSum hL.1 hL.2.1 (by decide) wg_1863 wg_1865 wg_62 (Nat.le_refl _) (Nat.le_of_ble_eq_true rfl) (RM0.mono h (fun vv I18 L19 h => ?_))
        obtain ⟨r20, rfl, h⟩ := h
        change Z n0 xX13_readText (d + 1) 0 0 80 [(0, .ref (n0 + 59))] [.int r20, .ref (n0 + 59)] K I18 L19 (z_q0 K Q)
        refine fp_13_442 rfl dX13_readText_80 hL.1 hL.2.1 ?_
        refine z_aload_n 0 dX13_readText_83 rfl ?_
        refine z_aload_n 0 dX13_readText_84 rfl ?_
        refine fg_13_395 (I18 59 33) rfl dX13_readText_85 hL.1 hL.2.1 rfl ?_
        have key23 : Z n0 xX13_readText (d + 1) 0 0 107 [] [.int (if ((I18 59 33) : Int32) = 0 then if ((I18 59 31) : Int32) < (I18 59 30) then 1 else 0 else 1), .ref (n0 + 59)] K (zI I18 59 47 r20) L19 (z_q0 K Q) := by
          refine fp_13_395 rfl dX13_readText_107 hL.1 hL.2.1 (z_bite (by repeat' (first | exact Or.inl rfl | exact Or.inr rfl | split))) ?_
          exact z_vret dX13_readText_110 rfl ⟨rfl, h⟩
        refine z_if_ne 102 dX13_readText_88 (by decide) (fun g21 => ?_) (fun g21 => ?_)
        · refine z_iconst 1 dX13_readText_102 (by decide) ?_
          refine z_goto 107 dX13_readText_103 (by decide) ?_
          have ee : ((if ((I18 59 33) : Int32) = 0 then if ((I18 59 31) : Int32) < (I18 59 30) then 1 else 0 else 1) : Int32) = 1 := by rw [if_neg g21]
          rw [ee] at key23
          clear ee
          refine z_sub [] rfl ?_
          exact key23
        · refine z_aload_n 0 dX13_readText_91 rfl ?_
          refine fg_13_348 (I18 59 31) rfl dX13_readText_92 hL.1 hL.2.1 rfl ?_
          refine z_aload_n 0 dX13_readText_95 rfl ?_
          refine fg_13_351 (I18 59 30) rfl dX13_readText_96 hL.1 hL.2.1 rfl ?_
          refine z_icmp_ge 106 dX13_readText_99 (by decide) (fun g22 => ?_) (fun g22 => ?_)
          · refine z_iconst 0 dX13_readText_106 (by decide) ?_
            have ee : ((if ((I18 59 33) : Int32) = 0 then if ((I18 59 31) : Int32) < (I18 59 30) then 1 else 0 else 1) : Int32) = 0 := by rw [if_pos g21, if_neg g22]
            rw [ee] at key23
            clear ee
            refine z_sub [] rfl ?_
            exact key23
          · refine z_iconst 1 dX13_readText_102 (by decide) ?_
            refine z_goto 107 dX13_readText_103 (by decide) ?_
            have ee : ((if ((I18 59 33) : Int32) = 0 then if ((I18 59 31) : Int32) < (I18 59 30) then 1 else 0 else 1) : Int32) = 1 := by rw [if_pos g21, if_pos g22]
            rw [ee] at key23
            clear ee
            refine z_sub [] rfl ?_
            exact key23
    refine z_icmp_eq 54 dX13_readText_47 (by decide) (fun g15 => ?_) (fun g15 => ?_)
    · refine z_iconst 0 dX13_readText_54 (by decide) ?_
      have ee : ((if r14 = 44 then 0 else 1) : Int32) = 0 := by rw [if_pos g15]
      rw [ee] at key16
      clear ee
      exact key16
    · refine z_iconst 1 dX13_readText_50 (by decide) ?_
      refine z_goto 55 dX13_readText_51 (by decide) ?_
      have ee : ((if r14 = 44 then 0 else 1) : Int32) = 1 := by rw [if_neg g15]
      rw [ee] at key16
      clear ee
      exact key16
theorem dX13_rule_0 : decode cX13_rule 0 = .ok (.aload_n 0, 1) := by decide +kernel
theorem dX13_rule_1 : decode cX13_rule 1 = .ok (.iload_n 1, 1) := by decide +kernel
theorem dX13_rule_2 : decode cX13_rule 2 = .ok (.iload_n 2, 1) := by decide +kernel
theorem dX13_rule_3 : decode cX13_rule 3 = .ok (.invokevirtual 445, 3) := by decide +kernel
theorem dX13_rule_6 : decode cX13_rule 6 = .ok (.ifCond .ne 9, 3) := by decide +kernel
theorem dX13_rule_9 : decode cX13_rule 9 = .ok (.aload_n 0, 1) := by decide +kernel
theorem dX13_rule_10 : decode cX13_rule 10 = .ok (.iconst (-1), 1) := by decide +kernel
theorem dX13_rule_11 : decode cX13_rule 11 = .ok (.invokevirtual 308, 3) := by decide +kernel
theorem dX13_rule_14 : decode cX13_rule 14 = .ok (.ireturn, 1) := by decide +kernel
theorem dX13_rule_15 : decode cX13_rule 15 = .ok (.aload_n 0, 1) := by decide +kernel
theorem dX13_rule_16 : decode cX13_rule 16 = .ok (.getfield 37, 3) := by decide +kernel
theorem dX13_rule_19 : decode cX13_rule 19 = .ok (.iload_n 1, 1) := by decide +kernel
theorem dX13_rule_20 : decode cX13_rule 20 = .ok (.baload, 1) := by decide +kernel
theorem dX13_rule_21 : decode cX13_rule 21 = .ok (.ifCond .eq 10, 3) := by decide +kernel
theorem dX13_rule_24 : decode cX13_rule 24 = .ok (.aload_n 0, 1) := by decide +kernel
theorem dX13_rule_25 : decode cX13_rule 25 = .ok (.bipush (-3), 2) := by decide +kernel
theorem dX13_rule_27 : decode cX13_rule 27 = .ok (.invokevirtual 308, 3) := by decide +kernel
theorem dX13_rule_30 : decode cX13_rule 30 = .ok (.ireturn, 1) := by decide +kernel
theorem dX13_rule_31 : decode cX13_rule 31 = .ok (.iload_n 3, 1) := by decide +kernel
theorem dX13_rule_32 : decode cX13_rule 32 = .ok (.aload_n 0, 1) := by decide +kernel
theorem dX13_rule_33 : decode cX13_rule 33 = .ok (.getfield 312, 3) := by decide +kernel
theorem dX13_rule_36 : decode cX13_rule 36 = .ok (.if_icmp .ge 10, 3) := by decide +kernel
theorem dX13_rule_39 : decode cX13_rule 39 = .ok (.aload_n 0, 1) := by decide +kernel
theorem dX13_rule_40 : decode cX13_rule 40 = .ok (.bipush (-4), 2) := by decide +kernel
theorem dX13_rule_42 : decode cX13_rule 42 = .ok (.invokevirtual 308, 3) := by decide +kernel
theorem dX13_rule_45 : decode cX13_rule 45 = .ok (.ireturn, 1) := by decide +kernel
theorem dX13_rule_46 : decode cX13_rule 46 = .ok (.iload_n 3, 1) := by decide +kernel
theorem dX13_rule_47 : decode cX13_rule 47 = .ok (.sipush 1000, 3) := by decide +kernel
theorem dX13_rule_50 : decode cX13_rule 50 = .ok (.if_icmp .gt 12, 3) := by decide +kernel
theorem dX13_rule_53 : decode cX13_rule 53 = .ok (.aload_n 0, 1) := by decide +kernel
theorem dX13_rule_54 : decode cX13_rule 54 = .ok (.getfield 449, 3) := by decide +kernel
theorem dX13_rule_57 : decode cX13_rule 57 = .ok (.bipush 120, 2) := by decide +kernel
theorem dX13_rule_59 : decode cX13_rule 59 = .ok (.if_icmp .ne 10, 3) := by decide +kernel
theorem dX13_rule_62 : decode cX13_rule 62 = .ok (.aload_n 0, 1) := by decide +kernel
theorem dX13_rule_63 : decode cX13_rule 63 = .ok (.bipush (-6), 2) := by decide +kernel
theorem dX13_rule_65 : decode cX13_rule 65 = .ok (.invokevirtual 308, 3) := by decide +kernel
theorem dX13_rule_68 : decode cX13_rule 68 = .ok (.ireturn, 1) := by decide +kernel
theorem dX13_rule_69 : decode cX13_rule 69 = .ok (.aload_n 0, 1) := by decide +kernel
theorem dX13_rule_70 : decode cX13_rule 70 = .ok (.iconst 0, 1) := by decide +kernel
theorem dX13_rule_71 : decode cX13_rule 71 = .ok (.putfield 354, 3) := by decide +kernel
theorem dX13_rule_74 : decode cX13_rule 74 = .ok (.aload_n 0, 1) := by decide +kernel
theorem dX13_rule_75 : decode cX13_rule 75 = .ok (.aload_n 0, 1) := by decide +kernel
theorem dX13_rule_76 : decode cX13_rule 76 = .ok (.getfield 343, 3) := by decide +kernel
theorem dX13_rule_79 : decode cX13_rule 79 = .ok (.putfield 351, 3) := by decide +kernel
theorem dX13_rule_82 : decode cX13_rule 82 = .ok (.aload_n 0, 1) := by decide +kernel
theorem dX13_rule_83 : decode cX13_rule 83 = .ok (.iconst 0, 1) := by decide +kernel
theorem dX13_rule_84 : decode cX13_rule 84 = .ok (.putfield 343, 3) := by decide +kernel
theorem dX13_rule_87 : decode cX13_rule 87 = .ok (.aload_n 0, 1) := by decide +kernel
theorem dX13_rule_88 : decode cX13_rule 88 = .ok (.iload_n 2, 1) := by decide +kernel
theorem dX13_rule_89 : decode cX13_rule 89 = .ok (.putfield 411, 3) := by decide +kernel
theorem dX13_rule_92 : decode cX13_rule 92 = .ok (.aload_n 0, 1) := by decide +kernel
theorem dX13_rule_93 : decode cX13_rule 93 = .ok (.invokevirtual 452, 3) := by decide +kernel
theorem dX13_rule_96 : decode cX13_rule 96 = .ok (.aload_n 0, 1) := by decide +kernel
theorem dX13_rule_97 : decode cX13_rule 97 = .ok (.getfield 395, 3) := by decide +kernel
theorem dX13_rule_100 : decode cX13_rule 100 = .ok (.ifCond .eq 11, 3) := by decide +kernel
theorem dX13_rule_103 : decode cX13_rule 103 = .ok (.bipush (-20), 2) := by decide +kernel
theorem dX13_rule_105 : decode cX13_rule 105 = .ok (.aload_n 0, 1) := by decide +kernel
theorem dX13_rule_106 : decode cX13_rule 106 = .ok (.getfield 348, 3) := by decide +kernel
theorem dX13_rule_109 : decode cX13_rule 109 = .ok (.isub, 1) := by decide +kernel
theorem dX13_rule_110 : decode cX13_rule 110 = .ok (.ireturn, 1) := by decide +kernel
theorem dX13_rule_111 : decode cX13_rule 111 = .ok (.iconst 0, 1) := by decide +kernel
theorem dX13_rule_112 : decode cX13_rule 112 = .ok (.istore 4, 2) := by decide +kernel
theorem dX13_rule_114 : decode cX13_rule 114 = .ok (.iload 4, 2) := by decide +kernel
theorem dX13_rule_116 : decode cX13_rule 116 = .ok (.aload_n 0, 1) := by decide +kernel
theorem dX13_rule_117 : decode cX13_rule 117 = .ok (.getfield 351, 3) := by decide +kernel
theorem dX13_rule_120 : decode cX13_rule 120 = .ok (.if_icmp .ge 31, 3) := by decide +kernel
theorem dX13_rule_123 : decode cX13_rule 123 = .ok (.aload_n 0, 1) := by decide +kernel
theorem dX13_rule_124 : decode cX13_rule 124 = .ok (.getfield 62, 3) := by decide +kernel
theorem dX13_rule_127 : decode cX13_rule 127 = .ok (.bipush 60, 2) := by decide +kernel
theorem dX13_rule_129 : decode cX13_rule 129 = .ok (.aload_n 0, 1) := by decide +kernel
theorem dX13_rule_130 : decode cX13_rule 130 = .ok (.getfield 449, 3) := by decide +kernel
theorem dX13_rule_133 : decode cX13_rule 133 = .ok (.imul, 1) := by decide +kernel
theorem dX13_rule_134 : decode cX13_rule 134 = .ok (.iload 4, 2) := by decide +kernel
theorem dX13_rule_136 : decode cX13_rule 136 = .ok (.iadd, 1) := by decide +kernel
theorem dX13_rule_137 : decode cX13_rule 137 = .ok (.aload_n 0, 1) := by decide +kernel
theorem dX13_rule_138 : decode cX13_rule 138 = .ok (.getfield 59, 3) := by decide +kernel
theorem dX13_rule_141 : decode cX13_rule 141 = .ok (.iload 4, 2) := by decide +kernel
theorem dX13_rule_143 : decode cX13_rule 143 = .ok (.iaload, 1) := by decide +kernel
theorem dX13_rule_144 : decode cX13_rule 144 = .ok (.iastore, 1) := by decide +kernel
theorem dX13_rule_145 : decode cX13_rule 145 = .ok (.iinc 4 1, 3) := by decide +kernel
theorem dX13_rule_148 : decode cX13_rule 148 = .ok (.goto (-34), 3) := by decide +kernel
theorem dX13_rule_151 : decode cX13_rule 151 = .ok (.aload_n 0, 1) := by decide +kernel
theorem dX13_rule_152 : decode cX13_rule 152 = .ok (.getfield 65, 3) := by decide +kernel
theorem dX13_rule_155 : decode cX13_rule 155 = .ok (.aload_n 0, 1) := by decide +kernel
theorem dX13_rule_156 : decode cX13_rule 156 = .ok (.getfield 449, 3) := by decide +kernel
theorem dX13_rule_159 : decode cX13_rule 159 = .ok (.aload_n 0, 1) := by decide +kernel
theorem dX13_rule_160 : decode cX13_rule 160 = .ok (.getfield 351, 3) := by decide +kernel
theorem dX13_rule_163 : decode cX13_rule 163 = .ok (.iastore, 1) := by decide +kernel
theorem dX13_rule_164 : decode cX13_rule 164 = .ok (.aload_n 0, 1) := by decide +kernel
theorem dX13_rule_165 : decode cX13_rule 165 = .ok (.getfield 68, 3) := by decide +kernel
theorem dX13_rule_168 : decode cX13_rule 168 = .ok (.aload_n 0, 1) := by decide +kernel
theorem dX13_rule_169 : decode cX13_rule 169 = .ok (.getfield 449, 3) := by decide +kernel
theorem dX13_rule_172 : decode cX13_rule 172 = .ok (.iload_n 1, 1) := by decide +kernel
theorem dX13_rule_173 : decode cX13_rule 173 = .ok (.iastore, 1) := by decide +kernel
theorem dX13_rule_174 : decode cX13_rule 174 = .ok (.aload_n 0, 1) := by decide +kernel
theorem dX13_rule_175 : decode cX13_rule 175 = .ok (.getfield 71, 3) := by decide +kernel
theorem dX13_rule_178 : decode cX13_rule 178 = .ok (.aload_n 0, 1) := by decide +kernel
theorem dX13_rule_179 : decode cX13_rule 179 = .ok (.getfield 449, 3) := by decide +kernel
theorem dX13_rule_182 : decode cX13_rule 182 = .ok (.iload_n 2, 1) := by decide +kernel
theorem dX13_rule_183 : decode cX13_rule 183 = .ok (.iastore, 1) := by decide +kernel
theorem dX13_rule_184 : decode cX13_rule 184 = .ok (.aload_n 0, 1) := by decide +kernel
theorem dX13_rule_185 : decode cX13_rule 185 = .ok (.getfield 74, 3) := by decide +kernel
theorem dX13_rule_188 : decode cX13_rule 188 = .ok (.aload_n 0, 1) := by decide +kernel
theorem dX13_rule_189 : decode cX13_rule 189 = .ok (.getfield 449, 3) := by decide +kernel
theorem dX13_rule_192 : decode cX13_rule 192 = .ok (.iload_n 3, 1) := by decide +kernel
theorem dX13_rule_193 : decode cX13_rule 193 = .ok (.iastore, 1) := by decide +kernel
theorem dX13_rule_194 : decode cX13_rule 194 = .ok (.aload_n 0, 1) := by decide +kernel
theorem dX13_rule_195 : decode cX13_rule 195 = .ok (.dup, 1) := by decide +kernel
theorem dX13_rule_196 : decode cX13_rule 196 = .ok (.getfield 449, 3) := by decide +kernel
theorem dX13_rule_199 : decode cX13_rule 199 = .ok (.iconst 1, 1) := by decide +kernel
theorem dX13_rule_200 : decode cX13_rule 200 = .ok (.iadd, 1) := by decide +kernel
theorem dX13_rule_201 : decode cX13_rule 201 = .ok (.putfield 449, 3) := by decide +kernel
theorem dX13_rule_204 : decode cX13_rule 204 = .ok (.aload_n 0, 1) := by decide +kernel
theorem dX13_rule_205 : decode cX13_rule 205 = .ok (.getfield 449, 3) := by decide +kernel
theorem dX13_rule_208 : decode cX13_rule 208 = .ok (.ireturn, 1) := by decide +kernel
set_option maxRecDepth 100000 in
set_option maxHeartbeats 4000000 in
theorem wp_X13_rule {n0 d : Nat} {K : z_K} {I : z_I} {L : z_L} {Q : z_q} {p0 : Int32} {p1 : Int32} {p2 : Int32} (hL : MLay K) (h : RM0 n0 xX13_isPoint d [.ref (n0 + 59), .int p0, .int p1] K I L (fun vv I1 L2 => ∃ r3 : Int32, vv = some (.int r3) ∧ (if r3 = 0 then RM0 n0 xX13_refuse d [.ref (n0 + 59), .int (-1)] K I1 L2 (fun vv I25 L26 => ∃ r27 : Int32, vv = some (.int r27) ∧ Q (some (.int r27)) I25 L26) else vp_in p0 16 ∧ (if ((I1 69 p0.toNatClampNeg) : Int32) = 0 then (if p2 < (I1 59 0) then RM0 n0 xX13_refuse d [.ref (n0 + 59), .int (-4)] K I1 L2 (fun vv I19 L20 => ∃ r21 : Int32, vv = some (.int r21) ∧ Q (some (.int r21)) I19 L20) else (if 1000 < p2 then RM0 n0 xX13_refuse d [.ref (n0 + 59), .int (-6)] K I1 L2 (fun vv I9 L10 => ∃ r11 : Int32, vv = some (.int r11) ∧ Q (some (.int r11)) I9 L10) else (if ((I1 59 22) : Int32) = 120 then RM0 n0 xX13_refuse d [.ref (n0 + 59), .int (-6)] K I1 L2 (fun vv I16 L17 => ∃ r18 : Int32, vv = some (.int r18) ∧ Q (some (.int r18)) I16 L17) else RM0 n0 xX13_readText d [.ref (n0 + 59)] K (zI (zI (zI (zI I1 59 28 0) 59 30 (I1 59 21)) 59 21 0) 59 32 p1) L2 (fun vv I13 L14 => vv = none ∧ (if ((I13 59 33) : Int32) = 0 then Z n0 xX13_rule (d + 1) 0 0 114 [(0, .ref (n0 + 59)), (1, .int p0), (2, .int p1), (3, .int p2), (4, .int 0)] [] K I13 L14 (z_q0 K Q) else Q (some (.int ((-20) - (I13 59 31)))) I13 L14))))) else RM0 n0 xX13_refuse d [.ref (n0 + 59), .int (-3)] K I1 L2 (fun vv I22 L23 => ∃ r24 : Int32, vv = some (.int r24) ∧ Q (some (.int r24)) I22 L23))))) : RM0 n0 xX13_rule (d + 1) [.ref (n0 + 59), .int p0, .int p1, .int p2] K I L Q := by
  refine z_entry0 (by decide) (Nat.le_of_ble_eq_true rfl) ?_
  change Z n0 xX13_rule (d + 1) 0 0 0 [(0, .ref (n0 + 59)), (1, .int p0), (2, .int p1), (3, .int p2)] [] K I L (z_q0 K Q)
  refine z_aload_n 0 dX13_rule_0 rfl ?_
  refine z_iload_n 1 dX13_rule_1 rfl ?_
  refine z_iload_n 2 dX13_rule_2 rfl ?_
  refine z_callV0 (As := [.int p0, .int p1]) (st := []) dX13_rule_3 hy_X13_isPoint hL.1 hL.2.1 (by decide) wg_1855 wg_1857 wg_60 (Nat.le_refl _) (Nat.le_of_ble_eq_true rfl) (RM0.mono h (fun vv I1 L2 h => ?_))
  obtain ⟨r3, rfl, h⟩ := h
  change Z n0 xX13_rule (d + 1) 0 0 6 [(0, .ref (n0 + 59)), (1, .int p0), (2, .int p1), (3, .int p2)] [.int r3] K I1 L2 (z_q0 K Q)
  refine z_if_ne 15 dX13_rule_6 (by decide) (fun g4 => ?_) (fun g4 => ?_)
  · rw [if_neg g4] at h
    refine z_aload_n 0 dX13_rule_15 rfl ?_
    refine fg_13_37 (some 69) rfl dX13_rule_16 hL.1 hL.2.1 (ma_13 hL).1 ?_
    refine z_iload_n 1 dX13_rule_19 rfl ?_
    obtain ⟨o5, h⟩ := h
    refine z_zald (I1 69 p0.toNatClampNeg) dX13_rule_20 (ma_13 hL).2.1 (ma_13 hL).2.2 o5 rfl ?_
    refine z_if_eq 31 dX13_rule_21 (by decide) (fun g6 => ?_) (fun g6 => ?_)
    · rw [if_pos g6] at h
      refine z_iload_n 3 dX13_rule_31 rfl ?_
      refine z_aload_n 0 dX13_rule_32 rfl ?_
      refine fg_13_312 (I1 59 0) rfl dX13_rule_33 hL.1 hL.2.1 rfl ?_
      refine z_icmp_ge 46 dX13_rule_36 (by decide) (fun g7 => ?_) (fun g7 => ?_)
      · rw [if_neg g7] at h
        refine z_iload_n 3 dX13_rule_46 rfl ?_
        refine z_sipush 1000 dX13_rule_47 (by decide) ?_
        refine z_icmp_gt 62 dX13_rule_50 (by decide) (fun g8 => ?_) (fun g8 => ?_)
        · rw [if_pos g8] at h
          refine z_aload_n 0 dX13_rule_62 rfl ?_
          refine z_bipush (-6) dX13_rule_63 (by decide) ?_
          refine z_callV0 (As := [.int (-6)]) (st := []) dX13_rule_65 hy_X13_refuse hL.1 hL.2.1 (by decide) wg_1778 wg_1780 wg_54 (Nat.le_refl _) (Nat.le_of_ble_eq_true rfl) (RM0.mono h (fun vv I9 L10 h => ?_))
          obtain ⟨r11, rfl, h⟩ := h
          change Z n0 xX13_rule (d + 1) 0 0 68 [(0, .ref (n0 + 59)), (1, .int p0), (2, .int p1), (3, .int p2)] [.int r11] K I9 L10 (z_q0 K Q)
          exact z_iret dX13_rule_68 rfl ⟨rfl, h⟩
        · rw [if_neg g8] at h
          refine z_aload_n 0 dX13_rule_53 rfl ?_
          refine fg_13_449 (I1 59 22) rfl dX13_rule_54 hL.1 hL.2.1 rfl ?_
          refine z_bipush 120 dX13_rule_57 (by decide) ?_
          refine z_icmp_ne 69 dX13_rule_59 (by decide) (fun g12 => ?_) (fun g12 => ?_)
          · rw [if_neg g12] at h
            refine z_aload_n 0 dX13_rule_69 rfl ?_
            refine z_iconst 0 dX13_rule_70 (by decide) ?_
            refine fp_13_354 rfl dX13_rule_71 hL.1 hL.2.1 (Or.inl rfl) ?_
            refine z_aload_n 0 dX13_rule_74 rfl ?_
            refine z_aload_n 0 dX13_rule_75 rfl ?_
            refine fg_13_343 (I1 59 21) rfl dX13_rule_76 hL.1 hL.2.1 rfl ?_
            refine fp_13_351 rfl dX13_rule_79 hL.1 hL.2.1 ?_
            refine z_aload_n 0 dX13_rule_82 rfl ?_
            refine z_iconst 0 dX13_rule_83 (by decide) ?_
            refine fp_13_343 rfl dX13_rule_84 hL.1 hL.2.1 ?_
            refine z_aload_n 0 dX13_rule_87 rfl ?_
            refine z_iload_n 2 dX13_rule_88 rfl ?_
            refine fp_13_411 rfl dX13_rule_89 hL.1 hL.2.1 ?_
            refine z_aload_n 0 dX13_rule_92 rfl ?_
            refine z_callV0 (As := []) (st := []) dX13_rule_93 hy_X13_readText hL.1 hL.2.1 (by decide) wg_1859 wg_1861 wg_61 (Nat.le_refl _) (Nat.le_of_ble_eq_true rfl) (RM0.mono h (fun vv I13 L14 h => ?_))
            obtain ⟨rfl, h⟩ := h
            change Z n0 xX13_rule (d + 1) 0 0 96 [(0, .ref (n0 + 59)), (1, .int p0), (2, .int p1), (3, .int p2)] [] K I13 L14 (z_q0 K Q)
            refine z_aload_n 0 dX13_rule_96 rfl ?_
            refine fg_13_395 (I13 59 33) rfl dX13_rule_97 hL.1 hL.2.1 rfl ?_
            refine z_if_eq 111 dX13_rule_100 (by decide) (fun g15 => ?_) (fun g15 => ?_)
            · rw [if_pos g15] at h
              refine z_iconst 0 dX13_rule_111 (by decide) ?_
              refine z_istore [1, 2, 3, 4, 0] [(0, .ref (n0 + 59)), (1, .int p0), (2, .int p1), (3, .int p2), (4, .int 0)] dX13_rule_112 (by decide) rfl ?_
              exact h
            · rw [if_neg g15] at h
              refine z_bipush (-20) dX13_rule_103 (by decide) ?_
              refine z_aload_n 0 dX13_rule_105 rfl ?_
              refine fg_13_348 (I13 59 31) rfl dX13_rule_106 hL.1 hL.2.1 rfl ?_
              refine z_isub dX13_rule_109 ?_
              exact z_iret dX13_rule_110 rfl ⟨rfl, h⟩
          · rw [if_pos g12] at h
            refine z_aload_n 0 dX13_rule_62 rfl ?_
            refine z_bipush (-6) dX13_rule_63 (by decide) ?_
            refine z_callV0 (As := [.int (-6)]) (st := []) dX13_rule_65 hy_X13_refuse hL.1 hL.2.1 (by decide) wg_1778 wg_1780 wg_54 (Nat.le_refl _) (Nat.le_of_ble_eq_true rfl) (RM0.mono h (fun vv I16 L17 h => ?_))
            obtain ⟨r18, rfl, h⟩ := h
            change Z n0 xX13_rule (d + 1) 0 0 68 [(0, .ref (n0 + 59)), (1, .int p0), (2, .int p1), (3, .int p2)] [.int r18] K I16 L17 (z_q0 K Q)
            exact z_iret dX13_rule_68 rfl ⟨rfl, h⟩
      · rw [if_pos g7] at h
        refine z_aload_n 0 dX13_rule_39 rfl ?_
        refine z_bipush (-4) dX13_rule_40 (by decide) ?_
        refine z_callV0 (As := [.int (-4)]) (st := []) dX13_rule_42 hy_X13_refuse hL.1 hL.2.1 (by decide) wg_1778 wg_1780 wg_54 (Nat.le_refl _) (Nat.le_of_ble_eq_true rfl) (RM0.mono h (fun vv I19 L20 h => ?_))
        obtain ⟨r21, rfl, h⟩ := h
        change Z n0 xX13_rule (d + 1) 0 0 45 [(0, .ref (n0 + 59)), (1, .int p0), (2, .int p1), (3, .int p2)] [.int r21] K I19 L20 (z_q0 K Q)
        exact z_iret dX13_rule_45 rfl ⟨rfl, h⟩
    · rw [if_neg g6] at h
      refine z_aload_n 0 dX13_rule_24 rfl ?_
      refine z_bipush (-3) dX13_rule_25 (by decide) ?_
      refine z_callV0 (As := [.int (-3)]) (st := []) dX13_rule_27 hy_X13_refuse hL.1 hL.2.1 (by decide) wg_1778 wg_1780 wg_54 (Nat.le_refl _) (Nat.le_of_ble_eq_true rfl) (RM0.mono h (fun vv I22 L23 h => ?_))
      obtain ⟨r24, rfl, h⟩ := h
      change Z n0 xX13_rule (d + 1) 0 0 30 [(0, .ref (n0 + 59)), (1, .int p0), (2, .int p1), (3, .int p2)] [.int r24] K I22 L23 (z_q0 K Q)
      exact z_iret dX13_rule_30 rfl ⟨rfl, h⟩
  · rw [if_pos g4] at h
    refine z_aload_n 0 dX13_rule_9 rfl ?_
    refine z_iconst (-1) dX13_rule_10 (by decide) ?_
    refine z_callV0 (As := [.int (-1)]) (st := []) dX13_rule_11 hy_X13_refuse hL.1 hL.2.1 (by decide) wg_1778 wg_1780 wg_54 (Nat.le_refl _) (Nat.le_of_ble_eq_true rfl) (RM0.mono h (fun vv I25 L26 h => ?_))
    obtain ⟨r27, rfl, h⟩ := h
    change Z n0 xX13_rule (d + 1) 0 0 14 [(0, .ref (n0 + 59)), (1, .int p0), (2, .int p1), (3, .int p2)] [.int r27] K I25 L26 (z_q0 K Q)
    exact z_iret dX13_rule_14 rfl ⟨rfl, h⟩
set_option maxRecDepth 100000 in
set_option maxHeartbeats 4000000 in
theorem wp_X13_rule_114 {n0 d : Nat} {rc rs : Nat} {K : z_K} {I : z_I} {L : z_L} {Q : z_q} {a1 : Int32} {a2 : Int32} {a3 : Int32} {a4 : Int32} (hL : MLay K) (h : (if a4 < (I 59 30) then vp_in a4 60 ∧ vp_in ((60 * (I 59 22)) + a4) 7200 ∧ Z n0 xX13_rule (d + 1) rc rs 114 [(0, .ref (n0 + 59)), (1, .int a1), (2, .int a2), (3, .int a3), (4, .int (a4 + 1))] [] K (zI I 77 (((60 * (I 59 22)) + a4).toNatClampNeg) (I 76 a4.toNatClampNeg)) L (z_q0 K Q) else vp_in (I 59 22) 120 ∧ Q (some (.int (((I 59 22) + 1)))) (zI (zI (zI (zI (zI I 78 ((I 59 22).toNatClampNeg) (I 59 30)) 79 ((I 59 22).toNatClampNeg) a1) 80 ((I 59 22).toNatClampNeg) a2) 81 ((I 59 22).toNatClampNeg) a3) 59 22 ((I 59 22) + 1)) L)) : Z n0 xX13_rule (d + 1) rc rs 114 [(0, .ref (n0 + 59)), (1, .int a1), (2, .int a2), (3, .int a3), (4, .int a4)] [] K I L (z_q0 K Q) := by
  refine z_iload 4 dX13_rule_114 rfl ?_
  refine z_aload_n 0 dX13_rule_116 rfl ?_
  refine fg_13_351 (I 59 30) rfl dX13_rule_117 hL.1 hL.2.1 rfl ?_
  refine z_icmp_ge 151 dX13_rule_120 (by decide) (fun g1 => ?_) (fun g1 => ?_)
  · rw [if_neg g1] at h
    refine z_aload_n 0 dX13_rule_151 rfl ?_
    refine fg_13_65 (some 78) rfl dX13_rule_152 hL.1 hL.2.1 (ma_24 hL).1 ?_
    refine z_aload_n 0 dX13_rule_155 rfl ?_
    refine fg_13_449 (I 59 22) rfl dX13_rule_156 hL.1 hL.2.1 rfl ?_
    refine z_aload_n 0 dX13_rule_159 rfl ?_
    refine fg_13_351 (I 59 30) rfl dX13_rule_160 hL.1 hL.2.1 rfl ?_
    obtain ⟨o2, h⟩ := h
    refine z_iast dX13_rule_163 (ma_24 hL).2.1 (ma_24 hL).2.2 o2 ?_
    refine z_aload_n 0 dX13_rule_164 rfl ?_
    refine fg_13_68 (some 79) rfl dX13_rule_165 hL.1 hL.2.1 (ma_25 hL).1 ?_
    refine z_aload_n 0 dX13_rule_168 rfl ?_
    refine fg_13_449 (I 59 22) rfl dX13_rule_169 hL.1 hL.2.1 rfl ?_
    refine z_iload_n 1 dX13_rule_172 rfl ?_
    refine z_iast dX13_rule_173 (ma_25 hL).2.1 (ma_25 hL).2.2 o2 ?_
    refine z_aload_n 0 dX13_rule_174 rfl ?_
    refine fg_13_71 (some 80) rfl dX13_rule_175 hL.1 hL.2.1 (ma_26 hL).1 ?_
    refine z_aload_n 0 dX13_rule_178 rfl ?_
    refine fg_13_449 (I 59 22) rfl dX13_rule_179 hL.1 hL.2.1 rfl ?_
    refine z_iload_n 2 dX13_rule_182 rfl ?_
    refine z_iast dX13_rule_183 (ma_26 hL).2.1 (ma_26 hL).2.2 o2 ?_
    refine z_aload_n 0 dX13_rule_184 rfl ?_
    refine fg_13_74 (some 81) rfl dX13_rule_185 hL.1 hL.2.1 (ma_27 hL).1 ?_
    refine z_aload_n 0 dX13_rule_188 rfl ?_
    refine fg_13_449 (I 59 22) rfl dX13_rule_189 hL.1 hL.2.1 rfl ?_
    refine z_iload_n 3 dX13_rule_192 rfl ?_
    refine z_iast dX13_rule_193 (ma_27 hL).2.1 (ma_27 hL).2.2 o2 ?_
    refine z_aload_n 0 dX13_rule_194 rfl ?_
    refine z_dup dX13_rule_195 rfl ?_
    refine fg_13_449 (I 59 22) rfl dX13_rule_196 hL.1 hL.2.1 rfl ?_
    refine z_iconst 1 dX13_rule_199 (by decide) ?_
    refine z_iadd dX13_rule_200 ?_
    refine fp_13_449 rfl dX13_rule_201 hL.1 hL.2.1 ?_
    refine z_aload_n 0 dX13_rule_204 rfl ?_
    refine fg_13_449 (((I 59 22) + 1)) rfl dX13_rule_205 hL.1 hL.2.1 rfl ?_
    exact z_iret dX13_rule_208 rfl ⟨rfl, h⟩
  · rw [if_pos g1] at h
    refine z_aload_n 0 dX13_rule_123 rfl ?_
    refine fg_13_62 (some 77) rfl dX13_rule_124 hL.1 hL.2.1 (ma_23 hL).1 ?_
    refine z_bipush 60 dX13_rule_127 (by decide) ?_
    refine z_aload_n 0 dX13_rule_129 rfl ?_
    refine fg_13_449 (I 59 22) rfl dX13_rule_130 hL.1 hL.2.1 rfl ?_
    refine z_imul dX13_rule_133 ?_
    refine z_iload 4 dX13_rule_134 rfl ?_
    refine z_iadd dX13_rule_136 ?_
    refine z_aload_n 0 dX13_rule_137 rfl ?_
    refine fg_13_59 (some 76) rfl dX13_rule_138 hL.1 hL.2.1 (ma_20 hL).1 ?_
    refine z_iload 4 dX13_rule_141 rfl ?_
    obtain ⟨o3, h⟩ := h
    refine z_iald (I 76 a4.toNatClampNeg) dX13_rule_143 (ma_20 hL).2.1 (ma_20 hL).2.2 o3 rfl ?_
    obtain ⟨o4, h⟩ := h
    refine z_iast dX13_rule_144 (ma_23 hL).2.1 (ma_23 hL).2.2 o4 ?_
    refine z_iinc (j := 4) (a4 + 1) [1, 2, 3, 4, 0] [(0, .ref (n0 + 59)), (1, .int a1), (2, .int a2), (3, .int a3), (4, .int (a4 + 1))] dX13_rule_145 rfl rfl (by decide) rfl ?_
    refine z_goto 114 dX13_rule_148 (by decide) ?_
    exact h
theorem dX13_ruleOn_0 : decode cX13_ruleOn 0 = .ok (.iconst (-1), 1) := by decide +kernel
theorem dX13_ruleOn_1 : decode cX13_ruleOn 1 = .ok (.istore 4, 2) := by decide +kernel
theorem dX13_ruleOn_3 : decode cX13_ruleOn 3 = .ok (.iconst 0, 1) := by decide +kernel
theorem dX13_ruleOn_4 : decode cX13_ruleOn 4 = .ok (.istore 5, 2) := by decide +kernel
theorem dX13_ruleOn_6 : decode cX13_ruleOn 6 = .ok (.iload 5, 2) := by decide +kernel
theorem dX13_ruleOn_8 : decode cX13_ruleOn 8 = .ok (.aload_n 0, 1) := by decide +kernel
theorem dX13_ruleOn_9 : decode cX13_ruleOn 9 = .ok (.getfield 449, 3) := by decide +kernel
theorem dX13_ruleOn_12 : decode cX13_ruleOn 12 = .ok (.if_icmp .ge 85, 3) := by decide +kernel
theorem dX13_ruleOn_15 : decode cX13_ruleOn 15 = .ok (.aload_n 0, 1) := by decide +kernel
theorem dX13_ruleOn_16 : decode cX13_ruleOn 16 = .ok (.getfield 68, 3) := by decide +kernel
theorem dX13_ruleOn_19 : decode cX13_ruleOn 19 = .ok (.iload 5, 2) := by decide +kernel
theorem dX13_ruleOn_21 : decode cX13_ruleOn 21 = .ok (.iaload, 1) := by decide +kernel
theorem dX13_ruleOn_22 : decode cX13_ruleOn 22 = .ok (.iload_n 1, 1) := by decide +kernel
theorem dX13_ruleOn_23 : decode cX13_ruleOn 23 = .ok (.if_icmp .ne 29, 3) := by decide +kernel
theorem dX13_ruleOn_26 : decode cX13_ruleOn 26 = .ok (.aload_n 0, 1) := by decide +kernel
theorem dX13_ruleOn_27 : decode cX13_ruleOn 27 = .ok (.getfield 71, 3) := by decide +kernel
theorem dX13_ruleOn_30 : decode cX13_ruleOn 30 = .ok (.iload 5, 2) := by decide +kernel
theorem dX13_ruleOn_32 : decode cX13_ruleOn 32 = .ok (.iaload, 1) := by decide +kernel
theorem dX13_ruleOn_33 : decode cX13_ruleOn 33 = .ok (.iload_n 2, 1) := by decide +kernel
theorem dX13_ruleOn_34 : decode cX13_ruleOn 34 = .ok (.if_icmp .ne 18, 3) := by decide +kernel
theorem dX13_ruleOn_37 : decode cX13_ruleOn 37 = .ok (.aload_n 0, 1) := by decide +kernel
theorem dX13_ruleOn_38 : decode cX13_ruleOn 38 = .ok (.getfield 74, 3) := by decide +kernel
theorem dX13_ruleOn_41 : decode cX13_ruleOn 41 = .ok (.iload 5, 2) := by decide +kernel
theorem dX13_ruleOn_43 : decode cX13_ruleOn 43 = .ok (.iaload, 1) := by decide +kernel
theorem dX13_ruleOn_44 : decode cX13_ruleOn 44 = .ok (.iload_n 3, 1) := by decide +kernel
theorem dX13_ruleOn_45 : decode cX13_ruleOn 45 = .ok (.if_icmp .gt 7, 3) := by decide +kernel
theorem dX13_ruleOn_48 : decode cX13_ruleOn 48 = .ok (.iconst 1, 1) := by decide +kernel
theorem dX13_ruleOn_49 : decode cX13_ruleOn 49 = .ok (.goto 4, 3) := by decide +kernel
theorem dX13_ruleOn_52 : decode cX13_ruleOn 52 = .ok (.iconst 0, 1) := by decide +kernel
theorem dX13_ruleOn_53 : decode cX13_ruleOn 53 = .ok (.istore 6, 2) := by decide +kernel
theorem dX13_ruleOn_55 : decode cX13_ruleOn 55 = .ok (.iload 6, 2) := by decide +kernel
theorem dX13_ruleOn_57 : decode cX13_ruleOn 57 = .ok (.ifCond .eq 30, 3) := by decide +kernel
theorem dX13_ruleOn_60 : decode cX13_ruleOn 60 = .ok (.iload 4, 2) := by decide +kernel
theorem dX13_ruleOn_62 : decode cX13_ruleOn 62 = .ok (.ifCond .lt 20, 3) := by decide +kernel
theorem dX13_ruleOn_65 : decode cX13_ruleOn 65 = .ok (.aload_n 0, 1) := by decide +kernel
theorem dX13_ruleOn_66 : decode cX13_ruleOn 66 = .ok (.getfield 74, 3) := by decide +kernel
theorem dX13_ruleOn_69 : decode cX13_ruleOn 69 = .ok (.iload 5, 2) := by decide +kernel
theorem dX13_ruleOn_71 : decode cX13_ruleOn 71 = .ok (.iaload, 1) := by decide +kernel
theorem dX13_ruleOn_72 : decode cX13_ruleOn 72 = .ok (.aload_n 0, 1) := by decide +kernel
theorem dX13_ruleOn_73 : decode cX13_ruleOn 73 = .ok (.getfield 74, 3) := by decide +kernel
theorem dX13_ruleOn_76 : decode cX13_ruleOn 76 = .ok (.iload 4, 2) := by decide +kernel
theorem dX13_ruleOn_78 : decode cX13_ruleOn 78 = .ok (.iaload, 1) := by decide +kernel
theorem dX13_ruleOn_79 : decode cX13_ruleOn 79 = .ok (.if_icmp .lt 8, 3) := by decide +kernel
theorem dX13_ruleOn_82 : decode cX13_ruleOn 82 = .ok (.iload 5, 2) := by decide +kernel
theorem dX13_ruleOn_84 : decode cX13_ruleOn 84 = .ok (.goto 5, 3) := by decide +kernel
theorem dX13_ruleOn_87 : decode cX13_ruleOn 87 = .ok (.iload 4, 2) := by decide +kernel
theorem dX13_ruleOn_89 : decode cX13_ruleOn 89 = .ok (.istore 4, 2) := by decide +kernel
theorem dX13_ruleOn_91 : decode cX13_ruleOn 91 = .ok (.iinc 5 1, 3) := by decide +kernel
theorem dX13_ruleOn_94 : decode cX13_ruleOn 94 = .ok (.goto (-88), 3) := by decide +kernel
theorem dX13_ruleOn_97 : decode cX13_ruleOn 97 = .ok (.iload 4, 2) := by decide +kernel
theorem dX13_ruleOn_99 : decode cX13_ruleOn 99 = .ok (.ireturn, 1) := by decide +kernel
set_option maxRecDepth 100000 in
set_option maxHeartbeats 4000000 in
theorem wp_X13_ruleOn {n0 d : Nat} {K : z_K} {I : z_I} {L : z_L} {Q : z_q} {p0 : Int32} {p1 : Int32} {p2 : Int32} (hL : MLay K) (h : Z n0 xX13_ruleOn d 0 0 6 [(0, .ref (n0 + 59)), (1, .int p0), (2, .int p1), (3, .int p2), (4, .int (-1)), (5, .int 0)] [] K I L (z_q0 K Q)) : RM0 n0 xX13_ruleOn d [.ref (n0 + 59), .int p0, .int p1, .int p2] K I L Q := by
  refine z_entry0 (by decide) (Nat.le_of_ble_eq_true rfl) ?_
  change Z n0 xX13_ruleOn d 0 0 0 [(0, .ref (n0 + 59)), (1, .int p0), (2, .int p1), (3, .int p2)] [] K I L (z_q0 K Q)
  refine z_iconst (-1) dX13_ruleOn_0 (by decide) ?_
  refine z_istore [1, 2, 3, 4, 0] [(0, .ref (n0 + 59)), (1, .int p0), (2, .int p1), (3, .int p2), (4, .int (-1))] dX13_ruleOn_1 (by decide) rfl ?_
  refine z_iconst 0 dX13_ruleOn_3 (by decide) ?_
  refine z_istore [1, 2, 3, 4, 5, 0] [(0, .ref (n0 + 59)), (1, .int p0), (2, .int p1), (3, .int p2), (4, .int (-1)), (5, .int 0)] dX13_ruleOn_4 (by decide) rfl ?_
  exact h
set_option maxRecDepth 100000 in
set_option maxHeartbeats 4000000 in
theorem wp_X13_ruleOn_6 {n0 d : Nat} {rc rs : Nat} {K : z_K} {I : z_I} {L : z_L} {Q : z_q} {a1 : Int32} {a2 : Int32} {a3 : Int32} {a4 : Int32} {a5 : Int32} (hL : MLay K) (h : (if a5 < (I 59 22) then vp_in a5 120 ∧ (¬ (((if ((I 79 a5.toNatClampNeg) : Int32) = a1 then if ((I 80 a5.toNatClampNeg) : Int32) = a2 then if a3 < ((I 81 a5.toNatClampNeg) : Int32) then 0 else 1 else 0 else 0) : Int32) = 0) → ¬ (a4 < 0) → vp_in a4 120) ∧ Z n0 xX13_ruleOn d rc rs 6 [(0, .ref (n0 + 59)), (1, .int a1), (2, .int a2), (3, .int a3), (4, .int (if ((if ((I 79 a5.toNatClampNeg) : Int32) = a1 then if ((I 80 a5.toNatClampNeg) : Int32) = a2 then if a3 < ((I 81 a5.toNatClampNeg) : Int32) then 0 else 1 else 0 else 0) : Int32) = 0 then a4 else if a4 < 0 then a5 else if ((I 81 a5.toNatClampNeg) : Int32) < (I 81 a4.toNatClampNeg) then a4 else a5)), (5, .int (a5 + 1))] [] K I L (z_q0 K Q) else Q (some (.int a4)) I L)) : Z n0 xX13_ruleOn d rc rs 6 [(0, .ref (n0 + 59)), (1, .int a1), (2, .int a2), (3, .int a3), (4, .int a4), (5, .int a5)] [] K I L (z_q0 K Q) := by
  refine z_iload 5 dX13_ruleOn_6 rfl ?_
  refine z_aload_n 0 dX13_ruleOn_8 rfl ?_
  refine fg_13_449 (I 59 22) rfl dX13_ruleOn_9 hL.1 hL.2.1 rfl ?_
  refine z_icmp_ge 97 dX13_ruleOn_12 (by decide) (fun g1 => ?_) (fun g1 => ?_)
  · rw [if_neg g1] at h
    refine z_iload 4 dX13_ruleOn_97 rfl ?_
    exact z_iret dX13_ruleOn_99 rfl ⟨rfl, h⟩
  · rw [if_pos g1] at h
    refine z_aload_n 0 dX13_ruleOn_15 rfl ?_
    refine fg_13_68 (some 79) rfl dX13_ruleOn_16 hL.1 hL.2.1 (ma_25 hL).1 ?_
    refine z_iload 5 dX13_ruleOn_19 rfl ?_
    obtain ⟨o2, h⟩ := h
    refine z_iald (I 79 a5.toNatClampNeg) dX13_ruleOn_21 (ma_25 hL).2.1 (ma_25 hL).2.2 o2 rfl ?_
    refine z_iload_n 1 dX13_ruleOn_22 rfl ?_
    have key6 : Z n0 xX13_ruleOn d rc rs 53 [(0, .ref (n0 + 59)), (1, .int a1), (2, .int a2), (3, .int a3), (4, .int a4), (5, .int a5)] [.int (if ((I 79 a5.toNatClampNeg) : Int32) = a1 then if ((I 80 a5.toNatClampNeg) : Int32) = a2 then if a3 < ((I 81 a5.toNatClampNeg) : Int32) then 0 else 1 else 0 else 0)] K I L (z_q0 K Q) := by
      refine z_istore [1, 2, 3, 4, 5, 6, 0] [(0, .ref (n0 + 59)), (1, .int a1), (2, .int a2), (3, .int a3), (4, .int a4), (5, .int a5), (6, .int (if ((I 79 a5.toNatClampNeg) : Int32) = a1 then if ((I 80 a5.toNatClampNeg) : Int32) = a2 then if a3 < ((I 81 a5.toNatClampNeg) : Int32) then 0 else 1 else 0 else 0))] dX13_ruleOn_53 (by decide) rfl ?_
      refine z_iload 6 dX13_ruleOn_55 rfl ?_
      obtain ⟨o9, h⟩ := h
      have key11 : Z n0 xX13_ruleOn d rc rs 89 [(0, .ref (n0 + 59)), (1, .int a1), (2, .int a2), (3, .int a3), (5, .int a5)] [.int (if ((if ((I 79 a5.toNatClampNeg) : Int32) = a1 then if ((I 80 a5.toNatClampNeg) : Int32) = a2 then if a3 < ((I 81 a5.toNatClampNeg) : Int32) then 0 else 1 else 0 else 0) : Int32) = 0 then a4 else if a4 < 0 then a5 else if ((I 81 a5.toNatClampNeg) : Int32) < (I 81 a4.toNatClampNeg) then a4 else a5)] K I L (z_q0 K Q) := by
        refine z_istore [1, 2, 3, 4, 0, 5] [(0, .ref (n0 + 59)), (1, .int a1), (2, .int a2), (3, .int a3), (4, .int (if ((if ((I 79 a5.toNatClampNeg) : Int32) = a1 then if ((I 80 a5.toNatClampNeg) : Int32) = a2 then if a3 < ((I 81 a5.toNatClampNeg) : Int32) then 0 else 1 else 0 else 0) : Int32) = 0 then a4 else if a4 < 0 then a5 else if ((I 81 a5.toNatClampNeg) : Int32) < (I 81 a4.toNatClampNeg) then a4 else a5)), (5, .int a5)] dX13_ruleOn_89 (by decide) rfl ?_
        refine z_iinc (j := 5) (a5 + 1) [1, 2, 3, 4, 5, 0] [(0, .ref (n0 + 59)), (1, .int a1), (2, .int a2), (3, .int a3), (4, .int (if ((if ((I 79 a5.toNatClampNeg) : Int32) = a1 then if ((I 80 a5.toNatClampNeg) : Int32) = a2 then if a3 < ((I 81 a5.toNatClampNeg) : Int32) then 0 else 1 else 0 else 0) : Int32) = 0 then a4 else if a4 < 0 then a5 else if ((I 81 a5.toNatClampNeg) : Int32) < (I 81 a4.toNatClampNeg) then a4 else a5)), (5, .int (a5 + 1))] dX13_ruleOn_91 rfl rfl (by decide) rfl ?_
        refine z_goto 6 dX13_ruleOn_94 (by decide) ?_
        exact h
      refine z_if_eq 87 dX13_ruleOn_57 (by decide) (fun g7 => ?_) (fun g7 => ?_)
      · refine z_iload 4 dX13_ruleOn_87 rfl ?_
        have ee : ((if ((if ((I 79 a5.toNatClampNeg) : Int32) = a1 then if ((I 80 a5.toNatClampNeg) : Int32) = a2 then if a3 < ((I 81 a5.toNatClampNeg) : Int32) then 0 else 1 else 0 else 0) : Int32) = 0 then a4 else if a4 < 0 then a5 else if ((I 81 a5.toNatClampNeg) : Int32) < (I 81 a4.toNatClampNeg) then a4 else a5) : Int32) = a4 := by rw [if_pos g7]
        rw [ee] at key11
        clear ee
        refine z_sub [0, 1, 2, 3, 5] rfl ?_
        exact key11
      · refine z_iload 4 dX13_ruleOn_60 rfl ?_
        refine z_if_lt 82 dX13_ruleOn_62 (by decide) (fun g8 => ?_) (fun g8 => ?_)
        · refine z_iload 5 dX13_ruleOn_82 rfl ?_
          refine z_goto 89 dX13_ruleOn_84 (by decide) ?_
          have ee : ((if ((if ((I 79 a5.toNatClampNeg) : Int32) = a1 then if ((I 80 a5.toNatClampNeg) : Int32) = a2 then if a3 < ((I 81 a5.toNatClampNeg) : Int32) then 0 else 1 else 0 else 0) : Int32) = 0 then a4 else if a4 < 0 then a5 else if ((I 81 a5.toNatClampNeg) : Int32) < (I 81 a4.toNatClampNeg) then a4 else a5) : Int32) = a5 := by rw [if_neg g7, if_pos g8]
          rw [ee] at key11
          clear ee
          refine z_sub [0, 1, 2, 3, 5] rfl ?_
          exact key11
        · refine z_aload_n 0 dX13_ruleOn_65 rfl ?_
          refine fg_13_74 (some 81) rfl dX13_ruleOn_66 hL.1 hL.2.1 (ma_27 hL).1 ?_
          refine z_iload 5 dX13_ruleOn_69 rfl ?_
          refine z_iald (I 81 a5.toNatClampNeg) dX13_ruleOn_71 (ma_27 hL).2.1 (ma_27 hL).2.2 o2 rfl ?_
          refine z_aload_n 0 dX13_ruleOn_72 rfl ?_
          refine fg_13_74 (some 81) rfl dX13_ruleOn_73 hL.1 hL.2.1 (ma_27 hL).1 ?_
          refine z_iload 4 dX13_ruleOn_76 rfl ?_
          refine z_iald (I 81 a4.toNatClampNeg) dX13_ruleOn_78 (ma_27 hL).2.1 (ma_27 hL).2.2 (o9 g7 g8) rfl ?_
          refine z_icmp_lt 87 dX13_ruleOn_79 (by decide) (fun g10 => ?_) (fun g10 => ?_)
          · refine z_iload 4 dX13_ruleOn_87 rfl ?_
            have ee : ((if ((if ((I 79 a5.toNatClampNeg) : Int32) = a1 then if ((I 80 a5.toNatClampNeg) : Int32) = a2 then if a3 < ((I 81 a5.toNatClampNeg) : Int32) then 0 else 1 else 0 else 0) : Int32) = 0 then a4 else if a4 < 0 then a5 else if ((I 81 a5.toNatClampNeg) : Int32) < (I 81 a4.toNatClampNeg) then a4 else a5) : Int32) = a4 := by rw [if_neg g7, if_neg g8, if_pos g10]
            rw [ee] at key11
            clear ee
            refine z_sub [0, 1, 2, 3, 5] rfl ?_
            exact key11
          · refine z_iload 5 dX13_ruleOn_82 rfl ?_
            refine z_goto 89 dX13_ruleOn_84 (by decide) ?_
            have ee : ((if ((if ((I 79 a5.toNatClampNeg) : Int32) = a1 then if ((I 80 a5.toNatClampNeg) : Int32) = a2 then if a3 < ((I 81 a5.toNatClampNeg) : Int32) then 0 else 1 else 0 else 0) : Int32) = 0 then a4 else if a4 < 0 then a5 else if ((I 81 a5.toNatClampNeg) : Int32) < (I 81 a4.toNatClampNeg) then a4 else a5) : Int32) = a5 := by rw [if_neg g7, if_neg g8, if_neg g10]
            rw [ee] at key11
            clear ee
            refine z_sub [0, 1, 2, 3, 5] rfl ?_
            exact key11
    refine z_icmp_ne 52 dX13_ruleOn_23 (by decide) (fun g3 => ?_) (fun g3 => ?_)
    · refine z_iconst 0 dX13_ruleOn_52 (by decide) ?_
      have ee : ((if ((I 79 a5.toNatClampNeg) : Int32) = a1 then if ((I 80 a5.toNatClampNeg) : Int32) = a2 then if a3 < ((I 81 a5.toNatClampNeg) : Int32) then 0 else 1 else 0 else 0) : Int32) = 0 := by rw [if_neg g3]
      rw [ee] at key6
      clear ee
      exact key6
    · refine z_aload_n 0 dX13_ruleOn_26 rfl ?_
      refine fg_13_71 (some 80) rfl dX13_ruleOn_27 hL.1 hL.2.1 (ma_26 hL).1 ?_
      refine z_iload 5 dX13_ruleOn_30 rfl ?_
      refine z_iald (I 80 a5.toNatClampNeg) dX13_ruleOn_32 (ma_26 hL).2.1 (ma_26 hL).2.2 o2 rfl ?_
      refine z_iload_n 2 dX13_ruleOn_33 rfl ?_
      refine z_icmp_ne 52 dX13_ruleOn_34 (by decide) (fun g4 => ?_) (fun g4 => ?_)
      · refine z_iconst 0 dX13_ruleOn_52 (by decide) ?_
        have ee : ((if ((I 79 a5.toNatClampNeg) : Int32) = a1 then if ((I 80 a5.toNatClampNeg) : Int32) = a2 then if a3 < ((I 81 a5.toNatClampNeg) : Int32) then 0 else 1 else 0 else 0) : Int32) = 0 := by rw [if_pos g3, if_neg g4]
        rw [ee] at key6
        clear ee
        exact key6
      · refine z_aload_n 0 dX13_ruleOn_37 rfl ?_
        refine fg_13_74 (some 81) rfl dX13_ruleOn_38 hL.1 hL.2.1 (ma_27 hL).1 ?_
        refine z_iload 5 dX13_ruleOn_41 rfl ?_
        refine z_iald (I 81 a5.toNatClampNeg) dX13_ruleOn_43 (ma_27 hL).2.1 (ma_27 hL).2.2 o2 rfl ?_
        refine z_iload_n 3 dX13_ruleOn_44 rfl ?_
        refine z_icmp_gt 52 dX13_ruleOn_45 (by decide) (fun g5 => ?_) (fun g5 => ?_)
        · refine z_iconst 0 dX13_ruleOn_52 (by decide) ?_
          have ee : ((if ((I 79 a5.toNatClampNeg) : Int32) = a1 then if ((I 80 a5.toNatClampNeg) : Int32) = a2 then if a3 < ((I 81 a5.toNatClampNeg) : Int32) then 0 else 1 else 0 else 0) : Int32) = 0 := by rw [if_pos g3, if_pos g4, if_pos g5]
          rw [ee] at key6
          clear ee
          exact key6
        · refine z_iconst 1 dX13_ruleOn_48 (by decide) ?_
          refine z_goto 53 dX13_ruleOn_49 (by decide) ?_
          have ee : ((if ((I 79 a5.toNatClampNeg) : Int32) = a1 then if ((I 80 a5.toNatClampNeg) : Int32) = a2 then if a3 < ((I 81 a5.toNatClampNeg) : Int32) then 0 else 1 else 0 else 0) : Int32) = 1 := by rw [if_pos g3, if_pos g4, if_neg g5]
          rw [ee] at key6
          clear ee
          exact key6
theorem dX13_wrongPoint_0 : decode cX13_wrongPoint 0 = .ok (.aload_n 0, 1) := by decide +kernel
theorem dX13_wrongPoint_1 : decode cX13_wrongPoint 1 = .ok (.iload_n 1, 1) := by decide +kernel
theorem dX13_wrongPoint_2 : decode cX13_wrongPoint 2 = .ok (.iload_n 2, 1) := by decide +kernel
theorem dX13_wrongPoint_3 : decode cX13_wrongPoint 3 = .ok (.invokevirtual 445, 3) := by decide +kernel
theorem dX13_wrongPoint_6 : decode cX13_wrongPoint 6 = .ok (.ifCond .ne 7, 3) := by decide +kernel
theorem dX13_wrongPoint_9 : decode cX13_wrongPoint 9 = .ok (.iconst (-1), 1) := by decide +kernel
theorem dX13_wrongPoint_10 : decode cX13_wrongPoint 10 = .ok (.goto 11, 3) := by decide +kernel
theorem dX13_wrongPoint_13 : decode cX13_wrongPoint 13 = .ok (.iload_n 3, 1) := by decide +kernel
theorem dX13_wrongPoint_14 : decode cX13_wrongPoint 14 = .ok (.iconst 0, 1) := by decide +kernel
theorem dX13_wrongPoint_15 : decode cX13_wrongPoint 15 = .ok (.sipush 1000, 3) := by decide +kernel
theorem dX13_wrongPoint_18 : decode cX13_wrongPoint 18 = .ok (.invokestatic 324, 3) := by decide +kernel
theorem dX13_wrongPoint_21 : decode cX13_wrongPoint 21 = .ok (.ireturn, 1) := by decide +kernel
set_option maxRecDepth 100000 in
set_option maxHeartbeats 4000000 in
theorem wp_X13_wrongPoint {n0 d : Nat} {K : z_K} {I : z_I} {L : z_L} {Q : z_q} {p0 : Int32} {p1 : Int32} {p2 : Int32} (hL : MLay K) (h : RM0 n0 xX13_isPoint d [.ref (n0 + 59), .int p0, .int p1] K I L (fun vv I1 L2 => ∃ r3 : Int32, vv = some (.int r3) ∧ (if r3 = 0 then Q (some (.int (-1))) I1 L2 else RM0 n0 xX13_bounds d [.int p2, .int 0, .int 1000] K I1 L2 (fun vv I5 L6 => ∃ r7 : Int32, vv = some (.int r7) ∧ Q (some (.int r7)) I5 L6)))) : RM0 n0 xX13_wrongPoint (d + 1) [.ref (n0 + 59), .int p0, .int p1, .int p2] K I L Q := by
  refine z_entry0 (by decide) (Nat.le_of_ble_eq_true rfl) ?_
  change Z n0 xX13_wrongPoint (d + 1) 0 0 0 [(0, .ref (n0 + 59)), (1, .int p0), (2, .int p1), (3, .int p2)] [] K I L (z_q0 K Q)
  refine z_aload_n 0 dX13_wrongPoint_0 rfl ?_
  refine z_iload_n 1 dX13_wrongPoint_1 rfl ?_
  refine z_iload_n 2 dX13_wrongPoint_2 rfl ?_
  refine z_callV0 (As := [.int p0, .int p1]) (st := []) dX13_wrongPoint_3 hy_X13_isPoint hL.1 hL.2.1 (by decide) wg_1855 wg_1857 wg_60 (Nat.le_refl _) (Nat.le_of_ble_eq_true rfl) (RM0.mono h (fun vv I1 L2 h => ?_))
  obtain ⟨r3, rfl, h⟩ := h
  change Z n0 xX13_wrongPoint (d + 1) 0 0 6 [(0, .ref (n0 + 59)), (1, .int p0), (2, .int p1), (3, .int p2)] [.int r3] K I1 L2 (z_q0 K Q)
  refine z_if_ne 13 dX13_wrongPoint_6 (by decide) (fun g4 => ?_) (fun g4 => ?_)
  · rw [if_neg g4] at h
    refine z_iload_n 3 dX13_wrongPoint_13 rfl ?_
    refine z_iconst 0 dX13_wrongPoint_14 (by decide) ?_
    refine z_sipush 1000 dX13_wrongPoint_15 (by decide) ?_
    refine z_callS0 (As := [.int p2, .int 0, .int 1000]) (st := []) dX13_wrongPoint_18 hy_X13_bounds wg_1797 wg_1798 (Nat.le_refl _) (Nat.le_of_ble_eq_true rfl) (RM0.mono h (fun vv I5 L6 h => ?_))
    obtain ⟨r7, rfl, h⟩ := h
    change Z n0 xX13_wrongPoint (d + 1) 0 0 21 [(0, .ref (n0 + 59)), (1, .int p0), (2, .int p1), (3, .int p2)] [.int r7] K I5 L6 (z_q0 K Q)
    exact z_iret dX13_wrongPoint_21 rfl ⟨rfl, h⟩
  · rw [if_pos g4] at h
    refine z_iconst (-1) dX13_wrongPoint_9 (by decide) ?_
    refine z_goto 21 dX13_wrongPoint_10 (by decide) ?_
    exact z_iret dX13_wrongPoint_21 rfl ⟨rfl, h⟩
theorem dX13_quarrel_0 : decode cX13_quarrel 0 = .ok (.aload_n 0, 1) := by decide +kernel
theorem dX13_quarrel_1 : decode cX13_quarrel 1 = .ok (.iload_n 1, 1) := by decide +kernel
theorem dX13_quarrel_2 : decode cX13_quarrel 2 = .ok (.iload_n 2, 1) := by decide +kernel
theorem dX13_quarrel_3 : decode cX13_quarrel 3 = .ok (.iload_n 3, 1) := by decide +kernel
theorem dX13_quarrel_4 : decode cX13_quarrel 4 = .ok (.invokevirtual 455, 3) := by decide +kernel
theorem dX13_quarrel_7 : decode cX13_quarrel 7 = .ok (.istore 4, 2) := by decide +kernel
theorem dX13_quarrel_9 : decode cX13_quarrel 9 = .ok (.iload 4, 2) := by decide +kernel
theorem dX13_quarrel_11 : decode cX13_quarrel 11 = .ok (.ifCond .ge 10, 3) := by decide +kernel
theorem dX13_quarrel_14 : decode cX13_quarrel 14 = .ok (.aload_n 0, 1) := by decide +kernel
theorem dX13_quarrel_15 : decode cX13_quarrel 15 = .ok (.iload 4, 2) := by decide +kernel
theorem dX13_quarrel_17 : decode cX13_quarrel 17 = .ok (.invokevirtual 308, 3) := by decide +kernel
theorem dX13_quarrel_20 : decode cX13_quarrel 20 = .ok (.ireturn, 1) := by decide +kernel
theorem dX13_quarrel_21 : decode cX13_quarrel 21 = .ok (.aload_n 0, 1) := by decide +kernel
theorem dX13_quarrel_22 : decode cX13_quarrel 22 = .ok (.iload_n 1, 1) := by decide +kernel
theorem dX13_quarrel_23 : decode cX13_quarrel 23 = .ok (.iload_n 2, 1) := by decide +kernel
theorem dX13_quarrel_24 : decode cX13_quarrel 24 = .ok (.iload_n 3, 1) := by decide +kernel
theorem dX13_quarrel_25 : decode cX13_quarrel 25 = .ok (.invokevirtual 458, 3) := by decide +kernel
theorem dX13_quarrel_28 : decode cX13_quarrel 28 = .ok (.istore 5, 2) := by decide +kernel
theorem dX13_quarrel_30 : decode cX13_quarrel 30 = .ok (.iconst 0, 1) := by decide +kernel
theorem dX13_quarrel_31 : decode cX13_quarrel 31 = .ok (.istore 6, 2) := by decide +kernel
theorem dX13_quarrel_33 : decode cX13_quarrel 33 = .ok (.iconst 0, 1) := by decide +kernel
theorem dX13_quarrel_34 : decode cX13_quarrel 34 = .ok (.istore 7, 2) := by decide +kernel
theorem dX13_quarrel_36 : decode cX13_quarrel 36 = .ok (.iload 7, 2) := by decide +kernel
theorem dX13_quarrel_38 : decode cX13_quarrel 38 = .ok (.aload_n 0, 1) := by decide +kernel
theorem dX13_quarrel_39 : decode cX13_quarrel 39 = .ok (.getfield 449, 3) := by decide +kernel
theorem dX13_quarrel_42 : decode cX13_quarrel 42 = .ok (.if_icmp .ge 63, 3) := by decide +kernel
theorem dX13_quarrel_45 : decode cX13_quarrel 45 = .ok (.iload 5, 2) := by decide +kernel
theorem dX13_quarrel_47 : decode cX13_quarrel 47 = .ok (.ifCond .lt 58, 3) := by decide +kernel
theorem dX13_quarrel_50 : decode cX13_quarrel 50 = .ok (.iload 6, 2) := by decide +kernel
theorem dX13_quarrel_52 : decode cX13_quarrel 52 = .ok (.aload_n 0, 1) := by decide +kernel
theorem dX13_quarrel_53 : decode cX13_quarrel 53 = .ok (.getfield 68, 3) := by decide +kernel
theorem dX13_quarrel_56 : decode cX13_quarrel 56 = .ok (.iload 7, 2) := by decide +kernel
theorem dX13_quarrel_58 : decode cX13_quarrel 58 = .ok (.iaload, 1) := by decide +kernel
theorem dX13_quarrel_59 : decode cX13_quarrel 59 = .ok (.iload_n 1, 1) := by decide +kernel
theorem dX13_quarrel_60 : decode cX13_quarrel 60 = .ok (.if_icmp .ne 35, 3) := by decide +kernel
theorem dX13_quarrel_63 : decode cX13_quarrel 63 = .ok (.aload_n 0, 1) := by decide +kernel
theorem dX13_quarrel_64 : decode cX13_quarrel 64 = .ok (.getfield 71, 3) := by decide +kernel
theorem dX13_quarrel_67 : decode cX13_quarrel 67 = .ok (.iload 7, 2) := by decide +kernel
theorem dX13_quarrel_69 : decode cX13_quarrel 69 = .ok (.iaload, 1) := by decide +kernel
theorem dX13_quarrel_70 : decode cX13_quarrel 70 = .ok (.iload_n 2, 1) := by decide +kernel
theorem dX13_quarrel_71 : decode cX13_quarrel 71 = .ok (.if_icmp .ne 24, 3) := by decide +kernel
theorem dX13_quarrel_74 : decode cX13_quarrel 74 = .ok (.aload_n 0, 1) := by decide +kernel
theorem dX13_quarrel_75 : decode cX13_quarrel 75 = .ok (.getfield 74, 3) := by decide +kernel
theorem dX13_quarrel_78 : decode cX13_quarrel 78 = .ok (.iload 7, 2) := by decide +kernel
theorem dX13_quarrel_80 : decode cX13_quarrel 80 = .ok (.iaload, 1) := by decide +kernel
theorem dX13_quarrel_81 : decode cX13_quarrel 81 = .ok (.aload_n 0, 1) := by decide +kernel
theorem dX13_quarrel_82 : decode cX13_quarrel 82 = .ok (.getfield 74, 3) := by decide +kernel
theorem dX13_quarrel_85 : decode cX13_quarrel 85 = .ok (.iload 5, 2) := by decide +kernel
theorem dX13_quarrel_87 : decode cX13_quarrel 87 = .ok (.iaload, 1) := by decide +kernel
theorem dX13_quarrel_88 : decode cX13_quarrel 88 = .ok (.if_icmp .ne 7, 3) := by decide +kernel
theorem dX13_quarrel_91 : decode cX13_quarrel 91 = .ok (.iconst 1, 1) := by decide +kernel
theorem dX13_quarrel_92 : decode cX13_quarrel 92 = .ok (.goto 4, 3) := by decide +kernel
theorem dX13_quarrel_95 : decode cX13_quarrel 95 = .ok (.iconst 0, 1) := by decide +kernel
theorem dX13_quarrel_96 : decode cX13_quarrel 96 = .ok (.iadd, 1) := by decide +kernel
theorem dX13_quarrel_97 : decode cX13_quarrel 97 = .ok (.istore 6, 2) := by decide +kernel
theorem dX13_quarrel_99 : decode cX13_quarrel 99 = .ok (.iinc 7 1, 3) := by decide +kernel
theorem dX13_quarrel_102 : decode cX13_quarrel 102 = .ok (.goto (-66), 3) := by decide +kernel
theorem dX13_quarrel_105 : decode cX13_quarrel 105 = .ok (.iload 6, 2) := by decide +kernel
theorem dX13_quarrel_107 : decode cX13_quarrel 107 = .ok (.ireturn, 1) := by decide +kernel
set_option maxRecDepth 100000 in
set_option maxHeartbeats 4000000 in
theorem wp_X13_quarrel {n0 d : Nat} {K : z_K} {I : z_I} {L : z_L} {Q : z_q} {p0 : Int32} {p1 : Int32} {p2 : Int32} (hL : MLay K) (h : RM0 n0 xX13_wrongPoint d [.ref (n0 + 59), .int p0, .int p1, .int p2] K I L (fun vv I1 L2 => ∃ r3 : Int32, vv = some (.int r3) ∧ (if r3 < 0 then RM0 n0 xX13_refuse d [.ref (n0 + 59), .int r3] K I1 L2 (fun vv I8 L9 => ∃ r10 : Int32, vv = some (.int r10) ∧ Q (some (.int r10)) I8 L9) else RM0 n0 xX13_ruleOn d [.ref (n0 + 59), .int p0, .int p1, .int p2] K I1 L2 (fun vv I5 L6 => ∃ r7 : Int32, vv = some (.int r7) ∧ Z n0 xX13_quarrel (d + 1) 0 0 36 [(0, .ref (n0 + 59)), (1, .int p0), (2, .int p1), (5, .int r7), (6, .int 0), (7, .int 0)] [] K I5 L6 (z_q0 K Q))))) : RM0 n0 xX13_quarrel (d + 1) [.ref (n0 + 59), .int p0, .int p1, .int p2] K I L Q := by
  refine z_entry0 (by decide) (Nat.le_of_ble_eq_true rfl) ?_
  change Z n0 xX13_quarrel (d + 1) 0 0 0 [(0, .ref (n0 + 59)), (1, .int p0), (2, .int p1), (3, .int p2)] [] K I L (z_q0 K Q)
  refine z_aload_n 0 dX13_quarrel_0 rfl ?_
  refine z_iload_n 1 dX13_quarrel_1 rfl ?_
  refine z_iload_n 2 dX13_quarrel_2 rfl ?_
  refine z_iload_n 3 dX13_quarrel_3 rfl ?_
  refine z_callV0 (As := [.int p0, .int p1, .int p2]) (st := []) dX13_quarrel_4 hy_X13_wrongPoint hL.1 hL.2.1 (by decide) wg_1918 wg_1920 wg_72 (Nat.le_refl _) (Nat.le_of_ble_eq_true rfl) (RM0.mono h (fun vv I1 L2 h => ?_))
  obtain ⟨r3, rfl, h⟩ := h
  change Z n0 xX13_quarrel (d + 1) 0 0 7 [(0, .ref (n0 + 59)), (1, .int p0), (2, .int p1), (3, .int p2)] [.int r3] K I1 L2 (z_q0 K Q)
  refine z_istore [1, 2, 3, 4, 0] [(0, .ref (n0 + 59)), (1, .int p0), (2, .int p1), (3, .int p2), (4, .int r3)] dX13_quarrel_7 (by decide) rfl ?_
  refine z_iload 4 dX13_quarrel_9 rfl ?_
  refine z_if_ge 21 dX13_quarrel_11 (by decide) (fun g4 => ?_) (fun g4 => ?_)
  · rw [if_neg g4] at h
    refine z_aload_n 0 dX13_quarrel_21 rfl ?_
    refine z_iload_n 1 dX13_quarrel_22 rfl ?_
    refine z_iload_n 2 dX13_quarrel_23 rfl ?_
    refine z_iload_n 3 dX13_quarrel_24 rfl ?_
    refine z_callV0 (As := [.int p0, .int p1, .int p2]) (st := []) dX13_quarrel_25 hy_X13_ruleOn hL.1 hL.2.1 (by decide) wg_1922 wg_1924 wg_73 (Nat.le_refl _) (Nat.le_of_ble_eq_true rfl) (RM0.mono h (fun vv I5 L6 h => ?_))
    obtain ⟨r7, rfl, h⟩ := h
    change Z n0 xX13_quarrel (d + 1) 0 0 28 [(0, .ref (n0 + 59)), (1, .int p0), (2, .int p1), (3, .int p2), (4, .int r3)] [.int r7] K I5 L6 (z_q0 K Q)
    refine z_istore [1, 2, 3, 4, 5, 0] [(0, .ref (n0 + 59)), (1, .int p0), (2, .int p1), (3, .int p2), (4, .int r3), (5, .int r7)] dX13_quarrel_28 (by decide) rfl ?_
    refine z_iconst 0 dX13_quarrel_30 (by decide) ?_
    refine z_istore [1, 2, 3, 4, 5, 6, 0] [(0, .ref (n0 + 59)), (1, .int p0), (2, .int p1), (3, .int p2), (4, .int r3), (5, .int r7), (6, .int 0)] dX13_quarrel_31 (by decide) rfl ?_
    refine z_iconst 0 dX13_quarrel_33 (by decide) ?_
    refine z_istore [1, 2, 3, 4, 5, 6, 7, 0] [(0, .ref (n0 + 59)), (1, .int p0), (2, .int p1), (3, .int p2), (4, .int r3), (5, .int r7), (6, .int 0), (7, .int 0)] dX13_quarrel_34 (by decide) rfl ?_
    refine z_sub [0, 1, 2, 5, 6, 7] rfl ?_
    exact h
  · rw [if_pos g4] at h
    refine z_aload_n 0 dX13_quarrel_14 rfl ?_
    refine z_iload 4 dX13_quarrel_15 rfl ?_
    refine z_callV0 (As := [.int r3]) (st := []) dX13_quarrel_17 hy_X13_refuse hL.1 hL.2.1 (by decide) wg_1778 wg_1780 wg_54 (Nat.le_refl _) (Nat.le_of_ble_eq_true rfl) (RM0.mono h (fun vv I8 L9 h => ?_))
    obtain ⟨r10, rfl, h⟩ := h
    change Z n0 xX13_quarrel (d + 1) 0 0 20 [(0, .ref (n0 + 59)), (1, .int p0), (2, .int p1), (3, .int p2), (4, .int r3)] [.int r10] K I8 L9 (z_q0 K Q)
    exact z_iret dX13_quarrel_20 rfl ⟨rfl, h⟩
set_option maxRecDepth 100000 in
set_option maxHeartbeats 4000000 in
theorem wp_X13_quarrel_36 {n0 d : Nat} {rc rs : Nat} {K : z_K} {I : z_I} {L : z_L} {Q : z_q} {a1 : Int32} {a2 : Int32} {a5 : Int32} {a6 : Int32} {a7 : Int32} (hL : MLay K) (h : (if a7 < (I 59 22) then (if a5 < 0 then Q (some (.int a6)) I L else vp_in a7 120 ∧ (((I 79 a7.toNatClampNeg) : Int32) = a1 → ((I 80 a7.toNatClampNeg) : Int32) = a2 → vp_in a5 120) ∧ Z n0 xX13_quarrel (d + 1) rc rs 36 [(0, .ref (n0 + 59)), (1, .int a1), (2, .int a2), (5, .int a5), (6, .int (a6 + (if ((I 79 a7.toNatClampNeg) : Int32) = a1 then if ((I 80 a7.toNatClampNeg) : Int32) = a2 then if ((I 81 a7.toNatClampNeg) : Int32) = (I 81 a5.toNatClampNeg) then 1 else 0 else 0 else 0))), (7, .int (a7 + 1))] [] K I L (z_q0 K Q)) else Q (some (.int a6)) I L)) : Z n0 xX13_quarrel (d + 1) rc rs 36 [(0, .ref (n0 + 59)), (1, .int a1), (2, .int a2), (5, .int a5), (6, .int a6), (7, .int a7)] [] K I L (z_q0 K Q) := by
  refine z_iload 5 dX13_quarrel_36 rfl ?_
  refine z_aload_n 0 dX13_quarrel_38 rfl ?_
  refine fg_13_449 (I 59 22) rfl dX13_quarrel_39 hL.1 hL.2.1 rfl ?_
  refine z_icmp_ge 105 dX13_quarrel_42 (by decide) (fun g1 => ?_) (fun g1 => ?_)
  · rw [if_neg g1] at h
    refine z_iload 4 dX13_quarrel_105 rfl ?_
    exact z_iret dX13_quarrel_107 rfl ⟨rfl, h⟩
  · rw [if_pos g1] at h
    refine z_iload 3 dX13_quarrel_45 rfl ?_
    refine z_if_lt 105 dX13_quarrel_47 (by decide) (fun g2 => ?_) (fun g2 => ?_)
    · rw [if_pos g2] at h
      refine z_iload 4 dX13_quarrel_105 rfl ?_
      exact z_iret dX13_quarrel_107 rfl ⟨rfl, h⟩
    · rw [if_neg g2] at h
      refine z_iload 4 dX13_quarrel_50 rfl ?_
      refine z_aload_n 0 dX13_quarrel_52 rfl ?_
      refine fg_13_68 (some 79) rfl dX13_quarrel_53 hL.1 hL.2.1 (ma_25 hL).1 ?_
      refine z_iload 5 dX13_quarrel_56 rfl ?_
      obtain ⟨o3, h⟩ := h
      refine z_iald (I 79 a7.toNatClampNeg) dX13_quarrel_58 (ma_25 hL).2.1 (ma_25 hL).2.2 o3 rfl ?_
      refine z_iload_n 1 dX13_quarrel_59 rfl ?_
      obtain ⟨o6, h⟩ := h
      have key8 : Z n0 xX13_quarrel (d + 1) rc rs 96 [(0, .ref (n0 + 59)), (1, .int a1), (2, .int a2), (5, .int a5), (7, .int a7)] [.int (if ((I 79 a7.toNatClampNeg) : Int32) = a1 then if ((I 80 a7.toNatClampNeg) : Int32) = a2 then if ((I 81 a7.toNatClampNeg) : Int32) = (I 81 a5.toNatClampNeg) then 1 else 0 else 0 else 0), .int a6] K I L (z_q0 K Q) := by
        refine z_iadd dX13_quarrel_96 ?_
        refine z_istore [1, 2, 3, 4, 0, 5] [(0, .ref (n0 + 59)), (1, .int a1), (2, .int a2), (5, .int a5), (6, .int (a6 + (if ((I 79 a7.toNatClampNeg) : Int32) = a1 then if ((I 80 a7.toNatClampNeg) : Int32) = a2 then if ((I 81 a7.toNatClampNeg) : Int32) = (I 81 a5.toNatClampNeg) then 1 else 0 else 0 else 0))), (7, .int a7)] dX13_quarrel_97 (by decide) rfl ?_
        refine z_iinc (j := 5) (a7 + 1) [1, 2, 3, 4, 5, 0] [(0, .ref (n0 + 59)), (1, .int a1), (2, .int a2), (5, .int a5), (6, .int (a6 + (if ((I 79 a7.toNatClampNeg) : Int32) = a1 then if ((I 80 a7.toNatClampNeg) : Int32) = a2 then if ((I 81 a7.toNatClampNeg) : Int32) = (I 81 a5.toNatClampNeg) then 1 else 0 else 0 else 0))), (7, .int (a7 + 1))] dX13_quarrel_99 rfl rfl (by decide) rfl ?_
        refine z_goto 36 dX13_quarrel_102 (by decide) ?_
        exact h
      refine z_icmp_ne 95 dX13_quarrel_60 (by decide) (fun g4 => ?_) (fun g4 => ?_)
      · refine z_iconst 0 dX13_quarrel_95 (by decide) ?_
        have ee : ((if ((I 79 a7.toNatClampNeg) : Int32) = a1 then if ((I 80 a7.toNatClampNeg) : Int32) = a2 then if ((I 81 a7.toNatClampNeg) : Int32) = (I 81 a5.toNatClampNeg) then 1 else 0 else 0 else 0) : Int32) = 0 := by rw [if_neg g4]
        rw [ee] at key8
        clear ee
        refine z_sub [0, 1, 2, 3, 5] rfl ?_
        exact key8
      · refine z_aload_n 0 dX13_quarrel_63 rfl ?_
        refine fg_13_71 (some 80) rfl dX13_quarrel_64 hL.1 hL.2.1 (ma_26 hL).1 ?_
        refine z_iload 5 dX13_quarrel_67 rfl ?_
        refine z_iald (I 80 a7.toNatClampNeg) dX13_quarrel_69 (ma_26 hL).2.1 (ma_26 hL).2.2 o3 rfl ?_
        refine z_iload_n 2 dX13_quarrel_70 rfl ?_
        refine z_icmp_ne 95 dX13_quarrel_71 (by decide) (fun g5 => ?_) (fun g5 => ?_)
        · refine z_iconst 0 dX13_quarrel_95 (by decide) ?_
          have ee : ((if ((I 79 a7.toNatClampNeg) : Int32) = a1 then if ((I 80 a7.toNatClampNeg) : Int32) = a2 then if ((I 81 a7.toNatClampNeg) : Int32) = (I 81 a5.toNatClampNeg) then 1 else 0 else 0 else 0) : Int32) = 0 := by rw [if_pos g4, if_neg g5]
          rw [ee] at key8
          clear ee
          refine z_sub [0, 1, 2, 3, 5] rfl ?_
          exact key8
        · refine z_aload_n 0 dX13_quarrel_74 rfl ?_
          refine fg_13_74 (some 81) rfl dX13_quarrel_75 hL.1 hL.2.1 (ma_27 hL).1 ?_
          refine z_iload 5 dX13_quarrel_78 rfl ?_
          refine z_iald (I 81 a7.toNatClampNeg) dX13_quarrel_80 (ma_27 hL).2.1 (ma_27 hL).2.2 o3 rfl ?_
          refine z_aload_n 0 dX13_quarrel_81 rfl ?_
          refine fg_13_74 (some 81) rfl dX13_quarrel_82 hL.1 hL.2.1 (ma_27 hL).1 ?_
          refine z_iload 3 dX13_quarrel_85 rfl ?_
          refine z_iald (I 81 a5.toNatClampNeg) dX13_quarrel_87 (ma_27 hL).2.1 (ma_27 hL).2.2 (o6 g4 g5) rfl ?_
          refine z_icmp_ne 95 dX13_quarrel_88 (by decide) (fun g7 => ?_) (fun g7 => ?_)
          · refine z_iconst 0 dX13_quarrel_95 (by decide) ?_
            have ee : ((if ((I 79 a7.toNatClampNeg) : Int32) = a1 then if ((I 80 a7.toNatClampNeg) : Int32) = a2 then if ((I 81 a7.toNatClampNeg) : Int32) = (I 81 a5.toNatClampNeg) then 1 else 0 else 0 else 0) : Int32) = 0 := by rw [if_pos g4, if_pos g5, if_neg g7]
            rw [ee] at key8
            clear ee
            refine z_sub [0, 1, 2, 3, 5] rfl ?_
            exact key8
          · refine z_iconst 1 dX13_quarrel_91 (by decide) ?_
            refine z_goto 96 dX13_quarrel_92 (by decide) ?_
            have ee : ((if ((I 79 a7.toNatClampNeg) : Int32) = a1 then if ((I 80 a7.toNatClampNeg) : Int32) = a2 then if ((I 81 a7.toNatClampNeg) : Int32) = (I 81 a5.toNatClampNeg) then 1 else 0 else 0 else 0) : Int32) = 1 := by rw [if_pos g4, if_pos g5, if_pos g7]
            rw [ee] at key8
            clear ee
            refine z_sub [0, 1, 2, 3, 5] rfl ?_
            exact key8
theorem dX13_readRule_0 : decode cX13_readRule 0 = .ok (.aload_n 0, 1) := by decide +kernel
theorem dX13_readRule_1 : decode cX13_readRule 1 = .ok (.iconst 1, 1) := by decide +kernel
theorem dX13_readRule_2 : decode cX13_readRule 2 = .ok (.putfield 354, 3) := by decide +kernel
theorem dX13_readRule_5 : decode cX13_readRule 5 = .ok (.aload_n 0, 1) := by decide +kernel
theorem dX13_readRule_6 : decode cX13_readRule 6 = .ok (.bipush 60, 2) := by decide +kernel
theorem dX13_readRule_8 : decode cX13_readRule 8 = .ok (.iload_n 1, 1) := by decide +kernel
theorem dX13_readRule_9 : decode cX13_readRule 9 = .ok (.imul, 1) := by decide +kernel
theorem dX13_readRule_10 : decode cX13_readRule 10 = .ok (.putfield 358, 3) := by decide +kernel
theorem dX13_readRule_13 : decode cX13_readRule 13 = .ok (.aload_n 0, 1) := by decide +kernel
theorem dX13_readRule_14 : decode cX13_readRule 14 = .ok (.aload_n 0, 1) := by decide +kernel
theorem dX13_readRule_15 : decode cX13_readRule 15 = .ok (.getfield 65, 3) := by decide +kernel
theorem dX13_readRule_18 : decode cX13_readRule 18 = .ok (.iload_n 1, 1) := by decide +kernel
theorem dX13_readRule_19 : decode cX13_readRule 19 = .ok (.iaload, 1) := by decide +kernel
theorem dX13_readRule_20 : decode cX13_readRule 20 = .ok (.putfield 351, 3) := by decide +kernel
theorem dX13_readRule_23 : decode cX13_readRule 23 = .ok (.aload_n 0, 1) := by decide +kernel
theorem dX13_readRule_24 : decode cX13_readRule 24 = .ok (.aload_n 0, 1) := by decide +kernel
theorem dX13_readRule_25 : decode cX13_readRule 25 = .ok (.getfield 71, 3) := by decide +kernel
theorem dX13_readRule_28 : decode cX13_readRule 28 = .ok (.iload_n 1, 1) := by decide +kernel
theorem dX13_readRule_29 : decode cX13_readRule 29 = .ok (.iaload, 1) := by decide +kernel
theorem dX13_readRule_30 : decode cX13_readRule 30 = .ok (.putfield 411, 3) := by decide +kernel
theorem dX13_readRule_33 : decode cX13_readRule 33 = .ok (.aload_n 0, 1) := by decide +kernel
theorem dX13_readRule_34 : decode cX13_readRule 34 = .ok (.invokevirtual 452, 3) := by decide +kernel
theorem dX13_readRule_37 : decode cX13_readRule 37 = .ok (.return_, 1) := by decide +kernel
set_option maxRecDepth 100000 in
set_option maxHeartbeats 4000000 in
theorem wp_X13_readRule {n0 d : Nat} {K : z_K} {I : z_I} {L : z_L} {Q : z_q} {p0 : Int32} (hL : MLay K) (h : vp_in p0 120 ∧ RM0 n0 xX13_readText d [.ref (n0 + 59)] K (zI (zI (zI (zI I 59 28 1) 59 29 (60 * p0)) 59 30 (I 78 p0.toNatClampNeg)) 59 32 (I 80 p0.toNatClampNeg)) L (fun vv I2 L3 => vv = none ∧ Q none I2 L3)) : RM0 n0 xX13_readRule (d + 1) [.ref (n0 + 59), .int p0] K I L Q := by
  refine z_entry0 (by decide) (Nat.le_of_ble_eq_true rfl) ?_
  change Z n0 xX13_readRule (d + 1) 0 0 0 [(0, .ref (n0 + 59)), (1, .int p0)] [] K I L (z_q0 K Q)
  refine z_aload_n 0 dX13_readRule_0 rfl ?_
  refine z_iconst 1 dX13_readRule_1 (by decide) ?_
  refine fp_13_354 rfl dX13_readRule_2 hL.1 hL.2.1 (Or.inr rfl) ?_
  refine z_aload_n 0 dX13_readRule_5 rfl ?_
  refine z_bipush 60 dX13_readRule_6 (by decide) ?_
  refine z_iload_n 1 dX13_readRule_8 rfl ?_
  refine z_imul dX13_readRule_9 ?_
  refine fp_13_358 rfl dX13_readRule_10 hL.1 hL.2.1 ?_
  refine z_aload_n 0 dX13_readRule_13 rfl ?_
  refine z_aload_n 0 dX13_readRule_14 rfl ?_
  refine fg_13_65 (some 78) rfl dX13_readRule_15 hL.1 hL.2.1 (ma_24 hL).1 ?_
  refine z_iload_n 1 dX13_readRule_18 rfl ?_
  obtain ⟨o1, h⟩ := h
  refine z_iald (I 78 p0.toNatClampNeg) dX13_readRule_19 (ma_24 hL).2.1 (ma_24 hL).2.2 o1 rfl ?_
  refine fp_13_351 rfl dX13_readRule_20 hL.1 hL.2.1 ?_
  refine z_aload_n 0 dX13_readRule_23 rfl ?_
  refine z_aload_n 0 dX13_readRule_24 rfl ?_
  refine fg_13_71 (some 80) rfl dX13_readRule_25 hL.1 hL.2.1 (ma_26 hL).1 ?_
  refine z_iload_n 1 dX13_readRule_28 rfl ?_
  refine z_iald (I 80 p0.toNatClampNeg) dX13_readRule_29 (ma_26 hL).2.1 (ma_26 hL).2.2 o1 rfl ?_
  refine fp_13_411 rfl dX13_readRule_30 hL.1 hL.2.1 ?_
  refine z_aload_n 0 dX13_readRule_33 rfl ?_
  refine z_callV0 (As := []) (st := []) dX13_readRule_34 hy_X13_readText hL.1 hL.2.1 (by decide) wg_1859 wg_1861 wg_61 (Nat.le_refl _) (Nat.le_of_ble_eq_true rfl) (RM0.mono h (fun vv I2 L3 h => ?_))
  obtain ⟨rfl, h⟩ := h
  change Z n0 xX13_readRule (d + 1) 0 0 37 [(0, .ref (n0 + 59)), (1, .int p0)] [] K I2 L3 (z_q0 K Q)
  exact z_vret dX13_readRule_37 rfl ⟨rfl, h⟩
theorem dX13_from_0 : decode cX13_from 0 = .ok (.aload_n 0, 1) := by decide +kernel
theorem dX13_from_1 : decode cX13_from 1 = .ok (.iload_n 1, 1) := by decide +kernel
theorem dX13_from_2 : decode cX13_from 2 = .ok (.iload_n 2, 1) := by decide +kernel
theorem dX13_from_3 : decode cX13_from 3 = .ok (.iload_n 3, 1) := by decide +kernel
theorem dX13_from_4 : decode cX13_from 4 = .ok (.invokevirtual 455, 3) := by decide +kernel
theorem dX13_from_7 : decode cX13_from 7 = .ok (.istore 4, 2) := by decide +kernel
theorem dX13_from_9 : decode cX13_from 9 = .ok (.iload 4, 2) := by decide +kernel
theorem dX13_from_11 : decode cX13_from 11 = .ok (.ifCond .ge 10, 3) := by decide +kernel
theorem dX13_from_14 : decode cX13_from 14 = .ok (.aload_n 0, 1) := by decide +kernel
theorem dX13_from_15 : decode cX13_from 15 = .ok (.iload 4, 2) := by decide +kernel
theorem dX13_from_17 : decode cX13_from 17 = .ok (.invokevirtual 308, 3) := by decide +kernel
theorem dX13_from_20 : decode cX13_from 20 = .ok (.ireturn, 1) := by decide +kernel
theorem dX13_from_21 : decode cX13_from 21 = .ok (.iconst 0, 1) := by decide +kernel
theorem dX13_from_22 : decode cX13_from 22 = .ok (.istore 5, 2) := by decide +kernel
theorem dX13_from_24 : decode cX13_from 24 = .ok (.iload 5, 2) := by decide +kernel
theorem dX13_from_26 : decode cX13_from 26 = .ok (.iload_n 1, 1) := by decide +kernel
theorem dX13_from_27 : decode cX13_from 27 = .ok (.if_icmp .gt 178, 3) := by decide +kernel
theorem dX13_from_30 : decode cX13_from 30 = .ok (.iconst 0, 1) := by decide +kernel
theorem dX13_from_31 : decode cX13_from 31 = .ok (.istore 6, 2) := by decide +kernel
theorem dX13_from_33 : decode cX13_from 33 = .ok (.iload 6, 2) := by decide +kernel
theorem dX13_from_35 : decode cX13_from 35 = .ok (.aload_n 0, 1) := by decide +kernel
theorem dX13_from_36 : decode cX13_from 36 = .ok (.getfield 31, 3) := by decide +kernel
theorem dX13_from_39 : decode cX13_from 39 = .ok (.iload 5, 2) := by decide +kernel
theorem dX13_from_41 : decode cX13_from 41 = .ok (.iaload, 1) := by decide +kernel
theorem dX13_from_42 : decode cX13_from 42 = .ok (.if_icmp .ge 157, 3) := by decide +kernel
theorem dX13_from_45 : decode cX13_from 45 = .ok (.aload_n 0, 1) := by decide +kernel
theorem dX13_from_46 : decode cX13_from 46 = .ok (.iload 5, 2) := by decide +kernel
theorem dX13_from_48 : decode cX13_from 48 = .ok (.iload 6, 2) := by decide +kernel
theorem dX13_from_50 : decode cX13_from 50 = .ok (.iload_n 3, 1) := by decide +kernel
theorem dX13_from_51 : decode cX13_from 51 = .ok (.invokevirtual 458, 3) := by decide +kernel
theorem dX13_from_54 : decode cX13_from 54 = .ok (.istore 7, 2) := by decide +kernel
theorem dX13_from_56 : decode cX13_from 56 = .ok (.iconst 0, 1) := by decide +kernel
theorem dX13_from_57 : decode cX13_from 57 = .ok (.istore 8, 2) := by decide +kernel
theorem dX13_from_59 : decode cX13_from 59 = .ok (.iload 7, 2) := by decide +kernel
theorem dX13_from_61 : decode cX13_from 61 = .ok (.ifCond .lt 69, 3) := by decide +kernel
theorem dX13_from_64 : decode cX13_from 64 = .ok (.aload_n 0, 1) := by decide +kernel
theorem dX13_from_65 : decode cX13_from 65 = .ok (.iload 7, 2) := by decide +kernel
theorem dX13_from_67 : decode cX13_from 67 = .ok (.invokevirtual 461, 3) := by decide +kernel
theorem dX13_from_70 : decode cX13_from 70 = .ok (.aload_n 0, 1) := by decide +kernel
theorem dX13_from_71 : decode cX13_from 71 = .ok (.getfield 405, 3) := by decide +kernel
theorem dX13_from_74 : decode cX13_from 74 = .ok (.istore 8, 2) := by decide +kernel
theorem dX13_from_76 : decode cX13_from 76 = .ok (.iconst 0, 1) := by decide +kernel
theorem dX13_from_77 : decode cX13_from 77 = .ok (.istore 9, 2) := by decide +kernel
theorem dX13_from_79 : decode cX13_from 79 = .ok (.iload 9, 2) := by decide +kernel
theorem dX13_from_81 : decode cX13_from 81 = .ok (.iload 6, 2) := by decide +kernel
theorem dX13_from_83 : decode cX13_from 83 = .ok (.if_icmp .ge 44, 3) := by decide +kernel
theorem dX13_from_86 : decode cX13_from 86 = .ok (.iload 8, 2) := by decide +kernel
theorem dX13_from_88 : decode cX13_from 88 = .ok (.aload_n 0, 1) := by decide +kernel
theorem dX13_from_89 : decode cX13_from 89 = .ok (.getfield 414, 3) := by decide +kernel
theorem dX13_from_92 : decode cX13_from 92 = .ok (.iload 9, 2) := by decide +kernel
theorem dX13_from_94 : decode cX13_from 94 = .ok (.ishr, 1) := by decide +kernel
theorem dX13_from_95 : decode cX13_from 95 = .ok (.iconst 1, 1) := by decide +kernel
theorem dX13_from_96 : decode cX13_from 96 = .ok (.iand, 1) := by decide +kernel
theorem dX13_from_97 : decode cX13_from 97 = .ok (.iconst 1, 1) := by decide +kernel
theorem dX13_from_98 : decode cX13_from 98 = .ok (.if_icmp .ne 19, 3) := by decide +kernel
theorem dX13_from_101 : decode cX13_from 101 = .ok (.aload_n 0, 1) := by decide +kernel
theorem dX13_from_102 : decode cX13_from 102 = .ok (.getfield 93, 3) := by decide +kernel
theorem dX13_from_105 : decode cX13_from 105 = .ok (.bipush 10, 2) := by decide +kernel
theorem dX13_from_107 : decode cX13_from 107 = .ok (.iload 5, 2) := by decide +kernel
theorem dX13_from_109 : decode cX13_from 109 = .ok (.imul, 1) := by decide +kernel
theorem dX13_from_110 : decode cX13_from 110 = .ok (.iload 9, 2) := by decide +kernel
theorem dX13_from_112 : decode cX13_from 112 = .ok (.iadd, 1) := by decide +kernel
theorem dX13_from_113 : decode cX13_from 113 = .ok (.iaload, 1) := by decide +kernel
theorem dX13_from_114 : decode cX13_from 114 = .ok (.goto 4, 3) := by decide +kernel
theorem dX13_from_117 : decode cX13_from 117 = .ok (.iconst 0, 1) := by decide +kernel
theorem dX13_from_118 : decode cX13_from 118 = .ok (.ior, 1) := by decide +kernel
theorem dX13_from_119 : decode cX13_from 119 = .ok (.istore 8, 2) := by decide +kernel
theorem dX13_from_121 : decode cX13_from 121 = .ok (.iinc 9 1, 3) := by decide +kernel
theorem dX13_from_124 : decode cX13_from 124 = .ok (.goto (-45), 3) := by decide +kernel
theorem dX13_from_127 : decode cX13_from 127 = .ok (.goto 51, 3) := by decide +kernel
theorem dX13_from_130 : decode cX13_from 130 = .ok (.aload_n 0, 1) := by decide +kernel
theorem dX13_from_131 : decode cX13_from 131 = .ok (.getfield 28, 3) := by decide +kernel
theorem dX13_from_134 : decode cX13_from 134 = .ok (.iload 5, 2) := by decide +kernel
theorem dX13_from_136 : decode cX13_from 136 = .ok (.iaload, 1) := by decide +kernel
theorem dX13_from_137 : decode cX13_from 137 = .ok (.iconst 3, 1) := by decide +kernel
theorem dX13_from_138 : decode cX13_from 138 = .ok (.if_icmp .ne 40, 3) := by decide +kernel
theorem dX13_from_141 : decode cX13_from 141 = .ok (.iload 6, 2) := by decide +kernel
theorem dX13_from_143 : decode cX13_from 143 = .ok (.aload_n 0, 1) := by decide +kernel
theorem dX13_from_144 : decode cX13_from 144 = .ok (.getfield 31, 3) := by decide +kernel
theorem dX13_from_147 : decode cX13_from 147 = .ok (.aload_n 0, 1) := by decide +kernel
theorem dX13_from_148 : decode cX13_from 148 = .ok (.getfield 34, 3) := by decide +kernel
theorem dX13_from_151 : decode cX13_from 151 = .ok (.iload 5, 2) := by decide +kernel
theorem dX13_from_153 : decode cX13_from 153 = .ok (.iaload, 1) := by decide +kernel
theorem dX13_from_154 : decode cX13_from 154 = .ok (.iaload, 1) := by decide +kernel
theorem dX13_from_155 : decode cX13_from 155 = .ok (.if_icmp .ge 23, 3) := by decide +kernel
theorem dX13_from_158 : decode cX13_from 158 = .ok (.aload_n 0, 1) := by decide +kernel
theorem dX13_from_159 : decode cX13_from 159 = .ok (.getfield 93, 3) := by decide +kernel
theorem dX13_from_162 : decode cX13_from 162 = .ok (.bipush 10, 2) := by decide +kernel
theorem dX13_from_164 : decode cX13_from 164 = .ok (.aload_n 0, 1) := by decide +kernel
theorem dX13_from_165 : decode cX13_from 165 = .ok (.getfield 34, 3) := by decide +kernel
theorem dX13_from_168 : decode cX13_from 168 = .ok (.iload 5, 2) := by decide +kernel
theorem dX13_from_170 : decode cX13_from 170 = .ok (.iaload, 1) := by decide +kernel
theorem dX13_from_171 : decode cX13_from 171 = .ok (.imul, 1) := by decide +kernel
theorem dX13_from_172 : decode cX13_from 172 = .ok (.iload 6, 2) := by decide +kernel
theorem dX13_from_174 : decode cX13_from 174 = .ok (.iadd, 1) := by decide +kernel
theorem dX13_from_175 : decode cX13_from 175 = .ok (.iaload, 1) := by decide +kernel
theorem dX13_from_176 : decode cX13_from 176 = .ok (.istore 8, 2) := by decide +kernel
theorem dX13_from_178 : decode cX13_from 178 = .ok (.aload_n 0, 1) := by decide +kernel
theorem dX13_from_179 : decode cX13_from 179 = .ok (.getfield 93, 3) := by decide +kernel
theorem dX13_from_182 : decode cX13_from 182 = .ok (.bipush 10, 2) := by decide +kernel
theorem dX13_from_184 : decode cX13_from 184 = .ok (.iload 5, 2) := by decide +kernel
theorem dX13_from_186 : decode cX13_from 186 = .ok (.imul, 1) := by decide +kernel
theorem dX13_from_187 : decode cX13_from 187 = .ok (.iload 6, 2) := by decide +kernel
theorem dX13_from_189 : decode cX13_from 189 = .ok (.iadd, 1) := by decide +kernel
theorem dX13_from_190 : decode cX13_from 190 = .ok (.iload 8, 2) := by decide +kernel
theorem dX13_from_192 : decode cX13_from 192 = .ok (.iastore, 1) := by decide +kernel
theorem dX13_from_193 : decode cX13_from 193 = .ok (.iinc 6 1, 3) := by decide +kernel
theorem dX13_from_196 : decode cX13_from 196 = .ok (.goto (-163), 3) := by decide +kernel
theorem dX13_from_199 : decode cX13_from 199 = .ok (.iinc 5 1, 3) := by decide +kernel
theorem dX13_from_202 : decode cX13_from 202 = .ok (.goto (-178), 3) := by decide +kernel
theorem dX13_from_205 : decode cX13_from 205 = .ok (.aload_n 0, 1) := by decide +kernel
theorem dX13_from_206 : decode cX13_from 206 = .ok (.getfield 93, 3) := by decide +kernel
theorem dX13_from_209 : decode cX13_from 209 = .ok (.bipush 10, 2) := by decide +kernel
theorem dX13_from_211 : decode cX13_from 211 = .ok (.iload_n 1, 1) := by decide +kernel
theorem dX13_from_212 : decode cX13_from 212 = .ok (.imul, 1) := by decide +kernel
theorem dX13_from_213 : decode cX13_from 213 = .ok (.iload_n 2, 1) := by decide +kernel
theorem dX13_from_214 : decode cX13_from 214 = .ok (.iadd, 1) := by decide +kernel
theorem dX13_from_215 : decode cX13_from 215 = .ok (.iaload, 1) := by decide +kernel
theorem dX13_from_216 : decode cX13_from 216 = .ok (.ireturn, 1) := by decide +kernel
set_option maxRecDepth 100000 in
set_option maxHeartbeats 4000000 in
theorem wp_X13_from {n0 d : Nat} {K : z_K} {I : z_I} {L : z_L} {Q : z_q} {p0 : Int32} {p1 : Int32} {p2 : Int32} (hL : MLay K) (h : RM0 n0 xX13_wrongPoint d [.ref (n0 + 59), .int p0, .int p1, .int p2] K I L (fun vv I1 L2 => ∃ r3 : Int32, vv = some (.int r3) ∧ (if r3 < 0 then RM0 n0 xX13_refuse d [.ref (n0 + 59), .int r3] K I1 L2 (fun vv I5 L6 => ∃ r7 : Int32, vv = some (.int r7) ∧ Q (some (.int r7)) I5 L6) else Z n0 xX13_from (d + 1) 0 0 24 [(0, .ref (n0 + 59)), (1, .int p0), (2, .int p1), (3, .int p2), (5, .int 0)] [] K I1 L2 (z_q0 K Q)))) : RM0 n0 xX13_from (d + 1) [.ref (n0 + 59), .int p0, .int p1, .int p2] K I L Q := by
  refine z_entry0 (by decide) (Nat.le_of_ble_eq_true rfl) ?_
  change Z n0 xX13_from (d + 1) 0 0 0 [(0, .ref (n0 + 59)), (1, .int p0), (2, .int p1), (3, .int p2)] [] K I L (z_q0 K Q)
  refine z_aload_n 0 dX13_from_0 rfl ?_
  refine z_iload_n 1 dX13_from_1 rfl ?_
  refine z_iload_n 2 dX13_from_2 rfl ?_
  refine z_iload_n 3 dX13_from_3 rfl ?_
  refine z_callV0 (As := [.int p0, .int p1, .int p2]) (st := []) dX13_from_4 hy_X13_wrongPoint hL.1 hL.2.1 (by decide) wg_1918 wg_1920 wg_72 (Nat.le_refl _) (Nat.le_of_ble_eq_true rfl) (RM0.mono h (fun vv I1 L2 h => ?_))
  obtain ⟨r3, rfl, h⟩ := h
  change Z n0 xX13_from (d + 1) 0 0 7 [(0, .ref (n0 + 59)), (1, .int p0), (2, .int p1), (3, .int p2)] [.int r3] K I1 L2 (z_q0 K Q)
  refine z_istore [1, 2, 3, 4, 0] [(0, .ref (n0 + 59)), (1, .int p0), (2, .int p1), (3, .int p2), (4, .int r3)] dX13_from_7 (by decide) rfl ?_
  refine z_iload 4 dX13_from_9 rfl ?_
  refine z_if_ge 21 dX13_from_11 (by decide) (fun g4 => ?_) (fun g4 => ?_)
  · rw [if_neg g4] at h
    refine z_iconst 0 dX13_from_21 (by decide) ?_
    refine z_istore [1, 2, 3, 4, 5, 0] [(0, .ref (n0 + 59)), (1, .int p0), (2, .int p1), (3, .int p2), (4, .int r3), (5, .int 0)] dX13_from_22 (by decide) rfl ?_
    refine z_sub [0, 1, 2, 3, 5] rfl ?_
    exact h
  · rw [if_pos g4] at h
    refine z_aload_n 0 dX13_from_14 rfl ?_
    refine z_iload 4 dX13_from_15 rfl ?_
    refine z_callV0 (As := [.int r3]) (st := []) dX13_from_17 hy_X13_refuse hL.1 hL.2.1 (by decide) wg_1778 wg_1780 wg_54 (Nat.le_refl _) (Nat.le_of_ble_eq_true rfl) (RM0.mono h (fun vv I5 L6 h => ?_))
    obtain ⟨r7, rfl, h⟩ := h
    change Z n0 xX13_from (d + 1) 0 0 20 [(0, .ref (n0 + 59)), (1, .int p0), (2, .int p1), (3, .int p2), (4, .int r3)] [.int r7] K I5 L6 (z_q0 K Q)
    exact z_iret dX13_from_20 rfl ⟨rfl, h⟩
set_option maxRecDepth 100000 in
set_option maxHeartbeats 4000000 in
theorem wp_X13_from_24 {n0 d : Nat} {rc rs : Nat} {K : z_K} {I : z_I} {L : z_L} {Q : z_q} {a1 : Int32} {a2 : Int32} {a3 : Int32} {a5 : Int32} (hL : MLay K) (h : (if a1 < a5 then vp_in ((10 * a1) + a2) 160 ∧ Q (some (.int (I 87 (((10 * a1) + a2).toNatClampNeg)))) I L else Z n0 xX13_from (d + 1) rc rs 33 [(0, .ref (n0 + 59)), (1, .int a1), (2, .int a2), (3, .int a3), (5, .int a5), (6, .int 0)] [] K I L (z_q0 K Q))) : Z n0 xX13_from (d + 1) rc rs 24 [(0, .ref (n0 + 59)), (1, .int a1), (2, .int a2), (3, .int a3), (5, .int a5)] [] K I L (z_q0 K Q) := by
  refine z_iload 4 dX13_from_24 rfl ?_
  refine z_iload_n 1 dX13_from_26 rfl ?_
  refine z_icmp_gt 205 dX13_from_27 (by decide) (fun g1 => ?_) (fun g1 => ?_)
  · rw [if_pos g1] at h
    refine z_aload_n 0 dX13_from_205 rfl ?_
    refine fg_13_93 (some 87) rfl dX13_from_206 hL.1 hL.2.1 (ma_48 hL).1 ?_
    refine z_bipush 10 dX13_from_209 (by decide) ?_
    refine z_iload_n 1 dX13_from_211 rfl ?_
    refine z_imul dX13_from_212 ?_
    refine z_iload_n 2 dX13_from_213 rfl ?_
    refine z_iadd dX13_from_214 ?_
    obtain ⟨o2, h⟩ := h
    refine z_iald (I 87 (((10 * a1) + a2).toNatClampNeg)) dX13_from_215 (ma_48 hL).2.1 (ma_48 hL).2.2 o2 rfl ?_
    exact z_iret dX13_from_216 rfl ⟨rfl, h⟩
  · rw [if_neg g1] at h
    refine z_iconst 0 dX13_from_30 (by decide) ?_
    refine z_istore [1, 2, 3, 4, 5, 0] [(0, .ref (n0 + 59)), (1, .int a1), (2, .int a2), (3, .int a3), (5, .int a5), (6, .int 0)] dX13_from_31 (by decide) rfl ?_
    exact h
set_option maxRecDepth 100000 in
set_option maxHeartbeats 4000000 in
theorem wp_X13_from_33 {n0 d : Nat} {rc rs : Nat} {K : z_K} {I : z_I} {L : z_L} {Q : z_q} {a1 : Int32} {a2 : Int32} {a3 : Int32} {a5 : Int32} {a6 : Int32} (hL : MLay K) (h : vp_in a5 16 ∧ (if a6 < (I 67 a5.toNatClampNeg) then RM0 n0 xX13_ruleOn d [.ref (n0 + 59), .int a5, .int a6, .int a3] K I L (fun vv I3 L4 => ∃ r5 : Int32, vv = some (.int r5) ∧ (if r5 < 0 then (((I3 66 a5.toNatClampNeg) : Int32) = 3 → vp_in (I3 68 a5.toNatClampNeg) 16) ∧ (((I3 66 a5.toNatClampNeg) : Int32) = 3 → a6 < (I3 67 ((I3 68 a5.toNatClampNeg).toNatClampNeg)) → vp_in ((10 * (I3 68 a5.toNatClampNeg)) + a6) 160) ∧ vp_in ((10 * a5) + a6) 160 ∧ Z n0 xX13_from (d + 1) rc rs 33 [(0, .ref (n0 + 59)), (1, .int a1), (2, .int a2), (3, .int a3), (5, .int a5), (6, .int (a6 + 1))] [] K (zI I3 87 (((10 * a5) + a6).toNatClampNeg) (if ((I3 66 a5.toNatClampNeg) : Int32) = 3 then if a6 < (I3 67 ((I3 68 a5.toNatClampNeg).toNatClampNeg)) then (I3 87 (((10 * (I3 68 a5.toNatClampNeg)) + a6).toNatClampNeg)) else 0 else 0)) L4 (z_q0 K Q) else RM0 n0 xX13_readRule d [.ref (n0 + 59), .int r5] K I3 L4 (fun vv I13 L14 => vv = none ∧ Z n0 xX13_from (d + 1) rc rs 79 [(0, .ref (n0 + 59)), (1, .int a1), (2, .int a2), (3, .int a3), (5, .int a5), (6, .int a6), (8, .int (I13 59 38)), (9, .int 0)] [] K I13 L14 (z_q0 K Q)))) else Z n0 xX13_from (d + 1) rc rs 24 [(0, .ref (n0 + 59)), (1, .int a1), (2, .int a2), (3, .int a3), (5, .int (a5 + 1))] [] K I L (z_q0 K Q))) : Z n0 xX13_from (d + 1) rc rs 33 [(0, .ref (n0 + 59)), (1, .int a1), (2, .int a2), (3, .int a3), (5, .int a5), (6, .int a6)] [] K I L (z_q0 K Q) := by
  refine z_iload 5 dX13_from_33 rfl ?_
  refine z_aload_n 0 dX13_from_35 rfl ?_
  refine fg_13_31 (some 67) rfl dX13_from_36 hL.1 hL.2.1 (ma_11 hL).1 ?_
  refine z_iload 4 dX13_from_39 rfl ?_
  obtain ⟨o1, h⟩ := h
  refine z_iald (I 67 a5.toNatClampNeg) dX13_from_41 (ma_11 hL).2.1 (ma_11 hL).2.2 o1 rfl ?_
  refine z_icmp_ge 199 dX13_from_42 (by decide) (fun g2 => ?_) (fun g2 => ?_)
  · rw [if_neg g2] at h
    refine z_iinc (j := 4) (a5 + 1) [1, 2, 3, 4, 0, 5] [(0, .ref (n0 + 59)), (1, .int a1), (2, .int a2), (3, .int a3), (5, .int (a5 + 1)), (6, .int a6)] dX13_from_199 rfl rfl (by decide) rfl ?_
    refine z_goto 24 dX13_from_202 (by decide) ?_
    refine z_sub [0, 1, 2, 3, 4] rfl ?_
    exact h
  · rw [if_pos g2] at h
    refine z_aload_n 0 dX13_from_45 rfl ?_
    refine z_iload 4 dX13_from_46 rfl ?_
    refine z_iload 5 dX13_from_48 rfl ?_
    refine z_iload_n 3 dX13_from_50 rfl ?_
    refine z_callV0 (As := [.int a5, .int a6, .int a3]) (st := []) dX13_from_51 hy_X13_ruleOn hL.1 hL.2.1 (by decide) wg_1922 wg_1924 wg_73 (Nat.le_refl _) (Nat.le_of_ble_eq_true rfl) (RM0.mono h (fun vv I3 L4 h => ?_))
    obtain ⟨r5, rfl, h⟩ := h
    change Z n0 xX13_from (d + 1) rc rs 54 [(0, .ref (n0 + 59)), (1, .int a1), (2, .int a2), (3, .int a3), (5, .int a5), (6, .int a6)] [.int r5] K I3 L4 (z_q0 K Q)
    refine z_istore [1, 2, 3, 4, 5, 6, 0] [(0, .ref (n0 + 59)), (1, .int a1), (2, .int a2), (3, .int a3), (5, .int a5), (6, .int a6), (7, .int r5)] dX13_from_54 (by decide) rfl ?_
    refine z_iconst 0 dX13_from_56 (by decide) ?_
    refine z_istore [1, 2, 3, 4, 5, 6, 7, 0] [(0, .ref (n0 + 59)), (1, .int a1), (2, .int a2), (3, .int a3), (5, .int a5), (6, .int a6), (7, .int r5), (8, .int 0)] dX13_from_57 (by decide) rfl ?_
    refine z_iload 6 dX13_from_59 rfl ?_
    refine z_if_lt 130 dX13_from_61 (by decide) (fun g6 => ?_) (fun g6 => ?_)
    · rw [if_pos g6] at h
      refine z_aload_n 0 dX13_from_130 rfl ?_
      refine fg_13_28 (some 66) rfl dX13_from_131 hL.1 hL.2.1 (ma_10 hL).1 ?_
      refine z_iload 4 dX13_from_134 rfl ?_
      refine z_iald (I3 66 a5.toNatClampNeg) dX13_from_136 (ma_10 hL).2.1 (ma_10 hL).2.2 o1 rfl ?_
      refine z_iconst 3 dX13_from_137 (by decide) ?_
      obtain ⟨o8, o10, h⟩ := h
      have key11 : Z n0 xX13_from (d + 1) rc rs 178 [(0, .ref (n0 + 59)), (1, .int a1), (2, .int a2), (3, .int a3), (5, .int a5), (6, .int a6), (8, .int (if ((I3 66 a5.toNatClampNeg) : Int32) = 3 then if a6 < (I3 67 ((I3 68 a5.toNatClampNeg).toNatClampNeg)) then (I3 87 (((10 * (I3 68 a5.toNatClampNeg)) + a6).toNatClampNeg)) else 0 else 0))] [] K I3 L4 (z_q0 K Q) := by
        refine z_aload_n 0 dX13_from_178 rfl ?_
        refine fg_13_93 (some 87) rfl dX13_from_179 hL.1 hL.2.1 (ma_48 hL).1 ?_
        refine z_bipush 10 dX13_from_182 (by decide) ?_
        refine z_iload 4 dX13_from_184 rfl ?_
        refine z_imul dX13_from_186 ?_
        refine z_iload 5 dX13_from_187 rfl ?_
        refine z_iadd dX13_from_189 ?_
        refine z_iload 6 dX13_from_190 rfl ?_
        obtain ⟨o12, h⟩ := h
        refine z_iast dX13_from_192 (ma_48 hL).2.1 (ma_48 hL).2.2 o12 ?_
        refine z_iinc (j := 5) (a6 + 1) [1, 2, 3, 4, 5, 0, 6] [(0, .ref (n0 + 59)), (1, .int a1), (2, .int a2), (3, .int a3), (5, .int a5), (6, .int (a6 + 1)), (8, .int (if ((I3 66 a5.toNatClampNeg) : Int32) = 3 then if a6 < (I3 67 ((I3 68 a5.toNatClampNeg).toNatClampNeg)) then (I3 87 (((10 * (I3 68 a5.toNatClampNeg)) + a6).toNatClampNeg)) else 0 else 0))] dX13_from_193 rfl rfl (by decide) rfl ?_
        refine z_goto 33 dX13_from_196 (by decide) ?_
        refine z_sub [0, 1, 2, 3, 4, 5] rfl ?_
        exact h
      refine z_icmp_ne 178 dX13_from_138 (by decide) (fun g7 => ?_) (fun g7 => ?_)
      · have ee : ((if ((I3 66 a5.toNatClampNeg) : Int32) = 3 then if a6 < (I3 67 ((I3 68 a5.toNatClampNeg).toNatClampNeg)) then (I3 87 (((10 * (I3 68 a5.toNatClampNeg)) + a6).toNatClampNeg)) else 0 else 0) : Int32) = 0 := by rw [if_neg g7]
        rw [ee] at key11
        clear ee
        refine z_sub [0, 1, 2, 3, 4, 5, 7] rfl ?_
        exact key11
      · refine z_iload 5 dX13_from_141 rfl ?_
        refine z_aload_n 0 dX13_from_143 rfl ?_
        refine fg_13_31 (some 67) rfl dX13_from_144 hL.1 hL.2.1 (ma_11 hL).1 ?_
        refine z_aload_n 0 dX13_from_147 rfl ?_
        refine fg_13_34 (some 68) rfl dX13_from_148 hL.1 hL.2.1 (ma_12 hL).1 ?_
        refine z_iload 4 dX13_from_151 rfl ?_
        refine z_iald (I3 68 a5.toNatClampNeg) dX13_from_153 (ma_12 hL).2.1 (ma_12 hL).2.2 o1 rfl ?_
        refine z_iald (I3 67 ((I3 68 a5.toNatClampNeg).toNatClampNeg)) dX13_from_154 (ma_11 hL).2.1 (ma_11 hL).2.2 (o8 g7) rfl ?_
        refine z_icmp_ge 178 dX13_from_155 (by decide) (fun g9 => ?_) (fun g9 => ?_)
        · have ee : ((if ((I3 66 a5.toNatClampNeg) : Int32) = 3 then if a6 < (I3 67 ((I3 68 a5.toNatClampNeg).toNatClampNeg)) then (I3 87 (((10 * (I3 68 a5.toNatClampNeg)) + a6).toNatClampNeg)) else 0 else 0) : Int32) = 0 := by rw [if_pos g7, if_neg g9]
          rw [ee] at key11
          clear ee
          refine z_sub [0, 1, 2, 3, 4, 5, 7] rfl ?_
          exact key11
        · refine z_aload_n 0 dX13_from_158 rfl ?_
          refine fg_13_93 (some 87) rfl dX13_from_159 hL.1 hL.2.1 (ma_48 hL).1 ?_
          refine z_bipush 10 dX13_from_162 (by decide) ?_
          refine z_aload_n 0 dX13_from_164 rfl ?_
          refine fg_13_34 (some 68) rfl dX13_from_165 hL.1 hL.2.1 (ma_12 hL).1 ?_
          refine z_iload 4 dX13_from_168 rfl ?_
          refine z_iald (I3 68 a5.toNatClampNeg) dX13_from_170 (ma_12 hL).2.1 (ma_12 hL).2.2 o1 rfl ?_
          refine z_imul dX13_from_171 ?_
          refine z_iload 5 dX13_from_172 rfl ?_
          refine z_iadd dX13_from_174 ?_
          refine z_iald (I3 87 (((10 * (I3 68 a5.toNatClampNeg)) + a6).toNatClampNeg)) dX13_from_175 (ma_48 hL).2.1 (ma_48 hL).2.2 (o10 g7 g9) rfl ?_
          refine z_istore [1, 2, 3, 4, 5, 6, 7, 0] [(0, .ref (n0 + 59)), (1, .int a1), (2, .int a2), (3, .int a3), (5, .int a5), (6, .int a6), (7, .int r5), (8, .int (I3 87 (((10 * (I3 68 a5.toNatClampNeg)) + a6).toNatClampNeg)))] dX13_from_176 (by decide) rfl ?_
          have ee : ((if ((I3 66 a5.toNatClampNeg) : Int32) = 3 then if a6 < (I3 67 ((I3 68 a5.toNatClampNeg).toNatClampNeg)) then (I3 87 (((10 * (I3 68 a5.toNatClampNeg)) + a6).toNatClampNeg)) else 0 else 0) : Int32) = (I3 87 (((10 * (I3 68 a5.toNatClampNeg)) + a6).toNatClampNeg)) := by rw [if_pos g7, if_pos g9]
          rw [ee] at key11
          clear ee
          refine z_sub [0, 1, 2, 3, 4, 5, 7] rfl ?_
          exact key11
    · rw [if_neg g6] at h
      refine z_aload_n 0 dX13_from_64 rfl ?_
      refine z_iload 6 dX13_from_65 rfl ?_
      refine z_callV0 (As := [.int r5]) (st := []) dX13_from_67 hy_X13_readRule hL.1 hL.2.1 (by decide) wg_1930 wg_1932 wg_74 (Nat.le_refl _) (Nat.le_of_ble_eq_true rfl) (RM0.mono h (fun vv I13 L14 h => ?_))
      obtain ⟨rfl, h⟩ := h
      change Z n0 xX13_from (d + 1) rc rs 70 [(0, .ref (n0 + 59)), (1, .int a1), (2, .int a2), (3, .int a3), (5, .int a5), (6, .int a6), (7, .int r5), (8, .int 0)] [] K I13 L14 (z_q0 K Q)
      refine z_aload_n 0 dX13_from_70 rfl ?_
      refine fg_13_405 (I13 59 38) rfl dX13_from_71 hL.1 hL.2.1 rfl ?_
      refine z_istore [1, 2, 3, 4, 5, 6, 7, 0] [(0, .ref (n0 + 59)), (1, .int a1), (2, .int a2), (3, .int a3), (5, .int a5), (6, .int a6), (7, .int r5), (8, .int (I13 59 38))] dX13_from_74 (by decide) rfl ?_
      refine z_iconst 0 dX13_from_76 (by decide) ?_
      refine z_istore [1, 2, 3, 4, 5, 6, 7, 8, 0] [(0, .ref (n0 + 59)), (1, .int a1), (2, .int a2), (3, .int a3), (5, .int a5), (6, .int a6), (7, .int r5), (8, .int (I13 59 38)), (9, .int 0)] dX13_from_77 (by decide) rfl ?_
      refine z_sub [0, 1, 2, 3, 4, 5, 7, 8] rfl ?_
      exact h
set_option maxRecDepth 100000 in
set_option maxHeartbeats 4000000 in
theorem wp_X13_from_79 {n0 d : Nat} {rc rs : Nat} {K : z_K} {I : z_I} {L : z_L} {Q : z_q} {a1 : Int32} {a2 : Int32} {a3 : Int32} {a5 : Int32} {a6 : Int32} {a8 : Int32} {a9 : Int32} (hL : MLay K) (h : (if a9 < a6 then ((((((I 59 39) : Int32) >>> (a9 &&& 31 : Int32)) &&& 1) : Int32) = 1 → vp_in ((10 * a5) + a9) 160) ∧ Z n0 xX13_from (d + 1) rc rs 79 [(0, .ref (n0 + 59)), (1, .int a1), (2, .int a2), (3, .int a3), (5, .int a5), (6, .int a6), (8, .int (a8 ||| (if (((((I 59 39) : Int32) >>> (a9 &&& 31 : Int32)) &&& 1) : Int32) = 1 then (I 87 (((10 * a5) + a9).toNatClampNeg)) else 0))), (9, .int (a9 + 1))] [] K I L (z_q0 K Q) else vp_in ((10 * a5) + a6) 160 ∧ Z n0 xX13_from (d + 1) rc rs 33 [(0, .ref (n0 + 59)), (1, .int a1), (2, .int a2), (3, .int a3), (5, .int a5), (6, .int (a6 + 1))] [] K (zI I 87 (((10 * a5) + a6).toNatClampNeg) a8) L (z_q0 K Q))) : Z n0 xX13_from (d + 1) rc rs 79 [(0, .ref (n0 + 59)), (1, .int a1), (2, .int a2), (3, .int a3), (5, .int a5), (6, .int a6), (8, .int a8), (9, .int a9)] [] K I L (z_q0 K Q) := by
  refine z_iload 7 dX13_from_79 rfl ?_
  refine z_iload 5 dX13_from_81 rfl ?_
  refine z_icmp_ge 127 dX13_from_83 (by decide) (fun g1 => ?_) (fun g1 => ?_)
  · rw [if_neg g1] at h
    refine z_goto 178 dX13_from_127 (by decide) ?_
    refine z_aload_n 0 dX13_from_178 rfl ?_
    refine fg_13_93 (some 87) rfl dX13_from_179 hL.1 hL.2.1 (ma_48 hL).1 ?_
    refine z_bipush 10 dX13_from_182 (by decide) ?_
    refine z_iload 4 dX13_from_184 rfl ?_
    refine z_imul dX13_from_186 ?_
    refine z_iload 5 dX13_from_187 rfl ?_
    refine z_iadd dX13_from_189 ?_
    refine z_iload 6 dX13_from_190 rfl ?_
    obtain ⟨o2, h⟩ := h
    refine z_iast dX13_from_192 (ma_48 hL).2.1 (ma_48 hL).2.2 o2 ?_
    refine z_iinc (j := 5) (a6 + 1) [1, 2, 3, 4, 5, 0, 6, 7] [(0, .ref (n0 + 59)), (1, .int a1), (2, .int a2), (3, .int a3), (5, .int a5), (6, .int (a6 + 1)), (8, .int a8), (9, .int a9)] dX13_from_193 rfl rfl (by decide) rfl ?_
    refine z_goto 33 dX13_from_196 (by decide) ?_
    refine z_sub [0, 1, 2, 3, 4, 5] rfl ?_
    exact h
  · rw [if_pos g1] at h
    refine z_iload 6 dX13_from_86 rfl ?_
    refine z_aload_n 0 dX13_from_88 rfl ?_
    refine fg_13_414 (I 59 39) rfl dX13_from_89 hL.1 hL.2.1 rfl ?_
    refine z_iload 7 dX13_from_92 rfl ?_
    refine z_ishr dX13_from_94 ?_
    refine z_iconst 1 dX13_from_95 (by decide) ?_
    refine z_iand dX13_from_96 ?_
    refine z_iconst 1 dX13_from_97 (by decide) ?_
    obtain ⟨o4, h⟩ := h
    have key5 : Z n0 xX13_from (d + 1) rc rs 118 [(0, .ref (n0 + 59)), (1, .int a1), (2, .int a2), (3, .int a3), (5, .int a5), (6, .int a6), (9, .int a9)] [.int (if (((((I 59 39) : Int32) >>> (a9 &&& 31 : Int32)) &&& 1) : Int32) = 1 then (I 87 (((10 * a5) + a9).toNatClampNeg)) else 0), .int a8] K I L (z_q0 K Q) := by
      refine z_ior dX13_from_118 ?_
      refine z_istore [1, 2, 3, 4, 5, 6, 0, 7] [(0, .ref (n0 + 59)), (1, .int a1), (2, .int a2), (3, .int a3), (5, .int a5), (6, .int a6), (8, .int (a8 ||| (if (((((I 59 39) : Int32) >>> (a9 &&& 31 : Int32)) &&& 1) : Int32) = 1 then (I 87 (((10 * a5) + a9).toNatClampNeg)) else 0))), (9, .int a9)] dX13_from_119 (by decide) rfl ?_
      refine z_iinc (j := 7) (a9 + 1) [1, 2, 3, 4, 5, 6, 7, 0] [(0, .ref (n0 + 59)), (1, .int a1), (2, .int a2), (3, .int a3), (5, .int a5), (6, .int a6), (8, .int (a8 ||| (if (((((I 59 39) : Int32) >>> (a9 &&& 31 : Int32)) &&& 1) : Int32) = 1 then (I 87 (((10 * a5) + a9).toNatClampNeg)) else 0))), (9, .int (a9 + 1))] dX13_from_121 rfl rfl (by decide) rfl ?_
      refine z_goto 79 dX13_from_124 (by decide) ?_
      exact h
    refine z_icmp_ne 117 dX13_from_98 (by decide) (fun g3 => ?_) (fun g3 => ?_)
    · refine z_iconst 0 dX13_from_117 (by decide) ?_
      have ee : ((if (((((I 59 39) : Int32) >>> (a9 &&& 31 : Int32)) &&& 1) : Int32) = 1 then (I 87 (((10 * a5) + a9).toNatClampNeg)) else 0) : Int32) = 0 := by rw [if_neg g3]
      rw [ee] at key5
      clear ee
      refine z_sub [0, 1, 2, 3, 4, 5, 7] rfl ?_
      exact key5
    · refine z_aload_n 0 dX13_from_101 rfl ?_
      refine fg_13_93 (some 87) rfl dX13_from_102 hL.1 hL.2.1 (ma_48 hL).1 ?_
      refine z_bipush 10 dX13_from_105 (by decide) ?_
      refine z_iload 4 dX13_from_107 rfl ?_
      refine z_imul dX13_from_109 ?_
      refine z_iload 7 dX13_from_110 rfl ?_
      refine z_iadd dX13_from_112 ?_
      refine z_iald (I 87 (((10 * a5) + a9).toNatClampNeg)) dX13_from_113 (ma_48 hL).2.1 (ma_48 hL).2.2 (o4 g3) rfl ?_
      refine z_goto 118 dX13_from_114 (by decide) ?_
      have ee : ((if (((((I 59 39) : Int32) >>> (a9 &&& 31 : Int32)) &&& 1) : Int32) = 1 then (I 87 (((10 * a5) + a9).toNatClampNeg)) else 0) : Int32) = (I 87 (((10 * a5) + a9).toNatClampNeg)) := by rw [if_pos g3]
      rw [ee] at key5
      clear ee
      refine z_sub [0, 1, 2, 3, 4, 5, 7] rfl ?_
      exact key5
theorem dX13_grade_0 : decode cX13_grade 0 = .ok (.aload_n 0, 1) := by decide +kernel
theorem dX13_grade_1 : decode cX13_grade 1 = .ok (.iload_n 1, 1) := by decide +kernel
theorem dX13_grade_2 : decode cX13_grade 2 = .ok (.iload_n 2, 1) := by decide +kernel
theorem dX13_grade_3 : decode cX13_grade 3 = .ok (.invokevirtual 445, 3) := by decide +kernel
theorem dX13_grade_6 : decode cX13_grade 6 = .ok (.ifCond .ne 9, 3) := by decide +kernel
theorem dX13_grade_9 : decode cX13_grade 9 = .ok (.aload_n 0, 1) := by decide +kernel
theorem dX13_grade_10 : decode cX13_grade 10 = .ok (.iconst (-1), 1) := by decide +kernel
theorem dX13_grade_11 : decode cX13_grade 11 = .ok (.invokevirtual 308, 3) := by decide +kernel
theorem dX13_grade_14 : decode cX13_grade 14 = .ok (.ireturn, 1) := by decide +kernel
theorem dX13_grade_15 : decode cX13_grade 15 = .ok (.iload_n 3, 1) := by decide +kernel
theorem dX13_grade_16 : decode cX13_grade 16 = .ok (.bipush (-99), 2) := by decide +kernel
theorem dX13_grade_18 : decode cX13_grade 18 = .ok (.if_icmp .lt 10, 3) := by decide +kernel
theorem dX13_grade_21 : decode cX13_grade 21 = .ok (.iload 4, 2) := by decide +kernel
theorem dX13_grade_23 : decode cX13_grade 23 = .ok (.bipush (-99), 2) := by decide +kernel
theorem dX13_grade_25 : decode cX13_grade 25 = .ok (.if_icmp .ge 10, 3) := by decide +kernel
theorem dX13_grade_28 : decode cX13_grade 28 = .ok (.aload_n 0, 1) := by decide +kernel
theorem dX13_grade_29 : decode cX13_grade 29 = .ok (.bipush (-4), 2) := by decide +kernel
theorem dX13_grade_31 : decode cX13_grade 31 = .ok (.invokevirtual 308, 3) := by decide +kernel
theorem dX13_grade_34 : decode cX13_grade 34 = .ok (.ireturn, 1) := by decide +kernel
theorem dX13_grade_35 : decode cX13_grade 35 = .ok (.iload_n 3, 1) := by decide +kernel
theorem dX13_grade_36 : decode cX13_grade 36 = .ok (.bipush 99, 2) := by decide +kernel
theorem dX13_grade_38 : decode cX13_grade 38 = .ok (.if_icmp .gt 10, 3) := by decide +kernel
theorem dX13_grade_41 : decode cX13_grade 41 = .ok (.iload 4, 2) := by decide +kernel
theorem dX13_grade_43 : decode cX13_grade 43 = .ok (.bipush 99, 2) := by decide +kernel
theorem dX13_grade_45 : decode cX13_grade 45 = .ok (.if_icmp .le 10, 3) := by decide +kernel
theorem dX13_grade_48 : decode cX13_grade 48 = .ok (.aload_n 0, 1) := by decide +kernel
theorem dX13_grade_49 : decode cX13_grade 49 = .ok (.bipush (-6), 2) := by decide +kernel
theorem dX13_grade_51 : decode cX13_grade 51 = .ok (.invokevirtual 308, 3) := by decide +kernel
theorem dX13_grade_54 : decode cX13_grade 54 = .ok (.ireturn, 1) := by decide +kernel
theorem dX13_grade_55 : decode cX13_grade 55 = .ok (.aload_n 0, 1) := by decide +kernel
theorem dX13_grade_56 : decode cX13_grade 56 = .ok (.getfield 41, 3) := by decide +kernel
theorem dX13_grade_59 : decode cX13_grade 59 = .ok (.bipush 10, 2) := by decide +kernel
theorem dX13_grade_61 : decode cX13_grade 61 = .ok (.iload_n 1, 1) := by decide +kernel
theorem dX13_grade_62 : decode cX13_grade 62 = .ok (.imul, 1) := by decide +kernel
theorem dX13_grade_63 : decode cX13_grade 63 = .ok (.iload_n 2, 1) := by decide +kernel
theorem dX13_grade_64 : decode cX13_grade 64 = .ok (.iadd, 1) := by decide +kernel
theorem dX13_grade_65 : decode cX13_grade 65 = .ok (.iload_n 3, 1) := by decide +kernel
theorem dX13_grade_66 : decode cX13_grade 66 = .ok (.iastore, 1) := by decide +kernel
theorem dX13_grade_67 : decode cX13_grade 67 = .ok (.aload_n 0, 1) := by decide +kernel
theorem dX13_grade_68 : decode cX13_grade 68 = .ok (.getfield 44, 3) := by decide +kernel
theorem dX13_grade_71 : decode cX13_grade 71 = .ok (.bipush 10, 2) := by decide +kernel
theorem dX13_grade_73 : decode cX13_grade 73 = .ok (.iload_n 1, 1) := by decide +kernel
theorem dX13_grade_74 : decode cX13_grade 74 = .ok (.imul, 1) := by decide +kernel
theorem dX13_grade_75 : decode cX13_grade 75 = .ok (.iload_n 2, 1) := by decide +kernel
theorem dX13_grade_76 : decode cX13_grade 76 = .ok (.iadd, 1) := by decide +kernel
theorem dX13_grade_77 : decode cX13_grade 77 = .ok (.iload 4, 2) := by decide +kernel
theorem dX13_grade_79 : decode cX13_grade 79 = .ok (.iastore, 1) := by decide +kernel
theorem dX13_grade_80 : decode cX13_grade 80 = .ok (.iconst 1, 1) := by decide +kernel
theorem dX13_grade_81 : decode cX13_grade 81 = .ok (.ireturn, 1) := by decide +kernel
set_option maxRecDepth 100000 in
set_option maxHeartbeats 4000000 in
theorem wp_X13_grade {n0 d : Nat} {K : z_K} {I : z_I} {L : z_L} {Q : z_q} {p0 : Int32} {p1 : Int32} {p2 : Int32} {p3 : Int32} (hL : MLay K) (h : RM0 n0 xX13_isPoint d [.ref (n0 + 59), .int p0, .int p1] K I L (fun vv I1 L2 => ∃ r3 : Int32, vv = some (.int r3) ∧ (if r3 = 0 then RM0 n0 xX13_refuse d [.ref (n0 + 59), .int (-1)] K I1 L2 (fun vv I22 L23 => ∃ r24 : Int32, vv = some (.int r24) ∧ Q (some (.int r24)) I22 L23) else (if p2 < (-99) then RM0 n0 xX13_refuse d [.ref (n0 + 59), .int (-4)] K I1 L2 (fun vv I6 L7 => ∃ r8 : Int32, vv = some (.int r8) ∧ Q (some (.int r8)) I6 L7) else (if p3 < (-99) then RM0 n0 xX13_refuse d [.ref (n0 + 59), .int (-4)] K I1 L2 (fun vv I19 L20 => ∃ r21 : Int32, vv = some (.int r21) ∧ Q (some (.int r21)) I19 L20) else (if 99 < p2 then RM0 n0 xX13_refuse d [.ref (n0 + 59), .int (-6)] K I1 L2 (fun vv I11 L12 => ∃ r13 : Int32, vv = some (.int r13) ∧ Q (some (.int r13)) I11 L12) else (if 99 < p3 then RM0 n0 xX13_refuse d [.ref (n0 + 59), .int (-6)] K I1 L2 (fun vv I16 L17 => ∃ r18 : Int32, vv = some (.int r18) ∧ Q (some (.int r18)) I16 L17) else vp_in ((10 * p0) + p1) 160 ∧ Q (some (.int 1)) (zI (zI I1 70 (((10 * p0) + p1).toNatClampNeg) p2) 71 (((10 * p0) + p1).toNatClampNeg) p3) L2))))))) : RM0 n0 xX13_grade (d + 1) [.ref (n0 + 59), .int p0, .int p1, .int p2, .int p3] K I L Q := by
  refine z_entry0 (by decide) (Nat.le_of_ble_eq_true rfl) ?_
  change Z n0 xX13_grade (d + 1) 0 0 0 [(0, .ref (n0 + 59)), (1, .int p0), (2, .int p1), (3, .int p2), (4, .int p3)] [] K I L (z_q0 K Q)
  refine z_aload_n 0 dX13_grade_0 rfl ?_
  refine z_iload_n 1 dX13_grade_1 rfl ?_
  refine z_iload_n 2 dX13_grade_2 rfl ?_
  refine z_callV0 (As := [.int p0, .int p1]) (st := []) dX13_grade_3 hy_X13_isPoint hL.1 hL.2.1 (by decide) wg_1855 wg_1857 wg_60 (Nat.le_refl _) (Nat.le_of_ble_eq_true rfl) (RM0.mono h (fun vv I1 L2 h => ?_))
  obtain ⟨r3, rfl, h⟩ := h
  change Z n0 xX13_grade (d + 1) 0 0 6 [(0, .ref (n0 + 59)), (1, .int p0), (2, .int p1), (3, .int p2), (4, .int p3)] [.int r3] K I1 L2 (z_q0 K Q)
  refine z_if_ne 15 dX13_grade_6 (by decide) (fun g4 => ?_) (fun g4 => ?_)
  · rw [if_neg g4] at h
    refine z_iload_n 3 dX13_grade_15 rfl ?_
    refine z_bipush (-99) dX13_grade_16 (by decide) ?_
    refine z_icmp_lt 28 dX13_grade_18 (by decide) (fun g5 => ?_) (fun g5 => ?_)
    · rw [if_pos g5] at h
      refine z_aload_n 0 dX13_grade_28 rfl ?_
      refine z_bipush (-4) dX13_grade_29 (by decide) ?_
      refine z_callV0 (As := [.int (-4)]) (st := []) dX13_grade_31 hy_X13_refuse hL.1 hL.2.1 (by decide) wg_1778 wg_1780 wg_54 (Nat.le_refl _) (Nat.le_of_ble_eq_true rfl) (RM0.mono h (fun vv I6 L7 h => ?_))
      obtain ⟨r8, rfl, h⟩ := h
      change Z n0 xX13_grade (d + 1) 0 0 34 [(0, .ref (n0 + 59)), (1, .int p0), (2, .int p1), (3, .int p2), (4, .int p3)] [.int r8] K I6 L7 (z_q0 K Q)
      exact z_iret dX13_grade_34 rfl ⟨rfl, h⟩
    · rw [if_neg g5] at h
      refine z_iload 4 dX13_grade_21 rfl ?_
      refine z_bipush (-99) dX13_grade_23 (by decide) ?_
      refine z_icmp_ge 35 dX13_grade_25 (by decide) (fun g9 => ?_) (fun g9 => ?_)
      · rw [if_neg g9] at h
        refine z_iload_n 3 dX13_grade_35 rfl ?_
        refine z_bipush 99 dX13_grade_36 (by decide) ?_
        refine z_icmp_gt 48 dX13_grade_38 (by decide) (fun g10 => ?_) (fun g10 => ?_)
        · rw [if_pos g10] at h
          refine z_aload_n 0 dX13_grade_48 rfl ?_
          refine z_bipush (-6) dX13_grade_49 (by decide) ?_
          refine z_callV0 (As := [.int (-6)]) (st := []) dX13_grade_51 hy_X13_refuse hL.1 hL.2.1 (by decide) wg_1778 wg_1780 wg_54 (Nat.le_refl _) (Nat.le_of_ble_eq_true rfl) (RM0.mono h (fun vv I11 L12 h => ?_))
          obtain ⟨r13, rfl, h⟩ := h
          change Z n0 xX13_grade (d + 1) 0 0 54 [(0, .ref (n0 + 59)), (1, .int p0), (2, .int p1), (3, .int p2), (4, .int p3)] [.int r13] K I11 L12 (z_q0 K Q)
          exact z_iret dX13_grade_54 rfl ⟨rfl, h⟩
        · rw [if_neg g10] at h
          refine z_iload 4 dX13_grade_41 rfl ?_
          refine z_bipush 99 dX13_grade_43 (by decide) ?_
          refine z_icmp_le 55 dX13_grade_45 (by decide) (fun g14 => ?_) (fun g14 => ?_)
          · rw [if_neg g14] at h
            refine z_aload_n 0 dX13_grade_55 rfl ?_
            refine fg_13_41 (some 70) rfl dX13_grade_56 hL.1 hL.2.1 (ma_14 hL).1 ?_
            refine z_bipush 10 dX13_grade_59 (by decide) ?_
            refine z_iload_n 1 dX13_grade_61 rfl ?_
            refine z_imul dX13_grade_62 ?_
            refine z_iload_n 2 dX13_grade_63 rfl ?_
            refine z_iadd dX13_grade_64 ?_
            refine z_iload_n 3 dX13_grade_65 rfl ?_
            obtain ⟨o15, h⟩ := h
            refine z_iast dX13_grade_66 (ma_14 hL).2.1 (ma_14 hL).2.2 o15 ?_
            refine z_aload_n 0 dX13_grade_67 rfl ?_
            refine fg_13_44 (some 71) rfl dX13_grade_68 hL.1 hL.2.1 (ma_15 hL).1 ?_
            refine z_bipush 10 dX13_grade_71 (by decide) ?_
            refine z_iload_n 1 dX13_grade_73 rfl ?_
            refine z_imul dX13_grade_74 ?_
            refine z_iload_n 2 dX13_grade_75 rfl ?_
            refine z_iadd dX13_grade_76 ?_
            refine z_iload 4 dX13_grade_77 rfl ?_
            refine z_iast dX13_grade_79 (ma_15 hL).2.1 (ma_15 hL).2.2 o15 ?_
            refine z_iconst 1 dX13_grade_80 (by decide) ?_
            exact z_iret dX13_grade_81 rfl ⟨rfl, h⟩
          · rw [if_pos g14] at h
            refine z_aload_n 0 dX13_grade_48 rfl ?_
            refine z_bipush (-6) dX13_grade_49 (by decide) ?_
            refine z_callV0 (As := [.int (-6)]) (st := []) dX13_grade_51 hy_X13_refuse hL.1 hL.2.1 (by decide) wg_1778 wg_1780 wg_54 (Nat.le_refl _) (Nat.le_of_ble_eq_true rfl) (RM0.mono h (fun vv I16 L17 h => ?_))
            obtain ⟨r18, rfl, h⟩ := h
            change Z n0 xX13_grade (d + 1) 0 0 54 [(0, .ref (n0 + 59)), (1, .int p0), (2, .int p1), (3, .int p2), (4, .int p3)] [.int r18] K I16 L17 (z_q0 K Q)
            exact z_iret dX13_grade_54 rfl ⟨rfl, h⟩
      · rw [if_pos g9] at h
        refine z_aload_n 0 dX13_grade_28 rfl ?_
        refine z_bipush (-4) dX13_grade_29 (by decide) ?_
        refine z_callV0 (As := [.int (-4)]) (st := []) dX13_grade_31 hy_X13_refuse hL.1 hL.2.1 (by decide) wg_1778 wg_1780 wg_54 (Nat.le_refl _) (Nat.le_of_ble_eq_true rfl) (RM0.mono h (fun vv I19 L20 h => ?_))
        obtain ⟨r21, rfl, h⟩ := h
        change Z n0 xX13_grade (d + 1) 0 0 34 [(0, .ref (n0 + 59)), (1, .int p0), (2, .int p1), (3, .int p2), (4, .int p3)] [.int r21] K I19 L20 (z_q0 K Q)
        exact z_iret dX13_grade_34 rfl ⟨rfl, h⟩
  · rw [if_pos g4] at h
    refine z_aload_n 0 dX13_grade_9 rfl ?_
    refine z_iconst (-1) dX13_grade_10 (by decide) ?_
    refine z_callV0 (As := [.int (-1)]) (st := []) dX13_grade_11 hy_X13_refuse hL.1 hL.2.1 (by decide) wg_1778 wg_1780 wg_54 (Nat.le_refl _) (Nat.le_of_ble_eq_true rfl) (RM0.mono h (fun vv I22 L23 h => ?_))
    obtain ⟨r24, rfl, h⟩ := h
    change Z n0 xX13_grade (d + 1) 0 0 14 [(0, .ref (n0 + 59)), (1, .int p0), (2, .int p1), (3, .int p2), (4, .int p3)] [.int r24] K I22 L23 (z_q0 K Q)
    exact z_iret dX13_grade_14 rfl ⟨rfl, h⟩
theorem dX13_alter_0 : decode cX13_alter 0 = .ok (.aload_n 0, 1) := by decide +kernel
theorem dX13_alter_1 : decode cX13_alter 1 = .ok (.iload_n 1, 1) := by decide +kernel
theorem dX13_alter_2 : decode cX13_alter 2 = .ok (.iload_n 2, 1) := by decide +kernel
theorem dX13_alter_3 : decode cX13_alter 3 = .ok (.invokevirtual 445, 3) := by decide +kernel
theorem dX13_alter_6 : decode cX13_alter 6 = .ok (.ifCond .eq 11, 3) := by decide +kernel
theorem dX13_alter_9 : decode cX13_alter 9 = .ok (.aload_n 0, 1) := by decide +kernel
theorem dX13_alter_10 : decode cX13_alter 10 = .ok (.iload_n 3, 1) := by decide +kernel
theorem dX13_alter_11 : decode cX13_alter 11 = .ok (.invokevirtual 331, 3) := by decide +kernel
theorem dX13_alter_14 : decode cX13_alter 14 = .ok (.ifCond .ne 9, 3) := by decide +kernel
theorem dX13_alter_17 : decode cX13_alter 17 = .ok (.aload_n 0, 1) := by decide +kernel
theorem dX13_alter_18 : decode cX13_alter 18 = .ok (.iconst (-1), 1) := by decide +kernel
theorem dX13_alter_19 : decode cX13_alter 19 = .ok (.invokevirtual 308, 3) := by decide +kernel
theorem dX13_alter_22 : decode cX13_alter 22 = .ok (.ireturn, 1) := by decide +kernel
theorem dX13_alter_23 : decode cX13_alter 23 = .ok (.iload 4, 2) := by decide +kernel
theorem dX13_alter_25 : decode cX13_alter 25 = .ok (.sipush (-999), 3) := by decide +kernel
theorem dX13_alter_28 : decode cX13_alter 28 = .ok (.if_icmp .lt 11, 3) := by decide +kernel
theorem dX13_alter_31 : decode cX13_alter 31 = .ok (.iload 5, 2) := by decide +kernel
theorem dX13_alter_33 : decode cX13_alter 33 = .ok (.sipush (-999), 3) := by decide +kernel
theorem dX13_alter_36 : decode cX13_alter 36 = .ok (.if_icmp .ge 10, 3) := by decide +kernel
theorem dX13_alter_39 : decode cX13_alter 39 = .ok (.aload_n 0, 1) := by decide +kernel
theorem dX13_alter_40 : decode cX13_alter 40 = .ok (.bipush (-4), 2) := by decide +kernel
theorem dX13_alter_42 : decode cX13_alter 42 = .ok (.invokevirtual 308, 3) := by decide +kernel
theorem dX13_alter_45 : decode cX13_alter 45 = .ok (.ireturn, 1) := by decide +kernel
theorem dX13_alter_46 : decode cX13_alter 46 = .ok (.iconst 0, 1) := by decide +kernel
theorem dX13_alter_47 : decode cX13_alter 47 = .ok (.istore 6, 2) := by decide +kernel
theorem dX13_alter_49 : decode cX13_alter 49 = .ok (.iload 6, 2) := by decide +kernel
theorem dX13_alter_51 : decode cX13_alter 51 = .ok (.aload_n 0, 1) := by decide +kernel
theorem dX13_alter_52 : decode cX13_alter 52 = .ok (.getfield 464, 3) := by decide +kernel
theorem dX13_alter_55 : decode cX13_alter 55 = .ok (.if_icmp .ge 36, 3) := by decide +kernel
theorem dX13_alter_58 : decode cX13_alter 58 = .ok (.aload_n 0, 1) := by decide +kernel
theorem dX13_alter_59 : decode cX13_alter 59 = .ok (.getfield 96, 3) := by decide +kernel
theorem dX13_alter_62 : decode cX13_alter 62 = .ok (.iload 6, 2) := by decide +kernel
theorem dX13_alter_64 : decode cX13_alter 64 = .ok (.iaload, 1) := by decide +kernel
theorem dX13_alter_65 : decode cX13_alter 65 = .ok (.bipush 10, 2) := by decide +kernel
theorem dX13_alter_67 : decode cX13_alter 67 = .ok (.iload_n 1, 1) := by decide +kernel
theorem dX13_alter_68 : decode cX13_alter 68 = .ok (.imul, 1) := by decide +kernel
theorem dX13_alter_69 : decode cX13_alter 69 = .ok (.iload_n 2, 1) := by decide +kernel
theorem dX13_alter_70 : decode cX13_alter 70 = .ok (.iadd, 1) := by decide +kernel
theorem dX13_alter_71 : decode cX13_alter 71 = .ok (.if_icmp .ne 14, 3) := by decide +kernel
theorem dX13_alter_74 : decode cX13_alter 74 = .ok (.aload_n 0, 1) := by decide +kernel
theorem dX13_alter_75 : decode cX13_alter 75 = .ok (.getfield 99, 3) := by decide +kernel
theorem dX13_alter_78 : decode cX13_alter 78 = .ok (.iload 6, 2) := by decide +kernel
theorem dX13_alter_80 : decode cX13_alter 80 = .ok (.iaload, 1) := by decide +kernel
theorem dX13_alter_81 : decode cX13_alter 81 = .ok (.iload_n 3, 1) := by decide +kernel
theorem dX13_alter_82 : decode cX13_alter 82 = .ok (.if_icmp .eq 9, 3) := by decide +kernel
theorem dX13_alter_85 : decode cX13_alter 85 = .ok (.iinc 6 1, 3) := by decide +kernel
theorem dX13_alter_88 : decode cX13_alter 88 = .ok (.goto (-39), 3) := by decide +kernel
theorem dX13_alter_91 : decode cX13_alter 91 = .ok (.iload 4, 2) := by decide +kernel
theorem dX13_alter_93 : decode cX13_alter 93 = .ok (.sipush 999, 3) := by decide +kernel
theorem dX13_alter_96 : decode cX13_alter 96 = .ok (.if_icmp .gt 18, 3) := by decide +kernel
theorem dX13_alter_99 : decode cX13_alter 99 = .ok (.iload 5, 2) := by decide +kernel
theorem dX13_alter_101 : decode cX13_alter 101 = .ok (.sipush 999, 3) := by decide +kernel
theorem dX13_alter_104 : decode cX13_alter 104 = .ok (.if_icmp .gt 10, 3) := by decide +kernel
theorem dX13_alter_107 : decode cX13_alter 107 = .ok (.iload 6, 2) := by decide +kernel
theorem dX13_alter_109 : decode cX13_alter 109 = .ok (.bipush 40, 2) := by decide +kernel
theorem dX13_alter_111 : decode cX13_alter 111 = .ok (.if_icmp .ne 10, 3) := by decide +kernel
theorem dX13_alter_114 : decode cX13_alter 114 = .ok (.aload_n 0, 1) := by decide +kernel
theorem dX13_alter_115 : decode cX13_alter 115 = .ok (.bipush (-6), 2) := by decide +kernel
theorem dX13_alter_117 : decode cX13_alter 117 = .ok (.invokevirtual 308, 3) := by decide +kernel
theorem dX13_alter_120 : decode cX13_alter 120 = .ok (.ireturn, 1) := by decide +kernel
theorem dX13_alter_121 : decode cX13_alter 121 = .ok (.aload_n 0, 1) := by decide +kernel
theorem dX13_alter_122 : decode cX13_alter 122 = .ok (.getfield 96, 3) := by decide +kernel
theorem dX13_alter_125 : decode cX13_alter 125 = .ok (.iload 6, 2) := by decide +kernel
theorem dX13_alter_127 : decode cX13_alter 127 = .ok (.bipush 10, 2) := by decide +kernel
theorem dX13_alter_129 : decode cX13_alter 129 = .ok (.iload_n 1, 1) := by decide +kernel
theorem dX13_alter_130 : decode cX13_alter 130 = .ok (.imul, 1) := by decide +kernel
theorem dX13_alter_131 : decode cX13_alter 131 = .ok (.iload_n 2, 1) := by decide +kernel
theorem dX13_alter_132 : decode cX13_alter 132 = .ok (.iadd, 1) := by decide +kernel
theorem dX13_alter_133 : decode cX13_alter 133 = .ok (.iastore, 1) := by decide +kernel
theorem dX13_alter_134 : decode cX13_alter 134 = .ok (.aload_n 0, 1) := by decide +kernel
theorem dX13_alter_135 : decode cX13_alter 135 = .ok (.getfield 99, 3) := by decide +kernel
theorem dX13_alter_138 : decode cX13_alter 138 = .ok (.iload 6, 2) := by decide +kernel
theorem dX13_alter_140 : decode cX13_alter 140 = .ok (.iload_n 3, 1) := by decide +kernel
theorem dX13_alter_141 : decode cX13_alter 141 = .ok (.iastore, 1) := by decide +kernel
theorem dX13_alter_142 : decode cX13_alter 142 = .ok (.aload_n 0, 1) := by decide +kernel
theorem dX13_alter_143 : decode cX13_alter 143 = .ok (.getfield 102, 3) := by decide +kernel
theorem dX13_alter_146 : decode cX13_alter 146 = .ok (.iload 6, 2) := by decide +kernel
theorem dX13_alter_148 : decode cX13_alter 148 = .ok (.iload 4, 2) := by decide +kernel
theorem dX13_alter_150 : decode cX13_alter 150 = .ok (.iastore, 1) := by decide +kernel
theorem dX13_alter_151 : decode cX13_alter 151 = .ok (.aload_n 0, 1) := by decide +kernel
theorem dX13_alter_152 : decode cX13_alter 152 = .ok (.getfield 105, 3) := by decide +kernel
theorem dX13_alter_155 : decode cX13_alter 155 = .ok (.iload 6, 2) := by decide +kernel
theorem dX13_alter_157 : decode cX13_alter 157 = .ok (.iload 5, 2) := by decide +kernel
theorem dX13_alter_159 : decode cX13_alter 159 = .ok (.iastore, 1) := by decide +kernel
theorem dX13_alter_160 : decode cX13_alter 160 = .ok (.aload_n 0, 1) := by decide +kernel
theorem dX13_alter_161 : decode cX13_alter 161 = .ok (.dup, 1) := by decide +kernel
theorem dX13_alter_162 : decode cX13_alter 162 = .ok (.getfield 464, 3) := by decide +kernel
theorem dX13_alter_165 : decode cX13_alter 165 = .ok (.iload 6, 2) := by decide +kernel
theorem dX13_alter_167 : decode cX13_alter 167 = .ok (.aload_n 0, 1) := by decide +kernel
theorem dX13_alter_168 : decode cX13_alter 168 = .ok (.getfield 464, 3) := by decide +kernel
theorem dX13_alter_171 : decode cX13_alter 171 = .ok (.if_icmp .ne 7, 3) := by decide +kernel
theorem dX13_alter_174 : decode cX13_alter 174 = .ok (.iconst 1, 1) := by decide +kernel
theorem dX13_alter_175 : decode cX13_alter 175 = .ok (.goto 4, 3) := by decide +kernel
theorem dX13_alter_178 : decode cX13_alter 178 = .ok (.iconst 0, 1) := by decide +kernel
theorem dX13_alter_179 : decode cX13_alter 179 = .ok (.iadd, 1) := by decide +kernel
theorem dX13_alter_180 : decode cX13_alter 180 = .ok (.putfield 464, 3) := by decide +kernel
theorem dX13_alter_183 : decode cX13_alter 183 = .ok (.iconst 1, 1) := by decide +kernel
theorem dX13_alter_184 : decode cX13_alter 184 = .ok (.ireturn, 1) := by decide +kernel
set_option maxRecDepth 100000 in
set_option maxHeartbeats 4000000 in
theorem wp_X13_alter {n0 d : Nat} {K : z_K} {I : z_I} {L : z_L} {Q : z_q} {p0 : Int32} {p1 : Int32} {p2 : Int32} {p3 : Int32} {p4 : Int32} (hL : MLay K) (h : RM0 n0 xX13_isPoint d [.ref (n0 + 59), .int p0, .int p1] K I L (fun vv I1 L2 => ∃ r3 : Int32, vv = some (.int r3) ∧ (if r3 = 0 then RM0 n0 xX13_refuse d [.ref (n0 + 59), .int (-1)] K I1 L2 (fun vv I5 L6 => ∃ r7 : Int32, vv = some (.int r7) ∧ Q (some (.int r7)) I5 L6) else RM0 n0 xX13_isBody d [.ref (n0 + 59), .int p2] K I1 L2 (fun vv I8 L9 => ∃ r10 : Int32, vv = some (.int r10) ∧ (if r10 = 0 then RM0 n0 xX13_refuse d [.ref (n0 + 59), .int (-1)] K I8 L9 (fun vv I20 L21 => ∃ r22 : Int32, vv = some (.int r22) ∧ Q (some (.int r22)) I20 L21) else (if p3 < (-999) then RM0 n0 xX13_refuse d [.ref (n0 + 59), .int (-4)] K I8 L9 (fun vv I13 L14 => ∃ r15 : Int32, vv = some (.int r15) ∧ Q (some (.int r15)) I13 L14) else (if p4 < (-999) then RM0 n0 xX13_refuse d [.ref (n0 + 59), .int (-4)] K I8 L9 (fun vv I17 L18 => ∃ r19 : Int32, vv = some (.int r19) ∧ Q (some (.int r19)) I17 L18) else Z n0 xX13_alter (d + 1) 0 0 49 [(0, .ref (n0 + 59)), (1, .int p0), (2, .int p1), (3, .int p2), (4, .int p3), (5, .int p4), (6, .int 0)] [] K I8 L9 (z_q0 K Q)))))))) : RM0 n0 xX13_alter (d + 1) [.ref (n0 + 59), .int p0, .int p1, .int p2, .int p3, .int p4] K I L Q := by
  refine z_entry0 (by decide) (Nat.le_of_ble_eq_true rfl) ?_
  change Z n0 xX13_alter (d + 1) 0 0 0 [(0, .ref (n0 + 59)), (1, .int p0), (2, .int p1), (3, .int p2), (4, .int p3), (5, .int p4)] [] K I L (z_q0 K Q)
  refine z_aload_n 0 dX13_alter_0 rfl ?_
  refine z_iload_n 1 dX13_alter_1 rfl ?_
  refine z_iload_n 2 dX13_alter_2 rfl ?_
  refine z_callV0 (As := [.int p0, .int p1]) (st := []) dX13_alter_3 hy_X13_isPoint hL.1 hL.2.1 (by decide) wg_1855 wg_1857 wg_60 (Nat.le_refl _) (Nat.le_of_ble_eq_true rfl) (RM0.mono h (fun vv I1 L2 h => ?_))
  obtain ⟨r3, rfl, h⟩ := h
  change Z n0 xX13_alter (d + 1) 0 0 6 [(0, .ref (n0 + 59)), (1, .int p0), (2, .int p1), (3, .int p2), (4, .int p3), (5, .int p4)] [.int r3] K I1 L2 (z_q0 K Q)
  refine z_if_eq 17 dX13_alter_6 (by decide) (fun g4 => ?_) (fun g4 => ?_)
  · rw [if_pos g4] at h
    refine z_aload_n 0 dX13_alter_17 rfl ?_
    refine z_iconst (-1) dX13_alter_18 (by decide) ?_
    refine z_callV0 (As := [.int (-1)]) (st := []) dX13_alter_19 hy_X13_refuse hL.1 hL.2.1 (by decide) wg_1778 wg_1780 wg_54 (Nat.le_refl _) (Nat.le_of_ble_eq_true rfl) (RM0.mono h (fun vv I5 L6 h => ?_))
    obtain ⟨r7, rfl, h⟩ := h
    change Z n0 xX13_alter (d + 1) 0 0 22 [(0, .ref (n0 + 59)), (1, .int p0), (2, .int p1), (3, .int p2), (4, .int p3), (5, .int p4)] [.int r7] K I5 L6 (z_q0 K Q)
    exact z_iret dX13_alter_22 rfl ⟨rfl, h⟩
  · rw [if_neg g4] at h
    refine z_aload_n 0 dX13_alter_9 rfl ?_
    refine z_iload_n 3 dX13_alter_10 rfl ?_
    refine z_callV0 (As := [.int p2]) (st := []) dX13_alter_11 hy_X13_isBody hL.1 hL.2.1 (by decide) wg_1816 wg_1818 wg_56 (Nat.le_refl _) (Nat.le_of_ble_eq_true rfl) (RM0.mono h (fun vv I8 L9 h => ?_))
    obtain ⟨r10, rfl, h⟩ := h
    change Z n0 xX13_alter (d + 1) 0 0 14 [(0, .ref (n0 + 59)), (1, .int p0), (2, .int p1), (3, .int p2), (4, .int p3), (5, .int p4)] [.int r10] K I8 L9 (z_q0 K Q)
    refine z_if_ne 23 dX13_alter_14 (by decide) (fun g11 => ?_) (fun g11 => ?_)
    · rw [if_neg g11] at h
      refine z_iload 4 dX13_alter_23 rfl ?_
      refine z_sipush (-999) dX13_alter_25 (by decide) ?_
      refine z_icmp_lt 39 dX13_alter_28 (by decide) (fun g12 => ?_) (fun g12 => ?_)
      · rw [if_pos g12] at h
        refine z_aload_n 0 dX13_alter_39 rfl ?_
        refine z_bipush (-4) dX13_alter_40 (by decide) ?_
        refine z_callV0 (As := [.int (-4)]) (st := []) dX13_alter_42 hy_X13_refuse hL.1 hL.2.1 (by decide) wg_1778 wg_1780 wg_54 (Nat.le_refl _) (Nat.le_of_ble_eq_true rfl) (RM0.mono h (fun vv I13 L14 h => ?_))
        obtain ⟨r15, rfl, h⟩ := h
        change Z n0 xX13_alter (d + 1) 0 0 45 [(0, .ref (n0 + 59)), (1, .int p0), (2, .int p1), (3, .int p2), (4, .int p3), (5, .int p4)] [.int r15] K I13 L14 (z_q0 K Q)
        exact z_iret dX13_alter_45 rfl ⟨rfl, h⟩
      · rw [if_neg g12] at h
        refine z_iload 5 dX13_alter_31 rfl ?_
        refine z_sipush (-999) dX13_alter_33 (by decide) ?_
        refine z_icmp_ge 46 dX13_alter_36 (by decide) (fun g16 => ?_) (fun g16 => ?_)
        · rw [if_neg g16] at h
          refine z_iconst 0 dX13_alter_46 (by decide) ?_
          refine z_istore [1, 2, 3, 4, 5, 6, 0] [(0, .ref (n0 + 59)), (1, .int p0), (2, .int p1), (3, .int p2), (4, .int p3), (5, .int p4), (6, .int 0)] dX13_alter_47 (by decide) rfl ?_
          exact h
        · rw [if_pos g16] at h
          refine z_aload_n 0 dX13_alter_39 rfl ?_
          refine z_bipush (-4) dX13_alter_40 (by decide) ?_
          refine z_callV0 (As := [.int (-4)]) (st := []) dX13_alter_42 hy_X13_refuse hL.1 hL.2.1 (by decide) wg_1778 wg_1780 wg_54 (Nat.le_refl _) (Nat.le_of_ble_eq_true rfl) (RM0.mono h (fun vv I17 L18 h => ?_))
          obtain ⟨r19, rfl, h⟩ := h
          change Z n0 xX13_alter (d + 1) 0 0 45 [(0, .ref (n0 + 59)), (1, .int p0), (2, .int p1), (3, .int p2), (4, .int p3), (5, .int p4)] [.int r19] K I17 L18 (z_q0 K Q)
          exact z_iret dX13_alter_45 rfl ⟨rfl, h⟩
    · rw [if_pos g11] at h
      refine z_aload_n 0 dX13_alter_17 rfl ?_
      refine z_iconst (-1) dX13_alter_18 (by decide) ?_
      refine z_callV0 (As := [.int (-1)]) (st := []) dX13_alter_19 hy_X13_refuse hL.1 hL.2.1 (by decide) wg_1778 wg_1780 wg_54 (Nat.le_refl _) (Nat.le_of_ble_eq_true rfl) (RM0.mono h (fun vv I20 L21 h => ?_))
      obtain ⟨r22, rfl, h⟩ := h
      change Z n0 xX13_alter (d + 1) 0 0 22 [(0, .ref (n0 + 59)), (1, .int p0), (2, .int p1), (3, .int p2), (4, .int p3), (5, .int p4)] [.int r22] K I20 L21 (z_q0 K Q)
      exact z_iret dX13_alter_22 rfl ⟨rfl, h⟩
set_option maxRecDepth 100000 in
set_option maxHeartbeats 4000000 in
theorem wp_X13_alter_49 {n0 d : Nat} {rc rs : Nat} {K : z_K} {I : z_I} {L : z_L} {Q : z_q} {a1 : Int32} {a2 : Int32} {a3 : Int32} {a4 : Int32} {a5 : Int32} {a6 : Int32} (hL : MLay K) (h : (if a6 < (I 59 49) then vp_in a6 40 ∧ (if ((I 88 a6.toNatClampNeg) : Int32) = ((10 * a1) + a2) then (if ((I 89 a6.toNatClampNeg) : Int32) = a3 then (if 999 < a4 then RM0 n0 xX13_refuse d [.ref (n0 + 59), .int (-6)] K I L (fun vv I21 L22 => ∃ r23 : Int32, vv = some (.int r23) ∧ Q (some (.int r23)) I21 L22) else (if 999 < a5 then RM0 n0 xX13_refuse d [.ref (n0 + 59), .int (-6)] K I L (fun vv I25 L26 => ∃ r27 : Int32, vv = some (.int r27) ∧ Q (some (.int r27)) I25 L26) else (if a6 = 40 then RM0 n0 xX13_refuse d [.ref (n0 + 59), .int (-6)] K I L (fun vv I31 L32 => ∃ r33 : Int32, vv = some (.int r33) ∧ Q (some (.int r33)) I31 L32) else Q (some (.int 1)) (zI (zI (zI (zI (zI I 88 a6.toNatClampNeg ((10 * a1) + a2)) 89 a6.toNatClampNeg a3) 90 a6.toNatClampNeg a4) 91 a6.toNatClampNeg a5) 59 49 ((I 59 49) + (if a6 = (I 59 49) then 1 else 0))) L))) else Z n0 xX13_alter (d + 1) rc rs 49 [(0, .ref (n0 + 59)), (1, .int a1), (2, .int a2), (3, .int a3), (4, .int a4), (5, .int a5), (6, .int (a6 + 1))] [] K I L (z_q0 K Q)) else Z n0 xX13_alter (d + 1) rc rs 49 [(0, .ref (n0 + 59)), (1, .int a1), (2, .int a2), (3, .int a3), (4, .int a4), (5, .int a5), (6, .int (a6 + 1))] [] K I L (z_q0 K Q)) else (if 999 < a4 then RM0 n0 xX13_refuse d [.ref (n0 + 59), .int (-6)] K I L (fun vv I3 L4 => ∃ r5 : Int32, vv = some (.int r5) ∧ Q (some (.int r5)) I3 L4) else (if 999 < a5 then RM0 n0 xX13_refuse d [.ref (n0 + 59), .int (-6)] K I L (fun vv I7 L8 => ∃ r9 : Int32, vv = some (.int r9) ∧ Q (some (.int r9)) I7 L8) else (if a6 = 40 then RM0 n0 xX13_refuse d [.ref (n0 + 59), .int (-6)] K I L (fun vv I14 L15 => ∃ r16 : Int32, vv = some (.int r16) ∧ Q (some (.int r16)) I14 L15) else vp_in a6 40 ∧ Q (some (.int 1)) (zI (zI (zI (zI (zI I 88 a6.toNatClampNeg ((10 * a1) + a2)) 89 a6.toNatClampNeg a3) 90 a6.toNatClampNeg a4) 91 a6.toNatClampNeg a5) 59 49 ((I 59 49) + (if a6 = (I 59 49) then 1 else 0))) L))))) : Z n0 xX13_alter (d + 1) rc rs 49 [(0, .ref (n0 + 59)), (1, .int a1), (2, .int a2), (3, .int a3), (4, .int a4), (5, .int a5), (6, .int a6)] [] K I L (z_q0 K Q) := by
  refine z_iload 6 dX13_alter_49 rfl ?_
  refine z_aload_n 0 dX13_alter_51 rfl ?_
  refine fg_13_464 (I 59 49) rfl dX13_alter_52 hL.1 hL.2.1 rfl ?_
  refine z_icmp_ge 91 dX13_alter_55 (by decide) (fun g1 => ?_) (fun g1 => ?_)
  · rw [if_neg g1] at h
    refine z_iload 4 dX13_alter_91 rfl ?_
    refine z_sipush 999 dX13_alter_93 (by decide) ?_
    refine z_icmp_gt 114 dX13_alter_96 (by decide) (fun g2 => ?_) (fun g2 => ?_)
    · rw [if_pos g2] at h
      refine z_aload_n 0 dX13_alter_114 rfl ?_
      refine z_bipush (-6) dX13_alter_115 (by decide) ?_
      refine z_callV0 (As := [.int (-6)]) (st := []) dX13_alter_117 hy_X13_refuse hL.1 hL.2.1 (by decide) wg_1778 wg_1780 wg_54 (Nat.le_refl _) (Nat.le_of_ble_eq_true rfl) (RM0.mono h (fun vv I3 L4 h => ?_))
      obtain ⟨r5, rfl, h⟩ := h
      change Z n0 xX13_alter (d + 1) rc rs 120 [(0, .ref (n0 + 59)), (1, .int a1), (2, .int a2), (3, .int a3), (4, .int a4), (5, .int a5), (6, .int a6)] [.int r5] K I3 L4 (z_q0 K Q)
      exact z_iret dX13_alter_120 rfl ⟨rfl, h⟩
    · rw [if_neg g2] at h
      refine z_iload 5 dX13_alter_99 rfl ?_
      refine z_sipush 999 dX13_alter_101 (by decide) ?_
      refine z_icmp_gt 114 dX13_alter_104 (by decide) (fun g6 => ?_) (fun g6 => ?_)
      · rw [if_pos g6] at h
        refine z_aload_n 0 dX13_alter_114 rfl ?_
        refine z_bipush (-6) dX13_alter_115 (by decide) ?_
        refine z_callV0 (As := [.int (-6)]) (st := []) dX13_alter_117 hy_X13_refuse hL.1 hL.2.1 (by decide) wg_1778 wg_1780 wg_54 (Nat.le_refl _) (Nat.le_of_ble_eq_true rfl) (RM0.mono h (fun vv I7 L8 h => ?_))
        obtain ⟨r9, rfl, h⟩ := h
        change Z n0 xX13_alter (d + 1) rc rs 120 [(0, .ref (n0 + 59)), (1, .int a1), (2, .int a2), (3, .int a3), (4, .int a4), (5, .int a5), (6, .int a6)] [.int r9] K I7 L8 (z_q0 K Q)
        exact z_iret dX13_alter_120 rfl ⟨rfl, h⟩
      · rw [if_neg g6] at h
        refine z_iload 6 dX13_alter_107 rfl ?_
        refine z_bipush 40 dX13_alter_109 (by decide) ?_
        refine z_icmp_ne 121 dX13_alter_111 (by decide) (fun g10 => ?_) (fun g10 => ?_)
        · rw [if_neg g10] at h
          refine z_aload_n 0 dX13_alter_121 rfl ?_
          refine fg_13_96 (some 88) rfl dX13_alter_122 hL.1 hL.2.1 (ma_50 hL).1 ?_
          refine z_iload 6 dX13_alter_125 rfl ?_
          refine z_bipush 10 dX13_alter_127 (by decide) ?_
          refine z_iload_n 1 dX13_alter_129 rfl ?_
          refine z_imul dX13_alter_130 ?_
          refine z_iload_n 2 dX13_alter_131 rfl ?_
          refine z_iadd dX13_alter_132 ?_
          obtain ⟨o11, h⟩ := h
          refine z_iast dX13_alter_133 (ma_50 hL).2.1 (ma_50 hL).2.2 o11 ?_
          refine z_aload_n 0 dX13_alter_134 rfl ?_
          refine fg_13_99 (some 89) rfl dX13_alter_135 hL.1 hL.2.1 (ma_51 hL).1 ?_
          refine z_iload 6 dX13_alter_138 rfl ?_
          refine z_iload_n 3 dX13_alter_140 rfl ?_
          refine z_iast dX13_alter_141 (ma_51 hL).2.1 (ma_51 hL).2.2 o11 ?_
          refine z_aload_n 0 dX13_alter_142 rfl ?_
          refine fg_13_102 (some 90) rfl dX13_alter_143 hL.1 hL.2.1 (ma_52 hL).1 ?_
          refine z_iload 6 dX13_alter_146 rfl ?_
          refine z_iload 4 dX13_alter_148 rfl ?_
          refine z_iast dX13_alter_150 (ma_52 hL).2.1 (ma_52 hL).2.2 o11 ?_
          refine z_aload_n 0 dX13_alter_151 rfl ?_
          refine fg_13_105 (some 91) rfl dX13_alter_152 hL.1 hL.2.1 (ma_53 hL).1 ?_
          refine z_iload 6 dX13_alter_155 rfl ?_
          refine z_iload 5 dX13_alter_157 rfl ?_
          refine z_iast dX13_alter_159 (ma_53 hL).2.1 (ma_53 hL).2.2 o11 ?_
          refine z_aload_n 0 dX13_alter_160 rfl ?_
          refine z_dup dX13_alter_161 rfl ?_
          refine fg_13_464 (I 59 49) rfl dX13_alter_162 hL.1 hL.2.1 rfl ?_
          refine z_iload 6 dX13_alter_165 rfl ?_
          refine z_aload_n 0 dX13_alter_167 rfl ?_
          refine fg_13_464 (I 59 49) rfl dX13_alter_168 hL.1 hL.2.1 rfl ?_
          have key13 : Z n0 xX13_alter (d + 1) rc rs 179 [] [.int (if a6 = (I 59 49) then 1 else 0), .int (I 59 49), .ref (n0 + 59)] K (zI (zI (zI (zI I 88 a6.toNatClampNeg ((10 * a1) + a2)) 89 a6.toNatClampNeg a3) 90 a6.toNatClampNeg a4) 91 a6.toNatClampNeg a5) L (z_q0 K Q) := by
            refine z_iadd dX13_alter_179 ?_
            refine fp_13_464 rfl dX13_alter_180 hL.1 hL.2.1 ?_
            refine z_iconst 1 dX13_alter_183 (by decide) ?_
            exact z_iret dX13_alter_184 rfl ⟨rfl, h⟩
          refine z_icmp_ne 178 dX13_alter_171 (by decide) (fun g12 => ?_) (fun g12 => ?_)
          · refine z_iconst 0 dX13_alter_178 (by decide) ?_
            have ee : ((if a6 = (I 59 49) then 1 else 0) : Int32) = 0 := by rw [if_neg g12]
            rw [ee] at key13
            clear ee
            refine z_sub [] rfl ?_
            exact key13
          · refine z_iconst 1 dX13_alter_174 (by decide) ?_
            refine z_goto 179 dX13_alter_175 (by decide) ?_
            have ee : ((if a6 = (I 59 49) then 1 else 0) : Int32) = 1 := by rw [if_pos g12]
            rw [ee] at key13
            clear ee
            refine z_sub [] rfl ?_
            exact key13
        · rw [if_pos g10] at h
          refine z_aload_n 0 dX13_alter_114 rfl ?_
          refine z_bipush (-6) dX13_alter_115 (by decide) ?_
          refine z_callV0 (As := [.int (-6)]) (st := []) dX13_alter_117 hy_X13_refuse hL.1 hL.2.1 (by decide) wg_1778 wg_1780 wg_54 (Nat.le_refl _) (Nat.le_of_ble_eq_true rfl) (RM0.mono h (fun vv I14 L15 h => ?_))
          obtain ⟨r16, rfl, h⟩ := h
          change Z n0 xX13_alter (d + 1) rc rs 120 [(0, .ref (n0 + 59)), (1, .int a1), (2, .int a2), (3, .int a3), (4, .int a4), (5, .int a5), (6, .int a6)] [.int r16] K I14 L15 (z_q0 K Q)
          exact z_iret dX13_alter_120 rfl ⟨rfl, h⟩
  · rw [if_pos g1] at h
    refine z_aload_n 0 dX13_alter_58 rfl ?_
    refine fg_13_96 (some 88) rfl dX13_alter_59 hL.1 hL.2.1 (ma_50 hL).1 ?_
    refine z_iload 6 dX13_alter_62 rfl ?_
    obtain ⟨o17, h⟩ := h
    refine z_iald (I 88 a6.toNatClampNeg) dX13_alter_64 (ma_50 hL).2.1 (ma_50 hL).2.2 o17 rfl ?_
    refine z_bipush 10 dX13_alter_65 (by decide) ?_
    refine z_iload_n 1 dX13_alter_67 rfl ?_
    refine z_imul dX13_alter_68 ?_
    refine z_iload_n 2 dX13_alter_69 rfl ?_
    refine z_iadd dX13_alter_70 ?_
    refine z_icmp_ne 85 dX13_alter_71 (by decide) (fun g18 => ?_) (fun g18 => ?_)
    · rw [if_neg g18] at h
      refine z_iinc (j := 6) (a6 + 1) [1, 2, 3, 4, 5, 6, 0] [(0, .ref (n0 + 59)), (1, .int a1), (2, .int a2), (3, .int a3), (4, .int a4), (5, .int a5), (6, .int (a6 + 1))] dX13_alter_85 rfl rfl (by decide) rfl ?_
      refine z_goto 49 dX13_alter_88 (by decide) ?_
      exact h
    · rw [if_pos g18] at h
      refine z_aload_n 0 dX13_alter_74 rfl ?_
      refine fg_13_99 (some 89) rfl dX13_alter_75 hL.1 hL.2.1 (ma_51 hL).1 ?_
      refine z_iload 6 dX13_alter_78 rfl ?_
      refine z_iald (I 89 a6.toNatClampNeg) dX13_alter_80 (ma_51 hL).2.1 (ma_51 hL).2.2 o17 rfl ?_
      refine z_iload_n 3 dX13_alter_81 rfl ?_
      refine z_icmp_eq 91 dX13_alter_82 (by decide) (fun g19 => ?_) (fun g19 => ?_)
      · rw [if_pos g19] at h
        refine z_iload 4 dX13_alter_91 rfl ?_
        refine z_sipush 999 dX13_alter_93 (by decide) ?_
        refine z_icmp_gt 114 dX13_alter_96 (by decide) (fun g20 => ?_) (fun g20 => ?_)
        · rw [if_pos g20] at h
          refine z_aload_n 0 dX13_alter_114 rfl ?_
          refine z_bipush (-6) dX13_alter_115 (by decide) ?_
          refine z_callV0 (As := [.int (-6)]) (st := []) dX13_alter_117 hy_X13_refuse hL.1 hL.2.1 (by decide) wg_1778 wg_1780 wg_54 (Nat.le_refl _) (Nat.le_of_ble_eq_true rfl) (RM0.mono h (fun vv I21 L22 h => ?_))
          obtain ⟨r23, rfl, h⟩ := h
          change Z n0 xX13_alter (d + 1) rc rs 120 [(0, .ref (n0 + 59)), (1, .int a1), (2, .int a2), (3, .int a3), (4, .int a4), (5, .int a5), (6, .int a6)] [.int r23] K I21 L22 (z_q0 K Q)
          exact z_iret dX13_alter_120 rfl ⟨rfl, h⟩
        · rw [if_neg g20] at h
          refine z_iload 5 dX13_alter_99 rfl ?_
          refine z_sipush 999 dX13_alter_101 (by decide) ?_
          refine z_icmp_gt 114 dX13_alter_104 (by decide) (fun g24 => ?_) (fun g24 => ?_)
          · rw [if_pos g24] at h
            refine z_aload_n 0 dX13_alter_114 rfl ?_
            refine z_bipush (-6) dX13_alter_115 (by decide) ?_
            refine z_callV0 (As := [.int (-6)]) (st := []) dX13_alter_117 hy_X13_refuse hL.1 hL.2.1 (by decide) wg_1778 wg_1780 wg_54 (Nat.le_refl _) (Nat.le_of_ble_eq_true rfl) (RM0.mono h (fun vv I25 L26 h => ?_))
            obtain ⟨r27, rfl, h⟩ := h
            change Z n0 xX13_alter (d + 1) rc rs 120 [(0, .ref (n0 + 59)), (1, .int a1), (2, .int a2), (3, .int a3), (4, .int a4), (5, .int a5), (6, .int a6)] [.int r27] K I25 L26 (z_q0 K Q)
            exact z_iret dX13_alter_120 rfl ⟨rfl, h⟩
          · rw [if_neg g24] at h
            refine z_iload 6 dX13_alter_107 rfl ?_
            refine z_bipush 40 dX13_alter_109 (by decide) ?_
            refine z_icmp_ne 121 dX13_alter_111 (by decide) (fun g28 => ?_) (fun g28 => ?_)
            · rw [if_neg g28] at h
              refine z_aload_n 0 dX13_alter_121 rfl ?_
              refine fg_13_96 (some 88) rfl dX13_alter_122 hL.1 hL.2.1 (ma_50 hL).1 ?_
              refine z_iload 6 dX13_alter_125 rfl ?_
              refine z_bipush 10 dX13_alter_127 (by decide) ?_
              refine z_iload_n 1 dX13_alter_129 rfl ?_
              refine z_imul dX13_alter_130 ?_
              refine z_iload_n 2 dX13_alter_131 rfl ?_
              refine z_iadd dX13_alter_132 ?_
              refine z_iast dX13_alter_133 (ma_50 hL).2.1 (ma_50 hL).2.2 o17 ?_
              refine z_aload_n 0 dX13_alter_134 rfl ?_
              refine fg_13_99 (some 89) rfl dX13_alter_135 hL.1 hL.2.1 (ma_51 hL).1 ?_
              refine z_iload 6 dX13_alter_138 rfl ?_
              refine z_iload_n 3 dX13_alter_140 rfl ?_
              refine z_iast dX13_alter_141 (ma_51 hL).2.1 (ma_51 hL).2.2 o17 ?_
              refine z_aload_n 0 dX13_alter_142 rfl ?_
              refine fg_13_102 (some 90) rfl dX13_alter_143 hL.1 hL.2.1 (ma_52 hL).1 ?_
              refine z_iload 6 dX13_alter_146 rfl ?_
              refine z_iload 4 dX13_alter_148 rfl ?_
              refine z_iast dX13_alter_150 (ma_52 hL).2.1 (ma_52 hL).2.2 o17 ?_
              refine z_aload_n 0 dX13_alter_151 rfl ?_
              refine fg_13_105 (some 91) rfl dX13_alter_152 hL.1 hL.2.1 (ma_53 hL).1 ?_
              refine z_iload 6 dX13_alter_155 rfl ?_
              refine z_iload 5 dX13_alter_157 rfl ?_
              refine z_iast dX13_alter_159 (ma_53 hL).2.1 (ma_53 hL).2.2 o17 ?_
              refine z_aload_n 0 dX13_alter_160 rfl ?_
              refine z_dup dX13_alter_161 rfl ?_
              refine fg_13_464 (I 59 49) rfl dX13_alter_162 hL.1 hL.2.1 rfl ?_
              refine z_iload 6 dX13_alter_165 rfl ?_
              refine z_aload_n 0 dX13_alter_167 rfl ?_
              refine fg_13_464 (I 59 49) rfl dX13_alter_168 hL.1 hL.2.1 rfl ?_
              have key30 : Z n0 xX13_alter (d + 1) rc rs 179 [] [.int (if a6 = (I 59 49) then 1 else 0), .int (I 59 49), .ref (n0 + 59)] K (zI (zI (zI (zI I 88 a6.toNatClampNeg ((10 * a1) + a2)) 89 a6.toNatClampNeg a3) 90 a6.toNatClampNeg a4) 91 a6.toNatClampNeg a5) L (z_q0 K Q) := by
                refine z_iadd dX13_alter_179 ?_
                refine fp_13_464 rfl dX13_alter_180 hL.1 hL.2.1 ?_
                refine z_iconst 1 dX13_alter_183 (by decide) ?_
                exact z_iret dX13_alter_184 rfl ⟨rfl, h⟩
              refine z_icmp_ne 178 dX13_alter_171 (by decide) (fun g29 => ?_) (fun g29 => ?_)
              · refine z_iconst 0 dX13_alter_178 (by decide) ?_
                have ee : ((if a6 = (I 59 49) then 1 else 0) : Int32) = 0 := by rw [if_neg g29]
                rw [ee] at key30
                clear ee
                refine z_sub [] rfl ?_
                exact key30
              · refine z_iconst 1 dX13_alter_174 (by decide) ?_
                refine z_goto 179 dX13_alter_175 (by decide) ?_
                have ee : ((if a6 = (I 59 49) then 1 else 0) : Int32) = 1 := by rw [if_pos g29]
                rw [ee] at key30
                clear ee
                refine z_sub [] rfl ?_
                exact key30
            · rw [if_pos g28] at h
              refine z_aload_n 0 dX13_alter_114 rfl ?_
              refine z_bipush (-6) dX13_alter_115 (by decide) ?_
              refine z_callV0 (As := [.int (-6)]) (st := []) dX13_alter_117 hy_X13_refuse hL.1 hL.2.1 (by decide) wg_1778 wg_1780 wg_54 (Nat.le_refl _) (Nat.le_of_ble_eq_true rfl) (RM0.mono h (fun vv I31 L32 h => ?_))
              obtain ⟨r33, rfl, h⟩ := h
              change Z n0 xX13_alter (d + 1) rc rs 120 [(0, .ref (n0 + 59)), (1, .int a1), (2, .int a2), (3, .int a3), (4, .int a4), (5, .int a5), (6, .int a6)] [.int r33] K I31 L32 (z_q0 K Q)
              exact z_iret dX13_alter_120 rfl ⟨rfl, h⟩
      · rw [if_neg g19] at h
        refine z_iinc (j := 6) (a6 + 1) [1, 2, 3, 4, 5, 6, 0] [(0, .ref (n0 + 59)), (1, .int a1), (2, .int a2), (3, .int a3), (4, .int a4), (5, .int a5), (6, .int (a6 + 1))] dX13_alter_85 rfl rfl (by decide) rfl ?_
        refine z_goto 49 dX13_alter_88 (by decide) ?_
        exact h
theorem dX13_curve_0 : decode cX13_curve 0 = .ok (.aload_n 0, 1) := by decide +kernel
theorem dX13_curve_1 : decode cX13_curve 1 = .ok (.iload_n 1, 1) := by decide +kernel
theorem dX13_curve_2 : decode cX13_curve 2 = .ok (.iload_n 2, 1) := by decide +kernel
theorem dX13_curve_3 : decode cX13_curve 3 = .ok (.invokevirtual 445, 3) := by decide +kernel
theorem dX13_curve_6 : decode cX13_curve 6 = .ok (.ifCond .ne 9, 3) := by decide +kernel
theorem dX13_curve_9 : decode cX13_curve 9 = .ok (.aload_n 0, 1) := by decide +kernel
theorem dX13_curve_10 : decode cX13_curve 10 = .ok (.iconst (-1), 1) := by decide +kernel
theorem dX13_curve_11 : decode cX13_curve 11 = .ok (.invokevirtual 308, 3) := by decide +kernel
theorem dX13_curve_14 : decode cX13_curve 14 = .ok (.ireturn, 1) := by decide +kernel
theorem dX13_curve_15 : decode cX13_curve 15 = .ok (.iload_n 3, 1) := by decide +kernel
theorem dX13_curve_16 : decode cX13_curve 16 = .ok (.sipush (-999), 3) := by decide +kernel
theorem dX13_curve_19 : decode cX13_curve 19 = .ok (.if_icmp .lt 11, 3) := by decide +kernel
theorem dX13_curve_22 : decode cX13_curve 22 = .ok (.iload 4, 2) := by decide +kernel
theorem dX13_curve_24 : decode cX13_curve 24 = .ok (.sipush (-999), 3) := by decide +kernel
theorem dX13_curve_27 : decode cX13_curve 27 = .ok (.if_icmp .ge 10, 3) := by decide +kernel
theorem dX13_curve_30 : decode cX13_curve 30 = .ok (.aload_n 0, 1) := by decide +kernel
theorem dX13_curve_31 : decode cX13_curve 31 = .ok (.bipush (-4), 2) := by decide +kernel
theorem dX13_curve_33 : decode cX13_curve 33 = .ok (.invokevirtual 308, 3) := by decide +kernel
theorem dX13_curve_36 : decode cX13_curve 36 = .ok (.ireturn, 1) := by decide +kernel
theorem dX13_curve_37 : decode cX13_curve 37 = .ok (.iload_n 3, 1) := by decide +kernel
theorem dX13_curve_38 : decode cX13_curve 38 = .ok (.sipush 999, 3) := by decide +kernel
theorem dX13_curve_41 : decode cX13_curve 41 = .ok (.if_icmp .gt 11, 3) := by decide +kernel
theorem dX13_curve_44 : decode cX13_curve 44 = .ok (.iload 4, 2) := by decide +kernel
theorem dX13_curve_46 : decode cX13_curve 46 = .ok (.sipush 999, 3) := by decide +kernel
theorem dX13_curve_49 : decode cX13_curve 49 = .ok (.if_icmp .le 10, 3) := by decide +kernel
theorem dX13_curve_52 : decode cX13_curve 52 = .ok (.aload_n 0, 1) := by decide +kernel
theorem dX13_curve_53 : decode cX13_curve 53 = .ok (.bipush (-6), 2) := by decide +kernel
theorem dX13_curve_55 : decode cX13_curve 55 = .ok (.invokevirtual 308, 3) := by decide +kernel
theorem dX13_curve_58 : decode cX13_curve 58 = .ok (.ireturn, 1) := by decide +kernel
theorem dX13_curve_59 : decode cX13_curve 59 = .ok (.aload_n 0, 1) := by decide +kernel
theorem dX13_curve_60 : decode cX13_curve 60 = .ok (.getfield 47, 3) := by decide +kernel
theorem dX13_curve_63 : decode cX13_curve 63 = .ok (.bipush 10, 2) := by decide +kernel
theorem dX13_curve_65 : decode cX13_curve 65 = .ok (.iload_n 1, 1) := by decide +kernel
theorem dX13_curve_66 : decode cX13_curve 66 = .ok (.imul, 1) := by decide +kernel
theorem dX13_curve_67 : decode cX13_curve 67 = .ok (.iload_n 2, 1) := by decide +kernel
theorem dX13_curve_68 : decode cX13_curve 68 = .ok (.iadd, 1) := by decide +kernel
theorem dX13_curve_69 : decode cX13_curve 69 = .ok (.iconst 1, 1) := by decide +kernel
theorem dX13_curve_70 : decode cX13_curve 70 = .ok (.bastore, 1) := by decide +kernel
theorem dX13_curve_71 : decode cX13_curve 71 = .ok (.aload_n 0, 1) := by decide +kernel
theorem dX13_curve_72 : decode cX13_curve 72 = .ok (.getfield 50, 3) := by decide +kernel
theorem dX13_curve_75 : decode cX13_curve 75 = .ok (.bipush 10, 2) := by decide +kernel
theorem dX13_curve_77 : decode cX13_curve 77 = .ok (.iload_n 1, 1) := by decide +kernel
theorem dX13_curve_78 : decode cX13_curve 78 = .ok (.imul, 1) := by decide +kernel
theorem dX13_curve_79 : decode cX13_curve 79 = .ok (.iload_n 2, 1) := by decide +kernel
theorem dX13_curve_80 : decode cX13_curve 80 = .ok (.iadd, 1) := by decide +kernel
theorem dX13_curve_81 : decode cX13_curve 81 = .ok (.iload_n 3, 1) := by decide +kernel
theorem dX13_curve_82 : decode cX13_curve 82 = .ok (.iastore, 1) := by decide +kernel
theorem dX13_curve_83 : decode cX13_curve 83 = .ok (.aload_n 0, 1) := by decide +kernel
theorem dX13_curve_84 : decode cX13_curve 84 = .ok (.getfield 53, 3) := by decide +kernel
theorem dX13_curve_87 : decode cX13_curve 87 = .ok (.bipush 10, 2) := by decide +kernel
theorem dX13_curve_89 : decode cX13_curve 89 = .ok (.iload_n 1, 1) := by decide +kernel
theorem dX13_curve_90 : decode cX13_curve 90 = .ok (.imul, 1) := by decide +kernel
theorem dX13_curve_91 : decode cX13_curve 91 = .ok (.iload_n 2, 1) := by decide +kernel
theorem dX13_curve_92 : decode cX13_curve 92 = .ok (.iadd, 1) := by decide +kernel
theorem dX13_curve_93 : decode cX13_curve 93 = .ok (.iload 4, 2) := by decide +kernel
theorem dX13_curve_95 : decode cX13_curve 95 = .ok (.iastore, 1) := by decide +kernel
theorem dX13_curve_96 : decode cX13_curve 96 = .ok (.iconst 1, 1) := by decide +kernel
theorem dX13_curve_97 : decode cX13_curve 97 = .ok (.ireturn, 1) := by decide +kernel
set_option maxRecDepth 100000 in
set_option maxHeartbeats 4000000 in
theorem wp_X13_curve {n0 d : Nat} {K : z_K} {I : z_I} {L : z_L} {Q : z_q} {p0 : Int32} {p1 : Int32} {p2 : Int32} {p3 : Int32} (hL : MLay K) (h : RM0 n0 xX13_isPoint d [.ref (n0 + 59), .int p0, .int p1] K I L (fun vv I1 L2 => ∃ r3 : Int32, vv = some (.int r3) ∧ (if r3 = 0 then RM0 n0 xX13_refuse d [.ref (n0 + 59), .int (-1)] K I1 L2 (fun vv I22 L23 => ∃ r24 : Int32, vv = some (.int r24) ∧ Q (some (.int r24)) I22 L23) else (if p2 < (-999) then RM0 n0 xX13_refuse d [.ref (n0 + 59), .int (-4)] K I1 L2 (fun vv I6 L7 => ∃ r8 : Int32, vv = some (.int r8) ∧ Q (some (.int r8)) I6 L7) else (if p3 < (-999) then RM0 n0 xX13_refuse d [.ref (n0 + 59), .int (-4)] K I1 L2 (fun vv I19 L20 => ∃ r21 : Int32, vv = some (.int r21) ∧ Q (some (.int r21)) I19 L20) else (if 999 < p2 then RM0 n0 xX13_refuse d [.ref (n0 + 59), .int (-6)] K I1 L2 (fun vv I11 L12 => ∃ r13 : Int32, vv = some (.int r13) ∧ Q (some (.int r13)) I11 L12) else (if 999 < p3 then RM0 n0 xX13_refuse d [.ref (n0 + 59), .int (-6)] K I1 L2 (fun vv I16 L17 => ∃ r18 : Int32, vv = some (.int r18) ∧ Q (some (.int r18)) I16 L17) else vp_in ((10 * p0) + p1) 160 ∧ Q (some (.int 1)) (zI (zI (zI I1 72 (((10 * p0) + p1).toNatClampNeg) 1) 73 (((10 * p0) + p1).toNatClampNeg) p2) 74 (((10 * p0) + p1).toNatClampNeg) p3) L2))))))) : RM0 n0 xX13_curve (d + 1) [.ref (n0 + 59), .int p0, .int p1, .int p2, .int p3] K I L Q := by
  refine z_entry0 (by decide) (Nat.le_of_ble_eq_true rfl) ?_
  change Z n0 xX13_curve (d + 1) 0 0 0 [(0, .ref (n0 + 59)), (1, .int p0), (2, .int p1), (3, .int p2), (4, .int p3)] [] K I L (z_q0 K Q)
  refine z_aload_n 0 dX13_curve_0 rfl ?_
  refine z_iload_n 1 dX13_curve_1 rfl ?_
  refine z_iload_n 2 dX13_curve_2 rfl ?_
  refine z_callV0 (As := [.int p0, .int p1]) (st := []) dX13_curve_3 hy_X13_isPoint hL.1 hL.2.1 (by decide) wg_1855 wg_1857 wg_60 (Nat.le_refl _) (Nat.le_of_ble_eq_true rfl) (RM0.mono h (fun vv I1 L2 h => ?_))
  obtain ⟨r3, rfl, h⟩ := h
  change Z n0 xX13_curve (d + 1) 0 0 6 [(0, .ref (n0 + 59)), (1, .int p0), (2, .int p1), (3, .int p2), (4, .int p3)] [.int r3] K I1 L2 (z_q0 K Q)
  refine z_if_ne 15 dX13_curve_6 (by decide) (fun g4 => ?_) (fun g4 => ?_)
  · rw [if_neg g4] at h
    refine z_iload_n 3 dX13_curve_15 rfl ?_
    refine z_sipush (-999) dX13_curve_16 (by decide) ?_
    refine z_icmp_lt 30 dX13_curve_19 (by decide) (fun g5 => ?_) (fun g5 => ?_)
    · rw [if_pos g5] at h
      refine z_aload_n 0 dX13_curve_30 rfl ?_
      refine z_bipush (-4) dX13_curve_31 (by decide) ?_
      refine z_callV0 (As := [.int (-4)]) (st := []) dX13_curve_33 hy_X13_refuse hL.1 hL.2.1 (by decide) wg_1778 wg_1780 wg_54 (Nat.le_refl _) (Nat.le_of_ble_eq_true rfl) (RM0.mono h (fun vv I6 L7 h => ?_))
      obtain ⟨r8, rfl, h⟩ := h
      change Z n0 xX13_curve (d + 1) 0 0 36 [(0, .ref (n0 + 59)), (1, .int p0), (2, .int p1), (3, .int p2), (4, .int p3)] [.int r8] K I6 L7 (z_q0 K Q)
      exact z_iret dX13_curve_36 rfl ⟨rfl, h⟩
    · rw [if_neg g5] at h
      refine z_iload 4 dX13_curve_22 rfl ?_
      refine z_sipush (-999) dX13_curve_24 (by decide) ?_
      refine z_icmp_ge 37 dX13_curve_27 (by decide) (fun g9 => ?_) (fun g9 => ?_)
      · rw [if_neg g9] at h
        refine z_iload_n 3 dX13_curve_37 rfl ?_
        refine z_sipush 999 dX13_curve_38 (by decide) ?_
        refine z_icmp_gt 52 dX13_curve_41 (by decide) (fun g10 => ?_) (fun g10 => ?_)
        · rw [if_pos g10] at h
          refine z_aload_n 0 dX13_curve_52 rfl ?_
          refine z_bipush (-6) dX13_curve_53 (by decide) ?_
          refine z_callV0 (As := [.int (-6)]) (st := []) dX13_curve_55 hy_X13_refuse hL.1 hL.2.1 (by decide) wg_1778 wg_1780 wg_54 (Nat.le_refl _) (Nat.le_of_ble_eq_true rfl) (RM0.mono h (fun vv I11 L12 h => ?_))
          obtain ⟨r13, rfl, h⟩ := h
          change Z n0 xX13_curve (d + 1) 0 0 58 [(0, .ref (n0 + 59)), (1, .int p0), (2, .int p1), (3, .int p2), (4, .int p3)] [.int r13] K I11 L12 (z_q0 K Q)
          exact z_iret dX13_curve_58 rfl ⟨rfl, h⟩
        · rw [if_neg g10] at h
          refine z_iload 4 dX13_curve_44 rfl ?_
          refine z_sipush 999 dX13_curve_46 (by decide) ?_
          refine z_icmp_le 59 dX13_curve_49 (by decide) (fun g14 => ?_) (fun g14 => ?_)
          · rw [if_neg g14] at h
            refine z_aload_n 0 dX13_curve_59 rfl ?_
            refine fg_13_47 (some 72) rfl dX13_curve_60 hL.1 hL.2.1 (ma_16 hL).1 ?_
            refine z_bipush 10 dX13_curve_63 (by decide) ?_
            refine z_iload_n 1 dX13_curve_65 rfl ?_
            refine z_imul dX13_curve_66 ?_
            refine z_iload_n 2 dX13_curve_67 rfl ?_
            refine z_iadd dX13_curve_68 ?_
            refine z_iconst 1 dX13_curve_69 (by decide) ?_
            obtain ⟨o15, h⟩ := h
            refine z_zastb dX13_curve_70 (ma_16 hL).2.1 (ma_16 hL).2.2 o15 (Or.inr rfl) ?_
            refine z_aload_n 0 dX13_curve_71 rfl ?_
            refine fg_13_50 (some 73) rfl dX13_curve_72 hL.1 hL.2.1 (ma_17 hL).1 ?_
            refine z_bipush 10 dX13_curve_75 (by decide) ?_
            refine z_iload_n 1 dX13_curve_77 rfl ?_
            refine z_imul dX13_curve_78 ?_
            refine z_iload_n 2 dX13_curve_79 rfl ?_
            refine z_iadd dX13_curve_80 ?_
            refine z_iload_n 3 dX13_curve_81 rfl ?_
            refine z_iast dX13_curve_82 (ma_17 hL).2.1 (ma_17 hL).2.2 o15 ?_
            refine z_aload_n 0 dX13_curve_83 rfl ?_
            refine fg_13_53 (some 74) rfl dX13_curve_84 hL.1 hL.2.1 (ma_18 hL).1 ?_
            refine z_bipush 10 dX13_curve_87 (by decide) ?_
            refine z_iload_n 1 dX13_curve_89 rfl ?_
            refine z_imul dX13_curve_90 ?_
            refine z_iload_n 2 dX13_curve_91 rfl ?_
            refine z_iadd dX13_curve_92 ?_
            refine z_iload 4 dX13_curve_93 rfl ?_
            refine z_iast dX13_curve_95 (ma_18 hL).2.1 (ma_18 hL).2.2 o15 ?_
            refine z_iconst 1 dX13_curve_96 (by decide) ?_
            exact z_iret dX13_curve_97 rfl ⟨rfl, h⟩
          · rw [if_pos g14] at h
            refine z_aload_n 0 dX13_curve_52 rfl ?_
            refine z_bipush (-6) dX13_curve_53 (by decide) ?_
            refine z_callV0 (As := [.int (-6)]) (st := []) dX13_curve_55 hy_X13_refuse hL.1 hL.2.1 (by decide) wg_1778 wg_1780 wg_54 (Nat.le_refl _) (Nat.le_of_ble_eq_true rfl) (RM0.mono h (fun vv I16 L17 h => ?_))
            obtain ⟨r18, rfl, h⟩ := h
            change Z n0 xX13_curve (d + 1) 0 0 58 [(0, .ref (n0 + 59)), (1, .int p0), (2, .int p1), (3, .int p2), (4, .int p3)] [.int r18] K I16 L17 (z_q0 K Q)
            exact z_iret dX13_curve_58 rfl ⟨rfl, h⟩
      · rw [if_pos g9] at h
        refine z_aload_n 0 dX13_curve_30 rfl ?_
        refine z_bipush (-4) dX13_curve_31 (by decide) ?_
        refine z_callV0 (As := [.int (-4)]) (st := []) dX13_curve_33 hy_X13_refuse hL.1 hL.2.1 (by decide) wg_1778 wg_1780 wg_54 (Nat.le_refl _) (Nat.le_of_ble_eq_true rfl) (RM0.mono h (fun vv I19 L20 h => ?_))
        obtain ⟨r21, rfl, h⟩ := h
        change Z n0 xX13_curve (d + 1) 0 0 36 [(0, .ref (n0 + 59)), (1, .int p0), (2, .int p1), (3, .int p2), (4, .int p3)] [.int r21] K I19 L20 (z_q0 K Q)
        exact z_iret dX13_curve_36 rfl ⟨rfl, h⟩
  · rw [if_pos g4] at h
    refine z_aload_n 0 dX13_curve_9 rfl ?_
    refine z_iconst (-1) dX13_curve_10 (by decide) ?_
    refine z_callV0 (As := [.int (-1)]) (st := []) dX13_curve_11 hy_X13_refuse hL.1 hL.2.1 (by decide) wg_1778 wg_1780 wg_54 (Nat.le_refl _) (Nat.le_of_ble_eq_true rfl) (RM0.mono h (fun vv I22 L23 h => ?_))
    obtain ⟨r24, rfl, h⟩ := h
    change Z n0 xX13_curve (d + 1) 0 0 14 [(0, .ref (n0 + 59)), (1, .int p0), (2, .int p1), (3, .int p2), (4, .int p3)] [.int r24] K I22 L23 (z_q0 K Q)
    exact z_iret dX13_curve_14 rfl ⟨rfl, h⟩
theorem dX13_straight_0 : decode cX13_straight 0 = .ok (.aload_n 0, 1) := by decide +kernel
theorem dX13_straight_1 : decode cX13_straight 1 = .ok (.iload_n 1, 1) := by decide +kernel
theorem dX13_straight_2 : decode cX13_straight 2 = .ok (.iload_n 2, 1) := by decide +kernel
theorem dX13_straight_3 : decode cX13_straight 3 = .ok (.invokevirtual 445, 3) := by decide +kernel
theorem dX13_straight_6 : decode cX13_straight 6 = .ok (.ifCond .ne 9, 3) := by decide +kernel
theorem dX13_straight_9 : decode cX13_straight 9 = .ok (.aload_n 0, 1) := by decide +kernel
theorem dX13_straight_10 : decode cX13_straight 10 = .ok (.iconst (-1), 1) := by decide +kernel
theorem dX13_straight_11 : decode cX13_straight 11 = .ok (.invokevirtual 308, 3) := by decide +kernel
theorem dX13_straight_14 : decode cX13_straight 14 = .ok (.ireturn, 1) := by decide +kernel
theorem dX13_straight_15 : decode cX13_straight 15 = .ok (.aload_n 0, 1) := by decide +kernel
theorem dX13_straight_16 : decode cX13_straight 16 = .ok (.getfield 47, 3) := by decide +kernel
theorem dX13_straight_19 : decode cX13_straight 19 = .ok (.bipush 10, 2) := by decide +kernel
theorem dX13_straight_21 : decode cX13_straight 21 = .ok (.iload_n 1, 1) := by decide +kernel
theorem dX13_straight_22 : decode cX13_straight 22 = .ok (.imul, 1) := by decide +kernel
theorem dX13_straight_23 : decode cX13_straight 23 = .ok (.iload_n 2, 1) := by decide +kernel
theorem dX13_straight_24 : decode cX13_straight 24 = .ok (.iadd, 1) := by decide +kernel
theorem dX13_straight_25 : decode cX13_straight 25 = .ok (.baload, 1) := by decide +kernel
theorem dX13_straight_26 : decode cX13_straight 26 = .ok (.istore_n 3, 1) := by decide +kernel
theorem dX13_straight_27 : decode cX13_straight 27 = .ok (.aload_n 0, 1) := by decide +kernel
theorem dX13_straight_28 : decode cX13_straight 28 = .ok (.getfield 47, 3) := by decide +kernel
theorem dX13_straight_31 : decode cX13_straight 31 = .ok (.bipush 10, 2) := by decide +kernel
theorem dX13_straight_33 : decode cX13_straight 33 = .ok (.iload_n 1, 1) := by decide +kernel
theorem dX13_straight_34 : decode cX13_straight 34 = .ok (.imul, 1) := by decide +kernel
theorem dX13_straight_35 : decode cX13_straight 35 = .ok (.iload_n 2, 1) := by decide +kernel
theorem dX13_straight_36 : decode cX13_straight 36 = .ok (.iadd, 1) := by decide +kernel
theorem dX13_straight_37 : decode cX13_straight 37 = .ok (.iconst 0, 1) := by decide +kernel
theorem dX13_straight_38 : decode cX13_straight 38 = .ok (.bastore, 1) := by decide +kernel
theorem dX13_straight_39 : decode cX13_straight 39 = .ok (.iload_n 3, 1) := by decide +kernel
theorem dX13_straight_40 : decode cX13_straight 40 = .ok (.ifCond .eq 7, 3) := by decide +kernel
theorem dX13_straight_43 : decode cX13_straight 43 = .ok (.iconst 1, 1) := by decide +kernel
theorem dX13_straight_44 : decode cX13_straight 44 = .ok (.goto 4, 3) := by decide +kernel
theorem dX13_straight_47 : decode cX13_straight 47 = .ok (.iconst 0, 1) := by decide +kernel
theorem dX13_straight_48 : decode cX13_straight 48 = .ok (.ireturn, 1) := by decide +kernel
set_option maxRecDepth 100000 in
set_option maxHeartbeats 4000000 in
theorem wp_X13_straight {n0 d : Nat} {K : z_K} {I : z_I} {L : z_L} {Q : z_q} {p0 : Int32} {p1 : Int32} (hL : MLay K) (h : RM0 n0 xX13_isPoint d [.ref (n0 + 59), .int p0, .int p1] K I L (fun vv I1 L2 => ∃ r3 : Int32, vv = some (.int r3) ∧ (if r3 = 0 then RM0 n0 xX13_refuse d [.ref (n0 + 59), .int (-1)] K I1 L2 (fun vv I8 L9 => ∃ r10 : Int32, vv = some (.int r10) ∧ Q (some (.int r10)) I8 L9) else vp_in ((10 * p0) + p1) 160 ∧ Q (some (.int (if ((I1 72 (((10 * p0) + p1).toNatClampNeg)) : Int32) = 0 then 0 else 1))) (zI I1 72 (((10 * p0) + p1).toNatClampNeg) 0) L2))) : RM0 n0 xX13_straight (d + 1) [.ref (n0 + 59), .int p0, .int p1] K I L Q := by
  refine z_entry0 (by decide) (Nat.le_of_ble_eq_true rfl) ?_
  change Z n0 xX13_straight (d + 1) 0 0 0 [(0, .ref (n0 + 59)), (1, .int p0), (2, .int p1)] [] K I L (z_q0 K Q)
  refine z_aload_n 0 dX13_straight_0 rfl ?_
  refine z_iload_n 1 dX13_straight_1 rfl ?_
  refine z_iload_n 2 dX13_straight_2 rfl ?_
  refine z_callV0 (As := [.int p0, .int p1]) (st := []) dX13_straight_3 hy_X13_isPoint hL.1 hL.2.1 (by decide) wg_1855 wg_1857 wg_60 (Nat.le_refl _) (Nat.le_of_ble_eq_true rfl) (RM0.mono h (fun vv I1 L2 h => ?_))
  obtain ⟨r3, rfl, h⟩ := h
  change Z n0 xX13_straight (d + 1) 0 0 6 [(0, .ref (n0 + 59)), (1, .int p0), (2, .int p1)] [.int r3] K I1 L2 (z_q0 K Q)
  refine z_if_ne 15 dX13_straight_6 (by decide) (fun g4 => ?_) (fun g4 => ?_)
  · rw [if_neg g4] at h
    refine z_aload_n 0 dX13_straight_15 rfl ?_
    refine fg_13_47 (some 72) rfl dX13_straight_16 hL.1 hL.2.1 (ma_16 hL).1 ?_
    refine z_bipush 10 dX13_straight_19 (by decide) ?_
    refine z_iload_n 1 dX13_straight_21 rfl ?_
    refine z_imul dX13_straight_22 ?_
    refine z_iload_n 2 dX13_straight_23 rfl ?_
    refine z_iadd dX13_straight_24 ?_
    obtain ⟨o5, h⟩ := h
    refine z_zald (I1 72 (((10 * p0) + p1).toNatClampNeg)) dX13_straight_25 (ma_16 hL).2.1 (ma_16 hL).2.2 o5 rfl ?_
    refine z_istore_n [1, 2, 3, 0] [(0, .ref (n0 + 59)), (1, .int p0), (2, .int p1), (3, .int (I1 72 (((10 * p0) + p1).toNatClampNeg)))] dX13_straight_26 (by decide) rfl ?_
    refine z_aload_n 0 dX13_straight_27 rfl ?_
    refine fg_13_47 (some 72) rfl dX13_straight_28 hL.1 hL.2.1 (ma_16 hL).1 ?_
    refine z_bipush 10 dX13_straight_31 (by decide) ?_
    refine z_iload_n 1 dX13_straight_33 rfl ?_
    refine z_imul dX13_straight_34 ?_
    refine z_iload_n 2 dX13_straight_35 rfl ?_
    refine z_iadd dX13_straight_36 ?_
    refine z_iconst 0 dX13_straight_37 (by decide) ?_
    refine z_zastb dX13_straight_38 (ma_16 hL).2.1 (ma_16 hL).2.2 o5 (Or.inl rfl) ?_
    refine z_iload_n 3 dX13_straight_39 rfl ?_
    have key7 : Z n0 xX13_straight (d + 1) 0 0 48 [] [.int (if ((I1 72 (((10 * p0) + p1).toNatClampNeg)) : Int32) = 0 then 0 else 1)] K (zI I1 72 (((10 * p0) + p1).toNatClampNeg) 0) L2 (z_q0 K Q) := by
      exact z_iret dX13_straight_48 rfl ⟨rfl, h⟩
    refine z_if_eq 47 dX13_straight_40 (by decide) (fun g6 => ?_) (fun g6 => ?_)
    · refine z_iconst 0 dX13_straight_47 (by decide) ?_
      have ee : ((if ((I1 72 (((10 * p0) + p1).toNatClampNeg)) : Int32) = 0 then 0 else 1) : Int32) = 0 := by rw [if_pos g6]
      rw [ee] at key7
      clear ee
      refine z_sub [] rfl ?_
      exact key7
    · refine z_iconst 1 dX13_straight_43 (by decide) ?_
      refine z_goto 48 dX13_straight_44 (by decide) ?_
      have ee : ((if ((I1 72 (((10 * p0) + p1).toNatClampNeg)) : Int32) = 0 then 0 else 1) : Int32) = 1 := by rw [if_neg g6]
      rw [ee] at key7
      clear ee
      refine z_sub [] rfl ?_
      exact key7
  · rw [if_pos g4] at h
    refine z_aload_n 0 dX13_straight_9 rfl ?_
    refine z_iconst (-1) dX13_straight_10 (by decide) ?_
    refine z_callV0 (As := [.int (-1)]) (st := []) dX13_straight_11 hy_X13_refuse hL.1 hL.2.1 (by decide) wg_1778 wg_1780 wg_54 (Nat.le_refl _) (Nat.le_of_ble_eq_true rfl) (RM0.mono h (fun vv I8 L9 h => ?_))
    obtain ⟨r10, rfl, h⟩ := h
    change Z n0 xX13_straight (d + 1) 0 0 14 [(0, .ref (n0 + 59)), (1, .int p0), (2, .int p1)] [.int r10] K I8 L9 (z_q0 K Q)
    exact z_iret dX13_straight_14 rfl ⟨rfl, h⟩
theorem dX13_draw_0 : decode cX13_draw 0 = .ok (.iconst 0, 1) := by decide +kernel
theorem dX13_draw_1 : decode cX13_draw 1 = .ok (.istore 5, 2) := by decide +kernel
theorem dX13_draw_3 : decode cX13_draw 3 = .ok (.iload_n 1, 1) := by decide +kernel
theorem dX13_draw_4 : decode cX13_draw 4 = .ok (.istore 6, 2) := by decide +kernel
theorem dX13_draw_6 : decode cX13_draw 6 = .ok (.aload_n 0, 1) := by decide +kernel
theorem dX13_draw_7 : decode cX13_draw 7 = .ok (.getfield 114, 3) := by decide +kernel
theorem dX13_draw_10 : decode cX13_draw 10 = .ok (.iconst 0, 1) := by decide +kernel
theorem dX13_draw_11 : decode cX13_draw 11 = .ok (.iload_n 1, 1) := by decide +kernel
theorem dX13_draw_12 : decode cX13_draw 12 = .ok (.iastore, 1) := by decide +kernel
theorem dX13_draw_13 : decode cX13_draw 13 = .ok (.iconst 1, 1) := by decide +kernel
theorem dX13_draw_14 : decode cX13_draw 14 = .ok (.istore 5, 2) := by decide +kernel
theorem dX13_draw_16 : decode cX13_draw 16 = .ok (.aload_n 0, 1) := by decide +kernel
theorem dX13_draw_17 : decode cX13_draw 17 = .ok (.getfield 28, 3) := by decide +kernel
theorem dX13_draw_20 : decode cX13_draw 20 = .ok (.iload 6, 2) := by decide +kernel
theorem dX13_draw_22 : decode cX13_draw 22 = .ok (.iaload, 1) := by decide +kernel
theorem dX13_draw_23 : decode cX13_draw 23 = .ok (.iconst 3, 1) := by decide +kernel
theorem dX13_draw_24 : decode cX13_draw 24 = .ok (.if_icmp .ne 27, 3) := by decide +kernel
theorem dX13_draw_27 : decode cX13_draw 27 = .ok (.aload_n 0, 1) := by decide +kernel
theorem dX13_draw_28 : decode cX13_draw 28 = .ok (.getfield 34, 3) := by decide +kernel
theorem dX13_draw_31 : decode cX13_draw 31 = .ok (.iload 6, 2) := by decide +kernel
theorem dX13_draw_33 : decode cX13_draw 33 = .ok (.iaload, 1) := by decide +kernel
theorem dX13_draw_34 : decode cX13_draw 34 = .ok (.istore 6, 2) := by decide +kernel
theorem dX13_draw_36 : decode cX13_draw 36 = .ok (.aload_n 0, 1) := by decide +kernel
theorem dX13_draw_37 : decode cX13_draw 37 = .ok (.getfield 114, 3) := by decide +kernel
theorem dX13_draw_40 : decode cX13_draw 40 = .ok (.iload 5, 2) := by decide +kernel
theorem dX13_draw_42 : decode cX13_draw 42 = .ok (.iload 6, 2) := by decide +kernel
theorem dX13_draw_44 : decode cX13_draw 44 = .ok (.iastore, 1) := by decide +kernel
theorem dX13_draw_45 : decode cX13_draw 45 = .ok (.iinc 5 1, 3) := by decide +kernel
theorem dX13_draw_48 : decode cX13_draw 48 = .ok (.goto (-32), 3) := by decide +kernel
theorem dX13_draw_51 : decode cX13_draw 51 = .ok (.iconst 0, 1) := by decide +kernel
theorem dX13_draw_52 : decode cX13_draw 52 = .ok (.istore 7, 2) := by decide +kernel
theorem dX13_draw_54 : decode cX13_draw 54 = .ok (.iload 7, 2) := by decide +kernel
theorem dX13_draw_56 : decode cX13_draw 56 = .ok (.bipush 8, 2) := by decide +kernel
theorem dX13_draw_58 : decode cX13_draw 58 = .ok (.if_icmp .ge 40, 3) := by decide +kernel
theorem dX13_draw_61 : decode cX13_draw 61 = .ok (.aload_n 0, 1) := by decide +kernel
theorem dX13_draw_62 : decode cX13_draw 62 = .ok (.getfield 83, 3) := by decide +kernel
theorem dX13_draw_65 : decode cX13_draw 65 = .ok (.iload 7, 2) := by decide +kernel
theorem dX13_draw_67 : decode cX13_draw 67 = .ok (.iload 4, 2) := by decide +kernel
theorem dX13_draw_69 : decode cX13_draw 69 = .ok (.ifCond .lt 14, 3) := by decide +kernel
theorem dX13_draw_72 : decode cX13_draw 72 = .ok (.aload_n 0, 1) := by decide +kernel
theorem dX13_draw_73 : decode cX13_draw 73 = .ok (.iload 4, 2) := by decide +kernel
theorem dX13_draw_75 : decode cX13_draw 75 = .ok (.iload 7, 2) := by decide +kernel
theorem dX13_draw_77 : decode cX13_draw 77 = .ok (.invokevirtual 337, 3) := by decide +kernel
theorem dX13_draw_80 : decode cX13_draw 80 = .ok (.goto 11, 3) := by decide +kernel
theorem dX13_draw_83 : decode cX13_draw 83 = .ok (.aload_n 0, 1) := by decide +kernel
theorem dX13_draw_84 : decode cX13_draw 84 = .ok (.iload 7, 2) := by decide +kernel
theorem dX13_draw_86 : decode cX13_draw 86 = .ok (.iload_n 2, 1) := by decide +kernel
theorem dX13_draw_87 : decode cX13_draw 87 = .ok (.iload_n 3, 1) := by decide +kernel
theorem dX13_draw_88 : decode cX13_draw 88 = .ok (.invokevirtual 328, 3) := by decide +kernel
theorem dX13_draw_91 : decode cX13_draw 91 = .ok (.iastore, 1) := by decide +kernel
theorem dX13_draw_92 : decode cX13_draw 92 = .ok (.iinc 7 1, 3) := by decide +kernel
theorem dX13_draw_95 : decode cX13_draw 95 = .ok (.goto (-41), 3) := by decide +kernel
theorem dX13_draw_98 : decode cX13_draw 98 = .ok (.iconst 0, 1) := by decide +kernel
theorem dX13_draw_99 : decode cX13_draw 99 = .ok (.istore 7, 2) := by decide +kernel
theorem dX13_draw_101 : decode cX13_draw 101 = .ok (.aload_n 0, 1) := by decide +kernel
theorem dX13_draw_102 : decode cX13_draw 102 = .ok (.iconst 0, 1) := by decide +kernel
theorem dX13_draw_103 : decode cX13_draw 103 = .ok (.putfield 467, 3) := by decide +kernel
theorem dX13_draw_106 : decode cX13_draw 106 = .ok (.iload 5, 2) := by decide +kernel
theorem dX13_draw_108 : decode cX13_draw 108 = .ok (.iconst 1, 1) := by decide +kernel
theorem dX13_draw_109 : decode cX13_draw 109 = .ok (.isub, 1) := by decide +kernel
theorem dX13_draw_110 : decode cX13_draw 110 = .ok (.istore 8, 2) := by decide +kernel
theorem dX13_draw_112 : decode cX13_draw 112 = .ok (.iload 8, 2) := by decide +kernel
theorem dX13_draw_114 : decode cX13_draw 114 = .ok (.ifCond .lt 28, 3) := by decide +kernel
theorem dX13_draw_117 : decode cX13_draw 117 = .ok (.aload_n 0, 1) := by decide +kernel
theorem dX13_draw_118 : decode cX13_draw 118 = .ok (.aload_n 0, 1) := by decide +kernel
theorem dX13_draw_119 : decode cX13_draw 119 = .ok (.getfield 114, 3) := by decide +kernel
theorem dX13_draw_122 : decode cX13_draw 122 = .ok (.iload 8, 2) := by decide +kernel
theorem dX13_draw_124 : decode cX13_draw 124 = .ok (.iaload, 1) := by decide +kernel
theorem dX13_draw_125 : decode cX13_draw 125 = .ok (.iload_n 2, 1) := by decide +kernel
theorem dX13_draw_126 : decode cX13_draw 126 = .ok (.iload_n 3, 1) := by decide +kernel
theorem dX13_draw_127 : decode cX13_draw 127 = .ok (.iload 4, 2) := by decide +kernel
theorem dX13_draw_129 : decode cX13_draw 129 = .ok (.iload 7, 2) := by decide +kernel
theorem dX13_draw_131 : decode cX13_draw 131 = .ok (.invokevirtual 470, 3) := by decide +kernel
theorem dX13_draw_134 : decode cX13_draw 134 = .ok (.istore 7, 2) := by decide +kernel
theorem dX13_draw_136 : decode cX13_draw 136 = .ok (.iinc 8 (-1), 3) := by decide +kernel
theorem dX13_draw_139 : decode cX13_draw 139 = .ok (.goto (-27), 3) := by decide +kernel
theorem dX13_draw_142 : decode cX13_draw 142 = .ok (.iload 7, 2) := by decide +kernel
theorem dX13_draw_144 : decode cX13_draw 144 = .ok (.ireturn, 1) := by decide +kernel
set_option maxRecDepth 100000 in
set_option maxHeartbeats 4000000 in
theorem wp_X13_draw {n0 d : Nat} {K : z_K} {I : z_I} {L : z_L} {Q : z_q} {p0 : Int32} {p1 : Int32} {p2 : Int32} {p3 : Int32} (hL : MLay K) (h : Z n0 xX13_draw (d + 1) 0 0 16 [(0, .ref (n0 + 59)), (2, .int p1), (3, .int p2), (4, .int p3), (5, .int 1), (6, .int p0)] [] K (zI I 94 ((0 : Int32).toNatClampNeg) p0) L (z_q0 K Q)) : RM0 n0 xX13_draw (d + 1) [.ref (n0 + 59), .int p0, .int p1, .int p2, .int p3] K I L Q := by
  refine z_entry0 (by decide) (Nat.le_of_ble_eq_true rfl) ?_
  change Z n0 xX13_draw (d + 1) 0 0 0 [(0, .ref (n0 + 59)), (1, .int p0), (2, .int p1), (3, .int p2), (4, .int p3)] [] K I L (z_q0 K Q)
  refine z_iconst 0 dX13_draw_0 (by decide) ?_
  refine z_istore [1, 2, 3, 4, 5, 0] [(0, .ref (n0 + 59)), (1, .int p0), (2, .int p1), (3, .int p2), (4, .int p3), (5, .int 0)] dX13_draw_1 (by decide) rfl ?_
  refine z_iload_n 1 dX13_draw_3 rfl ?_
  refine z_istore [1, 2, 3, 4, 5, 6, 0] [(0, .ref (n0 + 59)), (1, .int p0), (2, .int p1), (3, .int p2), (4, .int p3), (5, .int 0), (6, .int p0)] dX13_draw_4 (by decide) rfl ?_
  refine z_aload_n 0 dX13_draw_6 rfl ?_
  refine fg_13_114 (some 94) rfl dX13_draw_7 hL.1 hL.2.1 (ma_57 hL).1 ?_
  refine z_iconst 0 dX13_draw_10 (by decide) ?_
  refine z_iload_n 1 dX13_draw_11 rfl ?_
  refine z_iast dX13_draw_12 (ma_57 hL).2.1 (ma_57 hL).2.2 (by unfold vp_in; decide) ?_
  refine z_iconst 1 dX13_draw_13 (by decide) ?_
  refine z_istore [1, 2, 3, 4, 5, 0, 6] [(0, .ref (n0 + 59)), (1, .int p0), (2, .int p1), (3, .int p2), (4, .int p3), (5, .int 1), (6, .int p0)] dX13_draw_14 (by decide) rfl ?_
  refine z_sub [0, 2, 3, 4, 5, 6] rfl ?_
  exact h
set_option maxRecDepth 100000 in
set_option maxHeartbeats 4000000 in
theorem wp_X13_draw_16 {n0 d : Nat} {rc rs : Nat} {K : z_K} {I : z_I} {L : z_L} {Q : z_q} {a2 : Int32} {a3 : Int32} {a4 : Int32} {a5 : Int32} {a6 : Int32} (hL : MLay K) (h : vp_in a6 16 ∧ (if ((I 66 a6.toNatClampNeg) : Int32) = 3 then vp_in a5 16 ∧ Z n0 xX13_draw (d + 1) rc rs 16 [(0, .ref (n0 + 59)), (2, .int a2), (3, .int a3), (4, .int a4), (5, .int (a5 + 1)), (6, .int (I 68 a6.toNatClampNeg))] [] K (zI I 94 a5.toNatClampNeg (I 68 a6.toNatClampNeg)) L (z_q0 K Q) else Z n0 xX13_draw (d + 1) rc rs 54 [(0, .ref (n0 + 59)), (2, .int a2), (3, .int a3), (4, .int a4), (5, .int a5), (7, .int 0)] [] K I L (z_q0 K Q))) : Z n0 xX13_draw (d + 1) rc rs 16 [(0, .ref (n0 + 59)), (2, .int a2), (3, .int a3), (4, .int a4), (5, .int a5), (6, .int a6)] [] K I L (z_q0 K Q) := by
  refine z_aload_n 0 dX13_draw_16 rfl ?_
  refine fg_13_28 (some 66) rfl dX13_draw_17 hL.1 hL.2.1 (ma_10 hL).1 ?_
  refine z_iload 5 dX13_draw_20 rfl ?_
  obtain ⟨o1, h⟩ := h
  refine z_iald (I 66 a6.toNatClampNeg) dX13_draw_22 (ma_10 hL).2.1 (ma_10 hL).2.2 o1 rfl ?_
  refine z_iconst 3 dX13_draw_23 (by decide) ?_
  refine z_icmp_ne 51 dX13_draw_24 (by decide) (fun g2 => ?_) (fun g2 => ?_)
  · rw [if_neg g2] at h
    refine z_iconst 0 dX13_draw_51 (by decide) ?_
    refine z_istore [1, 2, 3, 4, 5, 6, 0] [(0, .ref (n0 + 59)), (2, .int a2), (3, .int a3), (4, .int a4), (5, .int a5), (6, .int a6), (7, .int 0)] dX13_draw_52 (by decide) rfl ?_
    refine z_sub [0, 1, 2, 3, 4, 6] rfl ?_
    exact h
  · rw [if_pos g2] at h
    refine z_aload_n 0 dX13_draw_27 rfl ?_
    refine fg_13_34 (some 68) rfl dX13_draw_28 hL.1 hL.2.1 (ma_12 hL).1 ?_
    refine z_iload 5 dX13_draw_31 rfl ?_
    refine z_iald (I 68 a6.toNatClampNeg) dX13_draw_33 (ma_12 hL).2.1 (ma_12 hL).2.2 o1 rfl ?_
    refine z_istore [1, 2, 3, 4, 5, 0] [(0, .ref (n0 + 59)), (2, .int a2), (3, .int a3), (4, .int a4), (5, .int a5), (6, .int (I 68 a6.toNatClampNeg))] dX13_draw_34 (by decide) rfl ?_
    refine z_aload_n 0 dX13_draw_36 rfl ?_
    refine fg_13_114 (some 94) rfl dX13_draw_37 hL.1 hL.2.1 (ma_57 hL).1 ?_
    refine z_iload 4 dX13_draw_40 rfl ?_
    refine z_iload 5 dX13_draw_42 rfl ?_
    obtain ⟨o3, h⟩ := h
    refine z_iast dX13_draw_44 (ma_57 hL).2.1 (ma_57 hL).2.2 o3 ?_
    refine z_iinc (j := 4) (a5 + 1) [1, 2, 3, 4, 0, 5] [(0, .ref (n0 + 59)), (2, .int a2), (3, .int a3), (4, .int a4), (5, .int (a5 + 1)), (6, .int (I 68 a6.toNatClampNeg))] dX13_draw_45 rfl rfl (by decide) rfl ?_
    refine z_goto 16 dX13_draw_48 (by decide) ?_
    exact h
set_option maxRecDepth 100000 in
set_option maxHeartbeats 4000000 in
theorem wp_X13_draw_54 {n0 d : Nat} {rc rs : Nat} {K : z_K} {I : z_I} {L : z_L} {Q : z_q} {a2 : Int32} {a3 : Int32} {a4 : Int32} {a5 : Int32} {a7 : Int32} (hL : MLay K) (h : (if a7 < 8 then (if a4 < 0 then RM0 n0 xX13_tabledOn d [.ref (n0 + 59), .int a7, .int a2, .int a3] K I L (fun vv I3 L4 => ∃ r5 : Int32, vv = some (.int r5) ∧ vp_in a7 8 ∧ Z n0 xX13_draw (d + 1) rc rs 54 [(0, .ref (n0 + 59)), (2, .int a2), (3, .int a3), (4, .int a4), (5, .int a5), (7, .int (a7 + 1))] [] K (zI I3 84 a7.toNatClampNeg r5) L4 (z_q0 K Q)) else RM0 n0 xX13_measuredOf d [.ref (n0 + 59), .int a4, .int a7] K I L (fun vv I7 L8 => ∃ r9 : Int32, vv = some (.int r9) ∧ vp_in a7 8 ∧ Z n0 xX13_draw (d + 1) rc rs 54 [(0, .ref (n0 + 59)), (2, .int a2), (3, .int a3), (4, .int a4), (5, .int a5), (7, .int (a7 + 1))] [] K (zI I7 84 a7.toNatClampNeg r9) L8 (z_q0 K Q))) else Z n0 xX13_draw (d + 1) rc rs 112 [(0, .ref (n0 + 59)), (2, .int a2), (3, .int a3), (4, .int a4), (7, .int 0), (8, .int (a5 - 1))] [] K (zI I 59 56 0) L (z_q0 K Q))) : Z n0 xX13_draw (d + 1) rc rs 54 [(0, .ref (n0 + 59)), (2, .int a2), (3, .int a3), (4, .int a4), (5, .int a5), (7, .int a7)] [] K I L (z_q0 K Q) := by
  refine z_iload 5 dX13_draw_54 rfl ?_
  refine z_bipush 8 dX13_draw_56 (by decide) ?_
  refine z_icmp_ge 98 dX13_draw_58 (by decide) (fun g1 => ?_) (fun g1 => ?_)
  · rw [if_neg g1] at h
    refine z_iconst 0 dX13_draw_98 (by decide) ?_
    refine z_istore [1, 2, 3, 4, 5, 0] [(0, .ref (n0 + 59)), (2, .int a2), (3, .int a3), (4, .int a4), (5, .int a5), (7, .int 0)] dX13_draw_99 (by decide) rfl ?_
    refine z_aload_n 0 dX13_draw_101 rfl ?_
    refine z_iconst 0 dX13_draw_102 (by decide) ?_
    refine fp_13_467 rfl dX13_draw_103 hL.1 hL.2.1 ?_
    refine z_iload 4 dX13_draw_106 rfl ?_
    refine z_iconst 1 dX13_draw_108 (by decide) ?_
    refine z_isub dX13_draw_109 ?_
    refine z_istore [1, 2, 3, 4, 5, 6, 0] [(0, .ref (n0 + 59)), (2, .int a2), (3, .int a3), (4, .int a4), (5, .int a5), (7, .int 0), (8, .int (a5 - 1))] dX13_draw_110 (by decide) rfl ?_
    refine z_sub [0, 1, 2, 3, 5, 6] rfl ?_
    exact h
  · rw [if_pos g1] at h
    refine z_aload_n 0 dX13_draw_61 rfl ?_
    refine fg_13_83 (some 84) rfl dX13_draw_62 hL.1 hL.2.1 (ma_37 hL).1 ?_
    refine z_iload 5 dX13_draw_65 rfl ?_
    refine z_iload 3 dX13_draw_67 rfl ?_
    refine z_if_lt 83 dX13_draw_69 (by decide) (fun g2 => ?_) (fun g2 => ?_)
    · rw [if_pos g2] at h
      refine z_aload_n 0 dX13_draw_83 rfl ?_
      refine z_iload 5 dX13_draw_84 rfl ?_
      refine z_iload_n 1 dX13_draw_86 rfl ?_
      refine z_iload_n 2 dX13_draw_87 rfl ?_
      refine z_callV0 (As := [.int a7, .int a2, .int a3]) (st := [.int a7, .ref (n0 + 84)]) dX13_draw_88 hy_X13_tabledOn hL.1 hL.2.1 (by decide) wg_1800 wg_1802 wg_55 (Nat.le_refl _) (Nat.le_of_ble_eq_true rfl) (RM0.mono h (fun vv I3 L4 h => ?_))
      obtain ⟨r5, rfl, h⟩ := h
      change Z n0 xX13_draw (d + 1) rc rs 91 [(0, .ref (n0 + 59)), (2, .int a2), (3, .int a3), (4, .int a4), (5, .int a5), (7, .int a7)] [.int r5, .int a7, .ref (n0 + 84)] K I3 L4 (z_q0 K Q)
      obtain ⟨o6, h⟩ := h
      refine z_iast dX13_draw_91 (ma_37 hL).2.1 (ma_37 hL).2.2 o6 ?_
      refine z_iinc (j := 5) (a7 + 1) [1, 2, 3, 4, 5, 0] [(0, .ref (n0 + 59)), (2, .int a2), (3, .int a3), (4, .int a4), (5, .int a5), (7, .int (a7 + 1))] dX13_draw_92 rfl rfl (by decide) rfl ?_
      refine z_goto 54 dX13_draw_95 (by decide) ?_
      exact h
    · rw [if_neg g2] at h
      refine z_aload_n 0 dX13_draw_72 rfl ?_
      refine z_iload 3 dX13_draw_73 rfl ?_
      refine z_iload 5 dX13_draw_75 rfl ?_
      refine z_callV0 (As := [.int a4, .int a7]) (st := [.int a7, .ref (n0 + 84)]) dX13_draw_77 hy_X13_measuredOf hL.1 hL.2.1 (by decide) wg_1829 wg_1831 wg_58 (Nat.le_refl _) (Nat.le_of_ble_eq_true rfl) (RM0.mono h (fun vv I7 L8 h => ?_))
      obtain ⟨r9, rfl, h⟩ := h
      change Z n0 xX13_draw (d + 1) rc rs 80 [(0, .ref (n0 + 59)), (2, .int a2), (3, .int a3), (4, .int a4), (5, .int a5), (7, .int a7)] [.int r9, .int a7, .ref (n0 + 84)] K I7 L8 (z_q0 K Q)
      refine z_goto 91 dX13_draw_80 (by decide) ?_
      obtain ⟨o10, h⟩ := h
      refine z_iast dX13_draw_91 (ma_37 hL).2.1 (ma_37 hL).2.2 o10 ?_
      refine z_iinc (j := 5) (a7 + 1) [1, 2, 3, 4, 5, 0] [(0, .ref (n0 + 59)), (2, .int a2), (3, .int a3), (4, .int a4), (5, .int a5), (7, .int (a7 + 1))] dX13_draw_92 rfl rfl (by decide) rfl ?_
      refine z_goto 54 dX13_draw_95 (by decide) ?_
      exact h
set_option maxRecDepth 100000 in
set_option maxHeartbeats 4000000 in
theorem wp_X13_draw_112 {n0 d : Nat} {rc rs : Nat} {K : z_K} {I : z_I} {L : z_L} {Q : z_q} {a2 : Int32} {a3 : Int32} {a4 : Int32} {a7 : Int32} {a8 : Int32} (hL : MLay K) (h : (if a8 < 0 then z_b a7 ∧ Q (some (.int a7)) I L else vp_in a8 16 ∧ RM0 n0 xX13_drawOne d [.ref (n0 + 59), .int (I 94 a8.toNatClampNeg), .int a2, .int a3, .int a4, .int a7] K I L (fun vv I4 L5 => ∃ r6 : Int32, vv = some (.int r6) ∧ Z n0 xX13_draw (d + 1) rc rs 112 [(0, .ref (n0 + 59)), (2, .int a2), (3, .int a3), (4, .int a4), (7, .int r6), (8, .int (a8 + (-1)))] [] K I4 L5 (z_q0 K Q)))) : Z n0 xX13_draw (d + 1) rc rs 112 [(0, .ref (n0 + 59)), (2, .int a2), (3, .int a3), (4, .int a4), (7, .int a7), (8, .int a8)] [] K I L (z_q0 K Q) := by
  refine z_iload 5 dX13_draw_112 rfl ?_
  refine z_if_lt 142 dX13_draw_114 (by decide) (fun g1 => ?_) (fun g1 => ?_)
  · rw [if_pos g1] at h
    refine z_iload 4 dX13_draw_142 rfl ?_
    obtain ⟨o2, h⟩ := h
    exact z_zretb dX13_draw_144 rfl o2 ⟨rfl, h⟩
  · rw [if_neg g1] at h
    refine z_aload_n 0 dX13_draw_117 rfl ?_
    refine z_aload_n 0 dX13_draw_118 rfl ?_
    refine fg_13_114 (some 94) rfl dX13_draw_119 hL.1 hL.2.1 (ma_57 hL).1 ?_
    refine z_iload 5 dX13_draw_122 rfl ?_
    obtain ⟨o3, h⟩ := h
    refine z_iald (I 94 a8.toNatClampNeg) dX13_draw_124 (ma_57 hL).2.1 (ma_57 hL).2.2 o3 rfl ?_
    refine z_iload_n 1 dX13_draw_125 rfl ?_
    refine z_iload_n 2 dX13_draw_126 rfl ?_
    refine z_iload 3 dX13_draw_127 rfl ?_
    refine z_iload 4 dX13_draw_129 rfl ?_
    refine z_callV0 (As := [.int (I 94 a8.toNatClampNeg), .int a2, .int a3, .int a4, .int a7]) (st := []) dX13_draw_131 hy_X13_drawOne hL.1 hL.2.1 (by decide) wg_1962 wg_1964 wg_77 (Nat.le_refl _) (Nat.le_of_ble_eq_true rfl) (RM0.mono h (fun vv I4 L5 h => ?_))
    obtain ⟨r6, rfl, h⟩ := h
    change Z n0 xX13_draw (d + 1) rc rs 134 [(0, .ref (n0 + 59)), (2, .int a2), (3, .int a3), (4, .int a4), (7, .int a7), (8, .int a8)] [.int r6] K I4 L5 (z_q0 K Q)
    refine z_istore [1, 2, 3, 4, 0, 5] [(0, .ref (n0 + 59)), (2, .int a2), (3, .int a3), (4, .int a4), (7, .int r6), (8, .int a8)] dX13_draw_134 (by decide) rfl ?_
    refine z_iinc (j := 5) (a8 + (-1)) [1, 2, 3, 4, 5, 0] [(0, .ref (n0 + 59)), (2, .int a2), (3, .int a3), (4, .int a4), (7, .int r6), (8, .int (a8 + (-1)))] dX13_draw_136 rfl rfl (by decide) rfl ?_
    refine z_goto 112 dX13_draw_139 (by decide) ?_
    exact h
theorem dX13_drawOne_0 : decode cX13_drawOne 0 = .ok (.iconst 1, 1) := by decide +kernel
theorem dX13_drawOne_1 : decode cX13_drawOne 1 = .ok (.istore 6, 2) := by decide +kernel
theorem dX13_drawOne_3 : decode cX13_drawOne 3 = .ok (.iconst 0, 1) := by decide +kernel
theorem dX13_drawOne_4 : decode cX13_drawOne 4 = .ok (.istore 7, 2) := by decide +kernel
theorem dX13_drawOne_6 : decode cX13_drawOne 6 = .ok (.iload 7, 2) := by decide +kernel
theorem dX13_drawOne_8 : decode cX13_drawOne 8 = .ok (.aload_n 0, 1) := by decide +kernel
theorem dX13_drawOne_9 : decode cX13_drawOne 9 = .ok (.getfield 31, 3) := by decide +kernel
theorem dX13_drawOne_12 : decode cX13_drawOne 12 = .ok (.iload_n 1, 1) := by decide +kernel
theorem dX13_drawOne_13 : decode cX13_drawOne 13 = .ok (.iaload, 1) := by decide +kernel
theorem dX13_drawOne_14 : decode cX13_drawOne 14 = .ok (.if_icmp .ge 151, 3) := by decide +kernel
theorem dX13_drawOne_17 : decode cX13_drawOne 17 = .ok (.iload 6, 2) := by decide +kernel
theorem dX13_drawOne_19 : decode cX13_drawOne 19 = .ok (.ifCond .eq 146, 3) := by decide +kernel
theorem dX13_drawOne_22 : decode cX13_drawOne 22 = .ok (.aload_n 0, 1) := by decide +kernel
theorem dX13_drawOne_23 : decode cX13_drawOne 23 = .ok (.iload_n 1, 1) := by decide +kernel
theorem dX13_drawOne_24 : decode cX13_drawOne 24 = .ok (.iload 7, 2) := by decide +kernel
theorem dX13_drawOne_26 : decode cX13_drawOne 26 = .ok (.iload_n 3, 1) := by decide +kernel
theorem dX13_drawOne_27 : decode cX13_drawOne 27 = .ok (.invokevirtual 458, 3) := by decide +kernel
theorem dX13_drawOne_30 : decode cX13_drawOne 30 = .ok (.istore 8, 2) := by decide +kernel
theorem dX13_drawOne_32 : decode cX13_drawOne 32 = .ok (.iload 8, 2) := by decide +kernel
theorem dX13_drawOne_34 : decode cX13_drawOne 34 = .ok (.ifCond .lt 48, 3) := by decide +kernel
theorem dX13_drawOne_37 : decode cX13_drawOne 37 = .ok (.aload_n 0, 1) := by decide +kernel
theorem dX13_drawOne_38 : decode cX13_drawOne 38 = .ok (.iload 8, 2) := by decide +kernel
theorem dX13_drawOne_40 : decode cX13_drawOne 40 = .ok (.invokevirtual 461, 3) := by decide +kernel
theorem dX13_drawOne_43 : decode cX13_drawOne 43 = .ok (.aload_n 0, 1) := by decide +kernel
theorem dX13_drawOne_44 : decode cX13_drawOne 44 = .ok (.getfield 77, 3) := by decide +kernel
theorem dX13_drawOne_47 : decode cX13_drawOne 47 = .ok (.iload 7, 2) := by decide +kernel
theorem dX13_drawOne_49 : decode cX13_drawOne 49 = .ok (.aload_n 0, 1) := by decide +kernel
theorem dX13_drawOne_50 : decode cX13_drawOne 50 = .ok (.getfield 439, 3) := by decide +kernel
theorem dX13_drawOne_53 : decode cX13_drawOne 53 = .ok (.iastore, 1) := by decide +kernel
theorem dX13_drawOne_54 : decode cX13_drawOne 54 = .ok (.aload_n 0, 1) := by decide +kernel
theorem dX13_drawOne_55 : decode cX13_drawOne 55 = .ok (.getfield 80, 3) := by decide +kernel
theorem dX13_drawOne_58 : decode cX13_drawOne 58 = .ok (.iload 7, 2) := by decide +kernel
theorem dX13_drawOne_60 : decode cX13_drawOne 60 = .ok (.aload_n 0, 1) := by decide +kernel
theorem dX13_drawOne_61 : decode cX13_drawOne 61 = .ok (.getfield 442, 3) := by decide +kernel
theorem dX13_drawOne_64 : decode cX13_drawOne 64 = .ok (.iastore, 1) := by decide +kernel
theorem dX13_drawOne_65 : decode cX13_drawOne 65 = .ok (.aload_n 0, 1) := by decide +kernel
theorem dX13_drawOne_66 : decode cX13_drawOne 66 = .ok (.getfield 368, 3) := by decide +kernel
theorem dX13_drawOne_69 : decode cX13_drawOne 69 = .ok (.ifCond .ne 7, 3) := by decide +kernel
theorem dX13_drawOne_72 : decode cX13_drawOne 72 = .ok (.iconst 1, 1) := by decide +kernel
theorem dX13_drawOne_73 : decode cX13_drawOne 73 = .ok (.goto 4, 3) := by decide +kernel
theorem dX13_drawOne_76 : decode cX13_drawOne 76 = .ok (.iconst 0, 1) := by decide +kernel
theorem dX13_drawOne_77 : decode cX13_drawOne 77 = .ok (.istore 6, 2) := by decide +kernel
theorem dX13_drawOne_79 : decode cX13_drawOne 79 = .ok (.goto 80, 3) := by decide +kernel
theorem dX13_drawOne_82 : decode cX13_drawOne 82 = .ok (.aload_n 0, 1) := by decide +kernel
theorem dX13_drawOne_83 : decode cX13_drawOne 83 = .ok (.getfield 28, 3) := by decide +kernel
theorem dX13_drawOne_86 : decode cX13_drawOne 86 = .ok (.iload_n 1, 1) := by decide +kernel
theorem dX13_drawOne_87 : decode cX13_drawOne 87 = .ok (.iaload, 1) := by decide +kernel
theorem dX13_drawOne_88 : decode cX13_drawOne 88 = .ok (.iconst 3, 1) := by decide +kernel
theorem dX13_drawOne_89 : decode cX13_drawOne 89 = .ok (.if_icmp .ne 21, 3) := by decide +kernel
theorem dX13_drawOne_92 : decode cX13_drawOne 92 = .ok (.iload 5, 2) := by decide +kernel
theorem dX13_drawOne_94 : decode cX13_drawOne 94 = .ok (.ifCond .eq 16, 3) := by decide +kernel
theorem dX13_drawOne_97 : decode cX13_drawOne 97 = .ok (.iload 7, 2) := by decide +kernel
theorem dX13_drawOne_99 : decode cX13_drawOne 99 = .ok (.aload_n 0, 1) := by decide +kernel
theorem dX13_drawOne_100 : decode cX13_drawOne 100 = .ok (.getfield 467, 3) := by decide +kernel
theorem dX13_drawOne_103 : decode cX13_drawOne 103 = .ok (.if_icmp .ge 7, 3) := by decide +kernel
theorem dX13_drawOne_106 : decode cX13_drawOne 106 = .ok (.iconst 1, 1) := by decide +kernel
theorem dX13_drawOne_107 : decode cX13_drawOne 107 = .ok (.goto 4, 3) := by decide +kernel
theorem dX13_drawOne_110 : decode cX13_drawOne 110 = .ok (.iconst 0, 1) := by decide +kernel
theorem dX13_drawOne_111 : decode cX13_drawOne 111 = .ok (.istore 6, 2) := by decide +kernel
theorem dX13_drawOne_113 : decode cX13_drawOne 113 = .ok (.aload_n 0, 1) := by decide +kernel
theorem dX13_drawOne_114 : decode cX13_drawOne 114 = .ok (.getfield 77, 3) := by decide +kernel
theorem dX13_drawOne_117 : decode cX13_drawOne 117 = .ok (.iload 7, 2) := by decide +kernel
theorem dX13_drawOne_119 : decode cX13_drawOne 119 = .ok (.iload 6, 2) := by decide +kernel
theorem dX13_drawOne_121 : decode cX13_drawOne 121 = .ok (.ifCond .eq 13, 3) := by decide +kernel
theorem dX13_drawOne_124 : decode cX13_drawOne 124 = .ok (.aload_n 0, 1) := by decide +kernel
theorem dX13_drawOne_125 : decode cX13_drawOne 125 = .ok (.getfield 108, 3) := by decide +kernel
theorem dX13_drawOne_128 : decode cX13_drawOne 128 = .ok (.iload 7, 2) := by decide +kernel
theorem dX13_drawOne_130 : decode cX13_drawOne 130 = .ok (.iaload, 1) := by decide +kernel
theorem dX13_drawOne_131 : decode cX13_drawOne 131 = .ok (.goto 4, 3) := by decide +kernel
theorem dX13_drawOne_134 : decode cX13_drawOne 134 = .ok (.iconst 0, 1) := by decide +kernel
theorem dX13_drawOne_135 : decode cX13_drawOne 135 = .ok (.iastore, 1) := by decide +kernel
theorem dX13_drawOne_136 : decode cX13_drawOne 136 = .ok (.aload_n 0, 1) := by decide +kernel
theorem dX13_drawOne_137 : decode cX13_drawOne 137 = .ok (.getfield 80, 3) := by decide +kernel
theorem dX13_drawOne_140 : decode cX13_drawOne 140 = .ok (.iload 7, 2) := by decide +kernel
theorem dX13_drawOne_142 : decode cX13_drawOne 142 = .ok (.iload 6, 2) := by decide +kernel
theorem dX13_drawOne_144 : decode cX13_drawOne 144 = .ok (.ifCond .eq 13, 3) := by decide +kernel
theorem dX13_drawOne_147 : decode cX13_drawOne 147 = .ok (.aload_n 0, 1) := by decide +kernel
theorem dX13_drawOne_148 : decode cX13_drawOne 148 = .ok (.getfield 111, 3) := by decide +kernel
theorem dX13_drawOne_151 : decode cX13_drawOne 151 = .ok (.iload 7, 2) := by decide +kernel
theorem dX13_drawOne_153 : decode cX13_drawOne 153 = .ok (.iaload, 1) := by decide +kernel
theorem dX13_drawOne_154 : decode cX13_drawOne 154 = .ok (.goto 4, 3) := by decide +kernel
theorem dX13_drawOne_157 : decode cX13_drawOne 157 = .ok (.iconst 0, 1) := by decide +kernel
theorem dX13_drawOne_158 : decode cX13_drawOne 158 = .ok (.iastore, 1) := by decide +kernel
theorem dX13_drawOne_159 : decode cX13_drawOne 159 = .ok (.iinc 7 1, 3) := by decide +kernel
theorem dX13_drawOne_162 : decode cX13_drawOne 162 = .ok (.goto (-156), 3) := by decide +kernel
theorem dX13_drawOne_165 : decode cX13_drawOne 165 = .ok (.iconst 0, 1) := by decide +kernel
theorem dX13_drawOne_166 : decode cX13_drawOne 166 = .ok (.istore 7, 2) := by decide +kernel
theorem dX13_drawOne_168 : decode cX13_drawOne 168 = .ok (.iload 7, 2) := by decide +kernel
theorem dX13_drawOne_170 : decode cX13_drawOne 170 = .ok (.aload_n 0, 1) := by decide +kernel
theorem dX13_drawOne_171 : decode cX13_drawOne 171 = .ok (.getfield 31, 3) := by decide +kernel
theorem dX13_drawOne_174 : decode cX13_drawOne 174 = .ok (.iload_n 1, 1) := by decide +kernel
theorem dX13_drawOne_175 : decode cX13_drawOne 175 = .ok (.iaload, 1) := by decide +kernel
theorem dX13_drawOne_176 : decode cX13_drawOne 176 = .ok (.if_icmp .ge 187, 3) := by decide +kernel
theorem dX13_drawOne_179 : decode cX13_drawOne 179 = .ok (.iload 6, 2) := by decide +kernel
theorem dX13_drawOne_181 : decode cX13_drawOne 181 = .ok (.ifCond .eq 182, 3) := by decide +kernel
theorem dX13_drawOne_184 : decode cX13_drawOne 184 = .ok (.aload_n 0, 1) := by decide +kernel
theorem dX13_drawOne_185 : decode cX13_drawOne 185 = .ok (.getfield 108, 3) := by decide +kernel
theorem dX13_drawOne_188 : decode cX13_drawOne 188 = .ok (.iload 7, 2) := by decide +kernel
theorem dX13_drawOne_190 : decode cX13_drawOne 190 = .ok (.aload_n 0, 1) := by decide +kernel
theorem dX13_drawOne_191 : decode cX13_drawOne 191 = .ok (.getfield 77, 3) := by decide +kernel
theorem dX13_drawOne_194 : decode cX13_drawOne 194 = .ok (.iload 7, 2) := by decide +kernel
theorem dX13_drawOne_196 : decode cX13_drawOne 196 = .ok (.iaload, 1) := by decide +kernel
theorem dX13_drawOne_197 : decode cX13_drawOne 197 = .ok (.aload_n 0, 1) := by decide +kernel
theorem dX13_drawOne_198 : decode cX13_drawOne 198 = .ok (.getfield 41, 3) := by decide +kernel
theorem dX13_drawOne_201 : decode cX13_drawOne 201 = .ok (.bipush 10, 2) := by decide +kernel
theorem dX13_drawOne_203 : decode cX13_drawOne 203 = .ok (.iload_n 1, 1) := by decide +kernel
theorem dX13_drawOne_204 : decode cX13_drawOne 204 = .ok (.imul, 1) := by decide +kernel
theorem dX13_drawOne_205 : decode cX13_drawOne 205 = .ok (.iload 7, 2) := by decide +kernel
theorem dX13_drawOne_207 : decode cX13_drawOne 207 = .ok (.iadd, 1) := by decide +kernel
theorem dX13_drawOne_208 : decode cX13_drawOne 208 = .ok (.iaload, 1) := by decide +kernel
theorem dX13_drawOne_209 : decode cX13_drawOne 209 = .ok (.iload_n 2, 1) := by decide +kernel
theorem dX13_drawOne_210 : decode cX13_drawOne 210 = .ok (.iconst 5, 1) := by decide +kernel
theorem dX13_drawOne_211 : decode cX13_drawOne 211 = .ok (.isub, 1) := by decide +kernel
theorem dX13_drawOne_212 : decode cX13_drawOne 212 = .ok (.imul, 1) := by decide +kernel
theorem dX13_drawOne_213 : decode cX13_drawOne 213 = .ok (.iadd, 1) := by decide +kernel
theorem dX13_drawOne_214 : decode cX13_drawOne 214 = .ok (.iastore, 1) := by decide +kernel
theorem dX13_drawOne_215 : decode cX13_drawOne 215 = .ok (.aload_n 0, 1) := by decide +kernel
theorem dX13_drawOne_216 : decode cX13_drawOne 216 = .ok (.getfield 111, 3) := by decide +kernel
theorem dX13_drawOne_219 : decode cX13_drawOne 219 = .ok (.iload 7, 2) := by decide +kernel
theorem dX13_drawOne_221 : decode cX13_drawOne 221 = .ok (.aload_n 0, 1) := by decide +kernel
theorem dX13_drawOne_222 : decode cX13_drawOne 222 = .ok (.getfield 80, 3) := by decide +kernel
theorem dX13_drawOne_225 : decode cX13_drawOne 225 = .ok (.iload 7, 2) := by decide +kernel
theorem dX13_drawOne_227 : decode cX13_drawOne 227 = .ok (.iaload, 1) := by decide +kernel
theorem dX13_drawOne_228 : decode cX13_drawOne 228 = .ok (.aload_n 0, 1) := by decide +kernel
theorem dX13_drawOne_229 : decode cX13_drawOne 229 = .ok (.getfield 44, 3) := by decide +kernel
theorem dX13_drawOne_232 : decode cX13_drawOne 232 = .ok (.bipush 10, 2) := by decide +kernel
theorem dX13_drawOne_234 : decode cX13_drawOne 234 = .ok (.iload_n 1, 1) := by decide +kernel
theorem dX13_drawOne_235 : decode cX13_drawOne 235 = .ok (.imul, 1) := by decide +kernel
theorem dX13_drawOne_236 : decode cX13_drawOne 236 = .ok (.iload 7, 2) := by decide +kernel
theorem dX13_drawOne_238 : decode cX13_drawOne 238 = .ok (.iadd, 1) := by decide +kernel
theorem dX13_drawOne_239 : decode cX13_drawOne 239 = .ok (.iaload, 1) := by decide +kernel
theorem dX13_drawOne_240 : decode cX13_drawOne 240 = .ok (.iload_n 2, 1) := by decide +kernel
theorem dX13_drawOne_241 : decode cX13_drawOne 241 = .ok (.iconst 5, 1) := by decide +kernel
theorem dX13_drawOne_242 : decode cX13_drawOne 242 = .ok (.isub, 1) := by decide +kernel
theorem dX13_drawOne_243 : decode cX13_drawOne 243 = .ok (.imul, 1) := by decide +kernel
theorem dX13_drawOne_244 : decode cX13_drawOne 244 = .ok (.iadd, 1) := by decide +kernel
theorem dX13_drawOne_245 : decode cX13_drawOne 245 = .ok (.iastore, 1) := by decide +kernel
theorem dX13_drawOne_246 : decode cX13_drawOne 246 = .ok (.iconst 0, 1) := by decide +kernel
theorem dX13_drawOne_247 : decode cX13_drawOne 247 = .ok (.istore 8, 2) := by decide +kernel
theorem dX13_drawOne_249 : decode cX13_drawOne 249 = .ok (.iload 8, 2) := by decide +kernel
theorem dX13_drawOne_251 : decode cX13_drawOne 251 = .ok (.aload_n 0, 1) := by decide +kernel
theorem dX13_drawOne_252 : decode cX13_drawOne 252 = .ok (.getfield 464, 3) := by decide +kernel
theorem dX13_drawOne_255 : decode cX13_drawOne 255 = .ok (.if_icmp .ge 102, 3) := by decide +kernel
theorem dX13_drawOne_258 : decode cX13_drawOne 258 = .ok (.iload 4, 2) := by decide +kernel
theorem dX13_drawOne_260 : decode cX13_drawOne 260 = .ok (.ifCond .lt 97, 3) := by decide +kernel
theorem dX13_drawOne_263 : decode cX13_drawOne 263 = .ok (.aload_n 0, 1) := by decide +kernel
theorem dX13_drawOne_264 : decode cX13_drawOne 264 = .ok (.getfield 96, 3) := by decide +kernel
theorem dX13_drawOne_267 : decode cX13_drawOne 267 = .ok (.iload 8, 2) := by decide +kernel
theorem dX13_drawOne_269 : decode cX13_drawOne 269 = .ok (.iaload, 1) := by decide +kernel
theorem dX13_drawOne_270 : decode cX13_drawOne 270 = .ok (.bipush 10, 2) := by decide +kernel
theorem dX13_drawOne_272 : decode cX13_drawOne 272 = .ok (.iload_n 1, 1) := by decide +kernel
theorem dX13_drawOne_273 : decode cX13_drawOne 273 = .ok (.imul, 1) := by decide +kernel
theorem dX13_drawOne_274 : decode cX13_drawOne 274 = .ok (.iload 7, 2) := by decide +kernel
theorem dX13_drawOne_276 : decode cX13_drawOne 276 = .ok (.iadd, 1) := by decide +kernel
theorem dX13_drawOne_277 : decode cX13_drawOne 277 = .ok (.if_icmp .ne 19, 3) := by decide +kernel
theorem dX13_drawOne_280 : decode cX13_drawOne 280 = .ok (.aload_n 0, 1) := by decide +kernel
theorem dX13_drawOne_281 : decode cX13_drawOne 281 = .ok (.getfield 99, 3) := by decide +kernel
theorem dX13_drawOne_284 : decode cX13_drawOne 284 = .ok (.iload 8, 2) := by decide +kernel
theorem dX13_drawOne_286 : decode cX13_drawOne 286 = .ok (.iaload, 1) := by decide +kernel
theorem dX13_drawOne_287 : decode cX13_drawOne 287 = .ok (.iload 4, 2) := by decide +kernel
theorem dX13_drawOne_289 : decode cX13_drawOne 289 = .ok (.if_icmp .ne 7, 3) := by decide +kernel
theorem dX13_drawOne_292 : decode cX13_drawOne 292 = .ok (.iconst 1, 1) := by decide +kernel
theorem dX13_drawOne_293 : decode cX13_drawOne 293 = .ok (.goto 4, 3) := by decide +kernel
theorem dX13_drawOne_296 : decode cX13_drawOne 296 = .ok (.iconst 0, 1) := by decide +kernel
theorem dX13_drawOne_297 : decode cX13_drawOne 297 = .ok (.istore 9, 2) := by decide +kernel
theorem dX13_drawOne_299 : decode cX13_drawOne 299 = .ok (.aload_n 0, 1) := by decide +kernel
theorem dX13_drawOne_300 : decode cX13_drawOne 300 = .ok (.getfield 108, 3) := by decide +kernel
theorem dX13_drawOne_303 : decode cX13_drawOne 303 = .ok (.iload 7, 2) := by decide +kernel
theorem dX13_drawOne_305 : decode cX13_drawOne 305 = .ok (.dup2, 1) := by decide +kernel
theorem dX13_drawOne_306 : decode cX13_drawOne 306 = .ok (.iaload, 1) := by decide +kernel
theorem dX13_drawOne_307 : decode cX13_drawOne 307 = .ok (.iload 9, 2) := by decide +kernel
theorem dX13_drawOne_309 : decode cX13_drawOne 309 = .ok (.ifCond .eq 13, 3) := by decide +kernel
theorem dX13_drawOne_312 : decode cX13_drawOne 312 = .ok (.aload_n 0, 1) := by decide +kernel
theorem dX13_drawOne_313 : decode cX13_drawOne 313 = .ok (.getfield 102, 3) := by decide +kernel
theorem dX13_drawOne_316 : decode cX13_drawOne 316 = .ok (.iload 8, 2) := by decide +kernel
theorem dX13_drawOne_318 : decode cX13_drawOne 318 = .ok (.iaload, 1) := by decide +kernel
theorem dX13_drawOne_319 : decode cX13_drawOne 319 = .ok (.goto 4, 3) := by decide +kernel
theorem dX13_drawOne_322 : decode cX13_drawOne 322 = .ok (.iconst 0, 1) := by decide +kernel
theorem dX13_drawOne_323 : decode cX13_drawOne 323 = .ok (.iadd, 1) := by decide +kernel
theorem dX13_drawOne_324 : decode cX13_drawOne 324 = .ok (.iastore, 1) := by decide +kernel
theorem dX13_drawOne_325 : decode cX13_drawOne 325 = .ok (.aload_n 0, 1) := by decide +kernel
theorem dX13_drawOne_326 : decode cX13_drawOne 326 = .ok (.getfield 111, 3) := by decide +kernel
theorem dX13_drawOne_329 : decode cX13_drawOne 329 = .ok (.iload 7, 2) := by decide +kernel
theorem dX13_drawOne_331 : decode cX13_drawOne 331 = .ok (.dup2, 1) := by decide +kernel
theorem dX13_drawOne_332 : decode cX13_drawOne 332 = .ok (.iaload, 1) := by decide +kernel
theorem dX13_drawOne_333 : decode cX13_drawOne 333 = .ok (.iload 9, 2) := by decide +kernel
theorem dX13_drawOne_335 : decode cX13_drawOne 335 = .ok (.ifCond .eq 13, 3) := by decide +kernel
theorem dX13_drawOne_338 : decode cX13_drawOne 338 = .ok (.aload_n 0, 1) := by decide +kernel
theorem dX13_drawOne_339 : decode cX13_drawOne 339 = .ok (.getfield 105, 3) := by decide +kernel
theorem dX13_drawOne_342 : decode cX13_drawOne 342 = .ok (.iload 8, 2) := by decide +kernel
theorem dX13_drawOne_344 : decode cX13_drawOne 344 = .ok (.iaload, 1) := by decide +kernel
theorem dX13_drawOne_345 : decode cX13_drawOne 345 = .ok (.goto 4, 3) := by decide +kernel
theorem dX13_drawOne_348 : decode cX13_drawOne 348 = .ok (.iconst 0, 1) := by decide +kernel
theorem dX13_drawOne_349 : decode cX13_drawOne 349 = .ok (.iadd, 1) := by decide +kernel
theorem dX13_drawOne_350 : decode cX13_drawOne 350 = .ok (.iastore, 1) := by decide +kernel
theorem dX13_drawOne_351 : decode cX13_drawOne 351 = .ok (.iinc 8 1, 3) := by decide +kernel
theorem dX13_drawOne_354 : decode cX13_drawOne 354 = .ok (.goto (-105), 3) := by decide +kernel
theorem dX13_drawOne_357 : decode cX13_drawOne 357 = .ok (.iinc 7 1, 3) := by decide +kernel
theorem dX13_drawOne_360 : decode cX13_drawOne 360 = .ok (.goto (-192), 3) := by decide +kernel
theorem dX13_drawOne_363 : decode cX13_drawOne 363 = .ok (.aload_n 0, 1) := by decide +kernel
theorem dX13_drawOne_364 : decode cX13_drawOne 364 = .ok (.aload_n 0, 1) := by decide +kernel
theorem dX13_drawOne_365 : decode cX13_drawOne 365 = .ok (.getfield 31, 3) := by decide +kernel
theorem dX13_drawOne_368 : decode cX13_drawOne 368 = .ok (.iload_n 1, 1) := by decide +kernel
theorem dX13_drawOne_369 : decode cX13_drawOne 369 = .ok (.iaload, 1) := by decide +kernel
theorem dX13_drawOne_370 : decode cX13_drawOne 370 = .ok (.putfield 467, 3) := by decide +kernel
theorem dX13_drawOne_373 : decode cX13_drawOne 373 = .ok (.iload 6, 2) := by decide +kernel
theorem dX13_drawOne_375 : decode cX13_drawOne 375 = .ok (.ireturn, 1) := by decide +kernel
set_option maxRecDepth 100000 in
set_option maxHeartbeats 4000000 in
theorem wp_X13_drawOne {n0 d : Nat} {K : z_K} {I : z_I} {L : z_L} {Q : z_q} {p0 : Int32} {p1 : Int32} {p2 : Int32} {p3 : Int32} {p4 : Int32} (hL : MLay K) (h : Z n0 xX13_drawOne (d + 1) 0 0 6 [(0, .ref (n0 + 59)), (1, .int p0), (2, .int p1), (3, .int p2), (4, .int p3), (5, .int p4), (6, .int 1), (7, .int 0)] [] K I L (z_q0 K Q)) : RM0 n0 xX13_drawOne (d + 1) [.ref (n0 + 59), .int p0, .int p1, .int p2, .int p3, .int p4] K I L Q := by
  refine z_entry0 (by decide) (Nat.le_of_ble_eq_true rfl) ?_
  change Z n0 xX13_drawOne (d + 1) 0 0 0 [(0, .ref (n0 + 59)), (1, .int p0), (2, .int p1), (3, .int p2), (4, .int p3), (5, .int p4)] [] K I L (z_q0 K Q)
  refine z_iconst 1 dX13_drawOne_0 (by decide) ?_
  refine z_istore [1, 2, 3, 4, 5, 6, 0] [(0, .ref (n0 + 59)), (1, .int p0), (2, .int p1), (3, .int p2), (4, .int p3), (5, .int p4), (6, .int 1)] dX13_drawOne_1 (by decide) rfl ?_
  refine z_iconst 0 dX13_drawOne_3 (by decide) ?_
  refine z_istore [1, 2, 3, 4, 5, 6, 7, 0] [(0, .ref (n0 + 59)), (1, .int p0), (2, .int p1), (3, .int p2), (4, .int p3), (5, .int p4), (6, .int 1), (7, .int 0)] dX13_drawOne_4 (by decide) rfl ?_
  exact h
set_option maxRecDepth 100000 in
set_option maxHeartbeats 4000000 in
theorem wp_X13_drawOne_6 {n0 d : Nat} {rc rs : Nat} {K : z_K} {I : z_I} {L : z_L} {Q : z_q} {a1 : Int32} {a2 : Int32} {a3 : Int32} {a4 : Int32} {a5 : Int32} {a6 : Int32} {a7 : Int32} (hL : MLay K) (h : vp_in a1 16 ∧ (if a7 < (I 67 a1.toNatClampNeg) then (if a6 = 0 then Z n0 xX13_drawOne (d + 1) rc rs 168 [(0, .ref (n0 + 59)), (1, .int a1), (2, .int a2), (4, .int a4), (6, .int a6), (7, .int 0)] [] K I L (z_q0 K Q) else RM0 n0 xX13_ruleOn d [.ref (n0 + 59), .int a1, .int a7, .int a3] K I L (fun vv I4 L5 => ∃ r6 : Int32, vv = some (.int r6) ∧ (if r6 < 0 then (¬ (((if ((I4 66 a1.toNatClampNeg) : Int32) = 3 then if a5 = 0 then 0 else if a7 < (I4 59 56) then 1 else 0 else 0) : Int32) = 0) → vp_in a7 10) ∧ vp_in a7 10 ∧ Z n0 xX13_drawOne (d + 1) rc rs 6 [(0, .ref (n0 + 59)), (1, .int a1), (2, .int a2), (3, .int a3), (4, .int a4), (5, .int a5), (6, .int (if ((I4 66 a1.toNatClampNeg) : Int32) = 3 then if a5 = 0 then 0 else if a7 < (I4 59 56) then 1 else 0 else 0)), (7, .int (a7 + 1))] [] K (zI (zI I4 82 a7.toNatClampNeg (if ((if ((I4 66 a1.toNatClampNeg) : Int32) = 3 then if a5 = 0 then 0 else if a7 < (I4 59 56) then 1 else 0 else 0) : Int32) = 0 then 0 else (I4 92 a7.toNatClampNeg))) 83 a7.toNatClampNeg (if ((if ((I4 66 a1.toNatClampNeg) : Int32) = 3 then if a5 = 0 then 0 else if a7 < (I4 59 56) then 1 else 0 else 0) : Int32) = 0 then 0 else (I4 93 a7.toNatClampNeg))) L5 (z_q0 K Q) else RM0 n0 xX13_readRule d [.ref (n0 + 59), .int r6] K I4 L5 (fun vv I18 L19 => vv = none ∧ vp_in a7 10 ∧ Z n0 xX13_drawOne (d + 1) rc rs 6 [(0, .ref (n0 + 59)), (1, .int a1), (2, .int a2), (3, .int a3), (4, .int a4), (5, .int a5), (6, .int (if ((I18 59 34) : Int32) = 0 then 1 else 0)), (7, .int (a7 + 1))] [] K (zI (zI I18 82 a7.toNatClampNeg (I18 59 46)) 83 a7.toNatClampNeg (I18 59 47)) L19 (z_q0 K Q))))) else Z n0 xX13_drawOne (d + 1) rc rs 168 [(0, .ref (n0 + 59)), (1, .int a1), (2, .int a2), (4, .int a4), (6, .int a6), (7, .int 0)] [] K I L (z_q0 K Q))) : Z n0 xX13_drawOne (d + 1) rc rs 6 [(0, .ref (n0 + 59)), (1, .int a1), (2, .int a2), (3, .int a3), (4, .int a4), (5, .int a5), (6, .int a6), (7, .int a7)] [] K I L (z_q0 K Q) := by
  refine z_iload 7 dX13_drawOne_6 rfl ?_
  refine z_aload_n 0 dX13_drawOne_8 rfl ?_
  refine fg_13_31 (some 67) rfl dX13_drawOne_9 hL.1 hL.2.1 (ma_11 hL).1 ?_
  refine z_iload_n 1 dX13_drawOne_12 rfl ?_
  obtain ⟨o1, h⟩ := h
  refine z_iald (I 67 a1.toNatClampNeg) dX13_drawOne_13 (ma_11 hL).2.1 (ma_11 hL).2.2 o1 rfl ?_
  refine z_icmp_ge 165 dX13_drawOne_14 (by decide) (fun g2 => ?_) (fun g2 => ?_)
  · rw [if_neg g2] at h
    refine z_iconst 0 dX13_drawOne_165 (by decide) ?_
    refine z_istore [1, 2, 3, 4, 5, 6, 7, 0] [(0, .ref (n0 + 59)), (1, .int a1), (2, .int a2), (3, .int a3), (4, .int a4), (5, .int a5), (6, .int a6), (7, .int 0)] dX13_drawOne_166 (by decide) rfl ?_
    refine z_sub [0, 1, 2, 4, 6, 7] rfl ?_
    exact h
  · rw [if_pos g2] at h
    refine z_iload 6 dX13_drawOne_17 rfl ?_
    refine z_if_eq 165 dX13_drawOne_19 (by decide) (fun g3 => ?_) (fun g3 => ?_)
    · rw [if_pos g3] at h
      refine z_iconst 0 dX13_drawOne_165 (by decide) ?_
      refine z_istore [1, 2, 3, 4, 5, 6, 7, 0] [(0, .ref (n0 + 59)), (1, .int a1), (2, .int a2), (3, .int a3), (4, .int a4), (5, .int a5), (6, .int a6), (7, .int 0)] dX13_drawOne_166 (by decide) rfl ?_
      refine z_sub [0, 1, 2, 4, 6, 7] rfl ?_
      exact h
    · rw [if_neg g3] at h
      refine z_aload_n 0 dX13_drawOne_22 rfl ?_
      refine z_iload_n 1 dX13_drawOne_23 rfl ?_
      refine z_iload 7 dX13_drawOne_24 rfl ?_
      refine z_iload_n 3 dX13_drawOne_26 rfl ?_
      refine z_callV0 (As := [.int a1, .int a7, .int a3]) (st := []) dX13_drawOne_27 hy_X13_ruleOn hL.1 hL.2.1 (by decide) wg_1922 wg_1924 wg_73 (Nat.le_refl _) (Nat.le_of_ble_eq_true rfl) (RM0.mono h (fun vv I4 L5 h => ?_))
      obtain ⟨r6, rfl, h⟩ := h
      change Z n0 xX13_drawOne (d + 1) rc rs 30 [(0, .ref (n0 + 59)), (1, .int a1), (2, .int a2), (3, .int a3), (4, .int a4), (5, .int a5), (6, .int a6), (7, .int a7)] [.int r6] K I4 L5 (z_q0 K Q)
      refine z_istore [1, 2, 3, 4, 5, 6, 7, 8, 0] [(0, .ref (n0 + 59)), (1, .int a1), (2, .int a2), (3, .int a3), (4, .int a4), (5, .int a5), (6, .int a6), (7, .int a7), (8, .int r6)] dX13_drawOne_30 (by decide) rfl ?_
      refine z_iload 8 dX13_drawOne_32 rfl ?_
      refine z_if_lt 82 dX13_drawOne_34 (by decide) (fun g7 => ?_) (fun g7 => ?_)
      · rw [if_pos g7] at h
        refine z_aload_n 0 dX13_drawOne_82 rfl ?_
        refine fg_13_28 (some 66) rfl dX13_drawOne_83 hL.1 hL.2.1 (ma_10 hL).1 ?_
        refine z_iload_n 1 dX13_drawOne_86 rfl ?_
        refine z_iald (I4 66 a1.toNatClampNeg) dX13_drawOne_87 (ma_10 hL).2.1 (ma_10 hL).2.2 o1 rfl ?_
        refine z_iconst 3 dX13_drawOne_88 (by decide) ?_
        have key11 : Z n0 xX13_drawOne (d + 1) rc rs 111 [(0, .ref (n0 + 59)), (1, .int a1), (2, .int a2), (3, .int a3), (4, .int a4), (5, .int a5), (7, .int a7)] [.int (if ((I4 66 a1.toNatClampNeg) : Int32) = 3 then if a5 = 0 then 0 else if a7 < (I4 59 56) then 1 else 0 else 0)] K I4 L5 (z_q0 K Q) := by
          refine z_istore [1, 2, 3, 4, 5, 6, 0, 7] [(0, .ref (n0 + 59)), (1, .int a1), (2, .int a2), (3, .int a3), (4, .int a4), (5, .int a5), (6, .int (if ((I4 66 a1.toNatClampNeg) : Int32) = 3 then if a5 = 0 then 0 else if a7 < (I4 59 56) then 1 else 0 else 0)), (7, .int a7)] dX13_drawOne_111 (by decide) rfl ?_
          refine z_aload_n 0 dX13_drawOne_113 rfl ?_
          refine fg_13_77 (some 82) rfl dX13_drawOne_114 hL.1 hL.2.1 (ma_35 hL).1 ?_
          refine z_iload 7 dX13_drawOne_117 rfl ?_
          refine z_iload 6 dX13_drawOne_119 rfl ?_
          obtain ⟨o13, h⟩ := h
          have key14 : Z n0 xX13_drawOne (d + 1) rc rs 135 [(0, .ref (n0 + 59)), (1, .int a1), (2, .int a2), (3, .int a3), (4, .int a4), (5, .int a5), (6, .int (if ((I4 66 a1.toNatClampNeg) : Int32) = 3 then if a5 = 0 then 0 else if a7 < (I4 59 56) then 1 else 0 else 0)), (7, .int a7)] [.int (if ((if ((I4 66 a1.toNatClampNeg) : Int32) = 3 then if a5 = 0 then 0 else if a7 < (I4 59 56) then 1 else 0 else 0) : Int32) = 0 then 0 else (I4 92 a7.toNatClampNeg)), .int a7, .ref (n0 + 82)] K I4 L5 (z_q0 K Q) := by
            obtain ⟨o15, h⟩ := h
            refine z_iast dX13_drawOne_135 (ma_35 hL).2.1 (ma_35 hL).2.2 o15 ?_
            refine z_aload_n 0 dX13_drawOne_136 rfl ?_
            refine fg_13_80 (some 83) rfl dX13_drawOne_137 hL.1 hL.2.1 (ma_36 hL).1 ?_
            refine z_iload 7 dX13_drawOne_140 rfl ?_
            refine z_iload 6 dX13_drawOne_142 rfl ?_
            have key17 : Z n0 xX13_drawOne (d + 1) rc rs 158 [(0, .ref (n0 + 59)), (1, .int a1), (2, .int a2), (3, .int a3), (4, .int a4), (5, .int a5), (6, .int (if ((I4 66 a1.toNatClampNeg) : Int32) = 3 then if a5 = 0 then 0 else if a7 < (I4 59 56) then 1 else 0 else 0)), (7, .int a7)] [.int (if ((if ((I4 66 a1.toNatClampNeg) : Int32) = 3 then if a5 = 0 then 0 else if a7 < (I4 59 56) then 1 else 0 else 0) : Int32) = 0 then 0 else (I4 93 a7.toNatClampNeg)), .int a7, .ref (n0 + 83)] K (zI I4 82 a7.toNatClampNeg (if ((if ((I4 66 a1.toNatClampNeg) : Int32) = 3 then if a5 = 0 then 0 else if a7 < (I4 59 56) then 1 else 0 else 0) : Int32) = 0 then 0 else (I4 92 a7.toNatClampNeg))) L5 (z_q0 K Q) := by
              refine z_iast dX13_drawOne_158 (ma_36 hL).2.1 (ma_36 hL).2.2 o15 ?_
              refine z_iinc (j := 7) (a7 + 1) [1, 2, 3, 4, 5, 6, 7, 0] [(0, .ref (n0 + 59)), (1, .int a1), (2, .int a2), (3, .int a3), (4, .int a4), (5, .int a5), (6, .int (if ((I4 66 a1.toNatClampNeg) : Int32) = 3 then if a5 = 0 then 0 else if a7 < (I4 59 56) then 1 else 0 else 0)), (7, .int (a7 + 1))] dX13_drawOne_159 rfl rfl (by decide) rfl ?_
              refine z_goto 6 dX13_drawOne_162 (by decide) ?_
              exact h
            refine z_if_eq 157 dX13_drawOne_144 (by decide) (fun g16 => ?_) (fun g16 => ?_)
            · refine z_iconst 0 dX13_drawOne_157 (by decide) ?_
              have ee : ((if ((if ((I4 66 a1.toNatClampNeg) : Int32) = 3 then if a5 = 0 then 0 else if a7 < (I4 59 56) then 1 else 0 else 0) : Int32) = 0 then 0 else (I4 93 a7.toNatClampNeg)) : Int32) = 0 := by rw [if_pos g16]
              rw [ee] at key17
              clear ee
              exact key17
            · refine z_aload_n 0 dX13_drawOne_147 rfl ?_
              refine fg_13_111 (some 93) rfl dX13_drawOne_148 hL.1 hL.2.1 (ma_55 hL).1 ?_
              refine z_iload 7 dX13_drawOne_151 rfl ?_
              refine z_iald (I4 93 a7.toNatClampNeg) dX13_drawOne_153 (ma_55 hL).2.1 (ma_55 hL).2.2 o15 rfl ?_
              refine z_goto 158 dX13_drawOne_154 (by decide) ?_
              have ee : ((if ((if ((I4 66 a1.toNatClampNeg) : Int32) = 3 then if a5 = 0 then 0 else if a7 < (I4 59 56) then 1 else 0 else 0) : Int32) = 0 then 0 else (I4 93 a7.toNatClampNeg)) : Int32) = (I4 93 a7.toNatClampNeg) := by rw [if_neg g16]
              rw [ee] at key17
              clear ee
              exact key17
          refine z_if_eq 134 dX13_drawOne_121 (by decide) (fun g12 => ?_) (fun g12 => ?_)
          · refine z_iconst 0 dX13_drawOne_134 (by decide) ?_
            have ee : ((if ((if ((I4 66 a1.toNatClampNeg) : Int32) = 3 then if a5 = 0 then 0 else if a7 < (I4 59 56) then 1 else 0 else 0) : Int32) = 0 then 0 else (I4 92 a7.toNatClampNeg)) : Int32) = 0 := by rw [if_pos g12]
            rw [ee] at key14
            clear ee
            exact key14
          · refine z_aload_n 0 dX13_drawOne_124 rfl ?_
            refine fg_13_108 (some 92) rfl dX13_drawOne_125 hL.1 hL.2.1 (ma_54 hL).1 ?_
            refine z_iload 7 dX13_drawOne_128 rfl ?_
            refine z_iald (I4 92 a7.toNatClampNeg) dX13_drawOne_130 (ma_54 hL).2.1 (ma_54 hL).2.2 (o13 g12) rfl ?_
            refine z_goto 135 dX13_drawOne_131 (by decide) ?_
            have ee : ((if ((if ((I4 66 a1.toNatClampNeg) : Int32) = 3 then if a5 = 0 then 0 else if a7 < (I4 59 56) then 1 else 0 else 0) : Int32) = 0 then 0 else (I4 92 a7.toNatClampNeg)) : Int32) = (I4 92 a7.toNatClampNeg) := by rw [if_neg g12]
            rw [ee] at key14
            clear ee
            exact key14
        refine z_icmp_ne 110 dX13_drawOne_89 (by decide) (fun g8 => ?_) (fun g8 => ?_)
        · refine z_iconst 0 dX13_drawOne_110 (by decide) ?_
          have ee : ((if ((I4 66 a1.toNatClampNeg) : Int32) = 3 then if a5 = 0 then 0 else if a7 < (I4 59 56) then 1 else 0 else 0) : Int32) = 0 := by rw [if_neg g8]
          rw [ee] at key11
          clear ee
          refine z_sub [0, 1, 2, 3, 4, 5, 7] rfl ?_
          exact key11
        · refine z_iload 5 dX13_drawOne_92 rfl ?_
          refine z_if_eq 110 dX13_drawOne_94 (by decide) (fun g9 => ?_) (fun g9 => ?_)
          · refine z_iconst 0 dX13_drawOne_110 (by decide) ?_
            have ee : ((if ((I4 66 a1.toNatClampNeg) : Int32) = 3 then if a5 = 0 then 0 else if a7 < (I4 59 56) then 1 else 0 else 0) : Int32) = 0 := by rw [if_pos g8, if_pos g9]
            rw [ee] at key11
            clear ee
            refine z_sub [0, 1, 2, 3, 4, 5, 7] rfl ?_
            exact key11
          · refine z_iload 7 dX13_drawOne_97 rfl ?_
            refine z_aload_n 0 dX13_drawOne_99 rfl ?_
            refine fg_13_467 (I4 59 56) rfl dX13_drawOne_100 hL.1 hL.2.1 rfl ?_
            refine z_icmp_ge 110 dX13_drawOne_103 (by decide) (fun g10 => ?_) (fun g10 => ?_)
            · refine z_iconst 0 dX13_drawOne_110 (by decide) ?_
              have ee : ((if ((I4 66 a1.toNatClampNeg) : Int32) = 3 then if a5 = 0 then 0 else if a7 < (I4 59 56) then 1 else 0 else 0) : Int32) = 0 := by rw [if_pos g8, if_neg g9, if_neg g10]
              rw [ee] at key11
              clear ee
              refine z_sub [0, 1, 2, 3, 4, 5, 7] rfl ?_
              exact key11
            · refine z_iconst 1 dX13_drawOne_106 (by decide) ?_
              refine z_goto 111 dX13_drawOne_107 (by decide) ?_
              have ee : ((if ((I4 66 a1.toNatClampNeg) : Int32) = 3 then if a5 = 0 then 0 else if a7 < (I4 59 56) then 1 else 0 else 0) : Int32) = 1 := by rw [if_pos g8, if_neg g9, if_pos g10]
              rw [ee] at key11
              clear ee
              refine z_sub [0, 1, 2, 3, 4, 5, 7] rfl ?_
              exact key11
      · rw [if_neg g7] at h
        refine z_aload_n 0 dX13_drawOne_37 rfl ?_
        refine z_iload 8 dX13_drawOne_38 rfl ?_
        refine z_callV0 (As := [.int r6]) (st := []) dX13_drawOne_40 hy_X13_readRule hL.1 hL.2.1 (by decide) wg_1930 wg_1932 wg_74 (Nat.le_refl _) (Nat.le_of_ble_eq_true rfl) (RM0.mono h (fun vv I18 L19 h => ?_))
        obtain ⟨rfl, h⟩ := h
        change Z n0 xX13_drawOne (d + 1) rc rs 43 [(0, .ref (n0 + 59)), (1, .int a1), (2, .int a2), (3, .int a3), (4, .int a4), (5, .int a5), (6, .int a6), (7, .int a7), (8, .int r6)] [] K I18 L19 (z_q0 K Q)
        refine z_aload_n 0 dX13_drawOne_43 rfl ?_
        refine fg_13_77 (some 82) rfl dX13_drawOne_44 hL.1 hL.2.1 (ma_35 hL).1 ?_
        refine z_iload 7 dX13_drawOne_47 rfl ?_
        refine z_aload_n 0 dX13_drawOne_49 rfl ?_
        refine fg_13_439 (I18 59 46) rfl dX13_drawOne_50 hL.1 hL.2.1 rfl ?_
        obtain ⟨o20, h⟩ := h
        refine z_iast dX13_drawOne_53 (ma_35 hL).2.1 (ma_35 hL).2.2 o20 ?_
        refine z_aload_n 0 dX13_drawOne_54 rfl ?_
        refine fg_13_80 (some 83) rfl dX13_drawOne_55 hL.1 hL.2.1 (ma_36 hL).1 ?_
        refine z_iload 7 dX13_drawOne_58 rfl ?_
        refine z_aload_n 0 dX13_drawOne_60 rfl ?_
        refine fg_13_442 (I18 59 47) rfl dX13_drawOne_61 hL.1 hL.2.1 rfl ?_
        refine z_iast dX13_drawOne_64 (ma_36 hL).2.1 (ma_36 hL).2.2 o20 ?_
        refine z_aload_n 0 dX13_drawOne_65 rfl ?_
        refine fg_13_368 (I18 59 34) rfl dX13_drawOne_66 hL.1 hL.2.1 rfl ?_
        have key22 : Z n0 xX13_drawOne (d + 1) rc rs 77 [(0, .ref (n0 + 59)), (1, .int a1), (2, .int a2), (3, .int a3), (4, .int a4), (5, .int a5), (7, .int a7)] [.int (if ((I18 59 34) : Int32) = 0 then 1 else 0)] K (zI (zI I18 82 a7.toNatClampNeg (I18 59 46)) 83 a7.toNatClampNeg (I18 59 47)) L19 (z_q0 K Q) := by
          refine z_istore [1, 2, 3, 4, 5, 6, 0, 7] [(0, .ref (n0 + 59)), (1, .int a1), (2, .int a2), (3, .int a3), (4, .int a4), (5, .int a5), (6, .int (if ((I18 59 34) : Int32) = 0 then 1 else 0)), (7, .int a7)] dX13_drawOne_77 (by decide) rfl ?_
          refine z_goto 159 dX13_drawOne_79 (by decide) ?_
          refine z_iinc (j := 7) (a7 + 1) [1, 2, 3, 4, 5, 6, 7, 0] [(0, .ref (n0 + 59)), (1, .int a1), (2, .int a2), (3, .int a3), (4, .int a4), (5, .int a5), (6, .int (if ((I18 59 34) : Int32) = 0 then 1 else 0)), (7, .int (a7 + 1))] dX13_drawOne_159 rfl rfl (by decide) rfl ?_
          refine z_goto 6 dX13_drawOne_162 (by decide) ?_
          exact h
        refine z_if_ne 76 dX13_drawOne_69 (by decide) (fun g21 => ?_) (fun g21 => ?_)
        · refine z_iconst 0 dX13_drawOne_76 (by decide) ?_
          have ee : ((if ((I18 59 34) : Int32) = 0 then 1 else 0) : Int32) = 0 := by rw [if_neg g21]
          rw [ee] at key22
          clear ee
          refine z_sub [0, 1, 2, 3, 4, 5, 7] rfl ?_
          exact key22
        · refine z_iconst 1 dX13_drawOne_72 (by decide) ?_
          refine z_goto 77 dX13_drawOne_73 (by decide) ?_
          have ee : ((if ((I18 59 34) : Int32) = 0 then 1 else 0) : Int32) = 1 := by rw [if_pos g21]
          rw [ee] at key22
          clear ee
          refine z_sub [0, 1, 2, 3, 4, 5, 7] rfl ?_
          exact key22
set_option maxRecDepth 100000 in
set_option maxHeartbeats 4000000 in
theorem wp_X13_drawOne_168 {n0 d : Nat} {rc rs : Nat} {K : z_K} {I : z_I} {L : z_L} {Q : z_q} {a1 : Int32} {a2 : Int32} {a4 : Int32} {a6 : Int32} {a7 : Int32} (hL : MLay K) (h : vp_in a1 16 ∧ (if a7 < (I 67 a1.toNatClampNeg) then (if a6 = 0 then z_b a6 ∧ Q (some (.int a6)) (zI I 59 56 (I 67 a1.toNatClampNeg)) L else vp_in a7 10 ∧ vp_in ((10 * a1) + a7) 160 ∧ Z n0 xX13_drawOne (d + 1) rc rs 249 [(0, .ref (n0 + 59)), (1, .int a1), (2, .int a2), (4, .int a4), (6, .int a6), (7, .int a7), (8, .int 0)] [] K (zI (zI I 92 a7.toNatClampNeg ((I 82 a7.toNatClampNeg) + ((I 70 (((10 * a1) + a7).toNatClampNeg)) * (a2 - 5)))) 93 a7.toNatClampNeg ((I 83 a7.toNatClampNeg) + ((I 71 (((10 * a1) + a7).toNatClampNeg)) * (a2 - 5)))) L (z_q0 K Q)) else z_b a6 ∧ Q (some (.int a6)) (zI I 59 56 (I 67 a1.toNatClampNeg)) L)) : Z n0 xX13_drawOne (d + 1) rc rs 168 [(0, .ref (n0 + 59)), (1, .int a1), (2, .int a2), (4, .int a4), (6, .int a6), (7, .int a7)] [] K I L (z_q0 K Q) := by
  refine z_iload 5 dX13_drawOne_168 rfl ?_
  refine z_aload_n 0 dX13_drawOne_170 rfl ?_
  refine fg_13_31 (some 67) rfl dX13_drawOne_171 hL.1 hL.2.1 (ma_11 hL).1 ?_
  refine z_iload_n 1 dX13_drawOne_174 rfl ?_
  obtain ⟨o1, h⟩ := h
  refine z_iald (I 67 a1.toNatClampNeg) dX13_drawOne_175 (ma_11 hL).2.1 (ma_11 hL).2.2 o1 rfl ?_
  refine z_icmp_ge 363 dX13_drawOne_176 (by decide) (fun g2 => ?_) (fun g2 => ?_)
  · rw [if_neg g2] at h
    refine z_aload_n 0 dX13_drawOne_363 rfl ?_
    refine z_aload_n 0 dX13_drawOne_364 rfl ?_
    refine fg_13_31 (some 67) rfl dX13_drawOne_365 hL.1 hL.2.1 (ma_11 hL).1 ?_
    refine z_iload_n 1 dX13_drawOne_368 rfl ?_
    refine z_iald (I 67 a1.toNatClampNeg) dX13_drawOne_369 (ma_11 hL).2.1 (ma_11 hL).2.2 o1 rfl ?_
    refine fp_13_467 rfl dX13_drawOne_370 hL.1 hL.2.1 ?_
    refine z_iload 4 dX13_drawOne_373 rfl ?_
    obtain ⟨o3, h⟩ := h
    exact z_zretb dX13_drawOne_375 rfl o3 ⟨rfl, h⟩
  · rw [if_pos g2] at h
    refine z_iload 4 dX13_drawOne_179 rfl ?_
    refine z_if_eq 363 dX13_drawOne_181 (by decide) (fun g4 => ?_) (fun g4 => ?_)
    · rw [if_pos g4] at h
      refine z_aload_n 0 dX13_drawOne_363 rfl ?_
      refine z_aload_n 0 dX13_drawOne_364 rfl ?_
      refine fg_13_31 (some 67) rfl dX13_drawOne_365 hL.1 hL.2.1 (ma_11 hL).1 ?_
      refine z_iload_n 1 dX13_drawOne_368 rfl ?_
      refine z_iald (I 67 a1.toNatClampNeg) dX13_drawOne_369 (ma_11 hL).2.1 (ma_11 hL).2.2 o1 rfl ?_
      refine fp_13_467 rfl dX13_drawOne_370 hL.1 hL.2.1 ?_
      refine z_iload 4 dX13_drawOne_373 rfl ?_
      obtain ⟨o5, h⟩ := h
      exact z_zretb dX13_drawOne_375 rfl o5 ⟨rfl, h⟩
    · rw [if_neg g4] at h
      refine z_aload_n 0 dX13_drawOne_184 rfl ?_
      refine fg_13_108 (some 92) rfl dX13_drawOne_185 hL.1 hL.2.1 (ma_54 hL).1 ?_
      refine z_iload 5 dX13_drawOne_188 rfl ?_
      refine z_aload_n 0 dX13_drawOne_190 rfl ?_
      refine fg_13_77 (some 82) rfl dX13_drawOne_191 hL.1 hL.2.1 (ma_35 hL).1 ?_
      refine z_iload 5 dX13_drawOne_194 rfl ?_
      obtain ⟨o6, h⟩ := h
      refine z_iald (I 82 a7.toNatClampNeg) dX13_drawOne_196 (ma_35 hL).2.1 (ma_35 hL).2.2 o6 rfl ?_
      refine z_aload_n 0 dX13_drawOne_197 rfl ?_
      refine fg_13_41 (some 70) rfl dX13_drawOne_198 hL.1 hL.2.1 (ma_14 hL).1 ?_
      refine z_bipush 10 dX13_drawOne_201 (by decide) ?_
      refine z_iload_n 1 dX13_drawOne_203 rfl ?_
      refine z_imul dX13_drawOne_204 ?_
      refine z_iload 5 dX13_drawOne_205 rfl ?_
      refine z_iadd dX13_drawOne_207 ?_
      obtain ⟨o7, h⟩ := h
      refine z_iald (I 70 (((10 * a1) + a7).toNatClampNeg)) dX13_drawOne_208 (ma_14 hL).2.1 (ma_14 hL).2.2 o7 rfl ?_
      refine z_iload_n 2 dX13_drawOne_209 rfl ?_
      refine z_iconst 5 dX13_drawOne_210 (by decide) ?_
      refine z_isub dX13_drawOne_211 ?_
      refine z_imul dX13_drawOne_212 ?_
      refine z_iadd dX13_drawOne_213 ?_
      refine z_iast dX13_drawOne_214 (ma_54 hL).2.1 (ma_54 hL).2.2 o6 ?_
      refine z_aload_n 0 dX13_drawOne_215 rfl ?_
      refine fg_13_111 (some 93) rfl dX13_drawOne_216 hL.1 hL.2.1 (ma_55 hL).1 ?_
      refine z_iload 5 dX13_drawOne_219 rfl ?_
      refine z_aload_n 0 dX13_drawOne_221 rfl ?_
      refine fg_13_80 (some 83) rfl dX13_drawOne_222 hL.1 hL.2.1 (ma_36 hL).1 ?_
      refine z_iload 5 dX13_drawOne_225 rfl ?_
      refine z_iald (I 83 a7.toNatClampNeg) dX13_drawOne_227 (ma_36 hL).2.1 (ma_36 hL).2.2 o6 rfl ?_
      refine z_aload_n 0 dX13_drawOne_228 rfl ?_
      refine fg_13_44 (some 71) rfl dX13_drawOne_229 hL.1 hL.2.1 (ma_15 hL).1 ?_
      refine z_bipush 10 dX13_drawOne_232 (by decide) ?_
      refine z_iload_n 1 dX13_drawOne_234 rfl ?_
      refine z_imul dX13_drawOne_235 ?_
      refine z_iload 5 dX13_drawOne_236 rfl ?_
      refine z_iadd dX13_drawOne_238 ?_
      refine z_iald (I 71 (((10 * a1) + a7).toNatClampNeg)) dX13_drawOne_239 (ma_15 hL).2.1 (ma_15 hL).2.2 o7 rfl ?_
      refine z_iload_n 2 dX13_drawOne_240 rfl ?_
      refine z_iconst 5 dX13_drawOne_241 (by decide) ?_
      refine z_isub dX13_drawOne_242 ?_
      refine z_imul dX13_drawOne_243 ?_
      refine z_iadd dX13_drawOne_244 ?_
      refine z_iast dX13_drawOne_245 (ma_55 hL).2.1 (ma_55 hL).2.2 o6 ?_
      refine z_iconst 0 dX13_drawOne_246 (by decide) ?_
      refine z_istore [1, 2, 3, 4, 5, 6, 0] [(0, .ref (n0 + 59)), (1, .int a1), (2, .int a2), (4, .int a4), (6, .int a6), (7, .int a7), (8, .int 0)] dX13_drawOne_247 (by decide) rfl ?_
      exact h
set_option maxRecDepth 100000 in
set_option maxHeartbeats 4000000 in
theorem wp_X13_drawOne_249 {n0 d : Nat} {rc rs : Nat} {K : z_K} {I : z_I} {L : z_L} {Q : z_q} {a1 : Int32} {a2 : Int32} {a4 : Int32} {a6 : Int32} {a7 : Int32} {a8 : Int32} (hL : MLay K) (h : (if a8 < (I 59 49) then (if a4 < 0 then Z n0 xX13_drawOne (d + 1) rc rs 168 [(0, .ref (n0 + 59)), (1, .int a1), (2, .int a2), (4, .int a4), (6, .int a6), (7, .int (a7 + 1))] [] K I L (z_q0 K Q) else vp_in a8 40 ∧ vp_in a7 10 ∧ Z n0 xX13_drawOne (d + 1) rc rs 249 [(0, .ref (n0 + 59)), (1, .int a1), (2, .int a2), (4, .int a4), (6, .int a6), (7, .int a7), (8, .int (a8 + 1))] [] K (zI (zI I 92 a7.toNatClampNeg ((I 92 a7.toNatClampNeg) + (if ((if ((I 88 a8.toNatClampNeg) : Int32) = ((10 * a1) + a7) then if ((I 89 a8.toNatClampNeg) : Int32) = a4 then 1 else 0 else 0) : Int32) = 0 then 0 else (I 90 a8.toNatClampNeg)))) 93 a7.toNatClampNeg ((I 93 a7.toNatClampNeg) + (if ((if ((I 88 a8.toNatClampNeg) : Int32) = ((10 * a1) + a7) then if ((I 89 a8.toNatClampNeg) : Int32) = a4 then 1 else 0 else 0) : Int32) = 0 then 0 else (I 91 a8.toNatClampNeg)))) L (z_q0 K Q)) else Z n0 xX13_drawOne (d + 1) rc rs 168 [(0, .ref (n0 + 59)), (1, .int a1), (2, .int a2), (4, .int a4), (6, .int a6), (7, .int (a7 + 1))] [] K I L (z_q0 K Q))) : Z n0 xX13_drawOne (d + 1) rc rs 249 [(0, .ref (n0 + 59)), (1, .int a1), (2, .int a2), (4, .int a4), (6, .int a6), (7, .int a7), (8, .int a8)] [] K I L (z_q0 K Q) := by
  refine z_iload 6 dX13_drawOne_249 rfl ?_
  refine z_aload_n 0 dX13_drawOne_251 rfl ?_
  refine fg_13_464 (I 59 49) rfl dX13_drawOne_252 hL.1 hL.2.1 rfl ?_
  refine z_icmp_ge 357 dX13_drawOne_255 (by decide) (fun g1 => ?_) (fun g1 => ?_)
  · rw [if_neg g1] at h
    refine z_iinc (j := 5) (a7 + 1) [1, 2, 3, 4, 5, 0, 6] [(0, .ref (n0 + 59)), (1, .int a1), (2, .int a2), (4, .int a4), (6, .int a6), (7, .int (a7 + 1)), (8, .int a8)] dX13_drawOne_357 rfl rfl (by decide) rfl ?_
    refine z_goto 168 dX13_drawOne_360 (by decide) ?_
    refine z_sub [0, 1, 2, 3, 4, 5] rfl ?_
    exact h
  · rw [if_pos g1] at h
    refine z_iload 3 dX13_drawOne_258 rfl ?_
    refine z_if_lt 357 dX13_drawOne_260 (by decide) (fun g2 => ?_) (fun g2 => ?_)
    · rw [if_pos g2] at h
      refine z_iinc (j := 5) (a7 + 1) [1, 2, 3, 4, 5, 0, 6] [(0, .ref (n0 + 59)), (1, .int a1), (2, .int a2), (4, .int a4), (6, .int a6), (7, .int (a7 + 1)), (8, .int a8)] dX13_drawOne_357 rfl rfl (by decide) rfl ?_
      refine z_goto 168 dX13_drawOne_360 (by decide) ?_
      refine z_sub [0, 1, 2, 3, 4, 5] rfl ?_
      exact h
    · rw [if_neg g2] at h
      refine z_aload_n 0 dX13_drawOne_263 rfl ?_
      refine fg_13_96 (some 88) rfl dX13_drawOne_264 hL.1 hL.2.1 (ma_50 hL).1 ?_
      refine z_iload 6 dX13_drawOne_267 rfl ?_
      obtain ⟨o3, h⟩ := h
      refine z_iald (I 88 a8.toNatClampNeg) dX13_drawOne_269 (ma_50 hL).2.1 (ma_50 hL).2.2 o3 rfl ?_
      refine z_bipush 10 dX13_drawOne_270 (by decide) ?_
      refine z_iload_n 1 dX13_drawOne_272 rfl ?_
      refine z_imul dX13_drawOne_273 ?_
      refine z_iload 5 dX13_drawOne_274 rfl ?_
      refine z_iadd dX13_drawOne_276 ?_
      have key6 : Z n0 xX13_drawOne (d + 1) rc rs 297 [(0, .ref (n0 + 59)), (1, .int a1), (2, .int a2), (4, .int a4), (6, .int a6), (7, .int a7), (8, .int a8)] [.int (if ((I 88 a8.toNatClampNeg) : Int32) = ((10 * a1) + a7) then if ((I 89 a8.toNatClampNeg) : Int32) = a4 then 1 else 0 else 0)] K I L (z_q0 K Q) := by
        refine z_istore [1, 2, 3, 4, 5, 6, 7, 0] [(0, .ref (n0 + 59)), (1, .int a1), (2, .int a2), (4, .int a4), (6, .int a6), (7, .int a7), (8, .int a8), (9, .int (if ((I 88 a8.toNatClampNeg) : Int32) = ((10 * a1) + a7) then if ((I 89 a8.toNatClampNeg) : Int32) = a4 then 1 else 0 else 0))] dX13_drawOne_297 (by decide) rfl ?_
        refine z_aload_n 0 dX13_drawOne_299 rfl ?_
        refine fg_13_108 (some 92) rfl dX13_drawOne_300 hL.1 hL.2.1 (ma_54 hL).1 ?_
        refine z_iload 5 dX13_drawOne_303 rfl ?_
        refine z_dup2 dX13_drawOne_305 rfl rfl ?_
        obtain ⟨o7, h⟩ := h
        refine z_iald (I 92 a7.toNatClampNeg) dX13_drawOne_306 (ma_54 hL).2.1 (ma_54 hL).2.2 o7 rfl ?_
        refine z_iload 7 dX13_drawOne_307 rfl ?_
        have key9 : Z n0 xX13_drawOne (d + 1) rc rs 323 [(0, .ref (n0 + 59)), (1, .int a1), (2, .int a2), (4, .int a4), (6, .int a6), (7, .int a7), (8, .int a8), (9, .int (if ((I 88 a8.toNatClampNeg) : Int32) = ((10 * a1) + a7) then if ((I 89 a8.toNatClampNeg) : Int32) = a4 then 1 else 0 else 0))] [.int (if ((if ((I 88 a8.toNatClampNeg) : Int32) = ((10 * a1) + a7) then if ((I 89 a8.toNatClampNeg) : Int32) = a4 then 1 else 0 else 0) : Int32) = 0 then 0 else (I 90 a8.toNatClampNeg)), .int (I 92 a7.toNatClampNeg), .int a7, .ref (n0 + 92)] K I L (z_q0 K Q) := by
          refine z_iadd dX13_drawOne_323 ?_
          refine z_iast dX13_drawOne_324 (ma_54 hL).2.1 (ma_54 hL).2.2 o7 ?_
          refine z_aload_n 0 dX13_drawOne_325 rfl ?_
          refine fg_13_111 (some 93) rfl dX13_drawOne_326 hL.1 hL.2.1 (ma_55 hL).1 ?_
          refine z_iload 5 dX13_drawOne_329 rfl ?_
          refine z_dup2 dX13_drawOne_331 rfl rfl ?_
          refine z_iald (I 93 a7.toNatClampNeg) dX13_drawOne_332 (ma_55 hL).2.1 (ma_55 hL).2.2 o7 rfl ?_
          refine z_iload 7 dX13_drawOne_333 rfl ?_
          have key11 : Z n0 xX13_drawOne (d + 1) rc rs 349 [(0, .ref (n0 + 59)), (1, .int a1), (2, .int a2), (4, .int a4), (6, .int a6), (7, .int a7), (8, .int a8)] [.int (if ((if ((I 88 a8.toNatClampNeg) : Int32) = ((10 * a1) + a7) then if ((I 89 a8.toNatClampNeg) : Int32) = a4 then 1 else 0 else 0) : Int32) = 0 then 0 else (I 91 a8.toNatClampNeg)), .int (I 93 a7.toNatClampNeg), .int a7, .ref (n0 + 93)] K (zI I 92 a7.toNatClampNeg ((I 92 a7.toNatClampNeg) + (if ((if ((I 88 a8.toNatClampNeg) : Int32) = ((10 * a1) + a7) then if ((I 89 a8.toNatClampNeg) : Int32) = a4 then 1 else 0 else 0) : Int32) = 0 then 0 else (I 90 a8.toNatClampNeg)))) L (z_q0 K Q) := by
            refine z_iadd dX13_drawOne_349 ?_
            refine z_iast dX13_drawOne_350 (ma_55 hL).2.1 (ma_55 hL).2.2 o7 ?_
            refine z_iinc (j := 6) (a8 + 1) [1, 2, 3, 4, 5, 6, 0] [(0, .ref (n0 + 59)), (1, .int a1), (2, .int a2), (4, .int a4), (6, .int a6), (7, .int a7), (8, .int (a8 + 1))] dX13_drawOne_351 rfl rfl (by decide) rfl ?_
            refine z_goto 249 dX13_drawOne_354 (by decide) ?_
            exact h
          refine z_if_eq 348 dX13_drawOne_335 (by decide) (fun g10 => ?_) (fun g10 => ?_)
          · refine z_iconst 0 dX13_drawOne_348 (by decide) ?_
            have ee : ((if ((if ((I 88 a8.toNatClampNeg) : Int32) = ((10 * a1) + a7) then if ((I 89 a8.toNatClampNeg) : Int32) = a4 then 1 else 0 else 0) : Int32) = 0 then 0 else (I 91 a8.toNatClampNeg)) : Int32) = 0 := by rw [if_pos g10]
            rw [ee] at key11
            clear ee
            refine z_sub [0, 1, 2, 3, 4, 5, 6] rfl ?_
            exact key11
          · refine z_aload_n 0 dX13_drawOne_338 rfl ?_
            refine fg_13_105 (some 91) rfl dX13_drawOne_339 hL.1 hL.2.1 (ma_53 hL).1 ?_
            refine z_iload 6 dX13_drawOne_342 rfl ?_
            refine z_iald (I 91 a8.toNatClampNeg) dX13_drawOne_344 (ma_53 hL).2.1 (ma_53 hL).2.2 o3 rfl ?_
            refine z_goto 349 dX13_drawOne_345 (by decide) ?_
            have ee : ((if ((if ((I 88 a8.toNatClampNeg) : Int32) = ((10 * a1) + a7) then if ((I 89 a8.toNatClampNeg) : Int32) = a4 then 1 else 0 else 0) : Int32) = 0 then 0 else (I 91 a8.toNatClampNeg)) : Int32) = (I 91 a8.toNatClampNeg) := by rw [if_neg g10]
            rw [ee] at key11
            clear ee
            refine z_sub [0, 1, 2, 3, 4, 5, 6] rfl ?_
            exact key11
        refine z_if_eq 322 dX13_drawOne_309 (by decide) (fun g8 => ?_) (fun g8 => ?_)
        · refine z_iconst 0 dX13_drawOne_322 (by decide) ?_
          have ee : ((if ((if ((I 88 a8.toNatClampNeg) : Int32) = ((10 * a1) + a7) then if ((I 89 a8.toNatClampNeg) : Int32) = a4 then 1 else 0 else 0) : Int32) = 0 then 0 else (I 90 a8.toNatClampNeg)) : Int32) = 0 := by rw [if_pos g8]
          rw [ee] at key9
          clear ee
          exact key9
        · refine z_aload_n 0 dX13_drawOne_312 rfl ?_
          refine fg_13_102 (some 90) rfl dX13_drawOne_313 hL.1 hL.2.1 (ma_52 hL).1 ?_
          refine z_iload 6 dX13_drawOne_316 rfl ?_
          refine z_iald (I 90 a8.toNatClampNeg) dX13_drawOne_318 (ma_52 hL).2.1 (ma_52 hL).2.2 o3 rfl ?_
          refine z_goto 323 dX13_drawOne_319 (by decide) ?_
          have ee : ((if ((if ((I 88 a8.toNatClampNeg) : Int32) = ((10 * a1) + a7) then if ((I 89 a8.toNatClampNeg) : Int32) = a4 then 1 else 0 else 0) : Int32) = 0 then 0 else (I 90 a8.toNatClampNeg)) : Int32) = (I 90 a8.toNatClampNeg) := by rw [if_neg g8]
          rw [ee] at key9
          clear ee
          exact key9
      refine z_icmp_ne 296 dX13_drawOne_277 (by decide) (fun g4 => ?_) (fun g4 => ?_)
      · refine z_iconst 0 dX13_drawOne_296 (by decide) ?_
        have ee : ((if ((I 88 a8.toNatClampNeg) : Int32) = ((10 * a1) + a7) then if ((I 89 a8.toNatClampNeg) : Int32) = a4 then 1 else 0 else 0) : Int32) = 0 := by rw [if_neg g4]
        rw [ee] at key6
        clear ee
        exact key6
      · refine z_aload_n 0 dX13_drawOne_280 rfl ?_
        refine fg_13_99 (some 89) rfl dX13_drawOne_281 hL.1 hL.2.1 (ma_51 hL).1 ?_
        refine z_iload 6 dX13_drawOne_284 rfl ?_
        refine z_iald (I 89 a8.toNatClampNeg) dX13_drawOne_286 (ma_51 hL).2.1 (ma_51 hL).2.2 o3 rfl ?_
        refine z_iload 3 dX13_drawOne_287 rfl ?_
        refine z_icmp_ne 296 dX13_drawOne_289 (by decide) (fun g5 => ?_) (fun g5 => ?_)
        · refine z_iconst 0 dX13_drawOne_296 (by decide) ?_
          have ee : ((if ((I 88 a8.toNatClampNeg) : Int32) = ((10 * a1) + a7) then if ((I 89 a8.toNatClampNeg) : Int32) = a4 then 1 else 0 else 0) : Int32) = 0 := by rw [if_pos g4, if_neg g5]
          rw [ee] at key6
          clear ee
          exact key6
        · refine z_iconst 1 dX13_drawOne_292 (by decide) ?_
          refine z_goto 297 dX13_drawOne_293 (by decide) ?_
          have ee : ((if ((I 88 a8.toNatClampNeg) : Int32) = ((10 * a1) + a7) then if ((I 89 a8.toNatClampNeg) : Int32) = a4 then 1 else 0 else 0) : Int32) = 1 := by rw [if_pos g4, if_pos g5]
          rw [ee] at key6
          clear ee
          exact key6
theorem dX13_halfDown_0 : decode cX13_halfDown 0 = .ok (.iload_n 0, 1) := by decide +kernel
theorem dX13_halfDown_1 : decode cX13_halfDown 1 = .ok (.ifCond .lt 9, 3) := by decide +kernel
theorem dX13_halfDown_4 : decode cX13_halfDown 4 = .ok (.iload_n 0, 1) := by decide +kernel
theorem dX13_halfDown_5 : decode cX13_halfDown 5 = .ok (.iconst 2, 1) := by decide +kernel
theorem dX13_halfDown_6 : decode cX13_halfDown 6 = .ok (.idiv, 1) := by decide +kernel
theorem dX13_halfDown_7 : decode cX13_halfDown 7 = .ok (.goto 9, 3) := by decide +kernel
theorem dX13_halfDown_10 : decode cX13_halfDown 10 = .ok (.iconst 1, 1) := by decide +kernel
theorem dX13_halfDown_11 : decode cX13_halfDown 11 = .ok (.iload_n 0, 1) := by decide +kernel
theorem dX13_halfDown_12 : decode cX13_halfDown 12 = .ok (.isub, 1) := by decide +kernel
theorem dX13_halfDown_13 : decode cX13_halfDown 13 = .ok (.iconst 2, 1) := by decide +kernel
theorem dX13_halfDown_14 : decode cX13_halfDown 14 = .ok (.idiv, 1) := by decide +kernel
theorem dX13_halfDown_15 : decode cX13_halfDown 15 = .ok (.ineg, 1) := by decide +kernel
theorem dX13_halfDown_16 : decode cX13_halfDown 16 = .ok (.ireturn, 1) := by decide +kernel
set_option maxRecDepth 100000 in
set_option maxHeartbeats 4000000 in
theorem wp_X13_halfDown {n0 d : Nat} {K : z_K} {I : z_I} {L : z_L} {Q : z_q} {p0 : Int32} (hL : MLay K) (h : Q (some (.int (if p0 < 0 then (-((1 - p0) / 2)) else (p0 / 2)))) I L) : RM0 n0 xX13_halfDown d [.int p0] K I L Q := by
  refine z_entry0 (by decide) (Nat.le_of_ble_eq_true rfl) ?_
  change Z n0 xX13_halfDown d 0 0 0 [(0, .int p0)] [] K I L (z_q0 K Q)
  refine z_iload_n 0 dX13_halfDown_0 rfl ?_
  have key2 : Z n0 xX13_halfDown d 0 0 16 [] [.int (if p0 < 0 then (-((1 - p0) / 2)) else (p0 / 2))] K I L (z_q0 K Q) := by
    exact z_iret dX13_halfDown_16 rfl ⟨rfl, h⟩
  refine z_if_lt 10 dX13_halfDown_1 (by decide) (fun g1 => ?_) (fun g1 => ?_)
  · refine z_iconst 1 dX13_halfDown_10 (by decide) ?_
    refine z_iload_n 0 dX13_halfDown_11 rfl ?_
    refine z_isub dX13_halfDown_12 ?_
    refine z_iconst 2 dX13_halfDown_13 (by decide) ?_
    refine z_idiv dX13_halfDown_14 (by decide) ?_
    refine z_ineg dX13_halfDown_15 ?_
    have ee : ((if p0 < 0 then (-((1 - p0) / 2)) else (p0 / 2)) : Int32) = (-((1 - p0) / 2)) := by rw [if_pos g1]
    rw [ee] at key2
    clear ee
    refine z_sub [] rfl ?_
    exact key2
  · refine z_iload_n 0 dX13_halfDown_4 rfl ?_
    refine z_iconst 2 dX13_halfDown_5 (by decide) ?_
    refine z_idiv dX13_halfDown_6 (by decide) ?_
    refine z_goto 16 dX13_halfDown_7 (by decide) ?_
    have ee : ((if p0 < 0 then (-((1 - p0) / 2)) else (p0 / 2)) : Int32) = (p0 / 2) := by rw [if_neg g1]
    rw [ee] at key2
    clear ee
    refine z_sub [] rfl ?_
    exact key2
theorem dX13_downBy64_0 : decode cX13_downBy64 0 = .ok (.lload_n 0, 1) := by decide +kernel
theorem dX13_downBy64_1 : decode cX13_downBy64 1 = .ok (.lconst 0, 1) := by decide +kernel
theorem dX13_downBy64_2 : decode cX13_downBy64 2 = .ok (.lcmp, 1) := by decide +kernel
theorem dX13_downBy64_3 : decode cX13_downBy64 3 = .ok (.ifCond .lt 11, 3) := by decide +kernel
theorem dX13_downBy64_6 : decode cX13_downBy64 6 = .ok (.lload_n 0, 1) := by decide +kernel
theorem dX13_downBy64_7 : decode cX13_downBy64 7 = .ok (.ldc2_w 474, 3) := by decide +kernel
theorem dX13_downBy64_10 : decode cX13_downBy64 10 = .ok (.ldiv, 1) := by decide +kernel
theorem dX13_downBy64_11 : decode cX13_downBy64 11 = .ok (.goto 13, 3) := by decide +kernel
theorem dX13_downBy64_14 : decode cX13_downBy64 14 = .ok (.ldc2_w 476, 3) := by decide +kernel
theorem dX13_downBy64_17 : decode cX13_downBy64 17 = .ok (.lload_n 0, 1) := by decide +kernel
theorem dX13_downBy64_18 : decode cX13_downBy64 18 = .ok (.lsub, 1) := by decide +kernel
theorem dX13_downBy64_19 : decode cX13_downBy64 19 = .ok (.ldc2_w 474, 3) := by decide +kernel
theorem dX13_downBy64_22 : decode cX13_downBy64 22 = .ok (.ldiv, 1) := by decide +kernel
theorem dX13_downBy64_23 : decode cX13_downBy64 23 = .ok (.lneg, 1) := by decide +kernel
theorem dX13_downBy64_24 : decode cX13_downBy64 24 = .ok (.l2i, 1) := by decide +kernel
theorem dX13_downBy64_25 : decode cX13_downBy64 25 = .ok (.ireturn, 1) := by decide +kernel
set_option maxRecDepth 100000 in
set_option maxHeartbeats 4000000 in
theorem wp_X13_downBy64 {n0 d : Nat} {K : z_K} {I : z_I} {L : z_L} {Q : z_q} {p0 : Int64} (hL : MLay K) (h : (if p0 < 0 then Q (some (.int (((-((63 - p0) / 64)) : Int64).toInt32))) I L else Q (some (.int (((p0 / 64) : Int64).toInt32))) I L)) : RM0 n0 xX13_downBy64 d [.long p0] K I L Q := by
  refine z_entry0 (by decide) (Nat.le_of_ble_eq_true rfl) ?_
  change Z n0 xX13_downBy64 d 0 0 0 [(0, .long p0)] [] K I L (z_q0 K Q)
  refine z_lload_n 0 dX13_downBy64_0 rfl ?_
  refine z_lconst 0 dX13_downBy64_1 (by decide) ?_
  refine z_lif_lt 14 dX13_downBy64_2 dX13_downBy64_3 (by decide) (fun g1 => ?_) (fun g1 => ?_)
  · rw [if_pos g1] at h
    refine z_ldc2_w 63 dX13_downBy64_14 wg_1993 ?_
    refine z_lload_n 0 dX13_downBy64_17 rfl ?_
    refine z_lsub dX13_downBy64_18 ?_
    refine z_ldc2_w 64 dX13_downBy64_19 wg_1992 ?_
    refine z_ldiv dX13_downBy64_22 (by decide) ?_
    refine z_lneg dX13_downBy64_23 ?_
    refine z_l2i dX13_downBy64_24 ?_
    exact z_iret dX13_downBy64_25 rfl ⟨rfl, h⟩
  · rw [if_neg g1] at h
    refine z_lload_n 0 dX13_downBy64_6 rfl ?_
    refine z_ldc2_w 64 dX13_downBy64_7 wg_1992 ?_
    refine z_ldiv dX13_downBy64_10 (by decide) ?_
    refine z_goto 24 dX13_downBy64_11 (by decide) ?_
    refine z_l2i dX13_downBy64_24 ?_
    exact z_iret dX13_downBy64_25 rfl ⟨rfl, h⟩
theorem dX13_findWays_0 : decode cX13_findWays 0 = .ok (.aload_n 0, 1) := by decide +kernel
theorem dX13_findWays_1 : decode cX13_findWays 1 = .ok (.iconst 0, 1) := by decide +kernel
theorem dX13_findWays_2 : decode cX13_findWays 2 = .ok (.putfield 478, 3) := by decide +kernel
theorem dX13_findWays_5 : decode cX13_findWays 5 = .ok (.iconst 0, 1) := by decide +kernel
theorem dX13_findWays_6 : decode cX13_findWays 6 = .ok (.istore_n 2, 1) := by decide +kernel
theorem dX13_findWays_7 : decode cX13_findWays 7 = .ok (.iload_n 2, 1) := by decide +kernel
theorem dX13_findWays_8 : decode cX13_findWays 8 = .ok (.aload_n 0, 1) := by decide +kernel
theorem dX13_findWays_9 : decode cX13_findWays 9 = .ok (.getfield 31, 3) := by decide +kernel
theorem dX13_findWays_12 : decode cX13_findWays 12 = .ok (.iload_n 1, 1) := by decide +kernel
theorem dX13_findWays_13 : decode cX13_findWays 13 = .ok (.iaload, 1) := by decide +kernel
theorem dX13_findWays_14 : decode cX13_findWays 14 = .ok (.if_icmp .ge 294, 3) := by decide +kernel
theorem dX13_findWays_17 : decode cX13_findWays 17 = .ok (.aload_n 0, 1) := by decide +kernel
theorem dX13_findWays_18 : decode cX13_findWays 18 = .ok (.getfield 123, 3) := by decide +kernel
theorem dX13_findWays_21 : decode cX13_findWays 21 = .ok (.iload_n 2, 1) := by decide +kernel
theorem dX13_findWays_22 : decode cX13_findWays 22 = .ok (.aload_n 0, 1) := by decide +kernel
theorem dX13_findWays_23 : decode cX13_findWays 23 = .ok (.getfield 478, 3) := by decide +kernel
theorem dX13_findWays_26 : decode cX13_findWays 26 = .ok (.iastore, 1) := by decide +kernel
theorem dX13_findWays_27 : decode cX13_findWays 27 = .ok (.iload_n 2, 1) := by decide +kernel
theorem dX13_findWays_28 : decode cX13_findWays 28 = .ok (.iconst 1, 1) := by decide +kernel
theorem dX13_findWays_29 : decode cX13_findWays 29 = .ok (.iadd, 1) := by decide +kernel
theorem dX13_findWays_30 : decode cX13_findWays 30 = .ok (.aload_n 0, 1) := by decide +kernel
theorem dX13_findWays_31 : decode cX13_findWays 31 = .ok (.getfield 31, 3) := by decide +kernel
theorem dX13_findWays_34 : decode cX13_findWays 34 = .ok (.iload_n 1, 1) := by decide +kernel
theorem dX13_findWays_35 : decode cX13_findWays 35 = .ok (.iaload, 1) := by decide +kernel
theorem dX13_findWays_36 : decode cX13_findWays 36 = .ok (.if_icmp .ge 9, 3) := by decide +kernel
theorem dX13_findWays_39 : decode cX13_findWays 39 = .ok (.iload_n 2, 1) := by decide +kernel
theorem dX13_findWays_40 : decode cX13_findWays 40 = .ok (.iconst 1, 1) := by decide +kernel
theorem dX13_findWays_41 : decode cX13_findWays 41 = .ok (.iadd, 1) := by decide +kernel
theorem dX13_findWays_42 : decode cX13_findWays 42 = .ok (.goto 4, 3) := by decide +kernel
theorem dX13_findWays_45 : decode cX13_findWays 45 = .ok (.iconst 0, 1) := by decide +kernel
theorem dX13_findWays_46 : decode cX13_findWays 46 = .ok (.istore_n 3, 1) := by decide +kernel
theorem dX13_findWays_47 : decode cX13_findWays 47 = .ok (.aload_n 0, 1) := by decide +kernel
theorem dX13_findWays_48 : decode cX13_findWays 48 = .ok (.getfield 117, 3) := by decide +kernel
theorem dX13_findWays_51 : decode cX13_findWays 51 = .ok (.aload_n 0, 1) := by decide +kernel
theorem dX13_findWays_52 : decode cX13_findWays 52 = .ok (.getfield 478, 3) := by decide +kernel
theorem dX13_findWays_55 : decode cX13_findWays 55 = .ok (.aload_n 0, 1) := by decide +kernel
theorem dX13_findWays_56 : decode cX13_findWays 56 = .ok (.getfield 108, 3) := by decide +kernel
theorem dX13_findWays_59 : decode cX13_findWays 59 = .ok (.iload_n 2, 1) := by decide +kernel
theorem dX13_findWays_60 : decode cX13_findWays 60 = .ok (.iaload, 1) := by decide +kernel
theorem dX13_findWays_61 : decode cX13_findWays 61 = .ok (.iastore, 1) := by decide +kernel
theorem dX13_findWays_62 : decode cX13_findWays 62 = .ok (.aload_n 0, 1) := by decide +kernel
theorem dX13_findWays_63 : decode cX13_findWays 63 = .ok (.getfield 120, 3) := by decide +kernel
theorem dX13_findWays_66 : decode cX13_findWays 66 = .ok (.aload_n 0, 1) := by decide +kernel
theorem dX13_findWays_67 : decode cX13_findWays 67 = .ok (.getfield 478, 3) := by decide +kernel
theorem dX13_findWays_70 : decode cX13_findWays 70 = .ok (.aload_n 0, 1) := by decide +kernel
theorem dX13_findWays_71 : decode cX13_findWays 71 = .ok (.getfield 111, 3) := by decide +kernel
theorem dX13_findWays_74 : decode cX13_findWays 74 = .ok (.iload_n 2, 1) := by decide +kernel
theorem dX13_findWays_75 : decode cX13_findWays 75 = .ok (.iaload, 1) := by decide +kernel
theorem dX13_findWays_76 : decode cX13_findWays 76 = .ok (.iastore, 1) := by decide +kernel
theorem dX13_findWays_77 : decode cX13_findWays 77 = .ok (.aload_n 0, 1) := by decide +kernel
theorem dX13_findWays_78 : decode cX13_findWays 78 = .ok (.dup, 1) := by decide +kernel
theorem dX13_findWays_79 : decode cX13_findWays 79 = .ok (.getfield 478, 3) := by decide +kernel
theorem dX13_findWays_82 : decode cX13_findWays 82 = .ok (.iconst 1, 1) := by decide +kernel
theorem dX13_findWays_83 : decode cX13_findWays 83 = .ok (.iadd, 1) := by decide +kernel
theorem dX13_findWays_84 : decode cX13_findWays 84 = .ok (.putfield 478, 3) := by decide +kernel
theorem dX13_findWays_87 : decode cX13_findWays 87 = .ok (.aload_n 0, 1) := by decide +kernel
theorem dX13_findWays_88 : decode cX13_findWays 88 = .ok (.getfield 47, 3) := by decide +kernel
theorem dX13_findWays_91 : decode cX13_findWays 91 = .ok (.bipush 10, 2) := by decide +kernel
theorem dX13_findWays_93 : decode cX13_findWays 93 = .ok (.iload_n 1, 1) := by decide +kernel
theorem dX13_findWays_94 : decode cX13_findWays 94 = .ok (.imul, 1) := by decide +kernel
theorem dX13_findWays_95 : decode cX13_findWays 95 = .ok (.iload_n 2, 1) := by decide +kernel
theorem dX13_findWays_96 : decode cX13_findWays 96 = .ok (.iadd, 1) := by decide +kernel
theorem dX13_findWays_97 : decode cX13_findWays 97 = .ok (.baload, 1) := by decide +kernel
theorem dX13_findWays_98 : decode cX13_findWays 98 = .ok (.ifCond .eq 204, 3) := by decide +kernel
theorem dX13_findWays_101 : decode cX13_findWays 101 = .ok (.aload_n 0, 1) := by decide +kernel
theorem dX13_findWays_102 : decode cX13_findWays 102 = .ok (.getfield 108, 3) := by decide +kernel
theorem dX13_findWays_105 : decode cX13_findWays 105 = .ok (.iload_n 2, 1) := by decide +kernel
theorem dX13_findWays_106 : decode cX13_findWays 106 = .ok (.iaload, 1) := by decide +kernel
theorem dX13_findWays_107 : decode cX13_findWays 107 = .ok (.aload_n 0, 1) := by decide +kernel
theorem dX13_findWays_108 : decode cX13_findWays 108 = .ok (.getfield 108, 3) := by decide +kernel
theorem dX13_findWays_111 : decode cX13_findWays 111 = .ok (.iload_n 3, 1) := by decide +kernel
theorem dX13_findWays_112 : decode cX13_findWays 112 = .ok (.iaload, 1) := by decide +kernel
theorem dX13_findWays_113 : decode cX13_findWays 113 = .ok (.iadd, 1) := by decide +kernel
theorem dX13_findWays_114 : decode cX13_findWays 114 = .ok (.invokestatic 481, 3) := by decide +kernel
theorem dX13_findWays_117 : decode cX13_findWays 117 = .ok (.aload_n 0, 1) := by decide +kernel
theorem dX13_findWays_118 : decode cX13_findWays 118 = .ok (.getfield 50, 3) := by decide +kernel
theorem dX13_findWays_121 : decode cX13_findWays 121 = .ok (.bipush 10, 2) := by decide +kernel
theorem dX13_findWays_123 : decode cX13_findWays 123 = .ok (.iload_n 1, 1) := by decide +kernel
theorem dX13_findWays_124 : decode cX13_findWays 124 = .ok (.imul, 1) := by decide +kernel
theorem dX13_findWays_125 : decode cX13_findWays 125 = .ok (.iload_n 2, 1) := by decide +kernel
theorem dX13_findWays_126 : decode cX13_findWays 126 = .ok (.iadd, 1) := by decide +kernel
theorem dX13_findWays_127 : decode cX13_findWays 127 = .ok (.iaload, 1) := by decide +kernel
theorem dX13_findWays_128 : decode cX13_findWays 128 = .ok (.iadd, 1) := by decide +kernel
theorem dX13_findWays_129 : decode cX13_findWays 129 = .ok (.i2l, 1) := by decide +kernel
theorem dX13_findWays_130 : decode cX13_findWays 130 = .ok (.lstore 4, 2) := by decide +kernel
theorem dX13_findWays_132 : decode cX13_findWays 132 = .ok (.aload_n 0, 1) := by decide +kernel
theorem dX13_findWays_133 : decode cX13_findWays 133 = .ok (.getfield 111, 3) := by decide +kernel
theorem dX13_findWays_136 : decode cX13_findWays 136 = .ok (.iload_n 2, 1) := by decide +kernel
theorem dX13_findWays_137 : decode cX13_findWays 137 = .ok (.iaload, 1) := by decide +kernel
theorem dX13_findWays_138 : decode cX13_findWays 138 = .ok (.aload_n 0, 1) := by decide +kernel
theorem dX13_findWays_139 : decode cX13_findWays 139 = .ok (.getfield 111, 3) := by decide +kernel
theorem dX13_findWays_142 : decode cX13_findWays 142 = .ok (.iload_n 3, 1) := by decide +kernel
theorem dX13_findWays_143 : decode cX13_findWays 143 = .ok (.iaload, 1) := by decide +kernel
theorem dX13_findWays_144 : decode cX13_findWays 144 = .ok (.iadd, 1) := by decide +kernel
theorem dX13_findWays_145 : decode cX13_findWays 145 = .ok (.invokestatic 481, 3) := by decide +kernel
theorem dX13_findWays_148 : decode cX13_findWays 148 = .ok (.aload_n 0, 1) := by decide +kernel
theorem dX13_findWays_149 : decode cX13_findWays 149 = .ok (.getfield 53, 3) := by decide +kernel
theorem dX13_findWays_152 : decode cX13_findWays 152 = .ok (.bipush 10, 2) := by decide +kernel
theorem dX13_findWays_154 : decode cX13_findWays 154 = .ok (.iload_n 1, 1) := by decide +kernel
theorem dX13_findWays_155 : decode cX13_findWays 155 = .ok (.imul, 1) := by decide +kernel
theorem dX13_findWays_156 : decode cX13_findWays 156 = .ok (.iload_n 2, 1) := by decide +kernel
theorem dX13_findWays_157 : decode cX13_findWays 157 = .ok (.iadd, 1) := by decide +kernel
theorem dX13_findWays_158 : decode cX13_findWays 158 = .ok (.iaload, 1) := by decide +kernel
theorem dX13_findWays_159 : decode cX13_findWays 159 = .ok (.iadd, 1) := by decide +kernel
theorem dX13_findWays_160 : decode cX13_findWays 160 = .ok (.i2l, 1) := by decide +kernel
theorem dX13_findWays_161 : decode cX13_findWays 161 = .ok (.lstore 6, 2) := by decide +kernel
theorem dX13_findWays_163 : decode cX13_findWays 163 = .ok (.iconst 1, 1) := by decide +kernel
theorem dX13_findWays_164 : decode cX13_findWays 164 = .ok (.istore 8, 2) := by decide +kernel
theorem dX13_findWays_166 : decode cX13_findWays 166 = .ok (.iload 8, 2) := by decide +kernel
theorem dX13_findWays_168 : decode cX13_findWays 168 = .ok (.bipush 8, 2) := by decide +kernel
theorem dX13_findWays_170 : decode cX13_findWays 170 = .ok (.if_icmp .ge 132, 3) := by decide +kernel
theorem dX13_findWays_173 : decode cX13_findWays 173 = .ok (.bipush 8, 2) := by decide +kernel
theorem dX13_findWays_175 : decode cX13_findWays 175 = .ok (.iload 8, 2) := by decide +kernel
theorem dX13_findWays_177 : decode cX13_findWays 177 = .ok (.isub, 1) := by decide +kernel
theorem dX13_findWays_178 : decode cX13_findWays 178 = .ok (.bipush 8, 2) := by decide +kernel
theorem dX13_findWays_180 : decode cX13_findWays 180 = .ok (.iload 8, 2) := by decide +kernel
theorem dX13_findWays_182 : decode cX13_findWays 182 = .ok (.isub, 1) := by decide +kernel
theorem dX13_findWays_183 : decode cX13_findWays 183 = .ok (.imul, 1) := by decide +kernel
theorem dX13_findWays_184 : decode cX13_findWays 184 = .ok (.i2l, 1) := by decide +kernel
theorem dX13_findWays_185 : decode cX13_findWays 185 = .ok (.lstore 9, 2) := by decide +kernel
theorem dX13_findWays_187 : decode cX13_findWays 187 = .ok (.iconst 2, 1) := by decide +kernel
theorem dX13_findWays_188 : decode cX13_findWays 188 = .ok (.iload 8, 2) := by decide +kernel
theorem dX13_findWays_190 : decode cX13_findWays 190 = .ok (.imul, 1) := by decide +kernel
theorem dX13_findWays_191 : decode cX13_findWays 191 = .ok (.bipush 8, 2) := by decide +kernel
theorem dX13_findWays_193 : decode cX13_findWays 193 = .ok (.iload 8, 2) := by decide +kernel
theorem dX13_findWays_195 : decode cX13_findWays 195 = .ok (.isub, 1) := by decide +kernel
theorem dX13_findWays_196 : decode cX13_findWays 196 = .ok (.imul, 1) := by decide +kernel
theorem dX13_findWays_197 : decode cX13_findWays 197 = .ok (.i2l, 1) := by decide +kernel
theorem dX13_findWays_198 : decode cX13_findWays 198 = .ok (.lstore 11, 2) := by decide +kernel
theorem dX13_findWays_200 : decode cX13_findWays 200 = .ok (.iload 8, 2) := by decide +kernel
theorem dX13_findWays_202 : decode cX13_findWays 202 = .ok (.iload 8, 2) := by decide +kernel
theorem dX13_findWays_204 : decode cX13_findWays 204 = .ok (.imul, 1) := by decide +kernel
theorem dX13_findWays_205 : decode cX13_findWays 205 = .ok (.i2l, 1) := by decide +kernel
theorem dX13_findWays_206 : decode cX13_findWays 206 = .ok (.lstore 13, 2) := by decide +kernel
theorem dX13_findWays_208 : decode cX13_findWays 208 = .ok (.aload_n 0, 1) := by decide +kernel
theorem dX13_findWays_209 : decode cX13_findWays 209 = .ok (.getfield 117, 3) := by decide +kernel
theorem dX13_findWays_212 : decode cX13_findWays 212 = .ok (.aload_n 0, 1) := by decide +kernel
theorem dX13_findWays_213 : decode cX13_findWays 213 = .ok (.getfield 478, 3) := by decide +kernel
theorem dX13_findWays_216 : decode cX13_findWays 216 = .ok (.lload 9, 2) := by decide +kernel
theorem dX13_findWays_218 : decode cX13_findWays 218 = .ok (.aload_n 0, 1) := by decide +kernel
theorem dX13_findWays_219 : decode cX13_findWays 219 = .ok (.getfield 108, 3) := by decide +kernel
theorem dX13_findWays_222 : decode cX13_findWays 222 = .ok (.iload_n 2, 1) := by decide +kernel
theorem dX13_findWays_223 : decode cX13_findWays 223 = .ok (.iaload, 1) := by decide +kernel
theorem dX13_findWays_224 : decode cX13_findWays 224 = .ok (.i2l, 1) := by decide +kernel
theorem dX13_findWays_225 : decode cX13_findWays 225 = .ok (.lmul, 1) := by decide +kernel
theorem dX13_findWays_226 : decode cX13_findWays 226 = .ok (.lload 11, 2) := by decide +kernel
theorem dX13_findWays_228 : decode cX13_findWays 228 = .ok (.lload 4, 2) := by decide +kernel
theorem dX13_findWays_230 : decode cX13_findWays 230 = .ok (.lmul, 1) := by decide +kernel
theorem dX13_findWays_231 : decode cX13_findWays 231 = .ok (.ladd, 1) := by decide +kernel
theorem dX13_findWays_232 : decode cX13_findWays 232 = .ok (.lload 13, 2) := by decide +kernel
theorem dX13_findWays_234 : decode cX13_findWays 234 = .ok (.aload_n 0, 1) := by decide +kernel
theorem dX13_findWays_235 : decode cX13_findWays 235 = .ok (.getfield 108, 3) := by decide +kernel
theorem dX13_findWays_238 : decode cX13_findWays 238 = .ok (.iload_n 3, 1) := by decide +kernel
theorem dX13_findWays_239 : decode cX13_findWays 239 = .ok (.iaload, 1) := by decide +kernel
theorem dX13_findWays_240 : decode cX13_findWays 240 = .ok (.i2l, 1) := by decide +kernel
theorem dX13_findWays_241 : decode cX13_findWays 241 = .ok (.lmul, 1) := by decide +kernel
theorem dX13_findWays_242 : decode cX13_findWays 242 = .ok (.ladd, 1) := by decide +kernel
theorem dX13_findWays_243 : decode cX13_findWays 243 = .ok (.invokestatic 484, 3) := by decide +kernel
theorem dX13_findWays_246 : decode cX13_findWays 246 = .ok (.iastore, 1) := by decide +kernel
theorem dX13_findWays_247 : decode cX13_findWays 247 = .ok (.aload_n 0, 1) := by decide +kernel
theorem dX13_findWays_248 : decode cX13_findWays 248 = .ok (.getfield 120, 3) := by decide +kernel
theorem dX13_findWays_251 : decode cX13_findWays 251 = .ok (.aload_n 0, 1) := by decide +kernel
theorem dX13_findWays_252 : decode cX13_findWays 252 = .ok (.getfield 478, 3) := by decide +kernel
theorem dX13_findWays_255 : decode cX13_findWays 255 = .ok (.lload 9, 2) := by decide +kernel
theorem dX13_findWays_257 : decode cX13_findWays 257 = .ok (.aload_n 0, 1) := by decide +kernel
theorem dX13_findWays_258 : decode cX13_findWays 258 = .ok (.getfield 111, 3) := by decide +kernel
theorem dX13_findWays_261 : decode cX13_findWays 261 = .ok (.iload_n 2, 1) := by decide +kernel
theorem dX13_findWays_262 : decode cX13_findWays 262 = .ok (.iaload, 1) := by decide +kernel
theorem dX13_findWays_263 : decode cX13_findWays 263 = .ok (.i2l, 1) := by decide +kernel
theorem dX13_findWays_264 : decode cX13_findWays 264 = .ok (.lmul, 1) := by decide +kernel
theorem dX13_findWays_265 : decode cX13_findWays 265 = .ok (.lload 11, 2) := by decide +kernel
theorem dX13_findWays_267 : decode cX13_findWays 267 = .ok (.lload 6, 2) := by decide +kernel
theorem dX13_findWays_269 : decode cX13_findWays 269 = .ok (.lmul, 1) := by decide +kernel
theorem dX13_findWays_270 : decode cX13_findWays 270 = .ok (.ladd, 1) := by decide +kernel
theorem dX13_findWays_271 : decode cX13_findWays 271 = .ok (.lload 13, 2) := by decide +kernel
theorem dX13_findWays_273 : decode cX13_findWays 273 = .ok (.aload_n 0, 1) := by decide +kernel
theorem dX13_findWays_274 : decode cX13_findWays 274 = .ok (.getfield 111, 3) := by decide +kernel
theorem dX13_findWays_277 : decode cX13_findWays 277 = .ok (.iload_n 3, 1) := by decide +kernel
theorem dX13_findWays_278 : decode cX13_findWays 278 = .ok (.iaload, 1) := by decide +kernel
theorem dX13_findWays_279 : decode cX13_findWays 279 = .ok (.i2l, 1) := by decide +kernel
theorem dX13_findWays_280 : decode cX13_findWays 280 = .ok (.lmul, 1) := by decide +kernel
theorem dX13_findWays_281 : decode cX13_findWays 281 = .ok (.ladd, 1) := by decide +kernel
theorem dX13_findWays_282 : decode cX13_findWays 282 = .ok (.invokestatic 484, 3) := by decide +kernel
theorem dX13_findWays_285 : decode cX13_findWays 285 = .ok (.iastore, 1) := by decide +kernel
theorem dX13_findWays_286 : decode cX13_findWays 286 = .ok (.aload_n 0, 1) := by decide +kernel
theorem dX13_findWays_287 : decode cX13_findWays 287 = .ok (.dup, 1) := by decide +kernel
theorem dX13_findWays_288 : decode cX13_findWays 288 = .ok (.getfield 478, 3) := by decide +kernel
theorem dX13_findWays_291 : decode cX13_findWays 291 = .ok (.iconst 1, 1) := by decide +kernel
theorem dX13_findWays_292 : decode cX13_findWays 292 = .ok (.iadd, 1) := by decide +kernel
theorem dX13_findWays_293 : decode cX13_findWays 293 = .ok (.putfield 478, 3) := by decide +kernel
theorem dX13_findWays_296 : decode cX13_findWays 296 = .ok (.iinc 8 1, 3) := by decide +kernel
theorem dX13_findWays_299 : decode cX13_findWays 299 = .ok (.goto (-133), 3) := by decide +kernel
theorem dX13_findWays_302 : decode cX13_findWays 302 = .ok (.iinc 2 1, 3) := by decide +kernel
theorem dX13_findWays_305 : decode cX13_findWays 305 = .ok (.goto (-298), 3) := by decide +kernel
theorem dX13_findWays_308 : decode cX13_findWays 308 = .ok (.aload_n 0, 1) := by decide +kernel
theorem dX13_findWays_309 : decode cX13_findWays 309 = .ok (.getfield 123, 3) := by decide +kernel
theorem dX13_findWays_312 : decode cX13_findWays 312 = .ok (.aload_n 0, 1) := by decide +kernel
theorem dX13_findWays_313 : decode cX13_findWays 313 = .ok (.getfield 31, 3) := by decide +kernel
theorem dX13_findWays_316 : decode cX13_findWays 316 = .ok (.iload_n 1, 1) := by decide +kernel
theorem dX13_findWays_317 : decode cX13_findWays 317 = .ok (.iaload, 1) := by decide +kernel
theorem dX13_findWays_318 : decode cX13_findWays 318 = .ok (.aload_n 0, 1) := by decide +kernel
theorem dX13_findWays_319 : decode cX13_findWays 319 = .ok (.getfield 478, 3) := by decide +kernel
theorem dX13_findWays_322 : decode cX13_findWays 322 = .ok (.iastore, 1) := by decide +kernel
theorem dX13_findWays_323 : decode cX13_findWays 323 = .ok (.aload_n 0, 1) := by decide +kernel
theorem dX13_findWays_324 : decode cX13_findWays 324 = .ok (.getfield 117, 3) := by decide +kernel
theorem dX13_findWays_327 : decode cX13_findWays 327 = .ok (.aload_n 0, 1) := by decide +kernel
theorem dX13_findWays_328 : decode cX13_findWays 328 = .ok (.getfield 478, 3) := by decide +kernel
theorem dX13_findWays_331 : decode cX13_findWays 331 = .ok (.aload_n 0, 1) := by decide +kernel
theorem dX13_findWays_332 : decode cX13_findWays 332 = .ok (.getfield 108, 3) := by decide +kernel
theorem dX13_findWays_335 : decode cX13_findWays 335 = .ok (.iconst 0, 1) := by decide +kernel
theorem dX13_findWays_336 : decode cX13_findWays 336 = .ok (.iaload, 1) := by decide +kernel
theorem dX13_findWays_337 : decode cX13_findWays 337 = .ok (.iastore, 1) := by decide +kernel
theorem dX13_findWays_338 : decode cX13_findWays 338 = .ok (.aload_n 0, 1) := by decide +kernel
theorem dX13_findWays_339 : decode cX13_findWays 339 = .ok (.getfield 120, 3) := by decide +kernel
theorem dX13_findWays_342 : decode cX13_findWays 342 = .ok (.aload_n 0, 1) := by decide +kernel
theorem dX13_findWays_343 : decode cX13_findWays 343 = .ok (.getfield 478, 3) := by decide +kernel
theorem dX13_findWays_346 : decode cX13_findWays 346 = .ok (.aload_n 0, 1) := by decide +kernel
theorem dX13_findWays_347 : decode cX13_findWays 347 = .ok (.getfield 111, 3) := by decide +kernel
theorem dX13_findWays_350 : decode cX13_findWays 350 = .ok (.iconst 0, 1) := by decide +kernel
theorem dX13_findWays_351 : decode cX13_findWays 351 = .ok (.iaload, 1) := by decide +kernel
theorem dX13_findWays_352 : decode cX13_findWays 352 = .ok (.iastore, 1) := by decide +kernel
theorem dX13_findWays_353 : decode cX13_findWays 353 = .ok (.return_, 1) := by decide +kernel
set_option maxRecDepth 100000 in
set_option maxHeartbeats 4000000 in
theorem wp_X13_findWays {n0 d : Nat} {K : z_K} {I : z_I} {L : z_L} {Q : z_q} {p0 : Int32} (hL : MLay K) (h : Z n0 xX13_findWays (d + 1) 0 0 7 [(0, .ref (n0 + 59)), (1, .int p0), (2, .int 0)] [] K (zI I 59 61 0) L (z_q0 K Q)) : RM0 n0 xX13_findWays (d + 1) [.ref (n0 + 59), .int p0] K I L Q := by
  refine z_entry0 (by decide) (Nat.le_of_ble_eq_true rfl) ?_
  change Z n0 xX13_findWays (d + 1) 0 0 0 [(0, .ref (n0 + 59)), (1, .int p0)] [] K I L (z_q0 K Q)
  refine z_aload_n 0 dX13_findWays_0 rfl ?_
  refine z_iconst 0 dX13_findWays_1 (by decide) ?_
  refine fp_13_478 rfl dX13_findWays_2 hL.1 hL.2.1 ?_
  refine z_iconst 0 dX13_findWays_5 (by decide) ?_
  refine z_istore_n [1, 2, 0] [(0, .ref (n0 + 59)), (1, .int p0), (2, .int 0)] dX13_findWays_6 (by decide) rfl ?_
  exact h
set_option maxRecDepth 100000 in
set_option maxHeartbeats 4000000 in
theorem wp_X13_findWays_7 {n0 d : Nat} {rc rs : Nat} {K : z_K} {I : z_I} {L : z_L} {Q : z_q} {a1 : Int32} {a2 : Int32} (hL : MLay K) (h : vp_in a1 16 ∧ (if a2 < (I 67 a1.toNatClampNeg) then vp_in a2 11 ∧ vp_in a2 10 ∧ vp_in (I 59 61) 81 ∧ vp_in ((10 * a1) + a2) 160 ∧ (if ((I 72 (((10 * a1) + a2).toNatClampNeg)) : Int32) = 0 then Z n0 xX13_findWays (d + 1) rc rs 7 [(0, .ref (n0 + 59)), (1, .int a1), (2, .int (a2 + 1))] [] K (zI (zI (zI (zI I 97 a2.toNatClampNeg (I 59 61)) 95 ((I 59 61).toNatClampNeg) (I 92 a2.toNatClampNeg)) 96 ((I 59 61).toNatClampNeg) (I 93 a2.toNatClampNeg)) 59 61 ((I 59 61) + 1)) L (z_q0 K Q) else vp_in (if ((a2 + 1) : Int32) < (I 67 a1.toNatClampNeg) then (a2 + 1) else 0) 10 ∧ RM0 n0 xX13_halfDown d [.int ((I 92 a2.toNatClampNeg) + (I 92 ((if ((a2 + 1) : Int32) < (I 67 a1.toNatClampNeg) then (a2 + 1) else 0).toNatClampNeg)))] K (zI (zI (zI (zI I 97 a2.toNatClampNeg (I 59 61)) 95 ((I 59 61).toNatClampNeg) (I 92 a2.toNatClampNeg)) 96 ((I 59 61).toNatClampNeg) (I 93 a2.toNatClampNeg)) 59 61 ((I 59 61) + 1)) L (fun vv I13 L14 => ∃ r15 : Int32, vv = some (.int r15) ∧ RM0 n0 xX13_halfDown d [.int ((I13 93 a2.toNatClampNeg) + (I13 93 ((if ((a2 + 1) : Int32) < (I 67 a1.toNatClampNeg) then (a2 + 1) else 0).toNatClampNeg)))] K I13 L14 (fun vv I16 L17 => ∃ r18 : Int32, vv = some (.int r18) ∧ Z n0 xX13_findWays (d + 1) rc rs 166 [(0, .ref (n0 + 59)), (1, .int a1), (2, .int a2), (3, .int (if ((a2 + 1) : Int32) < (I 67 a1.toNatClampNeg) then (a2 + 1) else 0)), (4, .long (((r15 + (I13 73 (((10 * a1) + a2).toNatClampNeg))) : Int32).toInt64)), (6, .long (((r18 + (I16 74 (((10 * a1) + a2).toNatClampNeg))) : Int32).toInt64)), (8, .int 1)] [] K I16 L17 (z_q0 K Q)))) else vp_in (I 67 a1.toNatClampNeg) 11 ∧ vp_in (I 59 61) 81 ∧ Q none (zI (zI (zI I 97 ((I 67 a1.toNatClampNeg).toNatClampNeg) (I 59 61)) 95 ((I 59 61).toNatClampNeg) (I 92 0)) 96 ((I 59 61).toNatClampNeg) (I 93 0)) L)) : Z n0 xX13_findWays (d + 1) rc rs 7 [(0, .ref (n0 + 59)), (1, .int a1), (2, .int a2)] [] K I L (z_q0 K Q) := by
  refine z_iload_n 2 dX13_findWays_7 rfl ?_
  refine z_aload_n 0 dX13_findWays_8 rfl ?_
  refine fg_13_31 (some 67) rfl dX13_findWays_9 hL.1 hL.2.1 (ma_11 hL).1 ?_
  refine z_iload_n 1 dX13_findWays_12 rfl ?_
  obtain ⟨o1, h⟩ := h
  refine z_iald (I 67 a1.toNatClampNeg) dX13_findWays_13 (ma_11 hL).2.1 (ma_11 hL).2.2 o1 rfl ?_
  refine z_icmp_ge 308 dX13_findWays_14 (by decide) (fun g2 => ?_) (fun g2 => ?_)
  · rw [if_neg g2] at h
    refine z_aload_n 0 dX13_findWays_308 rfl ?_
    refine fg_13_123 (some 97) rfl dX13_findWays_309 hL.1 hL.2.1 (ma_60 hL).1 ?_
    refine z_aload_n 0 dX13_findWays_312 rfl ?_
    refine fg_13_31 (some 67) rfl dX13_findWays_313 hL.1 hL.2.1 (ma_11 hL).1 ?_
    refine z_iload_n 1 dX13_findWays_316 rfl ?_
    refine z_iald (I 67 a1.toNatClampNeg) dX13_findWays_317 (ma_11 hL).2.1 (ma_11 hL).2.2 o1 rfl ?_
    refine z_aload_n 0 dX13_findWays_318 rfl ?_
    refine fg_13_478 (I 59 61) rfl dX13_findWays_319 hL.1 hL.2.1 rfl ?_
    obtain ⟨o3, h⟩ := h
    refine z_iast dX13_findWays_322 (ma_60 hL).2.1 (ma_60 hL).2.2 o3 ?_
    refine z_aload_n 0 dX13_findWays_323 rfl ?_
    refine fg_13_117 (some 95) rfl dX13_findWays_324 hL.1 hL.2.1 (ma_58 hL).1 ?_
    refine z_aload_n 0 dX13_findWays_327 rfl ?_
    refine fg_13_478 (I 59 61) rfl dX13_findWays_328 hL.1 hL.2.1 rfl ?_
    refine z_aload_n 0 dX13_findWays_331 rfl ?_
    refine fg_13_108 (some 92) rfl dX13_findWays_332 hL.1 hL.2.1 (ma_54 hL).1 ?_
    refine z_iconst 0 dX13_findWays_335 (by decide) ?_
    refine z_iald (I 92 0) dX13_findWays_336 (ma_54 hL).2.1 (ma_54 hL).2.2 (by unfold vp_in; decide) rfl ?_
    obtain ⟨o4, h⟩ := h
    refine z_iast dX13_findWays_337 (ma_58 hL).2.1 (ma_58 hL).2.2 o4 ?_
    refine z_aload_n 0 dX13_findWays_338 rfl ?_
    refine fg_13_120 (some 96) rfl dX13_findWays_339 hL.1 hL.2.1 (ma_59 hL).1 ?_
    refine z_aload_n 0 dX13_findWays_342 rfl ?_
    refine fg_13_478 (I 59 61) rfl dX13_findWays_343 hL.1 hL.2.1 rfl ?_
    refine z_aload_n 0 dX13_findWays_346 rfl ?_
    refine fg_13_111 (some 93) rfl dX13_findWays_347 hL.1 hL.2.1 (ma_55 hL).1 ?_
    refine z_iconst 0 dX13_findWays_350 (by decide) ?_
    refine z_iald (I 93 0) dX13_findWays_351 (ma_55 hL).2.1 (ma_55 hL).2.2 (by unfold vp_in; decide) rfl ?_
    refine z_iast dX13_findWays_352 (ma_59 hL).2.1 (ma_59 hL).2.2 o4 ?_
    exact z_vret dX13_findWays_353 rfl ⟨rfl, h⟩
  · rw [if_pos g2] at h
    refine z_aload_n 0 dX13_findWays_17 rfl ?_
    refine fg_13_123 (some 97) rfl dX13_findWays_18 hL.1 hL.2.1 (ma_60 hL).1 ?_
    refine z_iload_n 2 dX13_findWays_21 rfl ?_
    refine z_aload_n 0 dX13_findWays_22 rfl ?_
    refine fg_13_478 (I 59 61) rfl dX13_findWays_23 hL.1 hL.2.1 rfl ?_
    obtain ⟨o5, h⟩ := h
    refine z_iast dX13_findWays_26 (ma_60 hL).2.1 (ma_60 hL).2.2 o5 ?_
    refine z_iload_n 2 dX13_findWays_27 rfl ?_
    refine z_iconst 1 dX13_findWays_28 (by decide) ?_
    refine z_iadd dX13_findWays_29 ?_
    refine z_aload_n 0 dX13_findWays_30 rfl ?_
    refine fg_13_31 (some 67) rfl dX13_findWays_31 hL.1 hL.2.1 (ma_11 hL).1 ?_
    refine z_iload_n 1 dX13_findWays_34 rfl ?_
    refine z_iald (I 67 a1.toNatClampNeg) dX13_findWays_35 (ma_11 hL).2.1 (ma_11 hL).2.2 o1 rfl ?_
    have key7 : Z n0 xX13_findWays (d + 1) rc rs 46 [(0, .ref (n0 + 59)), (1, .int a1), (2, .int a2)] [.int (if ((a2 + 1) : Int32) < (I 67 a1.toNatClampNeg) then (a2 + 1) else 0)] K (zI I 97 a2.toNatClampNeg (I 59 61)) L (z_q0 K Q) := by
      refine z_istore_n [1, 2, 3, 0] [(0, .ref (n0 + 59)), (1, .int a1), (2, .int a2), (3, .int (if ((a2 + 1) : Int32) < (I 67 a1.toNatClampNeg) then (a2 + 1) else 0))] dX13_findWays_46 (by decide) rfl ?_
      refine z_aload_n 0 dX13_findWays_47 rfl ?_
      refine fg_13_117 (some 95) rfl dX13_findWays_48 hL.1 hL.2.1 (ma_58 hL).1 ?_
      refine z_aload_n 0 dX13_findWays_51 rfl ?_
      refine fg_13_478 (I 59 61) rfl dX13_findWays_52 hL.1 hL.2.1 rfl ?_
      refine z_aload_n 0 dX13_findWays_55 rfl ?_
      refine fg_13_108 (some 92) rfl dX13_findWays_56 hL.1 hL.2.1 (ma_54 hL).1 ?_
      refine z_iload_n 2 dX13_findWays_59 rfl ?_
      obtain ⟨o8, h⟩ := h
      refine z_iald (I 92 a2.toNatClampNeg) dX13_findWays_60 (ma_54 hL).2.1 (ma_54 hL).2.2 o8 rfl ?_
      obtain ⟨o9, h⟩ := h
      refine z_iast dX13_findWays_61 (ma_58 hL).2.1 (ma_58 hL).2.2 o9 ?_
      refine z_aload_n 0 dX13_findWays_62 rfl ?_
      refine fg_13_120 (some 96) rfl dX13_findWays_63 hL.1 hL.2.1 (ma_59 hL).1 ?_
      refine z_aload_n 0 dX13_findWays_66 rfl ?_
      refine fg_13_478 (I 59 61) rfl dX13_findWays_67 hL.1 hL.2.1 rfl ?_
      refine z_aload_n 0 dX13_findWays_70 rfl ?_
      refine fg_13_111 (some 93) rfl dX13_findWays_71 hL.1 hL.2.1 (ma_55 hL).1 ?_
      refine z_iload_n 2 dX13_findWays_74 rfl ?_
      refine z_iald (I 93 a2.toNatClampNeg) dX13_findWays_75 (ma_55 hL).2.1 (ma_55 hL).2.2 o8 rfl ?_
      refine z_iast dX13_findWays_76 (ma_59 hL).2.1 (ma_59 hL).2.2 o9 ?_
      refine z_aload_n 0 dX13_findWays_77 rfl ?_
      refine z_dup dX13_findWays_78 rfl ?_
      refine fg_13_478 (I 59 61) rfl dX13_findWays_79 hL.1 hL.2.1 rfl ?_
      refine z_iconst 1 dX13_findWays_82 (by decide) ?_
      refine z_iadd dX13_findWays_83 ?_
      refine fp_13_478 rfl dX13_findWays_84 hL.1 hL.2.1 ?_
      refine z_aload_n 0 dX13_findWays_87 rfl ?_
      refine fg_13_47 (some 72) rfl dX13_findWays_88 hL.1 hL.2.1 (ma_16 hL).1 ?_
      refine z_bipush 10 dX13_findWays_91 (by decide) ?_
      refine z_iload_n 1 dX13_findWays_93 rfl ?_
      refine z_imul dX13_findWays_94 ?_
      refine z_iload_n 2 dX13_findWays_95 rfl ?_
      refine z_iadd dX13_findWays_96 ?_
      obtain ⟨o10, h⟩ := h
      refine z_zald (I 72 (((10 * a1) + a2).toNatClampNeg)) dX13_findWays_97 (ma_16 hL).2.1 (ma_16 hL).2.2 o10 rfl ?_
      refine z_if_eq 302 dX13_findWays_98 (by decide) (fun g11 => ?_) (fun g11 => ?_)
      · rw [if_pos g11] at h
        refine z_iinc (j := 2) (a2 + 1) [1, 2, 0, 3] [(0, .ref (n0 + 59)), (1, .int a1), (2, .int (a2 + 1)), (3, .int (if ((a2 + 1) : Int32) < (I 67 a1.toNatClampNeg) then (a2 + 1) else 0))] dX13_findWays_302 rfl rfl (by decide) rfl ?_
        refine z_goto 7 dX13_findWays_305 (by decide) ?_
        refine z_sub [0, 1, 2] rfl ?_
        exact h
      · rw [if_neg g11] at h
        refine z_aload_n 0 dX13_findWays_101 rfl ?_
        refine fg_13_108 (some 92) rfl dX13_findWays_102 hL.1 hL.2.1 (ma_54 hL).1 ?_
        refine z_iload_n 2 dX13_findWays_105 rfl ?_
        refine z_iald (I 92 a2.toNatClampNeg) dX13_findWays_106 (ma_54 hL).2.1 (ma_54 hL).2.2 o8 rfl ?_
        refine z_aload_n 0 dX13_findWays_107 rfl ?_
        refine fg_13_108 (some 92) rfl dX13_findWays_108 hL.1 hL.2.1 (ma_54 hL).1 ?_
        refine z_iload_n 3 dX13_findWays_111 rfl ?_
        obtain ⟨o12, h⟩ := h
        refine z_iald (I 92 ((if ((a2 + 1) : Int32) < (I 67 a1.toNatClampNeg) then (a2 + 1) else 0).toNatClampNeg)) dX13_findWays_112 (ma_54 hL).2.1 (ma_54 hL).2.2 o12 rfl ?_
        refine z_iadd dX13_findWays_113 ?_
        refine z_callS0 (As := [.int ((I 92 a2.toNatClampNeg) + (I 92 ((if ((a2 + 1) : Int32) < (I 67 a1.toNatClampNeg) then (a2 + 1) else 0).toNatClampNeg)))]) (st := []) dX13_findWays_114 hy_X13_halfDown wg_1986 wg_1987 (Nat.le_refl _) (Nat.le_of_ble_eq_true rfl) (RM0.mono h (fun vv I13 L14 h => ?_))
        obtain ⟨r15, rfl, h⟩ := h
        change Z n0 xX13_findWays (d + 1) rc rs 117 [(0, .ref (n0 + 59)), (1, .int a1), (2, .int a2), (3, .int (if ((a2 + 1) : Int32) < (I 67 a1.toNatClampNeg) then (a2 + 1) else 0))] [.int r15] K I13 L14 (z_q0 K Q)
        refine z_aload_n 0 dX13_findWays_117 rfl ?_
        refine fg_13_50 (some 73) rfl dX13_findWays_118 hL.1 hL.2.1 (ma_17 hL).1 ?_
        refine z_bipush 10 dX13_findWays_121 (by decide) ?_
        refine z_iload_n 1 dX13_findWays_123 rfl ?_
        refine z_imul dX13_findWays_124 ?_
        refine z_iload_n 2 dX13_findWays_125 rfl ?_
        refine z_iadd dX13_findWays_126 ?_
        refine z_iald (I13 73 (((10 * a1) + a2).toNatClampNeg)) dX13_findWays_127 (ma_17 hL).2.1 (ma_17 hL).2.2 o10 rfl ?_
        refine z_iadd dX13_findWays_128 ?_
        refine z_i2l dX13_findWays_129 ?_
        refine z_lstore [1, 2, 3, 4, 0] [(0, .ref (n0 + 59)), (1, .int a1), (2, .int a2), (3, .int (if ((a2 + 1) : Int32) < (I 67 a1.toNatClampNeg) then (a2 + 1) else 0)), (4, .long (((r15 + (I13 73 (((10 * a1) + a2).toNatClampNeg))) : Int32).toInt64))] dX13_findWays_130 (by decide) rfl ?_
        refine z_aload_n 0 dX13_findWays_132 rfl ?_
        refine fg_13_111 (some 93) rfl dX13_findWays_133 hL.1 hL.2.1 (ma_55 hL).1 ?_
        refine z_iload_n 2 dX13_findWays_136 rfl ?_
        refine z_iald (I13 93 a2.toNatClampNeg) dX13_findWays_137 (ma_55 hL).2.1 (ma_55 hL).2.2 o8 rfl ?_
        refine z_aload_n 0 dX13_findWays_138 rfl ?_
        refine fg_13_111 (some 93) rfl dX13_findWays_139 hL.1 hL.2.1 (ma_55 hL).1 ?_
        refine z_iload_n 3 dX13_findWays_142 rfl ?_
        refine z_iald (I13 93 ((if ((a2 + 1) : Int32) < (I 67 a1.toNatClampNeg) then (a2 + 1) else 0).toNatClampNeg)) dX13_findWays_143 (ma_55 hL).2.1 (ma_55 hL).2.2 o12 rfl ?_
        refine z_iadd dX13_findWays_144 ?_
        refine z_callS0 (As := [.int ((I13 93 a2.toNatClampNeg) + (I13 93 ((if ((a2 + 1) : Int32) < (I 67 a1.toNatClampNeg) then (a2 + 1) else 0).toNatClampNeg)))]) (st := []) dX13_findWays_145 hy_X13_halfDown wg_1986 wg_1987 (Nat.le_refl _) (Nat.le_of_ble_eq_true rfl) (RM0.mono h (fun vv I16 L17 h => ?_))
        obtain ⟨r18, rfl, h⟩ := h
        change Z n0 xX13_findWays (d + 1) rc rs 148 [(0, .ref (n0 + 59)), (1, .int a1), (2, .int a2), (3, .int (if ((a2 + 1) : Int32) < (I 67 a1.toNatClampNeg) then (a2 + 1) else 0)), (4, .long (((r15 + (I13 73 (((10 * a1) + a2).toNatClampNeg))) : Int32).toInt64))] [.int r18] K I16 L17 (z_q0 K Q)
        refine z_aload_n 0 dX13_findWays_148 rfl ?_
        refine fg_13_53 (some 74) rfl dX13_findWays_149 hL.1 hL.2.1 (ma_18 hL).1 ?_
        refine z_bipush 10 dX13_findWays_152 (by decide) ?_
        refine z_iload_n 1 dX13_findWays_154 rfl ?_
        refine z_imul dX13_findWays_155 ?_
        refine z_iload_n 2 dX13_findWays_156 rfl ?_
        refine z_iadd dX13_findWays_157 ?_
        refine z_iald (I16 74 (((10 * a1) + a2).toNatClampNeg)) dX13_findWays_158 (ma_18 hL).2.1 (ma_18 hL).2.2 o10 rfl ?_
        refine z_iadd dX13_findWays_159 ?_
        refine z_i2l dX13_findWays_160 ?_
        refine z_lstore [1, 2, 3, 4, 5, 0] [(0, .ref (n0 + 59)), (1, .int a1), (2, .int a2), (3, .int (if ((a2 + 1) : Int32) < (I 67 a1.toNatClampNeg) then (a2 + 1) else 0)), (4, .long (((r15 + (I13 73 (((10 * a1) + a2).toNatClampNeg))) : Int32).toInt64)), (6, .long (((r18 + (I16 74 (((10 * a1) + a2).toNatClampNeg))) : Int32).toInt64))] dX13_findWays_161 (by decide) rfl ?_
        refine z_iconst 1 dX13_findWays_163 (by decide) ?_
        refine z_istore [1, 2, 3, 4, 5, 6, 0] [(0, .ref (n0 + 59)), (1, .int a1), (2, .int a2), (3, .int (if ((a2 + 1) : Int32) < (I 67 a1.toNatClampNeg) then (a2 + 1) else 0)), (4, .long (((r15 + (I13 73 (((10 * a1) + a2).toNatClampNeg))) : Int32).toInt64)), (6, .long (((r18 + (I16 74 (((10 * a1) + a2).toNatClampNeg))) : Int32).toInt64)), (8, .int 1)] dX13_findWays_164 (by decide) rfl ?_
        exact h
    refine z_icmp_ge 45 dX13_findWays_36 (by decide) (fun g6 => ?_) (fun g6 => ?_)
    · refine z_iconst 0 dX13_findWays_45 (by decide) ?_
      have ee : ((if ((a2 + 1) : Int32) < (I 67 a1.toNatClampNeg) then (a2 + 1) else 0) : Int32) = 0 := by rw [if_neg g6]
      rw [ee] at key7
      clear ee
      exact key7
    · refine z_iload_n 2 dX13_findWays_39 rfl ?_
      refine z_iconst 1 dX13_findWays_40 (by decide) ?_
      refine z_iadd dX13_findWays_41 ?_
      refine z_goto 46 dX13_findWays_42 (by decide) ?_
      have ee : ((if ((a2 + 1) : Int32) < (I 67 a1.toNatClampNeg) then (a2 + 1) else 0) : Int32) = (a2 + 1) := by rw [if_pos g6]
      rw [ee] at key7
      clear ee
      exact key7
set_option maxRecDepth 100000 in
set_option maxHeartbeats 4000000 in
theorem wp_X13_findWays_166 {n0 d : Nat} {rc rs : Nat} {K : z_K} {I : z_I} {L : z_L} {Q : z_q} {a1 : Int32} {a2 : Int32} {a3 : Int32} {a4 : Int64} {a6 : Int64} {a8 : Int32} (hL : MLay K) (h : (if a8 < 8 then vp_in a2 10 ∧ vp_in a3 10 ∧ RM0 n0 xX13_downBy64 d [.long (((((((8 - a8) * (8 - a8)) : Int32).toInt64) * (((I 92 a2.toNatClampNeg) : Int32).toInt64)) + (((((2 * a8) * (8 - a8)) : Int32).toInt64) * a4)) + ((((a8 * a8) : Int32).toInt64) * (((I 92 a3.toNatClampNeg) : Int32).toInt64)))] K I L (fun vv I4 L5 => ∃ r6 : Int32, vv = some (.int r6) ∧ vp_in (I 59 61) 81 ∧ RM0 n0 xX13_downBy64 d [.long (((((((8 - a8) * (8 - a8)) : Int32).toInt64) * (((I4 93 a2.toNatClampNeg) : Int32).toInt64)) + (((((2 * a8) * (8 - a8)) : Int32).toInt64) * a6)) + ((((a8 * a8) : Int32).toInt64) * (((I4 93 a3.toNatClampNeg) : Int32).toInt64)))] K (zI I4 95 ((I 59 61).toNatClampNeg) r6) L5 (fun vv I8 L9 => ∃ r10 : Int32, vv = some (.int r10) ∧ vp_in (I4 59 61) 81 ∧ Z n0 xX13_findWays (d + 1) rc rs 166 [(0, .ref (n0 + 59)), (1, .int a1), (2, .int a2), (3, .int a3), (4, .long a4), (6, .long a6), (8, .int (a8 + 1))] [] K (zI (zI I8 96 ((I4 59 61).toNatClampNeg) r10) 59 61 ((I8 59 61) + 1)) L9 (z_q0 K Q))) else Z n0 xX13_findWays (d + 1) rc rs 7 [(0, .ref (n0 + 59)), (1, .int a1), (2, .int (a2 + 1))] [] K I L (z_q0 K Q))) : Z n0 xX13_findWays (d + 1) rc rs 166 [(0, .ref (n0 + 59)), (1, .int a1), (2, .int a2), (3, .int a3), (4, .long a4), (6, .long a6), (8, .int a8)] [] K I L (z_q0 K Q) := by
  refine z_iload 6 dX13_findWays_166 rfl ?_
  refine z_bipush 8 dX13_findWays_168 (by decide) ?_
  refine z_icmp_ge 302 dX13_findWays_170 (by decide) (fun g1 => ?_) (fun g1 => ?_)
  · rw [if_neg g1] at h
    refine z_iinc (j := 2) (a2 + 1) [1, 2, 0, 3, 4, 5, 6] [(0, .ref (n0 + 59)), (1, .int a1), (2, .int (a2 + 1)), (3, .int a3), (4, .long a4), (6, .long a6), (8, .int a8)] dX13_findWays_302 rfl rfl (by decide) rfl ?_
    refine z_goto 7 dX13_findWays_305 (by decide) ?_
    refine z_sub [0, 1, 2] rfl ?_
    exact h
  · rw [if_pos g1] at h
    refine z_bipush 8 dX13_findWays_173 (by decide) ?_
    refine z_iload 6 dX13_findWays_175 rfl ?_
    refine z_isub dX13_findWays_177 ?_
    refine z_bipush 8 dX13_findWays_178 (by decide) ?_
    refine z_iload 6 dX13_findWays_180 rfl ?_
    refine z_isub dX13_findWays_182 ?_
    refine z_imul dX13_findWays_183 ?_
    refine z_i2l dX13_findWays_184 ?_
    refine z_lstore [1, 2, 3, 4, 5, 6, 7, 0] [(0, .ref (n0 + 59)), (1, .int a1), (2, .int a2), (3, .int a3), (4, .long a4), (6, .long a6), (8, .int a8), (9, .long ((((8 - a8) * (8 - a8)) : Int32).toInt64))] dX13_findWays_185 (by decide) rfl ?_
    refine z_iconst 2 dX13_findWays_187 (by decide) ?_
    refine z_iload 6 dX13_findWays_188 rfl ?_
    refine z_imul dX13_findWays_190 ?_
    refine z_bipush 8 dX13_findWays_191 (by decide) ?_
    refine z_iload 6 dX13_findWays_193 rfl ?_
    refine z_isub dX13_findWays_195 ?_
    refine z_imul dX13_findWays_196 ?_
    refine z_i2l dX13_findWays_197 ?_
    refine z_lstore [1, 2, 3, 4, 5, 6, 7, 8, 0] [(0, .ref (n0 + 59)), (1, .int a1), (2, .int a2), (3, .int a3), (4, .long a4), (6, .long a6), (8, .int a8), (9, .long ((((8 - a8) * (8 - a8)) : Int32).toInt64)), (11, .long ((((2 * a8) * (8 - a8)) : Int32).toInt64))] dX13_findWays_198 (by decide) rfl ?_
    refine z_iload 6 dX13_findWays_200 rfl ?_
    refine z_iload 6 dX13_findWays_202 rfl ?_
    refine z_imul dX13_findWays_204 ?_
    refine z_i2l dX13_findWays_205 ?_
    refine z_lstore [1, 2, 3, 4, 5, 6, 7, 8, 9, 0] [(0, .ref (n0 + 59)), (1, .int a1), (2, .int a2), (3, .int a3), (4, .long a4), (6, .long a6), (8, .int a8), (9, .long ((((8 - a8) * (8 - a8)) : Int32).toInt64)), (11, .long ((((2 * a8) * (8 - a8)) : Int32).toInt64)), (13, .long (((a8 * a8) : Int32).toInt64))] dX13_findWays_206 (by decide) rfl ?_
    refine z_aload_n 0 dX13_findWays_208 rfl ?_
    refine fg_13_117 (some 95) rfl dX13_findWays_209 hL.1 hL.2.1 (ma_58 hL).1 ?_
    refine z_aload_n 0 dX13_findWays_212 rfl ?_
    refine fg_13_478 (I 59 61) rfl dX13_findWays_213 hL.1 hL.2.1 rfl ?_
    refine z_lload 7 dX13_findWays_216 rfl ?_
    refine z_aload_n 0 dX13_findWays_218 rfl ?_
    refine fg_13_108 (some 92) rfl dX13_findWays_219 hL.1 hL.2.1 (ma_54 hL).1 ?_
    refine z_iload_n 2 dX13_findWays_222 rfl ?_
    obtain ⟨o2, h⟩ := h
    refine z_iald (I 92 a2.toNatClampNeg) dX13_findWays_223 (ma_54 hL).2.1 (ma_54 hL).2.2 o2 rfl ?_
    refine z_i2l dX13_findWays_224 ?_
    refine z_lmul dX13_findWays_225 ?_
    refine z_lload 8 dX13_findWays_226 rfl ?_
    refine z_lload 4 dX13_findWays_228 rfl ?_
    refine z_lmul dX13_findWays_230 ?_
    refine z_ladd dX13_findWays_231 ?_
    refine z_lload 9 dX13_findWays_232 rfl ?_
    refine z_aload_n 0 dX13_findWays_234 rfl ?_
    refine fg_13_108 (some 92) rfl dX13_findWays_235 hL.1 hL.2.1 (ma_54 hL).1 ?_
    refine z_iload_n 3 dX13_findWays_238 rfl ?_
    obtain ⟨o3, h⟩ := h
    refine z_iald (I 92 a3.toNatClampNeg) dX13_findWays_239 (ma_54 hL).2.1 (ma_54 hL).2.2 o3 rfl ?_
    refine z_i2l dX13_findWays_240 ?_
    refine z_lmul dX13_findWays_241 ?_
    refine z_ladd dX13_findWays_242 ?_
    refine z_callS0 (As := [.long (((((((8 - a8) * (8 - a8)) : Int32).toInt64) * (((I 92 a2.toNatClampNeg) : Int32).toInt64)) + (((((2 * a8) * (8 - a8)) : Int32).toInt64) * a4)) + ((((a8 * a8) : Int32).toInt64) * (((I 92 a3.toNatClampNeg) : Int32).toInt64)))]) (st := [.int (I 59 61), .ref (n0 + 95)]) dX13_findWays_243 hy_X13_downBy64 wg_1989 wg_1990 (Nat.le_refl _) (Nat.le_of_ble_eq_true rfl) (RM0.mono h (fun vv I4 L5 h => ?_))
    obtain ⟨r6, rfl, h⟩ := h
    change Z n0 xX13_findWays (d + 1) rc rs 246 [(0, .ref (n0 + 59)), (1, .int a1), (2, .int a2), (3, .int a3), (4, .long a4), (6, .long a6), (8, .int a8), (9, .long ((((8 - a8) * (8 - a8)) : Int32).toInt64)), (11, .long ((((2 * a8) * (8 - a8)) : Int32).toInt64)), (13, .long (((a8 * a8) : Int32).toInt64))] [.int r6, .int (I 59 61), .ref (n0 + 95)] K I4 L5 (z_q0 K Q)
    obtain ⟨o7, h⟩ := h
    refine z_iast dX13_findWays_246 (ma_58 hL).2.1 (ma_58 hL).2.2 o7 ?_
    refine z_aload_n 0 dX13_findWays_247 rfl ?_
    refine fg_13_120 (some 96) rfl dX13_findWays_248 hL.1 hL.2.1 (ma_59 hL).1 ?_
    refine z_aload_n 0 dX13_findWays_251 rfl ?_
    refine fg_13_478 (I4 59 61) rfl dX13_findWays_252 hL.1 hL.2.1 rfl ?_
    refine z_lload 7 dX13_findWays_255 rfl ?_
    refine z_aload_n 0 dX13_findWays_257 rfl ?_
    refine fg_13_111 (some 93) rfl dX13_findWays_258 hL.1 hL.2.1 (ma_55 hL).1 ?_
    refine z_iload_n 2 dX13_findWays_261 rfl ?_
    refine z_iald (I4 93 a2.toNatClampNeg) dX13_findWays_262 (ma_55 hL).2.1 (ma_55 hL).2.2 o2 rfl ?_
    refine z_i2l dX13_findWays_263 ?_
    refine z_lmul dX13_findWays_264 ?_
    refine z_lload 8 dX13_findWays_265 rfl ?_
    refine z_lload 5 dX13_findWays_267 rfl ?_
    refine z_lmul dX13_findWays_269 ?_
    refine z_ladd dX13_findWays_270 ?_
    refine z_lload 9 dX13_findWays_271 rfl ?_
    refine z_aload_n 0 dX13_findWays_273 rfl ?_
    refine fg_13_111 (some 93) rfl dX13_findWays_274 hL.1 hL.2.1 (ma_55 hL).1 ?_
    refine z_iload_n 3 dX13_findWays_277 rfl ?_
    refine z_iald (I4 93 a3.toNatClampNeg) dX13_findWays_278 (ma_55 hL).2.1 (ma_55 hL).2.2 o3 rfl ?_
    refine z_i2l dX13_findWays_279 ?_
    refine z_lmul dX13_findWays_280 ?_
    refine z_ladd dX13_findWays_281 ?_
    refine z_callS0 (As := [.long (((((((8 - a8) * (8 - a8)) : Int32).toInt64) * (((I4 93 a2.toNatClampNeg) : Int32).toInt64)) + (((((2 * a8) * (8 - a8)) : Int32).toInt64) * a6)) + ((((a8 * a8) : Int32).toInt64) * (((I4 93 a3.toNatClampNeg) : Int32).toInt64)))]) (st := [.int (I4 59 61), .ref (n0 + 96)]) dX13_findWays_282 hy_X13_downBy64 wg_1989 wg_1990 (Nat.le_refl _) (Nat.le_of_ble_eq_true rfl) (RM0.mono h (fun vv I8 L9 h => ?_))
    obtain ⟨r10, rfl, h⟩ := h
    change Z n0 xX13_findWays (d + 1) rc rs 285 [(0, .ref (n0 + 59)), (1, .int a1), (2, .int a2), (3, .int a3), (4, .long a4), (6, .long a6), (8, .int a8), (9, .long ((((8 - a8) * (8 - a8)) : Int32).toInt64)), (11, .long ((((2 * a8) * (8 - a8)) : Int32).toInt64)), (13, .long (((a8 * a8) : Int32).toInt64))] [.int r10, .int (I4 59 61), .ref (n0 + 96)] K I8 L9 (z_q0 K Q)
    obtain ⟨o11, h⟩ := h
    refine z_iast dX13_findWays_285 (ma_59 hL).2.1 (ma_59 hL).2.2 o11 ?_
    refine z_aload_n 0 dX13_findWays_286 rfl ?_
    refine z_dup dX13_findWays_287 rfl ?_
    refine fg_13_478 (I8 59 61) rfl dX13_findWays_288 hL.1 hL.2.1 rfl ?_
    refine z_iconst 1 dX13_findWays_291 (by decide) ?_
    refine z_iadd dX13_findWays_292 ?_
    refine fp_13_478 rfl dX13_findWays_293 hL.1 hL.2.1 ?_
    refine z_iinc (j := 6) (a8 + 1) [1, 2, 3, 4, 5, 6, 0, 7, 8, 9] [(0, .ref (n0 + 59)), (1, .int a1), (2, .int a2), (3, .int a3), (4, .long a4), (6, .long a6), (8, .int (a8 + 1)), (9, .long ((((8 - a8) * (8 - a8)) : Int32).toInt64)), (11, .long ((((2 * a8) * (8 - a8)) : Int32).toInt64)), (13, .long (((a8 * a8) : Int32).toInt64))] dX13_findWays_296 rfl rfl (by decide) rfl ?_
    refine z_goto 166 dX13_findWays_299 (by decide) ?_
    refine z_sub [0, 1, 2, 3, 4, 5, 6] rfl ?_
    exact h
theorem dX13_lengthOf_0 : decode cX13_lengthOf 0 = .ok (.aload_n 0, 1) := by decide +kernel
theorem dX13_lengthOf_1 : decode cX13_lengthOf 1 = .ok (.iload_n 1, 1) := by decide +kernel
theorem dX13_lengthOf_2 : decode cX13_lengthOf 2 = .ok (.invokevirtual 488, 3) := by decide +kernel
theorem dX13_lengthOf_5 : decode cX13_lengthOf 5 = .ok (.iconst 0, 1) := by decide +kernel
theorem dX13_lengthOf_6 : decode cX13_lengthOf 6 = .ok (.istore 4, 2) := by decide +kernel
theorem dX13_lengthOf_8 : decode cX13_lengthOf 8 = .ok (.iload_n 2, 1) := by decide +kernel
theorem dX13_lengthOf_9 : decode cX13_lengthOf 9 = .ok (.istore 5, 2) := by decide +kernel
theorem dX13_lengthOf_11 : decode cX13_lengthOf 11 = .ok (.iconst 1, 1) := by decide +kernel
theorem dX13_lengthOf_12 : decode cX13_lengthOf 12 = .ok (.istore 6, 2) := by decide +kernel
theorem dX13_lengthOf_14 : decode cX13_lengthOf 14 = .ok (.iload 6, 2) := by decide +kernel
theorem dX13_lengthOf_16 : decode cX13_lengthOf 16 = .ok (.ifCond .eq 131, 3) := by decide +kernel
theorem dX13_lengthOf_19 : decode cX13_lengthOf 19 = .ok (.aload_n 0, 1) := by decide +kernel
theorem dX13_lengthOf_20 : decode cX13_lengthOf 20 = .ok (.getfield 123, 3) := by decide +kernel
theorem dX13_lengthOf_23 : decode cX13_lengthOf 23 = .ok (.iload 5, 2) := by decide +kernel
theorem dX13_lengthOf_25 : decode cX13_lengthOf 25 = .ok (.iaload, 1) := by decide +kernel
theorem dX13_lengthOf_26 : decode cX13_lengthOf 26 = .ok (.istore 7, 2) := by decide +kernel
theorem dX13_lengthOf_28 : decode cX13_lengthOf 28 = .ok (.iload 7, 2) := by decide +kernel
theorem dX13_lengthOf_30 : decode cX13_lengthOf 30 = .ok (.aload_n 0, 1) := by decide +kernel
theorem dX13_lengthOf_31 : decode cX13_lengthOf 31 = .ok (.getfield 123, 3) := by decide +kernel
theorem dX13_lengthOf_34 : decode cX13_lengthOf 34 = .ok (.iload 5, 2) := by decide +kernel
theorem dX13_lengthOf_36 : decode cX13_lengthOf 36 = .ok (.iconst 1, 1) := by decide +kernel
theorem dX13_lengthOf_37 : decode cX13_lengthOf 37 = .ok (.iadd, 1) := by decide +kernel
theorem dX13_lengthOf_38 : decode cX13_lengthOf 38 = .ok (.iaload, 1) := by decide +kernel
theorem dX13_lengthOf_39 : decode cX13_lengthOf 39 = .ok (.if_icmp .ge 69, 3) := by decide +kernel
theorem dX13_lengthOf_42 : decode cX13_lengthOf 42 = .ok (.aload_n 0, 1) := by decide +kernel
theorem dX13_lengthOf_43 : decode cX13_lengthOf 43 = .ok (.getfield 117, 3) := by decide +kernel
theorem dX13_lengthOf_46 : decode cX13_lengthOf 46 = .ok (.iload 7, 2) := by decide +kernel
theorem dX13_lengthOf_48 : decode cX13_lengthOf 48 = .ok (.iconst 1, 1) := by decide +kernel
theorem dX13_lengthOf_49 : decode cX13_lengthOf 49 = .ok (.iadd, 1) := by decide +kernel
theorem dX13_lengthOf_50 : decode cX13_lengthOf 50 = .ok (.iaload, 1) := by decide +kernel
theorem dX13_lengthOf_51 : decode cX13_lengthOf 51 = .ok (.aload_n 0, 1) := by decide +kernel
theorem dX13_lengthOf_52 : decode cX13_lengthOf 52 = .ok (.getfield 117, 3) := by decide +kernel
theorem dX13_lengthOf_55 : decode cX13_lengthOf 55 = .ok (.iload 7, 2) := by decide +kernel
theorem dX13_lengthOf_57 : decode cX13_lengthOf 57 = .ok (.iaload, 1) := by decide +kernel
theorem dX13_lengthOf_58 : decode cX13_lengthOf 58 = .ok (.isub, 1) := by decide +kernel
theorem dX13_lengthOf_59 : decode cX13_lengthOf 59 = .ok (.i2l, 1) := by decide +kernel
theorem dX13_lengthOf_60 : decode cX13_lengthOf 60 = .ok (.lstore 8, 2) := by decide +kernel
theorem dX13_lengthOf_62 : decode cX13_lengthOf 62 = .ok (.aload_n 0, 1) := by decide +kernel
theorem dX13_lengthOf_63 : decode cX13_lengthOf 63 = .ok (.getfield 120, 3) := by decide +kernel
theorem dX13_lengthOf_66 : decode cX13_lengthOf 66 = .ok (.iload 7, 2) := by decide +kernel
theorem dX13_lengthOf_68 : decode cX13_lengthOf 68 = .ok (.iconst 1, 1) := by decide +kernel
theorem dX13_lengthOf_69 : decode cX13_lengthOf 69 = .ok (.iadd, 1) := by decide +kernel
theorem dX13_lengthOf_70 : decode cX13_lengthOf 70 = .ok (.iaload, 1) := by decide +kernel
theorem dX13_lengthOf_71 : decode cX13_lengthOf 71 = .ok (.aload_n 0, 1) := by decide +kernel
theorem dX13_lengthOf_72 : decode cX13_lengthOf 72 = .ok (.getfield 120, 3) := by decide +kernel
theorem dX13_lengthOf_75 : decode cX13_lengthOf 75 = .ok (.iload 7, 2) := by decide +kernel
theorem dX13_lengthOf_77 : decode cX13_lengthOf 77 = .ok (.iaload, 1) := by decide +kernel
theorem dX13_lengthOf_78 : decode cX13_lengthOf 78 = .ok (.isub, 1) := by decide +kernel
theorem dX13_lengthOf_79 : decode cX13_lengthOf 79 = .ok (.i2l, 1) := by decide +kernel
theorem dX13_lengthOf_80 : decode cX13_lengthOf 80 = .ok (.lstore 10, 2) := by decide +kernel
theorem dX13_lengthOf_82 : decode cX13_lengthOf 82 = .ok (.iload 4, 2) := by decide +kernel
theorem dX13_lengthOf_84 : decode cX13_lengthOf 84 = .ok (.lload 8, 2) := by decide +kernel
theorem dX13_lengthOf_86 : decode cX13_lengthOf 86 = .ok (.lload 8, 2) := by decide +kernel
theorem dX13_lengthOf_88 : decode cX13_lengthOf 88 = .ok (.lmul, 1) := by decide +kernel
theorem dX13_lengthOf_89 : decode cX13_lengthOf 89 = .ok (.lload 10, 2) := by decide +kernel
theorem dX13_lengthOf_91 : decode cX13_lengthOf 91 = .ok (.lload 10, 2) := by decide +kernel
theorem dX13_lengthOf_93 : decode cX13_lengthOf 93 = .ok (.lmul, 1) := by decide +kernel
theorem dX13_lengthOf_94 : decode cX13_lengthOf 94 = .ok (.ladd, 1) := by decide +kernel
theorem dX13_lengthOf_95 : decode cX13_lengthOf 95 = .ok (.invokestatic 422, 3) := by decide +kernel
theorem dX13_lengthOf_98 : decode cX13_lengthOf 98 = .ok (.l2i, 1) := by decide +kernel
theorem dX13_lengthOf_99 : decode cX13_lengthOf 99 = .ok (.iadd, 1) := by decide +kernel
theorem dX13_lengthOf_100 : decode cX13_lengthOf 100 = .ok (.istore 4, 2) := by decide +kernel
theorem dX13_lengthOf_102 : decode cX13_lengthOf 102 = .ok (.iinc 7 1, 3) := by decide +kernel
theorem dX13_lengthOf_105 : decode cX13_lengthOf 105 = .ok (.goto (-77), 3) := by decide +kernel
theorem dX13_lengthOf_108 : decode cX13_lengthOf 108 = .ok (.iload 5, 2) := by decide +kernel
theorem dX13_lengthOf_110 : decode cX13_lengthOf 110 = .ok (.iconst 1, 1) := by decide +kernel
theorem dX13_lengthOf_111 : decode cX13_lengthOf 111 = .ok (.iadd, 1) := by decide +kernel
theorem dX13_lengthOf_112 : decode cX13_lengthOf 112 = .ok (.aload_n 0, 1) := by decide +kernel
theorem dX13_lengthOf_113 : decode cX13_lengthOf 113 = .ok (.getfield 31, 3) := by decide +kernel
theorem dX13_lengthOf_116 : decode cX13_lengthOf 116 = .ok (.iload_n 1, 1) := by decide +kernel
theorem dX13_lengthOf_117 : decode cX13_lengthOf 117 = .ok (.iaload, 1) := by decide +kernel
theorem dX13_lengthOf_118 : decode cX13_lengthOf 118 = .ok (.if_icmp .ge 10, 3) := by decide +kernel
theorem dX13_lengthOf_121 : decode cX13_lengthOf 121 = .ok (.iload 5, 2) := by decide +kernel
theorem dX13_lengthOf_123 : decode cX13_lengthOf 123 = .ok (.iconst 1, 1) := by decide +kernel
theorem dX13_lengthOf_124 : decode cX13_lengthOf 124 = .ok (.iadd, 1) := by decide +kernel
theorem dX13_lengthOf_125 : decode cX13_lengthOf 125 = .ok (.goto 4, 3) := by decide +kernel
theorem dX13_lengthOf_128 : decode cX13_lengthOf 128 = .ok (.iconst 0, 1) := by decide +kernel
theorem dX13_lengthOf_129 : decode cX13_lengthOf 129 = .ok (.istore 5, 2) := by decide +kernel
theorem dX13_lengthOf_131 : decode cX13_lengthOf 131 = .ok (.iload 5, 2) := by decide +kernel
theorem dX13_lengthOf_133 : decode cX13_lengthOf 133 = .ok (.iload_n 3, 1) := by decide +kernel
theorem dX13_lengthOf_134 : decode cX13_lengthOf 134 = .ok (.if_icmp .eq 7, 3) := by decide +kernel
theorem dX13_lengthOf_137 : decode cX13_lengthOf 137 = .ok (.iconst 1, 1) := by decide +kernel
theorem dX13_lengthOf_138 : decode cX13_lengthOf 138 = .ok (.goto 4, 3) := by decide +kernel
theorem dX13_lengthOf_141 : decode cX13_lengthOf 141 = .ok (.iconst 0, 1) := by decide +kernel
theorem dX13_lengthOf_142 : decode cX13_lengthOf 142 = .ok (.istore 6, 2) := by decide +kernel
theorem dX13_lengthOf_144 : decode cX13_lengthOf 144 = .ok (.goto (-130), 3) := by decide +kernel
theorem dX13_lengthOf_147 : decode cX13_lengthOf 147 = .ok (.iload 4, 2) := by decide +kernel
theorem dX13_lengthOf_149 : decode cX13_lengthOf 149 = .ok (.ireturn, 1) := by decide +kernel
set_option maxRecDepth 100000 in
set_option maxHeartbeats 4000000 in
theorem wp_X13_lengthOf {n0 d : Nat} {K : z_K} {I : z_I} {L : z_L} {Q : z_q} {p0 : Int32} {p1 : Int32} {p2 : Int32} (hL : MLay K) (h : RM0 n0 xX13_findWays d [.ref (n0 + 59), .int p0] K I L (fun vv I1 L2 => vv = none ∧ Z n0 xX13_lengthOf (d + 1) 0 0 14 [(0, .ref (n0 + 59)), (1, .int p0), (3, .int p2), (4, .int 0), (5, .int p1), (6, .int 1)] [] K I1 L2 (z_q0 K Q))) : RM0 n0 xX13_lengthOf (d + 1) [.ref (n0 + 59), .int p0, .int p1, .int p2] K I L Q := by
  refine z_entry0 (by decide) (Nat.le_of_ble_eq_true rfl) ?_
  change Z n0 xX13_lengthOf (d + 1) 0 0 0 [(0, .ref (n0 + 59)), (1, .int p0), (2, .int p1), (3, .int p2)] [] K I L (z_q0 K Q)
  refine z_aload_n 0 dX13_lengthOf_0 rfl ?_
  refine z_iload_n 1 dX13_lengthOf_1 rfl ?_
  refine z_callV0 (As := [.int p0]) (st := []) dX13_lengthOf_2 hy_X13_findWays hL.1 hL.2.1 (by decide) wg_1982 wg_1984 wg_80 (Nat.le_refl _) (Nat.le_of_ble_eq_true rfl) (RM0.mono h (fun vv I1 L2 h => ?_))
  obtain ⟨rfl, h⟩ := h
  change Z n0 xX13_lengthOf (d + 1) 0 0 5 [(0, .ref (n0 + 59)), (1, .int p0), (2, .int p1), (3, .int p2)] [] K I1 L2 (z_q0 K Q)
  refine z_iconst 0 dX13_lengthOf_5 (by decide) ?_
  refine z_istore [1, 2, 3, 4, 0] [(0, .ref (n0 + 59)), (1, .int p0), (2, .int p1), (3, .int p2), (4, .int 0)] dX13_lengthOf_6 (by decide) rfl ?_
  refine z_iload_n 2 dX13_lengthOf_8 rfl ?_
  refine z_istore [1, 2, 3, 4, 5, 0] [(0, .ref (n0 + 59)), (1, .int p0), (2, .int p1), (3, .int p2), (4, .int 0), (5, .int p1)] dX13_lengthOf_9 (by decide) rfl ?_
  refine z_iconst 1 dX13_lengthOf_11 (by decide) ?_
  refine z_istore [1, 2, 3, 4, 5, 6, 0] [(0, .ref (n0 + 59)), (1, .int p0), (2, .int p1), (3, .int p2), (4, .int 0), (5, .int p1), (6, .int 1)] dX13_lengthOf_12 (by decide) rfl ?_
  refine z_sub [0, 1, 3, 4, 5, 6] rfl ?_
  exact h
set_option maxRecDepth 100000 in
set_option maxHeartbeats 4000000 in
theorem wp_X13_lengthOf_14 {n0 d : Nat} {rc rs : Nat} {K : z_K} {I : z_I} {L : z_L} {Q : z_q} {a1 : Int32} {a3 : Int32} {a4 : Int32} {a5 : Int32} {a6 : Int32} (hL : MLay K) (h : (if a6 = 0 then Q (some (.int a4)) I L else vp_in a5 11 ∧ Z n0 xX13_lengthOf (d + 1) rc rs 28 [(0, .ref (n0 + 59)), (1, .int a1), (3, .int a3), (4, .int a4), (5, .int a5), (7, .int (I 97 a5.toNatClampNeg))] [] K I L (z_q0 K Q))) : Z n0 xX13_lengthOf (d + 1) rc rs 14 [(0, .ref (n0 + 59)), (1, .int a1), (3, .int a3), (4, .int a4), (5, .int a5), (6, .int a6)] [] K I L (z_q0 K Q) := by
  refine z_iload 5 dX13_lengthOf_14 rfl ?_
  refine z_if_eq 147 dX13_lengthOf_16 (by decide) (fun g1 => ?_) (fun g1 => ?_)
  · rw [if_pos g1] at h
    refine z_iload 3 dX13_lengthOf_147 rfl ?_
    exact z_iret dX13_lengthOf_149 rfl ⟨rfl, h⟩
  · rw [if_neg g1] at h
    refine z_aload_n 0 dX13_lengthOf_19 rfl ?_
    refine fg_13_123 (some 97) rfl dX13_lengthOf_20 hL.1 hL.2.1 (ma_60 hL).1 ?_
    refine z_iload 4 dX13_lengthOf_23 rfl ?_
    obtain ⟨o2, h⟩ := h
    refine z_iald (I 97 a5.toNatClampNeg) dX13_lengthOf_25 (ma_60 hL).2.1 (ma_60 hL).2.2 o2 rfl ?_
    refine z_istore [1, 2, 3, 4, 5, 6, 0] [(0, .ref (n0 + 59)), (1, .int a1), (3, .int a3), (4, .int a4), (5, .int a5), (6, .int a6), (7, .int (I 97 a5.toNatClampNeg))] dX13_lengthOf_26 (by decide) rfl ?_
    refine z_sub [0, 1, 2, 3, 4, 6] rfl ?_
    exact h
set_option maxRecDepth 100000 in
set_option maxHeartbeats 4000000 in
theorem wp_X13_lengthOf_28 {n0 d : Nat} {rc rs : Nat} {K : z_K} {I : z_I} {L : z_L} {Q : z_q} {a1 : Int32} {a3 : Int32} {a4 : Int32} {a5 : Int32} {a7 : Int32} (hL : MLay K) (h : vp_in (a5 + 1) 11 ∧ (if a7 < (I 97 ((a5 + 1).toNatClampNeg)) then vp_in (a7 + 1) 81 ∧ vp_in a7 81 ∧ RM0 n0 xX13_rootOf d [.long ((((((I 95 ((a7 + 1).toNatClampNeg)) - (I 95 a7.toNatClampNeg)) : Int32).toInt64) * ((((I 95 ((a7 + 1).toNatClampNeg)) - (I 95 a7.toNatClampNeg)) : Int32).toInt64)) + (((((I 96 ((a7 + 1).toNatClampNeg)) - (I 96 a7.toNatClampNeg)) : Int32).toInt64) * ((((I 96 ((a7 + 1).toNatClampNeg)) - (I 96 a7.toNatClampNeg)) : Int32).toInt64)))] K I L (fun vv I10 L11 => ∃ r12 : Int64, vv = some (.long r12) ∧ Z n0 xX13_lengthOf (d + 1) rc rs 28 [(0, .ref (n0 + 59)), (1, .int a1), (3, .int a3), (4, .int (a4 + r12.toInt32)), (5, .int a5), (7, .int (a7 + 1))] [] K I10 L11 (z_q0 K Q)) else vp_in a1 16 ∧ Z n0 xX13_lengthOf (d + 1) rc rs 14 [(0, .ref (n0 + 59)), (1, .int a1), (3, .int a3), (4, .int a4), (5, .int (if ((a5 + 1) : Int32) < (I 67 a1.toNatClampNeg) then (a5 + 1) else 0)), (6, .int (if ((if ((a5 + 1) : Int32) < (I 67 a1.toNatClampNeg) then (a5 + 1) else 0) : Int32) = a3 then 0 else 1))] [] K I L (z_q0 K Q))) : Z n0 xX13_lengthOf (d + 1) rc rs 28 [(0, .ref (n0 + 59)), (1, .int a1), (3, .int a3), (4, .int a4), (5, .int a5), (7, .int a7)] [] K I L (z_q0 K Q) := by
  refine z_iload 5 dX13_lengthOf_28 rfl ?_
  refine z_aload_n 0 dX13_lengthOf_30 rfl ?_
  refine fg_13_123 (some 97) rfl dX13_lengthOf_31 hL.1 hL.2.1 (ma_60 hL).1 ?_
  refine z_iload 4 dX13_lengthOf_34 rfl ?_
  refine z_iconst 1 dX13_lengthOf_36 (by decide) ?_
  refine z_iadd dX13_lengthOf_37 ?_
  obtain ⟨o1, h⟩ := h
  refine z_iald (I 97 ((a5 + 1).toNatClampNeg)) dX13_lengthOf_38 (ma_60 hL).2.1 (ma_60 hL).2.2 o1 rfl ?_
  refine z_icmp_ge 108 dX13_lengthOf_39 (by decide) (fun g2 => ?_) (fun g2 => ?_)
  · rw [if_neg g2] at h
    refine z_iload 4 dX13_lengthOf_108 rfl ?_
    refine z_iconst 1 dX13_lengthOf_110 (by decide) ?_
    refine z_iadd dX13_lengthOf_111 ?_
    refine z_aload_n 0 dX13_lengthOf_112 rfl ?_
    refine fg_13_31 (some 67) rfl dX13_lengthOf_113 hL.1 hL.2.1 (ma_11 hL).1 ?_
    refine z_iload_n 1 dX13_lengthOf_116 rfl ?_
    obtain ⟨o3, h⟩ := h
    refine z_iald (I 67 a1.toNatClampNeg) dX13_lengthOf_117 (ma_11 hL).2.1 (ma_11 hL).2.2 o3 rfl ?_
    have key5 : Z n0 xX13_lengthOf (d + 1) rc rs 129 [(0, .ref (n0 + 59)), (1, .int a1), (3, .int a3), (4, .int a4)] [.int (if ((a5 + 1) : Int32) < (I 67 a1.toNatClampNeg) then (a5 + 1) else 0)] K I L (z_q0 K Q) := by
      refine z_istore [1, 2, 3, 4, 0] [(0, .ref (n0 + 59)), (1, .int a1), (3, .int a3), (4, .int a4), (5, .int (if ((a5 + 1) : Int32) < (I 67 a1.toNatClampNeg) then (a5 + 1) else 0))] dX13_lengthOf_129 (by decide) rfl ?_
      refine z_iload 4 dX13_lengthOf_131 rfl ?_
      refine z_iload_n 2 dX13_lengthOf_133 rfl ?_
      have key7 : Z n0 xX13_lengthOf (d + 1) rc rs 142 [(0, .ref (n0 + 59)), (1, .int a1), (3, .int a3), (4, .int a4), (5, .int (if ((a5 + 1) : Int32) < (I 67 a1.toNatClampNeg) then (a5 + 1) else 0))] [.int (if ((if ((a5 + 1) : Int32) < (I 67 a1.toNatClampNeg) then (a5 + 1) else 0) : Int32) = a3 then 0 else 1)] K I L (z_q0 K Q) := by
        refine z_istore [1, 2, 3, 4, 5, 0] [(0, .ref (n0 + 59)), (1, .int a1), (3, .int a3), (4, .int a4), (5, .int (if ((a5 + 1) : Int32) < (I 67 a1.toNatClampNeg) then (a5 + 1) else 0)), (6, .int (if ((if ((a5 + 1) : Int32) < (I 67 a1.toNatClampNeg) then (a5 + 1) else 0) : Int32) = a3 then 0 else 1))] dX13_lengthOf_142 (by decide) rfl ?_
        refine z_goto 14 dX13_lengthOf_144 (by decide) ?_
        exact h
      refine z_icmp_eq 141 dX13_lengthOf_134 (by decide) (fun g6 => ?_) (fun g6 => ?_)
      · refine z_iconst 0 dX13_lengthOf_141 (by decide) ?_
        have ee : ((if ((if ((a5 + 1) : Int32) < (I 67 a1.toNatClampNeg) then (a5 + 1) else 0) : Int32) = a3 then 0 else 1) : Int32) = 0 := by rw [if_pos g6]
        rw [ee] at key7
        clear ee
        exact key7
      · refine z_iconst 1 dX13_lengthOf_137 (by decide) ?_
        refine z_goto 142 dX13_lengthOf_138 (by decide) ?_
        have ee : ((if ((if ((a5 + 1) : Int32) < (I 67 a1.toNatClampNeg) then (a5 + 1) else 0) : Int32) = a3 then 0 else 1) : Int32) = 1 := by rw [if_neg g6]
        rw [ee] at key7
        clear ee
        exact key7
    refine z_icmp_ge 128 dX13_lengthOf_118 (by decide) (fun g4 => ?_) (fun g4 => ?_)
    · refine z_iconst 0 dX13_lengthOf_128 (by decide) ?_
      have ee : ((if ((a5 + 1) : Int32) < (I 67 a1.toNatClampNeg) then (a5 + 1) else 0) : Int32) = 0 := by rw [if_neg g4]
      rw [ee] at key5
      clear ee
      refine z_sub [0, 1, 2, 3] rfl ?_
      exact key5
    · refine z_iload 4 dX13_lengthOf_121 rfl ?_
      refine z_iconst 1 dX13_lengthOf_123 (by decide) ?_
      refine z_iadd dX13_lengthOf_124 ?_
      refine z_goto 129 dX13_lengthOf_125 (by decide) ?_
      have ee : ((if ((a5 + 1) : Int32) < (I 67 a1.toNatClampNeg) then (a5 + 1) else 0) : Int32) = (a5 + 1) := by rw [if_pos g4]
      rw [ee] at key5
      clear ee
      refine z_sub [0, 1, 2, 3] rfl ?_
      exact key5
  · rw [if_pos g2] at h
    refine z_aload_n 0 dX13_lengthOf_42 rfl ?_
    refine fg_13_117 (some 95) rfl dX13_lengthOf_43 hL.1 hL.2.1 (ma_58 hL).1 ?_
    refine z_iload 5 dX13_lengthOf_46 rfl ?_
    refine z_iconst 1 dX13_lengthOf_48 (by decide) ?_
    refine z_iadd dX13_lengthOf_49 ?_
    obtain ⟨o8, h⟩ := h
    refine z_iald (I 95 ((a7 + 1).toNatClampNeg)) dX13_lengthOf_50 (ma_58 hL).2.1 (ma_58 hL).2.2 o8 rfl ?_
    refine z_aload_n 0 dX13_lengthOf_51 rfl ?_
    refine fg_13_117 (some 95) rfl dX13_lengthOf_52 hL.1 hL.2.1 (ma_58 hL).1 ?_
    refine z_iload 5 dX13_lengthOf_55 rfl ?_
    obtain ⟨o9, h⟩ := h
    refine z_iald (I 95 a7.toNatClampNeg) dX13_lengthOf_57 (ma_58 hL).2.1 (ma_58 hL).2.2 o9 rfl ?_
    refine z_isub dX13_lengthOf_58 ?_
    refine z_i2l dX13_lengthOf_59 ?_
    refine z_lstore [1, 2, 3, 4, 5, 6, 0] [(0, .ref (n0 + 59)), (1, .int a1), (3, .int a3), (4, .int a4), (5, .int a5), (7, .int a7), (8, .long ((((I 95 ((a7 + 1).toNatClampNeg)) - (I 95 a7.toNatClampNeg)) : Int32).toInt64))] dX13_lengthOf_60 (by decide) rfl ?_
    refine z_aload_n 0 dX13_lengthOf_62 rfl ?_
    refine fg_13_120 (some 96) rfl dX13_lengthOf_63 hL.1 hL.2.1 (ma_59 hL).1 ?_
    refine z_iload 5 dX13_lengthOf_66 rfl ?_
    refine z_iconst 1 dX13_lengthOf_68 (by decide) ?_
    refine z_iadd dX13_lengthOf_69 ?_
    refine z_iald (I 96 ((a7 + 1).toNatClampNeg)) dX13_lengthOf_70 (ma_59 hL).2.1 (ma_59 hL).2.2 o8 rfl ?_
    refine z_aload_n 0 dX13_lengthOf_71 rfl ?_
    refine fg_13_120 (some 96) rfl dX13_lengthOf_72 hL.1 hL.2.1 (ma_59 hL).1 ?_
    refine z_iload 5 dX13_lengthOf_75 rfl ?_
    refine z_iald (I 96 a7.toNatClampNeg) dX13_lengthOf_77 (ma_59 hL).2.1 (ma_59 hL).2.2 o9 rfl ?_
    refine z_isub dX13_lengthOf_78 ?_
    refine z_i2l dX13_lengthOf_79 ?_
    refine z_lstore [1, 2, 3, 4, 5, 6, 7, 0] [(0, .ref (n0 + 59)), (1, .int a1), (3, .int a3), (4, .int a4), (5, .int a5), (7, .int a7), (8, .long ((((I 95 ((a7 + 1).toNatClampNeg)) - (I 95 a7.toNatClampNeg)) : Int32).toInt64)), (10, .long ((((I 96 ((a7 + 1).toNatClampNeg)) - (I 96 a7.toNatClampNeg)) : Int32).toInt64))] dX13_lengthOf_80 (by decide) rfl ?_
    refine z_iload 3 dX13_lengthOf_82 rfl ?_
    refine z_lload 6 dX13_lengthOf_84 rfl ?_
    refine z_lload 6 dX13_lengthOf_86 rfl ?_
    refine z_lmul dX13_lengthOf_88 ?_
    refine z_lload 7 dX13_lengthOf_89 rfl ?_
    refine z_lload 7 dX13_lengthOf_91 rfl ?_
    refine z_lmul dX13_lengthOf_93 ?_
    refine z_ladd dX13_lengthOf_94 ?_
    refine z_callS0 (As := [.long ((((((I 95 ((a7 + 1).toNatClampNeg)) - (I 95 a7.toNatClampNeg)) : Int32).toInt64) * ((((I 95 ((a7 + 1).toNatClampNeg)) - (I 95 a7.toNatClampNeg)) : Int32).toInt64)) + (((((I 96 ((a7 + 1).toNatClampNeg)) - (I 96 a7.toNatClampNeg)) : Int32).toInt64) * ((((I 96 ((a7 + 1).toNatClampNeg)) - (I 96 a7.toNatClampNeg)) : Int32).toInt64)))]) (st := [.int a4]) dX13_lengthOf_95 hy_X13_rootOf wg_1909 wg_1910 (Nat.le_refl _) (Nat.le_of_ble_eq_true rfl) (RM0.mono h (fun vv I10 L11 h => ?_))
    obtain ⟨r12, rfl, h⟩ := h
    change Z n0 xX13_lengthOf (d + 1) rc rs 98 [(0, .ref (n0 + 59)), (1, .int a1), (3, .int a3), (4, .int a4), (5, .int a5), (7, .int a7), (8, .long ((((I 95 ((a7 + 1).toNatClampNeg)) - (I 95 a7.toNatClampNeg)) : Int32).toInt64)), (10, .long ((((I 96 ((a7 + 1).toNatClampNeg)) - (I 96 a7.toNatClampNeg)) : Int32).toInt64))] [.long r12, .int a4] K I10 L11 (z_q0 K Q)
    refine z_l2i dX13_lengthOf_98 ?_
    refine z_iadd dX13_lengthOf_99 ?_
    refine z_istore [1, 2, 3, 0, 4, 5, 6, 7] [(0, .ref (n0 + 59)), (1, .int a1), (3, .int a3), (4, .int (a4 + r12.toInt32)), (5, .int a5), (7, .int a7), (8, .long ((((I 95 ((a7 + 1).toNatClampNeg)) - (I 95 a7.toNatClampNeg)) : Int32).toInt64)), (10, .long ((((I 96 ((a7 + 1).toNatClampNeg)) - (I 96 a7.toNatClampNeg)) : Int32).toInt64))] dX13_lengthOf_100 (by decide) rfl ?_
    refine z_iinc (j := 5) (a7 + 1) [1, 2, 3, 4, 5, 0, 6, 7] [(0, .ref (n0 + 59)), (1, .int a1), (3, .int a3), (4, .int (a4 + r12.toInt32)), (5, .int a5), (7, .int (a7 + 1)), (8, .long ((((I 95 ((a7 + 1).toNatClampNeg)) - (I 95 a7.toNatClampNeg)) : Int32).toInt64)), (10, .long ((((I 96 ((a7 + 1).toNatClampNeg)) - (I 96 a7.toNatClampNeg)) : Int32).toInt64))] dX13_lengthOf_102 rfl rfl (by decide) rfl ?_
    refine z_goto 28 dX13_lengthOf_105 (by decide) ?_
    refine z_sub [0, 1, 2, 3, 4, 5] rfl ?_
    exact h
theorem dX13_areaOf_0 : decode cX13_areaOf 0 = .ok (.aload_n 0, 1) := by decide +kernel
theorem dX13_areaOf_1 : decode cX13_areaOf 1 = .ok (.iload_n 1, 1) := by decide +kernel
theorem dX13_areaOf_2 : decode cX13_areaOf 2 = .ok (.invokevirtual 488, 3) := by decide +kernel
theorem dX13_areaOf_5 : decode cX13_areaOf 5 = .ok (.lconst 0, 1) := by decide +kernel
theorem dX13_areaOf_6 : decode cX13_areaOf 6 = .ok (.lstore_n 2, 1) := by decide +kernel
theorem dX13_areaOf_7 : decode cX13_areaOf 7 = .ok (.iconst 0, 1) := by decide +kernel
theorem dX13_areaOf_8 : decode cX13_areaOf 8 = .ok (.istore 4, 2) := by decide +kernel
theorem dX13_areaOf_10 : decode cX13_areaOf 10 = .ok (.iload 4, 2) := by decide +kernel
theorem dX13_areaOf_12 : decode cX13_areaOf 12 = .ok (.aload_n 0, 1) := by decide +kernel
theorem dX13_areaOf_13 : decode cX13_areaOf 13 = .ok (.getfield 478, 3) := by decide +kernel
theorem dX13_areaOf_16 : decode cX13_areaOf 16 = .ok (.if_icmp .ge 51, 3) := by decide +kernel
theorem dX13_areaOf_19 : decode cX13_areaOf 19 = .ok (.lload_n 2, 1) := by decide +kernel
theorem dX13_areaOf_20 : decode cX13_areaOf 20 = .ok (.aload_n 0, 1) := by decide +kernel
theorem dX13_areaOf_21 : decode cX13_areaOf 21 = .ok (.getfield 117, 3) := by decide +kernel
theorem dX13_areaOf_24 : decode cX13_areaOf 24 = .ok (.iload 4, 2) := by decide +kernel
theorem dX13_areaOf_26 : decode cX13_areaOf 26 = .ok (.iaload, 1) := by decide +kernel
theorem dX13_areaOf_27 : decode cX13_areaOf 27 = .ok (.i2l, 1) := by decide +kernel
theorem dX13_areaOf_28 : decode cX13_areaOf 28 = .ok (.aload_n 0, 1) := by decide +kernel
theorem dX13_areaOf_29 : decode cX13_areaOf 29 = .ok (.getfield 120, 3) := by decide +kernel
theorem dX13_areaOf_32 : decode cX13_areaOf 32 = .ok (.iload 4, 2) := by decide +kernel
theorem dX13_areaOf_34 : decode cX13_areaOf 34 = .ok (.iconst 1, 1) := by decide +kernel
theorem dX13_areaOf_35 : decode cX13_areaOf 35 = .ok (.iadd, 1) := by decide +kernel
theorem dX13_areaOf_36 : decode cX13_areaOf 36 = .ok (.iaload, 1) := by decide +kernel
theorem dX13_areaOf_37 : decode cX13_areaOf 37 = .ok (.i2l, 1) := by decide +kernel
theorem dX13_areaOf_38 : decode cX13_areaOf 38 = .ok (.lmul, 1) := by decide +kernel
theorem dX13_areaOf_39 : decode cX13_areaOf 39 = .ok (.aload_n 0, 1) := by decide +kernel
theorem dX13_areaOf_40 : decode cX13_areaOf 40 = .ok (.getfield 117, 3) := by decide +kernel
theorem dX13_areaOf_43 : decode cX13_areaOf 43 = .ok (.iload 4, 2) := by decide +kernel
theorem dX13_areaOf_45 : decode cX13_areaOf 45 = .ok (.iconst 1, 1) := by decide +kernel
theorem dX13_areaOf_46 : decode cX13_areaOf 46 = .ok (.iadd, 1) := by decide +kernel
theorem dX13_areaOf_47 : decode cX13_areaOf 47 = .ok (.iaload, 1) := by decide +kernel
theorem dX13_areaOf_48 : decode cX13_areaOf 48 = .ok (.i2l, 1) := by decide +kernel
theorem dX13_areaOf_49 : decode cX13_areaOf 49 = .ok (.aload_n 0, 1) := by decide +kernel
theorem dX13_areaOf_50 : decode cX13_areaOf 50 = .ok (.getfield 120, 3) := by decide +kernel
theorem dX13_areaOf_53 : decode cX13_areaOf 53 = .ok (.iload 4, 2) := by decide +kernel
theorem dX13_areaOf_55 : decode cX13_areaOf 55 = .ok (.iaload, 1) := by decide +kernel
theorem dX13_areaOf_56 : decode cX13_areaOf 56 = .ok (.i2l, 1) := by decide +kernel
theorem dX13_areaOf_57 : decode cX13_areaOf 57 = .ok (.lmul, 1) := by decide +kernel
theorem dX13_areaOf_58 : decode cX13_areaOf 58 = .ok (.lsub, 1) := by decide +kernel
theorem dX13_areaOf_59 : decode cX13_areaOf 59 = .ok (.ladd, 1) := by decide +kernel
theorem dX13_areaOf_60 : decode cX13_areaOf 60 = .ok (.lstore_n 2, 1) := by decide +kernel
theorem dX13_areaOf_61 : decode cX13_areaOf 61 = .ok (.iinc 4 1, 3) := by decide +kernel
theorem dX13_areaOf_64 : decode cX13_areaOf 64 = .ok (.goto (-54), 3) := by decide +kernel
theorem dX13_areaOf_67 : decode cX13_areaOf 67 = .ok (.lload_n 2, 1) := by decide +kernel
theorem dX13_areaOf_68 : decode cX13_areaOf 68 = .ok (.lconst 0, 1) := by decide +kernel
theorem dX13_areaOf_69 : decode cX13_areaOf 69 = .ok (.lcmp, 1) := by decide +kernel
theorem dX13_areaOf_70 : decode cX13_areaOf 70 = .ok (.ifCond .ge 8, 3) := by decide +kernel
theorem dX13_areaOf_73 : decode cX13_areaOf 73 = .ok (.lload_n 2, 1) := by decide +kernel
theorem dX13_areaOf_74 : decode cX13_areaOf 74 = .ok (.lneg, 1) := by decide +kernel
theorem dX13_areaOf_75 : decode cX13_areaOf 75 = .ok (.goto 4, 3) := by decide +kernel
theorem dX13_areaOf_78 : decode cX13_areaOf 78 = .ok (.lload_n 2, 1) := by decide +kernel
theorem dX13_areaOf_79 : decode cX13_areaOf 79 = .ok (.lstore_n 2, 1) := by decide +kernel
theorem dX13_areaOf_80 : decode cX13_areaOf 80 = .ok (.aload_n 0, 1) := by decide +kernel
theorem dX13_areaOf_81 : decode cX13_areaOf 81 = .ok (.getfield 28, 3) := by decide +kernel
theorem dX13_areaOf_84 : decode cX13_areaOf 84 = .ok (.iload_n 1, 1) := by decide +kernel
theorem dX13_areaOf_85 : decode cX13_areaOf 85 = .ok (.iaload, 1) := by decide +kernel
theorem dX13_areaOf_86 : decode cX13_areaOf 86 = .ok (.iconst 1, 1) := by decide +kernel
theorem dX13_areaOf_87 : decode cX13_areaOf 87 = .ok (.if_icmp .eq 13, 3) := by decide +kernel
theorem dX13_areaOf_90 : decode cX13_areaOf 90 = .ok (.aload_n 0, 1) := by decide +kernel
theorem dX13_areaOf_91 : decode cX13_areaOf 91 = .ok (.getfield 28, 3) := by decide +kernel
theorem dX13_areaOf_94 : decode cX13_areaOf 94 = .ok (.iload_n 1, 1) := by decide +kernel
theorem dX13_areaOf_95 : decode cX13_areaOf 95 = .ok (.iaload, 1) := by decide +kernel
theorem dX13_areaOf_96 : decode cX13_areaOf 96 = .ok (.iconst 2, 1) := by decide +kernel
theorem dX13_areaOf_97 : decode cX13_areaOf 97 = .ok (.if_icmp .ne 11, 3) := by decide +kernel
theorem dX13_areaOf_100 : decode cX13_areaOf 100 = .ok (.ldc2_w 366, 3) := by decide +kernel
theorem dX13_areaOf_103 : decode cX13_areaOf 103 = .ok (.lload_n 2, 1) := by decide +kernel
theorem dX13_areaOf_104 : decode cX13_areaOf 104 = .ok (.lmul, 1) := by decide +kernel
theorem dX13_areaOf_105 : decode cX13_areaOf 105 = .ok (.goto 4, 3) := by decide +kernel
theorem dX13_areaOf_108 : decode cX13_areaOf 108 = .ok (.lload_n 2, 1) := by decide +kernel
theorem dX13_areaOf_109 : decode cX13_areaOf 109 = .ok (.lreturn, 1) := by decide +kernel
set_option maxRecDepth 100000 in
set_option maxHeartbeats 4000000 in
theorem wp_X13_areaOf {n0 d : Nat} {K : z_K} {I : z_I} {L : z_L} {Q : z_q} {p0 : Int32} (hL : MLay K) (h : RM0 n0 xX13_findWays d [.ref (n0 + 59), .int p0] K I L (fun vv I1 L2 => vv = none ∧ Z n0 xX13_areaOf (d + 1) 0 0 10 [(0, .ref (n0 + 59)), (1, .int p0), (2, .long 0), (4, .int 0)] [] K I1 L2 (z_q0 K Q))) : RM0 n0 xX13_areaOf (d + 1) [.ref (n0 + 59), .int p0] K I L Q := by
  refine z_entry0 (by decide) (Nat.le_of_ble_eq_true rfl) ?_
  change Z n0 xX13_areaOf (d + 1) 0 0 0 [(0, .ref (n0 + 59)), (1, .int p0)] [] K I L (z_q0 K Q)
  refine z_aload_n 0 dX13_areaOf_0 rfl ?_
  refine z_iload_n 1 dX13_areaOf_1 rfl ?_
  refine z_callV0 (As := [.int p0]) (st := []) dX13_areaOf_2 hy_X13_findWays hL.1 hL.2.1 (by decide) wg_1982 wg_1984 wg_80 (Nat.le_refl _) (Nat.le_of_ble_eq_true rfl) (RM0.mono h (fun vv I1 L2 h => ?_))
  obtain ⟨rfl, h⟩ := h
  change Z n0 xX13_areaOf (d + 1) 0 0 5 [(0, .ref (n0 + 59)), (1, .int p0)] [] K I1 L2 (z_q0 K Q)
  refine z_lconst 0 dX13_areaOf_5 (by decide) ?_
  refine z_lstore_n [1, 2, 0] [(0, .ref (n0 + 59)), (1, .int p0), (2, .long 0)] dX13_areaOf_6 (by decide) rfl ?_
  refine z_iconst 0 dX13_areaOf_7 (by decide) ?_
  refine z_istore [1, 2, 3, 0] [(0, .ref (n0 + 59)), (1, .int p0), (2, .long 0), (4, .int 0)] dX13_areaOf_8 (by decide) rfl ?_
  exact h
set_option maxRecDepth 100000 in
set_option maxHeartbeats 4000000 in
theorem wp_X13_areaOf_10 {n0 d : Nat} {rc rs : Nat} {K : z_K} {I : z_I} {L : z_L} {Q : z_q} {a1 : Int32} {a2 : Int64} {a4 : Int32} (hL : MLay K) (h : (if a4 < (I 59 61) then vp_in a4 81 ∧ vp_in (a4 + 1) 81 ∧ Z n0 xX13_areaOf (d + 1) rc rs 10 [(0, .ref (n0 + 59)), (1, .int a1), (2, .long (a2 + (((((I 95 a4.toNatClampNeg) : Int32).toInt64) * (((I 96 ((a4 + 1).toNatClampNeg)) : Int32).toInt64)) - ((((I 95 ((a4 + 1).toNatClampNeg)) : Int32).toInt64) * (((I 96 a4.toNatClampNeg) : Int32).toInt64))))), (4, .int (a4 + 1))] [] K I L (z_q0 K Q) else (if a2 < 0 then vp_in a1 16 ∧ Q (some (.long (if ((I 66 a1.toNatClampNeg) : Int32) = 1 then (2 * (-a2)) else if ((I 66 a1.toNatClampNeg) : Int32) = 2 then (2 * (-a2)) else (-a2)))) I L else vp_in a1 16 ∧ Q (some (.long (if ((I 66 a1.toNatClampNeg) : Int32) = 1 then (2 * a2) else if ((I 66 a1.toNatClampNeg) : Int32) = 2 then (2 * a2) else a2))) I L))) : Z n0 xX13_areaOf (d + 1) rc rs 10 [(0, .ref (n0 + 59)), (1, .int a1), (2, .long a2), (4, .int a4)] [] K I L (z_q0 K Q) := by
  refine z_iload 3 dX13_areaOf_10 rfl ?_
  refine z_aload_n 0 dX13_areaOf_12 rfl ?_
  refine fg_13_478 (I 59 61) rfl dX13_areaOf_13 hL.1 hL.2.1 rfl ?_
  refine z_icmp_ge 67 dX13_areaOf_16 (by decide) (fun g1 => ?_) (fun g1 => ?_)
  · rw [if_neg g1] at h
    refine z_lload_n 2 dX13_areaOf_67 rfl ?_
    refine z_lconst 0 dX13_areaOf_68 (by decide) ?_
    refine z_lif_ge 78 dX13_areaOf_69 dX13_areaOf_70 (by decide) (fun g2 => ?_) (fun g2 => ?_)
    · rw [if_neg g2] at h
      refine z_lload_n 2 dX13_areaOf_78 rfl ?_
      refine z_lstore_n [1, 2, 0, 3] [(0, .ref (n0 + 59)), (1, .int a1), (2, .long a2), (4, .int a4)] dX13_areaOf_79 (by decide) rfl ?_
      refine z_aload_n 0 dX13_areaOf_80 rfl ?_
      refine fg_13_28 (some 66) rfl dX13_areaOf_81 hL.1 hL.2.1 (ma_10 hL).1 ?_
      refine z_iload_n 1 dX13_areaOf_84 rfl ?_
      obtain ⟨o3, h⟩ := h
      refine z_iald (I 66 a1.toNatClampNeg) dX13_areaOf_85 (ma_10 hL).2.1 (ma_10 hL).2.2 o3 rfl ?_
      refine z_iconst 1 dX13_areaOf_86 (by decide) ?_
      have key6 : Z n0 xX13_areaOf (d + 1) rc rs 109 [] [.long (if ((I 66 a1.toNatClampNeg) : Int32) = 1 then (2 * a2) else if ((I 66 a1.toNatClampNeg) : Int32) = 2 then (2 * a2) else a2)] K I L (z_q0 K Q) := by
        exact z_lret dX13_areaOf_109 rfl ⟨rfl, h⟩
      refine z_icmp_eq 100 dX13_areaOf_87 (by decide) (fun g4 => ?_) (fun g4 => ?_)
      · refine z_ldc2_w 2 dX13_areaOf_100 wg_1913 ?_
        refine z_lload_n 2 dX13_areaOf_103 rfl ?_
        refine z_lmul dX13_areaOf_104 ?_
        refine z_goto 109 dX13_areaOf_105 (by decide) ?_
        have ee : ((if ((I 66 a1.toNatClampNeg) : Int32) = 1 then (2 * a2) else if ((I 66 a1.toNatClampNeg) : Int32) = 2 then (2 * a2) else a2) : Int64) = (2 * a2) := by rw [if_pos g4]
        rw [ee] at key6
        clear ee
        refine z_sub [] rfl ?_
        exact key6
      · refine z_aload_n 0 dX13_areaOf_90 rfl ?_
        refine fg_13_28 (some 66) rfl dX13_areaOf_91 hL.1 hL.2.1 (ma_10 hL).1 ?_
        refine z_iload_n 1 dX13_areaOf_94 rfl ?_
        refine z_iald (I 66 a1.toNatClampNeg) dX13_areaOf_95 (ma_10 hL).2.1 (ma_10 hL).2.2 o3 rfl ?_
        refine z_iconst 2 dX13_areaOf_96 (by decide) ?_
        refine z_icmp_ne 108 dX13_areaOf_97 (by decide) (fun g5 => ?_) (fun g5 => ?_)
        · refine z_lload_n 2 dX13_areaOf_108 rfl ?_
          have ee : ((if ((I 66 a1.toNatClampNeg) : Int32) = 1 then (2 * a2) else if ((I 66 a1.toNatClampNeg) : Int32) = 2 then (2 * a2) else a2) : Int64) = a2 := by rw [if_neg g4, if_neg g5]
          rw [ee] at key6
          clear ee
          refine z_sub [] rfl ?_
          exact key6
        · refine z_ldc2_w 2 dX13_areaOf_100 wg_1913 ?_
          refine z_lload_n 2 dX13_areaOf_103 rfl ?_
          refine z_lmul dX13_areaOf_104 ?_
          refine z_goto 109 dX13_areaOf_105 (by decide) ?_
          have ee : ((if ((I 66 a1.toNatClampNeg) : Int32) = 1 then (2 * a2) else if ((I 66 a1.toNatClampNeg) : Int32) = 2 then (2 * a2) else a2) : Int64) = (2 * a2) := by rw [if_neg g4, if_pos g5]
          rw [ee] at key6
          clear ee
          refine z_sub [] rfl ?_
          exact key6
    · rw [if_pos g2] at h
      refine z_lload_n 2 dX13_areaOf_73 rfl ?_
      refine z_lneg dX13_areaOf_74 ?_
      refine z_goto 79 dX13_areaOf_75 (by decide) ?_
      refine z_lstore_n [1, 2, 0, 3] [(0, .ref (n0 + 59)), (1, .int a1), (2, .long (-a2)), (4, .int a4)] dX13_areaOf_79 (by decide) rfl ?_
      refine z_aload_n 0 dX13_areaOf_80 rfl ?_
      refine fg_13_28 (some 66) rfl dX13_areaOf_81 hL.1 hL.2.1 (ma_10 hL).1 ?_
      refine z_iload_n 1 dX13_areaOf_84 rfl ?_
      obtain ⟨o7, h⟩ := h
      refine z_iald (I 66 a1.toNatClampNeg) dX13_areaOf_85 (ma_10 hL).2.1 (ma_10 hL).2.2 o7 rfl ?_
      refine z_iconst 1 dX13_areaOf_86 (by decide) ?_
      have key10 : Z n0 xX13_areaOf (d + 1) rc rs 109 [] [.long (if ((I 66 a1.toNatClampNeg) : Int32) = 1 then (2 * (-a2)) else if ((I 66 a1.toNatClampNeg) : Int32) = 2 then (2 * (-a2)) else (-a2))] K I L (z_q0 K Q) := by
        exact z_lret dX13_areaOf_109 rfl ⟨rfl, h⟩
      refine z_icmp_eq 100 dX13_areaOf_87 (by decide) (fun g8 => ?_) (fun g8 => ?_)
      · refine z_ldc2_w 2 dX13_areaOf_100 wg_1913 ?_
        refine z_lload_n 2 dX13_areaOf_103 rfl ?_
        refine z_lmul dX13_areaOf_104 ?_
        refine z_goto 109 dX13_areaOf_105 (by decide) ?_
        have ee : ((if ((I 66 a1.toNatClampNeg) : Int32) = 1 then (2 * (-a2)) else if ((I 66 a1.toNatClampNeg) : Int32) = 2 then (2 * (-a2)) else (-a2)) : Int64) = (2 * (-a2)) := by rw [if_pos g8]
        rw [ee] at key10
        clear ee
        refine z_sub [] rfl ?_
        exact key10
      · refine z_aload_n 0 dX13_areaOf_90 rfl ?_
        refine fg_13_28 (some 66) rfl dX13_areaOf_91 hL.1 hL.2.1 (ma_10 hL).1 ?_
        refine z_iload_n 1 dX13_areaOf_94 rfl ?_
        refine z_iald (I 66 a1.toNatClampNeg) dX13_areaOf_95 (ma_10 hL).2.1 (ma_10 hL).2.2 o7 rfl ?_
        refine z_iconst 2 dX13_areaOf_96 (by decide) ?_
        refine z_icmp_ne 108 dX13_areaOf_97 (by decide) (fun g9 => ?_) (fun g9 => ?_)
        · refine z_lload_n 2 dX13_areaOf_108 rfl ?_
          have ee : ((if ((I 66 a1.toNatClampNeg) : Int32) = 1 then (2 * (-a2)) else if ((I 66 a1.toNatClampNeg) : Int32) = 2 then (2 * (-a2)) else (-a2)) : Int64) = (-a2) := by rw [if_neg g8, if_neg g9]
          rw [ee] at key10
          clear ee
          refine z_sub [] rfl ?_
          exact key10
        · refine z_ldc2_w 2 dX13_areaOf_100 wg_1913 ?_
          refine z_lload_n 2 dX13_areaOf_103 rfl ?_
          refine z_lmul dX13_areaOf_104 ?_
          refine z_goto 109 dX13_areaOf_105 (by decide) ?_
          have ee : ((if ((I 66 a1.toNatClampNeg) : Int32) = 1 then (2 * (-a2)) else if ((I 66 a1.toNatClampNeg) : Int32) = 2 then (2 * (-a2)) else (-a2)) : Int64) = (2 * (-a2)) := by rw [if_neg g8, if_pos g9]
          rw [ee] at key10
          clear ee
          refine z_sub [] rfl ?_
          exact key10
  · rw [if_pos g1] at h
    refine z_lload_n 2 dX13_areaOf_19 rfl ?_
    refine z_aload_n 0 dX13_areaOf_20 rfl ?_
    refine fg_13_117 (some 95) rfl dX13_areaOf_21 hL.1 hL.2.1 (ma_58 hL).1 ?_
    refine z_iload 3 dX13_areaOf_24 rfl ?_
    obtain ⟨o11, h⟩ := h
    refine z_iald (I 95 a4.toNatClampNeg) dX13_areaOf_26 (ma_58 hL).2.1 (ma_58 hL).2.2 o11 rfl ?_
    refine z_i2l dX13_areaOf_27 ?_
    refine z_aload_n 0 dX13_areaOf_28 rfl ?_
    refine fg_13_120 (some 96) rfl dX13_areaOf_29 hL.1 hL.2.1 (ma_59 hL).1 ?_
    refine z_iload 3 dX13_areaOf_32 rfl ?_
    refine z_iconst 1 dX13_areaOf_34 (by decide) ?_
    refine z_iadd dX13_areaOf_35 ?_
    obtain ⟨o12, h⟩ := h
    refine z_iald (I 96 ((a4 + 1).toNatClampNeg)) dX13_areaOf_36 (ma_59 hL).2.1 (ma_59 hL).2.2 o12 rfl ?_
    refine z_i2l dX13_areaOf_37 ?_
    refine z_lmul dX13_areaOf_38 ?_
    refine z_aload_n 0 dX13_areaOf_39 rfl ?_
    refine fg_13_117 (some 95) rfl dX13_areaOf_40 hL.1 hL.2.1 (ma_58 hL).1 ?_
    refine z_iload 3 dX13_areaOf_43 rfl ?_
    refine z_iconst 1 dX13_areaOf_45 (by decide) ?_
    refine z_iadd dX13_areaOf_46 ?_
    refine z_iald (I 95 ((a4 + 1).toNatClampNeg)) dX13_areaOf_47 (ma_58 hL).2.1 (ma_58 hL).2.2 o12 rfl ?_
    refine z_i2l dX13_areaOf_48 ?_
    refine z_aload_n 0 dX13_areaOf_49 rfl ?_
    refine fg_13_120 (some 96) rfl dX13_areaOf_50 hL.1 hL.2.1 (ma_59 hL).1 ?_
    refine z_iload 3 dX13_areaOf_53 rfl ?_
    refine z_iald (I 96 a4.toNatClampNeg) dX13_areaOf_55 (ma_59 hL).2.1 (ma_59 hL).2.2 o11 rfl ?_
    refine z_i2l dX13_areaOf_56 ?_
    refine z_lmul dX13_areaOf_57 ?_
    refine z_lsub dX13_areaOf_58 ?_
    refine z_ladd dX13_areaOf_59 ?_
    refine z_lstore_n [1, 2, 0, 3] [(0, .ref (n0 + 59)), (1, .int a1), (2, .long (a2 + (((((I 95 a4.toNatClampNeg) : Int32).toInt64) * (((I 96 ((a4 + 1).toNatClampNeg)) : Int32).toInt64)) - ((((I 95 ((a4 + 1).toNatClampNeg)) : Int32).toInt64) * (((I 96 a4.toNatClampNeg) : Int32).toInt64))))), (4, .int a4)] dX13_areaOf_60 (by decide) rfl ?_
    refine z_iinc (j := 3) (a4 + 1) [1, 2, 3, 0] [(0, .ref (n0 + 59)), (1, .int a1), (2, .long (a2 + (((((I 95 a4.toNatClampNeg) : Int32).toInt64) * (((I 96 ((a4 + 1).toNatClampNeg)) : Int32).toInt64)) - ((((I 95 ((a4 + 1).toNatClampNeg)) : Int32).toInt64) * (((I 96 a4.toNatClampNeg) : Int32).toInt64))))), (4, .int (a4 + 1))] dX13_areaOf_61 rfl rfl (by decide) rfl ?_
    refine z_goto 10 dX13_areaOf_64 (by decide) ?_
    exact h
