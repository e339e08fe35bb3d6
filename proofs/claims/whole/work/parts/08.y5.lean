theorem dX13_trial_0 : decode cX13_trial 0 = .ok (.aload_n 0, 1) := by decide +kernel
theorem dX13_trial_1 : decode cX13_trial 1 = .ok (.iload_n 1, 1) := by decide +kernel
theorem dX13_trial_2 : decode cX13_trial 2 = .ok (.iload_n 3, 1) := by decide +kernel
theorem dX13_trial_3 : decode cX13_trial 3 = .ok (.invokevirtual 445, 3) := by decide +kernel
theorem dX13_trial_6 : decode cX13_trial 6 = .ok (.ifCond .eq 21, 3) := by decide +kernel
theorem dX13_trial_9 : decode cX13_trial 9 = .ok (.aload_n 0, 1) := by decide +kernel
theorem dX13_trial_10 : decode cX13_trial 10 = .ok (.iload_n 1, 1) := by decide +kernel
theorem dX13_trial_11 : decode cX13_trial 11 = .ok (.iload 4, 2) := by decide +kernel
theorem dX13_trial_13 : decode cX13_trial 13 = .ok (.invokevirtual 445, 3) := by decide +kernel
theorem dX13_trial_16 : decode cX13_trial 16 = .ok (.ifCond .eq 11, 3) := by decide +kernel
theorem dX13_trial_19 : decode cX13_trial 19 = .ok (.aload_n 0, 1) := by decide +kernel
theorem dX13_trial_20 : decode cX13_trial 20 = .ok (.iload_n 2, 1) := by decide +kernel
theorem dX13_trial_21 : decode cX13_trial 21 = .ok (.invokevirtual 331, 3) := by decide +kernel
theorem dX13_trial_24 : decode cX13_trial 24 = .ok (.ifCond .ne 9, 3) := by decide +kernel
theorem dX13_trial_27 : decode cX13_trial 27 = .ok (.aload_n 0, 1) := by decide +kernel
theorem dX13_trial_28 : decode cX13_trial 28 = .ok (.iconst (-1), 1) := by decide +kernel
theorem dX13_trial_29 : decode cX13_trial 29 = .ok (.invokevirtual 308, 3) := by decide +kernel
theorem dX13_trial_32 : decode cX13_trial 32 = .ok (.ireturn, 1) := by decide +kernel
theorem dX13_trial_33 : decode cX13_trial 33 = .ok (.iload 5, 2) := by decide +kernel
theorem dX13_trial_35 : decode cX13_trial 35 = .ok (.ifCond .lt 8, 3) := by decide +kernel
theorem dX13_trial_38 : decode cX13_trial 38 = .ok (.iload 6, 2) := by decide +kernel
theorem dX13_trial_40 : decode cX13_trial 40 = .ok (.ifCond .ge 10, 3) := by decide +kernel
theorem dX13_trial_43 : decode cX13_trial 43 = .ok (.aload_n 0, 1) := by decide +kernel
theorem dX13_trial_44 : decode cX13_trial 44 = .ok (.bipush (-4), 2) := by decide +kernel
theorem dX13_trial_46 : decode cX13_trial 46 = .ok (.invokevirtual 308, 3) := by decide +kernel
theorem dX13_trial_49 : decode cX13_trial 49 = .ok (.ireturn, 1) := by decide +kernel
theorem dX13_trial_50 : decode cX13_trial 50 = .ok (.iload 5, 2) := by decide +kernel
theorem dX13_trial_52 : decode cX13_trial 52 = .ok (.ldc_w 514, 3) := by decide +kernel
theorem dX13_trial_55 : decode cX13_trial 55 = .ok (.if_icmp .gt 20, 3) := by decide +kernel
theorem dX13_trial_58 : decode cX13_trial 58 = .ok (.iload 6, 2) := by decide +kernel
theorem dX13_trial_60 : decode cX13_trial 60 = .ok (.sipush 999, 3) := by decide +kernel
theorem dX13_trial_63 : decode cX13_trial 63 = .ok (.if_icmp .gt 12, 3) := by decide +kernel
theorem dX13_trial_66 : decode cX13_trial 66 = .ok (.aload_n 0, 1) := by decide +kernel
theorem dX13_trial_67 : decode cX13_trial 67 = .ok (.getfield 619, 3) := by decide +kernel
theorem dX13_trial_70 : decode cX13_trial 70 = .ok (.bipush 30, 2) := by decide +kernel
theorem dX13_trial_72 : decode cX13_trial 72 = .ok (.if_icmp .ne 10, 3) := by decide +kernel
theorem dX13_trial_75 : decode cX13_trial 75 = .ok (.aload_n 0, 1) := by decide +kernel
theorem dX13_trial_76 : decode cX13_trial 76 = .ok (.bipush (-6), 2) := by decide +kernel
theorem dX13_trial_78 : decode cX13_trial 78 = .ok (.invokevirtual 308, 3) := by decide +kernel
theorem dX13_trial_81 : decode cX13_trial 81 = .ok (.ireturn, 1) := by decide +kernel
theorem dX13_trial_82 : decode cX13_trial 82 = .ok (.aload_n 0, 1) := by decide +kernel
theorem dX13_trial_83 : decode cX13_trial 83 = .ok (.getfield 231, 3) := by decide +kernel
theorem dX13_trial_86 : decode cX13_trial 86 = .ok (.aload_n 0, 1) := by decide +kernel
theorem dX13_trial_87 : decode cX13_trial 87 = .ok (.getfield 619, 3) := by decide +kernel
theorem dX13_trial_90 : decode cX13_trial 90 = .ok (.iload_n 1, 1) := by decide +kernel
theorem dX13_trial_91 : decode cX13_trial 91 = .ok (.iastore, 1) := by decide +kernel
theorem dX13_trial_92 : decode cX13_trial 92 = .ok (.aload_n 0, 1) := by decide +kernel
theorem dX13_trial_93 : decode cX13_trial 93 = .ok (.getfield 234, 3) := by decide +kernel
theorem dX13_trial_96 : decode cX13_trial 96 = .ok (.aload_n 0, 1) := by decide +kernel
theorem dX13_trial_97 : decode cX13_trial 97 = .ok (.getfield 619, 3) := by decide +kernel
theorem dX13_trial_100 : decode cX13_trial 100 = .ok (.iload_n 2, 1) := by decide +kernel
theorem dX13_trial_101 : decode cX13_trial 101 = .ok (.iastore, 1) := by decide +kernel
theorem dX13_trial_102 : decode cX13_trial 102 = .ok (.aload_n 0, 1) := by decide +kernel
theorem dX13_trial_103 : decode cX13_trial 103 = .ok (.getfield 237, 3) := by decide +kernel
theorem dX13_trial_106 : decode cX13_trial 106 = .ok (.aload_n 0, 1) := by decide +kernel
theorem dX13_trial_107 : decode cX13_trial 107 = .ok (.getfield 619, 3) := by decide +kernel
theorem dX13_trial_110 : decode cX13_trial 110 = .ok (.iload_n 3, 1) := by decide +kernel
theorem dX13_trial_111 : decode cX13_trial 111 = .ok (.iastore, 1) := by decide +kernel
theorem dX13_trial_112 : decode cX13_trial 112 = .ok (.aload_n 0, 1) := by decide +kernel
theorem dX13_trial_113 : decode cX13_trial 113 = .ok (.getfield 240, 3) := by decide +kernel
theorem dX13_trial_116 : decode cX13_trial 116 = .ok (.aload_n 0, 1) := by decide +kernel
theorem dX13_trial_117 : decode cX13_trial 117 = .ok (.getfield 619, 3) := by decide +kernel
theorem dX13_trial_120 : decode cX13_trial 120 = .ok (.iload 4, 2) := by decide +kernel
theorem dX13_trial_122 : decode cX13_trial 122 = .ok (.iastore, 1) := by decide +kernel
theorem dX13_trial_123 : decode cX13_trial 123 = .ok (.aload_n 0, 1) := by decide +kernel
theorem dX13_trial_124 : decode cX13_trial 124 = .ok (.getfield 243, 3) := by decide +kernel
theorem dX13_trial_127 : decode cX13_trial 127 = .ok (.aload_n 0, 1) := by decide +kernel
theorem dX13_trial_128 : decode cX13_trial 128 = .ok (.getfield 619, 3) := by decide +kernel
theorem dX13_trial_131 : decode cX13_trial 131 = .ok (.iload 5, 2) := by decide +kernel
theorem dX13_trial_133 : decode cX13_trial 133 = .ok (.iload 6, 2) := by decide +kernel
theorem dX13_trial_135 : decode cX13_trial 135 = .ok (.isub, 1) := by decide +kernel
theorem dX13_trial_136 : decode cX13_trial 136 = .ok (.iastore, 1) := by decide +kernel
theorem dX13_trial_137 : decode cX13_trial 137 = .ok (.aload_n 0, 1) := by decide +kernel
theorem dX13_trial_138 : decode cX13_trial 138 = .ok (.getfield 246, 3) := by decide +kernel
theorem dX13_trial_141 : decode cX13_trial 141 = .ok (.aload_n 0, 1) := by decide +kernel
theorem dX13_trial_142 : decode cX13_trial 142 = .ok (.getfield 619, 3) := by decide +kernel
theorem dX13_trial_145 : decode cX13_trial 145 = .ok (.iload 5, 2) := by decide +kernel
theorem dX13_trial_147 : decode cX13_trial 147 = .ok (.iload 6, 2) := by decide +kernel
theorem dX13_trial_149 : decode cX13_trial 149 = .ok (.iadd, 1) := by decide +kernel
theorem dX13_trial_150 : decode cX13_trial 150 = .ok (.iastore, 1) := by decide +kernel
theorem dX13_trial_151 : decode cX13_trial 151 = .ok (.aload_n 0, 1) := by decide +kernel
theorem dX13_trial_152 : decode cX13_trial 152 = .ok (.dup, 1) := by decide +kernel
theorem dX13_trial_153 : decode cX13_trial 153 = .ok (.getfield 619, 3) := by decide +kernel
theorem dX13_trial_156 : decode cX13_trial 156 = .ok (.iconst 1, 1) := by decide +kernel
theorem dX13_trial_157 : decode cX13_trial 157 = .ok (.iadd, 1) := by decide +kernel
theorem dX13_trial_158 : decode cX13_trial 158 = .ok (.putfield 619, 3) := by decide +kernel
theorem dX13_trial_161 : decode cX13_trial 161 = .ok (.aload_n 0, 1) := by decide +kernel
theorem dX13_trial_162 : decode cX13_trial 162 = .ok (.getfield 619, 3) := by decide +kernel
theorem dX13_trial_165 : decode cX13_trial 165 = .ok (.ireturn, 1) := by decide +kernel
set_option maxRecDepth 100000 in
set_option maxHeartbeats 4000000 in
theorem wp_X13_trial {n0 d : Nat} {K : z_K} {I : z_I} {L : z_L} {Q : z_q} {p0 : Int32} {p1 : Int32} {p2 : Int32} {p3 : Int32} {p4 : Int32} {p5 : Int32} (hL : MLay K) (h : RM0 n0 xX13_isPoint d [.ref (n0 + 59), .int p0, .int p2] K I L (fun vv I1 L2 => ∃ r3 : Int32, vv = some (.int r3) ∧ (if r3 = 0 then RM0 n0 xX13_refuse d [.ref (n0 + 59), .int (-1)] K I1 L2 (fun vv I5 L6 => ∃ r7 : Int32, vv = some (.int r7) ∧ Q (some (.int r7)) I5 L6) else RM0 n0 xX13_isPoint d [.ref (n0 + 59), .int p0, .int p3] K I1 L2 (fun vv I8 L9 => ∃ r10 : Int32, vv = some (.int r10) ∧ (if r10 = 0 then RM0 n0 xX13_refuse d [.ref (n0 + 59), .int (-1)] K I8 L9 (fun vv I12 L13 => ∃ r14 : Int32, vv = some (.int r14) ∧ Q (some (.int r14)) I12 L13) else RM0 n0 xX13_isBody d [.ref (n0 + 59), .int p1] K I8 L9 (fun vv I15 L16 => ∃ r17 : Int32, vv = some (.int r17) ∧ (if r17 = 0 then RM0 n0 xX13_refuse d [.ref (n0 + 59), .int (-1)] K I15 L16 (fun vv I40 L41 => ∃ r42 : Int32, vv = some (.int r42) ∧ Q (some (.int r42)) I40 L41) else (if p4 < 0 then RM0 n0 xX13_refuse d [.ref (n0 + 59), .int (-4)] K I15 L16 (fun vv I20 L21 => ∃ r22 : Int32, vv = some (.int r22) ∧ Q (some (.int r22)) I20 L21) else (if p5 < 0 then RM0 n0 xX13_refuse d [.ref (n0 + 59), .int (-4)] K I15 L16 (fun vv I37 L38 => ∃ r39 : Int32, vv = some (.int r39) ∧ Q (some (.int r39)) I37 L38) else (if 99999 < p4 then RM0 n0 xX13_refuse d [.ref (n0 + 59), .int (-6)] K I15 L16 (fun vv I25 L26 => ∃ r27 : Int32, vv = some (.int r27) ∧ Q (some (.int r27)) I25 L26) else (if 999 < p5 then RM0 n0 xX13_refuse d [.ref (n0 + 59), .int (-6)] K I15 L16 (fun vv I29 L30 => ∃ r31 : Int32, vv = some (.int r31) ∧ Q (some (.int r31)) I29 L30) else (if ((I15 59 107) : Int32) = 30 then RM0 n0 xX13_refuse d [.ref (n0 + 59), .int (-6)] K I15 L16 (fun vv I34 L35 => ∃ r36 : Int32, vv = some (.int r36) ∧ Q (some (.int r36)) I34 L35) else vp_in (I15 59 107) 30 ∧ Q (some (.int (((I15 59 107) + 1)))) (zI (zI (zI (zI (zI (zI (zI I15 133 ((I15 59 107).toNatClampNeg) p0) 134 ((I15 59 107).toNatClampNeg) p1) 135 ((I15 59 107).toNatClampNeg) p2) 136 ((I15 59 107).toNatClampNeg) p3) 137 ((I15 59 107).toNatClampNeg) (p4 - p5)) 138 ((I15 59 107).toNatClampNeg) (p4 + p5)) 59 107 ((I15 59 107) + 1)) L16)))))))))))) : RM0 n0 xX13_trial (d + 1) [.ref (n0 + 59), .int p0, .int p1, .int p2, .int p3, .int p4, .int p5] K I L Q := by
  refine z_entry0 (by decide) (Nat.le_of_ble_eq_true rfl) ?_
  change Z n0 xX13_trial (d + 1) 0 0 0 [(0, .ref (n0 + 59)), (1, .int p0), (2, .int p1), (3, .int p2), (4, .int p3), (5, .int p4), (6, .int p5)] [] K I L (z_q0 K Q)
  refine z_aload_n 0 dX13_trial_0 rfl ?_
  refine z_iload_n 1 dX13_trial_1 rfl ?_
  refine z_iload_n 3 dX13_trial_2 rfl ?_
  refine z_callV0 (As := [.int p0, .int p2]) (st := []) dX13_trial_3 hy_X13_isPoint hL.1 hL.2.1 (by decide) wg_1855 wg_1857 wg_60 (Nat.le_refl _) (Nat.le_of_ble_eq_true rfl) (RM0.mono h (fun vv I1 L2 h => ?_))
  obtain ⟨r3, rfl, h⟩ := h
  change Z n0 xX13_trial (d + 1) 0 0 6 [(0, .ref (n0 + 59)), (1, .int p0), (2, .int p1), (3, .int p2), (4, .int p3), (5, .int p4), (6, .int p5)] [.int r3] K I1 L2 (z_q0 K Q)
  refine z_if_eq 27 dX13_trial_6 (by decide) (fun g4 => ?_) (fun g4 => ?_)
  · rw [if_pos g4] at h
    refine z_aload_n 0 dX13_trial_27 rfl ?_
    refine z_iconst (-1) dX13_trial_28 (by decide) ?_
    refine z_callV0 (As := [.int (-1)]) (st := []) dX13_trial_29 hy_X13_refuse hL.1 hL.2.1 (by decide) wg_1778 wg_1780 wg_54 (Nat.le_refl _) (Nat.le_of_ble_eq_true rfl) (RM0.mono h (fun vv I5 L6 h => ?_))
    obtain ⟨r7, rfl, h⟩ := h
    change Z n0 xX13_trial (d + 1) 0 0 32 [(0, .ref (n0 + 59)), (1, .int p0), (2, .int p1), (3, .int p2), (4, .int p3), (5, .int p4), (6, .int p5)] [.int r7] K I5 L6 (z_q0 K Q)
    exact z_iret dX13_trial_32 rfl ⟨rfl, h⟩
  · rw [if_neg g4] at h
    refine z_aload_n 0 dX13_trial_9 rfl ?_
    refine z_iload_n 1 dX13_trial_10 rfl ?_
    refine z_iload 4 dX13_trial_11 rfl ?_
    refine z_callV0 (As := [.int p0, .int p3]) (st := []) dX13_trial_13 hy_X13_isPoint hL.1 hL.2.1 (by decide) wg_1855 wg_1857 wg_60 (Nat.le_refl _) (Nat.le_of_ble_eq_true rfl) (RM0.mono h (fun vv I8 L9 h => ?_))
    obtain ⟨r10, rfl, h⟩ := h
    change Z n0 xX13_trial (d + 1) 0 0 16 [(0, .ref (n0 + 59)), (1, .int p0), (2, .int p1), (3, .int p2), (4, .int p3), (5, .int p4), (6, .int p5)] [.int r10] K I8 L9 (z_q0 K Q)
    refine z_if_eq 27 dX13_trial_16 (by decide) (fun g11 => ?_) (fun g11 => ?_)
    · rw [if_pos g11] at h
      refine z_aload_n 0 dX13_trial_27 rfl ?_
      refine z_iconst (-1) dX13_trial_28 (by decide) ?_
      refine z_callV0 (As := [.int (-1)]) (st := []) dX13_trial_29 hy_X13_refuse hL.1 hL.2.1 (by decide) wg_1778 wg_1780 wg_54 (Nat.le_refl _) (Nat.le_of_ble_eq_true rfl) (RM0.mono h (fun vv I12 L13 h => ?_))
      obtain ⟨r14, rfl, h⟩ := h
      change Z n0 xX13_trial (d + 1) 0 0 32 [(0, .ref (n0 + 59)), (1, .int p0), (2, .int p1), (3, .int p2), (4, .int p3), (5, .int p4), (6, .int p5)] [.int r14] K I12 L13 (z_q0 K Q)
      exact z_iret dX13_trial_32 rfl ⟨rfl, h⟩
    · rw [if_neg g11] at h
      refine z_aload_n 0 dX13_trial_19 rfl ?_
      refine z_iload_n 2 dX13_trial_20 rfl ?_
      refine z_callV0 (As := [.int p1]) (st := []) dX13_trial_21 hy_X13_isBody hL.1 hL.2.1 (by decide) wg_1816 wg_1818 wg_56 (Nat.le_refl _) (Nat.le_of_ble_eq_true rfl) (RM0.mono h (fun vv I15 L16 h => ?_))
      obtain ⟨r17, rfl, h⟩ := h
      change Z n0 xX13_trial (d + 1) 0 0 24 [(0, .ref (n0 + 59)), (1, .int p0), (2, .int p1), (3, .int p2), (4, .int p3), (5, .int p4), (6, .int p5)] [.int r17] K I15 L16 (z_q0 K Q)
      refine z_if_ne 33 dX13_trial_24 (by decide) (fun g18 => ?_) (fun g18 => ?_)
      · rw [if_neg g18] at h
        refine z_iload 5 dX13_trial_33 rfl ?_
        refine z_if_lt 43 dX13_trial_35 (by decide) (fun g19 => ?_) (fun g19 => ?_)
        · rw [if_pos g19] at h
          refine z_aload_n 0 dX13_trial_43 rfl ?_
          refine z_bipush (-4) dX13_trial_44 (by decide) ?_
          refine z_callV0 (As := [.int (-4)]) (st := []) dX13_trial_46 hy_X13_refuse hL.1 hL.2.1 (by decide) wg_1778 wg_1780 wg_54 (Nat.le_refl _) (Nat.le_of_ble_eq_true rfl) (RM0.mono h (fun vv I20 L21 h => ?_))
          obtain ⟨r22, rfl, h⟩ := h
          change Z n0 xX13_trial (d + 1) 0 0 49 [(0, .ref (n0 + 59)), (1, .int p0), (2, .int p1), (3, .int p2), (4, .int p3), (5, .int p4), (6, .int p5)] [.int r22] K I20 L21 (z_q0 K Q)
          exact z_iret dX13_trial_49 rfl ⟨rfl, h⟩
        · rw [if_neg g19] at h
          refine z_iload 6 dX13_trial_38 rfl ?_
          refine z_if_ge 50 dX13_trial_40 (by decide) (fun g23 => ?_) (fun g23 => ?_)
          · rw [if_neg g23] at h
            refine z_iload 5 dX13_trial_50 rfl ?_
            refine z_ldc_w 99999 dX13_trial_52 wg_2018 ?_
            refine z_icmp_gt 75 dX13_trial_55 (by decide) (fun g24 => ?_) (fun g24 => ?_)
            · rw [if_pos g24] at h
              refine z_aload_n 0 dX13_trial_75 rfl ?_
              refine z_bipush (-6) dX13_trial_76 (by decide) ?_
              refine z_callV0 (As := [.int (-6)]) (st := []) dX13_trial_78 hy_X13_refuse hL.1 hL.2.1 (by decide) wg_1778 wg_1780 wg_54 (Nat.le_refl _) (Nat.le_of_ble_eq_true rfl) (RM0.mono h (fun vv I25 L26 h => ?_))
              obtain ⟨r27, rfl, h⟩ := h
              change Z n0 xX13_trial (d + 1) 0 0 81 [(0, .ref (n0 + 59)), (1, .int p0), (2, .int p1), (3, .int p2), (4, .int p3), (5, .int p4), (6, .int p5)] [.int r27] K I25 L26 (z_q0 K Q)
              exact z_iret dX13_trial_81 rfl ⟨rfl, h⟩
            · rw [if_neg g24] at h
              refine z_iload 6 dX13_trial_58 rfl ?_
              refine z_sipush 999 dX13_trial_60 (by decide) ?_
              refine z_icmp_gt 75 dX13_trial_63 (by decide) (fun g28 => ?_) (fun g28 => ?_)
              · rw [if_pos g28] at h
                refine z_aload_n 0 dX13_trial_75 rfl ?_
                refine z_bipush (-6) dX13_trial_76 (by decide) ?_
                refine z_callV0 (As := [.int (-6)]) (st := []) dX13_trial_78 hy_X13_refuse hL.1 hL.2.1 (by decide) wg_1778 wg_1780 wg_54 (Nat.le_refl _) (Nat.le_of_ble_eq_true rfl) (RM0.mono h (fun vv I29 L30 h => ?_))
                obtain ⟨r31, rfl, h⟩ := h
                change Z n0 xX13_trial (d + 1) 0 0 81 [(0, .ref (n0 + 59)), (1, .int p0), (2, .int p1), (3, .int p2), (4, .int p3), (5, .int p4), (6, .int p5)] [.int r31] K I29 L30 (z_q0 K Q)
                exact z_iret dX13_trial_81 rfl ⟨rfl, h⟩
              · rw [if_neg g28] at h
                refine z_aload_n 0 dX13_trial_66 rfl ?_
                refine fg_13_619 (I15 59 107) rfl dX13_trial_67 hL.1 hL.2.1 rfl ?_
                refine z_bipush 30 dX13_trial_70 (by decide) ?_
                refine z_icmp_ne 82 dX13_trial_72 (by decide) (fun g32 => ?_) (fun g32 => ?_)
                · rw [if_neg g32] at h
                  refine z_aload_n 0 dX13_trial_82 rfl ?_
                  refine fg_13_231 (some 133) rfl dX13_trial_83 hL.1 hL.2.1 (ma_108 hL).1 ?_
                  refine z_aload_n 0 dX13_trial_86 rfl ?_
                  refine fg_13_619 (I15 59 107) rfl dX13_trial_87 hL.1 hL.2.1 rfl ?_
                  refine z_iload_n 1 dX13_trial_90 rfl ?_
                  obtain ⟨o33, h⟩ := h
                  refine z_iast dX13_trial_91 (ma_108 hL).2.1 (ma_108 hL).2.2 o33 ?_
                  refine z_aload_n 0 dX13_trial_92 rfl ?_
                  refine fg_13_234 (some 134) rfl dX13_trial_93 hL.1 hL.2.1 (ma_109 hL).1 ?_
                  refine z_aload_n 0 dX13_trial_96 rfl ?_
                  refine fg_13_619 (I15 59 107) rfl dX13_trial_97 hL.1 hL.2.1 rfl ?_
                  refine z_iload_n 2 dX13_trial_100 rfl ?_
                  refine z_iast dX13_trial_101 (ma_109 hL).2.1 (ma_109 hL).2.2 o33 ?_
                  refine z_aload_n 0 dX13_trial_102 rfl ?_
                  refine fg_13_237 (some 135) rfl dX13_trial_103 hL.1 hL.2.1 (ma_110 hL).1 ?_
                  refine z_aload_n 0 dX13_trial_106 rfl ?_
                  refine fg_13_619 (I15 59 107) rfl dX13_trial_107 hL.1 hL.2.1 rfl ?_
                  refine z_iload_n 3 dX13_trial_110 rfl ?_
                  refine z_iast dX13_trial_111 (ma_110 hL).2.1 (ma_110 hL).2.2 o33 ?_
                  refine z_aload_n 0 dX13_trial_112 rfl ?_
                  refine fg_13_240 (some 136) rfl dX13_trial_113 hL.1 hL.2.1 (ma_111 hL).1 ?_
                  refine z_aload_n 0 dX13_trial_116 rfl ?_
                  refine fg_13_619 (I15 59 107) rfl dX13_trial_117 hL.1 hL.2.1 rfl ?_
                  refine z_iload 4 dX13_trial_120 rfl ?_
                  refine z_iast dX13_trial_122 (ma_111 hL).2.1 (ma_111 hL).2.2 o33 ?_
                  refine z_aload_n 0 dX13_trial_123 rfl ?_
                  refine fg_13_243 (some 137) rfl dX13_trial_124 hL.1 hL.2.1 (ma_112 hL).1 ?_
                  refine z_aload_n 0 dX13_trial_127 rfl ?_
                  refine fg_13_619 (I15 59 107) rfl dX13_trial_128 hL.1 hL.2.1 rfl ?_
                  refine z_iload 5 dX13_trial_131 rfl ?_
                  refine z_iload 6 dX13_trial_133 rfl ?_
                  refine z_isub dX13_trial_135 ?_
                  refine z_iast dX13_trial_136 (ma_112 hL).2.1 (ma_112 hL).2.2 o33 ?_
                  refine z_aload_n 0 dX13_trial_137 rfl ?_
                  refine fg_13_246 (some 138) rfl dX13_trial_138 hL.1 hL.2.1 (ma_113 hL).1 ?_
                  refine z_aload_n 0 dX13_trial_141 rfl ?_
                  refine fg_13_619 (I15 59 107) rfl dX13_trial_142 hL.1 hL.2.1 rfl ?_
                  refine z_iload 5 dX13_trial_145 rfl ?_
                  refine z_iload 6 dX13_trial_147 rfl ?_
                  refine z_iadd dX13_trial_149 ?_
                  refine z_iast dX13_trial_150 (ma_113 hL).2.1 (ma_113 hL).2.2 o33 ?_
                  refine z_aload_n 0 dX13_trial_151 rfl ?_
                  refine z_dup dX13_trial_152 rfl ?_
                  refine fg_13_619 (I15 59 107) rfl dX13_trial_153 hL.1 hL.2.1 rfl ?_
                  refine z_iconst 1 dX13_trial_156 (by decide) ?_
                  refine z_iadd dX13_trial_157 ?_
                  refine fp_13_619 rfl dX13_trial_158 hL.1 hL.2.1 ?_
                  refine z_aload_n 0 dX13_trial_161 rfl ?_
                  refine fg_13_619 (((I15 59 107) + 1)) rfl dX13_trial_162 hL.1 hL.2.1 rfl ?_
                  exact z_iret dX13_trial_165 rfl ⟨rfl, h⟩
                · rw [if_pos g32] at h
                  refine z_aload_n 0 dX13_trial_75 rfl ?_
                  refine z_bipush (-6) dX13_trial_76 (by decide) ?_
                  refine z_callV0 (As := [.int (-6)]) (st := []) dX13_trial_78 hy_X13_refuse hL.1 hL.2.1 (by decide) wg_1778 wg_1780 wg_54 (Nat.le_refl _) (Nat.le_of_ble_eq_true rfl) (RM0.mono h (fun vv I34 L35 h => ?_))
                  obtain ⟨r36, rfl, h⟩ := h
                  change Z n0 xX13_trial (d + 1) 0 0 81 [(0, .ref (n0 + 59)), (1, .int p0), (2, .int p1), (3, .int p2), (4, .int p3), (5, .int p4), (6, .int p5)] [.int r36] K I34 L35 (z_q0 K Q)
                  exact z_iret dX13_trial_81 rfl ⟨rfl, h⟩
          · rw [if_pos g23] at h
            refine z_aload_n 0 dX13_trial_43 rfl ?_
            refine z_bipush (-4) dX13_trial_44 (by decide) ?_
            refine z_callV0 (As := [.int (-4)]) (st := []) dX13_trial_46 hy_X13_refuse hL.1 hL.2.1 (by decide) wg_1778 wg_1780 wg_54 (Nat.le_refl _) (Nat.le_of_ble_eq_true rfl) (RM0.mono h (fun vv I37 L38 h => ?_))
            obtain ⟨r39, rfl, h⟩ := h
            change Z n0 xX13_trial (d + 1) 0 0 49 [(0, .ref (n0 + 59)), (1, .int p0), (2, .int p1), (3, .int p2), (4, .int p3), (5, .int p4), (6, .int p5)] [.int r39] K I37 L38 (z_q0 K Q)
            exact z_iret dX13_trial_49 rfl ⟨rfl, h⟩
      · rw [if_pos g18] at h
        refine z_aload_n 0 dX13_trial_27 rfl ?_
        refine z_iconst (-1) dX13_trial_28 (by decide) ?_
        refine z_callV0 (As := [.int (-1)]) (st := []) dX13_trial_29 hy_X13_refuse hL.1 hL.2.1 (by decide) wg_1778 wg_1780 wg_54 (Nat.le_refl _) (Nat.le_of_ble_eq_true rfl) (RM0.mono h (fun vv I40 L41 h => ?_))
        obtain ⟨r42, rfl, h⟩ := h
        change Z n0 xX13_trial (d + 1) 0 0 32 [(0, .ref (n0 + 59)), (1, .int p0), (2, .int p1), (3, .int p2), (4, .int p3), (5, .int p4), (6, .int p5)] [.int r42] K I40 L41 (z_q0 K Q)
        exact z_iret dX13_trial_32 rfl ⟨rfl, h⟩
theorem dX13_said_0 : decode cX13_said 0 = .ok (.aload_n 0, 1) := by decide +kernel
theorem dX13_said_1 : decode cX13_said 1 = .ok (.iload_n 1, 1) := by decide +kernel
theorem dX13_said_2 : decode cX13_said 2 = .ok (.iload_n 3, 1) := by decide +kernel
theorem dX13_said_3 : decode cX13_said 3 = .ok (.invokevirtual 445, 3) := by decide +kernel
theorem dX13_said_6 : decode cX13_said 6 = .ok (.ifCond .eq 21, 3) := by decide +kernel
theorem dX13_said_9 : decode cX13_said 9 = .ok (.aload_n 0, 1) := by decide +kernel
theorem dX13_said_10 : decode cX13_said 10 = .ok (.iload_n 1, 1) := by decide +kernel
theorem dX13_said_11 : decode cX13_said 11 = .ok (.iload 4, 2) := by decide +kernel
theorem dX13_said_13 : decode cX13_said 13 = .ok (.invokevirtual 445, 3) := by decide +kernel
theorem dX13_said_16 : decode cX13_said 16 = .ok (.ifCond .eq 11, 3) := by decide +kernel
theorem dX13_said_19 : decode cX13_said 19 = .ok (.aload_n 0, 1) := by decide +kernel
theorem dX13_said_20 : decode cX13_said 20 = .ok (.iload_n 2, 1) := by decide +kernel
theorem dX13_said_21 : decode cX13_said 21 = .ok (.invokevirtual 331, 3) := by decide +kernel
theorem dX13_said_24 : decode cX13_said 24 = .ok (.ifCond .ne 9, 3) := by decide +kernel
theorem dX13_said_27 : decode cX13_said 27 = .ok (.aload_n 0, 1) := by decide +kernel
theorem dX13_said_28 : decode cX13_said 28 = .ok (.iconst (-1), 1) := by decide +kernel
theorem dX13_said_29 : decode cX13_said 29 = .ok (.invokevirtual 334, 3) := by decide +kernel
theorem dX13_said_32 : decode cX13_said 32 = .ok (.ireturn, 1) := by decide +kernel
theorem dX13_said_33 : decode cX13_said 33 = .ok (.iload 5, 2) := by decide +kernel
theorem dX13_said_35 : decode cX13_said 35 = .ok (.i2l, 1) := by decide +kernel
theorem dX13_said_36 : decode cX13_said 36 = .ok (.lconst 0, 1) := by decide +kernel
theorem dX13_said_37 : decode cX13_said 37 = .ok (.ldc2_w 366, 3) := by decide +kernel
theorem dX13_said_40 : decode cX13_said 40 = .ok (.invokestatic 291, 3) := by decide +kernel
theorem dX13_said_43 : decode cX13_said 43 = .ok (.ifCond .ne 10, 3) := by decide +kernel
theorem dX13_said_46 : decode cX13_said 46 = .ok (.aload_n 0, 1) := by decide +kernel
theorem dX13_said_47 : decode cX13_said 47 = .ok (.bipush (-2), 2) := by decide +kernel
theorem dX13_said_49 : decode cX13_said 49 = .ok (.invokevirtual 334, 3) := by decide +kernel
theorem dX13_said_52 : decode cX13_said 52 = .ok (.ireturn, 1) := by decide +kernel
theorem dX13_said_53 : decode cX13_said 53 = .ok (.iconst 0, 1) := by decide +kernel
theorem dX13_said_54 : decode cX13_said 54 = .ok (.istore 6, 2) := by decide +kernel
theorem dX13_said_56 : decode cX13_said 56 = .ok (.iconst 0, 1) := by decide +kernel
theorem dX13_said_57 : decode cX13_said 57 = .ok (.istore 7, 2) := by decide +kernel
theorem dX13_said_59 : decode cX13_said 59 = .ok (.iconst 0, 1) := by decide +kernel
theorem dX13_said_60 : decode cX13_said 60 = .ok (.istore 8, 2) := by decide +kernel
theorem dX13_said_62 : decode cX13_said 62 = .ok (.iconst 0, 1) := by decide +kernel
theorem dX13_said_63 : decode cX13_said 63 = .ok (.istore 9, 2) := by decide +kernel
theorem dX13_said_65 : decode cX13_said 65 = .ok (.iload 9, 2) := by decide +kernel
theorem dX13_said_67 : decode cX13_said 67 = .ok (.aload_n 0, 1) := by decide +kernel
theorem dX13_said_68 : decode cX13_said 68 = .ok (.getfield 619, 3) := by decide +kernel
theorem dX13_said_71 : decode cX13_said 71 = .ok (.if_icmp .ge 119, 3) := by decide +kernel
theorem dX13_said_74 : decode cX13_said 74 = .ok (.aload_n 0, 1) := by decide +kernel
theorem dX13_said_75 : decode cX13_said 75 = .ok (.getfield 231, 3) := by decide +kernel
theorem dX13_said_78 : decode cX13_said 78 = .ok (.iload 9, 2) := by decide +kernel
theorem dX13_said_80 : decode cX13_said 80 = .ok (.iaload, 1) := by decide +kernel
theorem dX13_said_81 : decode cX13_said 81 = .ok (.iload_n 1, 1) := by decide +kernel
theorem dX13_said_82 : decode cX13_said 82 = .ok (.if_icmp .ne 102, 3) := by decide +kernel
theorem dX13_said_85 : decode cX13_said 85 = .ok (.aload_n 0, 1) := by decide +kernel
theorem dX13_said_86 : decode cX13_said 86 = .ok (.getfield 234, 3) := by decide +kernel
theorem dX13_said_89 : decode cX13_said 89 = .ok (.iload 9, 2) := by decide +kernel
theorem dX13_said_91 : decode cX13_said 91 = .ok (.iaload, 1) := by decide +kernel
theorem dX13_said_92 : decode cX13_said 92 = .ok (.iload_n 2, 1) := by decide +kernel
theorem dX13_said_93 : decode cX13_said 93 = .ok (.if_icmp .ne 91, 3) := by decide +kernel
theorem dX13_said_96 : decode cX13_said 96 = .ok (.aload_n 0, 1) := by decide +kernel
theorem dX13_said_97 : decode cX13_said 97 = .ok (.getfield 237, 3) := by decide +kernel
theorem dX13_said_100 : decode cX13_said 100 = .ok (.iload 9, 2) := by decide +kernel
theorem dX13_said_102 : decode cX13_said 102 = .ok (.iaload, 1) := by decide +kernel
theorem dX13_said_103 : decode cX13_said 103 = .ok (.iload_n 3, 1) := by decide +kernel
theorem dX13_said_104 : decode cX13_said 104 = .ok (.if_icmp .ne 80, 3) := by decide +kernel
theorem dX13_said_107 : decode cX13_said 107 = .ok (.aload_n 0, 1) := by decide +kernel
theorem dX13_said_108 : decode cX13_said 108 = .ok (.getfield 240, 3) := by decide +kernel
theorem dX13_said_111 : decode cX13_said 111 = .ok (.iload 9, 2) := by decide +kernel
theorem dX13_said_113 : decode cX13_said 113 = .ok (.iaload, 1) := by decide +kernel
theorem dX13_said_114 : decode cX13_said 114 = .ok (.iload 4, 2) := by decide +kernel
theorem dX13_said_116 : decode cX13_said 116 = .ok (.if_icmp .ne 68, 3) := by decide +kernel
theorem dX13_said_119 : decode cX13_said 119 = .ok (.iload 6, 2) := by decide +kernel
theorem dX13_said_121 : decode cX13_said 121 = .ok (.ifCond .eq 15, 3) := by decide +kernel
theorem dX13_said_124 : decode cX13_said 124 = .ok (.aload_n 0, 1) := by decide +kernel
theorem dX13_said_125 : decode cX13_said 125 = .ok (.getfield 243, 3) := by decide +kernel
theorem dX13_said_128 : decode cX13_said 128 = .ok (.iload 9, 2) := by decide +kernel
theorem dX13_said_130 : decode cX13_said 130 = .ok (.iaload, 1) := by decide +kernel
theorem dX13_said_131 : decode cX13_said 131 = .ok (.iload 7, 2) := by decide +kernel
theorem dX13_said_133 : decode cX13_said 133 = .ok (.if_icmp .le 13, 3) := by decide +kernel
theorem dX13_said_136 : decode cX13_said 136 = .ok (.aload_n 0, 1) := by decide +kernel
theorem dX13_said_137 : decode cX13_said 137 = .ok (.getfield 243, 3) := by decide +kernel
theorem dX13_said_140 : decode cX13_said 140 = .ok (.iload 9, 2) := by decide +kernel
theorem dX13_said_142 : decode cX13_said 142 = .ok (.iaload, 1) := by decide +kernel
theorem dX13_said_143 : decode cX13_said 143 = .ok (.goto 5, 3) := by decide +kernel
theorem dX13_said_146 : decode cX13_said 146 = .ok (.iload 7, 2) := by decide +kernel
theorem dX13_said_148 : decode cX13_said 148 = .ok (.istore 7, 2) := by decide +kernel
theorem dX13_said_150 : decode cX13_said 150 = .ok (.iload 6, 2) := by decide +kernel
theorem dX13_said_152 : decode cX13_said 152 = .ok (.ifCond .eq 15, 3) := by decide +kernel
theorem dX13_said_155 : decode cX13_said 155 = .ok (.aload_n 0, 1) := by decide +kernel
theorem dX13_said_156 : decode cX13_said 156 = .ok (.getfield 246, 3) := by decide +kernel
theorem dX13_said_159 : decode cX13_said 159 = .ok (.iload 9, 2) := by decide +kernel
theorem dX13_said_161 : decode cX13_said 161 = .ok (.iaload, 1) := by decide +kernel
theorem dX13_said_162 : decode cX13_said 162 = .ok (.iload 8, 2) := by decide +kernel
theorem dX13_said_164 : decode cX13_said 164 = .ok (.if_icmp .ge 13, 3) := by decide +kernel
theorem dX13_said_167 : decode cX13_said 167 = .ok (.aload_n 0, 1) := by decide +kernel
theorem dX13_said_168 : decode cX13_said 168 = .ok (.getfield 246, 3) := by decide +kernel
theorem dX13_said_171 : decode cX13_said 171 = .ok (.iload 9, 2) := by decide +kernel
theorem dX13_said_173 : decode cX13_said 173 = .ok (.iaload, 1) := by decide +kernel
theorem dX13_said_174 : decode cX13_said 174 = .ok (.goto 5, 3) := by decide +kernel
theorem dX13_said_177 : decode cX13_said 177 = .ok (.iload 8, 2) := by decide +kernel
theorem dX13_said_179 : decode cX13_said 179 = .ok (.istore 8, 2) := by decide +kernel
theorem dX13_said_181 : decode cX13_said 181 = .ok (.iinc 6 1, 3) := by decide +kernel
theorem dX13_said_184 : decode cX13_said 184 = .ok (.iinc 9 1, 3) := by decide +kernel
theorem dX13_said_187 : decode cX13_said 187 = .ok (.goto (-122), 3) := by decide +kernel
theorem dX13_said_190 : decode cX13_said 190 = .ok (.iload 6, 2) := by decide +kernel
theorem dX13_said_192 : decode cX13_said 192 = .ok (.ifCond .ne 10, 3) := by decide +kernel
theorem dX13_said_195 : decode cX13_said 195 = .ok (.aload_n 0, 1) := by decide +kernel
theorem dX13_said_196 : decode cX13_said 196 = .ok (.bipush (-5), 2) := by decide +kernel
theorem dX13_said_198 : decode cX13_said 198 = .ok (.invokevirtual 334, 3) := by decide +kernel
theorem dX13_said_201 : decode cX13_said 201 = .ok (.ireturn, 1) := by decide +kernel
theorem dX13_said_202 : decode cX13_said 202 = .ok (.iload 7, 2) := by decide +kernel
theorem dX13_said_204 : decode cX13_said 204 = .ok (.iload 8, 2) := by decide +kernel
theorem dX13_said_206 : decode cX13_said 206 = .ok (.if_icmp .le 10, 3) := by decide +kernel
theorem dX13_said_209 : decode cX13_said 209 = .ok (.aload_n 0, 1) := by decide +kernel
theorem dX13_said_210 : decode cX13_said 210 = .ok (.bipush (-3), 2) := by decide +kernel
theorem dX13_said_212 : decode cX13_said 212 = .ok (.invokevirtual 334, 3) := by decide +kernel
theorem dX13_said_215 : decode cX13_said 215 = .ok (.ireturn, 1) := by decide +kernel
theorem dX13_said_216 : decode cX13_said 216 = .ok (.iload 5, 2) := by decide +kernel
theorem dX13_said_218 : decode cX13_said 218 = .ok (.iconst 2, 1) := by decide +kernel
theorem dX13_said_219 : decode cX13_said 219 = .ok (.if_icmp .ge 16, 3) := by decide +kernel
theorem dX13_said_222 : decode cX13_said 222 = .ok (.iload 5, 2) := by decide +kernel
theorem dX13_said_224 : decode cX13_said 224 = .ok (.ifCond .ne 8, 3) := by decide +kernel
theorem dX13_said_227 : decode cX13_said 227 = .ok (.iload 7, 2) := by decide +kernel
theorem dX13_said_229 : decode cX13_said 229 = .ok (.goto 5, 3) := by decide +kernel
theorem dX13_said_232 : decode cX13_said 232 = .ok (.iload 8, 2) := by decide +kernel
theorem dX13_said_234 : decode cX13_said 234 = .ok (.ireturn, 1) := by decide +kernel
theorem dX13_said_235 : decode cX13_said 235 = .ok (.aload_n 0, 1) := by decide +kernel
theorem dX13_said_236 : decode cX13_said 236 = .ok (.iload_n 1, 1) := by decide +kernel
theorem dX13_said_237 : decode cX13_said 237 = .ok (.iload_n 2, 1) := by decide +kernel
theorem dX13_said_238 : decode cX13_said 238 = .ok (.invokevirtual 498, 3) := by decide +kernel
theorem dX13_said_241 : decode cX13_said 241 = .ok (.ifCond .ne 12, 3) := by decide +kernel
theorem dX13_said_244 : decode cX13_said 244 = .ok (.aload_n 0, 1) := by decide +kernel
theorem dX13_said_245 : decode cX13_said 245 = .ok (.bipush (-7), 2) := by decide +kernel
theorem dX13_said_247 : decode cX13_said 247 = .ok (.invokevirtual 334, 3) := by decide +kernel
theorem dX13_said_250 : decode cX13_said 250 = .ok (.goto 29, 3) := by decide +kernel
theorem dX13_said_253 : decode cX13_said 253 = .ok (.aload_n 0, 1) := by decide +kernel
theorem dX13_said_254 : decode cX13_said 254 = .ok (.iload_n 1, 1) := by decide +kernel
theorem dX13_said_255 : decode cX13_said 255 = .ok (.iload_n 3, 1) := by decide +kernel
theorem dX13_said_256 : decode cX13_said 256 = .ok (.iload 4, 2) := by decide +kernel
theorem dX13_said_258 : decode cX13_said 258 = .ok (.invokevirtual 501, 3) := by decide +kernel
theorem dX13_said_261 : decode cX13_said 261 = .ok (.i2l, 1) := by decide +kernel
theorem dX13_said_262 : decode cX13_said 262 = .ok (.iload 7, 2) := by decide +kernel
theorem dX13_said_264 : decode cX13_said 264 = .ok (.i2l, 1) := by decide +kernel
theorem dX13_said_265 : decode cX13_said 265 = .ok (.iload 8, 2) := by decide +kernel
theorem dX13_said_267 : decode cX13_said 267 = .ok (.i2l, 1) := by decide +kernel
theorem dX13_said_268 : decode cX13_said 268 = .ok (.invokestatic 291, 3) := by decide +kernel
theorem dX13_said_271 : decode cX13_said 271 = .ok (.ifCond .eq 7, 3) := by decide +kernel
theorem dX13_said_274 : decode cX13_said 274 = .ok (.iconst 1, 1) := by decide +kernel
theorem dX13_said_275 : decode cX13_said 275 = .ok (.goto 4, 3) := by decide +kernel
theorem dX13_said_278 : decode cX13_said 278 = .ok (.iconst 0, 1) := by decide +kernel
theorem dX13_said_279 : decode cX13_said 279 = .ok (.ireturn, 1) := by decide +kernel
set_option maxRecDepth 100000 in
set_option maxHeartbeats 4000000 in
theorem wp_X13_said {n0 d : Nat} {K : z_K} {I : z_I} {L : z_L} {Q : z_q} {p0 : Int32} {p1 : Int32} {p2 : Int32} {p3 : Int32} {p4 : Int32} (hL : MLay K) (h : RM0 n0 xX13_isPoint d [.ref (n0 + 59), .int p0, .int p2] K I L (fun vv I1 L2 => ∃ r3 : Int32, vv = some (.int r3) ∧ (if r3 = 0 then RM0 n0 xX13_refuseFar d [.ref (n0 + 59), .int (-1)] K I1 L2 (fun vv I5 L6 => ∃ r7 : Int32, vv = some (.int r7) ∧ Q (some (.int r7)) I5 L6) else RM0 n0 xX13_isPoint d [.ref (n0 + 59), .int p0, .int p3] K I1 L2 (fun vv I8 L9 => ∃ r10 : Int32, vv = some (.int r10) ∧ (if r10 = 0 then RM0 n0 xX13_refuseFar d [.ref (n0 + 59), .int (-1)] K I8 L9 (fun vv I12 L13 => ∃ r14 : Int32, vv = some (.int r14) ∧ Q (some (.int r14)) I12 L13) else RM0 n0 xX13_isBody d [.ref (n0 + 59), .int p1] K I8 L9 (fun vv I15 L16 => ∃ r17 : Int32, vv = some (.int r17) ∧ (if r17 = 0 then RM0 n0 xX13_refuseFar d [.ref (n0 + 59), .int (-1)] K I15 L16 (fun vv I26 L27 => ∃ r28 : Int32, vv = some (.int r28) ∧ Q (some (.int r28)) I26 L27) else RM0 n0 xX13_in d [.long p4.toInt64, .long 0, .long 2] K I15 L16 (fun vv I19 L20 => ∃ r21 : Int32, vv = some (.int r21) ∧ (if r21 = 0 then RM0 n0 xX13_refuseFar d [.ref (n0 + 59), .int (-2)] K I19 L20 (fun vv I23 L24 => ∃ r25 : Int32, vv = some (.int r25) ∧ Q (some (.int r25)) I23 L24) else Z n0 xX13_said (d + 1) 0 0 65 [(0, .ref (n0 + 59)), (1, .int p0), (2, .int p1), (3, .int p2), (4, .int p3), (5, .int p4), (6, .int 0), (7, .int 0), (8, .int 0), (9, .int 0)] [] K I19 L20 (z_q0 K Q)))))))))) : RM0 n0 xX13_said (d + 1) [.ref (n0 + 59), .int p0, .int p1, .int p2, .int p3, .int p4] K I L Q := by
  refine z_entry0 (by decide) (Nat.le_of_ble_eq_true rfl) ?_
  change Z n0 xX13_said (d + 1) 0 0 0 [(0, .ref (n0 + 59)), (1, .int p0), (2, .int p1), (3, .int p2), (4, .int p3), (5, .int p4)] [] K I L (z_q0 K Q)
  refine z_aload_n 0 dX13_said_0 rfl ?_
  refine z_iload_n 1 dX13_said_1 rfl ?_
  refine z_iload_n 3 dX13_said_2 rfl ?_
  refine z_callV0 (As := [.int p0, .int p2]) (st := []) dX13_said_3 hy_X13_isPoint hL.1 hL.2.1 (by decide) wg_1855 wg_1857 wg_60 (Nat.le_refl _) (Nat.le_of_ble_eq_true rfl) (RM0.mono h (fun vv I1 L2 h => ?_))
  obtain ⟨r3, rfl, h⟩ := h
  change Z n0 xX13_said (d + 1) 0 0 6 [(0, .ref (n0 + 59)), (1, .int p0), (2, .int p1), (3, .int p2), (4, .int p3), (5, .int p4)] [.int r3] K I1 L2 (z_q0 K Q)
  refine z_if_eq 27 dX13_said_6 (by decide) (fun g4 => ?_) (fun g4 => ?_)
  · rw [if_pos g4] at h
    refine z_aload_n 0 dX13_said_27 rfl ?_
    refine z_iconst (-1) dX13_said_28 (by decide) ?_
    refine z_callV0 (As := [.int (-1)]) (st := []) dX13_said_29 hy_X13_refuseFar hL.1 hL.2.1 (by decide) wg_1820 wg_1822 wg_57 (Nat.le_refl _) (Nat.le_of_ble_eq_true rfl) (RM0.mono h (fun vv I5 L6 h => ?_))
    obtain ⟨r7, rfl, h⟩ := h
    change Z n0 xX13_said (d + 1) 0 0 32 [(0, .ref (n0 + 59)), (1, .int p0), (2, .int p1), (3, .int p2), (4, .int p3), (5, .int p4)] [.int r7] K I5 L6 (z_q0 K Q)
    exact z_iret dX13_said_32 rfl ⟨rfl, h⟩
  · rw [if_neg g4] at h
    refine z_aload_n 0 dX13_said_9 rfl ?_
    refine z_iload_n 1 dX13_said_10 rfl ?_
    refine z_iload 4 dX13_said_11 rfl ?_
    refine z_callV0 (As := [.int p0, .int p3]) (st := []) dX13_said_13 hy_X13_isPoint hL.1 hL.2.1 (by decide) wg_1855 wg_1857 wg_60 (Nat.le_refl _) (Nat.le_of_ble_eq_true rfl) (RM0.mono h (fun vv I8 L9 h => ?_))
    obtain ⟨r10, rfl, h⟩ := h
    change Z n0 xX13_said (d + 1) 0 0 16 [(0, .ref (n0 + 59)), (1, .int p0), (2, .int p1), (3, .int p2), (4, .int p3), (5, .int p4)] [.int r10] K I8 L9 (z_q0 K Q)
    refine z_if_eq 27 dX13_said_16 (by decide) (fun g11 => ?_) (fun g11 => ?_)
    · rw [if_pos g11] at h
      refine z_aload_n 0 dX13_said_27 rfl ?_
      refine z_iconst (-1) dX13_said_28 (by decide) ?_
      refine z_callV0 (As := [.int (-1)]) (st := []) dX13_said_29 hy_X13_refuseFar hL.1 hL.2.1 (by decide) wg_1820 wg_1822 wg_57 (Nat.le_refl _) (Nat.le_of_ble_eq_true rfl) (RM0.mono h (fun vv I12 L13 h => ?_))
      obtain ⟨r14, rfl, h⟩ := h
      change Z n0 xX13_said (d + 1) 0 0 32 [(0, .ref (n0 + 59)), (1, .int p0), (2, .int p1), (3, .int p2), (4, .int p3), (5, .int p4)] [.int r14] K I12 L13 (z_q0 K Q)
      exact z_iret dX13_said_32 rfl ⟨rfl, h⟩
    · rw [if_neg g11] at h
      refine z_aload_n 0 dX13_said_19 rfl ?_
      refine z_iload_n 2 dX13_said_20 rfl ?_
      refine z_callV0 (As := [.int p1]) (st := []) dX13_said_21 hy_X13_isBody hL.1 hL.2.1 (by decide) wg_1816 wg_1818 wg_56 (Nat.le_refl _) (Nat.le_of_ble_eq_true rfl) (RM0.mono h (fun vv I15 L16 h => ?_))
      obtain ⟨r17, rfl, h⟩ := h
      change Z n0 xX13_said (d + 1) 0 0 24 [(0, .ref (n0 + 59)), (1, .int p0), (2, .int p1), (3, .int p2), (4, .int p3), (5, .int p4)] [.int r17] K I15 L16 (z_q0 K Q)
      refine z_if_ne 33 dX13_said_24 (by decide) (fun g18 => ?_) (fun g18 => ?_)
      · rw [if_neg g18] at h
        refine z_iload 5 dX13_said_33 rfl ?_
        refine z_i2l dX13_said_35 ?_
        refine z_lconst 0 dX13_said_36 (by decide) ?_
        refine z_ldc2_w 2 dX13_said_37 wg_1913 ?_
        refine z_callS0 (As := [.long p4.toInt64, .long 0, .long 2]) (st := []) dX13_said_40 hy_X13_in wg_1790 wg_1791 (Nat.le_refl _) (Nat.le_of_ble_eq_true rfl) (RM0.mono h (fun vv I19 L20 h => ?_))
        obtain ⟨r21, rfl, h⟩ := h
        change Z n0 xX13_said (d + 1) 0 0 43 [(0, .ref (n0 + 59)), (1, .int p0), (2, .int p1), (3, .int p2), (4, .int p3), (5, .int p4)] [.int r21] K I19 L20 (z_q0 K Q)
        refine z_if_ne 53 dX13_said_43 (by decide) (fun g22 => ?_) (fun g22 => ?_)
        · rw [if_neg g22] at h
          refine z_iconst 0 dX13_said_53 (by decide) ?_
          refine z_istore [1, 2, 3, 4, 5, 6, 0] [(0, .ref (n0 + 59)), (1, .int p0), (2, .int p1), (3, .int p2), (4, .int p3), (5, .int p4), (6, .int 0)] dX13_said_54 (by decide) rfl ?_
          refine z_iconst 0 dX13_said_56 (by decide) ?_
          refine z_istore [1, 2, 3, 4, 5, 6, 7, 0] [(0, .ref (n0 + 59)), (1, .int p0), (2, .int p1), (3, .int p2), (4, .int p3), (5, .int p4), (6, .int 0), (7, .int 0)] dX13_said_57 (by decide) rfl ?_
          refine z_iconst 0 dX13_said_59 (by decide) ?_
          refine z_istore [1, 2, 3, 4, 5, 6, 7, 8, 0] [(0, .ref (n0 + 59)), (1, .int p0), (2, .int p1), (3, .int p2), (4, .int p3), (5, .int p4), (6, .int 0), (7, .int 0), (8, .int 0)] dX13_said_60 (by decide) rfl ?_
          refine z_iconst 0 dX13_said_62 (by decide) ?_
          refine z_istore [1, 2, 3, 4, 5, 6, 7, 8, 9, 0] [(0, .ref (n0 + 59)), (1, .int p0), (2, .int p1), (3, .int p2), (4, .int p3), (5, .int p4), (6, .int 0), (7, .int 0), (8, .int 0), (9, .int 0)] dX13_said_63 (by decide) rfl ?_
          exact h
        · rw [if_pos g22] at h
          refine z_aload_n 0 dX13_said_46 rfl ?_
          refine z_bipush (-2) dX13_said_47 (by decide) ?_
          refine z_callV0 (As := [.int (-2)]) (st := []) dX13_said_49 hy_X13_refuseFar hL.1 hL.2.1 (by decide) wg_1820 wg_1822 wg_57 (Nat.le_refl _) (Nat.le_of_ble_eq_true rfl) (RM0.mono h (fun vv I23 L24 h => ?_))
          obtain ⟨r25, rfl, h⟩ := h
          change Z n0 xX13_said (d + 1) 0 0 52 [(0, .ref (n0 + 59)), (1, .int p0), (2, .int p1), (3, .int p2), (4, .int p3), (5, .int p4)] [.int r25] K I23 L24 (z_q0 K Q)
          exact z_iret dX13_said_52 rfl ⟨rfl, h⟩
      · rw [if_pos g18] at h
        refine z_aload_n 0 dX13_said_27 rfl ?_
        refine z_iconst (-1) dX13_said_28 (by decide) ?_
        refine z_callV0 (As := [.int (-1)]) (st := []) dX13_said_29 hy_X13_refuseFar hL.1 hL.2.1 (by decide) wg_1820 wg_1822 wg_57 (Nat.le_refl _) (Nat.le_of_ble_eq_true rfl) (RM0.mono h (fun vv I26 L27 h => ?_))
        obtain ⟨r28, rfl, h⟩ := h
        change Z n0 xX13_said (d + 1) 0 0 32 [(0, .ref (n0 + 59)), (1, .int p0), (2, .int p1), (3, .int p2), (4, .int p3), (5, .int p4)] [.int r28] K I26 L27 (z_q0 K Q)
        exact z_iret dX13_said_32 rfl ⟨rfl, h⟩
set_option maxRecDepth 100000 in
set_option maxHeartbeats 4000000 in
theorem wp_X13_said_65 {n0 d : Nat} {rc rs : Nat} {K : z_K} {I : z_I} {L : z_L} {Q : z_q} {a1 : Int32} {a2 : Int32} {a3 : Int32} {a4 : Int32} {a5 : Int32} {a6 : Int32} {a7 : Int32} {a8 : Int32} {a9 : Int32} (hL : MLay K) (h : (if a9 < (I 59 107) then vp_in a9 30 ∧ Z n0 xX13_said (d + 1) rc rs 65 [(0, .ref (n0 + 59)), (1, .int a1), (2, .int a2), (3, .int a3), (4, .int a4), (5, .int a5), (6, .int (if ((I 133 a9.toNatClampNeg) : Int32) = a1 then if ((I 134 a9.toNatClampNeg) : Int32) = a2 then if ((I 135 a9.toNatClampNeg) : Int32) = a3 then if ((I 136 a9.toNatClampNeg) : Int32) = a4 then (a6 + 1) else a6 else a6 else a6 else a6)), (7, .int (if ((I 133 a9.toNatClampNeg) : Int32) = a1 then if ((I 134 a9.toNatClampNeg) : Int32) = a2 then if ((I 135 a9.toNatClampNeg) : Int32) = a3 then if ((I 136 a9.toNatClampNeg) : Int32) = a4 then if a6 = 0 then (I 137 a9.toNatClampNeg) else if a7 < ((I 137 a9.toNatClampNeg) : Int32) then (I 137 a9.toNatClampNeg) else a7 else a7 else a7 else a7 else a7)), (8, .int (if ((I 133 a9.toNatClampNeg) : Int32) = a1 then if ((I 134 a9.toNatClampNeg) : Int32) = a2 then if ((I 135 a9.toNatClampNeg) : Int32) = a3 then if ((I 136 a9.toNatClampNeg) : Int32) = a4 then if a6 = 0 then if a6 = 0 then (I 138 a9.toNatClampNeg) else if ((I 138 a9.toNatClampNeg) : Int32) < a8 then (I 138 a9.toNatClampNeg) else a8 else if a7 < ((I 137 a9.toNatClampNeg) : Int32) then if a6 = 0 then (I 138 a9.toNatClampNeg) else if ((I 138 a9.toNatClampNeg) : Int32) < a8 then (I 138 a9.toNatClampNeg) else a8 else if a6 = 0 then (I 138 a9.toNatClampNeg) else if ((I 138 a9.toNatClampNeg) : Int32) < a8 then (I 138 a9.toNatClampNeg) else a8 else a8 else a8 else a8 else a8)), (9, .int (a9 + 1))] [] K I L (z_q0 K Q) else (if a6 = 0 then RM0 n0 xX13_refuseFar d [.ref (n0 + 59), .int (-5)] K I L (fun vv I25 L26 => ∃ r27 : Int32, vv = some (.int r27) ∧ Q (some (.int r27)) I25 L26) else (if a8 < a7 then RM0 n0 xX13_refuseFar d [.ref (n0 + 59), .int (-3)] K I L (fun vv I22 L23 => ∃ r24 : Int32, vv = some (.int r24) ∧ Q (some (.int r24)) I22 L23) else (if a5 < 2 then Q (some (.int (if a5 = 0 then a7 else a8))) I L else RM0 n0 xX13_drawFor d [.ref (n0 + 59), .int a1, .int a2] K I L (fun vv I5 L6 => ∃ r7 : Int32, vv = some (.int r7) ∧ (if r7 = 0 then RM0 n0 xX13_refuseFar d [.ref (n0 + 59), .int (-7)] K I5 L6 (fun vv I17 L18 => ∃ r19 : Int32, vv = some (.int r19) ∧ Q (some (.int r19)) I17 L18) else RM0 n0 xX13_lengthOf d [.ref (n0 + 59), .int a1, .int a3, .int a4] K I5 L6 (fun vv I9 L10 => ∃ r11 : Int32, vv = some (.int r11) ∧ RM0 n0 xX13_in d [.long r11.toInt64, .long a7.toInt64, .long a8.toInt64] K I9 L10 (fun vv I12 L13 => ∃ r14 : Int32, vv = some (.int r14) ∧ Q (some (.int (if r14 = 0 then 0 else 1))) I12 L13))))))))) : Z n0 xX13_said (d + 1) rc rs 65 [(0, .ref (n0 + 59)), (1, .int a1), (2, .int a2), (3, .int a3), (4, .int a4), (5, .int a5), (6, .int a6), (7, .int a7), (8, .int a8), (9, .int a9)] [] K I L (z_q0 K Q) := by
  refine z_iload 9 dX13_said_65 rfl ?_
  refine z_aload_n 0 dX13_said_67 rfl ?_
  refine fg_13_619 (I 59 107) rfl dX13_said_68 hL.1 hL.2.1 rfl ?_
  refine z_icmp_ge 190 dX13_said_71 (by decide) (fun g1 => ?_) (fun g1 => ?_)
  · rw [if_neg g1] at h
    refine z_iload 6 dX13_said_190 rfl ?_
    refine z_if_ne 202 dX13_said_192 (by decide) (fun g2 => ?_) (fun g2 => ?_)
    · rw [if_neg g2] at h
      refine z_iload 7 dX13_said_202 rfl ?_
      refine z_iload 8 dX13_said_204 rfl ?_
      refine z_icmp_le 216 dX13_said_206 (by decide) (fun g3 => ?_) (fun g3 => ?_)
      · rw [if_neg g3] at h
        refine z_iload 5 dX13_said_216 rfl ?_
        refine z_iconst 2 dX13_said_218 (by decide) ?_
        refine z_icmp_ge 235 dX13_said_219 (by decide) (fun g4 => ?_) (fun g4 => ?_)
        · rw [if_neg g4] at h
          refine z_aload_n 0 dX13_said_235 rfl ?_
          refine z_iload_n 1 dX13_said_236 rfl ?_
          refine z_iload_n 2 dX13_said_237 rfl ?_
          refine z_callV0 (As := [.int a1, .int a2]) (st := []) dX13_said_238 hy_X13_drawFor hL.1 hL.2.1 (by decide) wg_1970 wg_1972 wg_78 (Nat.le_refl _) (Nat.le_of_ble_eq_true rfl) (RM0.mono h (fun vv I5 L6 h => ?_))
          obtain ⟨r7, rfl, h⟩ := h
          change Z n0 xX13_said (d + 1) rc rs 241 [(0, .ref (n0 + 59)), (1, .int a1), (2, .int a2), (3, .int a3), (4, .int a4), (5, .int a5), (6, .int a6), (7, .int a7), (8, .int a8), (9, .int a9)] [.int r7] K I5 L6 (z_q0 K Q)
          refine z_if_ne 253 dX13_said_241 (by decide) (fun g8 => ?_) (fun g8 => ?_)
          · rw [if_neg g8] at h
            refine z_aload_n 0 dX13_said_253 rfl ?_
            refine z_iload_n 1 dX13_said_254 rfl ?_
            refine z_iload_n 3 dX13_said_255 rfl ?_
            refine z_iload 4 dX13_said_256 rfl ?_
            refine z_callV0 (As := [.int a1, .int a3, .int a4]) (st := []) dX13_said_258 hy_X13_lengthOf hL.1 hL.2.1 (by decide) wg_1978 wg_1980 wg_79 (Nat.le_refl _) (Nat.le_of_ble_eq_true rfl) (RM0.mono h (fun vv I9 L10 h => ?_))
            obtain ⟨r11, rfl, h⟩ := h
            change Z n0 xX13_said (d + 1) rc rs 261 [(0, .ref (n0 + 59)), (1, .int a1), (2, .int a2), (3, .int a3), (4, .int a4), (5, .int a5), (6, .int a6), (7, .int a7), (8, .int a8), (9, .int a9)] [.int r11] K I9 L10 (z_q0 K Q)
            refine z_i2l dX13_said_261 ?_
            refine z_iload 7 dX13_said_262 rfl ?_
            refine z_i2l dX13_said_264 ?_
            refine z_iload 8 dX13_said_265 rfl ?_
            refine z_i2l dX13_said_267 ?_
            refine z_callS0 (As := [.long r11.toInt64, .long a7.toInt64, .long a8.toInt64]) (st := []) dX13_said_268 hy_X13_in wg_1790 wg_1791 (Nat.le_refl _) (Nat.le_of_ble_eq_true rfl) (RM0.mono h (fun vv I12 L13 h => ?_))
            obtain ⟨r14, rfl, h⟩ := h
            change Z n0 xX13_said (d + 1) rc rs 271 [(0, .ref (n0 + 59)), (1, .int a1), (2, .int a2), (3, .int a3), (4, .int a4), (5, .int a5), (6, .int a6), (7, .int a7), (8, .int a8), (9, .int a9)] [.int r14] K I12 L13 (z_q0 K Q)
            have key16 : Z n0 xX13_said (d + 1) rc rs 279 [] [.int (if r14 = 0 then 0 else 1)] K I12 L13 (z_q0 K Q) := by
              exact z_iret dX13_said_279 rfl ⟨rfl, h⟩
            refine z_if_eq 278 dX13_said_271 (by decide) (fun g15 => ?_) (fun g15 => ?_)
            · refine z_iconst 0 dX13_said_278 (by decide) ?_
              have ee : ((if r14 = 0 then 0 else 1) : Int32) = 0 := by rw [if_pos g15]
              rw [ee] at key16
              clear ee
              refine z_sub [] rfl ?_
              exact key16
            · refine z_iconst 1 dX13_said_274 (by decide) ?_
              refine z_goto 279 dX13_said_275 (by decide) ?_
              have ee : ((if r14 = 0 then 0 else 1) : Int32) = 1 := by rw [if_neg g15]
              rw [ee] at key16
              clear ee
              refine z_sub [] rfl ?_
              exact key16
          · rw [if_pos g8] at h
            refine z_aload_n 0 dX13_said_244 rfl ?_
            refine z_bipush (-7) dX13_said_245 (by decide) ?_
            refine z_callV0 (As := [.int (-7)]) (st := []) dX13_said_247 hy_X13_refuseFar hL.1 hL.2.1 (by decide) wg_1820 wg_1822 wg_57 (Nat.le_refl _) (Nat.le_of_ble_eq_true rfl) (RM0.mono h (fun vv I17 L18 h => ?_))
            obtain ⟨r19, rfl, h⟩ := h
            change Z n0 xX13_said (d + 1) rc rs 250 [(0, .ref (n0 + 59)), (1, .int a1), (2, .int a2), (3, .int a3), (4, .int a4), (5, .int a5), (6, .int a6), (7, .int a7), (8, .int a8), (9, .int a9)] [.int r19] K I17 L18 (z_q0 K Q)
            refine z_goto 279 dX13_said_250 (by decide) ?_
            exact z_iret dX13_said_279 rfl ⟨rfl, h⟩
        · rw [if_pos g4] at h
          refine z_iload 5 dX13_said_222 rfl ?_
          have key21 : Z n0 xX13_said (d + 1) rc rs 234 [] [.int (if a5 = 0 then a7 else a8)] K I L (z_q0 K Q) := by
            exact z_iret dX13_said_234 rfl ⟨rfl, h⟩
          refine z_if_ne 232 dX13_said_224 (by decide) (fun g20 => ?_) (fun g20 => ?_)
          · refine z_iload 8 dX13_said_232 rfl ?_
            have ee : ((if a5 = 0 then a7 else a8) : Int32) = a8 := by rw [if_neg g20]
            rw [ee] at key21
            clear ee
            refine z_sub [] rfl ?_
            exact key21
          · refine z_iload 7 dX13_said_227 rfl ?_
            refine z_goto 234 dX13_said_229 (by decide) ?_
            have ee : ((if a5 = 0 then a7 else a8) : Int32) = a7 := by rw [if_pos g20]
            rw [ee] at key21
            clear ee
            refine z_sub [] rfl ?_
            exact key21
      · rw [if_pos g3] at h
        refine z_aload_n 0 dX13_said_209 rfl ?_
        refine z_bipush (-3) dX13_said_210 (by decide) ?_
        refine z_callV0 (As := [.int (-3)]) (st := []) dX13_said_212 hy_X13_refuseFar hL.1 hL.2.1 (by decide) wg_1820 wg_1822 wg_57 (Nat.le_refl _) (Nat.le_of_ble_eq_true rfl) (RM0.mono h (fun vv I22 L23 h => ?_))
        obtain ⟨r24, rfl, h⟩ := h
        change Z n0 xX13_said (d + 1) rc rs 215 [(0, .ref (n0 + 59)), (1, .int a1), (2, .int a2), (3, .int a3), (4, .int a4), (5, .int a5), (6, .int a6), (7, .int a7), (8, .int a8), (9, .int a9)] [.int r24] K I22 L23 (z_q0 K Q)
        exact z_iret dX13_said_215 rfl ⟨rfl, h⟩
    · rw [if_pos g2] at h
      refine z_aload_n 0 dX13_said_195 rfl ?_
      refine z_bipush (-5) dX13_said_196 (by decide) ?_
      refine z_callV0 (As := [.int (-5)]) (st := []) dX13_said_198 hy_X13_refuseFar hL.1 hL.2.1 (by decide) wg_1820 wg_1822 wg_57 (Nat.le_refl _) (Nat.le_of_ble_eq_true rfl) (RM0.mono h (fun vv I25 L26 h => ?_))
      obtain ⟨r27, rfl, h⟩ := h
      change Z n0 xX13_said (d + 1) rc rs 201 [(0, .ref (n0 + 59)), (1, .int a1), (2, .int a2), (3, .int a3), (4, .int a4), (5, .int a5), (6, .int a6), (7, .int a7), (8, .int a8), (9, .int a9)] [.int r27] K I25 L26 (z_q0 K Q)
      exact z_iret dX13_said_201 rfl ⟨rfl, h⟩
  · rw [if_pos g1] at h
    refine z_aload_n 0 dX13_said_74 rfl ?_
    refine fg_13_231 (some 133) rfl dX13_said_75 hL.1 hL.2.1 (ma_108 hL).1 ?_
    refine z_iload 9 dX13_said_78 rfl ?_
    obtain ⟨o28, h⟩ := h
    refine z_iald (I 133 a9.toNatClampNeg) dX13_said_80 (ma_108 hL).2.1 (ma_108 hL).2.2 o28 rfl ?_
    refine z_iload_n 1 dX13_said_81 rfl ?_
    have key41 : Z n0 xX13_said (d + 1) rc rs 184 [(0, .ref (n0 + 59)), (1, .int a1), (2, .int a2), (3, .int a3), (4, .int a4), (5, .int a5), (6, .int (if ((I 133 a9.toNatClampNeg) : Int32) = a1 then if ((I 134 a9.toNatClampNeg) : Int32) = a2 then if ((I 135 a9.toNatClampNeg) : Int32) = a3 then if ((I 136 a9.toNatClampNeg) : Int32) = a4 then (a6 + 1) else a6 else a6 else a6 else a6)), (7, .int (if ((I 133 a9.toNatClampNeg) : Int32) = a1 then if ((I 134 a9.toNatClampNeg) : Int32) = a2 then if ((I 135 a9.toNatClampNeg) : Int32) = a3 then if ((I 136 a9.toNatClampNeg) : Int32) = a4 then if a6 = 0 then (I 137 a9.toNatClampNeg) else if a7 < ((I 137 a9.toNatClampNeg) : Int32) then (I 137 a9.toNatClampNeg) else a7 else a7 else a7 else a7 else a7)), (8, .int (if ((I 133 a9.toNatClampNeg) : Int32) = a1 then if ((I 134 a9.toNatClampNeg) : Int32) = a2 then if ((I 135 a9.toNatClampNeg) : Int32) = a3 then if ((I 136 a9.toNatClampNeg) : Int32) = a4 then if a6 = 0 then if a6 = 0 then (I 138 a9.toNatClampNeg) else if ((I 138 a9.toNatClampNeg) : Int32) < a8 then (I 138 a9.toNatClampNeg) else a8 else if a7 < ((I 137 a9.toNatClampNeg) : Int32) then if a6 = 0 then (I 138 a9.toNatClampNeg) else if ((I 138 a9.toNatClampNeg) : Int32) < a8 then (I 138 a9.toNatClampNeg) else a8 else if a6 = 0 then (I 138 a9.toNatClampNeg) else if ((I 138 a9.toNatClampNeg) : Int32) < a8 then (I 138 a9.toNatClampNeg) else a8 else a8 else a8 else a8 else a8)), (9, .int a9)] [] K I L (z_q0 K Q) := by
      refine z_iinc (j := 9) (a9 + 1) [1, 2, 3, 4, 5, 6, 7, 8, 9, 0] [(0, .ref (n0 + 59)), (1, .int a1), (2, .int a2), (3, .int a3), (4, .int a4), (5, .int a5), (6, .int (if ((I 133 a9.toNatClampNeg) : Int32) = a1 then if ((I 134 a9.toNatClampNeg) : Int32) = a2 then if ((I 135 a9.toNatClampNeg) : Int32) = a3 then if ((I 136 a9.toNatClampNeg) : Int32) = a4 then (a6 + 1) else a6 else a6 else a6 else a6)), (7, .int (if ((I 133 a9.toNatClampNeg) : Int32) = a1 then if ((I 134 a9.toNatClampNeg) : Int32) = a2 then if ((I 135 a9.toNatClampNeg) : Int32) = a3 then if ((I 136 a9.toNatClampNeg) : Int32) = a4 then if a6 = 0 then (I 137 a9.toNatClampNeg) else if a7 < ((I 137 a9.toNatClampNeg) : Int32) then (I 137 a9.toNatClampNeg) else a7 else a7 else a7 else a7 else a7)), (8, .int (if ((I 133 a9.toNatClampNeg) : Int32) = a1 then if ((I 134 a9.toNatClampNeg) : Int32) = a2 then if ((I 135 a9.toNatClampNeg) : Int32) = a3 then if ((I 136 a9.toNatClampNeg) : Int32) = a4 then if a6 = 0 then if a6 = 0 then (I 138 a9.toNatClampNeg) else if ((I 138 a9.toNatClampNeg) : Int32) < a8 then (I 138 a9.toNatClampNeg) else a8 else if a7 < ((I 137 a9.toNatClampNeg) : Int32) then if a6 = 0 then (I 138 a9.toNatClampNeg) else if ((I 138 a9.toNatClampNeg) : Int32) < a8 then (I 138 a9.toNatClampNeg) else a8 else if a6 = 0 then (I 138 a9.toNatClampNeg) else if ((I 138 a9.toNatClampNeg) : Int32) < a8 then (I 138 a9.toNatClampNeg) else a8 else a8 else a8 else a8 else a8)), (9, .int (a9 + 1))] dX13_said_184 rfl rfl (by decide) rfl ?_
      refine z_goto 65 dX13_said_187 (by decide) ?_
      exact h
    refine z_icmp_ne 184 dX13_said_82 (by decide) (fun g29 => ?_) (fun g29 => ?_)
    · have ee : ((if ((I 133 a9.toNatClampNeg) : Int32) = a1 then if ((I 134 a9.toNatClampNeg) : Int32) = a2 then if ((I 135 a9.toNatClampNeg) : Int32) = a3 then if ((I 136 a9.toNatClampNeg) : Int32) = a4 then (a6 + 1) else a6 else a6 else a6 else a6) : Int32) = a6 := by rw [if_neg g29]
      rw [ee] at key41
      clear ee
      have ee : ((if ((I 133 a9.toNatClampNeg) : Int32) = a1 then if ((I 134 a9.toNatClampNeg) : Int32) = a2 then if ((I 135 a9.toNatClampNeg) : Int32) = a3 then if ((I 136 a9.toNatClampNeg) : Int32) = a4 then if a6 = 0 then (I 137 a9.toNatClampNeg) else if a7 < ((I 137 a9.toNatClampNeg) : Int32) then (I 137 a9.toNatClampNeg) else a7 else a7 else a7 else a7 else a7) : Int32) = a7 := by rw [if_neg g29]
      rw [ee] at key41
      clear ee
      have ee : ((if ((I 133 a9.toNatClampNeg) : Int32) = a1 then if ((I 134 a9.toNatClampNeg) : Int32) = a2 then if ((I 135 a9.toNatClampNeg) : Int32) = a3 then if ((I 136 a9.toNatClampNeg) : Int32) = a4 then if a6 = 0 then if a6 = 0 then (I 138 a9.toNatClampNeg) else if ((I 138 a9.toNatClampNeg) : Int32) < a8 then (I 138 a9.toNatClampNeg) else a8 else if a7 < ((I 137 a9.toNatClampNeg) : Int32) then if a6 = 0 then (I 138 a9.toNatClampNeg) else if ((I 138 a9.toNatClampNeg) : Int32) < a8 then (I 138 a9.toNatClampNeg) else a8 else if a6 = 0 then (I 138 a9.toNatClampNeg) else if ((I 138 a9.toNatClampNeg) : Int32) < a8 then (I 138 a9.toNatClampNeg) else a8 else a8 else a8 else a8 else a8) : Int32) = a8 := by rw [if_neg g29]
      rw [ee] at key41
      clear ee
      exact key41
    · refine z_aload_n 0 dX13_said_85 rfl ?_
      refine fg_13_234 (some 134) rfl dX13_said_86 hL.1 hL.2.1 (ma_109 hL).1 ?_
      refine z_iload 9 dX13_said_89 rfl ?_
      refine z_iald (I 134 a9.toNatClampNeg) dX13_said_91 (ma_109 hL).2.1 (ma_109 hL).2.2 o28 rfl ?_
      refine z_iload_n 2 dX13_said_92 rfl ?_
      refine z_icmp_ne 184 dX13_said_93 (by decide) (fun g30 => ?_) (fun g30 => ?_)
      · have ee : ((if ((I 133 a9.toNatClampNeg) : Int32) = a1 then if ((I 134 a9.toNatClampNeg) : Int32) = a2 then if ((I 135 a9.toNatClampNeg) : Int32) = a3 then if ((I 136 a9.toNatClampNeg) : Int32) = a4 then (a6 + 1) else a6 else a6 else a6 else a6) : Int32) = a6 := by rw [if_pos g29, if_neg g30]
        rw [ee] at key41
        clear ee
        have ee : ((if ((I 133 a9.toNatClampNeg) : Int32) = a1 then if ((I 134 a9.toNatClampNeg) : Int32) = a2 then if ((I 135 a9.toNatClampNeg) : Int32) = a3 then if ((I 136 a9.toNatClampNeg) : Int32) = a4 then if a6 = 0 then (I 137 a9.toNatClampNeg) else if a7 < ((I 137 a9.toNatClampNeg) : Int32) then (I 137 a9.toNatClampNeg) else a7 else a7 else a7 else a7 else a7) : Int32) = a7 := by rw [if_pos g29, if_neg g30]
        rw [ee] at key41
        clear ee
        have ee : ((if ((I 133 a9.toNatClampNeg) : Int32) = a1 then if ((I 134 a9.toNatClampNeg) : Int32) = a2 then if ((I 135 a9.toNatClampNeg) : Int32) = a3 then if ((I 136 a9.toNatClampNeg) : Int32) = a4 then if a6 = 0 then if a6 = 0 then (I 138 a9.toNatClampNeg) else if ((I 138 a9.toNatClampNeg) : Int32) < a8 then (I 138 a9.toNatClampNeg) else a8 else if a7 < ((I 137 a9.toNatClampNeg) : Int32) then if a6 = 0 then (I 138 a9.toNatClampNeg) else if ((I 138 a9.toNatClampNeg) : Int32) < a8 then (I 138 a9.toNatClampNeg) else a8 else if a6 = 0 then (I 138 a9.toNatClampNeg) else if ((I 138 a9.toNatClampNeg) : Int32) < a8 then (I 138 a9.toNatClampNeg) else a8 else a8 else a8 else a8 else a8) : Int32) = a8 := by rw [if_pos g29, if_neg g30]
        rw [ee] at key41
        clear ee
        exact key41
      · refine z_aload_n 0 dX13_said_96 rfl ?_
        refine fg_13_237 (some 135) rfl dX13_said_97 hL.1 hL.2.1 (ma_110 hL).1 ?_
        refine z_iload 9 dX13_said_100 rfl ?_
        refine z_iald (I 135 a9.toNatClampNeg) dX13_said_102 (ma_110 hL).2.1 (ma_110 hL).2.2 o28 rfl ?_
        refine z_iload_n 3 dX13_said_103 rfl ?_
        refine z_icmp_ne 184 dX13_said_104 (by decide) (fun g31 => ?_) (fun g31 => ?_)
        · have ee : ((if ((I 133 a9.toNatClampNeg) : Int32) = a1 then if ((I 134 a9.toNatClampNeg) : Int32) = a2 then if ((I 135 a9.toNatClampNeg) : Int32) = a3 then if ((I 136 a9.toNatClampNeg) : Int32) = a4 then (a6 + 1) else a6 else a6 else a6 else a6) : Int32) = a6 := by rw [if_pos g29, if_pos g30, if_neg g31]
          rw [ee] at key41
          clear ee
          have ee : ((if ((I 133 a9.toNatClampNeg) : Int32) = a1 then if ((I 134 a9.toNatClampNeg) : Int32) = a2 then if ((I 135 a9.toNatClampNeg) : Int32) = a3 then if ((I 136 a9.toNatClampNeg) : Int32) = a4 then if a6 = 0 then (I 137 a9.toNatClampNeg) else if a7 < ((I 137 a9.toNatClampNeg) : Int32) then (I 137 a9.toNatClampNeg) else a7 else a7 else a7 else a7 else a7) : Int32) = a7 := by rw [if_pos g29, if_pos g30, if_neg g31]
          rw [ee] at key41
          clear ee
          have ee : ((if ((I 133 a9.toNatClampNeg) : Int32) = a1 then if ((I 134 a9.toNatClampNeg) : Int32) = a2 then if ((I 135 a9.toNatClampNeg) : Int32) = a3 then if ((I 136 a9.toNatClampNeg) : Int32) = a4 then if a6 = 0 then if a6 = 0 then (I 138 a9.toNatClampNeg) else if ((I 138 a9.toNatClampNeg) : Int32) < a8 then (I 138 a9.toNatClampNeg) else a8 else if a7 < ((I 137 a9.toNatClampNeg) : Int32) then if a6 = 0 then (I 138 a9.toNatClampNeg) else if ((I 138 a9.toNatClampNeg) : Int32) < a8 then (I 138 a9.toNatClampNeg) else a8 else if a6 = 0 then (I 138 a9.toNatClampNeg) else if ((I 138 a9.toNatClampNeg) : Int32) < a8 then (I 138 a9.toNatClampNeg) else a8 else a8 else a8 else a8 else a8) : Int32) = a8 := by rw [if_pos g29, if_pos g30, if_neg g31]
          rw [ee] at key41
          clear ee
          exact key41
        · refine z_aload_n 0 dX13_said_107 rfl ?_
          refine fg_13_240 (some 136) rfl dX13_said_108 hL.1 hL.2.1 (ma_111 hL).1 ?_
          refine z_iload 9 dX13_said_111 rfl ?_
          refine z_iald (I 136 a9.toNatClampNeg) dX13_said_113 (ma_111 hL).2.1 (ma_111 hL).2.2 o28 rfl ?_
          refine z_iload 4 dX13_said_114 rfl ?_
          refine z_icmp_ne 184 dX13_said_116 (by decide) (fun g32 => ?_) (fun g32 => ?_)
          · have ee : ((if ((I 133 a9.toNatClampNeg) : Int32) = a1 then if ((I 134 a9.toNatClampNeg) : Int32) = a2 then if ((I 135 a9.toNatClampNeg) : Int32) = a3 then if ((I 136 a9.toNatClampNeg) : Int32) = a4 then (a6 + 1) else a6 else a6 else a6 else a6) : Int32) = a6 := by rw [if_pos g29, if_pos g30, if_pos g31, if_neg g32]
            rw [ee] at key41
            clear ee
            have ee : ((if ((I 133 a9.toNatClampNeg) : Int32) = a1 then if ((I 134 a9.toNatClampNeg) : Int32) = a2 then if ((I 135 a9.toNatClampNeg) : Int32) = a3 then if ((I 136 a9.toNatClampNeg) : Int32) = a4 then if a6 = 0 then (I 137 a9.toNatClampNeg) else if a7 < ((I 137 a9.toNatClampNeg) : Int32) then (I 137 a9.toNatClampNeg) else a7 else a7 else a7 else a7 else a7) : Int32) = a7 := by rw [if_pos g29, if_pos g30, if_pos g31, if_neg g32]
            rw [ee] at key41
            clear ee
            have ee : ((if ((I 133 a9.toNatClampNeg) : Int32) = a1 then if ((I 134 a9.toNatClampNeg) : Int32) = a2 then if ((I 135 a9.toNatClampNeg) : Int32) = a3 then if ((I 136 a9.toNatClampNeg) : Int32) = a4 then if a6 = 0 then if a6 = 0 then (I 138 a9.toNatClampNeg) else if ((I 138 a9.toNatClampNeg) : Int32) < a8 then (I 138 a9.toNatClampNeg) else a8 else if a7 < ((I 137 a9.toNatClampNeg) : Int32) then if a6 = 0 then (I 138 a9.toNatClampNeg) else if ((I 138 a9.toNatClampNeg) : Int32) < a8 then (I 138 a9.toNatClampNeg) else a8 else if a6 = 0 then (I 138 a9.toNatClampNeg) else if ((I 138 a9.toNatClampNeg) : Int32) < a8 then (I 138 a9.toNatClampNeg) else a8 else a8 else a8 else a8 else a8) : Int32) = a8 := by rw [if_pos g29, if_pos g30, if_pos g31, if_neg g32]
            rw [ee] at key41
            clear ee
            exact key41
          · refine z_iload 6 dX13_said_119 rfl ?_
            refine z_if_eq 136 dX13_said_121 (by decide) (fun g33 => ?_) (fun g33 => ?_)
            · refine z_aload_n 0 dX13_said_136 rfl ?_
              refine fg_13_243 (some 137) rfl dX13_said_137 hL.1 hL.2.1 (ma_112 hL).1 ?_
              refine z_iload 9 dX13_said_140 rfl ?_
              refine z_iald (I 137 a9.toNatClampNeg) dX13_said_142 (ma_112 hL).2.1 (ma_112 hL).2.2 o28 rfl ?_
              refine z_goto 148 dX13_said_143 (by decide) ?_
              refine z_istore [1, 2, 3, 4, 5, 6, 7, 0, 8, 9] [(0, .ref (n0 + 59)), (1, .int a1), (2, .int a2), (3, .int a3), (4, .int a4), (5, .int a5), (6, .int a6), (7, .int (I 137 a9.toNatClampNeg)), (8, .int a8), (9, .int a9)] dX13_said_148 (by decide) rfl ?_
              refine z_iload 6 dX13_said_150 rfl ?_
              refine z_if_eq 167 dX13_said_152 (by decide) (fun g34 => ?_) (fun g34 => ?_)
              · refine z_aload_n 0 dX13_said_167 rfl ?_
                refine fg_13_246 (some 138) rfl dX13_said_168 hL.1 hL.2.1 (ma_113 hL).1 ?_
                refine z_iload 9 dX13_said_171 rfl ?_
                refine z_iald (I 138 a9.toNatClampNeg) dX13_said_173 (ma_113 hL).2.1 (ma_113 hL).2.2 o28 rfl ?_
                refine z_goto 179 dX13_said_174 (by decide) ?_
                refine z_istore [1, 2, 3, 4, 5, 6, 7, 8, 0, 9] [(0, .ref (n0 + 59)), (1, .int a1), (2, .int a2), (3, .int a3), (4, .int a4), (5, .int a5), (6, .int a6), (7, .int (I 137 a9.toNatClampNeg)), (8, .int (I 138 a9.toNatClampNeg)), (9, .int a9)] dX13_said_179 (by decide) rfl ?_
                refine z_iinc (j := 6) (a6 + 1) [1, 2, 3, 4, 5, 6, 0, 7, 8, 9] [(0, .ref (n0 + 59)), (1, .int a1), (2, .int a2), (3, .int a3), (4, .int a4), (5, .int a5), (6, .int (a6 + 1)), (7, .int (I 137 a9.toNatClampNeg)), (8, .int (I 138 a9.toNatClampNeg)), (9, .int a9)] dX13_said_181 rfl rfl (by decide) rfl ?_
                have ee : ((if ((I 133 a9.toNatClampNeg) : Int32) = a1 then if ((I 134 a9.toNatClampNeg) : Int32) = a2 then if ((I 135 a9.toNatClampNeg) : Int32) = a3 then if ((I 136 a9.toNatClampNeg) : Int32) = a4 then (a6 + 1) else a6 else a6 else a6 else a6) : Int32) = (a6 + 1) := by rw [if_pos g29, if_pos g30, if_pos g31, if_pos g32]
                rw [ee] at key41
                clear ee
                have ee : ((if ((I 133 a9.toNatClampNeg) : Int32) = a1 then if ((I 134 a9.toNatClampNeg) : Int32) = a2 then if ((I 135 a9.toNatClampNeg) : Int32) = a3 then if ((I 136 a9.toNatClampNeg) : Int32) = a4 then if a6 = 0 then (I 137 a9.toNatClampNeg) else if a7 < ((I 137 a9.toNatClampNeg) : Int32) then (I 137 a9.toNatClampNeg) else a7 else a7 else a7 else a7 else a7) : Int32) = (I 137 a9.toNatClampNeg) := by rw [if_pos g29, if_pos g30, if_pos g31, if_pos g32, if_pos g33]
                rw [ee] at key41
                clear ee
                have ee : ((if ((I 133 a9.toNatClampNeg) : Int32) = a1 then if ((I 134 a9.toNatClampNeg) : Int32) = a2 then if ((I 135 a9.toNatClampNeg) : Int32) = a3 then if ((I 136 a9.toNatClampNeg) : Int32) = a4 then if a6 = 0 then if a6 = 0 then (I 138 a9.toNatClampNeg) else if ((I 138 a9.toNatClampNeg) : Int32) < a8 then (I 138 a9.toNatClampNeg) else a8 else if a7 < ((I 137 a9.toNatClampNeg) : Int32) then if a6 = 0 then (I 138 a9.toNatClampNeg) else if ((I 138 a9.toNatClampNeg) : Int32) < a8 then (I 138 a9.toNatClampNeg) else a8 else if a6 = 0 then (I 138 a9.toNatClampNeg) else if ((I 138 a9.toNatClampNeg) : Int32) < a8 then (I 138 a9.toNatClampNeg) else a8 else a8 else a8 else a8 else a8) : Int32) = (I 138 a9.toNatClampNeg) := by rw [if_pos g29, if_pos g30, if_pos g31, if_pos g32, if_pos g33, if_pos g34]
                rw [ee] at key41
                clear ee
                exact key41
              · refine z_aload_n 0 dX13_said_155 rfl ?_
                refine fg_13_246 (some 138) rfl dX13_said_156 hL.1 hL.2.1 (ma_113 hL).1 ?_
                refine z_iload 9 dX13_said_159 rfl ?_
                refine z_iald (I 138 a9.toNatClampNeg) dX13_said_161 (ma_113 hL).2.1 (ma_113 hL).2.2 o28 rfl ?_
                refine z_iload 8 dX13_said_162 rfl ?_
                refine z_icmp_ge 177 dX13_said_164 (by decide) (fun g35 => ?_) (fun g35 => ?_)
                · refine z_iload 8 dX13_said_177 rfl ?_
                  refine z_istore [1, 2, 3, 4, 5, 6, 7, 8, 0, 9] [(0, .ref (n0 + 59)), (1, .int a1), (2, .int a2), (3, .int a3), (4, .int a4), (5, .int a5), (6, .int a6), (7, .int (I 137 a9.toNatClampNeg)), (8, .int a8), (9, .int a9)] dX13_said_179 (by decide) rfl ?_
                  refine z_iinc (j := 6) (a6 + 1) [1, 2, 3, 4, 5, 6, 0, 7, 8, 9] [(0, .ref (n0 + 59)), (1, .int a1), (2, .int a2), (3, .int a3), (4, .int a4), (5, .int a5), (6, .int (a6 + 1)), (7, .int (I 137 a9.toNatClampNeg)), (8, .int a8), (9, .int a9)] dX13_said_181 rfl rfl (by decide) rfl ?_
                  have ee : ((if ((I 133 a9.toNatClampNeg) : Int32) = a1 then if ((I 134 a9.toNatClampNeg) : Int32) = a2 then if ((I 135 a9.toNatClampNeg) : Int32) = a3 then if ((I 136 a9.toNatClampNeg) : Int32) = a4 then (a6 + 1) else a6 else a6 else a6 else a6) : Int32) = (a6 + 1) := by rw [if_pos g29, if_pos g30, if_pos g31, if_pos g32]
                  rw [ee] at key41
                  clear ee
                  have ee : ((if ((I 133 a9.toNatClampNeg) : Int32) = a1 then if ((I 134 a9.toNatClampNeg) : Int32) = a2 then if ((I 135 a9.toNatClampNeg) : Int32) = a3 then if ((I 136 a9.toNatClampNeg) : Int32) = a4 then if a6 = 0 then (I 137 a9.toNatClampNeg) else if a7 < ((I 137 a9.toNatClampNeg) : Int32) then (I 137 a9.toNatClampNeg) else a7 else a7 else a7 else a7 else a7) : Int32) = (I 137 a9.toNatClampNeg) := by rw [if_pos g29, if_pos g30, if_pos g31, if_pos g32, if_pos g33]
                  rw [ee] at key41
                  clear ee
                  have ee : ((if ((I 133 a9.toNatClampNeg) : Int32) = a1 then if ((I 134 a9.toNatClampNeg) : Int32) = a2 then if ((I 135 a9.toNatClampNeg) : Int32) = a3 then if ((I 136 a9.toNatClampNeg) : Int32) = a4 then if a6 = 0 then if a6 = 0 then (I 138 a9.toNatClampNeg) else if ((I 138 a9.toNatClampNeg) : Int32) < a8 then (I 138 a9.toNatClampNeg) else a8 else if a7 < ((I 137 a9.toNatClampNeg) : Int32) then if a6 = 0 then (I 138 a9.toNatClampNeg) else if ((I 138 a9.toNatClampNeg) : Int32) < a8 then (I 138 a9.toNatClampNeg) else a8 else if a6 = 0 then (I 138 a9.toNatClampNeg) else if ((I 138 a9.toNatClampNeg) : Int32) < a8 then (I 138 a9.toNatClampNeg) else a8 else a8 else a8 else a8 else a8) : Int32) = a8 := by rw [if_pos g29, if_pos g30, if_pos g31, if_pos g32, if_pos g33, if_neg g34, if_neg g35]
                  rw [ee] at key41
                  clear ee
                  exact key41
                · refine z_aload_n 0 dX13_said_167 rfl ?_
                  refine fg_13_246 (some 138) rfl dX13_said_168 hL.1 hL.2.1 (ma_113 hL).1 ?_
                  refine z_iload 9 dX13_said_171 rfl ?_
                  refine z_iald (I 138 a9.toNatClampNeg) dX13_said_173 (ma_113 hL).2.1 (ma_113 hL).2.2 o28 rfl ?_
                  refine z_goto 179 dX13_said_174 (by decide) ?_
                  refine z_istore [1, 2, 3, 4, 5, 6, 7, 8, 0, 9] [(0, .ref (n0 + 59)), (1, .int a1), (2, .int a2), (3, .int a3), (4, .int a4), (5, .int a5), (6, .int a6), (7, .int (I 137 a9.toNatClampNeg)), (8, .int (I 138 a9.toNatClampNeg)), (9, .int a9)] dX13_said_179 (by decide) rfl ?_
                  refine z_iinc (j := 6) (a6 + 1) [1, 2, 3, 4, 5, 6, 0, 7, 8, 9] [(0, .ref (n0 + 59)), (1, .int a1), (2, .int a2), (3, .int a3), (4, .int a4), (5, .int a5), (6, .int (a6 + 1)), (7, .int (I 137 a9.toNatClampNeg)), (8, .int (I 138 a9.toNatClampNeg)), (9, .int a9)] dX13_said_181 rfl rfl (by decide) rfl ?_
                  have ee : ((if ((I 133 a9.toNatClampNeg) : Int32) = a1 then if ((I 134 a9.toNatClampNeg) : Int32) = a2 then if ((I 135 a9.toNatClampNeg) : Int32) = a3 then if ((I 136 a9.toNatClampNeg) : Int32) = a4 then (a6 + 1) else a6 else a6 else a6 else a6) : Int32) = (a6 + 1) := by rw [if_pos g29, if_pos g30, if_pos g31, if_pos g32]
                  rw [ee] at key41
                  clear ee
                  have ee : ((if ((I 133 a9.toNatClampNeg) : Int32) = a1 then if ((I 134 a9.toNatClampNeg) : Int32) = a2 then if ((I 135 a9.toNatClampNeg) : Int32) = a3 then if ((I 136 a9.toNatClampNeg) : Int32) = a4 then if a6 = 0 then (I 137 a9.toNatClampNeg) else if a7 < ((I 137 a9.toNatClampNeg) : Int32) then (I 137 a9.toNatClampNeg) else a7 else a7 else a7 else a7 else a7) : Int32) = (I 137 a9.toNatClampNeg) := by rw [if_pos g29, if_pos g30, if_pos g31, if_pos g32, if_pos g33]
                  rw [ee] at key41
                  clear ee
                  have ee : ((if ((I 133 a9.toNatClampNeg) : Int32) = a1 then if ((I 134 a9.toNatClampNeg) : Int32) = a2 then if ((I 135 a9.toNatClampNeg) : Int32) = a3 then if ((I 136 a9.toNatClampNeg) : Int32) = a4 then if a6 = 0 then if a6 = 0 then (I 138 a9.toNatClampNeg) else if ((I 138 a9.toNatClampNeg) : Int32) < a8 then (I 138 a9.toNatClampNeg) else a8 else if a7 < ((I 137 a9.toNatClampNeg) : Int32) then if a6 = 0 then (I 138 a9.toNatClampNeg) else if ((I 138 a9.toNatClampNeg) : Int32) < a8 then (I 138 a9.toNatClampNeg) else a8 else if a6 = 0 then (I 138 a9.toNatClampNeg) else if ((I 138 a9.toNatClampNeg) : Int32) < a8 then (I 138 a9.toNatClampNeg) else a8 else a8 else a8 else a8 else a8) : Int32) = (I 138 a9.toNatClampNeg) := by rw [if_pos g29, if_pos g30, if_pos g31, if_pos g32, if_pos g33, if_neg g34, if_pos g35]
                  rw [ee] at key41
                  clear ee
                  exact key41
            · refine z_aload_n 0 dX13_said_124 rfl ?_
              refine fg_13_243 (some 137) rfl dX13_said_125 hL.1 hL.2.1 (ma_112 hL).1 ?_
              refine z_iload 9 dX13_said_128 rfl ?_
              refine z_iald (I 137 a9.toNatClampNeg) dX13_said_130 (ma_112 hL).2.1 (ma_112 hL).2.2 o28 rfl ?_
              refine z_iload 7 dX13_said_131 rfl ?_
              refine z_icmp_le 146 dX13_said_133 (by decide) (fun g36 => ?_) (fun g36 => ?_)
              · refine z_iload 7 dX13_said_146 rfl ?_
                refine z_istore [1, 2, 3, 4, 5, 6, 7, 0, 8, 9] [(0, .ref (n0 + 59)), (1, .int a1), (2, .int a2), (3, .int a3), (4, .int a4), (5, .int a5), (6, .int a6), (7, .int a7), (8, .int a8), (9, .int a9)] dX13_said_148 (by decide) rfl ?_
                refine z_iload 6 dX13_said_150 rfl ?_
                refine z_if_eq 167 dX13_said_152 (by decide) (fun g37 => ?_) (fun g37 => ?_)
                · refine z_aload_n 0 dX13_said_167 rfl ?_
                  refine fg_13_246 (some 138) rfl dX13_said_168 hL.1 hL.2.1 (ma_113 hL).1 ?_
                  refine z_iload 9 dX13_said_171 rfl ?_
                  refine z_iald (I 138 a9.toNatClampNeg) dX13_said_173 (ma_113 hL).2.1 (ma_113 hL).2.2 o28 rfl ?_
                  refine z_goto 179 dX13_said_174 (by decide) ?_
                  refine z_istore [1, 2, 3, 4, 5, 6, 7, 8, 0, 9] [(0, .ref (n0 + 59)), (1, .int a1), (2, .int a2), (3, .int a3), (4, .int a4), (5, .int a5), (6, .int a6), (7, .int a7), (8, .int (I 138 a9.toNatClampNeg)), (9, .int a9)] dX13_said_179 (by decide) rfl ?_
                  refine z_iinc (j := 6) (a6 + 1) [1, 2, 3, 4, 5, 6, 0, 7, 8, 9] [(0, .ref (n0 + 59)), (1, .int a1), (2, .int a2), (3, .int a3), (4, .int a4), (5, .int a5), (6, .int (a6 + 1)), (7, .int a7), (8, .int (I 138 a9.toNatClampNeg)), (9, .int a9)] dX13_said_181 rfl rfl (by decide) rfl ?_
                  have ee : ((if ((I 133 a9.toNatClampNeg) : Int32) = a1 then if ((I 134 a9.toNatClampNeg) : Int32) = a2 then if ((I 135 a9.toNatClampNeg) : Int32) = a3 then if ((I 136 a9.toNatClampNeg) : Int32) = a4 then (a6 + 1) else a6 else a6 else a6 else a6) : Int32) = (a6 + 1) := by rw [if_pos g29, if_pos g30, if_pos g31, if_pos g32]
                  rw [ee] at key41
                  clear ee
                  have ee : ((if ((I 133 a9.toNatClampNeg) : Int32) = a1 then if ((I 134 a9.toNatClampNeg) : Int32) = a2 then if ((I 135 a9.toNatClampNeg) : Int32) = a3 then if ((I 136 a9.toNatClampNeg) : Int32) = a4 then if a6 = 0 then (I 137 a9.toNatClampNeg) else if a7 < ((I 137 a9.toNatClampNeg) : Int32) then (I 137 a9.toNatClampNeg) else a7 else a7 else a7 else a7 else a7) : Int32) = a7 := by rw [if_pos g29, if_pos g30, if_pos g31, if_pos g32, if_neg g33, if_neg g36]
                  rw [ee] at key41
                  clear ee
                  have ee : ((if ((I 133 a9.toNatClampNeg) : Int32) = a1 then if ((I 134 a9.toNatClampNeg) : Int32) = a2 then if ((I 135 a9.toNatClampNeg) : Int32) = a3 then if ((I 136 a9.toNatClampNeg) : Int32) = a4 then if a6 = 0 then if a6 = 0 then (I 138 a9.toNatClampNeg) else if ((I 138 a9.toNatClampNeg) : Int32) < a8 then (I 138 a9.toNatClampNeg) else a8 else if a7 < ((I 137 a9.toNatClampNeg) : Int32) then if a6 = 0 then (I 138 a9.toNatClampNeg) else if ((I 138 a9.toNatClampNeg) : Int32) < a8 then (I 138 a9.toNatClampNeg) else a8 else if a6 = 0 then (I 138 a9.toNatClampNeg) else if ((I 138 a9.toNatClampNeg) : Int32) < a8 then (I 138 a9.toNatClampNeg) else a8 else a8 else a8 else a8 else a8) : Int32) = (I 138 a9.toNatClampNeg) := by rw [if_pos g29, if_pos g30, if_pos g31, if_pos g32, if_neg g33, if_neg g36, if_pos g37]
                  rw [ee] at key41
                  clear ee
                  exact key41
                · refine z_aload_n 0 dX13_said_155 rfl ?_
                  refine fg_13_246 (some 138) rfl dX13_said_156 hL.1 hL.2.1 (ma_113 hL).1 ?_
                  refine z_iload 9 dX13_said_159 rfl ?_
                  refine z_iald (I 138 a9.toNatClampNeg) dX13_said_161 (ma_113 hL).2.1 (ma_113 hL).2.2 o28 rfl ?_
                  refine z_iload 8 dX13_said_162 rfl ?_
                  refine z_icmp_ge 177 dX13_said_164 (by decide) (fun g38 => ?_) (fun g38 => ?_)
                  · refine z_iload 8 dX13_said_177 rfl ?_
                    refine z_istore [1, 2, 3, 4, 5, 6, 7, 8, 0, 9] [(0, .ref (n0 + 59)), (1, .int a1), (2, .int a2), (3, .int a3), (4, .int a4), (5, .int a5), (6, .int a6), (7, .int a7), (8, .int a8), (9, .int a9)] dX13_said_179 (by decide) rfl ?_
                    refine z_iinc (j := 6) (a6 + 1) [1, 2, 3, 4, 5, 6, 0, 7, 8, 9] [(0, .ref (n0 + 59)), (1, .int a1), (2, .int a2), (3, .int a3), (4, .int a4), (5, .int a5), (6, .int (a6 + 1)), (7, .int a7), (8, .int a8), (9, .int a9)] dX13_said_181 rfl rfl (by decide) rfl ?_
                    have ee : ((if ((I 133 a9.toNatClampNeg) : Int32) = a1 then if ((I 134 a9.toNatClampNeg) : Int32) = a2 then if ((I 135 a9.toNatClampNeg) : Int32) = a3 then if ((I 136 a9.toNatClampNeg) : Int32) = a4 then (a6 + 1) else a6 else a6 else a6 else a6) : Int32) = (a6 + 1) := by rw [if_pos g29, if_pos g30, if_pos g31, if_pos g32]
                    rw [ee] at key41
                    clear ee
                    have ee : ((if ((I 133 a9.toNatClampNeg) : Int32) = a1 then if ((I 134 a9.toNatClampNeg) : Int32) = a2 then if ((I 135 a9.toNatClampNeg) : Int32) = a3 then if ((I 136 a9.toNatClampNeg) : Int32) = a4 then if a6 = 0 then (I 137 a9.toNatClampNeg) else if a7 < ((I 137 a9.toNatClampNeg) : Int32) then (I 137 a9.toNatClampNeg) else a7 else a7 else a7 else a7 else a7) : Int32) = a7 := by rw [if_pos g29, if_pos g30, if_pos g31, if_pos g32, if_neg g33, if_neg g36]
                    rw [ee] at key41
                    clear ee
                    have ee : ((if ((I 133 a9.toNatClampNeg) : Int32) = a1 then if ((I 134 a9.toNatClampNeg) : Int32) = a2 then if ((I 135 a9.toNatClampNeg) : Int32) = a3 then if ((I 136 a9.toNatClampNeg) : Int32) = a4 then if a6 = 0 then if a6 = 0 then (I 138 a9.toNatClampNeg) else if ((I 138 a9.toNatClampNeg) : Int32) < a8 then (I 138 a9.toNatClampNeg) else a8 else if a7 < ((I 137 a9.toNatClampNeg) : Int32) then if a6 = 0 then (I 138 a9.toNatClampNeg) else if ((I 138 a9.toNatClampNeg) : Int32) < a8 then (I 138 a9.toNatClampNeg) else a8 else if a6 = 0 then (I 138 a9.toNatClampNeg) else if ((I 138 a9.toNatClampNeg) : Int32) < a8 then (I 138 a9.toNatClampNeg) else a8 else a8 else a8 else a8 else a8) : Int32) = a8 := by rw [if_pos g29, if_pos g30, if_pos g31, if_pos g32, if_neg g33, if_neg g36, if_neg g37, if_neg g38]
                    rw [ee] at key41
                    clear ee
                    exact key41
                  · refine z_aload_n 0 dX13_said_167 rfl ?_
                    refine fg_13_246 (some 138) rfl dX13_said_168 hL.1 hL.2.1 (ma_113 hL).1 ?_
                    refine z_iload 9 dX13_said_171 rfl ?_
                    refine z_iald (I 138 a9.toNatClampNeg) dX13_said_173 (ma_113 hL).2.1 (ma_113 hL).2.2 o28 rfl ?_
                    refine z_goto 179 dX13_said_174 (by decide) ?_
                    refine z_istore [1, 2, 3, 4, 5, 6, 7, 8, 0, 9] [(0, .ref (n0 + 59)), (1, .int a1), (2, .int a2), (3, .int a3), (4, .int a4), (5, .int a5), (6, .int a6), (7, .int a7), (8, .int (I 138 a9.toNatClampNeg)), (9, .int a9)] dX13_said_179 (by decide) rfl ?_
                    refine z_iinc (j := 6) (a6 + 1) [1, 2, 3, 4, 5, 6, 0, 7, 8, 9] [(0, .ref (n0 + 59)), (1, .int a1), (2, .int a2), (3, .int a3), (4, .int a4), (5, .int a5), (6, .int (a6 + 1)), (7, .int a7), (8, .int (I 138 a9.toNatClampNeg)), (9, .int a9)] dX13_said_181 rfl rfl (by decide) rfl ?_
                    have ee : ((if ((I 133 a9.toNatClampNeg) : Int32) = a1 then if ((I 134 a9.toNatClampNeg) : Int32) = a2 then if ((I 135 a9.toNatClampNeg) : Int32) = a3 then if ((I 136 a9.toNatClampNeg) : Int32) = a4 then (a6 + 1) else a6 else a6 else a6 else a6) : Int32) = (a6 + 1) := by rw [if_pos g29, if_pos g30, if_pos g31, if_pos g32]
                    rw [ee] at key41
                    clear ee
                    have ee : ((if ((I 133 a9.toNatClampNeg) : Int32) = a1 then if ((I 134 a9.toNatClampNeg) : Int32) = a2 then if ((I 135 a9.toNatClampNeg) : Int32) = a3 then if ((I 136 a9.toNatClampNeg) : Int32) = a4 then if a6 = 0 then (I 137 a9.toNatClampNeg) else if a7 < ((I 137 a9.toNatClampNeg) : Int32) then (I 137 a9.toNatClampNeg) else a7 else a7 else a7 else a7 else a7) : Int32) = a7 := by rw [if_pos g29, if_pos g30, if_pos g31, if_pos g32, if_neg g33, if_neg g36]
                    rw [ee] at key41
                    clear ee
                    have ee : ((if ((I 133 a9.toNatClampNeg) : Int32) = a1 then if ((I 134 a9.toNatClampNeg) : Int32) = a2 then if ((I 135 a9.toNatClampNeg) : Int32) = a3 then if ((I 136 a9.toNatClampNeg) : Int32) = a4 then if a6 = 0 then if a6 = 0 then (I 138 a9.toNatClampNeg) else if ((I 138 a9.toNatClampNeg) : Int32) < a8 then (I 138 a9.toNatClampNeg) else a8 else if a7 < ((I 137 a9.toNatClampNeg) : Int32) then if a6 = 0 then (I 138 a9.toNatClampNeg) else if ((I 138 a9.toNatClampNeg) : Int32) < a8 then (I 138 a9.toNatClampNeg) else a8 else if a6 = 0 then (I 138 a9.toNatClampNeg) else if ((I 138 a9.toNatClampNeg) : Int32) < a8 then (I 138 a9.toNatClampNeg) else a8 else a8 else a8 else a8 else a8) : Int32) = (I 138 a9.toNatClampNeg) := by rw [if_pos g29, if_pos g30, if_pos g31, if_pos g32, if_neg g33, if_neg g36, if_neg g37, if_pos g38]
                    rw [ee] at key41
                    clear ee
                    exact key41
              · refine z_aload_n 0 dX13_said_136 rfl ?_
                refine fg_13_243 (some 137) rfl dX13_said_137 hL.1 hL.2.1 (ma_112 hL).1 ?_
                refine z_iload 9 dX13_said_140 rfl ?_
                refine z_iald (I 137 a9.toNatClampNeg) dX13_said_142 (ma_112 hL).2.1 (ma_112 hL).2.2 o28 rfl ?_
                refine z_goto 148 dX13_said_143 (by decide) ?_
                refine z_istore [1, 2, 3, 4, 5, 6, 7, 0, 8, 9] [(0, .ref (n0 + 59)), (1, .int a1), (2, .int a2), (3, .int a3), (4, .int a4), (5, .int a5), (6, .int a6), (7, .int (I 137 a9.toNatClampNeg)), (8, .int a8), (9, .int a9)] dX13_said_148 (by decide) rfl ?_
                refine z_iload 6 dX13_said_150 rfl ?_
                refine z_if_eq 167 dX13_said_152 (by decide) (fun g39 => ?_) (fun g39 => ?_)
                · refine z_aload_n 0 dX13_said_167 rfl ?_
                  refine fg_13_246 (some 138) rfl dX13_said_168 hL.1 hL.2.1 (ma_113 hL).1 ?_
                  refine z_iload 9 dX13_said_171 rfl ?_
                  refine z_iald (I 138 a9.toNatClampNeg) dX13_said_173 (ma_113 hL).2.1 (ma_113 hL).2.2 o28 rfl ?_
                  refine z_goto 179 dX13_said_174 (by decide) ?_
                  refine z_istore [1, 2, 3, 4, 5, 6, 7, 8, 0, 9] [(0, .ref (n0 + 59)), (1, .int a1), (2, .int a2), (3, .int a3), (4, .int a4), (5, .int a5), (6, .int a6), (7, .int (I 137 a9.toNatClampNeg)), (8, .int (I 138 a9.toNatClampNeg)), (9, .int a9)] dX13_said_179 (by decide) rfl ?_
                  refine z_iinc (j := 6) (a6 + 1) [1, 2, 3, 4, 5, 6, 0, 7, 8, 9] [(0, .ref (n0 + 59)), (1, .int a1), (2, .int a2), (3, .int a3), (4, .int a4), (5, .int a5), (6, .int (a6 + 1)), (7, .int (I 137 a9.toNatClampNeg)), (8, .int (I 138 a9.toNatClampNeg)), (9, .int a9)] dX13_said_181 rfl rfl (by decide) rfl ?_
                  have ee : ((if ((I 133 a9.toNatClampNeg) : Int32) = a1 then if ((I 134 a9.toNatClampNeg) : Int32) = a2 then if ((I 135 a9.toNatClampNeg) : Int32) = a3 then if ((I 136 a9.toNatClampNeg) : Int32) = a4 then (a6 + 1) else a6 else a6 else a6 else a6) : Int32) = (a6 + 1) := by rw [if_pos g29, if_pos g30, if_pos g31, if_pos g32]
                  rw [ee] at key41
                  clear ee
                  have ee : ((if ((I 133 a9.toNatClampNeg) : Int32) = a1 then if ((I 134 a9.toNatClampNeg) : Int32) = a2 then if ((I 135 a9.toNatClampNeg) : Int32) = a3 then if ((I 136 a9.toNatClampNeg) : Int32) = a4 then if a6 = 0 then (I 137 a9.toNatClampNeg) else if a7 < ((I 137 a9.toNatClampNeg) : Int32) then (I 137 a9.toNatClampNeg) else a7 else a7 else a7 else a7 else a7) : Int32) = (I 137 a9.toNatClampNeg) := by rw [if_pos g29, if_pos g30, if_pos g31, if_pos g32, if_neg g33, if_pos g36]
                  rw [ee] at key41
                  clear ee
                  have ee : ((if ((I 133 a9.toNatClampNeg) : Int32) = a1 then if ((I 134 a9.toNatClampNeg) : Int32) = a2 then if ((I 135 a9.toNatClampNeg) : Int32) = a3 then if ((I 136 a9.toNatClampNeg) : Int32) = a4 then if a6 = 0 then if a6 = 0 then (I 138 a9.toNatClampNeg) else if ((I 138 a9.toNatClampNeg) : Int32) < a8 then (I 138 a9.toNatClampNeg) else a8 else if a7 < ((I 137 a9.toNatClampNeg) : Int32) then if a6 = 0 then (I 138 a9.toNatClampNeg) else if ((I 138 a9.toNatClampNeg) : Int32) < a8 then (I 138 a9.toNatClampNeg) else a8 else if a6 = 0 then (I 138 a9.toNatClampNeg) else if ((I 138 a9.toNatClampNeg) : Int32) < a8 then (I 138 a9.toNatClampNeg) else a8 else a8 else a8 else a8 else a8) : Int32) = (I 138 a9.toNatClampNeg) := by rw [if_pos g29, if_pos g30, if_pos g31, if_pos g32, if_neg g33, if_pos g36, if_pos g39]
                  rw [ee] at key41
                  clear ee
                  exact key41
                · refine z_aload_n 0 dX13_said_155 rfl ?_
                  refine fg_13_246 (some 138) rfl dX13_said_156 hL.1 hL.2.1 (ma_113 hL).1 ?_
                  refine z_iload 9 dX13_said_159 rfl ?_
                  refine z_iald (I 138 a9.toNatClampNeg) dX13_said_161 (ma_113 hL).2.1 (ma_113 hL).2.2 o28 rfl ?_
                  refine z_iload 8 dX13_said_162 rfl ?_
                  refine z_icmp_ge 177 dX13_said_164 (by decide) (fun g40 => ?_) (fun g40 => ?_)
                  · refine z_iload 8 dX13_said_177 rfl ?_
                    refine z_istore [1, 2, 3, 4, 5, 6, 7, 8, 0, 9] [(0, .ref (n0 + 59)), (1, .int a1), (2, .int a2), (3, .int a3), (4, .int a4), (5, .int a5), (6, .int a6), (7, .int (I 137 a9.toNatClampNeg)), (8, .int a8), (9, .int a9)] dX13_said_179 (by decide) rfl ?_
                    refine z_iinc (j := 6) (a6 + 1) [1, 2, 3, 4, 5, 6, 0, 7, 8, 9] [(0, .ref (n0 + 59)), (1, .int a1), (2, .int a2), (3, .int a3), (4, .int a4), (5, .int a5), (6, .int (a6 + 1)), (7, .int (I 137 a9.toNatClampNeg)), (8, .int a8), (9, .int a9)] dX13_said_181 rfl rfl (by decide) rfl ?_
                    have ee : ((if ((I 133 a9.toNatClampNeg) : Int32) = a1 then if ((I 134 a9.toNatClampNeg) : Int32) = a2 then if ((I 135 a9.toNatClampNeg) : Int32) = a3 then if ((I 136 a9.toNatClampNeg) : Int32) = a4 then (a6 + 1) else a6 else a6 else a6 else a6) : Int32) = (a6 + 1) := by rw [if_pos g29, if_pos g30, if_pos g31, if_pos g32]
                    rw [ee] at key41
                    clear ee
                    have ee : ((if ((I 133 a9.toNatClampNeg) : Int32) = a1 then if ((I 134 a9.toNatClampNeg) : Int32) = a2 then if ((I 135 a9.toNatClampNeg) : Int32) = a3 then if ((I 136 a9.toNatClampNeg) : Int32) = a4 then if a6 = 0 then (I 137 a9.toNatClampNeg) else if a7 < ((I 137 a9.toNatClampNeg) : Int32) then (I 137 a9.toNatClampNeg) else a7 else a7 else a7 else a7 else a7) : Int32) = (I 137 a9.toNatClampNeg) := by rw [if_pos g29, if_pos g30, if_pos g31, if_pos g32, if_neg g33, if_pos g36]
                    rw [ee] at key41
                    clear ee
                    have ee : ((if ((I 133 a9.toNatClampNeg) : Int32) = a1 then if ((I 134 a9.toNatClampNeg) : Int32) = a2 then if ((I 135 a9.toNatClampNeg) : Int32) = a3 then if ((I 136 a9.toNatClampNeg) : Int32) = a4 then if a6 = 0 then if a6 = 0 then (I 138 a9.toNatClampNeg) else if ((I 138 a9.toNatClampNeg) : Int32) < a8 then (I 138 a9.toNatClampNeg) else a8 else if a7 < ((I 137 a9.toNatClampNeg) : Int32) then if a6 = 0 then (I 138 a9.toNatClampNeg) else if ((I 138 a9.toNatClampNeg) : Int32) < a8 then (I 138 a9.toNatClampNeg) else a8 else if a6 = 0 then (I 138 a9.toNatClampNeg) else if ((I 138 a9.toNatClampNeg) : Int32) < a8 then (I 138 a9.toNatClampNeg) else a8 else a8 else a8 else a8 else a8) : Int32) = a8 := by rw [if_pos g29, if_pos g30, if_pos g31, if_pos g32, if_neg g33, if_pos g36, if_neg g39, if_neg g40]
                    rw [ee] at key41
                    clear ee
                    exact key41
                  · refine z_aload_n 0 dX13_said_167 rfl ?_
                    refine fg_13_246 (some 138) rfl dX13_said_168 hL.1 hL.2.1 (ma_113 hL).1 ?_
                    refine z_iload 9 dX13_said_171 rfl ?_
                    refine z_iald (I 138 a9.toNatClampNeg) dX13_said_173 (ma_113 hL).2.1 (ma_113 hL).2.2 o28 rfl ?_
                    refine z_goto 179 dX13_said_174 (by decide) ?_
                    refine z_istore [1, 2, 3, 4, 5, 6, 7, 8, 0, 9] [(0, .ref (n0 + 59)), (1, .int a1), (2, .int a2), (3, .int a3), (4, .int a4), (5, .int a5), (6, .int a6), (7, .int (I 137 a9.toNatClampNeg)), (8, .int (I 138 a9.toNatClampNeg)), (9, .int a9)] dX13_said_179 (by decide) rfl ?_
                    refine z_iinc (j := 6) (a6 + 1) [1, 2, 3, 4, 5, 6, 0, 7, 8, 9] [(0, .ref (n0 + 59)), (1, .int a1), (2, .int a2), (3, .int a3), (4, .int a4), (5, .int a5), (6, .int (a6 + 1)), (7, .int (I 137 a9.toNatClampNeg)), (8, .int (I 138 a9.toNatClampNeg)), (9, .int a9)] dX13_said_181 rfl rfl (by decide) rfl ?_
                    have ee : ((if ((I 133 a9.toNatClampNeg) : Int32) = a1 then if ((I 134 a9.toNatClampNeg) : Int32) = a2 then if ((I 135 a9.toNatClampNeg) : Int32) = a3 then if ((I 136 a9.toNatClampNeg) : Int32) = a4 then (a6 + 1) else a6 else a6 else a6 else a6) : Int32) = (a6 + 1) := by rw [if_pos g29, if_pos g30, if_pos g31, if_pos g32]
                    rw [ee] at key41
                    clear ee
                    have ee : ((if ((I 133 a9.toNatClampNeg) : Int32) = a1 then if ((I 134 a9.toNatClampNeg) : Int32) = a2 then if ((I 135 a9.toNatClampNeg) : Int32) = a3 then if ((I 136 a9.toNatClampNeg) : Int32) = a4 then if a6 = 0 then (I 137 a9.toNatClampNeg) else if a7 < ((I 137 a9.toNatClampNeg) : Int32) then (I 137 a9.toNatClampNeg) else a7 else a7 else a7 else a7 else a7) : Int32) = (I 137 a9.toNatClampNeg) := by rw [if_pos g29, if_pos g30, if_pos g31, if_pos g32, if_neg g33, if_pos g36]
                    rw [ee] at key41
                    clear ee
                    have ee : ((if ((I 133 a9.toNatClampNeg) : Int32) = a1 then if ((I 134 a9.toNatClampNeg) : Int32) = a2 then if ((I 135 a9.toNatClampNeg) : Int32) = a3 then if ((I 136 a9.toNatClampNeg) : Int32) = a4 then if a6 = 0 then if a6 = 0 then (I 138 a9.toNatClampNeg) else if ((I 138 a9.toNatClampNeg) : Int32) < a8 then (I 138 a9.toNatClampNeg) else a8 else if a7 < ((I 137 a9.toNatClampNeg) : Int32) then if a6 = 0 then (I 138 a9.toNatClampNeg) else if ((I 138 a9.toNatClampNeg) : Int32) < a8 then (I 138 a9.toNatClampNeg) else a8 else if a6 = 0 then (I 138 a9.toNatClampNeg) else if ((I 138 a9.toNatClampNeg) : Int32) < a8 then (I 138 a9.toNatClampNeg) else a8 else a8 else a8 else a8 else a8) : Int32) = (I 138 a9.toNatClampNeg) := by rw [if_pos g29, if_pos g30, if_pos g31, if_pos g32, if_neg g33, if_pos g36, if_neg g39, if_pos g40]
                    rw [ee] at key41
                    clear ee
                    exact key41
theorem dX13_edition_0 : decode cX13_edition 0 = .ok (.aload_n 0, 1) := by decide +kernel
theorem dX13_edition_1 : decode cX13_edition 1 = .ok (.getfield 622, 3) := by decide +kernel
theorem dX13_edition_4 : decode cX13_edition 4 = .ok (.bipush 12, 2) := by decide +kernel
theorem dX13_edition_6 : decode cX13_edition 6 = .ok (.if_icmp .ne 10, 3) := by decide +kernel
theorem dX13_edition_9 : decode cX13_edition 9 = .ok (.aload_n 0, 1) := by decide +kernel
theorem dX13_edition_10 : decode cX13_edition 10 = .ok (.bipush (-6), 2) := by decide +kernel
theorem dX13_edition_12 : decode cX13_edition 12 = .ok (.invokevirtual 308, 3) := by decide +kernel
theorem dX13_edition_15 : decode cX13_edition 15 = .ok (.ireturn, 1) := by decide +kernel
theorem dX13_edition_16 : decode cX13_edition 16 = .ok (.aload_n 0, 1) := by decide +kernel
theorem dX13_edition_17 : decode cX13_edition 17 = .ok (.getfield 249, 3) := by decide +kernel
theorem dX13_edition_20 : decode cX13_edition 20 = .ok (.aload_n 0, 1) := by decide +kernel
theorem dX13_edition_21 : decode cX13_edition 21 = .ok (.getfield 622, 3) := by decide +kernel
theorem dX13_edition_24 : decode cX13_edition 24 = .ok (.aload_n 0, 1) := by decide +kernel
theorem dX13_edition_25 : decode cX13_edition 25 = .ok (.getfield 312, 3) := by decide +kernel
theorem dX13_edition_28 : decode cX13_edition 28 = .ok (.iastore, 1) := by decide +kernel
theorem dX13_edition_29 : decode cX13_edition 29 = .ok (.aload_n 0, 1) := by decide +kernel
theorem dX13_edition_30 : decode cX13_edition 30 = .ok (.dup, 1) := by decide +kernel
theorem dX13_edition_31 : decode cX13_edition 31 = .ok (.getfield 622, 3) := by decide +kernel
theorem dX13_edition_34 : decode cX13_edition 34 = .ok (.iconst 1, 1) := by decide +kernel
theorem dX13_edition_35 : decode cX13_edition 35 = .ok (.iadd, 1) := by decide +kernel
theorem dX13_edition_36 : decode cX13_edition 36 = .ok (.putfield 622, 3) := by decide +kernel
theorem dX13_edition_39 : decode cX13_edition 39 = .ok (.aload_n 0, 1) := by decide +kernel
theorem dX13_edition_40 : decode cX13_edition 40 = .ok (.getfield 622, 3) := by decide +kernel
theorem dX13_edition_43 : decode cX13_edition 43 = .ok (.iconst 1, 1) := by decide +kernel
theorem dX13_edition_44 : decode cX13_edition 44 = .ok (.isub, 1) := by decide +kernel
theorem dX13_edition_45 : decode cX13_edition 45 = .ok (.ireturn, 1) := by decide +kernel
set_option maxRecDepth 100000 in
set_option maxHeartbeats 4000000 in
theorem wp_X13_edition {n0 d : Nat} {K : z_K} {I : z_I} {L : z_L} {Q : z_q}  (hL : MLay K) (h : (if ((I 59 114) : Int32) = 12 then RM0 n0 xX13_refuse d [.ref (n0 + 59), .int (-6)] K I L (fun vv I3 L4 => ∃ r5 : Int32, vv = some (.int r5) ∧ Q (some (.int r5)) I3 L4) else vp_in (I 59 114) 12 ∧ Q (some (.int ((((I 59 114) + 1)) - 1))) (zI (zI I 139 ((I 59 114).toNatClampNeg) (I 59 0)) 59 114 ((I 59 114) + 1)) L)) : RM0 n0 xX13_edition (d + 1) [.ref (n0 + 59)] K I L Q := by
  refine z_entry0 (by decide) (Nat.le_of_ble_eq_true rfl) ?_
  change Z n0 xX13_edition (d + 1) 0 0 0 [(0, .ref (n0 + 59))] [] K I L (z_q0 K Q)
  refine z_aload_n 0 dX13_edition_0 rfl ?_
  refine fg_13_622 (I 59 114) rfl dX13_edition_1 hL.1 hL.2.1 rfl ?_
  refine z_bipush 12 dX13_edition_4 (by decide) ?_
  refine z_icmp_ne 16 dX13_edition_6 (by decide) (fun g1 => ?_) (fun g1 => ?_)
  · rw [if_neg g1] at h
    refine z_aload_n 0 dX13_edition_16 rfl ?_
    refine fg_13_249 (some 139) rfl dX13_edition_17 hL.1 hL.2.1 (ma_115 hL).1 ?_
    refine z_aload_n 0 dX13_edition_20 rfl ?_
    refine fg_13_622 (I 59 114) rfl dX13_edition_21 hL.1 hL.2.1 rfl ?_
    refine z_aload_n 0 dX13_edition_24 rfl ?_
    refine fg_13_312 (I 59 0) rfl dX13_edition_25 hL.1 hL.2.1 rfl ?_
    obtain ⟨o2, h⟩ := h
    refine z_iast dX13_edition_28 (ma_115 hL).2.1 (ma_115 hL).2.2 o2 ?_
    refine z_aload_n 0 dX13_edition_29 rfl ?_
    refine z_dup dX13_edition_30 rfl ?_
    refine fg_13_622 (I 59 114) rfl dX13_edition_31 hL.1 hL.2.1 rfl ?_
    refine z_iconst 1 dX13_edition_34 (by decide) ?_
    refine z_iadd dX13_edition_35 ?_
    refine fp_13_622 rfl dX13_edition_36 hL.1 hL.2.1 ?_
    refine z_aload_n 0 dX13_edition_39 rfl ?_
    refine fg_13_622 (((I 59 114) + 1)) rfl dX13_edition_40 hL.1 hL.2.1 rfl ?_
    refine z_iconst 1 dX13_edition_43 (by decide) ?_
    refine z_isub dX13_edition_44 ?_
    exact z_iret dX13_edition_45 rfl ⟨rfl, h⟩
  · rw [if_pos g1] at h
    refine z_aload_n 0 dX13_edition_9 rfl ?_
    refine z_bipush (-6) dX13_edition_10 (by decide) ?_
    refine z_callV0 (As := [.int (-6)]) (st := []) dX13_edition_12 hy_X13_refuse hL.1 hL.2.1 (by decide) wg_1778 wg_1780 wg_54 (Nat.le_refl _) (Nat.le_of_ble_eq_true rfl) (RM0.mono h (fun vv I3 L4 h => ?_))
    obtain ⟨r5, rfl, h⟩ := h
    change Z n0 xX13_edition (d + 1) 0 0 15 [(0, .ref (n0 + 59))] [.int r5] K I3 L4 (z_q0 K Q)
    exact z_iret dX13_edition_15 rfl ⟨rfl, h⟩
theorem dX13_holds_0 : decode cX13_holds 0 = .ok (.aload_n 0, 1) := by decide +kernel
theorem dX13_holds_1 : decode cX13_holds 1 = .ok (.getfield 622, 3) := by decide +kernel
theorem dX13_holds_4 : decode cX13_holds 4 = .ok (.iconst 1, 1) := by decide +kernel
theorem dX13_holds_5 : decode cX13_holds 5 = .ok (.isub, 1) := by decide +kernel
theorem dX13_holds_6 : decode cX13_holds 6 = .ok (.istore_n 3, 1) := by decide +kernel
theorem dX13_holds_7 : decode cX13_holds 7 = .ok (.iload_n 3, 1) := by decide +kernel
theorem dX13_holds_8 : decode cX13_holds 8 = .ok (.ifCond .ge 10, 3) := by decide +kernel
theorem dX13_holds_11 : decode cX13_holds 11 = .ok (.aload_n 0, 1) := by decide +kernel
theorem dX13_holds_12 : decode cX13_holds 12 = .ok (.bipush (-5), 2) := by decide +kernel
theorem dX13_holds_14 : decode cX13_holds 14 = .ok (.invokevirtual 308, 3) := by decide +kernel
theorem dX13_holds_17 : decode cX13_holds 17 = .ok (.ireturn, 1) := by decide +kernel
theorem dX13_holds_18 : decode cX13_holds 18 = .ok (.aload_n 0, 1) := by decide +kernel
theorem dX13_holds_19 : decode cX13_holds 19 = .ok (.getfield 249, 3) := by decide +kernel
theorem dX13_holds_22 : decode cX13_holds 22 = .ok (.iload_n 3, 1) := by decide +kernel
theorem dX13_holds_23 : decode cX13_holds 23 = .ok (.iaload, 1) := by decide +kernel
theorem dX13_holds_24 : decode cX13_holds 24 = .ok (.aload_n 0, 1) := by decide +kernel
theorem dX13_holds_25 : decode cX13_holds 25 = .ok (.getfield 312, 3) := by decide +kernel
theorem dX13_holds_28 : decode cX13_holds 28 = .ok (.if_icmp .eq 10, 3) := by decide +kernel
theorem dX13_holds_31 : decode cX13_holds 31 = .ok (.aload_n 0, 1) := by decide +kernel
theorem dX13_holds_32 : decode cX13_holds 32 = .ok (.bipush (-3), 2) := by decide +kernel
theorem dX13_holds_34 : decode cX13_holds 34 = .ok (.invokevirtual 308, 3) := by decide +kernel
theorem dX13_holds_37 : decode cX13_holds 37 = .ok (.ireturn, 1) := by decide +kernel
theorem dX13_holds_38 : decode cX13_holds 38 = .ok (.aload_n 0, 1) := by decide +kernel
theorem dX13_holds_39 : decode cX13_holds 39 = .ok (.iload_n 1, 1) := by decide +kernel
theorem dX13_holds_40 : decode cX13_holds 40 = .ok (.iload_n 2, 1) := by decide +kernel
theorem dX13_holds_41 : decode cX13_holds 41 = .ok (.aload_n 0, 1) := by decide +kernel
theorem dX13_holds_42 : decode cX13_holds 42 = .ok (.getfield 312, 3) := by decide +kernel
theorem dX13_holds_45 : decode cX13_holds 45 = .ok (.invokevirtual 495, 3) := by decide +kernel
theorem dX13_holds_48 : decode cX13_holds 48 = .ok (.istore 4, 2) := by decide +kernel
theorem dX13_holds_50 : decode cX13_holds 50 = .ok (.iload 4, 2) := by decide +kernel
theorem dX13_holds_52 : decode cX13_holds 52 = .ok (.ifCond .ge 10, 3) := by decide +kernel
theorem dX13_holds_55 : decode cX13_holds 55 = .ok (.aload_n 0, 1) := by decide +kernel
theorem dX13_holds_56 : decode cX13_holds 56 = .ok (.iload 4, 2) := by decide +kernel
theorem dX13_holds_58 : decode cX13_holds 58 = .ok (.invokevirtual 308, 3) := by decide +kernel
theorem dX13_holds_61 : decode cX13_holds 61 = .ok (.ireturn, 1) := by decide +kernel
theorem dX13_holds_62 : decode cX13_holds 62 = .ok (.aload_n 0, 1) := by decide +kernel
theorem dX13_holds_63 : decode cX13_holds 63 = .ok (.getfield 252, 3) := by decide +kernel
theorem dX13_holds_66 : decode cX13_holds 66 = .ok (.iload_n 3, 1) := by decide +kernel
theorem dX13_holds_67 : decode cX13_holds 67 = .ok (.iaload, 1) := by decide +kernel
theorem dX13_holds_68 : decode cX13_holds 68 = .ok (.bipush 8, 2) := by decide +kernel
theorem dX13_holds_70 : decode cX13_holds 70 = .ok (.if_icmp .ne 10, 3) := by decide +kernel
theorem dX13_holds_73 : decode cX13_holds 73 = .ok (.aload_n 0, 1) := by decide +kernel
theorem dX13_holds_74 : decode cX13_holds 74 = .ok (.bipush (-6), 2) := by decide +kernel
theorem dX13_holds_76 : decode cX13_holds 76 = .ok (.invokevirtual 308, 3) := by decide +kernel
theorem dX13_holds_79 : decode cX13_holds 79 = .ok (.ireturn, 1) := by decide +kernel
theorem dX13_holds_80 : decode cX13_holds 80 = .ok (.aload_n 0, 1) := by decide +kernel
theorem dX13_holds_81 : decode cX13_holds 81 = .ok (.getfield 255, 3) := by decide +kernel
theorem dX13_holds_84 : decode cX13_holds 84 = .ok (.bipush 8, 2) := by decide +kernel
theorem dX13_holds_86 : decode cX13_holds 86 = .ok (.iload_n 3, 1) := by decide +kernel
theorem dX13_holds_87 : decode cX13_holds 87 = .ok (.imul, 1) := by decide +kernel
theorem dX13_holds_88 : decode cX13_holds 88 = .ok (.aload_n 0, 1) := by decide +kernel
theorem dX13_holds_89 : decode cX13_holds 89 = .ok (.getfield 252, 3) := by decide +kernel
theorem dX13_holds_92 : decode cX13_holds 92 = .ok (.iload_n 3, 1) := by decide +kernel
theorem dX13_holds_93 : decode cX13_holds 93 = .ok (.iaload, 1) := by decide +kernel
theorem dX13_holds_94 : decode cX13_holds 94 = .ok (.iadd, 1) := by decide +kernel
theorem dX13_holds_95 : decode cX13_holds 95 = .ok (.iload_n 1, 1) := by decide +kernel
theorem dX13_holds_96 : decode cX13_holds 96 = .ok (.iastore, 1) := by decide +kernel
theorem dX13_holds_97 : decode cX13_holds 97 = .ok (.aload_n 0, 1) := by decide +kernel
theorem dX13_holds_98 : decode cX13_holds 98 = .ok (.getfield 258, 3) := by decide +kernel
theorem dX13_holds_101 : decode cX13_holds 101 = .ok (.bipush 8, 2) := by decide +kernel
theorem dX13_holds_103 : decode cX13_holds 103 = .ok (.iload_n 3, 1) := by decide +kernel
theorem dX13_holds_104 : decode cX13_holds 104 = .ok (.imul, 1) := by decide +kernel
theorem dX13_holds_105 : decode cX13_holds 105 = .ok (.aload_n 0, 1) := by decide +kernel
theorem dX13_holds_106 : decode cX13_holds 106 = .ok (.getfield 252, 3) := by decide +kernel
theorem dX13_holds_109 : decode cX13_holds 109 = .ok (.iload_n 3, 1) := by decide +kernel
theorem dX13_holds_110 : decode cX13_holds 110 = .ok (.iaload, 1) := by decide +kernel
theorem dX13_holds_111 : decode cX13_holds 111 = .ok (.iadd, 1) := by decide +kernel
theorem dX13_holds_112 : decode cX13_holds 112 = .ok (.iload_n 2, 1) := by decide +kernel
theorem dX13_holds_113 : decode cX13_holds 113 = .ok (.iastore, 1) := by decide +kernel
theorem dX13_holds_114 : decode cX13_holds 114 = .ok (.aload_n 0, 1) := by decide +kernel
theorem dX13_holds_115 : decode cX13_holds 115 = .ok (.getfield 252, 3) := by decide +kernel
theorem dX13_holds_118 : decode cX13_holds 118 = .ok (.iload_n 3, 1) := by decide +kernel
theorem dX13_holds_119 : decode cX13_holds 119 = .ok (.dup2, 1) := by decide +kernel
theorem dX13_holds_120 : decode cX13_holds 120 = .ok (.iaload, 1) := by decide +kernel
theorem dX13_holds_121 : decode cX13_holds 121 = .ok (.iconst 1, 1) := by decide +kernel
theorem dX13_holds_122 : decode cX13_holds 122 = .ok (.iadd, 1) := by decide +kernel
theorem dX13_holds_123 : decode cX13_holds 123 = .ok (.iastore, 1) := by decide +kernel
theorem dX13_holds_124 : decode cX13_holds 124 = .ok (.aload_n 0, 1) := by decide +kernel
theorem dX13_holds_125 : decode cX13_holds 125 = .ok (.getfield 252, 3) := by decide +kernel
theorem dX13_holds_128 : decode cX13_holds 128 = .ok (.iload_n 3, 1) := by decide +kernel
theorem dX13_holds_129 : decode cX13_holds 129 = .ok (.iaload, 1) := by decide +kernel
theorem dX13_holds_130 : decode cX13_holds 130 = .ok (.ireturn, 1) := by decide +kernel
set_option maxRecDepth 100000 in
set_option maxHeartbeats 4000000 in
theorem wp_X13_holds {n0 d : Nat} {K : z_K} {I : z_I} {L : z_L} {Q : z_q} {p0 : Int32} {p1 : Int32} (hL : MLay K) (h : (if (((I 59 114) - 1) : Int32) < 0 then RM0 n0 xX13_refuse d [.ref (n0 + 59), .int (-5)] K I L (fun vv I19 L20 => ∃ r21 : Int32, vv = some (.int r21) ∧ Q (some (.int r21)) I19 L20) else vp_in ((I 59 114) - 1) 12 ∧ (if ((I 139 (((I 59 114) - 1).toNatClampNeg)) : Int32) = (I 59 0) then RM0 n0 xX13_wrongDrawn d [.ref (n0 + 59), .int p0, .int p1, .int (I 59 0)] K I L (fun vv I4 L5 => ∃ r6 : Int32, vv = some (.int r6) ∧ (if r6 < 0 then RM0 n0 xX13_refuse d [.ref (n0 + 59), .int r6] K I4 L5 (fun vv I13 L14 => ∃ r15 : Int32, vv = some (.int r15) ∧ Q (some (.int r15)) I13 L14) else (if ((I4 140 (((I 59 114) - 1).toNatClampNeg)) : Int32) = 8 then RM0 n0 xX13_refuse d [.ref (n0 + 59), .int (-6)] K I4 L5 (fun vv I10 L11 => ∃ r12 : Int32, vv = some (.int r12) ∧ Q (some (.int r12)) I10 L11) else vp_in ((8 * ((I 59 114) - 1)) + (I4 140 (((I 59 114) - 1).toNatClampNeg))) 96 ∧ Q (some (.int ((zI (zI (zI I4 141 (((8 * ((I 59 114) - 1)) + (I4 140 (((I 59 114) - 1).toNatClampNeg))).toNatClampNeg) p0) 142 (((8 * ((I 59 114) - 1)) + (I4 140 (((I 59 114) - 1).toNatClampNeg))).toNatClampNeg) p1) 140 (((I 59 114) - 1).toNatClampNeg) ((I4 140 (((I 59 114) - 1).toNatClampNeg)) + 1)) 140 (((I 59 114) - 1).toNatClampNeg)))) (zI (zI (zI I4 141 (((8 * ((I 59 114) - 1)) + (I4 140 (((I 59 114) - 1).toNatClampNeg))).toNatClampNeg) p0) 142 (((8 * ((I 59 114) - 1)) + (I4 140 (((I 59 114) - 1).toNatClampNeg))).toNatClampNeg) p1) 140 (((I 59 114) - 1).toNatClampNeg) ((I4 140 (((I 59 114) - 1).toNatClampNeg)) + 1)) L5))) else RM0 n0 xX13_refuse d [.ref (n0 + 59), .int (-3)] K I L (fun vv I16 L17 => ∃ r18 : Int32, vv = some (.int r18) ∧ Q (some (.int r18)) I16 L17)))) : RM0 n0 xX13_holds (d + 1) [.ref (n0 + 59), .int p0, .int p1] K I L Q := by
  refine z_entry0 (by decide) (Nat.le_of_ble_eq_true rfl) ?_
  change Z n0 xX13_holds (d + 1) 0 0 0 [(0, .ref (n0 + 59)), (1, .int p0), (2, .int p1)] [] K I L (z_q0 K Q)
  refine z_aload_n 0 dX13_holds_0 rfl ?_
  refine fg_13_622 (I 59 114) rfl dX13_holds_1 hL.1 hL.2.1 rfl ?_
  refine z_iconst 1 dX13_holds_4 (by decide) ?_
  refine z_isub dX13_holds_5 ?_
  refine z_istore_n [1, 2, 3, 0] [(0, .ref (n0 + 59)), (1, .int p0), (2, .int p1), (3, .int ((I 59 114) - 1))] dX13_holds_6 (by decide) rfl ?_
  refine z_iload_n 3 dX13_holds_7 rfl ?_
  refine z_if_ge 18 dX13_holds_8 (by decide) (fun g1 => ?_) (fun g1 => ?_)
  · rw [if_neg g1] at h
    refine z_aload_n 0 dX13_holds_18 rfl ?_
    refine fg_13_249 (some 139) rfl dX13_holds_19 hL.1 hL.2.1 (ma_115 hL).1 ?_
    refine z_iload_n 3 dX13_holds_22 rfl ?_
    obtain ⟨o2, h⟩ := h
    refine z_iald (I 139 (((I 59 114) - 1).toNatClampNeg)) dX13_holds_23 (ma_115 hL).2.1 (ma_115 hL).2.2 o2 rfl ?_
    refine z_aload_n 0 dX13_holds_24 rfl ?_
    refine fg_13_312 (I 59 0) rfl dX13_holds_25 hL.1 hL.2.1 rfl ?_
    refine z_icmp_eq 38 dX13_holds_28 (by decide) (fun g3 => ?_) (fun g3 => ?_)
    · rw [if_pos g3] at h
      refine z_aload_n 0 dX13_holds_38 rfl ?_
      refine z_iload_n 1 dX13_holds_39 rfl ?_
      refine z_iload_n 2 dX13_holds_40 rfl ?_
      refine z_aload_n 0 dX13_holds_41 rfl ?_
      refine fg_13_312 (I 59 0) rfl dX13_holds_42 hL.1 hL.2.1 rfl ?_
      refine z_callV0 (As := [.int p0, .int p1, .int (I 59 0)]) (st := []) dX13_holds_45 hy_X13_wrongDrawn hL.1 hL.2.1 (by decide) wg_1954 wg_1956 wg_75 (Nat.le_refl _) (Nat.le_of_ble_eq_true rfl) (RM0.mono h (fun vv I4 L5 h => ?_))
      obtain ⟨r6, rfl, h⟩ := h
      change Z n0 xX13_holds (d + 1) 0 0 48 [(0, .ref (n0 + 59)), (1, .int p0), (2, .int p1), (3, .int ((I 59 114) - 1))] [.int r6] K I4 L5 (z_q0 K Q)
      refine z_istore [1, 2, 3, 4, 0] [(0, .ref (n0 + 59)), (1, .int p0), (2, .int p1), (3, .int ((I 59 114) - 1)), (4, .int r6)] dX13_holds_48 (by decide) rfl ?_
      refine z_iload 4 dX13_holds_50 rfl ?_
      refine z_if_ge 62 dX13_holds_52 (by decide) (fun g7 => ?_) (fun g7 => ?_)
      · rw [if_neg g7] at h
        refine z_aload_n 0 dX13_holds_62 rfl ?_
        refine fg_13_252 (some 140) rfl dX13_holds_63 hL.1 hL.2.1 (ma_116 hL).1 ?_
        refine z_iload_n 3 dX13_holds_66 rfl ?_
        refine z_iald (I4 140 (((I 59 114) - 1).toNatClampNeg)) dX13_holds_67 (ma_116 hL).2.1 (ma_116 hL).2.2 o2 rfl ?_
        refine z_bipush 8 dX13_holds_68 (by decide) ?_
        refine z_icmp_ne 80 dX13_holds_70 (by decide) (fun g8 => ?_) (fun g8 => ?_)
        · rw [if_neg g8] at h
          refine z_aload_n 0 dX13_holds_80 rfl ?_
          refine fg_13_255 (some 141) rfl dX13_holds_81 hL.1 hL.2.1 (ma_117 hL).1 ?_
          refine z_bipush 8 dX13_holds_84 (by decide) ?_
          refine z_iload_n 3 dX13_holds_86 rfl ?_
          refine z_imul dX13_holds_87 ?_
          refine z_aload_n 0 dX13_holds_88 rfl ?_
          refine fg_13_252 (some 140) rfl dX13_holds_89 hL.1 hL.2.1 (ma_116 hL).1 ?_
          refine z_iload_n 3 dX13_holds_92 rfl ?_
          refine z_iald (I4 140 (((I 59 114) - 1).toNatClampNeg)) dX13_holds_93 (ma_116 hL).2.1 (ma_116 hL).2.2 o2 rfl ?_
          refine z_iadd dX13_holds_94 ?_
          refine z_iload_n 1 dX13_holds_95 rfl ?_
          obtain ⟨o9, h⟩ := h
          refine z_iast dX13_holds_96 (ma_117 hL).2.1 (ma_117 hL).2.2 o9 ?_
          refine z_aload_n 0 dX13_holds_97 rfl ?_
          refine fg_13_258 (some 142) rfl dX13_holds_98 hL.1 hL.2.1 (ma_118 hL).1 ?_
          refine z_bipush 8 dX13_holds_101 (by decide) ?_
          refine z_iload_n 3 dX13_holds_103 rfl ?_
          refine z_imul dX13_holds_104 ?_
          refine z_aload_n 0 dX13_holds_105 rfl ?_
          refine fg_13_252 (some 140) rfl dX13_holds_106 hL.1 hL.2.1 (ma_116 hL).1 ?_
          refine z_iload_n 3 dX13_holds_109 rfl ?_
          refine z_iald (I4 140 (((I 59 114) - 1).toNatClampNeg)) dX13_holds_110 (ma_116 hL).2.1 (ma_116 hL).2.2 o2 rfl ?_
          refine z_iadd dX13_holds_111 ?_
          refine z_iload_n 2 dX13_holds_112 rfl ?_
          refine z_iast dX13_holds_113 (ma_118 hL).2.1 (ma_118 hL).2.2 o9 ?_
          refine z_aload_n 0 dX13_holds_114 rfl ?_
          refine fg_13_252 (some 140) rfl dX13_holds_115 hL.1 hL.2.1 (ma_116 hL).1 ?_
          refine z_iload_n 3 dX13_holds_118 rfl ?_
          refine z_dup2 dX13_holds_119 rfl rfl ?_
          refine z_iald (I4 140 (((I 59 114) - 1).toNatClampNeg)) dX13_holds_120 (ma_116 hL).2.1 (ma_116 hL).2.2 o2 rfl ?_
          refine z_iconst 1 dX13_holds_121 (by decide) ?_
          refine z_iadd dX13_holds_122 ?_
          refine z_iast dX13_holds_123 (ma_116 hL).2.1 (ma_116 hL).2.2 o2 ?_
          refine z_aload_n 0 dX13_holds_124 rfl ?_
          refine fg_13_252 (some 140) rfl dX13_holds_125 hL.1 hL.2.1 (ma_116 hL).1 ?_
          refine z_iload_n 3 dX13_holds_128 rfl ?_
          refine z_iald ((zI (zI (zI I4 141 (((8 * ((I 59 114) - 1)) + (I4 140 (((I 59 114) - 1).toNatClampNeg))).toNatClampNeg) p0) 142 (((8 * ((I 59 114) - 1)) + (I4 140 (((I 59 114) - 1).toNatClampNeg))).toNatClampNeg) p1) 140 (((I 59 114) - 1).toNatClampNeg) ((I4 140 (((I 59 114) - 1).toNatClampNeg)) + 1)) 140 (((I 59 114) - 1).toNatClampNeg)) dX13_holds_129 (ma_116 hL).2.1 (ma_116 hL).2.2 o2 rfl ?_
          exact z_iret dX13_holds_130 rfl ⟨rfl, h⟩
        · rw [if_pos g8] at h
          refine z_aload_n 0 dX13_holds_73 rfl ?_
          refine z_bipush (-6) dX13_holds_74 (by decide) ?_
          refine z_callV0 (As := [.int (-6)]) (st := []) dX13_holds_76 hy_X13_refuse hL.1 hL.2.1 (by decide) wg_1778 wg_1780 wg_54 (Nat.le_refl _) (Nat.le_of_ble_eq_true rfl) (RM0.mono h (fun vv I10 L11 h => ?_))
          obtain ⟨r12, rfl, h⟩ := h
          change Z n0 xX13_holds (d + 1) 0 0 79 [(0, .ref (n0 + 59)), (1, .int p0), (2, .int p1), (3, .int ((I 59 114) - 1)), (4, .int r6)] [.int r12] K I10 L11 (z_q0 K Q)
          exact z_iret dX13_holds_79 rfl ⟨rfl, h⟩
      · rw [if_pos g7] at h
        refine z_aload_n 0 dX13_holds_55 rfl ?_
        refine z_iload 4 dX13_holds_56 rfl ?_
        refine z_callV0 (As := [.int r6]) (st := []) dX13_holds_58 hy_X13_refuse hL.1 hL.2.1 (by decide) wg_1778 wg_1780 wg_54 (Nat.le_refl _) (Nat.le_of_ble_eq_true rfl) (RM0.mono h (fun vv I13 L14 h => ?_))
        obtain ⟨r15, rfl, h⟩ := h
        change Z n0 xX13_holds (d + 1) 0 0 61 [(0, .ref (n0 + 59)), (1, .int p0), (2, .int p1), (3, .int ((I 59 114) - 1)), (4, .int r6)] [.int r15] K I13 L14 (z_q0 K Q)
        exact z_iret dX13_holds_61 rfl ⟨rfl, h⟩
    · rw [if_neg g3] at h
      refine z_aload_n 0 dX13_holds_31 rfl ?_
      refine z_bipush (-3) dX13_holds_32 (by decide) ?_
      refine z_callV0 (As := [.int (-3)]) (st := []) dX13_holds_34 hy_X13_refuse hL.1 hL.2.1 (by decide) wg_1778 wg_1780 wg_54 (Nat.le_refl _) (Nat.le_of_ble_eq_true rfl) (RM0.mono h (fun vv I16 L17 h => ?_))
      obtain ⟨r18, rfl, h⟩ := h
      change Z n0 xX13_holds (d + 1) 0 0 37 [(0, .ref (n0 + 59)), (1, .int p0), (2, .int p1), (3, .int ((I 59 114) - 1))] [.int r18] K I16 L17 (z_q0 K Q)
      exact z_iret dX13_holds_37 rfl ⟨rfl, h⟩
  · rw [if_pos g1] at h
    refine z_aload_n 0 dX13_holds_11 rfl ?_
    refine z_bipush (-5) dX13_holds_12 (by decide) ?_
    refine z_callV0 (As := [.int (-5)]) (st := []) dX13_holds_14 hy_X13_refuse hL.1 hL.2.1 (by decide) wg_1778 wg_1780 wg_54 (Nat.le_refl _) (Nat.le_of_ble_eq_true rfl) (RM0.mono h (fun vv I19 L20 h => ?_))
    obtain ⟨r21, rfl, h⟩ := h
    change Z n0 xX13_holds (d + 1) 0 0 17 [(0, .ref (n0 + 59)), (1, .int p0), (2, .int p1), (3, .int ((I 59 114) - 1))] [.int r21] K I19 L20 (z_q0 K Q)
    exact z_iret dX13_holds_17 rfl ⟨rfl, h⟩
theorem dX13_isEdition_0 : decode cX13_isEdition 0 = .ok (.iload_n 1, 1) := by decide +kernel
theorem dX13_isEdition_1 : decode cX13_isEdition 1 = .ok (.i2l, 1) := by decide +kernel
theorem dX13_isEdition_2 : decode cX13_isEdition 2 = .ok (.lconst 0, 1) := by decide +kernel
theorem dX13_isEdition_3 : decode cX13_isEdition 3 = .ok (.aload_n 0, 1) := by decide +kernel
theorem dX13_isEdition_4 : decode cX13_isEdition 4 = .ok (.getfield 622, 3) := by decide +kernel
theorem dX13_isEdition_7 : decode cX13_isEdition 7 = .ok (.iconst 1, 1) := by decide +kernel
theorem dX13_isEdition_8 : decode cX13_isEdition 8 = .ok (.isub, 1) := by decide +kernel
theorem dX13_isEdition_9 : decode cX13_isEdition 9 = .ok (.i2l, 1) := by decide +kernel
theorem dX13_isEdition_10 : decode cX13_isEdition 10 = .ok (.invokestatic 291, 3) := by decide +kernel
theorem dX13_isEdition_13 : decode cX13_isEdition 13 = .ok (.ireturn, 1) := by decide +kernel
set_option maxRecDepth 100000 in
set_option maxHeartbeats 4000000 in
theorem wp_X13_isEdition {n0 d : Nat} {K : z_K} {I : z_I} {L : z_L} {Q : z_q} {p0 : Int32} (hL : MLay K) (h : RM0 n0 xX13_in d [.long p0.toInt64, .long 0, .long ((((I 59 114) - 1) : Int32).toInt64)] K I L (fun vv I1 L2 => ∃ r3 : Int32, vv = some (.int r3) ∧ z_b r3 ∧ Q (some (.int r3)) I1 L2)) : RM0 n0 xX13_isEdition (d + 1) [.ref (n0 + 59), .int p0] K I L Q := by
  refine z_entry0 (by decide) (Nat.le_of_ble_eq_true rfl) ?_
  change Z n0 xX13_isEdition (d + 1) 0 0 0 [(0, .ref (n0 + 59)), (1, .int p0)] [] K I L (z_q0 K Q)
  refine z_iload_n 1 dX13_isEdition_0 rfl ?_
  refine z_i2l dX13_isEdition_1 ?_
  refine z_lconst 0 dX13_isEdition_2 (by decide) ?_
  refine z_aload_n 0 dX13_isEdition_3 rfl ?_
  refine fg_13_622 (I 59 114) rfl dX13_isEdition_4 hL.1 hL.2.1 rfl ?_
  refine z_iconst 1 dX13_isEdition_7 (by decide) ?_
  refine z_isub dX13_isEdition_8 ?_
  refine z_i2l dX13_isEdition_9 ?_
  refine z_callS0 (As := [.long p0.toInt64, .long 0, .long ((((I 59 114) - 1) : Int32).toInt64)]) (st := []) dX13_isEdition_10 hy_X13_in wg_1790 wg_1791 (Nat.le_refl _) (Nat.le_of_ble_eq_true rfl) (RM0.mono h (fun vv I1 L2 h => ?_))
  obtain ⟨r3, rfl, h⟩ := h
  change Z n0 xX13_isEdition (d + 1) 0 0 13 [(0, .ref (n0 + 59)), (1, .int p0)] [.int r3] K I1 L2 (z_q0 K Q)
  obtain ⟨o4, h⟩ := h
  exact z_zretb dX13_isEdition_13 rfl o4 ⟨rfl, h⟩
theorem dX13_word_0 : decode cX13_word 0 = .ok (.aload_n 0, 1) := by decide +kernel
theorem dX13_word_1 : decode cX13_word 1 = .ok (.iload_n 1, 1) := by decide +kernel
theorem dX13_word_2 : decode cX13_word 2 = .ok (.invokevirtual 625, 3) := by decide +kernel
theorem dX13_word_5 : decode cX13_word 5 = .ok (.ifCond .eq 21, 3) := by decide +kernel
theorem dX13_word_8 : decode cX13_word 8 = .ok (.iload_n 2, 1) := by decide +kernel
theorem dX13_word_9 : decode cX13_word 9 = .ok (.i2l, 1) := by decide +kernel
theorem dX13_word_10 : decode cX13_word 10 = .ok (.lconst 0, 1) := by decide +kernel
theorem dX13_word_11 : decode cX13_word 11 = .ok (.aload_n 0, 1) := by decide +kernel
theorem dX13_word_12 : decode cX13_word 12 = .ok (.getfield 252, 3) := by decide +kernel
theorem dX13_word_15 : decode cX13_word 15 = .ok (.iload_n 1, 1) := by decide +kernel
theorem dX13_word_16 : decode cX13_word 16 = .ok (.iaload, 1) := by decide +kernel
theorem dX13_word_17 : decode cX13_word 17 = .ok (.iconst 1, 1) := by decide +kernel
theorem dX13_word_18 : decode cX13_word 18 = .ok (.isub, 1) := by decide +kernel
theorem dX13_word_19 : decode cX13_word 19 = .ok (.i2l, 1) := by decide +kernel
theorem dX13_word_20 : decode cX13_word 20 = .ok (.invokestatic 291, 3) := by decide +kernel
theorem dX13_word_23 : decode cX13_word 23 = .ok (.ifCond .ne 9, 3) := by decide +kernel
theorem dX13_word_26 : decode cX13_word 26 = .ok (.aload_n 0, 1) := by decide +kernel
theorem dX13_word_27 : decode cX13_word 27 = .ok (.iconst (-1), 1) := by decide +kernel
theorem dX13_word_28 : decode cX13_word 28 = .ok (.invokevirtual 308, 3) := by decide +kernel
theorem dX13_word_31 : decode cX13_word 31 = .ok (.ireturn, 1) := by decide +kernel
theorem dX13_word_32 : decode cX13_word 32 = .ok (.iload_n 3, 1) := by decide +kernel
theorem dX13_word_33 : decode cX13_word 33 = .ok (.i2l, 1) := by decide +kernel
theorem dX13_word_34 : decode cX13_word 34 = .ok (.lconst 0, 1) := by decide +kernel
theorem dX13_word_35 : decode cX13_word 35 = .ok (.ldc2_w 366, 3) := by decide +kernel
theorem dX13_word_38 : decode cX13_word 38 = .ok (.invokestatic 291, 3) := by decide +kernel
theorem dX13_word_41 : decode cX13_word 41 = .ok (.ifCond .ne 10, 3) := by decide +kernel
theorem dX13_word_44 : decode cX13_word 44 = .ok (.aload_n 0, 1) := by decide +kernel
theorem dX13_word_45 : decode cX13_word 45 = .ok (.bipush (-2), 2) := by decide +kernel
theorem dX13_word_47 : decode cX13_word 47 = .ok (.invokevirtual 308, 3) := by decide +kernel
theorem dX13_word_50 : decode cX13_word 50 = .ok (.ireturn, 1) := by decide +kernel
theorem dX13_word_51 : decode cX13_word 51 = .ok (.iload 4, 2) := by decide +kernel
theorem dX13_word_53 : decode cX13_word 53 = .ok (.ifCond .ge 10, 3) := by decide +kernel
theorem dX13_word_56 : decode cX13_word 56 = .ok (.aload_n 0, 1) := by decide +kernel
theorem dX13_word_57 : decode cX13_word 57 = .ok (.bipush (-4), 2) := by decide +kernel
theorem dX13_word_59 : decode cX13_word 59 = .ok (.invokevirtual 308, 3) := by decide +kernel
theorem dX13_word_62 : decode cX13_word 62 = .ok (.ireturn, 1) := by decide +kernel
theorem dX13_word_63 : decode cX13_word 63 = .ok (.iload 4, 2) := by decide +kernel
theorem dX13_word_65 : decode cX13_word 65 = .ok (.ldc_w 288, 3) := by decide +kernel
theorem dX13_word_68 : decode cX13_word 68 = .ok (.if_icmp .gt 14, 3) := by decide +kernel
theorem dX13_word_71 : decode cX13_word 71 = .ok (.aload_n 0, 1) := by decide +kernel
theorem dX13_word_72 : decode cX13_word 72 = .ok (.getfield 261, 3) := by decide +kernel
theorem dX13_word_75 : decode cX13_word 75 = .ok (.iload_n 1, 1) := by decide +kernel
theorem dX13_word_76 : decode cX13_word 76 = .ok (.iaload, 1) := by decide +kernel
theorem dX13_word_77 : decode cX13_word 77 = .ok (.bipush 12, 2) := by decide +kernel
theorem dX13_word_79 : decode cX13_word 79 = .ok (.if_icmp .ne 10, 3) := by decide +kernel
theorem dX13_word_82 : decode cX13_word 82 = .ok (.aload_n 0, 1) := by decide +kernel
theorem dX13_word_83 : decode cX13_word 83 = .ok (.bipush (-6), 2) := by decide +kernel
theorem dX13_word_85 : decode cX13_word 85 = .ok (.invokevirtual 308, 3) := by decide +kernel
theorem dX13_word_88 : decode cX13_word 88 = .ok (.ireturn, 1) := by decide +kernel
theorem dX13_word_89 : decode cX13_word 89 = .ok (.bipush 12, 2) := by decide +kernel
theorem dX13_word_91 : decode cX13_word 91 = .ok (.iload_n 1, 1) := by decide +kernel
theorem dX13_word_92 : decode cX13_word 92 = .ok (.imul, 1) := by decide +kernel
theorem dX13_word_93 : decode cX13_word 93 = .ok (.aload_n 0, 1) := by decide +kernel
theorem dX13_word_94 : decode cX13_word 94 = .ok (.getfield 261, 3) := by decide +kernel
theorem dX13_word_97 : decode cX13_word 97 = .ok (.iload_n 1, 1) := by decide +kernel
theorem dX13_word_98 : decode cX13_word 98 = .ok (.iaload, 1) := by decide +kernel
theorem dX13_word_99 : decode cX13_word 99 = .ok (.iadd, 1) := by decide +kernel
theorem dX13_word_100 : decode cX13_word 100 = .ok (.istore 5, 2) := by decide +kernel
theorem dX13_word_102 : decode cX13_word 102 = .ok (.aload_n 0, 1) := by decide +kernel
theorem dX13_word_103 : decode cX13_word 103 = .ok (.getfield 264, 3) := by decide +kernel
theorem dX13_word_106 : decode cX13_word 106 = .ok (.iload 5, 2) := by decide +kernel
theorem dX13_word_108 : decode cX13_word 108 = .ok (.iload_n 2, 1) := by decide +kernel
theorem dX13_word_109 : decode cX13_word 109 = .ok (.iastore, 1) := by decide +kernel
theorem dX13_word_110 : decode cX13_word 110 = .ok (.aload_n 0, 1) := by decide +kernel
theorem dX13_word_111 : decode cX13_word 111 = .ok (.getfield 267, 3) := by decide +kernel
theorem dX13_word_114 : decode cX13_word 114 = .ok (.iload 5, 2) := by decide +kernel
theorem dX13_word_116 : decode cX13_word 116 = .ok (.iload_n 3, 1) := by decide +kernel
theorem dX13_word_117 : decode cX13_word 117 = .ok (.iastore, 1) := by decide +kernel
theorem dX13_word_118 : decode cX13_word 118 = .ok (.aload_n 0, 1) := by decide +kernel
theorem dX13_word_119 : decode cX13_word 119 = .ok (.getfield 270, 3) := by decide +kernel
theorem dX13_word_122 : decode cX13_word 122 = .ok (.iload 5, 2) := by decide +kernel
theorem dX13_word_124 : decode cX13_word 124 = .ok (.iload 4, 2) := by decide +kernel
theorem dX13_word_126 : decode cX13_word 126 = .ok (.iastore, 1) := by decide +kernel
theorem dX13_word_127 : decode cX13_word 127 = .ok (.aload_n 0, 1) := by decide +kernel
theorem dX13_word_128 : decode cX13_word 128 = .ok (.getfield 261, 3) := by decide +kernel
theorem dX13_word_131 : decode cX13_word 131 = .ok (.iload_n 1, 1) := by decide +kernel
theorem dX13_word_132 : decode cX13_word 132 = .ok (.dup2, 1) := by decide +kernel
theorem dX13_word_133 : decode cX13_word 133 = .ok (.iaload, 1) := by decide +kernel
theorem dX13_word_134 : decode cX13_word 134 = .ok (.iconst 1, 1) := by decide +kernel
theorem dX13_word_135 : decode cX13_word 135 = .ok (.iadd, 1) := by decide +kernel
theorem dX13_word_136 : decode cX13_word 136 = .ok (.iastore, 1) := by decide +kernel
theorem dX13_word_137 : decode cX13_word 137 = .ok (.aload_n 0, 1) := by decide +kernel
theorem dX13_word_138 : decode cX13_word 138 = .ok (.getfield 261, 3) := by decide +kernel
theorem dX13_word_141 : decode cX13_word 141 = .ok (.iload_n 1, 1) := by decide +kernel
theorem dX13_word_142 : decode cX13_word 142 = .ok (.iaload, 1) := by decide +kernel
theorem dX13_word_143 : decode cX13_word 143 = .ok (.ireturn, 1) := by decide +kernel
set_option maxRecDepth 100000 in
set_option maxHeartbeats 4000000 in
theorem wp_X13_word {n0 d : Nat} {K : z_K} {I : z_I} {L : z_L} {Q : z_q} {p0 : Int32} {p1 : Int32} {p2 : Int32} {p3 : Int32} (hL : MLay K) (h : RM0 n0 xX13_isEdition d [.ref (n0 + 59), .int p0] K I L (fun vv I1 L2 => ∃ r3 : Int32, vv = some (.int r3) ∧ (if r3 = 0 then RM0 n0 xX13_refuse d [.ref (n0 + 59), .int (-1)] K I1 L2 (fun vv I5 L6 => ∃ r7 : Int32, vv = some (.int r7) ∧ Q (some (.int r7)) I5 L6) else vp_in p0 12 ∧ RM0 n0 xX13_in d [.long p1.toInt64, .long 0, .long ((((I1 140 p0.toNatClampNeg) - 1) : Int32).toInt64)] K I1 L2 (fun vv I9 L10 => ∃ r11 : Int32, vv = some (.int r11) ∧ (if r11 = 0 then RM0 n0 xX13_refuse d [.ref (n0 + 59), .int (-1)] K I9 L10 (fun vv I33 L34 => ∃ r35 : Int32, vv = some (.int r35) ∧ Q (some (.int r35)) I33 L34) else RM0 n0 xX13_in d [.long p2.toInt64, .long 0, .long 2] K I9 L10 (fun vv I13 L14 => ∃ r15 : Int32, vv = some (.int r15) ∧ (if r15 = 0 then RM0 n0 xX13_refuse d [.ref (n0 + 59), .int (-2)] K I13 L14 (fun vv I30 L31 => ∃ r32 : Int32, vv = some (.int r32) ∧ Q (some (.int r32)) I30 L31) else (if p3 < 0 then RM0 n0 xX13_refuse d [.ref (n0 + 59), .int (-4)] K I13 L14 (fun vv I27 L28 => ∃ r29 : Int32, vv = some (.int r29) ∧ Q (some (.int r29)) I27 L28) else (if 1000000000 < p3 then RM0 n0 xX13_refuse d [.ref (n0 + 59), .int (-6)] K I13 L14 (fun vv I19 L20 => ∃ r21 : Int32, vv = some (.int r21) ∧ Q (some (.int r21)) I19 L20) else (if ((I13 143 p0.toNatClampNeg) : Int32) = 12 then RM0 n0 xX13_refuse d [.ref (n0 + 59), .int (-6)] K I13 L14 (fun vv I24 L25 => ∃ r26 : Int32, vv = some (.int r26) ∧ Q (some (.int r26)) I24 L25) else vp_in ((12 * p0) + (I13 143 p0.toNatClampNeg)) 144 ∧ Q (some (.int ((zI (zI (zI (zI I13 144 (((12 * p0) + (I13 143 p0.toNatClampNeg)).toNatClampNeg) p1) 145 (((12 * p0) + (I13 143 p0.toNatClampNeg)).toNatClampNeg) p2) 146 (((12 * p0) + (I13 143 p0.toNatClampNeg)).toNatClampNeg) p3) 143 p0.toNatClampNeg ((I13 143 p0.toNatClampNeg) + 1)) 143 p0.toNatClampNeg))) (zI (zI (zI (zI I13 144 (((12 * p0) + (I13 143 p0.toNatClampNeg)).toNatClampNeg) p1) 145 (((12 * p0) + (I13 143 p0.toNatClampNeg)).toNatClampNeg) p2) 146 (((12 * p0) + (I13 143 p0.toNatClampNeg)).toNatClampNeg) p3) 143 p0.toNatClampNeg ((I13 143 p0.toNatClampNeg) + 1)) L14)))))))))) : RM0 n0 xX13_word (d + 1) [.ref (n0 + 59), .int p0, .int p1, .int p2, .int p3] K I L Q := by
  refine z_entry0 (by decide) (Nat.le_of_ble_eq_true rfl) ?_
  change Z n0 xX13_word (d + 1) 0 0 0 [(0, .ref (n0 + 59)), (1, .int p0), (2, .int p1), (3, .int p2), (4, .int p3)] [] K I L (z_q0 K Q)
  refine z_aload_n 0 dX13_word_0 rfl ?_
  refine z_iload_n 1 dX13_word_1 rfl ?_
  refine z_callV0 (As := [.int p0]) (st := []) dX13_word_2 hy_X13_isEdition hL.1 hL.2.1 (by decide) wg_2194 wg_2196 wg_101 (Nat.le_refl _) (Nat.le_of_ble_eq_true rfl) (RM0.mono h (fun vv I1 L2 h => ?_))
  obtain ⟨r3, rfl, h⟩ := h
  change Z n0 xX13_word (d + 1) 0 0 5 [(0, .ref (n0 + 59)), (1, .int p0), (2, .int p1), (3, .int p2), (4, .int p3)] [.int r3] K I1 L2 (z_q0 K Q)
  refine z_if_eq 26 dX13_word_5 (by decide) (fun g4 => ?_) (fun g4 => ?_)
  · rw [if_pos g4] at h
    refine z_aload_n 0 dX13_word_26 rfl ?_
    refine z_iconst (-1) dX13_word_27 (by decide) ?_
    refine z_callV0 (As := [.int (-1)]) (st := []) dX13_word_28 hy_X13_refuse hL.1 hL.2.1 (by decide) wg_1778 wg_1780 wg_54 (Nat.le_refl _) (Nat.le_of_ble_eq_true rfl) (RM0.mono h (fun vv I5 L6 h => ?_))
    obtain ⟨r7, rfl, h⟩ := h
    change Z n0 xX13_word (d + 1) 0 0 31 [(0, .ref (n0 + 59)), (1, .int p0), (2, .int p1), (3, .int p2), (4, .int p3)] [.int r7] K I5 L6 (z_q0 K Q)
    exact z_iret dX13_word_31 rfl ⟨rfl, h⟩
  · rw [if_neg g4] at h
    refine z_iload_n 2 dX13_word_8 rfl ?_
    refine z_i2l dX13_word_9 ?_
    refine z_lconst 0 dX13_word_10 (by decide) ?_
    refine z_aload_n 0 dX13_word_11 rfl ?_
    refine fg_13_252 (some 140) rfl dX13_word_12 hL.1 hL.2.1 (ma_116 hL).1 ?_
    refine z_iload_n 1 dX13_word_15 rfl ?_
    obtain ⟨o8, h⟩ := h
    refine z_iald (I1 140 p0.toNatClampNeg) dX13_word_16 (ma_116 hL).2.1 (ma_116 hL).2.2 o8 rfl ?_
    refine z_iconst 1 dX13_word_17 (by decide) ?_
    refine z_isub dX13_word_18 ?_
    refine z_i2l dX13_word_19 ?_
    refine z_callS0 (As := [.long p1.toInt64, .long 0, .long ((((I1 140 p0.toNatClampNeg) - 1) : Int32).toInt64)]) (st := []) dX13_word_20 hy_X13_in wg_1790 wg_1791 (Nat.le_refl _) (Nat.le_of_ble_eq_true rfl) (RM0.mono h (fun vv I9 L10 h => ?_))
    obtain ⟨r11, rfl, h⟩ := h
    change Z n0 xX13_word (d + 1) 0 0 23 [(0, .ref (n0 + 59)), (1, .int p0), (2, .int p1), (3, .int p2), (4, .int p3)] [.int r11] K I9 L10 (z_q0 K Q)
    refine z_if_ne 32 dX13_word_23 (by decide) (fun g12 => ?_) (fun g12 => ?_)
    · rw [if_neg g12] at h
      refine z_iload_n 3 dX13_word_32 rfl ?_
      refine z_i2l dX13_word_33 ?_
      refine z_lconst 0 dX13_word_34 (by decide) ?_
      refine z_ldc2_w 2 dX13_word_35 wg_1913 ?_
      refine z_callS0 (As := [.long p2.toInt64, .long 0, .long 2]) (st := []) dX13_word_38 hy_X13_in wg_1790 wg_1791 (Nat.le_refl _) (Nat.le_of_ble_eq_true rfl) (RM0.mono h (fun vv I13 L14 h => ?_))
      obtain ⟨r15, rfl, h⟩ := h
      change Z n0 xX13_word (d + 1) 0 0 41 [(0, .ref (n0 + 59)), (1, .int p0), (2, .int p1), (3, .int p2), (4, .int p3)] [.int r15] K I13 L14 (z_q0 K Q)
      refine z_if_ne 51 dX13_word_41 (by decide) (fun g16 => ?_) (fun g16 => ?_)
      · rw [if_neg g16] at h
        refine z_iload 4 dX13_word_51 rfl ?_
        refine z_if_ge 63 dX13_word_53 (by decide) (fun g17 => ?_) (fun g17 => ?_)
        · rw [if_neg g17] at h
          refine z_iload 4 dX13_word_63 rfl ?_
          refine z_ldc_w 1000000000 dX13_word_65 wg_1824 ?_
          refine z_icmp_gt 82 dX13_word_68 (by decide) (fun g18 => ?_) (fun g18 => ?_)
          · rw [if_pos g18] at h
            refine z_aload_n 0 dX13_word_82 rfl ?_
            refine z_bipush (-6) dX13_word_83 (by decide) ?_
            refine z_callV0 (As := [.int (-6)]) (st := []) dX13_word_85 hy_X13_refuse hL.1 hL.2.1 (by decide) wg_1778 wg_1780 wg_54 (Nat.le_refl _) (Nat.le_of_ble_eq_true rfl) (RM0.mono h (fun vv I19 L20 h => ?_))
            obtain ⟨r21, rfl, h⟩ := h
            change Z n0 xX13_word (d + 1) 0 0 88 [(0, .ref (n0 + 59)), (1, .int p0), (2, .int p1), (3, .int p2), (4, .int p3)] [.int r21] K I19 L20 (z_q0 K Q)
            exact z_iret dX13_word_88 rfl ⟨rfl, h⟩
          · rw [if_neg g18] at h
            refine z_aload_n 0 dX13_word_71 rfl ?_
            refine fg_13_261 (some 143) rfl dX13_word_72 hL.1 hL.2.1 (ma_119 hL).1 ?_
            refine z_iload_n 1 dX13_word_75 rfl ?_
            refine z_iald (I13 143 p0.toNatClampNeg) dX13_word_76 (ma_119 hL).2.1 (ma_119 hL).2.2 o8 rfl ?_
            refine z_bipush 12 dX13_word_77 (by decide) ?_
            refine z_icmp_ne 89 dX13_word_79 (by decide) (fun g22 => ?_) (fun g22 => ?_)
            · rw [if_neg g22] at h
              refine z_bipush 12 dX13_word_89 (by decide) ?_
              refine z_iload_n 1 dX13_word_91 rfl ?_
              refine z_imul dX13_word_92 ?_
              refine z_aload_n 0 dX13_word_93 rfl ?_
              refine fg_13_261 (some 143) rfl dX13_word_94 hL.1 hL.2.1 (ma_119 hL).1 ?_
              refine z_iload_n 1 dX13_word_97 rfl ?_
              refine z_iald (I13 143 p0.toNatClampNeg) dX13_word_98 (ma_119 hL).2.1 (ma_119 hL).2.2 o8 rfl ?_
              refine z_iadd dX13_word_99 ?_
              refine z_istore [1, 2, 3, 4, 5, 0] [(0, .ref (n0 + 59)), (1, .int p0), (2, .int p1), (3, .int p2), (4, .int p3), (5, .int ((12 * p0) + (I13 143 p0.toNatClampNeg)))] dX13_word_100 (by decide) rfl ?_
              refine z_aload_n 0 dX13_word_102 rfl ?_
              refine fg_13_264 (some 144) rfl dX13_word_103 hL.1 hL.2.1 (ma_120 hL).1 ?_
              refine z_iload 5 dX13_word_106 rfl ?_
              refine z_iload_n 2 dX13_word_108 rfl ?_
              obtain ⟨o23, h⟩ := h
              refine z_iast dX13_word_109 (ma_120 hL).2.1 (ma_120 hL).2.2 o23 ?_
              refine z_aload_n 0 dX13_word_110 rfl ?_
              refine fg_13_267 (some 145) rfl dX13_word_111 hL.1 hL.2.1 (ma_121 hL).1 ?_
              refine z_iload 5 dX13_word_114 rfl ?_
              refine z_iload_n 3 dX13_word_116 rfl ?_
              refine z_iast dX13_word_117 (ma_121 hL).2.1 (ma_121 hL).2.2 o23 ?_
              refine z_aload_n 0 dX13_word_118 rfl ?_
              refine fg_13_270 (some 146) rfl dX13_word_119 hL.1 hL.2.1 (ma_122 hL).1 ?_
              refine z_iload 5 dX13_word_122 rfl ?_
              refine z_iload 4 dX13_word_124 rfl ?_
              refine z_iast dX13_word_126 (ma_122 hL).2.1 (ma_122 hL).2.2 o23 ?_
              refine z_aload_n 0 dX13_word_127 rfl ?_
              refine fg_13_261 (some 143) rfl dX13_word_128 hL.1 hL.2.1 (ma_119 hL).1 ?_
              refine z_iload_n 1 dX13_word_131 rfl ?_
              refine z_dup2 dX13_word_132 rfl rfl ?_
              refine z_iald (I13 143 p0.toNatClampNeg) dX13_word_133 (ma_119 hL).2.1 (ma_119 hL).2.2 o8 rfl ?_
              refine z_iconst 1 dX13_word_134 (by decide) ?_
              refine z_iadd dX13_word_135 ?_
              refine z_iast dX13_word_136 (ma_119 hL).2.1 (ma_119 hL).2.2 o8 ?_
              refine z_aload_n 0 dX13_word_137 rfl ?_
              refine fg_13_261 (some 143) rfl dX13_word_138 hL.1 hL.2.1 (ma_119 hL).1 ?_
              refine z_iload_n 1 dX13_word_141 rfl ?_
              refine z_iald ((zI (zI (zI (zI I13 144 (((12 * p0) + (I13 143 p0.toNatClampNeg)).toNatClampNeg) p1) 145 (((12 * p0) + (I13 143 p0.toNatClampNeg)).toNatClampNeg) p2) 146 (((12 * p0) + (I13 143 p0.toNatClampNeg)).toNatClampNeg) p3) 143 p0.toNatClampNeg ((I13 143 p0.toNatClampNeg) + 1)) 143 p0.toNatClampNeg) dX13_word_142 (ma_119 hL).2.1 (ma_119 hL).2.2 o8 rfl ?_
              exact z_iret dX13_word_143 rfl ⟨rfl, h⟩
            · rw [if_pos g22] at h
              refine z_aload_n 0 dX13_word_82 rfl ?_
              refine z_bipush (-6) dX13_word_83 (by decide) ?_
              refine z_callV0 (As := [.int (-6)]) (st := []) dX13_word_85 hy_X13_refuse hL.1 hL.2.1 (by decide) wg_1778 wg_1780 wg_54 (Nat.le_refl _) (Nat.le_of_ble_eq_true rfl) (RM0.mono h (fun vv I24 L25 h => ?_))
              obtain ⟨r26, rfl, h⟩ := h
              change Z n0 xX13_word (d + 1) 0 0 88 [(0, .ref (n0 + 59)), (1, .int p0), (2, .int p1), (3, .int p2), (4, .int p3)] [.int r26] K I24 L25 (z_q0 K Q)
              exact z_iret dX13_word_88 rfl ⟨rfl, h⟩
        · rw [if_pos g17] at h
          refine z_aload_n 0 dX13_word_56 rfl ?_
          refine z_bipush (-4) dX13_word_57 (by decide) ?_
          refine z_callV0 (As := [.int (-4)]) (st := []) dX13_word_59 hy_X13_refuse hL.1 hL.2.1 (by decide) wg_1778 wg_1780 wg_54 (Nat.le_refl _) (Nat.le_of_ble_eq_true rfl) (RM0.mono h (fun vv I27 L28 h => ?_))
          obtain ⟨r29, rfl, h⟩ := h
          change Z n0 xX13_word (d + 1) 0 0 62 [(0, .ref (n0 + 59)), (1, .int p0), (2, .int p1), (3, .int p2), (4, .int p3)] [.int r29] K I27 L28 (z_q0 K Q)
          exact z_iret dX13_word_62 rfl ⟨rfl, h⟩
      · rw [if_pos g16] at h
        refine z_aload_n 0 dX13_word_44 rfl ?_
        refine z_bipush (-2) dX13_word_45 (by decide) ?_
        refine z_callV0 (As := [.int (-2)]) (st := []) dX13_word_47 hy_X13_refuse hL.1 hL.2.1 (by decide) wg_1778 wg_1780 wg_54 (Nat.le_refl _) (Nat.le_of_ble_eq_true rfl) (RM0.mono h (fun vv I30 L31 h => ?_))
        obtain ⟨r32, rfl, h⟩ := h
        change Z n0 xX13_word (d + 1) 0 0 50 [(0, .ref (n0 + 59)), (1, .int p0), (2, .int p1), (3, .int p2), (4, .int p3)] [.int r32] K I30 L31 (z_q0 K Q)
        exact z_iret dX13_word_50 rfl ⟨rfl, h⟩
    · rw [if_pos g12] at h
      refine z_aload_n 0 dX13_word_26 rfl ?_
      refine z_iconst (-1) dX13_word_27 (by decide) ?_
      refine z_callV0 (As := [.int (-1)]) (st := []) dX13_word_28 hy_X13_refuse hL.1 hL.2.1 (by decide) wg_1778 wg_1780 wg_54 (Nat.le_refl _) (Nat.le_of_ble_eq_true rfl) (RM0.mono h (fun vv I33 L34 h => ?_))
      obtain ⟨r35, rfl, h⟩ := h
      change Z n0 xX13_word (d + 1) 0 0 31 [(0, .ref (n0 + 59)), (1, .int p0), (2, .int p1), (3, .int p2), (4, .int p3)] [.int r35] K I33 L34 (z_q0 K Q)
      exact z_iret dX13_word_31 rfl ⟨rfl, h⟩
theorem dX13_agrees_0 : decode cX13_agrees 0 = .ok (.bipush 12, 2) := by decide +kernel
theorem dX13_agrees_2 : decode cX13_agrees 2 = .ok (.iload_n 1, 1) := by decide +kernel
theorem dX13_agrees_3 : decode cX13_agrees 3 = .ok (.imul, 1) := by decide +kernel
theorem dX13_agrees_4 : decode cX13_agrees 4 = .ok (.iload_n 2, 1) := by decide +kernel
theorem dX13_agrees_5 : decode cX13_agrees 5 = .ok (.iadd, 1) := by decide +kernel
theorem dX13_agrees_6 : decode cX13_agrees 6 = .ok (.istore_n 3, 1) := by decide +kernel
theorem dX13_agrees_7 : decode cX13_agrees 7 = .ok (.aload_n 0, 1) := by decide +kernel
theorem dX13_agrees_8 : decode cX13_agrees 8 = .ok (.getfield 255, 3) := by decide +kernel
theorem dX13_agrees_11 : decode cX13_agrees 11 = .ok (.bipush 8, 2) := by decide +kernel
theorem dX13_agrees_13 : decode cX13_agrees 13 = .ok (.iload_n 1, 1) := by decide +kernel
theorem dX13_agrees_14 : decode cX13_agrees 14 = .ok (.imul, 1) := by decide +kernel
theorem dX13_agrees_15 : decode cX13_agrees 15 = .ok (.aload_n 0, 1) := by decide +kernel
theorem dX13_agrees_16 : decode cX13_agrees 16 = .ok (.getfield 264, 3) := by decide +kernel
theorem dX13_agrees_19 : decode cX13_agrees 19 = .ok (.iload_n 3, 1) := by decide +kernel
theorem dX13_agrees_20 : decode cX13_agrees 20 = .ok (.iaload, 1) := by decide +kernel
theorem dX13_agrees_21 : decode cX13_agrees 21 = .ok (.iadd, 1) := by decide +kernel
theorem dX13_agrees_22 : decode cX13_agrees 22 = .ok (.iaload, 1) := by decide +kernel
theorem dX13_agrees_23 : decode cX13_agrees 23 = .ok (.istore 4, 2) := by decide +kernel
theorem dX13_agrees_25 : decode cX13_agrees 25 = .ok (.aload_n 0, 1) := by decide +kernel
theorem dX13_agrees_26 : decode cX13_agrees 26 = .ok (.getfield 258, 3) := by decide +kernel
theorem dX13_agrees_29 : decode cX13_agrees 29 = .ok (.bipush 8, 2) := by decide +kernel
theorem dX13_agrees_31 : decode cX13_agrees 31 = .ok (.iload_n 1, 1) := by decide +kernel
theorem dX13_agrees_32 : decode cX13_agrees 32 = .ok (.imul, 1) := by decide +kernel
theorem dX13_agrees_33 : decode cX13_agrees 33 = .ok (.aload_n 0, 1) := by decide +kernel
theorem dX13_agrees_34 : decode cX13_agrees 34 = .ok (.getfield 264, 3) := by decide +kernel
theorem dX13_agrees_37 : decode cX13_agrees 37 = .ok (.iload_n 3, 1) := by decide +kernel
theorem dX13_agrees_38 : decode cX13_agrees 38 = .ok (.iaload, 1) := by decide +kernel
theorem dX13_agrees_39 : decode cX13_agrees 39 = .ok (.iadd, 1) := by decide +kernel
theorem dX13_agrees_40 : decode cX13_agrees 40 = .ok (.iaload, 1) := by decide +kernel
theorem dX13_agrees_41 : decode cX13_agrees 41 = .ok (.istore 5, 2) := by decide +kernel
theorem dX13_agrees_43 : decode cX13_agrees 43 = .ok (.aload_n 0, 1) := by decide +kernel
theorem dX13_agrees_44 : decode cX13_agrees 44 = .ok (.getfield 267, 3) := by decide +kernel
theorem dX13_agrees_47 : decode cX13_agrees 47 = .ok (.iload_n 3, 1) := by decide +kernel
theorem dX13_agrees_48 : decode cX13_agrees 48 = .ok (.iaload, 1) := by decide +kernel
theorem dX13_agrees_49 : decode cX13_agrees 49 = .ok (.ifCond .ne 25, 3) := by decide +kernel
theorem dX13_agrees_52 : decode cX13_agrees 52 = .ok (.aload_n 0, 1) := by decide +kernel
theorem dX13_agrees_53 : decode cX13_agrees 53 = .ok (.getfield 31, 3) := by decide +kernel
theorem dX13_agrees_56 : decode cX13_agrees 56 = .ok (.iload 4, 2) := by decide +kernel
theorem dX13_agrees_58 : decode cX13_agrees 58 = .ok (.iaload, 1) := by decide +kernel
theorem dX13_agrees_59 : decode cX13_agrees 59 = .ok (.aload_n 0, 1) := by decide +kernel
theorem dX13_agrees_60 : decode cX13_agrees 60 = .ok (.getfield 270, 3) := by decide +kernel
theorem dX13_agrees_63 : decode cX13_agrees 63 = .ok (.iload_n 3, 1) := by decide +kernel
theorem dX13_agrees_64 : decode cX13_agrees 64 = .ok (.iaload, 1) := by decide +kernel
theorem dX13_agrees_65 : decode cX13_agrees 65 = .ok (.if_icmp .ne 7, 3) := by decide +kernel
theorem dX13_agrees_68 : decode cX13_agrees 68 = .ok (.iconst 1, 1) := by decide +kernel
theorem dX13_agrees_69 : decode cX13_agrees 69 = .ok (.goto 4, 3) := by decide +kernel
theorem dX13_agrees_72 : decode cX13_agrees 72 = .ok (.iconst 0, 1) := by decide +kernel
theorem dX13_agrees_73 : decode cX13_agrees 73 = .ok (.ireturn, 1) := by decide +kernel
theorem dX13_agrees_74 : decode cX13_agrees 74 = .ok (.aload_n 0, 1) := by decide +kernel
theorem dX13_agrees_75 : decode cX13_agrees 75 = .ok (.iload 4, 2) := by decide +kernel
theorem dX13_agrees_77 : decode cX13_agrees 77 = .ok (.iload 5, 2) := by decide +kernel
theorem dX13_agrees_79 : decode cX13_agrees 79 = .ok (.aload_n 0, 1) := by decide +kernel
theorem dX13_agrees_80 : decode cX13_agrees 80 = .ok (.getfield 249, 3) := by decide +kernel
theorem dX13_agrees_83 : decode cX13_agrees 83 = .ok (.iload_n 1, 1) := by decide +kernel
theorem dX13_agrees_84 : decode cX13_agrees 84 = .ok (.iaload, 1) := by decide +kernel
theorem dX13_agrees_85 : decode cX13_agrees 85 = .ok (.iconst (-1), 1) := by decide +kernel
theorem dX13_agrees_86 : decode cX13_agrees 86 = .ok (.invokevirtual 491, 3) := by decide +kernel
theorem dX13_agrees_89 : decode cX13_agrees 89 = .ok (.ifCond .ne 5, 3) := by decide +kernel
theorem dX13_agrees_92 : decode cX13_agrees 92 = .ok (.iconst 0, 1) := by decide +kernel
theorem dX13_agrees_93 : decode cX13_agrees 93 = .ok (.ireturn, 1) := by decide +kernel
theorem dX13_agrees_94 : decode cX13_agrees 94 = .ok (.aload_n 0, 1) := by decide +kernel
theorem dX13_agrees_95 : decode cX13_agrees 95 = .ok (.getfield 267, 3) := by decide +kernel
theorem dX13_agrees_98 : decode cX13_agrees 98 = .ok (.iload_n 3, 1) := by decide +kernel
theorem dX13_agrees_99 : decode cX13_agrees 99 = .ok (.iaload, 1) := by decide +kernel
theorem dX13_agrees_100 : decode cX13_agrees 100 = .ok (.iconst 1, 1) := by decide +kernel
theorem dX13_agrees_101 : decode cX13_agrees 101 = .ok (.if_icmp .ne 15, 3) := by decide +kernel
theorem dX13_agrees_104 : decode cX13_agrees 104 = .ok (.aload_n 0, 1) := by decide +kernel
theorem dX13_agrees_105 : decode cX13_agrees 105 = .ok (.iload 4, 2) := by decide +kernel
theorem dX13_agrees_107 : decode cX13_agrees 107 = .ok (.iconst 0, 1) := by decide +kernel
theorem dX13_agrees_108 : decode cX13_agrees 108 = .ok (.iconst 0, 1) := by decide +kernel
theorem dX13_agrees_109 : decode cX13_agrees 109 = .ok (.invokevirtual 501, 3) := by decide +kernel
theorem dX13_agrees_112 : decode cX13_agrees 112 = .ok (.i2l, 1) := by decide +kernel
theorem dX13_agrees_113 : decode cX13_agrees 113 = .ok (.goto 9, 3) := by decide +kernel
theorem dX13_agrees_116 : decode cX13_agrees 116 = .ok (.aload_n 0, 1) := by decide +kernel
theorem dX13_agrees_117 : decode cX13_agrees 117 = .ok (.iload 4, 2) := by decide +kernel
theorem dX13_agrees_119 : decode cX13_agrees 119 = .ok (.invokevirtual 504, 3) := by decide +kernel
theorem dX13_agrees_122 : decode cX13_agrees 122 = .ok (.aload_n 0, 1) := by decide +kernel
theorem dX13_agrees_123 : decode cX13_agrees 123 = .ok (.getfield 270, 3) := by decide +kernel
theorem dX13_agrees_126 : decode cX13_agrees 126 = .ok (.iload_n 3, 1) := by decide +kernel
theorem dX13_agrees_127 : decode cX13_agrees 127 = .ok (.iaload, 1) := by decide +kernel
theorem dX13_agrees_128 : decode cX13_agrees 128 = .ok (.i2l, 1) := by decide +kernel
theorem dX13_agrees_129 : decode cX13_agrees 129 = .ok (.lcmp, 1) := by decide +kernel
theorem dX13_agrees_130 : decode cX13_agrees 130 = .ok (.ifCond .ne 7, 3) := by decide +kernel
theorem dX13_agrees_133 : decode cX13_agrees 133 = .ok (.iconst 1, 1) := by decide +kernel
theorem dX13_agrees_134 : decode cX13_agrees 134 = .ok (.goto 4, 3) := by decide +kernel
theorem dX13_agrees_137 : decode cX13_agrees 137 = .ok (.iconst 0, 1) := by decide +kernel
theorem dX13_agrees_138 : decode cX13_agrees 138 = .ok (.ireturn, 1) := by decide +kernel
set_option maxRecDepth 100000 in
set_option maxHeartbeats 4000000 in
theorem wp_X13_agrees {n0 d : Nat} {K : z_K} {I : z_I} {L : z_L} {Q : z_q} {p0 : Int32} {p1 : Int32} (hL : MLay K) (h : vp_in ((12 * p0) + p1) 144 ∧ vp_in ((8 * p0) + (I 144 (((12 * p0) + p1).toNatClampNeg))) 96 ∧ (if ((I 145 (((12 * p0) + p1).toNatClampNeg)) : Int32) = 0 then vp_in (I 141 (((8 * p0) + (I 144 (((12 * p0) + p1).toNatClampNeg))).toNatClampNeg)) 16 ∧ Q (some (.int (if ((I 67 ((I 141 (((8 * p0) + (I 144 (((12 * p0) + p1).toNatClampNeg))).toNatClampNeg)).toNatClampNeg)) : Int32) = (I 146 (((12 * p0) + p1).toNatClampNeg)) then 1 else 0))) I L else vp_in p0 12 ∧ RM0 n0 xX13_draw d [.ref (n0 + 59), .int (I 141 (((8 * p0) + (I 144 (((12 * p0) + p1).toNatClampNeg))).toNatClampNeg)), .int (I 142 (((8 * p0) + (I 144 (((12 * p0) + p1).toNatClampNeg))).toNatClampNeg)), .int (I 139 p0.toNatClampNeg), .int (-1)] K I L (fun vv I5 L6 => ∃ r7 : Int32, vv = some (.int r7) ∧ (if r7 = 0 then Q (some (.int 0)) I5 L6 else (if ((I5 145 (((12 * p0) + p1).toNatClampNeg)) : Int32) = 1 then RM0 n0 xX13_lengthOf d [.ref (n0 + 59), .int (I 141 (((8 * p0) + (I 144 (((12 * p0) + p1).toNatClampNeg))).toNatClampNeg)), .int 0, .int 0] K I5 L6 (fun vv I14 L15 => ∃ r16 : Int32, vv = some (.int r16) ∧ (if (r16.toInt64 : Int64) = (((I14 146 (((12 * p0) + p1).toNatClampNeg)) : Int32).toInt64) then Q (some (.int 1)) I14 L15 else Q (some (.int 0)) I14 L15)) else RM0 n0 xX13_areaOf d [.ref (n0 + 59), .int (I 141 (((8 * p0) + (I 144 (((12 * p0) + p1).toNatClampNeg))).toNatClampNeg))] K I5 L6 (fun vv I10 L11 => ∃ r12 : Int64, vv = some (.long r12) ∧ (if r12 = (((I10 146 (((12 * p0) + p1).toNatClampNeg)) : Int32).toInt64) then Q (some (.int 1)) I10 L11 else Q (some (.int 0)) I10 L11))))))) : RM0 n0 xX13_agrees (d + 1) [.ref (n0 + 59), .int p0, .int p1] K I L Q := by
  refine z_entry0 (by decide) (Nat.le_of_ble_eq_true rfl) ?_
  change Z n0 xX13_agrees (d + 1) 0 0 0 [(0, .ref (n0 + 59)), (1, .int p0), (2, .int p1)] [] K I L (z_q0 K Q)
  refine z_bipush 12 dX13_agrees_0 (by decide) ?_
  refine z_iload_n 1 dX13_agrees_2 rfl ?_
  refine z_imul dX13_agrees_3 ?_
  refine z_iload_n 2 dX13_agrees_4 rfl ?_
  refine z_iadd dX13_agrees_5 ?_
  refine z_istore_n [1, 2, 3, 0] [(0, .ref (n0 + 59)), (1, .int p0), (2, .int p1), (3, .int ((12 * p0) + p1))] dX13_agrees_6 (by decide) rfl ?_
  refine z_aload_n 0 dX13_agrees_7 rfl ?_
  refine fg_13_255 (some 141) rfl dX13_agrees_8 hL.1 hL.2.1 (ma_117 hL).1 ?_
  refine z_bipush 8 dX13_agrees_11 (by decide) ?_
  refine z_iload_n 1 dX13_agrees_13 rfl ?_
  refine z_imul dX13_agrees_14 ?_
  refine z_aload_n 0 dX13_agrees_15 rfl ?_
  refine fg_13_264 (some 144) rfl dX13_agrees_16 hL.1 hL.2.1 (ma_120 hL).1 ?_
  refine z_iload_n 3 dX13_agrees_19 rfl ?_
  obtain ⟨o1, h⟩ := h
  refine z_iald (I 144 (((12 * p0) + p1).toNatClampNeg)) dX13_agrees_20 (ma_120 hL).2.1 (ma_120 hL).2.2 o1 rfl ?_
  refine z_iadd dX13_agrees_21 ?_
  obtain ⟨o2, h⟩ := h
  refine z_iald (I 141 (((8 * p0) + (I 144 (((12 * p0) + p1).toNatClampNeg))).toNatClampNeg)) dX13_agrees_22 (ma_117 hL).2.1 (ma_117 hL).2.2 o2 rfl ?_
  refine z_istore [1, 2, 3, 4, 0] [(0, .ref (n0 + 59)), (1, .int p0), (2, .int p1), (3, .int ((12 * p0) + p1)), (4, .int (I 141 (((8 * p0) + (I 144 (((12 * p0) + p1).toNatClampNeg))).toNatClampNeg)))] dX13_agrees_23 (by decide) rfl ?_
  refine z_aload_n 0 dX13_agrees_25 rfl ?_
  refine fg_13_258 (some 142) rfl dX13_agrees_26 hL.1 hL.2.1 (ma_118 hL).1 ?_
  refine z_bipush 8 dX13_agrees_29 (by decide) ?_
  refine z_iload_n 1 dX13_agrees_31 rfl ?_
  refine z_imul dX13_agrees_32 ?_
  refine z_aload_n 0 dX13_agrees_33 rfl ?_
  refine fg_13_264 (some 144) rfl dX13_agrees_34 hL.1 hL.2.1 (ma_120 hL).1 ?_
  refine z_iload_n 3 dX13_agrees_37 rfl ?_
  refine z_iald (I 144 (((12 * p0) + p1).toNatClampNeg)) dX13_agrees_38 (ma_120 hL).2.1 (ma_120 hL).2.2 o1 rfl ?_
  refine z_iadd dX13_agrees_39 ?_
  refine z_iald (I 142 (((8 * p0) + (I 144 (((12 * p0) + p1).toNatClampNeg))).toNatClampNeg)) dX13_agrees_40 (ma_118 hL).2.1 (ma_118 hL).2.2 o2 rfl ?_
  refine z_istore [1, 2, 3, 4, 5, 0] [(0, .ref (n0 + 59)), (1, .int p0), (2, .int p1), (3, .int ((12 * p0) + p1)), (4, .int (I 141 (((8 * p0) + (I 144 (((12 * p0) + p1).toNatClampNeg))).toNatClampNeg))), (5, .int (I 142 (((8 * p0) + (I 144 (((12 * p0) + p1).toNatClampNeg))).toNatClampNeg)))] dX13_agrees_41 (by decide) rfl ?_
  refine z_aload_n 0 dX13_agrees_43 rfl ?_
  refine fg_13_267 (some 145) rfl dX13_agrees_44 hL.1 hL.2.1 (ma_121 hL).1 ?_
  refine z_iload_n 3 dX13_agrees_47 rfl ?_
  refine z_iald (I 145 (((12 * p0) + p1).toNatClampNeg)) dX13_agrees_48 (ma_121 hL).2.1 (ma_121 hL).2.2 o1 rfl ?_
  refine z_if_ne 74 dX13_agrees_49 (by decide) (fun g3 => ?_) (fun g3 => ?_)
  · rw [if_neg g3] at h
    refine z_aload_n 0 dX13_agrees_74 rfl ?_
    refine z_iload 4 dX13_agrees_75 rfl ?_
    refine z_iload 5 dX13_agrees_77 rfl ?_
    refine z_aload_n 0 dX13_agrees_79 rfl ?_
    refine fg_13_249 (some 139) rfl dX13_agrees_80 hL.1 hL.2.1 (ma_115 hL).1 ?_
    refine z_iload_n 1 dX13_agrees_83 rfl ?_
    obtain ⟨o4, h⟩ := h
    refine z_iald (I 139 p0.toNatClampNeg) dX13_agrees_84 (ma_115 hL).2.1 (ma_115 hL).2.2 o4 rfl ?_
    refine z_iconst (-1) dX13_agrees_85 (by decide) ?_
    refine z_callV0 (As := [.int (I 141 (((8 * p0) + (I 144 (((12 * p0) + p1).toNatClampNeg))).toNatClampNeg)), .int (I 142 (((8 * p0) + (I 144 (((12 * p0) + p1).toNatClampNeg))).toNatClampNeg)), .int (I 139 p0.toNatClampNeg), .int (-1)]) (st := []) dX13_agrees_86 hy_X13_draw hL.1 hL.2.1 (by decide) wg_1958 wg_1960 wg_76 (Nat.le_refl _) (Nat.le_of_ble_eq_true rfl) (RM0.mono h (fun vv I5 L6 h => ?_))
    obtain ⟨r7, rfl, h⟩ := h
    change Z n0 xX13_agrees (d + 1) 0 0 89 [(0, .ref (n0 + 59)), (1, .int p0), (2, .int p1), (3, .int ((12 * p0) + p1)), (4, .int (I 141 (((8 * p0) + (I 144 (((12 * p0) + p1).toNatClampNeg))).toNatClampNeg))), (5, .int (I 142 (((8 * p0) + (I 144 (((12 * p0) + p1).toNatClampNeg))).toNatClampNeg)))] [.int r7] K I5 L6 (z_q0 K Q)
    refine z_if_ne 94 dX13_agrees_89 (by decide) (fun g8 => ?_) (fun g8 => ?_)
    · rw [if_neg g8] at h
      refine z_aload_n 0 dX13_agrees_94 rfl ?_
      refine fg_13_267 (some 145) rfl dX13_agrees_95 hL.1 hL.2.1 (ma_121 hL).1 ?_
      refine z_iload_n 3 dX13_agrees_98 rfl ?_
      refine z_iald (I5 145 (((12 * p0) + p1).toNatClampNeg)) dX13_agrees_99 (ma_121 hL).2.1 (ma_121 hL).2.2 o1 rfl ?_
      refine z_iconst 1 dX13_agrees_100 (by decide) ?_
      refine z_icmp_ne 116 dX13_agrees_101 (by decide) (fun g9 => ?_) (fun g9 => ?_)
      · rw [if_neg g9] at h
        refine z_aload_n 0 dX13_agrees_116 rfl ?_
        refine z_iload 4 dX13_agrees_117 rfl ?_
        refine z_callV0 (As := [.int (I 141 (((8 * p0) + (I 144 (((12 * p0) + p1).toNatClampNeg))).toNatClampNeg))]) (st := []) dX13_agrees_119 hy_X13_areaOf hL.1 hL.2.1 (by decide) wg_2002 wg_2004 wg_81 (Nat.le_refl _) (Nat.le_of_ble_eq_true rfl) (RM0.mono h (fun vv I10 L11 h => ?_))
        obtain ⟨r12, rfl, h⟩ := h
        change Z n0 xX13_agrees (d + 1) 0 0 122 [(0, .ref (n0 + 59)), (1, .int p0), (2, .int p1), (3, .int ((12 * p0) + p1)), (4, .int (I 141 (((8 * p0) + (I 144 (((12 * p0) + p1).toNatClampNeg))).toNatClampNeg))), (5, .int (I 142 (((8 * p0) + (I 144 (((12 * p0) + p1).toNatClampNeg))).toNatClampNeg)))] [.long r12] K I10 L11 (z_q0 K Q)
        refine z_aload_n 0 dX13_agrees_122 rfl ?_
        refine fg_13_270 (some 146) rfl dX13_agrees_123 hL.1 hL.2.1 (ma_122 hL).1 ?_
        refine z_iload_n 3 dX13_agrees_126 rfl ?_
        refine z_iald (I10 146 (((12 * p0) + p1).toNatClampNeg)) dX13_agrees_127 (ma_122 hL).2.1 (ma_122 hL).2.2 o1 rfl ?_
        refine z_i2l dX13_agrees_128 ?_
        refine z_lif_ne 137 dX13_agrees_129 dX13_agrees_130 (by decide) (fun g13 => ?_) (fun g13 => ?_)
        · rw [if_neg g13] at h
          refine z_iconst 0 dX13_agrees_137 (by decide) ?_
          exact z_zretb dX13_agrees_138 rfl (Or.inl rfl) ⟨rfl, h⟩
        · rw [if_pos g13] at h
          refine z_iconst 1 dX13_agrees_133 (by decide) ?_
          refine z_goto 138 dX13_agrees_134 (by decide) ?_
          exact z_zretb dX13_agrees_138 rfl (Or.inr rfl) ⟨rfl, h⟩
      · rw [if_pos g9] at h
        refine z_aload_n 0 dX13_agrees_104 rfl ?_
        refine z_iload 4 dX13_agrees_105 rfl ?_
        refine z_iconst 0 dX13_agrees_107 (by decide) ?_
        refine z_iconst 0 dX13_agrees_108 (by decide) ?_
        refine z_callV0 (As := [.int (I 141 (((8 * p0) + (I 144 (((12 * p0) + p1).toNatClampNeg))).toNatClampNeg)), .int 0, .int 0]) (st := []) dX13_agrees_109 hy_X13_lengthOf hL.1 hL.2.1 (by decide) wg_1978 wg_1980 wg_79 (Nat.le_refl _) (Nat.le_of_ble_eq_true rfl) (RM0.mono h (fun vv I14 L15 h => ?_))
        obtain ⟨r16, rfl, h⟩ := h
        change Z n0 xX13_agrees (d + 1) 0 0 112 [(0, .ref (n0 + 59)), (1, .int p0), (2, .int p1), (3, .int ((12 * p0) + p1)), (4, .int (I 141 (((8 * p0) + (I 144 (((12 * p0) + p1).toNatClampNeg))).toNatClampNeg))), (5, .int (I 142 (((8 * p0) + (I 144 (((12 * p0) + p1).toNatClampNeg))).toNatClampNeg)))] [.int r16] K I14 L15 (z_q0 K Q)
        refine z_i2l dX13_agrees_112 ?_
        refine z_goto 122 dX13_agrees_113 (by decide) ?_
        refine z_aload_n 0 dX13_agrees_122 rfl ?_
        refine fg_13_270 (some 146) rfl dX13_agrees_123 hL.1 hL.2.1 (ma_122 hL).1 ?_
        refine z_iload_n 3 dX13_agrees_126 rfl ?_
        refine z_iald (I14 146 (((12 * p0) + p1).toNatClampNeg)) dX13_agrees_127 (ma_122 hL).2.1 (ma_122 hL).2.2 o1 rfl ?_
        refine z_i2l dX13_agrees_128 ?_
        refine z_lif_ne 137 dX13_agrees_129 dX13_agrees_130 (by decide) (fun g17 => ?_) (fun g17 => ?_)
        · rw [if_neg g17] at h
          refine z_iconst 0 dX13_agrees_137 (by decide) ?_
          exact z_zretb dX13_agrees_138 rfl (Or.inl rfl) ⟨rfl, h⟩
        · rw [if_pos g17] at h
          refine z_iconst 1 dX13_agrees_133 (by decide) ?_
          refine z_goto 138 dX13_agrees_134 (by decide) ?_
          exact z_zretb dX13_agrees_138 rfl (Or.inr rfl) ⟨rfl, h⟩
    · rw [if_pos g8] at h
      refine z_iconst 0 dX13_agrees_92 (by decide) ?_
      exact z_zretb dX13_agrees_93 rfl (Or.inl rfl) ⟨rfl, h⟩
  · rw [if_pos g3] at h
    refine z_aload_n 0 dX13_agrees_52 rfl ?_
    refine fg_13_31 (some 67) rfl dX13_agrees_53 hL.1 hL.2.1 (ma_11 hL).1 ?_
    refine z_iload 4 dX13_agrees_56 rfl ?_
    obtain ⟨o18, h⟩ := h
    refine z_iald (I 67 ((I 141 (((8 * p0) + (I 144 (((12 * p0) + p1).toNatClampNeg))).toNatClampNeg)).toNatClampNeg)) dX13_agrees_58 (ma_11 hL).2.1 (ma_11 hL).2.2 o18 rfl ?_
    refine z_aload_n 0 dX13_agrees_59 rfl ?_
    refine fg_13_270 (some 146) rfl dX13_agrees_60 hL.1 hL.2.1 (ma_122 hL).1 ?_
    refine z_iload_n 3 dX13_agrees_63 rfl ?_
    refine z_iald (I 146 (((12 * p0) + p1).toNatClampNeg)) dX13_agrees_64 (ma_122 hL).2.1 (ma_122 hL).2.2 o1 rfl ?_
    have key20 : Z n0 xX13_agrees (d + 1) 0 0 73 [] [.int (if ((I 67 ((I 141 (((8 * p0) + (I 144 (((12 * p0) + p1).toNatClampNeg))).toNatClampNeg)).toNatClampNeg)) : Int32) = (I 146 (((12 * p0) + p1).toNatClampNeg)) then 1 else 0)] K I L (z_q0 K Q) := by
      exact z_zretb dX13_agrees_73 rfl (z_bite (by repeat' (first | exact Or.inl rfl | exact Or.inr rfl | split))) ⟨rfl, h⟩
    refine z_icmp_ne 72 dX13_agrees_65 (by decide) (fun g19 => ?_) (fun g19 => ?_)
    · refine z_iconst 0 dX13_agrees_72 (by decide) ?_
      have ee : ((if ((I 67 ((I 141 (((8 * p0) + (I 144 (((12 * p0) + p1).toNatClampNeg))).toNatClampNeg)).toNatClampNeg)) : Int32) = (I 146 (((12 * p0) + p1).toNatClampNeg)) then 1 else 0) : Int32) = 0 := by rw [if_neg g19]
      rw [ee] at key20
      clear ee
      refine z_sub [] rfl ?_
      exact key20
    · refine z_iconst 1 dX13_agrees_68 (by decide) ?_
      refine z_goto 73 dX13_agrees_69 (by decide) ?_
      have ee : ((if ((I 67 ((I 141 (((8 * p0) + (I 144 (((12 * p0) + p1).toNatClampNeg))).toNatClampNeg)).toNatClampNeg)) : Int32) = (I 146 (((12 * p0) + p1).toNatClampNeg)) then 1 else 0) : Int32) = 1 := by rw [if_pos g19]
      rw [ee] at key20
      clear ee
      refine z_sub [] rfl ?_
      exact key20
theorem dX13_firstWrong_0 : decode cX13_firstWrong 0 = .ok (.aload_n 0, 1) := by decide +kernel
theorem dX13_firstWrong_1 : decode cX13_firstWrong 1 = .ok (.iload_n 1, 1) := by decide +kernel
theorem dX13_firstWrong_2 : decode cX13_firstWrong 2 = .ok (.invokevirtual 625, 3) := by decide +kernel
theorem dX13_firstWrong_5 : decode cX13_firstWrong 5 = .ok (.ifCond .ne 9, 3) := by decide +kernel
theorem dX13_firstWrong_8 : decode cX13_firstWrong 8 = .ok (.aload_n 0, 1) := by decide +kernel
theorem dX13_firstWrong_9 : decode cX13_firstWrong 9 = .ok (.iconst (-1), 1) := by decide +kernel
theorem dX13_firstWrong_10 : decode cX13_firstWrong 10 = .ok (.invokevirtual 308, 3) := by decide +kernel
theorem dX13_firstWrong_13 : decode cX13_firstWrong 13 = .ok (.ireturn, 1) := by decide +kernel
theorem dX13_firstWrong_14 : decode cX13_firstWrong 14 = .ok (.iconst 0, 1) := by decide +kernel
theorem dX13_firstWrong_15 : decode cX13_firstWrong 15 = .ok (.istore_n 2, 1) := by decide +kernel
theorem dX13_firstWrong_16 : decode cX13_firstWrong 16 = .ok (.iload_n 2, 1) := by decide +kernel
theorem dX13_firstWrong_17 : decode cX13_firstWrong 17 = .ok (.aload_n 0, 1) := by decide +kernel
theorem dX13_firstWrong_18 : decode cX13_firstWrong 18 = .ok (.getfield 261, 3) := by decide +kernel
theorem dX13_firstWrong_21 : decode cX13_firstWrong 21 = .ok (.iload_n 1, 1) := by decide +kernel
theorem dX13_firstWrong_22 : decode cX13_firstWrong 22 = .ok (.iaload, 1) := by decide +kernel
theorem dX13_firstWrong_23 : decode cX13_firstWrong 23 = .ok (.if_icmp .ge 20, 3) := by decide +kernel
theorem dX13_firstWrong_26 : decode cX13_firstWrong 26 = .ok (.aload_n 0, 1) := by decide +kernel
theorem dX13_firstWrong_27 : decode cX13_firstWrong 27 = .ok (.iload_n 1, 1) := by decide +kernel
theorem dX13_firstWrong_28 : decode cX13_firstWrong 28 = .ok (.iload_n 2, 1) := by decide +kernel
theorem dX13_firstWrong_29 : decode cX13_firstWrong 29 = .ok (.invokevirtual 628, 3) := by decide +kernel
theorem dX13_firstWrong_32 : decode cX13_firstWrong 32 = .ok (.ifCond .ne 5, 3) := by decide +kernel
theorem dX13_firstWrong_35 : decode cX13_firstWrong 35 = .ok (.iload_n 2, 1) := by decide +kernel
theorem dX13_firstWrong_36 : decode cX13_firstWrong 36 = .ok (.ireturn, 1) := by decide +kernel
theorem dX13_firstWrong_37 : decode cX13_firstWrong 37 = .ok (.iinc 2 1, 3) := by decide +kernel
theorem dX13_firstWrong_40 : decode cX13_firstWrong 40 = .ok (.goto (-24), 3) := by decide +kernel
theorem dX13_firstWrong_43 : decode cX13_firstWrong 43 = .ok (.bipush (-9), 2) := by decide +kernel
theorem dX13_firstWrong_45 : decode cX13_firstWrong 45 = .ok (.ireturn, 1) := by decide +kernel
set_option maxRecDepth 100000 in
set_option maxHeartbeats 4000000 in
theorem wp_X13_firstWrong {n0 d : Nat} {K : z_K} {I : z_I} {L : z_L} {Q : z_q} {p0 : Int32} (hL : MLay K) (h : RM0 n0 xX13_isEdition d [.ref (n0 + 59), .int p0] K I L (fun vv I1 L2 => ∃ r3 : Int32, vv = some (.int r3) ∧ (if r3 = 0 then RM0 n0 xX13_refuse d [.ref (n0 + 59), .int (-1)] K I1 L2 (fun vv I5 L6 => ∃ r7 : Int32, vv = some (.int r7) ∧ Q (some (.int r7)) I5 L6) else Z n0 xX13_firstWrong (d + 1) 0 0 16 [(0, .ref (n0 + 59)), (1, .int p0), (2, .int 0)] [] K I1 L2 (z_q0 K Q)))) : RM0 n0 xX13_firstWrong (d + 1) [.ref (n0 + 59), .int p0] K I L Q := by
  refine z_entry0 (by decide) (Nat.le_of_ble_eq_true rfl) ?_
  change Z n0 xX13_firstWrong (d + 1) 0 0 0 [(0, .ref (n0 + 59)), (1, .int p0)] [] K I L (z_q0 K Q)
  refine z_aload_n 0 dX13_firstWrong_0 rfl ?_
  refine z_iload_n 1 dX13_firstWrong_1 rfl ?_
  refine z_callV0 (As := [.int p0]) (st := []) dX13_firstWrong_2 hy_X13_isEdition hL.1 hL.2.1 (by decide) wg_2194 wg_2196 wg_101 (Nat.le_refl _) (Nat.le_of_ble_eq_true rfl) (RM0.mono h (fun vv I1 L2 h => ?_))
  obtain ⟨r3, rfl, h⟩ := h
  change Z n0 xX13_firstWrong (d + 1) 0 0 5 [(0, .ref (n0 + 59)), (1, .int p0)] [.int r3] K I1 L2 (z_q0 K Q)
  refine z_if_ne 14 dX13_firstWrong_5 (by decide) (fun g4 => ?_) (fun g4 => ?_)
  · rw [if_neg g4] at h
    refine z_iconst 0 dX13_firstWrong_14 (by decide) ?_
    refine z_istore_n [1, 2, 0] [(0, .ref (n0 + 59)), (1, .int p0), (2, .int 0)] dX13_firstWrong_15 (by decide) rfl ?_
    exact h
  · rw [if_pos g4] at h
    refine z_aload_n 0 dX13_firstWrong_8 rfl ?_
    refine z_iconst (-1) dX13_firstWrong_9 (by decide) ?_
    refine z_callV0 (As := [.int (-1)]) (st := []) dX13_firstWrong_10 hy_X13_refuse hL.1 hL.2.1 (by decide) wg_1778 wg_1780 wg_54 (Nat.le_refl _) (Nat.le_of_ble_eq_true rfl) (RM0.mono h (fun vv I5 L6 h => ?_))
    obtain ⟨r7, rfl, h⟩ := h
    change Z n0 xX13_firstWrong (d + 1) 0 0 13 [(0, .ref (n0 + 59)), (1, .int p0)] [.int r7] K I5 L6 (z_q0 K Q)
    exact z_iret dX13_firstWrong_13 rfl ⟨rfl, h⟩
set_option maxRecDepth 100000 in
set_option maxHeartbeats 4000000 in
theorem wp_X13_firstWrong_16 {n0 d : Nat} {rc rs : Nat} {K : z_K} {I : z_I} {L : z_L} {Q : z_q} {a1 : Int32} {a2 : Int32} (hL : MLay K) (h : vp_in a1 12 ∧ (if a2 < (I 143 a1.toNatClampNeg) then RM0 n0 xX13_agrees d [.ref (n0 + 59), .int a1, .int a2] K I L (fun vv I3 L4 => ∃ r5 : Int32, vv = some (.int r5) ∧ (if r5 = 0 then Q (some (.int a2)) I3 L4 else Z n0 xX13_firstWrong (d + 1) rc rs 16 [(0, .ref (n0 + 59)), (1, .int a1), (2, .int (a2 + 1))] [] K I3 L4 (z_q0 K Q))) else Q (some (.int (-9))) I L)) : Z n0 xX13_firstWrong (d + 1) rc rs 16 [(0, .ref (n0 + 59)), (1, .int a1), (2, .int a2)] [] K I L (z_q0 K Q) := by
  refine z_iload_n 2 dX13_firstWrong_16 rfl ?_
  refine z_aload_n 0 dX13_firstWrong_17 rfl ?_
  refine fg_13_261 (some 143) rfl dX13_firstWrong_18 hL.1 hL.2.1 (ma_119 hL).1 ?_
  refine z_iload_n 1 dX13_firstWrong_21 rfl ?_
  obtain ⟨o1, h⟩ := h
  refine z_iald (I 143 a1.toNatClampNeg) dX13_firstWrong_22 (ma_119 hL).2.1 (ma_119 hL).2.2 o1 rfl ?_
  refine z_icmp_ge 43 dX13_firstWrong_23 (by decide) (fun g2 => ?_) (fun g2 => ?_)
  · rw [if_neg g2] at h
    refine z_bipush (-9) dX13_firstWrong_43 (by decide) ?_
    exact z_iret dX13_firstWrong_45 rfl ⟨rfl, h⟩
  · rw [if_pos g2] at h
    refine z_aload_n 0 dX13_firstWrong_26 rfl ?_
    refine z_iload_n 1 dX13_firstWrong_27 rfl ?_
    refine z_iload_n 2 dX13_firstWrong_28 rfl ?_
    refine z_callV0 (As := [.int a1, .int a2]) (st := []) dX13_firstWrong_29 hy_X13_agrees hL.1 hL.2.1 (by decide) wg_2202 wg_2204 wg_102 (Nat.le_refl _) (Nat.le_of_ble_eq_true rfl) (RM0.mono h (fun vv I3 L4 h => ?_))
    obtain ⟨r5, rfl, h⟩ := h
    change Z n0 xX13_firstWrong (d + 1) rc rs 32 [(0, .ref (n0 + 59)), (1, .int a1), (2, .int a2)] [.int r5] K I3 L4 (z_q0 K Q)
    refine z_if_ne 37 dX13_firstWrong_32 (by decide) (fun g6 => ?_) (fun g6 => ?_)
    · rw [if_neg g6] at h
      refine z_iinc (j := 2) (a2 + 1) [1, 2, 0] [(0, .ref (n0 + 59)), (1, .int a1), (2, .int (a2 + 1))] dX13_firstWrong_37 rfl rfl (by decide) rfl ?_
      refine z_goto 16 dX13_firstWrong_40 (by decide) ?_
      exact h
    · rw [if_pos g6] at h
      refine z_iload_n 2 dX13_firstWrong_35 rfl ?_
      exact z_iret dX13_firstWrong_36 rfl ⟨rfl, h⟩
theorem dX13_fault_0 : decode cX13_fault 0 = .ok (.aload_n 0, 1) := by decide +kernel
theorem dX13_fault_1 : decode cX13_fault 1 = .ok (.iload_n 1, 1) := by decide +kernel
theorem dX13_fault_2 : decode cX13_fault 2 = .ok (.invokevirtual 304, 3) := by decide +kernel
theorem dX13_fault_5 : decode cX13_fault 5 = .ok (.ifCond .ne 9, 3) := by decide +kernel
theorem dX13_fault_8 : decode cX13_fault 8 = .ok (.aload_n 0, 1) := by decide +kernel
theorem dX13_fault_9 : decode cX13_fault 9 = .ok (.iconst (-1), 1) := by decide +kernel
theorem dX13_fault_10 : decode cX13_fault 10 = .ok (.invokevirtual 308, 3) := by decide +kernel
theorem dX13_fault_13 : decode cX13_fault 13 = .ok (.ireturn, 1) := by decide +kernel
theorem dX13_fault_14 : decode cX13_fault 14 = .ok (.iconst 1, 1) := by decide +kernel
theorem dX13_fault_15 : decode cX13_fault 15 = .ok (.iload_n 1, 1) := by decide +kernel
theorem dX13_fault_16 : decode cX13_fault 16 = .ok (.ishl, 1) := by decide +kernel
theorem dX13_fault_17 : decode cX13_fault 17 = .ok (.istore_n 2, 1) := by decide +kernel
theorem dX13_fault_18 : decode cX13_fault 18 = .ok (.iload_n 1, 1) := by decide +kernel
theorem dX13_fault_19 : decode cX13_fault 19 = .ok (.iconst 1, 1) := by decide +kernel
theorem dX13_fault_20 : decode cX13_fault 20 = .ok (.iadd, 1) := by decide +kernel
theorem dX13_fault_21 : decode cX13_fault 21 = .ok (.istore_n 3, 1) := by decide +kernel
theorem dX13_fault_22 : decode cX13_fault 22 = .ok (.iload_n 3, 1) := by decide +kernel
theorem dX13_fault_23 : decode cX13_fault 23 = .ok (.aload_n 0, 1) := by decide +kernel
theorem dX13_fault_24 : decode cX13_fault 24 = .ok (.getfield 301, 3) := by decide +kernel
theorem dX13_fault_27 : decode cX13_fault 27 = .ok (.if_icmp .ge 43, 3) := by decide +kernel
theorem dX13_fault_30 : decode cX13_fault 30 = .ok (.iload_n 2, 1) := by decide +kernel
theorem dX13_fault_31 : decode cX13_fault 31 = .ok (.aload_n 0, 1) := by decide +kernel
theorem dX13_fault_32 : decode cX13_fault 32 = .ok (.getfield 28, 3) := by decide +kernel
theorem dX13_fault_35 : decode cX13_fault 35 = .ok (.iload_n 3, 1) := by decide +kernel
theorem dX13_fault_36 : decode cX13_fault 36 = .ok (.iaload, 1) := by decide +kernel
theorem dX13_fault_37 : decode cX13_fault 37 = .ok (.iconst 3, 1) := by decide +kernel
theorem dX13_fault_38 : decode cX13_fault 38 = .ok (.if_icmp .ne 23, 3) := by decide +kernel
theorem dX13_fault_41 : decode cX13_fault 41 = .ok (.iload_n 2, 1) := by decide +kernel
theorem dX13_fault_42 : decode cX13_fault 42 = .ok (.aload_n 0, 1) := by decide +kernel
theorem dX13_fault_43 : decode cX13_fault 43 = .ok (.getfield 34, 3) := by decide +kernel
theorem dX13_fault_46 : decode cX13_fault 46 = .ok (.iload_n 3, 1) := by decide +kernel
theorem dX13_fault_47 : decode cX13_fault 47 = .ok (.iaload, 1) := by decide +kernel
theorem dX13_fault_48 : decode cX13_fault 48 = .ok (.ishr, 1) := by decide +kernel
theorem dX13_fault_49 : decode cX13_fault 49 = .ok (.iconst 1, 1) := by decide +kernel
theorem dX13_fault_50 : decode cX13_fault 50 = .ok (.iand, 1) := by decide +kernel
theorem dX13_fault_51 : decode cX13_fault 51 = .ok (.iconst 1, 1) := by decide +kernel
theorem dX13_fault_52 : decode cX13_fault 52 = .ok (.if_icmp .ne 9, 3) := by decide +kernel
theorem dX13_fault_55 : decode cX13_fault 55 = .ok (.iconst 1, 1) := by decide +kernel
theorem dX13_fault_56 : decode cX13_fault 56 = .ok (.iload_n 3, 1) := by decide +kernel
theorem dX13_fault_57 : decode cX13_fault 57 = .ok (.ishl, 1) := by decide +kernel
theorem dX13_fault_58 : decode cX13_fault 58 = .ok (.goto 4, 3) := by decide +kernel
theorem dX13_fault_61 : decode cX13_fault 61 = .ok (.iconst 0, 1) := by decide +kernel
theorem dX13_fault_62 : decode cX13_fault 62 = .ok (.ior, 1) := by decide +kernel
theorem dX13_fault_63 : decode cX13_fault 63 = .ok (.istore_n 2, 1) := by decide +kernel
theorem dX13_fault_64 : decode cX13_fault 64 = .ok (.iinc 3 1, 3) := by decide +kernel
theorem dX13_fault_67 : decode cX13_fault 67 = .ok (.goto (-45), 3) := by decide +kernel
theorem dX13_fault_70 : decode cX13_fault 70 = .ok (.iconst 0, 1) := by decide +kernel
theorem dX13_fault_71 : decode cX13_fault 71 = .ok (.istore_n 3, 1) := by decide +kernel
theorem dX13_fault_72 : decode cX13_fault 72 = .ok (.iconst 0, 1) := by decide +kernel
theorem dX13_fault_73 : decode cX13_fault 73 = .ok (.istore 4, 2) := by decide +kernel
theorem dX13_fault_75 : decode cX13_fault 75 = .ok (.iload 4, 2) := by decide +kernel
theorem dX13_fault_77 : decode cX13_fault 77 = .ok (.aload_n 0, 1) := by decide +kernel
theorem dX13_fault_78 : decode cX13_fault 78 = .ok (.getfield 622, 3) := by decide +kernel
theorem dX13_fault_81 : decode cX13_fault 81 = .ok (.if_icmp .ge 53, 3) := by decide +kernel
theorem dX13_fault_84 : decode cX13_fault 84 = .ok (.iconst 0, 1) := by decide +kernel
theorem dX13_fault_85 : decode cX13_fault 85 = .ok (.istore 5, 2) := by decide +kernel
theorem dX13_fault_87 : decode cX13_fault 87 = .ok (.iload 5, 2) := by decide +kernel
theorem dX13_fault_89 : decode cX13_fault 89 = .ok (.aload_n 0, 1) := by decide +kernel
theorem dX13_fault_90 : decode cX13_fault 90 = .ok (.getfield 252, 3) := by decide +kernel
theorem dX13_fault_93 : decode cX13_fault 93 = .ok (.iload 4, 2) := by decide +kernel
theorem dX13_fault_95 : decode cX13_fault 95 = .ok (.iaload, 1) := by decide +kernel
theorem dX13_fault_96 : decode cX13_fault 96 = .ok (.if_icmp .ge 32, 3) := by decide +kernel
theorem dX13_fault_99 : decode cX13_fault 99 = .ok (.iload_n 3, 1) := by decide +kernel
theorem dX13_fault_100 : decode cX13_fault 100 = .ok (.iload_n 2, 1) := by decide +kernel
theorem dX13_fault_101 : decode cX13_fault 101 = .ok (.aload_n 0, 1) := by decide +kernel
theorem dX13_fault_102 : decode cX13_fault 102 = .ok (.getfield 255, 3) := by decide +kernel
theorem dX13_fault_105 : decode cX13_fault 105 = .ok (.bipush 8, 2) := by decide +kernel
theorem dX13_fault_107 : decode cX13_fault 107 = .ok (.iload 4, 2) := by decide +kernel
theorem dX13_fault_109 : decode cX13_fault 109 = .ok (.imul, 1) := by decide +kernel
theorem dX13_fault_110 : decode cX13_fault 110 = .ok (.iload 5, 2) := by decide +kernel
theorem dX13_fault_112 : decode cX13_fault 112 = .ok (.iadd, 1) := by decide +kernel
theorem dX13_fault_113 : decode cX13_fault 113 = .ok (.iaload, 1) := by decide +kernel
theorem dX13_fault_114 : decode cX13_fault 114 = .ok (.ishr, 1) := by decide +kernel
theorem dX13_fault_115 : decode cX13_fault 115 = .ok (.iconst 1, 1) := by decide +kernel
theorem dX13_fault_116 : decode cX13_fault 116 = .ok (.iand, 1) := by decide +kernel
theorem dX13_fault_117 : decode cX13_fault 117 = .ok (.iload 4, 2) := by decide +kernel
theorem dX13_fault_119 : decode cX13_fault 119 = .ok (.ishl, 1) := by decide +kernel
theorem dX13_fault_120 : decode cX13_fault 120 = .ok (.ior, 1) := by decide +kernel
theorem dX13_fault_121 : decode cX13_fault 121 = .ok (.istore_n 3, 1) := by decide +kernel
theorem dX13_fault_122 : decode cX13_fault 122 = .ok (.iinc 5 1, 3) := by decide +kernel
theorem dX13_fault_125 : decode cX13_fault 125 = .ok (.goto (-38), 3) := by decide +kernel
theorem dX13_fault_128 : decode cX13_fault 128 = .ok (.iinc 4 1, 3) := by decide +kernel
theorem dX13_fault_131 : decode cX13_fault 131 = .ok (.goto (-56), 3) := by decide +kernel
theorem dX13_fault_134 : decode cX13_fault 134 = .ok (.iload_n 3, 1) := by decide +kernel
theorem dX13_fault_135 : decode cX13_fault 135 = .ok (.ireturn, 1) := by decide +kernel
set_option maxRecDepth 100000 in
set_option maxHeartbeats 4000000 in
theorem wp_X13_fault {n0 d : Nat} {K : z_K} {I : z_I} {L : z_L} {Q : z_q} {p0 : Int32} (hL : MLay K) (h : RM0 n0 xX13_isPiece d [.ref (n0 + 59), .int p0] K I L (fun vv I1 L2 => ∃ r3 : Int32, vv = some (.int r3) ∧ (if r3 = 0 then RM0 n0 xX13_refuse d [.ref (n0 + 59), .int (-1)] K I1 L2 (fun vv I5 L6 => ∃ r7 : Int32, vv = some (.int r7) ∧ Q (some (.int r7)) I5 L6) else Z n0 xX13_fault (d + 1) 0 0 22 [(0, .ref (n0 + 59)), (2, .int ((1 : Int32) <<< (p0 &&& 31 : Int32))), (3, .int (p0 + 1))] [] K I1 L2 (z_q0 K Q)))) : RM0 n0 xX13_fault (d + 1) [.ref (n0 + 59), .int p0] K I L Q := by
  refine z_entry0 (by decide) (Nat.le_of_ble_eq_true rfl) ?_
  change Z n0 xX13_fault (d + 1) 0 0 0 [(0, .ref (n0 + 59)), (1, .int p0)] [] K I L (z_q0 K Q)
  refine z_aload_n 0 dX13_fault_0 rfl ?_
  refine z_iload_n 1 dX13_fault_1 rfl ?_
  refine z_callV0 (As := [.int p0]) (st := []) dX13_fault_2 hy_X13_isPiece hL.1 hL.2.1 (by decide) wg_1838 wg_1840 wg_59 (Nat.le_refl _) (Nat.le_of_ble_eq_true rfl) (RM0.mono h (fun vv I1 L2 h => ?_))
  obtain ⟨r3, rfl, h⟩ := h
  change Z n0 xX13_fault (d + 1) 0 0 5 [(0, .ref (n0 + 59)), (1, .int p0)] [.int r3] K I1 L2 (z_q0 K Q)
  refine z_if_ne 14 dX13_fault_5 (by decide) (fun g4 => ?_) (fun g4 => ?_)
  · rw [if_neg g4] at h
    refine z_iconst 1 dX13_fault_14 (by decide) ?_
    refine z_iload_n 1 dX13_fault_15 rfl ?_
    refine z_ishl dX13_fault_16 ?_
    refine z_istore_n [1, 2, 0] [(0, .ref (n0 + 59)), (1, .int p0), (2, .int ((1 : Int32) <<< (p0 &&& 31 : Int32)))] dX13_fault_17 (by decide) rfl ?_
    refine z_iload_n 1 dX13_fault_18 rfl ?_
    refine z_iconst 1 dX13_fault_19 (by decide) ?_
    refine z_iadd dX13_fault_20 ?_
    refine z_istore_n [1, 2, 3, 0] [(0, .ref (n0 + 59)), (1, .int p0), (2, .int ((1 : Int32) <<< (p0 &&& 31 : Int32))), (3, .int (p0 + 1))] dX13_fault_21 (by decide) rfl ?_
    refine z_sub [0, 2, 3] rfl ?_
    exact h
  · rw [if_pos g4] at h
    refine z_aload_n 0 dX13_fault_8 rfl ?_
    refine z_iconst (-1) dX13_fault_9 (by decide) ?_
    refine z_callV0 (As := [.int (-1)]) (st := []) dX13_fault_10 hy_X13_refuse hL.1 hL.2.1 (by decide) wg_1778 wg_1780 wg_54 (Nat.le_refl _) (Nat.le_of_ble_eq_true rfl) (RM0.mono h (fun vv I5 L6 h => ?_))
    obtain ⟨r7, rfl, h⟩ := h
    change Z n0 xX13_fault (d + 1) 0 0 13 [(0, .ref (n0 + 59)), (1, .int p0)] [.int r7] K I5 L6 (z_q0 K Q)
    exact z_iret dX13_fault_13 rfl ⟨rfl, h⟩
set_option maxRecDepth 100000 in
set_option maxHeartbeats 4000000 in
theorem wp_X13_fault_22 {n0 d : Nat} {rc rs : Nat} {K : z_K} {I : z_I} {L : z_L} {Q : z_q} {a2 : Int32} {a3 : Int32} (hL : MLay K) (h : (if a3 < (I 59 9) then vp_in a3 16 ∧ Z n0 xX13_fault (d + 1) rc rs 22 [(0, .ref (n0 + 59)), (2, .int (a2 ||| (if ((I 66 a3.toNatClampNeg) : Int32) = 3 then if ((((a2 : Int32) >>> ((I 68 a3.toNatClampNeg) &&& 31 : Int32)) &&& 1) : Int32) = 1 then ((1 : Int32) <<< (a3 &&& 31 : Int32)) else 0 else 0))), (3, .int (a3 + 1))] [] K I L (z_q0 K Q) else Z n0 xX13_fault (d + 1) rc rs 75 [(0, .ref (n0 + 59)), (2, .int a2), (3, .int 0), (4, .int 0)] [] K I L (z_q0 K Q))) : Z n0 xX13_fault (d + 1) rc rs 22 [(0, .ref (n0 + 59)), (2, .int a2), (3, .int a3)] [] K I L (z_q0 K Q) := by
  refine z_iload_n 2 dX13_fault_22 rfl ?_
  refine z_aload_n 0 dX13_fault_23 rfl ?_
  refine fg_13_301 (I 59 9) rfl dX13_fault_24 hL.1 hL.2.1 rfl ?_
  refine z_icmp_ge 70 dX13_fault_27 (by decide) (fun g1 => ?_) (fun g1 => ?_)
  · rw [if_neg g1] at h
    refine z_iconst 0 dX13_fault_70 (by decide) ?_
    refine z_istore_n [1, 2, 0] [(0, .ref (n0 + 59)), (2, .int a2), (3, .int 0)] dX13_fault_71 (by decide) rfl ?_
    refine z_iconst 0 dX13_fault_72 (by decide) ?_
    refine z_istore [1, 2, 3, 0] [(0, .ref (n0 + 59)), (2, .int a2), (3, .int 0), (4, .int 0)] dX13_fault_73 (by decide) rfl ?_
    exact h
  · rw [if_pos g1] at h
    refine z_iload_n 1 dX13_fault_30 rfl ?_
    refine z_aload_n 0 dX13_fault_31 rfl ?_
    refine fg_13_28 (some 66) rfl dX13_fault_32 hL.1 hL.2.1 (ma_10 hL).1 ?_
    refine z_iload_n 2 dX13_fault_35 rfl ?_
    obtain ⟨o2, h⟩ := h
    refine z_iald (I 66 a3.toNatClampNeg) dX13_fault_36 (ma_10 hL).2.1 (ma_10 hL).2.2 o2 rfl ?_
    refine z_iconst 3 dX13_fault_37 (by decide) ?_
    have key5 : Z n0 xX13_fault (d + 1) rc rs 62 [(0, .ref (n0 + 59)), (3, .int a3)] [.int (if ((I 66 a3.toNatClampNeg) : Int32) = 3 then if ((((a2 : Int32) >>> ((I 68 a3.toNatClampNeg) &&& 31 : Int32)) &&& 1) : Int32) = 1 then ((1 : Int32) <<< (a3 &&& 31 : Int32)) else 0 else 0), .int a2] K I L (z_q0 K Q) := by
      refine z_ior dX13_fault_62 ?_
      refine z_istore_n [1, 0, 2] [(0, .ref (n0 + 59)), (2, .int (a2 ||| (if ((I 66 a3.toNatClampNeg) : Int32) = 3 then if ((((a2 : Int32) >>> ((I 68 a3.toNatClampNeg) &&& 31 : Int32)) &&& 1) : Int32) = 1 then ((1 : Int32) <<< (a3 &&& 31 : Int32)) else 0 else 0))), (3, .int a3)] dX13_fault_63 (by decide) rfl ?_
      refine z_iinc (j := 2) (a3 + 1) [1, 2, 0] [(0, .ref (n0 + 59)), (2, .int (a2 ||| (if ((I 66 a3.toNatClampNeg) : Int32) = 3 then if ((((a2 : Int32) >>> ((I 68 a3.toNatClampNeg) &&& 31 : Int32)) &&& 1) : Int32) = 1 then ((1 : Int32) <<< (a3 &&& 31 : Int32)) else 0 else 0))), (3, .int (a3 + 1))] dX13_fault_64 rfl rfl (by decide) rfl ?_
      refine z_goto 22 dX13_fault_67 (by decide) ?_
      exact h
    refine z_icmp_ne 61 dX13_fault_38 (by decide) (fun g3 => ?_) (fun g3 => ?_)
    · refine z_iconst 0 dX13_fault_61 (by decide) ?_
      have ee : ((if ((I 66 a3.toNatClampNeg) : Int32) = 3 then if ((((a2 : Int32) >>> ((I 68 a3.toNatClampNeg) &&& 31 : Int32)) &&& 1) : Int32) = 1 then ((1 : Int32) <<< (a3 &&& 31 : Int32)) else 0 else 0) : Int32) = 0 := by rw [if_neg g3]
      rw [ee] at key5
      clear ee
      refine z_sub [0, 2] rfl ?_
      exact key5
    · refine z_iload_n 1 dX13_fault_41 rfl ?_
      refine z_aload_n 0 dX13_fault_42 rfl ?_
      refine fg_13_34 (some 68) rfl dX13_fault_43 hL.1 hL.2.1 (ma_12 hL).1 ?_
      refine z_iload_n 2 dX13_fault_46 rfl ?_
      refine z_iald (I 68 a3.toNatClampNeg) dX13_fault_47 (ma_12 hL).2.1 (ma_12 hL).2.2 o2 rfl ?_
      refine z_ishr dX13_fault_48 ?_
      refine z_iconst 1 dX13_fault_49 (by decide) ?_
      refine z_iand dX13_fault_50 ?_
      refine z_iconst 1 dX13_fault_51 (by decide) ?_
      refine z_icmp_ne 61 dX13_fault_52 (by decide) (fun g4 => ?_) (fun g4 => ?_)
      · refine z_iconst 0 dX13_fault_61 (by decide) ?_
        have ee : ((if ((I 66 a3.toNatClampNeg) : Int32) = 3 then if ((((a2 : Int32) >>> ((I 68 a3.toNatClampNeg) &&& 31 : Int32)) &&& 1) : Int32) = 1 then ((1 : Int32) <<< (a3 &&& 31 : Int32)) else 0 else 0) : Int32) = 0 := by rw [if_pos g3, if_neg g4]
        rw [ee] at key5
        clear ee
        refine z_sub [0, 2] rfl ?_
        exact key5
      · refine z_iconst 1 dX13_fault_55 (by decide) ?_
        refine z_iload_n 2 dX13_fault_56 rfl ?_
        refine z_ishl dX13_fault_57 ?_
        refine z_goto 62 dX13_fault_58 (by decide) ?_
        have ee : ((if ((I 66 a3.toNatClampNeg) : Int32) = 3 then if ((((a2 : Int32) >>> ((I 68 a3.toNatClampNeg) &&& 31 : Int32)) &&& 1) : Int32) = 1 then ((1 : Int32) <<< (a3 &&& 31 : Int32)) else 0 else 0) : Int32) = ((1 : Int32) <<< (a3 &&& 31 : Int32)) := by rw [if_pos g3, if_pos g4]
        rw [ee] at key5
        clear ee
        refine z_sub [0, 2] rfl ?_
        exact key5
set_option maxRecDepth 100000 in
set_option maxHeartbeats 4000000 in
theorem wp_X13_fault_75 {n0 d : Nat} {rc rs : Nat} {K : z_K} {I : z_I} {L : z_L} {Q : z_q} {a2 : Int32} {a3 : Int32} {a4 : Int32} (hL : MLay K) (h : (if a4 < (I 59 114) then Z n0 xX13_fault (d + 1) rc rs 87 [(0, .ref (n0 + 59)), (2, .int a2), (3, .int a3), (4, .int a4), (5, .int 0)] [] K I L (z_q0 K Q) else Q (some (.int a3)) I L)) : Z n0 xX13_fault (d + 1) rc rs 75 [(0, .ref (n0 + 59)), (2, .int a2), (3, .int a3), (4, .int a4)] [] K I L (z_q0 K Q) := by
  refine z_iload 3 dX13_fault_75 rfl ?_
  refine z_aload_n 0 dX13_fault_77 rfl ?_
  refine fg_13_622 (I 59 114) rfl dX13_fault_78 hL.1 hL.2.1 rfl ?_
  refine z_icmp_ge 134 dX13_fault_81 (by decide) (fun g1 => ?_) (fun g1 => ?_)
  · rw [if_neg g1] at h
    refine z_iload_n 2 dX13_fault_134 rfl ?_
    exact z_iret dX13_fault_135 rfl ⟨rfl, h⟩
  · rw [if_pos g1] at h
    refine z_iconst 0 dX13_fault_84 (by decide) ?_
    refine z_istore [1, 2, 3, 4, 0] [(0, .ref (n0 + 59)), (2, .int a2), (3, .int a3), (4, .int a4), (5, .int 0)] dX13_fault_85 (by decide) rfl ?_
    exact h
set_option maxRecDepth 100000 in
set_option maxHeartbeats 4000000 in
theorem wp_X13_fault_87 {n0 d : Nat} {rc rs : Nat} {K : z_K} {I : z_I} {L : z_L} {Q : z_q} {a2 : Int32} {a3 : Int32} {a4 : Int32} {a5 : Int32} (hL : MLay K) (h : vp_in a4 12 ∧ (if a5 < (I 140 a4.toNatClampNeg) then vp_in ((8 * a4) + a5) 96 ∧ Z n0 xX13_fault (d + 1) rc rs 87 [(0, .ref (n0 + 59)), (2, .int a2), (3, .int (a3 ||| (((((a2 : Int32) >>> ((I 141 (((8 * a4) + a5).toNatClampNeg)) &&& 31 : Int32)) &&& 1) : Int32) <<< (a4 &&& 31 : Int32)))), (4, .int a4), (5, .int (a5 + 1))] [] K I L (z_q0 K Q) else Z n0 xX13_fault (d + 1) rc rs 75 [(0, .ref (n0 + 59)), (2, .int a2), (3, .int a3), (4, .int (a4 + 1))] [] K I L (z_q0 K Q))) : Z n0 xX13_fault (d + 1) rc rs 87 [(0, .ref (n0 + 59)), (2, .int a2), (3, .int a3), (4, .int a4), (5, .int a5)] [] K I L (z_q0 K Q) := by
  refine z_iload 4 dX13_fault_87 rfl ?_
  refine z_aload_n 0 dX13_fault_89 rfl ?_
  refine fg_13_252 (some 140) rfl dX13_fault_90 hL.1 hL.2.1 (ma_116 hL).1 ?_
  refine z_iload 3 dX13_fault_93 rfl ?_
  obtain ⟨o1, h⟩ := h
  refine z_iald (I 140 a4.toNatClampNeg) dX13_fault_95 (ma_116 hL).2.1 (ma_116 hL).2.2 o1 rfl ?_
  refine z_icmp_ge 128 dX13_fault_96 (by decide) (fun g2 => ?_) (fun g2 => ?_)
  · rw [if_neg g2] at h
    refine z_iinc (j := 3) (a4 + 1) [1, 2, 3, 0, 4] [(0, .ref (n0 + 59)), (2, .int a2), (3, .int a3), (4, .int (a4 + 1)), (5, .int a5)] dX13_fault_128 rfl rfl (by decide) rfl ?_
    refine z_goto 75 dX13_fault_131 (by decide) ?_
    refine z_sub [0, 1, 2, 3] rfl ?_
    exact h
  · rw [if_pos g2] at h
    refine z_iload_n 2 dX13_fault_99 rfl ?_
    refine z_iload_n 1 dX13_fault_100 rfl ?_
    refine z_aload_n 0 dX13_fault_101 rfl ?_
    refine fg_13_255 (some 141) rfl dX13_fault_102 hL.1 hL.2.1 (ma_117 hL).1 ?_
    refine z_bipush 8 dX13_fault_105 (by decide) ?_
    refine z_iload 3 dX13_fault_107 rfl ?_
    refine z_imul dX13_fault_109 ?_
    refine z_iload 4 dX13_fault_110 rfl ?_
    refine z_iadd dX13_fault_112 ?_
    obtain ⟨o3, h⟩ := h
    refine z_iald (I 141 (((8 * a4) + a5).toNatClampNeg)) dX13_fault_113 (ma_117 hL).2.1 (ma_117 hL).2.2 o3 rfl ?_
    refine z_ishr dX13_fault_114 ?_
    refine z_iconst 1 dX13_fault_115 (by decide) ?_
    refine z_iand dX13_fault_116 ?_
    refine z_iload 3 dX13_fault_117 rfl ?_
    refine z_ishl dX13_fault_119 ?_
    refine z_ior dX13_fault_120 ?_
    refine z_istore_n [1, 2, 0, 3, 4] [(0, .ref (n0 + 59)), (2, .int a2), (3, .int (a3 ||| (((((a2 : Int32) >>> ((I 141 (((8 * a4) + a5).toNatClampNeg)) &&& 31 : Int32)) &&& 1) : Int32) <<< (a4 &&& 31 : Int32)))), (4, .int a4), (5, .int a5)] dX13_fault_121 (by decide) rfl ?_
    refine z_iinc (j := 4) (a5 + 1) [1, 2, 3, 4, 0] [(0, .ref (n0 + 59)), (2, .int a2), (3, .int (a3 ||| (((((a2 : Int32) >>> ((I 141 (((8 * a4) + a5).toNatClampNeg)) &&& 31 : Int32)) &&& 1) : Int32) <<< (a4 &&& 31 : Int32)))), (4, .int a4), (5, .int (a5 + 1))] dX13_fault_122 rfl rfl (by decide) rfl ?_
    refine z_goto 87 dX13_fault_125 (by decide) ?_
    exact h
theorem dX13_order_0 : decode cX13_order 0 = .ok (.iload_n 1, 1) := by decide +kernel
theorem dX13_order_1 : decode cX13_order 1 = .ok (.i2l, 1) := by decide +kernel
theorem dX13_order_2 : decode cX13_order 2 = .ok (.lconst 0, 1) := by decide +kernel
theorem dX13_order_3 : decode cX13_order 3 = .ok (.ldc2_w 631, 3) := by decide +kernel
theorem dX13_order_6 : decode cX13_order 6 = .ok (.invokestatic 291, 3) := by decide +kernel
theorem dX13_order_9 : decode cX13_order 9 = .ok (.ifCond .ne 9, 3) := by decide +kernel
theorem dX13_order_12 : decode cX13_order 12 = .ok (.aload_n 0, 1) := by decide +kernel
theorem dX13_order_13 : decode cX13_order 13 = .ok (.iconst (-1), 1) := by decide +kernel
theorem dX13_order_14 : decode cX13_order 14 = .ok (.invokevirtual 308, 3) := by decide +kernel
theorem dX13_order_17 : decode cX13_order 17 = .ok (.ireturn, 1) := by decide +kernel
theorem dX13_order_18 : decode cX13_order 18 = .ok (.iload_n 2, 1) := by decide +kernel
theorem dX13_order_19 : decode cX13_order 19 = .ok (.iconst 0, 1) := by decide +kernel
theorem dX13_order_20 : decode cX13_order 20 = .ok (.bipush 99, 2) := by decide +kernel
theorem dX13_order_22 : decode cX13_order 22 = .ok (.invokestatic 324, 3) := by decide +kernel
theorem dX13_order_25 : decode cX13_order 25 = .ok (.ifCond .ge 15, 3) := by decide +kernel
theorem dX13_order_28 : decode cX13_order 28 = .ok (.aload_n 0, 1) := by decide +kernel
theorem dX13_order_29 : decode cX13_order 29 = .ok (.iload_n 2, 1) := by decide +kernel
theorem dX13_order_30 : decode cX13_order 30 = .ok (.iconst 0, 1) := by decide +kernel
theorem dX13_order_31 : decode cX13_order 31 = .ok (.bipush 99, 2) := by decide +kernel
theorem dX13_order_33 : decode cX13_order 33 = .ok (.invokestatic 324, 3) := by decide +kernel
theorem dX13_order_36 : decode cX13_order 36 = .ok (.invokevirtual 308, 3) := by decide +kernel
theorem dX13_order_39 : decode cX13_order 39 = .ok (.ireturn, 1) := by decide +kernel
theorem dX13_order_40 : decode cX13_order 40 = .ok (.aload_n 0, 1) := by decide +kernel
theorem dX13_order_41 : decode cX13_order 41 = .ok (.getfield 273, 3) := by decide +kernel
theorem dX13_order_44 : decode cX13_order 44 = .ok (.iload_n 1, 1) := by decide +kernel
theorem dX13_order_45 : decode cX13_order 45 = .ok (.iaload, 1) := by decide +kernel
theorem dX13_order_46 : decode cX13_order 46 = .ok (.istore_n 3, 1) := by decide +kernel
theorem dX13_order_47 : decode cX13_order 47 = .ok (.aload_n 0, 1) := by decide +kernel
theorem dX13_order_48 : decode cX13_order 48 = .ok (.getfield 273, 3) := by decide +kernel
theorem dX13_order_51 : decode cX13_order 51 = .ok (.iload_n 1, 1) := by decide +kernel
theorem dX13_order_52 : decode cX13_order 52 = .ok (.iload_n 2, 1) := by decide +kernel
theorem dX13_order_53 : decode cX13_order 53 = .ok (.iastore, 1) := by decide +kernel
theorem dX13_order_54 : decode cX13_order 54 = .ok (.iload_n 3, 1) := by decide +kernel
theorem dX13_order_55 : decode cX13_order 55 = .ok (.ireturn, 1) := by decide +kernel
set_option maxRecDepth 100000 in
set_option maxHeartbeats 4000000 in
theorem wp_X13_order {n0 d : Nat} {K : z_K} {I : z_I} {L : z_L} {Q : z_q} {p0 : Int32} {p1 : Int32} (hL : MLay K) (h : RM0 n0 xX13_in d [.long p0.toInt64, .long 0, .long 4] K I L (fun vv I1 L2 => ∃ r3 : Int32, vv = some (.int r3) ∧ (if r3 = 0 then RM0 n0 xX13_refuse d [.ref (n0 + 59), .int (-1)] K I1 L2 (fun vv I16 L17 => ∃ r18 : Int32, vv = some (.int r18) ∧ Q (some (.int r18)) I16 L17) else RM0 n0 xX13_bounds d [.int p1, .int 0, .int 99] K I1 L2 (fun vv I5 L6 => ∃ r7 : Int32, vv = some (.int r7) ∧ (if r7 < 0 then RM0 n0 xX13_bounds d [.int p1, .int 0, .int 99] K I5 L6 (fun vv I10 L11 => ∃ r12 : Int32, vv = some (.int r12) ∧ RM0 n0 xX13_refuse d [.ref (n0 + 59), .int r12] K I10 L11 (fun vv I13 L14 => ∃ r15 : Int32, vv = some (.int r15) ∧ Q (some (.int r15)) I13 L14)) else vp_in p0 5 ∧ Q (some (.int (I5 147 p0.toNatClampNeg))) (zI I5 147 p0.toNatClampNeg p1) L6))))) : RM0 n0 xX13_order (d + 1) [.ref (n0 + 59), .int p0, .int p1] K I L Q := by
  refine z_entry0 (by decide) (Nat.le_of_ble_eq_true rfl) ?_
  change Z n0 xX13_order (d + 1) 0 0 0 [(0, .ref (n0 + 59)), (1, .int p0), (2, .int p1)] [] K I L (z_q0 K Q)
  refine z_iload_n 1 dX13_order_0 rfl ?_
  refine z_i2l dX13_order_1 ?_
  refine z_lconst 0 dX13_order_2 (by decide) ?_
  refine z_ldc2_w 4 dX13_order_3 wg_2214 ?_
  refine z_callS0 (As := [.long p0.toInt64, .long 0, .long 4]) (st := []) dX13_order_6 hy_X13_in wg_1790 wg_1791 (Nat.le_refl _) (Nat.le_of_ble_eq_true rfl) (RM0.mono h (fun vv I1 L2 h => ?_))
  obtain ⟨r3, rfl, h⟩ := h
  change Z n0 xX13_order (d + 1) 0 0 9 [(0, .ref (n0 + 59)), (1, .int p0), (2, .int p1)] [.int r3] K I1 L2 (z_q0 K Q)
  refine z_if_ne 18 dX13_order_9 (by decide) (fun g4 => ?_) (fun g4 => ?_)
  · rw [if_neg g4] at h
    refine z_iload_n 2 dX13_order_18 rfl ?_
    refine z_iconst 0 dX13_order_19 (by decide) ?_
    refine z_bipush 99 dX13_order_20 (by decide) ?_
    refine z_callS0 (As := [.int p1, .int 0, .int 99]) (st := []) dX13_order_22 hy_X13_bounds wg_1797 wg_1798 (Nat.le_refl _) (Nat.le_of_ble_eq_true rfl) (RM0.mono h (fun vv I5 L6 h => ?_))
    obtain ⟨r7, rfl, h⟩ := h
    change Z n0 xX13_order (d + 1) 0 0 25 [(0, .ref (n0 + 59)), (1, .int p0), (2, .int p1)] [.int r7] K I5 L6 (z_q0 K Q)
    refine z_if_ge 40 dX13_order_25 (by decide) (fun g8 => ?_) (fun g8 => ?_)
    · rw [if_neg g8] at h
      refine z_aload_n 0 dX13_order_40 rfl ?_
      refine fg_13_273 (some 147) rfl dX13_order_41 hL.1 hL.2.1 (ma_123 hL).1 ?_
      refine z_iload_n 1 dX13_order_44 rfl ?_
      obtain ⟨o9, h⟩ := h
      refine z_iald (I5 147 p0.toNatClampNeg) dX13_order_45 (ma_123 hL).2.1 (ma_123 hL).2.2 o9 rfl ?_
      refine z_istore_n [1, 2, 3, 0] [(0, .ref (n0 + 59)), (1, .int p0), (2, .int p1), (3, .int (I5 147 p0.toNatClampNeg))] dX13_order_46 (by decide) rfl ?_
      refine z_aload_n 0 dX13_order_47 rfl ?_
      refine fg_13_273 (some 147) rfl dX13_order_48 hL.1 hL.2.1 (ma_123 hL).1 ?_
      refine z_iload_n 1 dX13_order_51 rfl ?_
      refine z_iload_n 2 dX13_order_52 rfl ?_
      refine z_iast dX13_order_53 (ma_123 hL).2.1 (ma_123 hL).2.2 o9 ?_
      refine z_iload_n 3 dX13_order_54 rfl ?_
      exact z_iret dX13_order_55 rfl ⟨rfl, h⟩
    · rw [if_pos g8] at h
      refine z_aload_n 0 dX13_order_28 rfl ?_
      refine z_iload_n 2 dX13_order_29 rfl ?_
      refine z_iconst 0 dX13_order_30 (by decide) ?_
      refine z_bipush 99 dX13_order_31 (by decide) ?_
      refine z_callS0 (As := [.int p1, .int 0, .int 99]) (st := [.ref (n0 + 59)]) dX13_order_33 hy_X13_bounds wg_1797 wg_1798 (Nat.le_refl _) (Nat.le_of_ble_eq_true rfl) (RM0.mono h (fun vv I10 L11 h => ?_))
      obtain ⟨r12, rfl, h⟩ := h
      change Z n0 xX13_order (d + 1) 0 0 36 [(0, .ref (n0 + 59)), (1, .int p0), (2, .int p1)] [.int r12, .ref (n0 + 59)] K I10 L11 (z_q0 K Q)
      refine z_callV0 (As := [.int r12]) (st := []) dX13_order_36 hy_X13_refuse hL.1 hL.2.1 (by decide) wg_1778 wg_1780 wg_54 (Nat.le_refl _) (Nat.le_of_ble_eq_true rfl) (RM0.mono h (fun vv I13 L14 h => ?_))
      obtain ⟨r15, rfl, h⟩ := h
      change Z n0 xX13_order (d + 1) 0 0 39 [(0, .ref (n0 + 59)), (1, .int p0), (2, .int p1)] [.int r15] K I13 L14 (z_q0 K Q)
      exact z_iret dX13_order_39 rfl ⟨rfl, h⟩
  · rw [if_pos g4] at h
    refine z_aload_n 0 dX13_order_12 rfl ?_
    refine z_iconst (-1) dX13_order_13 (by decide) ?_
    refine z_callV0 (As := [.int (-1)]) (st := []) dX13_order_14 hy_X13_refuse hL.1 hL.2.1 (by decide) wg_1778 wg_1780 wg_54 (Nat.le_refl _) (Nat.le_of_ble_eq_true rfl) (RM0.mono h (fun vv I16 L17 h => ?_))
    obtain ⟨r18, rfl, h⟩ := h
    change Z n0 xX13_order (d + 1) 0 0 17 [(0, .ref (n0 + 59)), (1, .int p0), (2, .int p1)] [.int r18] K I16 L17 (z_q0 K Q)
    exact z_iret dX13_order_17 rfl ⟨rfl, h⟩
theorem dX13_marker_0 : decode cX13_marker 0 = .ok (.iload_n 1, 1) := by decide +kernel
theorem dX13_marker_1 : decode cX13_marker 1 = .ok (.iconst 1, 1) := by decide +kernel
theorem dX13_marker_2 : decode cX13_marker 2 = .ok (.if_icmp .lt 8, 3) := by decide +kernel
theorem dX13_marker_5 : decode cX13_marker 5 = .ok (.iload_n 2, 1) := by decide +kernel
theorem dX13_marker_6 : decode cX13_marker 6 = .ok (.iconst 1, 1) := by decide +kernel
theorem dX13_marker_7 : decode cX13_marker 7 = .ok (.if_icmp .ge 10, 3) := by decide +kernel
theorem dX13_marker_10 : decode cX13_marker 10 = .ok (.aload_n 0, 1) := by decide +kernel
theorem dX13_marker_11 : decode cX13_marker 11 = .ok (.bipush (-4), 2) := by decide +kernel
theorem dX13_marker_13 : decode cX13_marker 13 = .ok (.invokevirtual 308, 3) := by decide +kernel
theorem dX13_marker_16 : decode cX13_marker 16 = .ok (.ireturn, 1) := by decide +kernel
theorem dX13_marker_17 : decode cX13_marker 17 = .ok (.iload_n 1, 1) := by decide +kernel
theorem dX13_marker_18 : decode cX13_marker 18 = .ok (.ldc_w 514, 3) := by decide +kernel
theorem dX13_marker_21 : decode cX13_marker 21 = .ok (.if_icmp .gt 19, 3) := by decide +kernel
theorem dX13_marker_24 : decode cX13_marker 24 = .ok (.iload_n 2, 1) := by decide +kernel
theorem dX13_marker_25 : decode cX13_marker 25 = .ok (.sipush 9999, 3) := by decide +kernel
theorem dX13_marker_28 : decode cX13_marker 28 = .ok (.if_icmp .gt 12, 3) := by decide +kernel
theorem dX13_marker_31 : decode cX13_marker 31 = .ok (.aload_n 0, 1) := by decide +kernel
theorem dX13_marker_32 : decode cX13_marker 32 = .ok (.getfield 633, 3) := by decide +kernel
theorem dX13_marker_35 : decode cX13_marker 35 = .ok (.bipush 6, 2) := by decide +kernel
theorem dX13_marker_37 : decode cX13_marker 37 = .ok (.if_icmp .ne 10, 3) := by decide +kernel
theorem dX13_marker_40 : decode cX13_marker 40 = .ok (.aload_n 0, 1) := by decide +kernel
theorem dX13_marker_41 : decode cX13_marker 41 = .ok (.bipush (-6), 2) := by decide +kernel
theorem dX13_marker_43 : decode cX13_marker 43 = .ok (.invokevirtual 308, 3) := by decide +kernel
theorem dX13_marker_46 : decode cX13_marker 46 = .ok (.ireturn, 1) := by decide +kernel
theorem dX13_marker_47 : decode cX13_marker 47 = .ok (.aload_n 0, 1) := by decide +kernel
theorem dX13_marker_48 : decode cX13_marker 48 = .ok (.getfield 276, 3) := by decide +kernel
theorem dX13_marker_51 : decode cX13_marker 51 = .ok (.aload_n 0, 1) := by decide +kernel
theorem dX13_marker_52 : decode cX13_marker 52 = .ok (.getfield 633, 3) := by decide +kernel
theorem dX13_marker_55 : decode cX13_marker 55 = .ok (.iload_n 1, 1) := by decide +kernel
theorem dX13_marker_56 : decode cX13_marker 56 = .ok (.iastore, 1) := by decide +kernel
theorem dX13_marker_57 : decode cX13_marker 57 = .ok (.aload_n 0, 1) := by decide +kernel
theorem dX13_marker_58 : decode cX13_marker 58 = .ok (.getfield 279, 3) := by decide +kernel
theorem dX13_marker_61 : decode cX13_marker 61 = .ok (.aload_n 0, 1) := by decide +kernel
theorem dX13_marker_62 : decode cX13_marker 62 = .ok (.getfield 633, 3) := by decide +kernel
theorem dX13_marker_65 : decode cX13_marker 65 = .ok (.iload_n 2, 1) := by decide +kernel
theorem dX13_marker_66 : decode cX13_marker 66 = .ok (.iastore, 1) := by decide +kernel
theorem dX13_marker_67 : decode cX13_marker 67 = .ok (.aload_n 0, 1) := by decide +kernel
theorem dX13_marker_68 : decode cX13_marker 68 = .ok (.dup, 1) := by decide +kernel
theorem dX13_marker_69 : decode cX13_marker 69 = .ok (.getfield 633, 3) := by decide +kernel
theorem dX13_marker_72 : decode cX13_marker 72 = .ok (.iconst 1, 1) := by decide +kernel
theorem dX13_marker_73 : decode cX13_marker 73 = .ok (.iadd, 1) := by decide +kernel
theorem dX13_marker_74 : decode cX13_marker 74 = .ok (.putfield 633, 3) := by decide +kernel
theorem dX13_marker_77 : decode cX13_marker 77 = .ok (.aload_n 0, 1) := by decide +kernel
theorem dX13_marker_78 : decode cX13_marker 78 = .ok (.getfield 633, 3) := by decide +kernel
theorem dX13_marker_81 : decode cX13_marker 81 = .ok (.iconst 1, 1) := by decide +kernel
theorem dX13_marker_82 : decode cX13_marker 82 = .ok (.isub, 1) := by decide +kernel
theorem dX13_marker_83 : decode cX13_marker 83 = .ok (.ireturn, 1) := by decide +kernel
set_option maxRecDepth 100000 in
set_option maxHeartbeats 4000000 in
theorem wp_X13_marker {n0 d : Nat} {K : z_K} {I : z_I} {L : z_L} {Q : z_q} {p0 : Int32} {p1 : Int32} (hL : MLay K) (h : (if p0 < 1 then RM0 n0 xX13_refuse d [.ref (n0 + 59), .int (-4)] K I L (fun vv I2 L3 => ∃ r4 : Int32, vv = some (.int r4) ∧ Q (some (.int r4)) I2 L3) else (if p1 < 1 then RM0 n0 xX13_refuse d [.ref (n0 + 59), .int (-4)] K I L (fun vv I19 L20 => ∃ r21 : Int32, vv = some (.int r21) ∧ Q (some (.int r21)) I19 L20) else (if 99999 < p0 then RM0 n0 xX13_refuse d [.ref (n0 + 59), .int (-6)] K I L (fun vv I7 L8 => ∃ r9 : Int32, vv = some (.int r9) ∧ Q (some (.int r9)) I7 L8) else (if 9999 < p1 then RM0 n0 xX13_refuse d [.ref (n0 + 59), .int (-6)] K I L (fun vv I11 L12 => ∃ r13 : Int32, vv = some (.int r13) ∧ Q (some (.int r13)) I11 L12) else (if ((I 59 124) : Int32) = 6 then RM0 n0 xX13_refuse d [.ref (n0 + 59), .int (-6)] K I L (fun vv I16 L17 => ∃ r18 : Int32, vv = some (.int r18) ∧ Q (some (.int r18)) I16 L17) else vp_in (I 59 124) 6 ∧ Q (some (.int ((((I 59 124) + 1)) - 1))) (zI (zI (zI I 148 ((I 59 124).toNatClampNeg) p0) 149 ((I 59 124).toNatClampNeg) p1) 59 124 ((I 59 124) + 1)) L)))))) : RM0 n0 xX13_marker (d + 1) [.ref (n0 + 59), .int p0, .int p1] K I L Q := by
  refine z_entry0 (by decide) (Nat.le_of_ble_eq_true rfl) ?_
  change Z n0 xX13_marker (d + 1) 0 0 0 [(0, .ref (n0 + 59)), (1, .int p0), (2, .int p1)] [] K I L (z_q0 K Q)
  refine z_iload_n 1 dX13_marker_0 rfl ?_
  refine z_iconst 1 dX13_marker_1 (by decide) ?_
  refine z_icmp_lt 10 dX13_marker_2 (by decide) (fun g1 => ?_) (fun g1 => ?_)
  · rw [if_pos g1] at h
    refine z_aload_n 0 dX13_marker_10 rfl ?_
    refine z_bipush (-4) dX13_marker_11 (by decide) ?_
    refine z_callV0 (As := [.int (-4)]) (st := []) dX13_marker_13 hy_X13_refuse hL.1 hL.2.1 (by decide) wg_1778 wg_1780 wg_54 (Nat.le_refl _) (Nat.le_of_ble_eq_true rfl) (RM0.mono h (fun vv I2 L3 h => ?_))
    obtain ⟨r4, rfl, h⟩ := h
    change Z n0 xX13_marker (d + 1) 0 0 16 [(0, .ref (n0 + 59)), (1, .int p0), (2, .int p1)] [.int r4] K I2 L3 (z_q0 K Q)
    exact z_iret dX13_marker_16 rfl ⟨rfl, h⟩
  · rw [if_neg g1] at h
    refine z_iload_n 2 dX13_marker_5 rfl ?_
    refine z_iconst 1 dX13_marker_6 (by decide) ?_
    refine z_icmp_ge 17 dX13_marker_7 (by decide) (fun g5 => ?_) (fun g5 => ?_)
    · rw [if_neg g5] at h
      refine z_iload_n 1 dX13_marker_17 rfl ?_
      refine z_ldc_w 99999 dX13_marker_18 wg_2018 ?_
      refine z_icmp_gt 40 dX13_marker_21 (by decide) (fun g6 => ?_) (fun g6 => ?_)
      · rw [if_pos g6] at h
        refine z_aload_n 0 dX13_marker_40 rfl ?_
        refine z_bipush (-6) dX13_marker_41 (by decide) ?_
        refine z_callV0 (As := [.int (-6)]) (st := []) dX13_marker_43 hy_X13_refuse hL.1 hL.2.1 (by decide) wg_1778 wg_1780 wg_54 (Nat.le_refl _) (Nat.le_of_ble_eq_true rfl) (RM0.mono h (fun vv I7 L8 h => ?_))
        obtain ⟨r9, rfl, h⟩ := h
        change Z n0 xX13_marker (d + 1) 0 0 46 [(0, .ref (n0 + 59)), (1, .int p0), (2, .int p1)] [.int r9] K I7 L8 (z_q0 K Q)
        exact z_iret dX13_marker_46 rfl ⟨rfl, h⟩
      · rw [if_neg g6] at h
        refine z_iload_n 2 dX13_marker_24 rfl ?_
        refine z_sipush 9999 dX13_marker_25 (by decide) ?_
        refine z_icmp_gt 40 dX13_marker_28 (by decide) (fun g10 => ?_) (fun g10 => ?_)
        · rw [if_pos g10] at h
          refine z_aload_n 0 dX13_marker_40 rfl ?_
          refine z_bipush (-6) dX13_marker_41 (by decide) ?_
          refine z_callV0 (As := [.int (-6)]) (st := []) dX13_marker_43 hy_X13_refuse hL.1 hL.2.1 (by decide) wg_1778 wg_1780 wg_54 (Nat.le_refl _) (Nat.le_of_ble_eq_true rfl) (RM0.mono h (fun vv I11 L12 h => ?_))
          obtain ⟨r13, rfl, h⟩ := h
          change Z n0 xX13_marker (d + 1) 0 0 46 [(0, .ref (n0 + 59)), (1, .int p0), (2, .int p1)] [.int r13] K I11 L12 (z_q0 K Q)
          exact z_iret dX13_marker_46 rfl ⟨rfl, h⟩
        · rw [if_neg g10] at h
          refine z_aload_n 0 dX13_marker_31 rfl ?_
          refine fg_13_633 (I 59 124) rfl dX13_marker_32 hL.1 hL.2.1 rfl ?_
          refine z_bipush 6 dX13_marker_35 (by decide) ?_
          refine z_icmp_ne 47 dX13_marker_37 (by decide) (fun g14 => ?_) (fun g14 => ?_)
          · rw [if_neg g14] at h
            refine z_aload_n 0 dX13_marker_47 rfl ?_
            refine fg_13_276 (some 148) rfl dX13_marker_48 hL.1 hL.2.1 (ma_125 hL).1 ?_
            refine z_aload_n 0 dX13_marker_51 rfl ?_
            refine fg_13_633 (I 59 124) rfl dX13_marker_52 hL.1 hL.2.1 rfl ?_
            refine z_iload_n 1 dX13_marker_55 rfl ?_
            obtain ⟨o15, h⟩ := h
            refine z_iast dX13_marker_56 (ma_125 hL).2.1 (ma_125 hL).2.2 o15 ?_
            refine z_aload_n 0 dX13_marker_57 rfl ?_
            refine fg_13_279 (some 149) rfl dX13_marker_58 hL.1 hL.2.1 (ma_126 hL).1 ?_
            refine z_aload_n 0 dX13_marker_61 rfl ?_
            refine fg_13_633 (I 59 124) rfl dX13_marker_62 hL.1 hL.2.1 rfl ?_
            refine z_iload_n 2 dX13_marker_65 rfl ?_
            refine z_iast dX13_marker_66 (ma_126 hL).2.1 (ma_126 hL).2.2 o15 ?_
            refine z_aload_n 0 dX13_marker_67 rfl ?_
            refine z_dup dX13_marker_68 rfl ?_
            refine fg_13_633 (I 59 124) rfl dX13_marker_69 hL.1 hL.2.1 rfl ?_
            refine z_iconst 1 dX13_marker_72 (by decide) ?_
            refine z_iadd dX13_marker_73 ?_
            refine fp_13_633 rfl dX13_marker_74 hL.1 hL.2.1 ?_
            refine z_aload_n 0 dX13_marker_77 rfl ?_
            refine fg_13_633 (((I 59 124) + 1)) rfl dX13_marker_78 hL.1 hL.2.1 rfl ?_
            refine z_iconst 1 dX13_marker_81 (by decide) ?_
            refine z_isub dX13_marker_82 ?_
            exact z_iret dX13_marker_83 rfl ⟨rfl, h⟩
          · rw [if_pos g14] at h
            refine z_aload_n 0 dX13_marker_40 rfl ?_
            refine z_bipush (-6) dX13_marker_41 (by decide) ?_
            refine z_callV0 (As := [.int (-6)]) (st := []) dX13_marker_43 hy_X13_refuse hL.1 hL.2.1 (by decide) wg_1778 wg_1780 wg_54 (Nat.le_refl _) (Nat.le_of_ble_eq_true rfl) (RM0.mono h (fun vv I16 L17 h => ?_))
            obtain ⟨r18, rfl, h⟩ := h
            change Z n0 xX13_marker (d + 1) 0 0 46 [(0, .ref (n0 + 59)), (1, .int p0), (2, .int p1)] [.int r18] K I16 L17 (z_q0 K Q)
            exact z_iret dX13_marker_46 rfl ⟨rfl, h⟩
    · rw [if_pos g5] at h
      refine z_aload_n 0 dX13_marker_10 rfl ?_
      refine z_bipush (-4) dX13_marker_11 (by decide) ?_
      refine z_callV0 (As := [.int (-4)]) (st := []) dX13_marker_13 hy_X13_refuse hL.1 hL.2.1 (by decide) wg_1778 wg_1780 wg_54 (Nat.le_refl _) (Nat.le_of_ble_eq_true rfl) (RM0.mono h (fun vv I19 L20 h => ?_))
      obtain ⟨r21, rfl, h⟩ := h
      change Z n0 xX13_marker (d + 1) 0 0 16 [(0, .ref (n0 + 59)), (1, .int p0), (2, .int p1)] [.int r21] K I19 L20 (z_q0 K Q)
      exact z_iret dX13_marker_16 rfl ⟨rfl, h⟩
theorem dX13_allMet_0 : decode cX13_allMet 0 = .ok (.iconst 1, 1) := by decide +kernel
theorem dX13_allMet_1 : decode cX13_allMet 1 = .ok (.istore_n 1, 1) := by decide +kernel
theorem dX13_allMet_2 : decode cX13_allMet 2 = .ok (.iconst 0, 1) := by decide +kernel
theorem dX13_allMet_3 : decode cX13_allMet 3 = .ok (.istore_n 2, 1) := by decide +kernel
theorem dX13_allMet_4 : decode cX13_allMet 4 = .ok (.iload_n 2, 1) := by decide +kernel
theorem dX13_allMet_5 : decode cX13_allMet 5 = .ok (.iconst 5, 1) := by decide +kernel
theorem dX13_allMet_6 : decode cX13_allMet 6 = .ok (.if_icmp .ge 69, 3) := by decide +kernel
theorem dX13_allMet_9 : decode cX13_allMet 9 = .ok (.iconst 0, 1) := by decide +kernel
theorem dX13_allMet_10 : decode cX13_allMet 10 = .ok (.istore_n 3, 1) := by decide +kernel
theorem dX13_allMet_11 : decode cX13_allMet 11 = .ok (.iconst 0, 1) := by decide +kernel
theorem dX13_allMet_12 : decode cX13_allMet 12 = .ok (.istore 4, 2) := by decide +kernel
theorem dX13_allMet_14 : decode cX13_allMet 14 = .ok (.iload 4, 2) := by decide +kernel
theorem dX13_allMet_16 : decode cX13_allMet 16 = .ok (.aload_n 0, 1) := by decide +kernel
theorem dX13_allMet_17 : decode cX13_allMet 17 = .ok (.getfield 633, 3) := by decide +kernel
theorem dX13_allMet_20 : decode cX13_allMet 20 = .ok (.if_icmp .ge 32, 3) := by decide +kernel
theorem dX13_allMet_23 : decode cX13_allMet 23 = .ok (.iload_n 3, 1) := by decide +kernel
theorem dX13_allMet_24 : decode cX13_allMet 24 = .ok (.aload_n 0, 1) := by decide +kernel
theorem dX13_allMet_25 : decode cX13_allMet 25 = .ok (.getfield 282, 3) := by decide +kernel
theorem dX13_allMet_28 : decode cX13_allMet 28 = .ok (.iload 4, 2) := by decide +kernel
theorem dX13_allMet_30 : decode cX13_allMet 30 = .ok (.iaload, 1) := by decide +kernel
theorem dX13_allMet_31 : decode cX13_allMet 31 = .ok (.aload_n 0, 1) := by decide +kernel
theorem dX13_allMet_32 : decode cX13_allMet 32 = .ok (.getfield 276, 3) := by decide +kernel
theorem dX13_allMet_35 : decode cX13_allMet 35 = .ok (.iload 4, 2) := by decide +kernel
theorem dX13_allMet_37 : decode cX13_allMet 37 = .ok (.iaload, 1) := by decide +kernel
theorem dX13_allMet_38 : decode cX13_allMet 38 = .ok (.iload_n 1, 1) := by decide +kernel
theorem dX13_allMet_39 : decode cX13_allMet 39 = .ok (.idiv, 1) := by decide +kernel
theorem dX13_allMet_40 : decode cX13_allMet 40 = .ok (.bipush 10, 2) := by decide +kernel
theorem dX13_allMet_42 : decode cX13_allMet 42 = .ok (.irem, 1) := by decide +kernel
theorem dX13_allMet_43 : decode cX13_allMet 43 = .ok (.imul, 1) := by decide +kernel
theorem dX13_allMet_44 : decode cX13_allMet 44 = .ok (.iadd, 1) := by decide +kernel
theorem dX13_allMet_45 : decode cX13_allMet 45 = .ok (.istore_n 3, 1) := by decide +kernel
theorem dX13_allMet_46 : decode cX13_allMet 46 = .ok (.iinc 4 1, 3) := by decide +kernel
theorem dX13_allMet_49 : decode cX13_allMet 49 = .ok (.goto (-35), 3) := by decide +kernel
theorem dX13_allMet_52 : decode cX13_allMet 52 = .ok (.iload_n 3, 1) := by decide +kernel
theorem dX13_allMet_53 : decode cX13_allMet 53 = .ok (.aload_n 0, 1) := by decide +kernel
theorem dX13_allMet_54 : decode cX13_allMet 54 = .ok (.getfield 273, 3) := by decide +kernel
theorem dX13_allMet_57 : decode cX13_allMet 57 = .ok (.iload_n 2, 1) := by decide +kernel
theorem dX13_allMet_58 : decode cX13_allMet 58 = .ok (.iaload, 1) := by decide +kernel
theorem dX13_allMet_59 : decode cX13_allMet 59 = .ok (.if_icmp .ge 5, 3) := by decide +kernel
theorem dX13_allMet_62 : decode cX13_allMet 62 = .ok (.iconst 0, 1) := by decide +kernel
theorem dX13_allMet_63 : decode cX13_allMet 63 = .ok (.ireturn, 1) := by decide +kernel
theorem dX13_allMet_64 : decode cX13_allMet 64 = .ok (.iload_n 1, 1) := by decide +kernel
theorem dX13_allMet_65 : decode cX13_allMet 65 = .ok (.bipush 10, 2) := by decide +kernel
theorem dX13_allMet_67 : decode cX13_allMet 67 = .ok (.imul, 1) := by decide +kernel
theorem dX13_allMet_68 : decode cX13_allMet 68 = .ok (.istore_n 1, 1) := by decide +kernel
theorem dX13_allMet_69 : decode cX13_allMet 69 = .ok (.iinc 2 1, 3) := by decide +kernel
theorem dX13_allMet_72 : decode cX13_allMet 72 = .ok (.goto (-68), 3) := by decide +kernel
theorem dX13_allMet_75 : decode cX13_allMet 75 = .ok (.iconst 1, 1) := by decide +kernel
theorem dX13_allMet_76 : decode cX13_allMet 76 = .ok (.ireturn, 1) := by decide +kernel
set_option maxRecDepth 100000 in
set_option maxHeartbeats 4000000 in
theorem wp_X13_allMet {n0 d : Nat} {K : z_K} {I : z_I} {L : z_L} {Q : z_q}  (hL : MLay K) (h : Z n0 xX13_allMet d 0 0 4 [(0, .ref (n0 + 59)), (1, .int 1), (2, .int 0)] [] K I L (z_q0 K Q)) : RM0 n0 xX13_allMet d [.ref (n0 + 59)] K I L Q := by
  refine z_entry0 (by decide) (Nat.le_of_ble_eq_true rfl) ?_
  change Z n0 xX13_allMet d 0 0 0 [(0, .ref (n0 + 59))] [] K I L (z_q0 K Q)
  refine z_iconst 1 dX13_allMet_0 (by decide) ?_
  refine z_istore_n [1, 0] [(0, .ref (n0 + 59)), (1, .int 1)] dX13_allMet_1 (by decide) rfl ?_
  refine z_iconst 0 dX13_allMet_2 (by decide) ?_
  refine z_istore_n [1, 2, 0] [(0, .ref (n0 + 59)), (1, .int 1), (2, .int 0)] dX13_allMet_3 (by decide) rfl ?_
  exact h
set_option maxRecDepth 100000 in
set_option maxHeartbeats 4000000 in
theorem wp_X13_allMet_4 {n0 d : Nat} {rc rs : Nat} {K : z_K} {I : z_I} {L : z_L} {Q : z_q} {a1 : Int32} {a2 : Int32} (hL : MLay K) (h : (if a2 < 5 then Z n0 xX13_allMet d rc rs 14 [(0, .ref (n0 + 59)), (1, .int a1), (2, .int a2), (3, .int 0), (4, .int 0)] [] K I L (z_q0 K Q) else Q (some (.int 1)) I L)) : Z n0 xX13_allMet d rc rs 4 [(0, .ref (n0 + 59)), (1, .int a1), (2, .int a2)] [] K I L (z_q0 K Q) := by
  refine z_iload_n 2 dX13_allMet_4 rfl ?_
  refine z_iconst 5 dX13_allMet_5 (by decide) ?_
  refine z_icmp_ge 75 dX13_allMet_6 (by decide) (fun g1 => ?_) (fun g1 => ?_)
  · rw [if_neg g1] at h
    refine z_iconst 1 dX13_allMet_75 (by decide) ?_
    exact z_zretb dX13_allMet_76 rfl (Or.inr rfl) ⟨rfl, h⟩
  · rw [if_pos g1] at h
    refine z_iconst 0 dX13_allMet_9 (by decide) ?_
    refine z_istore_n [1, 2, 3, 0] [(0, .ref (n0 + 59)), (1, .int a1), (2, .int a2), (3, .int 0)] dX13_allMet_10 (by decide) rfl ?_
    refine z_iconst 0 dX13_allMet_11 (by decide) ?_
    refine z_istore [1, 2, 3, 4, 0] [(0, .ref (n0 + 59)), (1, .int a1), (2, .int a2), (3, .int 0), (4, .int 0)] dX13_allMet_12 (by decide) rfl ?_
    exact h
set_option maxRecDepth 100000 in
set_option maxHeartbeats 4000000 in
theorem wp_X13_allMet_14 {n0 d : Nat} {rc rs : Nat} {K : z_K} {I : z_I} {L : z_L} {Q : z_q} {a1 : Int32} {a2 : Int32} {a3 : Int32} {a4 : Int32} (hL : MLay K) (h : (if a4 < (I 59 124) then vp_in a4 6 ∧ ¬ (a1 : Int32) = 0 ∧ Z n0 xX13_allMet d rc rs 14 [(0, .ref (n0 + 59)), (1, .int a1), (2, .int a2), (3, .int (a3 + ((I 150 a4.toNatClampNeg) * (((I 148 a4.toNatClampNeg) / a1) - ((I 148 a4.toNatClampNeg) / a1) / 10 * 10)))), (4, .int (a4 + 1))] [] K I L (z_q0 K Q) else vp_in a2 5 ∧ (if a3 < (I 147 a2.toNatClampNeg) then Q (some (.int 0)) I L else Z n0 xX13_allMet d rc rs 4 [(0, .ref (n0 + 59)), (1, .int (a1 * 10)), (2, .int (a2 + 1))] [] K I L (z_q0 K Q)))) : Z n0 xX13_allMet d rc rs 14 [(0, .ref (n0 + 59)), (1, .int a1), (2, .int a2), (3, .int a3), (4, .int a4)] [] K I L (z_q0 K Q) := by
  refine z_iload 4 dX13_allMet_14 rfl ?_
  refine z_aload_n 0 dX13_allMet_16 rfl ?_
  refine fg_13_633 (I 59 124) rfl dX13_allMet_17 hL.1 hL.2.1 rfl ?_
  refine z_icmp_ge 52 dX13_allMet_20 (by decide) (fun g1 => ?_) (fun g1 => ?_)
  · rw [if_neg g1] at h
    refine z_iload_n 3 dX13_allMet_52 rfl ?_
    refine z_aload_n 0 dX13_allMet_53 rfl ?_
    refine fg_13_273 (some 147) rfl dX13_allMet_54 hL.1 hL.2.1 (ma_123 hL).1 ?_
    refine z_iload_n 2 dX13_allMet_57 rfl ?_
    obtain ⟨o2, h⟩ := h
    refine z_iald (I 147 a2.toNatClampNeg) dX13_allMet_58 (ma_123 hL).2.1 (ma_123 hL).2.2 o2 rfl ?_
    refine z_icmp_ge 64 dX13_allMet_59 (by decide) (fun g3 => ?_) (fun g3 => ?_)
    · rw [if_neg g3] at h
      refine z_iload_n 1 dX13_allMet_64 rfl ?_
      refine z_bipush 10 dX13_allMet_65 (by decide) ?_
      refine z_imul dX13_allMet_67 ?_
      refine z_istore_n [1, 0, 2, 3, 4] [(0, .ref (n0 + 59)), (1, .int (a1 * 10)), (2, .int a2), (3, .int a3), (4, .int a4)] dX13_allMet_68 (by decide) rfl ?_
      refine z_iinc (j := 2) (a2 + 1) [1, 2, 0, 3, 4] [(0, .ref (n0 + 59)), (1, .int (a1 * 10)), (2, .int (a2 + 1)), (3, .int a3), (4, .int a4)] dX13_allMet_69 rfl rfl (by decide) rfl ?_
      refine z_goto 4 dX13_allMet_72 (by decide) ?_
      refine z_sub [0, 1, 2] rfl ?_
      exact h
    · rw [if_pos g3] at h
      refine z_iconst 0 dX13_allMet_62 (by decide) ?_
      exact z_zretb dX13_allMet_63 rfl (Or.inl rfl) ⟨rfl, h⟩
  · rw [if_pos g1] at h
    refine z_iload_n 3 dX13_allMet_23 rfl ?_
    refine z_aload_n 0 dX13_allMet_24 rfl ?_
    refine fg_13_282 (some 150) rfl dX13_allMet_25 hL.1 hL.2.1 (ma_127 hL).1 ?_
    refine z_iload 4 dX13_allMet_28 rfl ?_
    obtain ⟨o4, h⟩ := h
    refine z_iald (I 150 a4.toNatClampNeg) dX13_allMet_30 (ma_127 hL).2.1 (ma_127 hL).2.2 o4 rfl ?_
    refine z_aload_n 0 dX13_allMet_31 rfl ?_
    refine fg_13_276 (some 148) rfl dX13_allMet_32 hL.1 hL.2.1 (ma_125 hL).1 ?_
    refine z_iload 4 dX13_allMet_35 rfl ?_
    refine z_iald (I 148 a4.toNatClampNeg) dX13_allMet_37 (ma_125 hL).2.1 (ma_125 hL).2.2 o4 rfl ?_
    refine z_iload_n 1 dX13_allMet_38 rfl ?_
    obtain ⟨o5, h⟩ := h
    refine z_idiv dX13_allMet_39 o5 ?_
    refine z_bipush 10 dX13_allMet_40 (by decide) ?_
    refine z_irem dX13_allMet_42 (by decide) ?_
    refine z_imul dX13_allMet_43 ?_
    refine z_iadd dX13_allMet_44 ?_
    refine z_istore_n [1, 2, 3, 0, 4] [(0, .ref (n0 + 59)), (1, .int a1), (2, .int a2), (3, .int (a3 + ((I 150 a4.toNatClampNeg) * (((I 148 a4.toNatClampNeg) / a1) - ((I 148 a4.toNatClampNeg) / a1) / 10 * 10)))), (4, .int a4)] dX13_allMet_45 (by decide) rfl ?_
    refine z_iinc (j := 4) (a4 + 1) [1, 2, 3, 4, 0] [(0, .ref (n0 + 59)), (1, .int a1), (2, .int a2), (3, .int (a3 + ((I 150 a4.toNatClampNeg) * (((I 148 a4.toNatClampNeg) / a1) - ((I 148 a4.toNatClampNeg) / a1) / 10 * 10)))), (4, .int (a4 + 1))] dX13_allMet_46 rfl rfl (by decide) rfl ?_
    refine z_goto 14 dX13_allMet_49 (by decide) ?_
    exact h
theorem dX13_findSeason_0 : decode cX13_findSeason 0 = .ok (.iconst 0, 1) := by decide +kernel
theorem dX13_findSeason_1 : decode cX13_findSeason 1 = .ok (.istore_n 1, 1) := by decide +kernel
theorem dX13_findSeason_2 : decode cX13_findSeason 2 = .ok (.iload_n 1, 1) := by decide +kernel
theorem dX13_findSeason_3 : decode cX13_findSeason 3 = .ok (.bipush 6, 2) := by decide +kernel
theorem dX13_findSeason_5 : decode cX13_findSeason 5 = .ok (.if_icmp .ge 16, 3) := by decide +kernel
theorem dX13_findSeason_8 : decode cX13_findSeason 8 = .ok (.aload_n 0, 1) := by decide +kernel
theorem dX13_findSeason_9 : decode cX13_findSeason 9 = .ok (.getfield 282, 3) := by decide +kernel
theorem dX13_findSeason_12 : decode cX13_findSeason 12 = .ok (.iload_n 1, 1) := by decide +kernel
theorem dX13_findSeason_13 : decode cX13_findSeason 13 = .ok (.iconst 0, 1) := by decide +kernel
theorem dX13_findSeason_14 : decode cX13_findSeason 14 = .ok (.iastore, 1) := by decide +kernel
theorem dX13_findSeason_15 : decode cX13_findSeason 15 = .ok (.iinc 1 1, 3) := by decide +kernel
theorem dX13_findSeason_18 : decode cX13_findSeason 18 = .ok (.goto (-16), 3) := by decide +kernel
theorem dX13_findSeason_21 : decode cX13_findSeason 21 = .ok (.iconst (-1), 1) := by decide +kernel
theorem dX13_findSeason_22 : decode cX13_findSeason 22 = .ok (.istore_n 1, 1) := by decide +kernel
theorem dX13_findSeason_23 : decode cX13_findSeason 23 = .ok (.iconst 1, 1) := by decide +kernel
theorem dX13_findSeason_24 : decode cX13_findSeason 24 = .ok (.istore_n 2, 1) := by decide +kernel
theorem dX13_findSeason_25 : decode cX13_findSeason 25 = .ok (.iload_n 2, 1) := by decide +kernel
theorem dX13_findSeason_26 : decode cX13_findSeason 26 = .ok (.ifCond .eq 224, 3) := by decide +kernel
theorem dX13_findSeason_29 : decode cX13_findSeason 29 = .ok (.iconst 0, 1) := by decide +kernel
theorem dX13_findSeason_30 : decode cX13_findSeason 30 = .ok (.istore_n 3, 1) := by decide +kernel
theorem dX13_findSeason_31 : decode cX13_findSeason 31 = .ok (.iconst 0, 1) := by decide +kernel
theorem dX13_findSeason_32 : decode cX13_findSeason 32 = .ok (.istore 4, 2) := by decide +kernel
theorem dX13_findSeason_34 : decode cX13_findSeason 34 = .ok (.iload 4, 2) := by decide +kernel
theorem dX13_findSeason_36 : decode cX13_findSeason 36 = .ok (.aload_n 0, 1) := by decide +kernel
theorem dX13_findSeason_37 : decode cX13_findSeason 37 = .ok (.getfield 633, 3) := by decide +kernel
theorem dX13_findSeason_40 : decode cX13_findSeason 40 = .ok (.if_icmp .ge 27, 3) := by decide +kernel
theorem dX13_findSeason_43 : decode cX13_findSeason 43 = .ok (.iload_n 3, 1) := by decide +kernel
theorem dX13_findSeason_44 : decode cX13_findSeason 44 = .ok (.aload_n 0, 1) := by decide +kernel
theorem dX13_findSeason_45 : decode cX13_findSeason 45 = .ok (.getfield 282, 3) := by decide +kernel
theorem dX13_findSeason_48 : decode cX13_findSeason 48 = .ok (.iload 4, 2) := by decide +kernel
theorem dX13_findSeason_50 : decode cX13_findSeason 50 = .ok (.iaload, 1) := by decide +kernel
theorem dX13_findSeason_51 : decode cX13_findSeason 51 = .ok (.aload_n 0, 1) := by decide +kernel
theorem dX13_findSeason_52 : decode cX13_findSeason 52 = .ok (.getfield 279, 3) := by decide +kernel
theorem dX13_findSeason_55 : decode cX13_findSeason 55 = .ok (.iload 4, 2) := by decide +kernel
theorem dX13_findSeason_57 : decode cX13_findSeason 57 = .ok (.iaload, 1) := by decide +kernel
theorem dX13_findSeason_58 : decode cX13_findSeason 58 = .ok (.imul, 1) := by decide +kernel
theorem dX13_findSeason_59 : decode cX13_findSeason 59 = .ok (.iadd, 1) := by decide +kernel
theorem dX13_findSeason_60 : decode cX13_findSeason 60 = .ok (.istore_n 3, 1) := by decide +kernel
theorem dX13_findSeason_61 : decode cX13_findSeason 61 = .ok (.iinc 4 1, 3) := by decide +kernel
theorem dX13_findSeason_64 : decode cX13_findSeason 64 = .ok (.goto (-30), 3) := by decide +kernel
theorem dX13_findSeason_67 : decode cX13_findSeason 67 = .ok (.iload_n 1, 1) := by decide +kernel
theorem dX13_findSeason_68 : decode cX13_findSeason 68 = .ok (.ifCond .lt 8, 3) := by decide +kernel
theorem dX13_findSeason_71 : decode cX13_findSeason 71 = .ok (.iload_n 3, 1) := by decide +kernel
theorem dX13_findSeason_72 : decode cX13_findSeason 72 = .ok (.iload_n 1, 1) := by decide +kernel
theorem dX13_findSeason_73 : decode cX13_findSeason 73 = .ok (.if_icmp .ge 44, 3) := by decide +kernel
theorem dX13_findSeason_76 : decode cX13_findSeason 76 = .ok (.aload_n 0, 1) := by decide +kernel
theorem dX13_findSeason_77 : decode cX13_findSeason 77 = .ok (.invokevirtual 636, 3) := by decide +kernel
theorem dX13_findSeason_80 : decode cX13_findSeason 80 = .ok (.ifCond .eq 37, 3) := by decide +kernel
theorem dX13_findSeason_83 : decode cX13_findSeason 83 = .ok (.iload_n 3, 1) := by decide +kernel
theorem dX13_findSeason_84 : decode cX13_findSeason 84 = .ok (.istore_n 1, 1) := by decide +kernel
theorem dX13_findSeason_85 : decode cX13_findSeason 85 = .ok (.iconst 0, 1) := by decide +kernel
theorem dX13_findSeason_86 : decode cX13_findSeason 86 = .ok (.istore 4, 2) := by decide +kernel
theorem dX13_findSeason_88 : decode cX13_findSeason 88 = .ok (.iload 4, 2) := by decide +kernel
theorem dX13_findSeason_90 : decode cX13_findSeason 90 = .ok (.aload_n 0, 1) := by decide +kernel
theorem dX13_findSeason_91 : decode cX13_findSeason 91 = .ok (.getfield 633, 3) := by decide +kernel
theorem dX13_findSeason_94 : decode cX13_findSeason 94 = .ok (.if_icmp .ge 23, 3) := by decide +kernel
theorem dX13_findSeason_97 : decode cX13_findSeason 97 = .ok (.aload_n 0, 1) := by decide +kernel
theorem dX13_findSeason_98 : decode cX13_findSeason 98 = .ok (.getfield 285, 3) := by decide +kernel
theorem dX13_findSeason_101 : decode cX13_findSeason 101 = .ok (.iload 4, 2) := by decide +kernel
theorem dX13_findSeason_103 : decode cX13_findSeason 103 = .ok (.aload_n 0, 1) := by decide +kernel
theorem dX13_findSeason_104 : decode cX13_findSeason 104 = .ok (.getfield 282, 3) := by decide +kernel
theorem dX13_findSeason_107 : decode cX13_findSeason 107 = .ok (.iload 4, 2) := by decide +kernel
theorem dX13_findSeason_109 : decode cX13_findSeason 109 = .ok (.iaload, 1) := by decide +kernel
theorem dX13_findSeason_110 : decode cX13_findSeason 110 = .ok (.iastore, 1) := by decide +kernel
theorem dX13_findSeason_111 : decode cX13_findSeason 111 = .ok (.iinc 4 1, 3) := by decide +kernel
theorem dX13_findSeason_114 : decode cX13_findSeason 114 = .ok (.goto (-26), 3) := by decide +kernel
theorem dX13_findSeason_117 : decode cX13_findSeason 117 = .ok (.aload_n 0, 1) := by decide +kernel
theorem dX13_findSeason_118 : decode cX13_findSeason 118 = .ok (.getfield 633, 3) := by decide +kernel
theorem dX13_findSeason_121 : decode cX13_findSeason 121 = .ok (.iconst 1, 1) := by decide +kernel
theorem dX13_findSeason_122 : decode cX13_findSeason 122 = .ok (.isub, 1) := by decide +kernel
theorem dX13_findSeason_123 : decode cX13_findSeason 123 = .ok (.istore 4, 2) := by decide +kernel
theorem dX13_findSeason_125 : decode cX13_findSeason 125 = .ok (.aload_n 0, 1) := by decide +kernel
theorem dX13_findSeason_126 : decode cX13_findSeason 126 = .ok (.getfield 633, 3) := by decide +kernel
theorem dX13_findSeason_129 : decode cX13_findSeason 129 = .ok (.ifCond .le 16, 3) := by decide +kernel
theorem dX13_findSeason_132 : decode cX13_findSeason 132 = .ok (.iload_n 1, 1) := by decide +kernel
theorem dX13_findSeason_133 : decode cX13_findSeason 133 = .ok (.ifCond .lt 12, 3) := by decide +kernel
theorem dX13_findSeason_136 : decode cX13_findSeason 136 = .ok (.iload_n 3, 1) := by decide +kernel
theorem dX13_findSeason_137 : decode cX13_findSeason 137 = .ok (.iload_n 1, 1) := by decide +kernel
theorem dX13_findSeason_138 : decode cX13_findSeason 138 = .ok (.if_icmp .lt 7, 3) := by decide +kernel
theorem dX13_findSeason_141 : decode cX13_findSeason 141 = .ok (.iconst 1, 1) := by decide +kernel
theorem dX13_findSeason_142 : decode cX13_findSeason 142 = .ok (.goto 4, 3) := by decide +kernel
theorem dX13_findSeason_145 : decode cX13_findSeason 145 = .ok (.iconst 0, 1) := by decide +kernel
theorem dX13_findSeason_146 : decode cX13_findSeason 146 = .ok (.istore 5, 2) := by decide +kernel
theorem dX13_findSeason_148 : decode cX13_findSeason 148 = .ok (.aload_n 0, 1) := by decide +kernel
theorem dX13_findSeason_149 : decode cX13_findSeason 149 = .ok (.getfield 282, 3) := by decide +kernel
theorem dX13_findSeason_152 : decode cX13_findSeason 152 = .ok (.iload 4, 2) := by decide +kernel
theorem dX13_findSeason_154 : decode cX13_findSeason 154 = .ok (.ifCond .ge 7, 3) := by decide +kernel
theorem dX13_findSeason_157 : decode cX13_findSeason 157 = .ok (.iconst 0, 1) := by decide +kernel
theorem dX13_findSeason_158 : decode cX13_findSeason 158 = .ok (.goto 5, 3) := by decide +kernel
theorem dX13_findSeason_161 : decode cX13_findSeason 161 = .ok (.iload 4, 2) := by decide +kernel
theorem dX13_findSeason_163 : decode cX13_findSeason 163 = .ok (.iload 5, 2) := by decide +kernel
theorem dX13_findSeason_165 : decode cX13_findSeason 165 = .ok (.ifCond .eq 8, 3) := by decide +kernel
theorem dX13_findSeason_168 : decode cX13_findSeason 168 = .ok (.bipush 9, 2) := by decide +kernel
theorem dX13_findSeason_170 : decode cX13_findSeason 170 = .ok (.goto 19, 3) := by decide +kernel
theorem dX13_findSeason_173 : decode cX13_findSeason 173 = .ok (.aload_n 0, 1) := by decide +kernel
theorem dX13_findSeason_174 : decode cX13_findSeason 174 = .ok (.getfield 282, 3) := by decide +kernel
theorem dX13_findSeason_177 : decode cX13_findSeason 177 = .ok (.iload 4, 2) := by decide +kernel
theorem dX13_findSeason_179 : decode cX13_findSeason 179 = .ok (.ifCond .ge 7, 3) := by decide +kernel
theorem dX13_findSeason_182 : decode cX13_findSeason 182 = .ok (.iconst 0, 1) := by decide +kernel
theorem dX13_findSeason_183 : decode cX13_findSeason 183 = .ok (.goto 5, 3) := by decide +kernel
theorem dX13_findSeason_186 : decode cX13_findSeason 186 = .ok (.iload 4, 2) := by decide +kernel
theorem dX13_findSeason_188 : decode cX13_findSeason 188 = .ok (.iaload, 1) := by decide +kernel
theorem dX13_findSeason_189 : decode cX13_findSeason 189 = .ok (.iastore, 1) := by decide +kernel
theorem dX13_findSeason_190 : decode cX13_findSeason 190 = .ok (.iload 4, 2) := by decide +kernel
theorem dX13_findSeason_192 : decode cX13_findSeason 192 = .ok (.ifCond .lt 29, 3) := by decide +kernel
theorem dX13_findSeason_195 : decode cX13_findSeason 195 = .ok (.aload_n 0, 1) := by decide +kernel
theorem dX13_findSeason_196 : decode cX13_findSeason 196 = .ok (.getfield 282, 3) := by decide +kernel
theorem dX13_findSeason_199 : decode cX13_findSeason 199 = .ok (.iload 4, 2) := by decide +kernel
theorem dX13_findSeason_201 : decode cX13_findSeason 201 = .ok (.iaload, 1) := by decide +kernel
theorem dX13_findSeason_202 : decode cX13_findSeason 202 = .ok (.bipush 9, 2) := by decide +kernel
theorem dX13_findSeason_204 : decode cX13_findSeason 204 = .ok (.if_icmp .ne 17, 3) := by decide +kernel
theorem dX13_findSeason_207 : decode cX13_findSeason 207 = .ok (.aload_n 0, 1) := by decide +kernel
theorem dX13_findSeason_208 : decode cX13_findSeason 208 = .ok (.getfield 282, 3) := by decide +kernel
theorem dX13_findSeason_211 : decode cX13_findSeason 211 = .ok (.iload 4, 2) := by decide +kernel
theorem dX13_findSeason_213 : decode cX13_findSeason 213 = .ok (.iconst 0, 1) := by decide +kernel
theorem dX13_findSeason_214 : decode cX13_findSeason 214 = .ok (.iastore, 1) := by decide +kernel
theorem dX13_findSeason_215 : decode cX13_findSeason 215 = .ok (.iinc 4 (-1), 3) := by decide +kernel
theorem dX13_findSeason_218 : decode cX13_findSeason 218 = .ok (.goto (-28), 3) := by decide +kernel
theorem dX13_findSeason_221 : decode cX13_findSeason 221 = .ok (.iload 4, 2) := by decide +kernel
theorem dX13_findSeason_223 : decode cX13_findSeason 223 = .ok (.ifCond .lt 7, 3) := by decide +kernel
theorem dX13_findSeason_226 : decode cX13_findSeason 226 = .ok (.iconst 1, 1) := by decide +kernel
theorem dX13_findSeason_227 : decode cX13_findSeason 227 = .ok (.goto 4, 3) := by decide +kernel
theorem dX13_findSeason_230 : decode cX13_findSeason 230 = .ok (.iconst 0, 1) := by decide +kernel
theorem dX13_findSeason_231 : decode cX13_findSeason 231 = .ok (.istore_n 2, 1) := by decide +kernel
theorem dX13_findSeason_232 : decode cX13_findSeason 232 = .ok (.iload_n 2, 1) := by decide +kernel
theorem dX13_findSeason_233 : decode cX13_findSeason 233 = .ok (.ifCond .eq 14, 3) := by decide +kernel
theorem dX13_findSeason_236 : decode cX13_findSeason 236 = .ok (.aload_n 0, 1) := by decide +kernel
theorem dX13_findSeason_237 : decode cX13_findSeason 237 = .ok (.getfield 282, 3) := by decide +kernel
theorem dX13_findSeason_240 : decode cX13_findSeason 240 = .ok (.iload 4, 2) := by decide +kernel
theorem dX13_findSeason_242 : decode cX13_findSeason 242 = .ok (.dup2, 1) := by decide +kernel
theorem dX13_findSeason_243 : decode cX13_findSeason 243 = .ok (.iaload, 1) := by decide +kernel
theorem dX13_findSeason_244 : decode cX13_findSeason 244 = .ok (.iconst 1, 1) := by decide +kernel
theorem dX13_findSeason_245 : decode cX13_findSeason 245 = .ok (.iadd, 1) := by decide +kernel
theorem dX13_findSeason_246 : decode cX13_findSeason 246 = .ok (.iastore, 1) := by decide +kernel
theorem dX13_findSeason_247 : decode cX13_findSeason 247 = .ok (.goto (-222), 3) := by decide +kernel
theorem dX13_findSeason_250 : decode cX13_findSeason 250 = .ok (.iload_n 1, 1) := by decide +kernel
theorem dX13_findSeason_251 : decode cX13_findSeason 251 = .ok (.ireturn, 1) := by decide +kernel
set_option maxRecDepth 100000 in
set_option maxHeartbeats 4000000 in
theorem wp_X13_findSeason {n0 d : Nat} {K : z_K} {I : z_I} {L : z_L} {Q : z_q}  (hL : MLay K) (h : Z n0 xX13_findSeason (d + 1) 0 0 2 [(0, .ref (n0 + 59)), (1, .int 0)] [] K I L (z_q0 K Q)) : RM0 n0 xX13_findSeason (d + 1) [.ref (n0 + 59)] K I L Q := by
  refine z_entry0 (by decide) (Nat.le_of_ble_eq_true rfl) ?_
  change Z n0 xX13_findSeason (d + 1) 0 0 0 [(0, .ref (n0 + 59))] [] K I L (z_q0 K Q)
  refine z_iconst 0 dX13_findSeason_0 (by decide) ?_
  refine z_istore_n [1, 0] [(0, .ref (n0 + 59)), (1, .int 0)] dX13_findSeason_1 (by decide) rfl ?_
  exact h
set_option maxRecDepth 100000 in
set_option maxHeartbeats 4000000 in
theorem wp_X13_findSeason_2 {n0 d : Nat} {rc rs : Nat} {K : z_K} {I : z_I} {L : z_L} {Q : z_q} {a1 : Int32} (hL : MLay K) (h : (if a1 < 6 then vp_in a1 6 ∧ Z n0 xX13_findSeason (d + 1) rc rs 2 [(0, .ref (n0 + 59)), (1, .int (a1 + 1))] [] K (zI I 150 a1.toNatClampNeg 0) L (z_q0 K Q) else Z n0 xX13_findSeason (d + 1) rc rs 25 [(0, .ref (n0 + 59)), (1, .int (-1)), (2, .int 1)] [] K I L (z_q0 K Q))) : Z n0 xX13_findSeason (d + 1) rc rs 2 [(0, .ref (n0 + 59)), (1, .int a1)] [] K I L (z_q0 K Q) := by
  refine z_iload_n 1 dX13_findSeason_2 rfl ?_
  refine z_bipush 6 dX13_findSeason_3 (by decide) ?_
  refine z_icmp_ge 21 dX13_findSeason_5 (by decide) (fun g1 => ?_) (fun g1 => ?_)
  · rw [if_neg g1] at h
    refine z_iconst (-1) dX13_findSeason_21 (by decide) ?_
    refine z_istore_n [1, 0] [(0, .ref (n0 + 59)), (1, .int (-1))] dX13_findSeason_22 (by decide) rfl ?_
    refine z_iconst 1 dX13_findSeason_23 (by decide) ?_
    refine z_istore_n [1, 2, 0] [(0, .ref (n0 + 59)), (1, .int (-1)), (2, .int 1)] dX13_findSeason_24 (by decide) rfl ?_
    exact h
  · rw [if_pos g1] at h
    refine z_aload_n 0 dX13_findSeason_8 rfl ?_
    refine fg_13_282 (some 150) rfl dX13_findSeason_9 hL.1 hL.2.1 (ma_127 hL).1 ?_
    refine z_iload_n 1 dX13_findSeason_12 rfl ?_
    refine z_iconst 0 dX13_findSeason_13 (by decide) ?_
    obtain ⟨o2, h⟩ := h
    refine z_iast dX13_findSeason_14 (ma_127 hL).2.1 (ma_127 hL).2.2 o2 ?_
    refine z_iinc (j := 1) (a1 + 1) [1, 0] [(0, .ref (n0 + 59)), (1, .int (a1 + 1))] dX13_findSeason_15 rfl rfl (by decide) rfl ?_
    refine z_goto 2 dX13_findSeason_18 (by decide) ?_
    exact h
set_option maxRecDepth 100000 in
set_option maxHeartbeats 4000000 in
theorem wp_X13_findSeason_25 {n0 d : Nat} {rc rs : Nat} {K : z_K} {I : z_I} {L : z_L} {Q : z_q} {a1 : Int32} {a2 : Int32} (hL : MLay K) (h : (if a2 = 0 then Q (some (.int a1)) I L else Z n0 xX13_findSeason (d + 1) rc rs 34 [(0, .ref (n0 + 59)), (1, .int a1), (3, .int 0), (4, .int 0)] [] K I L (z_q0 K Q))) : Z n0 xX13_findSeason (d + 1) rc rs 25 [(0, .ref (n0 + 59)), (1, .int a1), (2, .int a2)] [] K I L (z_q0 K Q) := by
  refine z_iload_n 2 dX13_findSeason_25 rfl ?_
  refine z_if_eq 250 dX13_findSeason_26 (by decide) (fun g1 => ?_) (fun g1 => ?_)
  · rw [if_pos g1] at h
    refine z_iload_n 1 dX13_findSeason_250 rfl ?_
    exact z_iret dX13_findSeason_251 rfl ⟨rfl, h⟩
  · rw [if_neg g1] at h
    refine z_iconst 0 dX13_findSeason_29 (by decide) ?_
    refine z_istore_n [1, 2, 3, 0] [(0, .ref (n0 + 59)), (1, .int a1), (2, .int a2), (3, .int 0)] dX13_findSeason_30 (by decide) rfl ?_
    refine z_iconst 0 dX13_findSeason_31 (by decide) ?_
    refine z_istore [1, 2, 3, 4, 0] [(0, .ref (n0 + 59)), (1, .int a1), (2, .int a2), (3, .int 0), (4, .int 0)] dX13_findSeason_32 (by decide) rfl ?_
    refine z_sub [0, 1, 3, 4] rfl ?_
    exact h
set_option maxRecDepth 100000 in
set_option maxHeartbeats 4000000 in
theorem wp_X13_findSeason_34 {n0 d : Nat} {rc rs : Nat} {K : z_K} {I : z_I} {L : z_L} {Q : z_q} {a1 : Int32} {a3 : Int32} {a4 : Int32} (hL : MLay K) (h : (if a4 < (I 59 124) then vp_in a4 6 ∧ Z n0 xX13_findSeason (d + 1) rc rs 34 [(0, .ref (n0 + 59)), (1, .int a1), (3, .int (a3 + ((I 150 a4.toNatClampNeg) * (I 149 a4.toNatClampNeg)))), (4, .int (a4 + 1))] [] K I L (z_q0 K Q) else (if a1 < 0 then RM0 n0 xX13_allMet d [.ref (n0 + 59)] K I L (fun vv I3 L4 => ∃ r5 : Int32, vv = some (.int r5) ∧ (if r5 = 0 then (((if 0 < ((I3 59 124) : Int32) then if a1 < 0 then 0 else if a3 < a1 then 0 else 1 else 0) : Int32) = 0 → ¬ ((((I3 59 124) - 1) : Int32) < 0) → vp_in ((I3 59 124) - 1) 6) ∧ vp_in (if (((I3 59 124) - 1) : Int32) < 0 then 0 else ((I3 59 124) - 1)) 6 ∧ Z n0 xX13_findSeason (d + 1) rc rs 190 [(0, .ref (n0 + 59)), (1, .int a1), (4, .int ((I3 59 124) - 1))] [] K (zI I3 150 ((if (((I3 59 124) - 1) : Int32) < 0 then 0 else ((I3 59 124) - 1)).toNatClampNeg) (if ((if 0 < ((I3 59 124) : Int32) then if a1 < 0 then 0 else if a3 < a1 then 0 else 1 else 0) : Int32) = 0 then if (((I3 59 124) - 1) : Int32) < 0 then (I3 150 0) else (I3 150 (((I3 59 124) - 1).toNatClampNeg)) else 9)) L4 (z_q0 K Q) else Z n0 xX13_findSeason (d + 1) rc rs 88 [(0, .ref (n0 + 59)), (1, .int a3), (3, .int a3), (4, .int 0)] [] K I3 L4 (z_q0 K Q))) else (if a3 < a1 then RM0 n0 xX13_allMet d [.ref (n0 + 59)] K I L (fun vv I30 L31 => ∃ r32 : Int32, vv = some (.int r32) ∧ (if r32 = 0 then (((if 0 < ((I30 59 124) : Int32) then if a1 < 0 then 0 else if a3 < a1 then 0 else 1 else 0) : Int32) = 0 → ¬ ((((I30 59 124) - 1) : Int32) < 0) → vp_in ((I30 59 124) - 1) 6) ∧ vp_in (if (((I30 59 124) - 1) : Int32) < 0 then 0 else ((I30 59 124) - 1)) 6 ∧ Z n0 xX13_findSeason (d + 1) rc rs 190 [(0, .ref (n0 + 59)), (1, .int a1), (4, .int ((I30 59 124) - 1))] [] K (zI I30 150 ((if (((I30 59 124) - 1) : Int32) < 0 then 0 else ((I30 59 124) - 1)).toNatClampNeg) (if ((if 0 < ((I30 59 124) : Int32) then if a1 < 0 then 0 else if a3 < a1 then 0 else 1 else 0) : Int32) = 0 then if (((I30 59 124) - 1) : Int32) < 0 then (I30 150 0) else (I30 150 (((I30 59 124) - 1).toNatClampNeg)) else 9)) L31 (z_q0 K Q) else Z n0 xX13_findSeason (d + 1) rc rs 88 [(0, .ref (n0 + 59)), (1, .int a3), (3, .int a3), (4, .int 0)] [] K I30 L31 (z_q0 K Q))) else (((if 0 < ((I 59 124) : Int32) then if a1 < 0 then 0 else if a3 < a1 then 0 else 1 else 0) : Int32) = 0 → ¬ ((((I 59 124) - 1) : Int32) < 0) → vp_in ((I 59 124) - 1) 6) ∧ vp_in (if (((I 59 124) - 1) : Int32) < 0 then 0 else ((I 59 124) - 1)) 6 ∧ Z n0 xX13_findSeason (d + 1) rc rs 190 [(0, .ref (n0 + 59)), (1, .int a1), (4, .int ((I 59 124) - 1))] [] K (zI I 150 ((if (((I 59 124) - 1) : Int32) < 0 then 0 else ((I 59 124) - 1)).toNatClampNeg) (if ((if 0 < ((I 59 124) : Int32) then if a1 < 0 then 0 else if a3 < a1 then 0 else 1 else 0) : Int32) = 0 then if (((I 59 124) - 1) : Int32) < 0 then (I 150 0) else (I 150 (((I 59 124) - 1).toNatClampNeg)) else 9)) L (z_q0 K Q))))) : Z n0 xX13_findSeason (d + 1) rc rs 34 [(0, .ref (n0 + 59)), (1, .int a1), (3, .int a3), (4, .int a4)] [] K I L (z_q0 K Q) := by
  refine z_iload 3 dX13_findSeason_34 rfl ?_
  refine z_aload_n 0 dX13_findSeason_36 rfl ?_
  refine fg_13_633 (I 59 124) rfl dX13_findSeason_37 hL.1 hL.2.1 rfl ?_
  refine z_icmp_ge 67 dX13_findSeason_40 (by decide) (fun g1 => ?_) (fun g1 => ?_)
  · rw [if_neg g1] at h
    refine z_iload_n 1 dX13_findSeason_67 rfl ?_
    refine z_if_lt 76 dX13_findSeason_68 (by decide) (fun g2 => ?_) (fun g2 => ?_)
    · rw [if_pos g2] at h
      refine z_aload_n 0 dX13_findSeason_76 rfl ?_
      refine z_callV0 (As := []) (st := []) dX13_findSeason_77 hy_X13_allMet hL.1 hL.2.1 (by decide) wg_2227 wg_2229 wg_104 (Nat.le_refl _) (Nat.le_of_ble_eq_true rfl) (RM0.mono h (fun vv I3 L4 h => ?_))
      obtain ⟨r5, rfl, h⟩ := h
      change Z n0 xX13_findSeason (d + 1) rc rs 80 [(0, .ref (n0 + 59)), (1, .int a1), (3, .int a3), (4, .int a4)] [.int r5] K I3 L4 (z_q0 K Q)
      refine z_if_eq 117 dX13_findSeason_80 (by decide) (fun g6 => ?_) (fun g6 => ?_)
      · rw [if_pos g6] at h
        refine z_aload_n 0 dX13_findSeason_117 rfl ?_
        refine fg_13_633 (I3 59 124) rfl dX13_findSeason_118 hL.1 hL.2.1 rfl ?_
        refine z_iconst 1 dX13_findSeason_121 (by decide) ?_
        refine z_isub dX13_findSeason_122 ?_
        refine z_istore [1, 2, 3, 0] [(0, .ref (n0 + 59)), (1, .int a1), (3, .int a3), (4, .int ((I3 59 124) - 1))] dX13_findSeason_123 (by decide) rfl ?_
        refine z_aload_n 0 dX13_findSeason_125 rfl ?_
        refine fg_13_633 (I3 59 124) rfl dX13_findSeason_126 hL.1 hL.2.1 rfl ?_
        have key10 : Z n0 xX13_findSeason (d + 1) rc rs 146 [(0, .ref (n0 + 59)), (1, .int a1), (4, .int ((I3 59 124) - 1))] [.int (if 0 < ((I3 59 124) : Int32) then if a1 < 0 then 0 else if a3 < a1 then 0 else 1 else 0)] K I3 L4 (z_q0 K Q) := by
          refine z_istore [1, 2, 3, 0] [(0, .ref (n0 + 59)), (1, .int a1), (4, .int ((I3 59 124) - 1)), (5, .int (if 0 < ((I3 59 124) : Int32) then if a1 < 0 then 0 else if a3 < a1 then 0 else 1 else 0))] dX13_findSeason_146 (by decide) rfl ?_
          refine z_aload_n 0 dX13_findSeason_148 rfl ?_
          refine fg_13_282 (some 150) rfl dX13_findSeason_149 hL.1 hL.2.1 (ma_127 hL).1 ?_
          refine z_iload 2 dX13_findSeason_152 rfl ?_
          have key12 : Z n0 xX13_findSeason (d + 1) rc rs 163 [(0, .ref (n0 + 59)), (1, .int a1), (4, .int ((I3 59 124) - 1)), (5, .int (if 0 < ((I3 59 124) : Int32) then if a1 < 0 then 0 else if a3 < a1 then 0 else 1 else 0))] [.int (if (((I3 59 124) - 1) : Int32) < 0 then 0 else ((I3 59 124) - 1)), .ref (n0 + 150)] K I3 L4 (z_q0 K Q) := by
            refine z_iload 3 dX13_findSeason_163 rfl ?_
            obtain ⟨o15, h⟩ := h
            have key16 : Z n0 xX13_findSeason (d + 1) rc rs 189 [(0, .ref (n0 + 59)), (1, .int a1), (4, .int ((I3 59 124) - 1))] [.int (if ((if 0 < ((I3 59 124) : Int32) then if a1 < 0 then 0 else if a3 < a1 then 0 else 1 else 0) : Int32) = 0 then if (((I3 59 124) - 1) : Int32) < 0 then (I3 150 0) else (I3 150 (((I3 59 124) - 1).toNatClampNeg)) else 9), .int (if (((I3 59 124) - 1) : Int32) < 0 then 0 else ((I3 59 124) - 1)), .ref (n0 + 150)] K I3 L4 (z_q0 K Q) := by
              obtain ⟨o17, h⟩ := h
              refine z_iast dX13_findSeason_189 (ma_127 hL).2.1 (ma_127 hL).2.2 o17 ?_
              exact h
            refine z_if_eq 173 dX13_findSeason_165 (by decide) (fun g13 => ?_) (fun g13 => ?_)
            · refine z_aload_n 0 dX13_findSeason_173 rfl ?_
              refine fg_13_282 (some 150) rfl dX13_findSeason_174 hL.1 hL.2.1 (ma_127 hL).1 ?_
              refine z_iload 2 dX13_findSeason_177 rfl ?_
              refine z_if_ge 186 dX13_findSeason_179 (by decide) (fun g14 => ?_) (fun g14 => ?_)
              · refine z_iload 2 dX13_findSeason_186 rfl ?_
                refine z_iald (I3 150 (((I3 59 124) - 1).toNatClampNeg)) dX13_findSeason_188 (ma_127 hL).2.1 (ma_127 hL).2.2 (o15 g13 g14) rfl ?_
                have ee : ((if ((if 0 < ((I3 59 124) : Int32) then if a1 < 0 then 0 else if a3 < a1 then 0 else 1 else 0) : Int32) = 0 then if (((I3 59 124) - 1) : Int32) < 0 then (I3 150 0) else (I3 150 (((I3 59 124) - 1).toNatClampNeg)) else 9) : Int32) = (I3 150 (((I3 59 124) - 1).toNatClampNeg)) := by rw [if_pos g13, if_neg g14]
                rw [ee] at key16
                clear ee
                refine z_sub [0, 1, 2] rfl ?_
                exact key16
              · refine z_iconst 0 dX13_findSeason_182 (by decide) ?_
                refine z_goto 188 dX13_findSeason_183 (by decide) ?_
                refine z_iald (I3 150 0) dX13_findSeason_188 (ma_127 hL).2.1 (ma_127 hL).2.2 (by unfold vp_in; decide) rfl ?_
                have ee : ((if ((if 0 < ((I3 59 124) : Int32) then if a1 < 0 then 0 else if a3 < a1 then 0 else 1 else 0) : Int32) = 0 then if (((I3 59 124) - 1) : Int32) < 0 then (I3 150 0) else (I3 150 (((I3 59 124) - 1).toNatClampNeg)) else 9) : Int32) = (I3 150 0) := by rw [if_pos g13, if_pos g14]
                rw [ee] at key16
                clear ee
                refine z_sub [0, 1, 2] rfl ?_
                exact key16
            · refine z_bipush 9 dX13_findSeason_168 (by decide) ?_
              refine z_goto 189 dX13_findSeason_170 (by decide) ?_
              have ee : ((if ((if 0 < ((I3 59 124) : Int32) then if a1 < 0 then 0 else if a3 < a1 then 0 else 1 else 0) : Int32) = 0 then if (((I3 59 124) - 1) : Int32) < 0 then (I3 150 0) else (I3 150 (((I3 59 124) - 1).toNatClampNeg)) else 9) : Int32) = 9 := by rw [if_neg g13]
              rw [ee] at key16
              clear ee
              refine z_sub [0, 1, 2] rfl ?_
              exact key16
          refine z_if_ge 161 dX13_findSeason_154 (by decide) (fun g11 => ?_) (fun g11 => ?_)
          · refine z_iload 2 dX13_findSeason_161 rfl ?_
            have ee : ((if (((I3 59 124) - 1) : Int32) < 0 then 0 else ((I3 59 124) - 1)) : Int32) = ((I3 59 124) - 1) := by rw [if_neg g11]
            rw [ee] at key12
            clear ee
            exact key12
          · refine z_iconst 0 dX13_findSeason_157 (by decide) ?_
            refine z_goto 163 dX13_findSeason_158 (by decide) ?_
            have ee : ((if (((I3 59 124) - 1) : Int32) < 0 then 0 else ((I3 59 124) - 1)) : Int32) = 0 := by rw [if_pos g11]
            rw [ee] at key12
            clear ee
            exact key12
        refine z_if_le 145 dX13_findSeason_129 (by decide) (fun g7 => ?_) (fun g7 => ?_)
        · refine z_iconst 0 dX13_findSeason_145 (by decide) ?_
          have ee : ((if 0 < ((I3 59 124) : Int32) then if a1 < 0 then 0 else if a3 < a1 then 0 else 1 else 0) : Int32) = 0 := by rw [if_neg g7]
          rw [ee] at key10
          clear ee
          refine z_sub [0, 1, 3] rfl ?_
          exact key10
        · refine z_iload_n 1 dX13_findSeason_132 rfl ?_
          refine z_if_lt 145 dX13_findSeason_133 (by decide) (fun g8 => ?_) (fun g8 => ?_)
          · refine z_iconst 0 dX13_findSeason_145 (by decide) ?_
            have ee : ((if 0 < ((I3 59 124) : Int32) then if a1 < 0 then 0 else if a3 < a1 then 0 else 1 else 0) : Int32) = 0 := by rw [if_pos g7, if_pos g8]
            rw [ee] at key10
            clear ee
            refine z_sub [0, 1, 3] rfl ?_
            exact key10
          · refine z_iload_n 2 dX13_findSeason_136 rfl ?_
            refine z_iload_n 1 dX13_findSeason_137 rfl ?_
            refine z_icmp_lt 145 dX13_findSeason_138 (by decide) (fun g9 => ?_) (fun g9 => ?_)
            · refine z_iconst 0 dX13_findSeason_145 (by decide) ?_
              have ee : ((if 0 < ((I3 59 124) : Int32) then if a1 < 0 then 0 else if a3 < a1 then 0 else 1 else 0) : Int32) = 0 := by rw [if_pos g7, if_neg g8, if_pos g9]
              rw [ee] at key10
              clear ee
              refine z_sub [0, 1, 3] rfl ?_
              exact key10
            · refine z_iconst 1 dX13_findSeason_141 (by decide) ?_
              refine z_goto 146 dX13_findSeason_142 (by decide) ?_
              have ee : ((if 0 < ((I3 59 124) : Int32) then if a1 < 0 then 0 else if a3 < a1 then 0 else 1 else 0) : Int32) = 1 := by rw [if_pos g7, if_neg g8, if_neg g9]
              rw [ee] at key10
              clear ee
              refine z_sub [0, 1, 3] rfl ?_
              exact key10
      · rw [if_neg g6] at h
        refine z_iload_n 2 dX13_findSeason_83 rfl ?_
        refine z_istore_n [1, 0, 2, 3] [(0, .ref (n0 + 59)), (1, .int a3), (3, .int a3), (4, .int a4)] dX13_findSeason_84 (by decide) rfl ?_
        refine z_iconst 0 dX13_findSeason_85 (by decide) ?_
        refine z_istore [1, 2, 3, 0] [(0, .ref (n0 + 59)), (1, .int a3), (3, .int a3), (4, .int 0)] dX13_findSeason_86 (by decide) rfl ?_
        exact h
    · rw [if_neg g2] at h
      refine z_iload_n 2 dX13_findSeason_71 rfl ?_
      refine z_iload_n 1 dX13_findSeason_72 rfl ?_
      refine z_icmp_ge 117 dX13_findSeason_73 (by decide) (fun g18 => ?_) (fun g18 => ?_)
      · rw [if_neg g18] at h
        refine z_aload_n 0 dX13_findSeason_117 rfl ?_
        refine fg_13_633 (I 59 124) rfl dX13_findSeason_118 hL.1 hL.2.1 rfl ?_
        refine z_iconst 1 dX13_findSeason_121 (by decide) ?_
        refine z_isub dX13_findSeason_122 ?_
        refine z_istore [1, 2, 3, 0] [(0, .ref (n0 + 59)), (1, .int a1), (3, .int a3), (4, .int ((I 59 124) - 1))] dX13_findSeason_123 (by decide) rfl ?_
        refine z_aload_n 0 dX13_findSeason_125 rfl ?_
        refine fg_13_633 (I 59 124) rfl dX13_findSeason_126 hL.1 hL.2.1 rfl ?_
        have key22 : Z n0 xX13_findSeason (d + 1) rc rs 146 [(0, .ref (n0 + 59)), (1, .int a1), (4, .int ((I 59 124) - 1))] [.int (if 0 < ((I 59 124) : Int32) then if a1 < 0 then 0 else if a3 < a1 then 0 else 1 else 0)] K I L (z_q0 K Q) := by
          refine z_istore [1, 2, 3, 0] [(0, .ref (n0 + 59)), (1, .int a1), (4, .int ((I 59 124) - 1)), (5, .int (if 0 < ((I 59 124) : Int32) then if a1 < 0 then 0 else if a3 < a1 then 0 else 1 else 0))] dX13_findSeason_146 (by decide) rfl ?_
          refine z_aload_n 0 dX13_findSeason_148 rfl ?_
          refine fg_13_282 (some 150) rfl dX13_findSeason_149 hL.1 hL.2.1 (ma_127 hL).1 ?_
          refine z_iload 2 dX13_findSeason_152 rfl ?_
          have key24 : Z n0 xX13_findSeason (d + 1) rc rs 163 [(0, .ref (n0 + 59)), (1, .int a1), (4, .int ((I 59 124) - 1)), (5, .int (if 0 < ((I 59 124) : Int32) then if a1 < 0 then 0 else if a3 < a1 then 0 else 1 else 0))] [.int (if (((I 59 124) - 1) : Int32) < 0 then 0 else ((I 59 124) - 1)), .ref (n0 + 150)] K I L (z_q0 K Q) := by
            refine z_iload 3 dX13_findSeason_163 rfl ?_
            obtain ⟨o27, h⟩ := h
            have key28 : Z n0 xX13_findSeason (d + 1) rc rs 189 [(0, .ref (n0 + 59)), (1, .int a1), (4, .int ((I 59 124) - 1))] [.int (if ((if 0 < ((I 59 124) : Int32) then if a1 < 0 then 0 else if a3 < a1 then 0 else 1 else 0) : Int32) = 0 then if (((I 59 124) - 1) : Int32) < 0 then (I 150 0) else (I 150 (((I 59 124) - 1).toNatClampNeg)) else 9), .int (if (((I 59 124) - 1) : Int32) < 0 then 0 else ((I 59 124) - 1)), .ref (n0 + 150)] K I L (z_q0 K Q) := by
              obtain ⟨o29, h⟩ := h
              refine z_iast dX13_findSeason_189 (ma_127 hL).2.1 (ma_127 hL).2.2 o29 ?_
              exact h
            refine z_if_eq 173 dX13_findSeason_165 (by decide) (fun g25 => ?_) (fun g25 => ?_)
            · refine z_aload_n 0 dX13_findSeason_173 rfl ?_
              refine fg_13_282 (some 150) rfl dX13_findSeason_174 hL.1 hL.2.1 (ma_127 hL).1 ?_
              refine z_iload 2 dX13_findSeason_177 rfl ?_
              refine z_if_ge 186 dX13_findSeason_179 (by decide) (fun g26 => ?_) (fun g26 => ?_)
              · refine z_iload 2 dX13_findSeason_186 rfl ?_
                refine z_iald (I 150 (((I 59 124) - 1).toNatClampNeg)) dX13_findSeason_188 (ma_127 hL).2.1 (ma_127 hL).2.2 (o27 g25 g26) rfl ?_
                have ee : ((if ((if 0 < ((I 59 124) : Int32) then if a1 < 0 then 0 else if a3 < a1 then 0 else 1 else 0) : Int32) = 0 then if (((I 59 124) - 1) : Int32) < 0 then (I 150 0) else (I 150 (((I 59 124) - 1).toNatClampNeg)) else 9) : Int32) = (I 150 (((I 59 124) - 1).toNatClampNeg)) := by rw [if_pos g25, if_neg g26]
                rw [ee] at key28
                clear ee
                refine z_sub [0, 1, 2] rfl ?_
                exact key28
              · refine z_iconst 0 dX13_findSeason_182 (by decide) ?_
                refine z_goto 188 dX13_findSeason_183 (by decide) ?_
                refine z_iald (I 150 0) dX13_findSeason_188 (ma_127 hL).2.1 (ma_127 hL).2.2 (by unfold vp_in; decide) rfl ?_
                have ee : ((if ((if 0 < ((I 59 124) : Int32) then if a1 < 0 then 0 else if a3 < a1 then 0 else 1 else 0) : Int32) = 0 then if (((I 59 124) - 1) : Int32) < 0 then (I 150 0) else (I 150 (((I 59 124) - 1).toNatClampNeg)) else 9) : Int32) = (I 150 0) := by rw [if_pos g25, if_pos g26]
                rw [ee] at key28
                clear ee
                refine z_sub [0, 1, 2] rfl ?_
                exact key28
            · refine z_bipush 9 dX13_findSeason_168 (by decide) ?_
              refine z_goto 189 dX13_findSeason_170 (by decide) ?_
              have ee : ((if ((if 0 < ((I 59 124) : Int32) then if a1 < 0 then 0 else if a3 < a1 then 0 else 1 else 0) : Int32) = 0 then if (((I 59 124) - 1) : Int32) < 0 then (I 150 0) else (I 150 (((I 59 124) - 1).toNatClampNeg)) else 9) : Int32) = 9 := by rw [if_neg g25]
              rw [ee] at key28
              clear ee
              refine z_sub [0, 1, 2] rfl ?_
              exact key28
          refine z_if_ge 161 dX13_findSeason_154 (by decide) (fun g23 => ?_) (fun g23 => ?_)
          · refine z_iload 2 dX13_findSeason_161 rfl ?_
            have ee : ((if (((I 59 124) - 1) : Int32) < 0 then 0 else ((I 59 124) - 1)) : Int32) = ((I 59 124) - 1) := by rw [if_neg g23]
            rw [ee] at key24
            clear ee
            exact key24
          · refine z_iconst 0 dX13_findSeason_157 (by decide) ?_
            refine z_goto 163 dX13_findSeason_158 (by decide) ?_
            have ee : ((if (((I 59 124) - 1) : Int32) < 0 then 0 else ((I 59 124) - 1)) : Int32) = 0 := by rw [if_pos g23]
            rw [ee] at key24
            clear ee
            exact key24
        refine z_if_le 145 dX13_findSeason_129 (by decide) (fun g19 => ?_) (fun g19 => ?_)
        · refine z_iconst 0 dX13_findSeason_145 (by decide) ?_
          have ee : ((if 0 < ((I 59 124) : Int32) then if a1 < 0 then 0 else if a3 < a1 then 0 else 1 else 0) : Int32) = 0 := by rw [if_neg g19]
          rw [ee] at key22
          clear ee
          refine z_sub [0, 1, 3] rfl ?_
          exact key22
        · refine z_iload_n 1 dX13_findSeason_132 rfl ?_
          refine z_if_lt 145 dX13_findSeason_133 (by decide) (fun g20 => ?_) (fun g20 => ?_)
          · refine z_iconst 0 dX13_findSeason_145 (by decide) ?_
            have ee : ((if 0 < ((I 59 124) : Int32) then if a1 < 0 then 0 else if a3 < a1 then 0 else 1 else 0) : Int32) = 0 := by rw [if_pos g19, if_pos g20]
            rw [ee] at key22
            clear ee
            refine z_sub [0, 1, 3] rfl ?_
            exact key22
          · refine z_iload_n 2 dX13_findSeason_136 rfl ?_
            refine z_iload_n 1 dX13_findSeason_137 rfl ?_
            refine z_icmp_lt 145 dX13_findSeason_138 (by decide) (fun g21 => ?_) (fun g21 => ?_)
            · refine z_iconst 0 dX13_findSeason_145 (by decide) ?_
              have ee : ((if 0 < ((I 59 124) : Int32) then if a1 < 0 then 0 else if a3 < a1 then 0 else 1 else 0) : Int32) = 0 := by rw [if_pos g19, if_neg g20, if_pos g21]
              rw [ee] at key22
              clear ee
              refine z_sub [0, 1, 3] rfl ?_
              exact key22
            · refine z_iconst 1 dX13_findSeason_141 (by decide) ?_
              refine z_goto 146 dX13_findSeason_142 (by decide) ?_
              have ee : ((if 0 < ((I 59 124) : Int32) then if a1 < 0 then 0 else if a3 < a1 then 0 else 1 else 0) : Int32) = 1 := by rw [if_pos g19, if_neg g20, if_neg g21]
              rw [ee] at key22
              clear ee
              refine z_sub [0, 1, 3] rfl ?_
              exact key22
      · rw [if_pos g18] at h
        refine z_aload_n 0 dX13_findSeason_76 rfl ?_
        refine z_callV0 (As := []) (st := []) dX13_findSeason_77 hy_X13_allMet hL.1 hL.2.1 (by decide) wg_2227 wg_2229 wg_104 (Nat.le_refl _) (Nat.le_of_ble_eq_true rfl) (RM0.mono h (fun vv I30 L31 h => ?_))
        obtain ⟨r32, rfl, h⟩ := h
        change Z n0 xX13_findSeason (d + 1) rc rs 80 [(0, .ref (n0 + 59)), (1, .int a1), (3, .int a3), (4, .int a4)] [.int r32] K I30 L31 (z_q0 K Q)
        refine z_if_eq 117 dX13_findSeason_80 (by decide) (fun g33 => ?_) (fun g33 => ?_)
        · rw [if_pos g33] at h
          refine z_aload_n 0 dX13_findSeason_117 rfl ?_
          refine fg_13_633 (I30 59 124) rfl dX13_findSeason_118 hL.1 hL.2.1 rfl ?_
          refine z_iconst 1 dX13_findSeason_121 (by decide) ?_
          refine z_isub dX13_findSeason_122 ?_
          refine z_istore [1, 2, 3, 0] [(0, .ref (n0 + 59)), (1, .int a1), (3, .int a3), (4, .int ((I30 59 124) - 1))] dX13_findSeason_123 (by decide) rfl ?_
          refine z_aload_n 0 dX13_findSeason_125 rfl ?_
          refine fg_13_633 (I30 59 124) rfl dX13_findSeason_126 hL.1 hL.2.1 rfl ?_
          have key37 : Z n0 xX13_findSeason (d + 1) rc rs 146 [(0, .ref (n0 + 59)), (1, .int a1), (4, .int ((I30 59 124) - 1))] [.int (if 0 < ((I30 59 124) : Int32) then if a1 < 0 then 0 else if a3 < a1 then 0 else 1 else 0)] K I30 L31 (z_q0 K Q) := by
            refine z_istore [1, 2, 3, 0] [(0, .ref (n0 + 59)), (1, .int a1), (4, .int ((I30 59 124) - 1)), (5, .int (if 0 < ((I30 59 124) : Int32) then if a1 < 0 then 0 else if a3 < a1 then 0 else 1 else 0))] dX13_findSeason_146 (by decide) rfl ?_
            refine z_aload_n 0 dX13_findSeason_148 rfl ?_
            refine fg_13_282 (some 150) rfl dX13_findSeason_149 hL.1 hL.2.1 (ma_127 hL).1 ?_
            refine z_iload 2 dX13_findSeason_152 rfl ?_
            have key39 : Z n0 xX13_findSeason (d + 1) rc rs 163 [(0, .ref (n0 + 59)), (1, .int a1), (4, .int ((I30 59 124) - 1)), (5, .int (if 0 < ((I30 59 124) : Int32) then if a1 < 0 then 0 else if a3 < a1 then 0 else 1 else 0))] [.int (if (((I30 59 124) - 1) : Int32) < 0 then 0 else ((I30 59 124) - 1)), .ref (n0 + 150)] K I30 L31 (z_q0 K Q) := by
              refine z_iload 3 dX13_findSeason_163 rfl ?_
              obtain ⟨o42, h⟩ := h
              have key43 : Z n0 xX13_findSeason (d + 1) rc rs 189 [(0, .ref (n0 + 59)), (1, .int a1), (4, .int ((I30 59 124) - 1))] [.int (if ((if 0 < ((I30 59 124) : Int32) then if a1 < 0 then 0 else if a3 < a1 then 0 else 1 else 0) : Int32) = 0 then if (((I30 59 124) - 1) : Int32) < 0 then (I30 150 0) else (I30 150 (((I30 59 124) - 1).toNatClampNeg)) else 9), .int (if (((I30 59 124) - 1) : Int32) < 0 then 0 else ((I30 59 124) - 1)), .ref (n0 + 150)] K I30 L31 (z_q0 K Q) := by
                obtain ⟨o44, h⟩ := h
                refine z_iast dX13_findSeason_189 (ma_127 hL).2.1 (ma_127 hL).2.2 o44 ?_
                exact h
              refine z_if_eq 173 dX13_findSeason_165 (by decide) (fun g40 => ?_) (fun g40 => ?_)
              · refine z_aload_n 0 dX13_findSeason_173 rfl ?_
                refine fg_13_282 (some 150) rfl dX13_findSeason_174 hL.1 hL.2.1 (ma_127 hL).1 ?_
                refine z_iload 2 dX13_findSeason_177 rfl ?_
                refine z_if_ge 186 dX13_findSeason_179 (by decide) (fun g41 => ?_) (fun g41 => ?_)
                · refine z_iload 2 dX13_findSeason_186 rfl ?_
                  refine z_iald (I30 150 (((I30 59 124) - 1).toNatClampNeg)) dX13_findSeason_188 (ma_127 hL).2.1 (ma_127 hL).2.2 (o42 g40 g41) rfl ?_
                  have ee : ((if ((if 0 < ((I30 59 124) : Int32) then if a1 < 0 then 0 else if a3 < a1 then 0 else 1 else 0) : Int32) = 0 then if (((I30 59 124) - 1) : Int32) < 0 then (I30 150 0) else (I30 150 (((I30 59 124) - 1).toNatClampNeg)) else 9) : Int32) = (I30 150 (((I30 59 124) - 1).toNatClampNeg)) := by rw [if_pos g40, if_neg g41]
                  rw [ee] at key43
                  clear ee
                  refine z_sub [0, 1, 2] rfl ?_
                  exact key43
                · refine z_iconst 0 dX13_findSeason_182 (by decide) ?_
                  refine z_goto 188 dX13_findSeason_183 (by decide) ?_
                  refine z_iald (I30 150 0) dX13_findSeason_188 (ma_127 hL).2.1 (ma_127 hL).2.2 (by unfold vp_in; decide) rfl ?_
                  have ee : ((if ((if 0 < ((I30 59 124) : Int32) then if a1 < 0 then 0 else if a3 < a1 then 0 else 1 else 0) : Int32) = 0 then if (((I30 59 124) - 1) : Int32) < 0 then (I30 150 0) else (I30 150 (((I30 59 124) - 1).toNatClampNeg)) else 9) : Int32) = (I30 150 0) := by rw [if_pos g40, if_pos g41]
                  rw [ee] at key43
                  clear ee
                  refine z_sub [0, 1, 2] rfl ?_
                  exact key43
              · refine z_bipush 9 dX13_findSeason_168 (by decide) ?_
                refine z_goto 189 dX13_findSeason_170 (by decide) ?_
                have ee : ((if ((if 0 < ((I30 59 124) : Int32) then if a1 < 0 then 0 else if a3 < a1 then 0 else 1 else 0) : Int32) = 0 then if (((I30 59 124) - 1) : Int32) < 0 then (I30 150 0) else (I30 150 (((I30 59 124) - 1).toNatClampNeg)) else 9) : Int32) = 9 := by rw [if_neg g40]
                rw [ee] at key43
                clear ee
                refine z_sub [0, 1, 2] rfl ?_
                exact key43
            refine z_if_ge 161 dX13_findSeason_154 (by decide) (fun g38 => ?_) (fun g38 => ?_)
            · refine z_iload 2 dX13_findSeason_161 rfl ?_
              have ee : ((if (((I30 59 124) - 1) : Int32) < 0 then 0 else ((I30 59 124) - 1)) : Int32) = ((I30 59 124) - 1) := by rw [if_neg g38]
              rw [ee] at key39
              clear ee
              exact key39
            · refine z_iconst 0 dX13_findSeason_157 (by decide) ?_
              refine z_goto 163 dX13_findSeason_158 (by decide) ?_
              have ee : ((if (((I30 59 124) - 1) : Int32) < 0 then 0 else ((I30 59 124) - 1)) : Int32) = 0 := by rw [if_pos g38]
              rw [ee] at key39
              clear ee
              exact key39
          refine z_if_le 145 dX13_findSeason_129 (by decide) (fun g34 => ?_) (fun g34 => ?_)
          · refine z_iconst 0 dX13_findSeason_145 (by decide) ?_
            have ee : ((if 0 < ((I30 59 124) : Int32) then if a1 < 0 then 0 else if a3 < a1 then 0 else 1 else 0) : Int32) = 0 := by rw [if_neg g34]
            rw [ee] at key37
            clear ee
            refine z_sub [0, 1, 3] rfl ?_
            exact key37
          · refine z_iload_n 1 dX13_findSeason_132 rfl ?_
            refine z_if_lt 145 dX13_findSeason_133 (by decide) (fun g35 => ?_) (fun g35 => ?_)
            · refine z_iconst 0 dX13_findSeason_145 (by decide) ?_
              have ee : ((if 0 < ((I30 59 124) : Int32) then if a1 < 0 then 0 else if a3 < a1 then 0 else 1 else 0) : Int32) = 0 := by rw [if_pos g34, if_pos g35]
              rw [ee] at key37
              clear ee
              refine z_sub [0, 1, 3] rfl ?_
              exact key37
            · refine z_iload_n 2 dX13_findSeason_136 rfl ?_
              refine z_iload_n 1 dX13_findSeason_137 rfl ?_
              refine z_icmp_lt 145 dX13_findSeason_138 (by decide) (fun g36 => ?_) (fun g36 => ?_)
              · refine z_iconst 0 dX13_findSeason_145 (by decide) ?_
                have ee : ((if 0 < ((I30 59 124) : Int32) then if a1 < 0 then 0 else if a3 < a1 then 0 else 1 else 0) : Int32) = 0 := by rw [if_pos g34, if_neg g35, if_pos g36]
                rw [ee] at key37
                clear ee
                refine z_sub [0, 1, 3] rfl ?_
                exact key37
              · refine z_iconst 1 dX13_findSeason_141 (by decide) ?_
                refine z_goto 146 dX13_findSeason_142 (by decide) ?_
                have ee : ((if 0 < ((I30 59 124) : Int32) then if a1 < 0 then 0 else if a3 < a1 then 0 else 1 else 0) : Int32) = 1 := by rw [if_pos g34, if_neg g35, if_neg g36]
                rw [ee] at key37
                clear ee
                refine z_sub [0, 1, 3] rfl ?_
                exact key37
        · rw [if_neg g33] at h
          refine z_iload_n 2 dX13_findSeason_83 rfl ?_
          refine z_istore_n [1, 0, 2, 3] [(0, .ref (n0 + 59)), (1, .int a3), (3, .int a3), (4, .int a4)] dX13_findSeason_84 (by decide) rfl ?_
          refine z_iconst 0 dX13_findSeason_85 (by decide) ?_
          refine z_istore [1, 2, 3, 0] [(0, .ref (n0 + 59)), (1, .int a3), (3, .int a3), (4, .int 0)] dX13_findSeason_86 (by decide) rfl ?_
          exact h
  · rw [if_pos g1] at h
    refine z_iload_n 2 dX13_findSeason_43 rfl ?_
    refine z_aload_n 0 dX13_findSeason_44 rfl ?_
    refine fg_13_282 (some 150) rfl dX13_findSeason_45 hL.1 hL.2.1 (ma_127 hL).1 ?_
    refine z_iload 3 dX13_findSeason_48 rfl ?_
    obtain ⟨o45, h⟩ := h
    refine z_iald (I 150 a4.toNatClampNeg) dX13_findSeason_50 (ma_127 hL).2.1 (ma_127 hL).2.2 o45 rfl ?_
    refine z_aload_n 0 dX13_findSeason_51 rfl ?_
    refine fg_13_279 (some 149) rfl dX13_findSeason_52 hL.1 hL.2.1 (ma_126 hL).1 ?_
    refine z_iload 3 dX13_findSeason_55 rfl ?_
    refine z_iald (I 149 a4.toNatClampNeg) dX13_findSeason_57 (ma_126 hL).2.1 (ma_126 hL).2.2 o45 rfl ?_
    refine z_imul dX13_findSeason_58 ?_
    refine z_iadd dX13_findSeason_59 ?_
    refine z_istore_n [1, 2, 0, 3] [(0, .ref (n0 + 59)), (1, .int a1), (3, .int (a3 + ((I 150 a4.toNatClampNeg) * (I 149 a4.toNatClampNeg)))), (4, .int a4)] dX13_findSeason_60 (by decide) rfl ?_
    refine z_iinc (j := 3) (a4 + 1) [1, 2, 3, 0] [(0, .ref (n0 + 59)), (1, .int a1), (3, .int (a3 + ((I 150 a4.toNatClampNeg) * (I 149 a4.toNatClampNeg)))), (4, .int (a4 + 1))] dX13_findSeason_61 rfl rfl (by decide) rfl ?_
    refine z_goto 34 dX13_findSeason_64 (by decide) ?_
    exact h
set_option maxRecDepth 100000 in
set_option maxHeartbeats 4000000 in
theorem wp_X13_findSeason_88 {n0 d : Nat} {rc rs : Nat} {K : z_K} {I : z_I} {L : z_L} {Q : z_q} {a1 : Int32} {a3 : Int32} {a4 : Int32} (hL : MLay K) (h : (if a4 < (I 59 124) then vp_in a4 6 ∧ Z n0 xX13_findSeason (d + 1) rc rs 88 [(0, .ref (n0 + 59)), (1, .int a1), (3, .int a3), (4, .int (a4 + 1))] [] K (zI I 151 a4.toNatClampNeg (I 150 a4.toNatClampNeg)) L (z_q0 K Q) else (((if 0 < ((I 59 124) : Int32) then if a1 < 0 then 0 else if a3 < a1 then 0 else 1 else 0) : Int32) = 0 → ¬ ((((I 59 124) - 1) : Int32) < 0) → vp_in ((I 59 124) - 1) 6) ∧ vp_in (if (((I 59 124) - 1) : Int32) < 0 then 0 else ((I 59 124) - 1)) 6 ∧ Z n0 xX13_findSeason (d + 1) rc rs 190 [(0, .ref (n0 + 59)), (1, .int a1), (4, .int ((I 59 124) - 1))] [] K (zI I 150 ((if (((I 59 124) - 1) : Int32) < 0 then 0 else ((I 59 124) - 1)).toNatClampNeg) (if ((if 0 < ((I 59 124) : Int32) then if a1 < 0 then 0 else if a3 < a1 then 0 else 1 else 0) : Int32) = 0 then if (((I 59 124) - 1) : Int32) < 0 then (I 150 0) else (I 150 (((I 59 124) - 1).toNatClampNeg)) else 9)) L (z_q0 K Q))) : Z n0 xX13_findSeason (d + 1) rc rs 88 [(0, .ref (n0 + 59)), (1, .int a1), (3, .int a3), (4, .int a4)] [] K I L (z_q0 K Q) := by
  refine z_iload 3 dX13_findSeason_88 rfl ?_
  refine z_aload_n 0 dX13_findSeason_90 rfl ?_
  refine fg_13_633 (I 59 124) rfl dX13_findSeason_91 hL.1 hL.2.1 rfl ?_
  refine z_icmp_ge 117 dX13_findSeason_94 (by decide) (fun g1 => ?_) (fun g1 => ?_)
  · rw [if_neg g1] at h
    refine z_aload_n 0 dX13_findSeason_117 rfl ?_
    refine fg_13_633 (I 59 124) rfl dX13_findSeason_118 hL.1 hL.2.1 rfl ?_
    refine z_iconst 1 dX13_findSeason_121 (by decide) ?_
    refine z_isub dX13_findSeason_122 ?_
    refine z_istore [1, 2, 3, 0] [(0, .ref (n0 + 59)), (1, .int a1), (3, .int a3), (4, .int ((I 59 124) - 1))] dX13_findSeason_123 (by decide) rfl ?_
    refine z_aload_n 0 dX13_findSeason_125 rfl ?_
    refine fg_13_633 (I 59 124) rfl dX13_findSeason_126 hL.1 hL.2.1 rfl ?_
    have key5 : Z n0 xX13_findSeason (d + 1) rc rs 146 [(0, .ref (n0 + 59)), (1, .int a1), (4, .int ((I 59 124) - 1))] [.int (if 0 < ((I 59 124) : Int32) then if a1 < 0 then 0 else if a3 < a1 then 0 else 1 else 0)] K I L (z_q0 K Q) := by
      refine z_istore [1, 2, 3, 0] [(0, .ref (n0 + 59)), (1, .int a1), (4, .int ((I 59 124) - 1)), (5, .int (if 0 < ((I 59 124) : Int32) then if a1 < 0 then 0 else if a3 < a1 then 0 else 1 else 0))] dX13_findSeason_146 (by decide) rfl ?_
      refine z_aload_n 0 dX13_findSeason_148 rfl ?_
      refine fg_13_282 (some 150) rfl dX13_findSeason_149 hL.1 hL.2.1 (ma_127 hL).1 ?_
      refine z_iload 2 dX13_findSeason_152 rfl ?_
      have key7 : Z n0 xX13_findSeason (d + 1) rc rs 163 [(0, .ref (n0 + 59)), (1, .int a1), (4, .int ((I 59 124) - 1)), (5, .int (if 0 < ((I 59 124) : Int32) then if a1 < 0 then 0 else if a3 < a1 then 0 else 1 else 0))] [.int (if (((I 59 124) - 1) : Int32) < 0 then 0 else ((I 59 124) - 1)), .ref (n0 + 150)] K I L (z_q0 K Q) := by
        refine z_iload 3 dX13_findSeason_163 rfl ?_
        obtain ⟨o10, h⟩ := h
        have key11 : Z n0 xX13_findSeason (d + 1) rc rs 189 [(0, .ref (n0 + 59)), (1, .int a1), (4, .int ((I 59 124) - 1))] [.int (if ((if 0 < ((I 59 124) : Int32) then if a1 < 0 then 0 else if a3 < a1 then 0 else 1 else 0) : Int32) = 0 then if (((I 59 124) - 1) : Int32) < 0 then (I 150 0) else (I 150 (((I 59 124) - 1).toNatClampNeg)) else 9), .int (if (((I 59 124) - 1) : Int32) < 0 then 0 else ((I 59 124) - 1)), .ref (n0 + 150)] K I L (z_q0 K Q) := by
          obtain ⟨o12, h⟩ := h
          refine z_iast dX13_findSeason_189 (ma_127 hL).2.1 (ma_127 hL).2.2 o12 ?_
          exact h
        refine z_if_eq 173 dX13_findSeason_165 (by decide) (fun g8 => ?_) (fun g8 => ?_)
        · refine z_aload_n 0 dX13_findSeason_173 rfl ?_
          refine fg_13_282 (some 150) rfl dX13_findSeason_174 hL.1 hL.2.1 (ma_127 hL).1 ?_
          refine z_iload 2 dX13_findSeason_177 rfl ?_
          refine z_if_ge 186 dX13_findSeason_179 (by decide) (fun g9 => ?_) (fun g9 => ?_)
          · refine z_iload 2 dX13_findSeason_186 rfl ?_
            refine z_iald (I 150 (((I 59 124) - 1).toNatClampNeg)) dX13_findSeason_188 (ma_127 hL).2.1 (ma_127 hL).2.2 (o10 g8 g9) rfl ?_
            have ee : ((if ((if 0 < ((I 59 124) : Int32) then if a1 < 0 then 0 else if a3 < a1 then 0 else 1 else 0) : Int32) = 0 then if (((I 59 124) - 1) : Int32) < 0 then (I 150 0) else (I 150 (((I 59 124) - 1).toNatClampNeg)) else 9) : Int32) = (I 150 (((I 59 124) - 1).toNatClampNeg)) := by rw [if_pos g8, if_neg g9]
            rw [ee] at key11
            clear ee
            refine z_sub [0, 1, 2] rfl ?_
            exact key11
          · refine z_iconst 0 dX13_findSeason_182 (by decide) ?_
            refine z_goto 188 dX13_findSeason_183 (by decide) ?_
            refine z_iald (I 150 0) dX13_findSeason_188 (ma_127 hL).2.1 (ma_127 hL).2.2 (by unfold vp_in; decide) rfl ?_
            have ee : ((if ((if 0 < ((I 59 124) : Int32) then if a1 < 0 then 0 else if a3 < a1 then 0 else 1 else 0) : Int32) = 0 then if (((I 59 124) - 1) : Int32) < 0 then (I 150 0) else (I 150 (((I 59 124) - 1).toNatClampNeg)) else 9) : Int32) = (I 150 0) := by rw [if_pos g8, if_pos g9]
            rw [ee] at key11
            clear ee
            refine z_sub [0, 1, 2] rfl ?_
            exact key11
        · refine z_bipush 9 dX13_findSeason_168 (by decide) ?_
          refine z_goto 189 dX13_findSeason_170 (by decide) ?_
          have ee : ((if ((if 0 < ((I 59 124) : Int32) then if a1 < 0 then 0 else if a3 < a1 then 0 else 1 else 0) : Int32) = 0 then if (((I 59 124) - 1) : Int32) < 0 then (I 150 0) else (I 150 (((I 59 124) - 1).toNatClampNeg)) else 9) : Int32) = 9 := by rw [if_neg g8]
          rw [ee] at key11
          clear ee
          refine z_sub [0, 1, 2] rfl ?_
          exact key11
      refine z_if_ge 161 dX13_findSeason_154 (by decide) (fun g6 => ?_) (fun g6 => ?_)
      · refine z_iload 2 dX13_findSeason_161 rfl ?_
        have ee : ((if (((I 59 124) - 1) : Int32) < 0 then 0 else ((I 59 124) - 1)) : Int32) = ((I 59 124) - 1) := by rw [if_neg g6]
        rw [ee] at key7
        clear ee
        exact key7
      · refine z_iconst 0 dX13_findSeason_157 (by decide) ?_
        refine z_goto 163 dX13_findSeason_158 (by decide) ?_
        have ee : ((if (((I 59 124) - 1) : Int32) < 0 then 0 else ((I 59 124) - 1)) : Int32) = 0 := by rw [if_pos g6]
        rw [ee] at key7
        clear ee
        exact key7
    refine z_if_le 145 dX13_findSeason_129 (by decide) (fun g2 => ?_) (fun g2 => ?_)
    · refine z_iconst 0 dX13_findSeason_145 (by decide) ?_
      have ee : ((if 0 < ((I 59 124) : Int32) then if a1 < 0 then 0 else if a3 < a1 then 0 else 1 else 0) : Int32) = 0 := by rw [if_neg g2]
      rw [ee] at key5
      clear ee
      refine z_sub [0, 1, 3] rfl ?_
      exact key5
    · refine z_iload_n 1 dX13_findSeason_132 rfl ?_
      refine z_if_lt 145 dX13_findSeason_133 (by decide) (fun g3 => ?_) (fun g3 => ?_)
      · refine z_iconst 0 dX13_findSeason_145 (by decide) ?_
        have ee : ((if 0 < ((I 59 124) : Int32) then if a1 < 0 then 0 else if a3 < a1 then 0 else 1 else 0) : Int32) = 0 := by rw [if_pos g2, if_pos g3]
        rw [ee] at key5
        clear ee
        refine z_sub [0, 1, 3] rfl ?_
        exact key5
      · refine z_iload_n 2 dX13_findSeason_136 rfl ?_
        refine z_iload_n 1 dX13_findSeason_137 rfl ?_
        refine z_icmp_lt 145 dX13_findSeason_138 (by decide) (fun g4 => ?_) (fun g4 => ?_)
        · refine z_iconst 0 dX13_findSeason_145 (by decide) ?_
          have ee : ((if 0 < ((I 59 124) : Int32) then if a1 < 0 then 0 else if a3 < a1 then 0 else 1 else 0) : Int32) = 0 := by rw [if_pos g2, if_neg g3, if_pos g4]
          rw [ee] at key5
          clear ee
          refine z_sub [0, 1, 3] rfl ?_
          exact key5
        · refine z_iconst 1 dX13_findSeason_141 (by decide) ?_
          refine z_goto 146 dX13_findSeason_142 (by decide) ?_
          have ee : ((if 0 < ((I 59 124) : Int32) then if a1 < 0 then 0 else if a3 < a1 then 0 else 1 else 0) : Int32) = 1 := by rw [if_pos g2, if_neg g3, if_neg g4]
          rw [ee] at key5
          clear ee
          refine z_sub [0, 1, 3] rfl ?_
          exact key5
  · rw [if_pos g1] at h
    refine z_aload_n 0 dX13_findSeason_97 rfl ?_
    refine fg_13_285 (some 151) rfl dX13_findSeason_98 hL.1 hL.2.1 (ma_128 hL).1 ?_
    refine z_iload 3 dX13_findSeason_101 rfl ?_
    refine z_aload_n 0 dX13_findSeason_103 rfl ?_
    refine fg_13_282 (some 150) rfl dX13_findSeason_104 hL.1 hL.2.1 (ma_127 hL).1 ?_
    refine z_iload 3 dX13_findSeason_107 rfl ?_
    obtain ⟨o13, h⟩ := h
    refine z_iald (I 150 a4.toNatClampNeg) dX13_findSeason_109 (ma_127 hL).2.1 (ma_127 hL).2.2 o13 rfl ?_
    refine z_iast dX13_findSeason_110 (ma_128 hL).2.1 (ma_128 hL).2.2 o13 ?_
    refine z_iinc (j := 3) (a4 + 1) [1, 2, 3, 0] [(0, .ref (n0 + 59)), (1, .int a1), (3, .int a3), (4, .int (a4 + 1))] dX13_findSeason_111 rfl rfl (by decide) rfl ?_
    refine z_goto 88 dX13_findSeason_114 (by decide) ?_
    exact h
set_option maxRecDepth 100000 in
set_option maxHeartbeats 4000000 in
theorem wp_X13_findSeason_190 {n0 d : Nat} {rc rs : Nat} {K : z_K} {I : z_I} {L : z_L} {Q : z_q} {a1 : Int32} {a4 : Int32} (hL : MLay K) (h : (if a4 < 0 then (if a4 < 0 then Z n0 xX13_findSeason (d + 1) rc rs 25 [(0, .ref (n0 + 59)), (1, .int a1), (2, .int (if a4 < 0 then 0 else 1))] [] K I L (z_q0 K Q) else vp_in a4 6 ∧ Z n0 xX13_findSeason (d + 1) rc rs 25 [(0, .ref (n0 + 59)), (1, .int a1), (2, .int (if a4 < 0 then 0 else 1))] [] K (zI I 150 a4.toNatClampNeg ((I 150 a4.toNatClampNeg) + 1)) L (z_q0 K Q)) else vp_in a4 6 ∧ (if ((I 150 a4.toNatClampNeg) : Int32) = 9 then Z n0 xX13_findSeason (d + 1) rc rs 190 [(0, .ref (n0 + 59)), (1, .int a1), (4, .int (a4 + (-1)))] [] K (zI I 150 a4.toNatClampNeg 0) L (z_q0 K Q) else (if a4 < 0 then Z n0 xX13_findSeason (d + 1) rc rs 25 [(0, .ref (n0 + 59)), (1, .int a1), (2, .int (if a4 < 0 then 0 else 1))] [] K I L (z_q0 K Q) else Z n0 xX13_findSeason (d + 1) rc rs 25 [(0, .ref (n0 + 59)), (1, .int a1), (2, .int (if a4 < 0 then 0 else 1))] [] K (zI I 150 a4.toNatClampNeg ((I 150 a4.toNatClampNeg) + 1)) L (z_q0 K Q))))) : Z n0 xX13_findSeason (d + 1) rc rs 190 [(0, .ref (n0 + 59)), (1, .int a1), (4, .int a4)] [] K I L (z_q0 K Q) := by
  refine z_iload 2 dX13_findSeason_190 rfl ?_
  refine z_if_lt 221 dX13_findSeason_192 (by decide) (fun g1 => ?_) (fun g1 => ?_)
  · rw [if_pos g1] at h
    refine z_iload 2 dX13_findSeason_221 rfl ?_
    have key3 : Z n0 xX13_findSeason (d + 1) rc rs 231 [(0, .ref (n0 + 59)), (1, .int a1), (4, .int a4)] [.int (if a4 < 0 then 0 else 1)] K I L (z_q0 K Q) := by
      refine z_istore_n [1, 2, 0, 3] [(0, .ref (n0 + 59)), (1, .int a1), (2, .int (if a4 < 0 then 0 else 1)), (4, .int a4)] dX13_findSeason_231 (by decide) rfl ?_
      refine z_iload_n 2 dX13_findSeason_232 rfl ?_
      refine z_if_eq 247 dX13_findSeason_233 (by decide) (fun g4 => ?_) (fun g4 => ?_)
      · replace g4 := z_i01.mp g4
        rw [if_pos g4] at h
        refine z_goto 25 dX13_findSeason_247 (by decide) ?_
        refine z_sub [0, 1, 2] rfl ?_
        exact h
      · replace g4 := z_i01n g4
        rw [if_neg g4] at h
        refine z_aload_n 0 dX13_findSeason_236 rfl ?_
        refine fg_13_282 (some 150) rfl dX13_findSeason_237 hL.1 hL.2.1 (ma_127 hL).1 ?_
        refine z_iload 3 dX13_findSeason_240 rfl ?_
        refine z_dup2 dX13_findSeason_242 rfl rfl ?_
        obtain ⟨o5, h⟩ := h
        refine z_iald (I 150 a4.toNatClampNeg) dX13_findSeason_243 (ma_127 hL).2.1 (ma_127 hL).2.2 o5 rfl ?_
        refine z_iconst 1 dX13_findSeason_244 (by decide) ?_
        refine z_iadd dX13_findSeason_245 ?_
        refine z_iast dX13_findSeason_246 (ma_127 hL).2.1 (ma_127 hL).2.2 o5 ?_
        refine z_goto 25 dX13_findSeason_247 (by decide) ?_
        refine z_sub [0, 1, 2] rfl ?_
        exact h
    refine z_if_lt 230 dX13_findSeason_223 (by decide) (fun g2 => ?_) (fun g2 => ?_)
    · refine z_iconst 0 dX13_findSeason_230 (by decide) ?_
      have ee : ((if a4 < 0 then 0 else 1) : Int32) = 0 := by rw [if_pos g2]
      rw [ee] at key3
      clear ee
      exact key3
    · refine z_iconst 1 dX13_findSeason_226 (by decide) ?_
      refine z_goto 231 dX13_findSeason_227 (by decide) ?_
      have ee : ((if a4 < 0 then 0 else 1) : Int32) = 1 := by rw [if_neg g2]
      rw [ee] at key3
      clear ee
      exact key3
  · rw [if_neg g1] at h
    refine z_aload_n 0 dX13_findSeason_195 rfl ?_
    refine fg_13_282 (some 150) rfl dX13_findSeason_196 hL.1 hL.2.1 (ma_127 hL).1 ?_
    refine z_iload 2 dX13_findSeason_199 rfl ?_
    obtain ⟨o6, h⟩ := h
    refine z_iald (I 150 a4.toNatClampNeg) dX13_findSeason_201 (ma_127 hL).2.1 (ma_127 hL).2.2 o6 rfl ?_
    refine z_bipush 9 dX13_findSeason_202 (by decide) ?_
    refine z_icmp_ne 221 dX13_findSeason_204 (by decide) (fun g7 => ?_) (fun g7 => ?_)
    · rw [if_neg g7] at h
      refine z_iload 2 dX13_findSeason_221 rfl ?_
      have key9 : Z n0 xX13_findSeason (d + 1) rc rs 231 [(0, .ref (n0 + 59)), (1, .int a1), (4, .int a4)] [.int (if a4 < 0 then 0 else 1)] K I L (z_q0 K Q) := by
        refine z_istore_n [1, 2, 0, 3] [(0, .ref (n0 + 59)), (1, .int a1), (2, .int (if a4 < 0 then 0 else 1)), (4, .int a4)] dX13_findSeason_231 (by decide) rfl ?_
        refine z_iload_n 2 dX13_findSeason_232 rfl ?_
        refine z_if_eq 247 dX13_findSeason_233 (by decide) (fun g10 => ?_) (fun g10 => ?_)
        · replace g10 := z_i01.mp g10
          rw [if_pos g10] at h
          refine z_goto 25 dX13_findSeason_247 (by decide) ?_
          refine z_sub [0, 1, 2] rfl ?_
          exact h
        · replace g10 := z_i01n g10
          rw [if_neg g10] at h
          refine z_aload_n 0 dX13_findSeason_236 rfl ?_
          refine fg_13_282 (some 150) rfl dX13_findSeason_237 hL.1 hL.2.1 (ma_127 hL).1 ?_
          refine z_iload 3 dX13_findSeason_240 rfl ?_
          refine z_dup2 dX13_findSeason_242 rfl rfl ?_
          refine z_iald (I 150 a4.toNatClampNeg) dX13_findSeason_243 (ma_127 hL).2.1 (ma_127 hL).2.2 o6 rfl ?_
          refine z_iconst 1 dX13_findSeason_244 (by decide) ?_
          refine z_iadd dX13_findSeason_245 ?_
          refine z_iast dX13_findSeason_246 (ma_127 hL).2.1 (ma_127 hL).2.2 o6 ?_
          refine z_goto 25 dX13_findSeason_247 (by decide) ?_
          refine z_sub [0, 1, 2] rfl ?_
          exact h
      refine z_if_lt 230 dX13_findSeason_223 (by decide) (fun g8 => ?_) (fun g8 => ?_)
      · refine z_iconst 0 dX13_findSeason_230 (by decide) ?_
        have ee : ((if a4 < 0 then 0 else 1) : Int32) = 0 := by rw [if_pos g8]
        rw [ee] at key9
        clear ee
        exact key9
      · refine z_iconst 1 dX13_findSeason_226 (by decide) ?_
        refine z_goto 231 dX13_findSeason_227 (by decide) ?_
        have ee : ((if a4 < 0 then 0 else 1) : Int32) = 1 := by rw [if_neg g8]
        rw [ee] at key9
        clear ee
        exact key9
    · rw [if_pos g7] at h
      refine z_aload_n 0 dX13_findSeason_207 rfl ?_
      refine fg_13_282 (some 150) rfl dX13_findSeason_208 hL.1 hL.2.1 (ma_127 hL).1 ?_
      refine z_iload 2 dX13_findSeason_211 rfl ?_
      refine z_iconst 0 dX13_findSeason_213 (by decide) ?_
      refine z_iast dX13_findSeason_214 (ma_127 hL).2.1 (ma_127 hL).2.2 o6 ?_
      refine z_iinc (j := 2) (a4 + (-1)) [1, 2, 0] [(0, .ref (n0 + 59)), (1, .int a1), (4, .int (a4 + (-1)))] dX13_findSeason_215 rfl rfl (by decide) rfl ?_
      refine z_goto 190 dX13_findSeason_218 (by decide) ?_
      exact h
theorem dX13_season_0 : decode cX13_season 0 = .ok (.aload_n 0, 1) := by decide +kernel
theorem dX13_season_1 : decode cX13_season 1 = .ok (.invokevirtual 639, 3) := by decide +kernel
theorem dX13_season_4 : decode cX13_season 4 = .ok (.istore_n 1, 1) := by decide +kernel
theorem dX13_season_5 : decode cX13_season 5 = .ok (.iload_n 1, 1) := by decide +kernel
theorem dX13_season_6 : decode cX13_season 6 = .ok (.ifCond .ge 8, 3) := by decide +kernel
theorem dX13_season_9 : decode cX13_season 9 = .ok (.bipush (-9), 2) := by decide +kernel
theorem dX13_season_11 : decode cX13_season 11 = .ok (.goto 4, 3) := by decide +kernel
theorem dX13_season_14 : decode cX13_season 14 = .ok (.iload_n 1, 1) := by decide +kernel
theorem dX13_season_15 : decode cX13_season 15 = .ok (.ireturn, 1) := by decide +kernel
set_option maxRecDepth 100000 in
set_option maxHeartbeats 4000000 in
theorem wp_X13_season {n0 d : Nat} {K : z_K} {I : z_I} {L : z_L} {Q : z_q}  (hL : MLay K) (h : RM0 n0 xX13_findSeason d [.ref (n0 + 59)] K I L (fun vv I1 L2 => ∃ r3 : Int32, vv = some (.int r3) ∧ Q (some (.int (if r3 < 0 then (-9) else r3))) I1 L2)) : RM0 n0 xX13_season (d + 1) [.ref (n0 + 59)] K I L Q := by
  refine z_entry0 (by decide) (Nat.le_of_ble_eq_true rfl) ?_
  change Z n0 xX13_season (d + 1) 0 0 0 [(0, .ref (n0 + 59))] [] K I L (z_q0 K Q)
  refine z_aload_n 0 dX13_season_0 rfl ?_
  refine z_callV0 (As := []) (st := []) dX13_season_1 hy_X13_findSeason hL.1 hL.2.1 (by decide) wg_2223 wg_2225 wg_103 (Nat.le_refl _) (Nat.le_of_ble_eq_true rfl) (RM0.mono h (fun vv I1 L2 h => ?_))
  obtain ⟨r3, rfl, h⟩ := h
  change Z n0 xX13_season (d + 1) 0 0 4 [(0, .ref (n0 + 59))] [.int r3] K I1 L2 (z_q0 K Q)
  refine z_istore_n [1, 0] [(0, .ref (n0 + 59)), (1, .int r3)] dX13_season_4 (by decide) rfl ?_
  refine z_iload_n 1 dX13_season_5 rfl ?_
  have key5 : Z n0 xX13_season (d + 1) 0 0 15 [] [.int (if r3 < 0 then (-9) else r3)] K I1 L2 (z_q0 K Q) := by
    exact z_iret dX13_season_15 rfl ⟨rfl, h⟩
  refine z_if_ge 14 dX13_season_6 (by decide) (fun g4 => ?_) (fun g4 => ?_)
  · refine z_iload_n 1 dX13_season_14 rfl ?_
    have ee : ((if r3 < 0 then (-9) else r3) : Int32) = r3 := by rw [if_neg g4]
    rw [ee] at key5
    clear ee
    refine z_sub [] rfl ?_
    exact key5
  · refine z_bipush (-9) dX13_season_9 (by decide) ?_
    refine z_goto 15 dX13_season_11 (by decide) ?_
    have ee : ((if r3 < 0 then (-9) else r3) : Int32) = (-9) := by rw [if_pos g4]
    rw [ee] at key5
    clear ee
    refine z_sub [] rfl ?_
    exact key5
theorem dX13_often_0 : decode cX13_often 0 = .ok (.iload_n 1, 1) := by decide +kernel
theorem dX13_often_1 : decode cX13_often 1 = .ok (.i2l, 1) := by decide +kernel
theorem dX13_often_2 : decode cX13_often 2 = .ok (.lconst 0, 1) := by decide +kernel
theorem dX13_often_3 : decode cX13_often 3 = .ok (.aload_n 0, 1) := by decide +kernel
theorem dX13_often_4 : decode cX13_often 4 = .ok (.getfield 633, 3) := by decide +kernel
theorem dX13_often_7 : decode cX13_often 7 = .ok (.iconst 1, 1) := by decide +kernel
theorem dX13_often_8 : decode cX13_often 8 = .ok (.isub, 1) := by decide +kernel
theorem dX13_often_9 : decode cX13_often 9 = .ok (.i2l, 1) := by decide +kernel
theorem dX13_often_10 : decode cX13_often 10 = .ok (.invokestatic 291, 3) := by decide +kernel
theorem dX13_often_13 : decode cX13_often 13 = .ok (.ifCond .ne 9, 3) := by decide +kernel
theorem dX13_often_16 : decode cX13_often 16 = .ok (.aload_n 0, 1) := by decide +kernel
theorem dX13_often_17 : decode cX13_often 17 = .ok (.iconst (-1), 1) := by decide +kernel
theorem dX13_often_18 : decode cX13_often 18 = .ok (.invokevirtual 308, 3) := by decide +kernel
theorem dX13_often_21 : decode cX13_often 21 = .ok (.ireturn, 1) := by decide +kernel
theorem dX13_often_22 : decode cX13_often 22 = .ok (.aload_n 0, 1) := by decide +kernel
theorem dX13_often_23 : decode cX13_often 23 = .ok (.invokevirtual 639, 3) := by decide +kernel
theorem dX13_often_26 : decode cX13_often 26 = .ok (.ifCond .ge 8, 3) := by decide +kernel
theorem dX13_often_29 : decode cX13_often 29 = .ok (.bipush (-9), 2) := by decide +kernel
theorem dX13_often_31 : decode cX13_often 31 = .ok (.goto 9, 3) := by decide +kernel
theorem dX13_often_34 : decode cX13_often 34 = .ok (.aload_n 0, 1) := by decide +kernel
theorem dX13_often_35 : decode cX13_often 35 = .ok (.getfield 285, 3) := by decide +kernel
theorem dX13_often_38 : decode cX13_often 38 = .ok (.iload_n 1, 1) := by decide +kernel
theorem dX13_often_39 : decode cX13_often 39 = .ok (.iaload, 1) := by decide +kernel
theorem dX13_often_40 : decode cX13_often 40 = .ok (.ireturn, 1) := by decide +kernel
set_option maxRecDepth 100000 in
set_option maxHeartbeats 4000000 in
theorem wp_X13_often {n0 d : Nat} {K : z_K} {I : z_I} {L : z_L} {Q : z_q} {p0 : Int32} (hL : MLay K) (h : RM0 n0 xX13_in d [.long p0.toInt64, .long 0, .long ((((I 59 124) - 1) : Int32).toInt64)] K I L (fun vv I1 L2 => ∃ r3 : Int32, vv = some (.int r3) ∧ (if r3 = 0 then RM0 n0 xX13_refuse d [.ref (n0 + 59), .int (-1)] K I1 L2 (fun vv I11 L12 => ∃ r13 : Int32, vv = some (.int r13) ∧ Q (some (.int r13)) I11 L12) else RM0 n0 xX13_findSeason d [.ref (n0 + 59)] K I1 L2 (fun vv I5 L6 => ∃ r7 : Int32, vv = some (.int r7) ∧ (¬ (r7 < 0) → vp_in p0 6) ∧ Q (some (.int (if r7 < 0 then (-9) else (I5 151 p0.toNatClampNeg)))) I5 L6)))) : RM0 n0 xX13_often (d + 1) [.ref (n0 + 59), .int p0] K I L Q := by
  refine z_entry0 (by decide) (Nat.le_of_ble_eq_true rfl) ?_
  change Z n0 xX13_often (d + 1) 0 0 0 [(0, .ref (n0 + 59)), (1, .int p0)] [] K I L (z_q0 K Q)
  refine z_iload_n 1 dX13_often_0 rfl ?_
  refine z_i2l dX13_often_1 ?_
  refine z_lconst 0 dX13_often_2 (by decide) ?_
  refine z_aload_n 0 dX13_often_3 rfl ?_
  refine fg_13_633 (I 59 124) rfl dX13_often_4 hL.1 hL.2.1 rfl ?_
  refine z_iconst 1 dX13_often_7 (by decide) ?_
  refine z_isub dX13_often_8 ?_
  refine z_i2l dX13_often_9 ?_
  refine z_callS0 (As := [.long p0.toInt64, .long 0, .long ((((I 59 124) - 1) : Int32).toInt64)]) (st := []) dX13_often_10 hy_X13_in wg_1790 wg_1791 (Nat.le_refl _) (Nat.le_of_ble_eq_true rfl) (RM0.mono h (fun vv I1 L2 h => ?_))
  obtain ⟨r3, rfl, h⟩ := h
  change Z n0 xX13_often (d + 1) 0 0 13 [(0, .ref (n0 + 59)), (1, .int p0)] [.int r3] K I1 L2 (z_q0 K Q)
  refine z_if_ne 22 dX13_often_13 (by decide) (fun g4 => ?_) (fun g4 => ?_)
  · rw [if_neg g4] at h
    refine z_aload_n 0 dX13_often_22 rfl ?_
    refine z_callV0 (As := []) (st := []) dX13_often_23 hy_X13_findSeason hL.1 hL.2.1 (by decide) wg_2223 wg_2225 wg_103 (Nat.le_refl _) (Nat.le_of_ble_eq_true rfl) (RM0.mono h (fun vv I5 L6 h => ?_))
    obtain ⟨r7, rfl, h⟩ := h
    change Z n0 xX13_often (d + 1) 0 0 26 [(0, .ref (n0 + 59)), (1, .int p0)] [.int r7] K I5 L6 (z_q0 K Q)
    obtain ⟨o9, h⟩ := h
    have key10 : Z n0 xX13_often (d + 1) 0 0 40 [] [.int (if r7 < 0 then (-9) else (I5 151 p0.toNatClampNeg))] K I5 L6 (z_q0 K Q) := by
      exact z_iret dX13_often_40 rfl ⟨rfl, h⟩
    refine z_if_ge 34 dX13_often_26 (by decide) (fun g8 => ?_) (fun g8 => ?_)
    · refine z_aload_n 0 dX13_often_34 rfl ?_
      refine fg_13_285 (some 151) rfl dX13_often_35 hL.1 hL.2.1 (ma_128 hL).1 ?_
      refine z_iload_n 1 dX13_often_38 rfl ?_
      refine z_iald (I5 151 p0.toNatClampNeg) dX13_often_39 (ma_128 hL).2.1 (ma_128 hL).2.2 (o9 g8) rfl ?_
      have ee : ((if r7 < 0 then (-9) else (I5 151 p0.toNatClampNeg)) : Int32) = (I5 151 p0.toNatClampNeg) := by rw [if_neg g8]
      rw [ee] at key10
      clear ee
      refine z_sub [] rfl ?_
      exact key10
    · refine z_bipush (-9) dX13_often_29 (by decide) ?_
      refine z_goto 40 dX13_often_31 (by decide) ?_
      have ee : ((if r7 < 0 then (-9) else (I5 151 p0.toNatClampNeg)) : Int32) = (-9) := by rw [if_pos g8]
      rw [ee] at key10
      clear ee
      refine z_sub [] rfl ?_
      exact key10
  · rw [if_pos g4] at h
    refine z_aload_n 0 dX13_often_16 rfl ?_
    refine z_iconst (-1) dX13_often_17 (by decide) ?_
    refine z_callV0 (As := [.int (-1)]) (st := []) dX13_often_18 hy_X13_refuse hL.1 hL.2.1 (by decide) wg_1778 wg_1780 wg_54 (Nat.le_refl _) (Nat.le_of_ble_eq_true rfl) (RM0.mono h (fun vv I11 L12 h => ?_))
    obtain ⟨r13, rfl, h⟩ := h
    change Z n0 xX13_often (d + 1) 0 0 21 [(0, .ref (n0 + 59)), (1, .int p0)] [.int r13] K I11 L12 (z_q0 K Q)
    exact z_iret dX13_often_21 rfl ⟨rfl, h⟩
theorem dX13_count_0 : decode cX13_count 0 = .ok (.iload_n 1, 1) := by decide +kernel
theorem dX13_count_1 : decode cX13_count 1 = .ok (.tableswitch 105 0 9 #[55, 60, 65, 70, 75, 80, 85, 90, 95, 100], 55) := by decide +kernel
theorem dX13_count_56 : decode cX13_count 56 = .ok (.aload_n 0, 1) := by decide +kernel
theorem dX13_count_57 : decode cX13_count 57 = .ok (.getfield 312, 3) := by decide +kernel
theorem dX13_count_60 : decode cX13_count 60 = .ok (.ireturn, 1) := by decide +kernel
theorem dX13_count_61 : decode cX13_count 61 = .ok (.aload_n 0, 1) := by decide +kernel
theorem dX13_count_62 : decode cX13_count 62 = .ok (.getfield 297, 3) := by decide +kernel
theorem dX13_count_65 : decode cX13_count 65 = .ok (.ireturn, 1) := by decide +kernel
theorem dX13_count_66 : decode cX13_count 66 = .ok (.aload_n 0, 1) := by decide +kernel
theorem dX13_count_67 : decode cX13_count 67 = .ok (.getfield 301, 3) := by decide +kernel
theorem dX13_count_70 : decode cX13_count 70 = .ok (.ireturn, 1) := by decide +kernel
theorem dX13_count_71 : decode cX13_count 71 = .ok (.aload_n 0, 1) := by decide +kernel
theorem dX13_count_72 : decode cX13_count 72 = .ok (.getfield 449, 3) := by decide +kernel
theorem dX13_count_75 : decode cX13_count 75 = .ok (.ireturn, 1) := by decide +kernel
theorem dX13_count_76 : decode cX13_count 76 = .ok (.aload_n 0, 1) := by decide +kernel
theorem dX13_count_77 : decode cX13_count 77 = .ok (.getfield 508, 3) := by decide +kernel
theorem dX13_count_80 : decode cX13_count 80 = .ok (.ireturn, 1) := by decide +kernel
theorem dX13_count_81 : decode cX13_count 81 = .ok (.aload_n 0, 1) := by decide +kernel
theorem dX13_count_82 : decode cX13_count 82 = .ok (.getfield 530, 3) := by decide +kernel
theorem dX13_count_85 : decode cX13_count 85 = .ok (.ireturn, 1) := by decide +kernel
theorem dX13_count_86 : decode cX13_count 86 = .ok (.aload_n 0, 1) := by decide +kernel
theorem dX13_count_87 : decode cX13_count 87 = .ok (.getfield 573, 3) := by decide +kernel
theorem dX13_count_90 : decode cX13_count 90 = .ok (.ireturn, 1) := by decide +kernel
theorem dX13_count_91 : decode cX13_count 91 = .ok (.aload_n 0, 1) := by decide +kernel
theorem dX13_count_92 : decode cX13_count 92 = .ok (.getfield 619, 3) := by decide +kernel
theorem dX13_count_95 : decode cX13_count 95 = .ok (.ireturn, 1) := by decide +kernel
theorem dX13_count_96 : decode cX13_count 96 = .ok (.aload_n 0, 1) := by decide +kernel
theorem dX13_count_97 : decode cX13_count 97 = .ok (.getfield 622, 3) := by decide +kernel
theorem dX13_count_100 : decode cX13_count 100 = .ok (.ireturn, 1) := by decide +kernel
theorem dX13_count_101 : decode cX13_count 101 = .ok (.aload_n 0, 1) := by decide +kernel
theorem dX13_count_102 : decode cX13_count 102 = .ok (.getfield 343, 3) := by decide +kernel
theorem dX13_count_105 : decode cX13_count 105 = .ok (.ireturn, 1) := by decide +kernel
theorem dX13_count_106 : decode cX13_count 106 = .ok (.iload_n 1, 1) := by decide +kernel
theorem dX13_count_107 : decode cX13_count 107 = .ok (.i2l, 1) := by decide +kernel
theorem dX13_count_108 : decode cX13_count 108 = .ok (.ldc2_w 642, 3) := by decide +kernel
theorem dX13_count_111 : decode cX13_count 111 = .ok (.ldc2_w 644, 3) := by decide +kernel
theorem dX13_count_114 : decode cX13_count 114 = .ok (.invokestatic 291, 3) := by decide +kernel
theorem dX13_count_117 : decode cX13_count 117 = .ok (.ifCond .eq 15, 3) := by decide +kernel
theorem dX13_count_120 : decode cX13_count 120 = .ok (.aload_n 0, 1) := by decide +kernel
theorem dX13_count_121 : decode cX13_count 121 = .ok (.getfield 56, 3) := by decide +kernel
theorem dX13_count_124 : decode cX13_count 124 = .ok (.iload_n 1, 1) := by decide +kernel
theorem dX13_count_125 : decode cX13_count 125 = .ok (.bipush 10, 2) := by decide +kernel
theorem dX13_count_127 : decode cX13_count 127 = .ok (.isub, 1) := by decide +kernel
theorem dX13_count_128 : decode cX13_count 128 = .ok (.iaload, 1) := by decide +kernel
theorem dX13_count_129 : decode cX13_count 129 = .ok (.goto 5, 3) := by decide +kernel
theorem dX13_count_132 : decode cX13_count 132 = .ok (.bipush (-9), 2) := by decide +kernel
theorem dX13_count_134 : decode cX13_count 134 = .ok (.ireturn, 1) := by decide +kernel
set_option maxRecDepth 100000 in
set_option maxHeartbeats 4000000 in
theorem wp_X13_count {n0 d : Nat} {K : z_K} {I : z_I} {L : z_L} {Q : z_q} {p0 : Int32} (hL : MLay K) (h : (if p0 = 0 then Q (some (.int (I 59 0))) I L else (if p0 = 1 then Q (some (.int (I 59 6))) I L else (if p0 = 2 then Q (some (.int (I 59 9))) I L else (if p0 = 3 then Q (some (.int (I 59 22))) I L else (if p0 = 4 then Q (some (.int (I 59 62))) I L else (if p0 = 5 then Q (some (.int (I 59 77))) I L else (if p0 = 6 then Q (some (.int (I 59 89))) I L else (if p0 = 7 then Q (some (.int (I 59 107))) I L else (if p0 = 8 then Q (some (.int (I 59 114))) I L else (if p0 = 9 then Q (some (.int (I 59 21))) I L else RM0 n0 xX13_in d [.long p0.toInt64, .long 11, .long 17] K I L (fun vv I11 L12 => ∃ r13 : Int32, vv = some (.int r13) ∧ (¬ (r13 = 0) → vp_in (p0 - 10) 8) ∧ Q (some (.int (if r13 = 0 then (-9) else (I11 75 ((p0 - 10).toNatClampNeg))))) I11 L12)))))))))))) : RM0 n0 xX13_count (d + 1) [.ref (n0 + 59), .int p0] K I L Q := by
  refine z_entry0 (by decide) (Nat.le_of_ble_eq_true rfl) ?_
  change Z n0 xX13_count (d + 1) 0 0 0 [(0, .ref (n0 + 59)), (1, .int p0)] [] K I L (z_q0 K Q)
  refine z_iload_n 1 dX13_count_0 rfl ?_
  by_cases g1 : p0 = 0
  · rw [if_pos g1] at h
    refine z_tabIn 56 dX13_count_1 (by rw [g1]; decide) (by rw [g1]; decide) (off := 55) (by rw [g1]; rfl) (by decide) ?_
    refine z_aload_n 0 dX13_count_56 rfl ?_
    refine fg_13_312 (I 59 0) rfl dX13_count_57 hL.1 hL.2.1 rfl ?_
    exact z_iret dX13_count_60 rfl ⟨rfl, h⟩
  rw [if_neg g1] at h
  by_cases g2 : p0 = 1
  · rw [if_pos g2] at h
    refine z_tabIn 61 dX13_count_1 (by rw [g2]; decide) (by rw [g2]; decide) (off := 60) (by rw [g2]; rfl) (by decide) ?_
    refine z_aload_n 0 dX13_count_61 rfl ?_
    refine fg_13_297 (I 59 6) rfl dX13_count_62 hL.1 hL.2.1 rfl ?_
    exact z_iret dX13_count_65 rfl ⟨rfl, h⟩
  rw [if_neg g2] at h
  by_cases g3 : p0 = 2
  · rw [if_pos g3] at h
    refine z_tabIn 66 dX13_count_1 (by rw [g3]; decide) (by rw [g3]; decide) (off := 65) (by rw [g3]; rfl) (by decide) ?_
    refine z_aload_n 0 dX13_count_66 rfl ?_
    refine fg_13_301 (I 59 9) rfl dX13_count_67 hL.1 hL.2.1 rfl ?_
    exact z_iret dX13_count_70 rfl ⟨rfl, h⟩
  rw [if_neg g3] at h
  by_cases g4 : p0 = 3
  · rw [if_pos g4] at h
    refine z_tabIn 71 dX13_count_1 (by rw [g4]; decide) (by rw [g4]; decide) (off := 70) (by rw [g4]; rfl) (by decide) ?_
    refine z_aload_n 0 dX13_count_71 rfl ?_
    refine fg_13_449 (I 59 22) rfl dX13_count_72 hL.1 hL.2.1 rfl ?_
    exact z_iret dX13_count_75 rfl ⟨rfl, h⟩
  rw [if_neg g4] at h
  by_cases g5 : p0 = 4
  · rw [if_pos g5] at h
    refine z_tabIn 76 dX13_count_1 (by rw [g5]; decide) (by rw [g5]; decide) (off := 75) (by rw [g5]; rfl) (by decide) ?_
    refine z_aload_n 0 dX13_count_76 rfl ?_
    refine fg_13_508 (I 59 62) rfl dX13_count_77 hL.1 hL.2.1 rfl ?_
    exact z_iret dX13_count_80 rfl ⟨rfl, h⟩
  rw [if_neg g5] at h
  by_cases g6 : p0 = 5
  · rw [if_pos g6] at h
    refine z_tabIn 81 dX13_count_1 (by rw [g6]; decide) (by rw [g6]; decide) (off := 80) (by rw [g6]; rfl) (by decide) ?_
    refine z_aload_n 0 dX13_count_81 rfl ?_
    refine fg_13_530 (I 59 77) rfl dX13_count_82 hL.1 hL.2.1 rfl ?_
    exact z_iret dX13_count_85 rfl ⟨rfl, h⟩
  rw [if_neg g6] at h
  by_cases g7 : p0 = 6
  · rw [if_pos g7] at h
    refine z_tabIn 86 dX13_count_1 (by rw [g7]; decide) (by rw [g7]; decide) (off := 85) (by rw [g7]; rfl) (by decide) ?_
    refine z_aload_n 0 dX13_count_86 rfl ?_
    refine fg_13_573 (I 59 89) rfl dX13_count_87 hL.1 hL.2.1 rfl ?_
    exact z_iret dX13_count_90 rfl ⟨rfl, h⟩
  rw [if_neg g7] at h
  by_cases g8 : p0 = 7
  · rw [if_pos g8] at h
    refine z_tabIn 91 dX13_count_1 (by rw [g8]; decide) (by rw [g8]; decide) (off := 90) (by rw [g8]; rfl) (by decide) ?_
    refine z_aload_n 0 dX13_count_91 rfl ?_
    refine fg_13_619 (I 59 107) rfl dX13_count_92 hL.1 hL.2.1 rfl ?_
    exact z_iret dX13_count_95 rfl ⟨rfl, h⟩
  rw [if_neg g8] at h
  by_cases g9 : p0 = 8
  · rw [if_pos g9] at h
    refine z_tabIn 96 dX13_count_1 (by rw [g9]; decide) (by rw [g9]; decide) (off := 95) (by rw [g9]; rfl) (by decide) ?_
    refine z_aload_n 0 dX13_count_96 rfl ?_
    refine fg_13_622 (I 59 114) rfl dX13_count_97 hL.1 hL.2.1 rfl ?_
    exact z_iret dX13_count_100 rfl ⟨rfl, h⟩
  rw [if_neg g9] at h
  by_cases g10 : p0 = 9
  · rw [if_pos g10] at h
    refine z_tabIn 101 dX13_count_1 (by rw [g10]; decide) (by rw [g10]; decide) (off := 100) (by rw [g10]; rfl) (by decide) ?_
    refine z_aload_n 0 dX13_count_101 rfl ?_
    refine fg_13_343 (I 59 21) rfl dX13_count_102 hL.1 hL.2.1 rfl ?_
    exact z_iret dX13_count_105 rfl ⟨rfl, h⟩
  rw [if_neg g10] at h
  refine z_tabOut 106 dX13_count_1 (z_tout_0_9 g1 g2 g3 g4 g5 g6 g7 g8 g9 g10) (by decide) ?_
  refine z_iload_n 1 dX13_count_106 rfl ?_
  refine z_i2l dX13_count_107 ?_
  refine z_ldc2_w 11 dX13_count_108 wg_2239 ?_
  refine z_ldc2_w 17 dX13_count_111 wg_2240 ?_
  refine z_callS0 (As := [.long p0.toInt64, .long 11, .long 17]) (st := []) dX13_count_114 hy_X13_in wg_1790 wg_1791 (Nat.le_refl _) (Nat.le_of_ble_eq_true rfl) (RM0.mono h (fun vv I11 L12 h => ?_))
  obtain ⟨r13, rfl, h⟩ := h
  change Z n0 xX13_count (d + 1) 0 0 117 [(0, .ref (n0 + 59)), (1, .int p0)] [.int r13] K I11 L12 (z_q0 K Q)
  obtain ⟨o15, h⟩ := h
  have key16 : Z n0 xX13_count (d + 1) 0 0 134 [] [.int (if r13 = 0 then (-9) else (I11 75 ((p0 - 10).toNatClampNeg)))] K I11 L12 (z_q0 K Q) := by
    exact z_iret dX13_count_134 rfl ⟨rfl, h⟩
  refine z_if_eq 132 dX13_count_117 (by decide) (fun g14 => ?_) (fun g14 => ?_)
  · refine z_bipush (-9) dX13_count_132 (by decide) ?_
    have ee : ((if r13 = 0 then (-9) else (I11 75 ((p0 - 10).toNatClampNeg))) : Int32) = (-9) := by rw [if_pos g14]
    rw [ee] at key16
    clear ee
    refine z_sub [] rfl ?_
    exact key16
  · refine z_aload_n 0 dX13_count_120 rfl ?_
    refine fg_13_56 (some 75) rfl dX13_count_121 hL.1 hL.2.1 (ma_19 hL).1 ?_
    refine z_iload_n 1 dX13_count_124 rfl ?_
    refine z_bipush 10 dX13_count_125 (by decide) ?_
    refine z_isub dX13_count_127 ?_
    refine z_iald (I11 75 ((p0 - 10).toNatClampNeg)) dX13_count_128 (ma_19 hL).2.1 (ma_19 hL).2.2 (o15 g14) rfl ?_
    refine z_goto 134 dX13_count_129 (by decide) ?_
    have ee : ((if r13 = 0 then (-9) else (I11 75 ((p0 - 10).toNatClampNeg))) : Int32) = (I11 75 ((p0 - 10).toNatClampNeg)) := by rw [if_neg g14]
    rw [ee] at key16
    clear ee
    refine z_sub [] rfl ?_
    exact key16
