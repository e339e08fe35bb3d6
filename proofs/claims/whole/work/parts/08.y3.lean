theorem dX13_wrongDrawn_0 : decode cX13_wrongDrawn 0 = .ok (.aload_n 0, 1) := by decide +kernel
theorem dX13_wrongDrawn_1 : decode cX13_wrongDrawn 1 = .ok (.iload_n 1, 1) := by decide +kernel
theorem dX13_wrongDrawn_2 : decode cX13_wrongDrawn 2 = .ok (.invokevirtual 304, 3) := by decide +kernel
theorem dX13_wrongDrawn_5 : decode cX13_wrongDrawn 5 = .ok (.ifCond .eq 10, 3) := by decide +kernel
theorem dX13_wrongDrawn_8 : decode cX13_wrongDrawn 8 = .ok (.iload_n 2, 1) := by decide +kernel
theorem dX13_wrongDrawn_9 : decode cX13_wrongDrawn 9 = .ok (.invokestatic 321, 3) := by decide +kernel
theorem dX13_wrongDrawn_12 : decode cX13_wrongDrawn 12 = .ok (.ifCond .ne 5, 3) := by decide +kernel
theorem dX13_wrongDrawn_15 : decode cX13_wrongDrawn 15 = .ok (.iconst (-1), 1) := by decide +kernel
theorem dX13_wrongDrawn_16 : decode cX13_wrongDrawn 16 = .ok (.ireturn, 1) := by decide +kernel
theorem dX13_wrongDrawn_17 : decode cX13_wrongDrawn 17 = .ok (.iload_n 3, 1) := by decide +kernel
theorem dX13_wrongDrawn_18 : decode cX13_wrongDrawn 18 = .ok (.iconst 0, 1) := by decide +kernel
theorem dX13_wrongDrawn_19 : decode cX13_wrongDrawn 19 = .ok (.sipush 1000, 3) := by decide +kernel
theorem dX13_wrongDrawn_22 : decode cX13_wrongDrawn 22 = .ok (.invokestatic 324, 3) := by decide +kernel
theorem dX13_wrongDrawn_25 : decode cX13_wrongDrawn 25 = .ok (.istore 4, 2) := by decide +kernel
theorem dX13_wrongDrawn_27 : decode cX13_wrongDrawn 27 = .ok (.iload 4, 2) := by decide +kernel
theorem dX13_wrongDrawn_29 : decode cX13_wrongDrawn 29 = .ok (.ifCond .ge 8, 3) := by decide +kernel
theorem dX13_wrongDrawn_32 : decode cX13_wrongDrawn 32 = .ok (.iload 4, 2) := by decide +kernel
theorem dX13_wrongDrawn_34 : decode cX13_wrongDrawn 34 = .ok (.goto 20, 3) := by decide +kernel
theorem dX13_wrongDrawn_37 : decode cX13_wrongDrawn 37 = .ok (.aload_n 0, 1) := by decide +kernel
theorem dX13_wrongDrawn_38 : decode cX13_wrongDrawn 38 = .ok (.iload_n 1, 1) := by decide +kernel
theorem dX13_wrongDrawn_39 : decode cX13_wrongDrawn 39 = .ok (.iload_n 2, 1) := by decide +kernel
theorem dX13_wrongDrawn_40 : decode cX13_wrongDrawn 40 = .ok (.iload_n 3, 1) := by decide +kernel
theorem dX13_wrongDrawn_41 : decode cX13_wrongDrawn 41 = .ok (.iconst (-1), 1) := by decide +kernel
theorem dX13_wrongDrawn_42 : decode cX13_wrongDrawn 42 = .ok (.invokevirtual 491, 3) := by decide +kernel
theorem dX13_wrongDrawn_45 : decode cX13_wrongDrawn 45 = .ok (.ifCond .eq 7, 3) := by decide +kernel
theorem dX13_wrongDrawn_48 : decode cX13_wrongDrawn 48 = .ok (.iconst 0, 1) := by decide +kernel
theorem dX13_wrongDrawn_49 : decode cX13_wrongDrawn 49 = .ok (.goto 5, 3) := by decide +kernel
theorem dX13_wrongDrawn_52 : decode cX13_wrongDrawn 52 = .ok (.bipush (-7), 2) := by decide +kernel
theorem dX13_wrongDrawn_54 : decode cX13_wrongDrawn 54 = .ok (.ireturn, 1) := by decide +kernel
set_option maxRecDepth 100000 in
set_option maxHeartbeats 4000000 in
theorem wp_X13_wrongDrawn {n0 d : Nat} {K : z_K} {I : z_I} {L : z_L} {Q : z_q} {p0 : Int32} {p1 : Int32} {p2 : Int32} (hL : MLay K) (h : RM0 n0 xX13_isPiece d [.ref (n0 + 59), .int p0] K I L (fun vv I1 L2 => ∃ r3 : Int32, vv = some (.int r3) ∧ (if r3 = 0 then Q (some (.int (-1))) I1 L2 else RM0 n0 xX13_isSize d [.int p1] K I1 L2 (fun vv I5 L6 => ∃ r7 : Int32, vv = some (.int r7) ∧ (if r7 = 0 then Q (some (.int (-1))) I5 L6 else RM0 n0 xX13_bounds d [.int p2, .int 0, .int 1000] K I5 L6 (fun vv I9 L10 => ∃ r11 : Int32, vv = some (.int r11) ∧ (if r11 < 0 then Q (some (.int r11)) I9 L10 else RM0 n0 xX13_draw d [.ref (n0 + 59), .int p0, .int p1, .int p2, .int (-1)] K I9 L10 (fun vv I13 L14 => ∃ r15 : Int32, vv = some (.int r15) ∧ Q (some (.int (if r15 = 0 then (-7) else 0))) I13 L14)))))))) : RM0 n0 xX13_wrongDrawn (d + 1) [.ref (n0 + 59), .int p0, .int p1, .int p2] K I L Q := by
  refine z_entry0 (by decide) (Nat.le_of_ble_eq_true rfl) ?_
  change Z n0 xX13_wrongDrawn (d + 1) 0 0 0 [(0, .ref (n0 + 59)), (1, .int p0), (2, .int p1), (3, .int p2)] [] K I L (z_q0 K Q)
  refine z_aload_n 0 dX13_wrongDrawn_0 rfl ?_
  refine z_iload_n 1 dX13_wrongDrawn_1 rfl ?_
  refine z_callV0 (As := [.int p0]) (st := []) dX13_wrongDrawn_2 hy_X13_isPiece hL.1 hL.2.1 (by decide) wg_1838 wg_1840 wg_59 (Nat.le_refl _) (Nat.le_of_ble_eq_true rfl) (RM0.mono h (fun vv I1 L2 h => ?_))
  obtain ⟨r3, rfl, h⟩ := h
  change Z n0 xX13_wrongDrawn (d + 1) 0 0 5 [(0, .ref (n0 + 59)), (1, .int p0), (2, .int p1), (3, .int p2)] [.int r3] K I1 L2 (z_q0 K Q)
  refine z_if_eq 15 dX13_wrongDrawn_5 (by decide) (fun g4 => ?_) (fun g4 => ?_)
  · rw [if_pos g4] at h
    refine z_iconst (-1) dX13_wrongDrawn_15 (by decide) ?_
    exact z_iret dX13_wrongDrawn_16 rfl ⟨rfl, h⟩
  · rw [if_neg g4] at h
    refine z_iload_n 2 dX13_wrongDrawn_8 rfl ?_
    refine z_callS0 (As := [.int p1]) (st := []) dX13_wrongDrawn_9 hy_X13_isSize wg_1793 wg_1794 (Nat.le_refl _) (Nat.le_of_ble_eq_true rfl) (RM0.mono h (fun vv I5 L6 h => ?_))
    obtain ⟨r7, rfl, h⟩ := h
    change Z n0 xX13_wrongDrawn (d + 1) 0 0 12 [(0, .ref (n0 + 59)), (1, .int p0), (2, .int p1), (3, .int p2)] [.int r7] K I5 L6 (z_q0 K Q)
    refine z_if_ne 17 dX13_wrongDrawn_12 (by decide) (fun g8 => ?_) (fun g8 => ?_)
    · rw [if_neg g8] at h
      refine z_iload_n 3 dX13_wrongDrawn_17 rfl ?_
      refine z_iconst 0 dX13_wrongDrawn_18 (by decide) ?_
      refine z_sipush 1000 dX13_wrongDrawn_19 (by decide) ?_
      refine z_callS0 (As := [.int p2, .int 0, .int 1000]) (st := []) dX13_wrongDrawn_22 hy_X13_bounds wg_1797 wg_1798 (Nat.le_refl _) (Nat.le_of_ble_eq_true rfl) (RM0.mono h (fun vv I9 L10 h => ?_))
      obtain ⟨r11, rfl, h⟩ := h
      change Z n0 xX13_wrongDrawn (d + 1) 0 0 25 [(0, .ref (n0 + 59)), (1, .int p0), (2, .int p1), (3, .int p2)] [.int r11] K I9 L10 (z_q0 K Q)
      refine z_istore [1, 2, 3, 4, 0] [(0, .ref (n0 + 59)), (1, .int p0), (2, .int p1), (3, .int p2), (4, .int r11)] dX13_wrongDrawn_25 (by decide) rfl ?_
      refine z_iload 4 dX13_wrongDrawn_27 rfl ?_
      refine z_if_ge 37 dX13_wrongDrawn_29 (by decide) (fun g12 => ?_) (fun g12 => ?_)
      · rw [if_neg g12] at h
        refine z_aload_n 0 dX13_wrongDrawn_37 rfl ?_
        refine z_iload_n 1 dX13_wrongDrawn_38 rfl ?_
        refine z_iload_n 2 dX13_wrongDrawn_39 rfl ?_
        refine z_iload_n 3 dX13_wrongDrawn_40 rfl ?_
        refine z_iconst (-1) dX13_wrongDrawn_41 (by decide) ?_
        refine z_callV0 (As := [.int p0, .int p1, .int p2, .int (-1)]) (st := []) dX13_wrongDrawn_42 hy_X13_draw hL.1 hL.2.1 (by decide) wg_1958 wg_1960 wg_76 (Nat.le_refl _) (Nat.le_of_ble_eq_true rfl) (RM0.mono h (fun vv I13 L14 h => ?_))
        obtain ⟨r15, rfl, h⟩ := h
        change Z n0 xX13_wrongDrawn (d + 1) 0 0 45 [(0, .ref (n0 + 59)), (1, .int p0), (2, .int p1), (3, .int p2), (4, .int r11)] [.int r15] K I13 L14 (z_q0 K Q)
        have key17 : Z n0 xX13_wrongDrawn (d + 1) 0 0 54 [] [.int (if r15 = 0 then (-7) else 0)] K I13 L14 (z_q0 K Q) := by
          exact z_iret dX13_wrongDrawn_54 rfl ⟨rfl, h⟩
        refine z_if_eq 52 dX13_wrongDrawn_45 (by decide) (fun g16 => ?_) (fun g16 => ?_)
        · refine z_bipush (-7) dX13_wrongDrawn_52 (by decide) ?_
          have ee : ((if r15 = 0 then (-7) else 0) : Int32) = (-7) := by rw [if_pos g16]
          rw [ee] at key17
          clear ee
          refine z_sub [] rfl ?_
          exact key17
        · refine z_iconst 0 dX13_wrongDrawn_48 (by decide) ?_
          refine z_goto 54 dX13_wrongDrawn_49 (by decide) ?_
          have ee : ((if r15 = 0 then (-7) else 0) : Int32) = 0 := by rw [if_neg g16]
          rw [ee] at key17
          clear ee
          refine z_sub [] rfl ?_
          exact key17
      · rw [if_pos g12] at h
        refine z_iload 4 dX13_wrongDrawn_32 rfl ?_
        refine z_goto 54 dX13_wrongDrawn_34 (by decide) ?_
        exact z_iret dX13_wrongDrawn_54 rfl ⟨rfl, h⟩
    · rw [if_pos g8] at h
      refine z_iconst (-1) dX13_wrongDrawn_15 (by decide) ?_
      exact z_iret dX13_wrongDrawn_16 rfl ⟨rfl, h⟩
theorem dX13_at_0 : decode cX13_at 0 = .ok (.aload_n 0, 1) := by decide +kernel
theorem dX13_at_1 : decode cX13_at 1 = .ok (.iload_n 1, 1) := by decide +kernel
theorem dX13_at_2 : decode cX13_at 2 = .ok (.iload_n 2, 1) := by decide +kernel
theorem dX13_at_3 : decode cX13_at 3 = .ok (.invokevirtual 445, 3) := by decide +kernel
theorem dX13_at_6 : decode cX13_at 6 = .ok (.ifCond .eq 10, 3) := by decide +kernel
theorem dX13_at_9 : decode cX13_at 9 = .ok (.iload_n 3, 1) := by decide +kernel
theorem dX13_at_10 : decode cX13_at 10 = .ok (.invokestatic 321, 3) := by decide +kernel
theorem dX13_at_13 : decode cX13_at 13 = .ok (.ifCond .ne 9, 3) := by decide +kernel
theorem dX13_at_16 : decode cX13_at 16 = .ok (.aload_n 0, 1) := by decide +kernel
theorem dX13_at_17 : decode cX13_at 17 = .ok (.iconst (-1), 1) := by decide +kernel
theorem dX13_at_18 : decode cX13_at 18 = .ok (.invokevirtual 334, 3) := by decide +kernel
theorem dX13_at_21 : decode cX13_at 21 = .ok (.ireturn, 1) := by decide +kernel
theorem dX13_at_22 : decode cX13_at 22 = .ok (.iload 5, 2) := by decide +kernel
theorem dX13_at_24 : decode cX13_at 24 = .ok (.i2l, 1) := by decide +kernel
theorem dX13_at_25 : decode cX13_at 25 = .ok (.lconst 0, 1) := by decide +kernel
theorem dX13_at_26 : decode cX13_at 26 = .ok (.lconst 1, 1) := by decide +kernel
theorem dX13_at_27 : decode cX13_at 27 = .ok (.invokestatic 291, 3) := by decide +kernel
theorem dX13_at_30 : decode cX13_at 30 = .ok (.ifCond .ne 10, 3) := by decide +kernel
theorem dX13_at_33 : decode cX13_at 33 = .ok (.aload_n 0, 1) := by decide +kernel
theorem dX13_at_34 : decode cX13_at 34 = .ok (.bipush (-2), 2) := by decide +kernel
theorem dX13_at_36 : decode cX13_at 36 = .ok (.invokevirtual 334, 3) := by decide +kernel
theorem dX13_at_39 : decode cX13_at 39 = .ok (.ireturn, 1) := by decide +kernel
theorem dX13_at_40 : decode cX13_at 40 = .ok (.aload_n 0, 1) := by decide +kernel
theorem dX13_at_41 : decode cX13_at 41 = .ok (.iload_n 1, 1) := by decide +kernel
theorem dX13_at_42 : decode cX13_at 42 = .ok (.iload_n 3, 1) := by decide +kernel
theorem dX13_at_43 : decode cX13_at 43 = .ok (.iload 4, 2) := by decide +kernel
theorem dX13_at_45 : decode cX13_at 45 = .ok (.invokevirtual 495, 3) := by decide +kernel
theorem dX13_at_48 : decode cX13_at 48 = .ok (.istore 6, 2) := by decide +kernel
theorem dX13_at_50 : decode cX13_at 50 = .ok (.iload 6, 2) := by decide +kernel
theorem dX13_at_52 : decode cX13_at 52 = .ok (.ifCond .ge 12, 3) := by decide +kernel
theorem dX13_at_55 : decode cX13_at 55 = .ok (.aload_n 0, 1) := by decide +kernel
theorem dX13_at_56 : decode cX13_at 56 = .ok (.iload 6, 2) := by decide +kernel
theorem dX13_at_58 : decode cX13_at 58 = .ok (.invokevirtual 334, 3) := by decide +kernel
theorem dX13_at_61 : decode cX13_at 61 = .ok (.goto 23, 3) := by decide +kernel
theorem dX13_at_64 : decode cX13_at 64 = .ok (.iload 5, 2) := by decide +kernel
theorem dX13_at_66 : decode cX13_at 66 = .ok (.ifCond .ne 12, 3) := by decide +kernel
theorem dX13_at_69 : decode cX13_at 69 = .ok (.aload_n 0, 1) := by decide +kernel
theorem dX13_at_70 : decode cX13_at 70 = .ok (.getfield 108, 3) := by decide +kernel
theorem dX13_at_73 : decode cX13_at 73 = .ok (.iload_n 2, 1) := by decide +kernel
theorem dX13_at_74 : decode cX13_at 74 = .ok (.iaload, 1) := by decide +kernel
theorem dX13_at_75 : decode cX13_at 75 = .ok (.goto 9, 3) := by decide +kernel
theorem dX13_at_78 : decode cX13_at 78 = .ok (.aload_n 0, 1) := by decide +kernel
theorem dX13_at_79 : decode cX13_at 79 = .ok (.getfield 111, 3) := by decide +kernel
theorem dX13_at_82 : decode cX13_at 82 = .ok (.iload_n 2, 1) := by decide +kernel
theorem dX13_at_83 : decode cX13_at 83 = .ok (.iaload, 1) := by decide +kernel
theorem dX13_at_84 : decode cX13_at 84 = .ok (.ireturn, 1) := by decide +kernel
set_option maxRecDepth 100000 in
set_option maxHeartbeats 4000000 in
theorem wp_X13_at {n0 d : Nat} {K : z_K} {I : z_I} {L : z_L} {Q : z_q} {p0 : Int32} {p1 : Int32} {p2 : Int32} {p3 : Int32} {p4 : Int32} (hL : MLay K) (h : RM0 n0 xX13_isPoint d [.ref (n0 + 59), .int p0, .int p1] K I L (fun vv I1 L2 => ∃ r3 : Int32, vv = some (.int r3) ∧ (if r3 = 0 then RM0 n0 xX13_refuseFar d [.ref (n0 + 59), .int (-1)] K I1 L2 (fun vv I5 L6 => ∃ r7 : Int32, vv = some (.int r7) ∧ Q (some (.int r7)) I5 L6) else RM0 n0 xX13_isSize d [.int p2] K I1 L2 (fun vv I8 L9 => ∃ r10 : Int32, vv = some (.int r10) ∧ (if r10 = 0 then RM0 n0 xX13_refuseFar d [.ref (n0 + 59), .int (-1)] K I8 L9 (fun vv I30 L31 => ∃ r32 : Int32, vv = some (.int r32) ∧ Q (some (.int r32)) I30 L31) else RM0 n0 xX13_in d [.long p4.toInt64, .long 0, .long 1] K I8 L9 (fun vv I12 L13 => ∃ r14 : Int32, vv = some (.int r14) ∧ (if r14 = 0 then RM0 n0 xX13_refuseFar d [.ref (n0 + 59), .int (-2)] K I12 L13 (fun vv I27 L28 => ∃ r29 : Int32, vv = some (.int r29) ∧ Q (some (.int r29)) I27 L28) else RM0 n0 xX13_wrongDrawn d [.ref (n0 + 59), .int p0, .int p2, .int p3] K I12 L13 (fun vv I16 L17 => ∃ r18 : Int32, vv = some (.int r18) ∧ (if r18 < 0 then RM0 n0 xX13_refuseFar d [.ref (n0 + 59), .int r18] K I16 L17 (fun vv I24 L25 => ∃ r26 : Int32, vv = some (.int r26) ∧ Q (some (.int r26)) I24 L25) else (¬ (p4 = 0) → vp_in p1 10) ∧ (p4 = 0 → vp_in p1 10) ∧ Q (some (.int (if p4 = 0 then (I16 92 p1.toNatClampNeg) else (I16 93 p1.toNatClampNeg)))) I16 L17))))))))) : RM0 n0 xX13_at (d + 1) [.ref (n0 + 59), .int p0, .int p1, .int p2, .int p3, .int p4] K I L Q := by
  refine z_entry0 (by decide) (Nat.le_of_ble_eq_true rfl) ?_
  change Z n0 xX13_at (d + 1) 0 0 0 [(0, .ref (n0 + 59)), (1, .int p0), (2, .int p1), (3, .int p2), (4, .int p3), (5, .int p4)] [] K I L (z_q0 K Q)
  refine z_aload_n 0 dX13_at_0 rfl ?_
  refine z_iload_n 1 dX13_at_1 rfl ?_
  refine z_iload_n 2 dX13_at_2 rfl ?_
  refine z_callV0 (As := [.int p0, .int p1]) (st := []) dX13_at_3 hy_X13_isPoint hL.1 hL.2.1 (by decide) wg_1855 wg_1857 wg_60 (Nat.le_refl _) (Nat.le_of_ble_eq_true rfl) (RM0.mono h (fun vv I1 L2 h => ?_))
  obtain ⟨r3, rfl, h⟩ := h
  change Z n0 xX13_at (d + 1) 0 0 6 [(0, .ref (n0 + 59)), (1, .int p0), (2, .int p1), (3, .int p2), (4, .int p3), (5, .int p4)] [.int r3] K I1 L2 (z_q0 K Q)
  refine z_if_eq 16 dX13_at_6 (by decide) (fun g4 => ?_) (fun g4 => ?_)
  · rw [if_pos g4] at h
    refine z_aload_n 0 dX13_at_16 rfl ?_
    refine z_iconst (-1) dX13_at_17 (by decide) ?_
    refine z_callV0 (As := [.int (-1)]) (st := []) dX13_at_18 hy_X13_refuseFar hL.1 hL.2.1 (by decide) wg_1820 wg_1822 wg_57 (Nat.le_refl _) (Nat.le_of_ble_eq_true rfl) (RM0.mono h (fun vv I5 L6 h => ?_))
    obtain ⟨r7, rfl, h⟩ := h
    change Z n0 xX13_at (d + 1) 0 0 21 [(0, .ref (n0 + 59)), (1, .int p0), (2, .int p1), (3, .int p2), (4, .int p3), (5, .int p4)] [.int r7] K I5 L6 (z_q0 K Q)
    exact z_iret dX13_at_21 rfl ⟨rfl, h⟩
  · rw [if_neg g4] at h
    refine z_iload_n 3 dX13_at_9 rfl ?_
    refine z_callS0 (As := [.int p2]) (st := []) dX13_at_10 hy_X13_isSize wg_1793 wg_1794 (Nat.le_refl _) (Nat.le_of_ble_eq_true rfl) (RM0.mono h (fun vv I8 L9 h => ?_))
    obtain ⟨r10, rfl, h⟩ := h
    change Z n0 xX13_at (d + 1) 0 0 13 [(0, .ref (n0 + 59)), (1, .int p0), (2, .int p1), (3, .int p2), (4, .int p3), (5, .int p4)] [.int r10] K I8 L9 (z_q0 K Q)
    refine z_if_ne 22 dX13_at_13 (by decide) (fun g11 => ?_) (fun g11 => ?_)
    · rw [if_neg g11] at h
      refine z_iload 5 dX13_at_22 rfl ?_
      refine z_i2l dX13_at_24 ?_
      refine z_lconst 0 dX13_at_25 (by decide) ?_
      refine z_lconst 1 dX13_at_26 (by decide) ?_
      refine z_callS0 (As := [.long p4.toInt64, .long 0, .long 1]) (st := []) dX13_at_27 hy_X13_in wg_1790 wg_1791 (Nat.le_refl _) (Nat.le_of_ble_eq_true rfl) (RM0.mono h (fun vv I12 L13 h => ?_))
      obtain ⟨r14, rfl, h⟩ := h
      change Z n0 xX13_at (d + 1) 0 0 30 [(0, .ref (n0 + 59)), (1, .int p0), (2, .int p1), (3, .int p2), (4, .int p3), (5, .int p4)] [.int r14] K I12 L13 (z_q0 K Q)
      refine z_if_ne 40 dX13_at_30 (by decide) (fun g15 => ?_) (fun g15 => ?_)
      · rw [if_neg g15] at h
        refine z_aload_n 0 dX13_at_40 rfl ?_
        refine z_iload_n 1 dX13_at_41 rfl ?_
        refine z_iload_n 3 dX13_at_42 rfl ?_
        refine z_iload 4 dX13_at_43 rfl ?_
        refine z_callV0 (As := [.int p0, .int p2, .int p3]) (st := []) dX13_at_45 hy_X13_wrongDrawn hL.1 hL.2.1 (by decide) wg_1954 wg_1956 wg_75 (Nat.le_refl _) (Nat.le_of_ble_eq_true rfl) (RM0.mono h (fun vv I16 L17 h => ?_))
        obtain ⟨r18, rfl, h⟩ := h
        change Z n0 xX13_at (d + 1) 0 0 48 [(0, .ref (n0 + 59)), (1, .int p0), (2, .int p1), (3, .int p2), (4, .int p3), (5, .int p4)] [.int r18] K I16 L17 (z_q0 K Q)
        refine z_istore [1, 2, 3, 4, 5, 6, 0] [(0, .ref (n0 + 59)), (1, .int p0), (2, .int p1), (3, .int p2), (4, .int p3), (5, .int p4), (6, .int r18)] dX13_at_48 (by decide) rfl ?_
        refine z_iload 6 dX13_at_50 rfl ?_
        refine z_if_ge 64 dX13_at_52 (by decide) (fun g19 => ?_) (fun g19 => ?_)
        · rw [if_neg g19] at h
          refine z_iload 5 dX13_at_64 rfl ?_
          obtain ⟨o21, o22, h⟩ := h
          have key23 : Z n0 xX13_at (d + 1) 0 0 84 [] [.int (if p4 = 0 then (I16 92 p1.toNatClampNeg) else (I16 93 p1.toNatClampNeg))] K I16 L17 (z_q0 K Q) := by
            exact z_iret dX13_at_84 rfl ⟨rfl, h⟩
          refine z_if_ne 78 dX13_at_66 (by decide) (fun g20 => ?_) (fun g20 => ?_)
          · refine z_aload_n 0 dX13_at_78 rfl ?_
            refine fg_13_111 (some 93) rfl dX13_at_79 hL.1 hL.2.1 (ma_55 hL).1 ?_
            refine z_iload_n 2 dX13_at_82 rfl ?_
            refine z_iald (I16 93 p1.toNatClampNeg) dX13_at_83 (ma_55 hL).2.1 (ma_55 hL).2.2 (o21 g20) rfl ?_
            have ee : ((if p4 = 0 then (I16 92 p1.toNatClampNeg) else (I16 93 p1.toNatClampNeg)) : Int32) = (I16 93 p1.toNatClampNeg) := by rw [if_neg g20]
            rw [ee] at key23
            clear ee
            refine z_sub [] rfl ?_
            exact key23
          · refine z_aload_n 0 dX13_at_69 rfl ?_
            refine fg_13_108 (some 92) rfl dX13_at_70 hL.1 hL.2.1 (ma_54 hL).1 ?_
            refine z_iload_n 2 dX13_at_73 rfl ?_
            refine z_iald (I16 92 p1.toNatClampNeg) dX13_at_74 (ma_54 hL).2.1 (ma_54 hL).2.2 (o22 g20) rfl ?_
            refine z_goto 84 dX13_at_75 (by decide) ?_
            have ee : ((if p4 = 0 then (I16 92 p1.toNatClampNeg) else (I16 93 p1.toNatClampNeg)) : Int32) = (I16 92 p1.toNatClampNeg) := by rw [if_pos g20]
            rw [ee] at key23
            clear ee
            refine z_sub [] rfl ?_
            exact key23
        · rw [if_pos g19] at h
          refine z_aload_n 0 dX13_at_55 rfl ?_
          refine z_iload 6 dX13_at_56 rfl ?_
          refine z_callV0 (As := [.int r18]) (st := []) dX13_at_58 hy_X13_refuseFar hL.1 hL.2.1 (by decide) wg_1820 wg_1822 wg_57 (Nat.le_refl _) (Nat.le_of_ble_eq_true rfl) (RM0.mono h (fun vv I24 L25 h => ?_))
          obtain ⟨r26, rfl, h⟩ := h
          change Z n0 xX13_at (d + 1) 0 0 61 [(0, .ref (n0 + 59)), (1, .int p0), (2, .int p1), (3, .int p2), (4, .int p3), (5, .int p4), (6, .int r18)] [.int r26] K I24 L25 (z_q0 K Q)
          refine z_goto 84 dX13_at_61 (by decide) ?_
          exact z_iret dX13_at_84 rfl ⟨rfl, h⟩
      · rw [if_pos g15] at h
        refine z_aload_n 0 dX13_at_33 rfl ?_
        refine z_bipush (-2) dX13_at_34 (by decide) ?_
        refine z_callV0 (As := [.int (-2)]) (st := []) dX13_at_36 hy_X13_refuseFar hL.1 hL.2.1 (by decide) wg_1820 wg_1822 wg_57 (Nat.le_refl _) (Nat.le_of_ble_eq_true rfl) (RM0.mono h (fun vv I27 L28 h => ?_))
        obtain ⟨r29, rfl, h⟩ := h
        change Z n0 xX13_at (d + 1) 0 0 39 [(0, .ref (n0 + 59)), (1, .int p0), (2, .int p1), (3, .int p2), (4, .int p3), (5, .int p4)] [.int r29] K I27 L28 (z_q0 K Q)
        exact z_iret dX13_at_39 rfl ⟨rfl, h⟩
    · rw [if_pos g11] at h
      refine z_aload_n 0 dX13_at_16 rfl ?_
      refine z_iconst (-1) dX13_at_17 (by decide) ?_
      refine z_callV0 (As := [.int (-1)]) (st := []) dX13_at_18 hy_X13_refuseFar hL.1 hL.2.1 (by decide) wg_1820 wg_1822 wg_57 (Nat.le_refl _) (Nat.le_of_ble_eq_true rfl) (RM0.mono h (fun vv I30 L31 h => ?_))
      obtain ⟨r32, rfl, h⟩ := h
      change Z n0 xX13_at (d + 1) 0 0 21 [(0, .ref (n0 + 59)), (1, .int p0), (2, .int p1), (3, .int p2), (4, .int p3), (5, .int p4)] [.int r32] K I30 L31 (z_q0 K Q)
      exact z_iret dX13_at_21 rfl ⟨rfl, h⟩
theorem dX13_drawFor_0 : decode cX13_drawFor 0 = .ok (.aload_n 0, 1) := by decide +kernel
theorem dX13_drawFor_1 : decode cX13_drawFor 1 = .ok (.iload_n 1, 1) := by decide +kernel
theorem dX13_drawFor_2 : decode cX13_drawFor 2 = .ok (.aload_n 0, 1) := by decide +kernel
theorem dX13_drawFor_3 : decode cX13_drawFor 3 = .ok (.getfield 22, 3) := by decide +kernel
theorem dX13_drawFor_6 : decode cX13_drawFor 6 = .ok (.iload_n 2, 1) := by decide +kernel
theorem dX13_drawFor_7 : decode cX13_drawFor 7 = .ok (.iaload, 1) := by decide +kernel
theorem dX13_drawFor_8 : decode cX13_drawFor 8 = .ok (.aload_n 0, 1) := by decide +kernel
theorem dX13_drawFor_9 : decode cX13_drawFor 9 = .ok (.getfield 312, 3) := by decide +kernel
theorem dX13_drawFor_12 : decode cX13_drawFor 12 = .ok (.iload_n 2, 1) := by decide +kernel
theorem dX13_drawFor_13 : decode cX13_drawFor 13 = .ok (.invokevirtual 491, 3) := by decide +kernel
theorem dX13_drawFor_16 : decode cX13_drawFor 16 = .ok (.ireturn, 1) := by decide +kernel
set_option maxRecDepth 100000 in
set_option maxHeartbeats 4000000 in
theorem wp_X13_drawFor {n0 d : Nat} {K : z_K} {I : z_I} {L : z_L} {Q : z_q} {p0 : Int32} {p1 : Int32} (hL : MLay K) (h : vp_in p1 12 ∧ RM0 n0 xX13_draw d [.ref (n0 + 59), .int p0, .int (I 64 p1.toNatClampNeg), .int (I 59 0), .int p1] K I L (fun vv I2 L3 => ∃ r4 : Int32, vv = some (.int r4) ∧ z_b r4 ∧ Q (some (.int r4)) I2 L3)) : RM0 n0 xX13_drawFor (d + 1) [.ref (n0 + 59), .int p0, .int p1] K I L Q := by
  refine z_entry0 (by decide) (Nat.le_of_ble_eq_true rfl) ?_
  change Z n0 xX13_drawFor (d + 1) 0 0 0 [(0, .ref (n0 + 59)), (1, .int p0), (2, .int p1)] [] K I L (z_q0 K Q)
  refine z_aload_n 0 dX13_drawFor_0 rfl ?_
  refine z_iload_n 1 dX13_drawFor_1 rfl ?_
  refine z_aload_n 0 dX13_drawFor_2 rfl ?_
  refine fg_13_22 (some 64) rfl dX13_drawFor_3 hL.1 hL.2.1 (ma_7 hL).1 ?_
  refine z_iload_n 2 dX13_drawFor_6 rfl ?_
  obtain ⟨o1, h⟩ := h
  refine z_iald (I 64 p1.toNatClampNeg) dX13_drawFor_7 (ma_7 hL).2.1 (ma_7 hL).2.2 o1 rfl ?_
  refine z_aload_n 0 dX13_drawFor_8 rfl ?_
  refine fg_13_312 (I 59 0) rfl dX13_drawFor_9 hL.1 hL.2.1 rfl ?_
  refine z_iload_n 2 dX13_drawFor_12 rfl ?_
  refine z_callV0 (As := [.int p0, .int (I 64 p1.toNatClampNeg), .int (I 59 0), .int p1]) (st := []) dX13_drawFor_13 hy_X13_draw hL.1 hL.2.1 (by decide) wg_1958 wg_1960 wg_76 (Nat.le_refl _) (Nat.le_of_ble_eq_true rfl) (RM0.mono h (fun vv I2 L3 h => ?_))
  obtain ⟨r4, rfl, h⟩ := h
  change Z n0 xX13_drawFor (d + 1) 0 0 16 [(0, .ref (n0 + 59)), (1, .int p0), (2, .int p1)] [.int r4] K I2 L3 (z_q0 K Q)
  obtain ⟨o5, h⟩ := h
  exact z_zretb dX13_drawFor_16 rfl o5 ⟨rfl, h⟩
theorem dX13_on_0 : decode cX13_on 0 = .ok (.aload_n 0, 1) := by decide +kernel
theorem dX13_on_1 : decode cX13_on 1 = .ok (.iload_n 1, 1) := by decide +kernel
theorem dX13_on_2 : decode cX13_on 2 = .ok (.iload_n 2, 1) := by decide +kernel
theorem dX13_on_3 : decode cX13_on 3 = .ok (.invokevirtual 445, 3) := by decide +kernel
theorem dX13_on_6 : decode cX13_on 6 = .ok (.ifCond .eq 11, 3) := by decide +kernel
theorem dX13_on_9 : decode cX13_on 9 = .ok (.aload_n 0, 1) := by decide +kernel
theorem dX13_on_10 : decode cX13_on 10 = .ok (.iload_n 3, 1) := by decide +kernel
theorem dX13_on_11 : decode cX13_on 11 = .ok (.invokevirtual 331, 3) := by decide +kernel
theorem dX13_on_14 : decode cX13_on 14 = .ok (.ifCond .ne 9, 3) := by decide +kernel
theorem dX13_on_17 : decode cX13_on 17 = .ok (.aload_n 0, 1) := by decide +kernel
theorem dX13_on_18 : decode cX13_on 18 = .ok (.iconst (-1), 1) := by decide +kernel
theorem dX13_on_19 : decode cX13_on 19 = .ok (.invokevirtual 334, 3) := by decide +kernel
theorem dX13_on_22 : decode cX13_on 22 = .ok (.ireturn, 1) := by decide +kernel
theorem dX13_on_23 : decode cX13_on 23 = .ok (.iload 4, 2) := by decide +kernel
theorem dX13_on_25 : decode cX13_on 25 = .ok (.i2l, 1) := by decide +kernel
theorem dX13_on_26 : decode cX13_on 26 = .ok (.lconst 0, 1) := by decide +kernel
theorem dX13_on_27 : decode cX13_on 27 = .ok (.lconst 1, 1) := by decide +kernel
theorem dX13_on_28 : decode cX13_on 28 = .ok (.invokestatic 291, 3) := by decide +kernel
theorem dX13_on_31 : decode cX13_on 31 = .ok (.ifCond .ne 10, 3) := by decide +kernel
theorem dX13_on_34 : decode cX13_on 34 = .ok (.aload_n 0, 1) := by decide +kernel
theorem dX13_on_35 : decode cX13_on 35 = .ok (.bipush (-2), 2) := by decide +kernel
theorem dX13_on_37 : decode cX13_on 37 = .ok (.invokevirtual 334, 3) := by decide +kernel
theorem dX13_on_40 : decode cX13_on 40 = .ok (.ireturn, 1) := by decide +kernel
theorem dX13_on_41 : decode cX13_on 41 = .ok (.aload_n 0, 1) := by decide +kernel
theorem dX13_on_42 : decode cX13_on 42 = .ok (.iload_n 1, 1) := by decide +kernel
theorem dX13_on_43 : decode cX13_on 43 = .ok (.iload_n 3, 1) := by decide +kernel
theorem dX13_on_44 : decode cX13_on 44 = .ok (.invokevirtual 498, 3) := by decide +kernel
theorem dX13_on_47 : decode cX13_on 47 = .ok (.ifCond .ne 12, 3) := by decide +kernel
theorem dX13_on_50 : decode cX13_on 50 = .ok (.aload_n 0, 1) := by decide +kernel
theorem dX13_on_51 : decode cX13_on 51 = .ok (.bipush (-7), 2) := by decide +kernel
theorem dX13_on_53 : decode cX13_on 53 = .ok (.invokevirtual 334, 3) := by decide +kernel
theorem dX13_on_56 : decode cX13_on 56 = .ok (.goto 23, 3) := by decide +kernel
theorem dX13_on_59 : decode cX13_on 59 = .ok (.iload 4, 2) := by decide +kernel
theorem dX13_on_61 : decode cX13_on 61 = .ok (.ifCond .ne 12, 3) := by decide +kernel
theorem dX13_on_64 : decode cX13_on 64 = .ok (.aload_n 0, 1) := by decide +kernel
theorem dX13_on_65 : decode cX13_on 65 = .ok (.getfield 108, 3) := by decide +kernel
theorem dX13_on_68 : decode cX13_on 68 = .ok (.iload_n 2, 1) := by decide +kernel
theorem dX13_on_69 : decode cX13_on 69 = .ok (.iaload, 1) := by decide +kernel
theorem dX13_on_70 : decode cX13_on 70 = .ok (.goto 9, 3) := by decide +kernel
theorem dX13_on_73 : decode cX13_on 73 = .ok (.aload_n 0, 1) := by decide +kernel
theorem dX13_on_74 : decode cX13_on 74 = .ok (.getfield 111, 3) := by decide +kernel
theorem dX13_on_77 : decode cX13_on 77 = .ok (.iload_n 2, 1) := by decide +kernel
theorem dX13_on_78 : decode cX13_on 78 = .ok (.iaload, 1) := by decide +kernel
theorem dX13_on_79 : decode cX13_on 79 = .ok (.ireturn, 1) := by decide +kernel
set_option maxRecDepth 100000 in
set_option maxHeartbeats 4000000 in
theorem wp_X13_on {n0 d : Nat} {K : z_K} {I : z_I} {L : z_L} {Q : z_q} {p0 : Int32} {p1 : Int32} {p2 : Int32} {p3 : Int32} (hL : MLay K) (h : RM0 n0 xX13_isPoint d [.ref (n0 + 59), .int p0, .int p1] K I L (fun vv I1 L2 => ∃ r3 : Int32, vv = some (.int r3) ∧ (if r3 = 0 then RM0 n0 xX13_refuseFar d [.ref (n0 + 59), .int (-1)] K I1 L2 (fun vv I5 L6 => ∃ r7 : Int32, vv = some (.int r7) ∧ Q (some (.int r7)) I5 L6) else RM0 n0 xX13_isBody d [.ref (n0 + 59), .int p2] K I1 L2 (fun vv I8 L9 => ∃ r10 : Int32, vv = some (.int r10) ∧ (if r10 = 0 then RM0 n0 xX13_refuseFar d [.ref (n0 + 59), .int (-1)] K I8 L9 (fun vv I30 L31 => ∃ r32 : Int32, vv = some (.int r32) ∧ Q (some (.int r32)) I30 L31) else RM0 n0 xX13_in d [.long p3.toInt64, .long 0, .long 1] K I8 L9 (fun vv I12 L13 => ∃ r14 : Int32, vv = some (.int r14) ∧ (if r14 = 0 then RM0 n0 xX13_refuseFar d [.ref (n0 + 59), .int (-2)] K I12 L13 (fun vv I27 L28 => ∃ r29 : Int32, vv = some (.int r29) ∧ Q (some (.int r29)) I27 L28) else RM0 n0 xX13_drawFor d [.ref (n0 + 59), .int p0, .int p2] K I12 L13 (fun vv I16 L17 => ∃ r18 : Int32, vv = some (.int r18) ∧ (if r18 = 0 then RM0 n0 xX13_refuseFar d [.ref (n0 + 59), .int (-7)] K I16 L17 (fun vv I24 L25 => ∃ r26 : Int32, vv = some (.int r26) ∧ Q (some (.int r26)) I24 L25) else (¬ (p3 = 0) → vp_in p1 10) ∧ (p3 = 0 → vp_in p1 10) ∧ Q (some (.int (if p3 = 0 then (I16 92 p1.toNatClampNeg) else (I16 93 p1.toNatClampNeg)))) I16 L17))))))))) : RM0 n0 xX13_on (d + 1) [.ref (n0 + 59), .int p0, .int p1, .int p2, .int p3] K I L Q := by
  refine z_entry0 (by decide) (Nat.le_of_ble_eq_true rfl) ?_
  change Z n0 xX13_on (d + 1) 0 0 0 [(0, .ref (n0 + 59)), (1, .int p0), (2, .int p1), (3, .int p2), (4, .int p3)] [] K I L (z_q0 K Q)
  refine z_aload_n 0 dX13_on_0 rfl ?_
  refine z_iload_n 1 dX13_on_1 rfl ?_
  refine z_iload_n 2 dX13_on_2 rfl ?_
  refine z_callV0 (As := [.int p0, .int p1]) (st := []) dX13_on_3 hy_X13_isPoint hL.1 hL.2.1 (by decide) wg_1855 wg_1857 wg_60 (Nat.le_refl _) (Nat.le_of_ble_eq_true rfl) (RM0.mono h (fun vv I1 L2 h => ?_))
  obtain ⟨r3, rfl, h⟩ := h
  change Z n0 xX13_on (d + 1) 0 0 6 [(0, .ref (n0 + 59)), (1, .int p0), (2, .int p1), (3, .int p2), (4, .int p3)] [.int r3] K I1 L2 (z_q0 K Q)
  refine z_if_eq 17 dX13_on_6 (by decide) (fun g4 => ?_) (fun g4 => ?_)
  · rw [if_pos g4] at h
    refine z_aload_n 0 dX13_on_17 rfl ?_
    refine z_iconst (-1) dX13_on_18 (by decide) ?_
    refine z_callV0 (As := [.int (-1)]) (st := []) dX13_on_19 hy_X13_refuseFar hL.1 hL.2.1 (by decide) wg_1820 wg_1822 wg_57 (Nat.le_refl _) (Nat.le_of_ble_eq_true rfl) (RM0.mono h (fun vv I5 L6 h => ?_))
    obtain ⟨r7, rfl, h⟩ := h
    change Z n0 xX13_on (d + 1) 0 0 22 [(0, .ref (n0 + 59)), (1, .int p0), (2, .int p1), (3, .int p2), (4, .int p3)] [.int r7] K I5 L6 (z_q0 K Q)
    exact z_iret dX13_on_22 rfl ⟨rfl, h⟩
  · rw [if_neg g4] at h
    refine z_aload_n 0 dX13_on_9 rfl ?_
    refine z_iload_n 3 dX13_on_10 rfl ?_
    refine z_callV0 (As := [.int p2]) (st := []) dX13_on_11 hy_X13_isBody hL.1 hL.2.1 (by decide) wg_1816 wg_1818 wg_56 (Nat.le_refl _) (Nat.le_of_ble_eq_true rfl) (RM0.mono h (fun vv I8 L9 h => ?_))
    obtain ⟨r10, rfl, h⟩ := h
    change Z n0 xX13_on (d + 1) 0 0 14 [(0, .ref (n0 + 59)), (1, .int p0), (2, .int p1), (3, .int p2), (4, .int p3)] [.int r10] K I8 L9 (z_q0 K Q)
    refine z_if_ne 23 dX13_on_14 (by decide) (fun g11 => ?_) (fun g11 => ?_)
    · rw [if_neg g11] at h
      refine z_iload 4 dX13_on_23 rfl ?_
      refine z_i2l dX13_on_25 ?_
      refine z_lconst 0 dX13_on_26 (by decide) ?_
      refine z_lconst 1 dX13_on_27 (by decide) ?_
      refine z_callS0 (As := [.long p3.toInt64, .long 0, .long 1]) (st := []) dX13_on_28 hy_X13_in wg_1790 wg_1791 (Nat.le_refl _) (Nat.le_of_ble_eq_true rfl) (RM0.mono h (fun vv I12 L13 h => ?_))
      obtain ⟨r14, rfl, h⟩ := h
      change Z n0 xX13_on (d + 1) 0 0 31 [(0, .ref (n0 + 59)), (1, .int p0), (2, .int p1), (3, .int p2), (4, .int p3)] [.int r14] K I12 L13 (z_q0 K Q)
      refine z_if_ne 41 dX13_on_31 (by decide) (fun g15 => ?_) (fun g15 => ?_)
      · rw [if_neg g15] at h
        refine z_aload_n 0 dX13_on_41 rfl ?_
        refine z_iload_n 1 dX13_on_42 rfl ?_
        refine z_iload_n 3 dX13_on_43 rfl ?_
        refine z_callV0 (As := [.int p0, .int p2]) (st := []) dX13_on_44 hy_X13_drawFor hL.1 hL.2.1 (by decide) wg_1970 wg_1972 wg_78 (Nat.le_refl _) (Nat.le_of_ble_eq_true rfl) (RM0.mono h (fun vv I16 L17 h => ?_))
        obtain ⟨r18, rfl, h⟩ := h
        change Z n0 xX13_on (d + 1) 0 0 47 [(0, .ref (n0 + 59)), (1, .int p0), (2, .int p1), (3, .int p2), (4, .int p3)] [.int r18] K I16 L17 (z_q0 K Q)
        refine z_if_ne 59 dX13_on_47 (by decide) (fun g19 => ?_) (fun g19 => ?_)
        · rw [if_neg g19] at h
          refine z_iload 4 dX13_on_59 rfl ?_
          obtain ⟨o21, o22, h⟩ := h
          have key23 : Z n0 xX13_on (d + 1) 0 0 79 [] [.int (if p3 = 0 then (I16 92 p1.toNatClampNeg) else (I16 93 p1.toNatClampNeg))] K I16 L17 (z_q0 K Q) := by
            exact z_iret dX13_on_79 rfl ⟨rfl, h⟩
          refine z_if_ne 73 dX13_on_61 (by decide) (fun g20 => ?_) (fun g20 => ?_)
          · refine z_aload_n 0 dX13_on_73 rfl ?_
            refine fg_13_111 (some 93) rfl dX13_on_74 hL.1 hL.2.1 (ma_55 hL).1 ?_
            refine z_iload_n 2 dX13_on_77 rfl ?_
            refine z_iald (I16 93 p1.toNatClampNeg) dX13_on_78 (ma_55 hL).2.1 (ma_55 hL).2.2 (o21 g20) rfl ?_
            have ee : ((if p3 = 0 then (I16 92 p1.toNatClampNeg) else (I16 93 p1.toNatClampNeg)) : Int32) = (I16 93 p1.toNatClampNeg) := by rw [if_neg g20]
            rw [ee] at key23
            clear ee
            refine z_sub [] rfl ?_
            exact key23
          · refine z_aload_n 0 dX13_on_64 rfl ?_
            refine fg_13_108 (some 92) rfl dX13_on_65 hL.1 hL.2.1 (ma_54 hL).1 ?_
            refine z_iload_n 2 dX13_on_68 rfl ?_
            refine z_iald (I16 92 p1.toNatClampNeg) dX13_on_69 (ma_54 hL).2.1 (ma_54 hL).2.2 (o22 g20) rfl ?_
            refine z_goto 79 dX13_on_70 (by decide) ?_
            have ee : ((if p3 = 0 then (I16 92 p1.toNatClampNeg) else (I16 93 p1.toNatClampNeg)) : Int32) = (I16 92 p1.toNatClampNeg) := by rw [if_pos g20]
            rw [ee] at key23
            clear ee
            refine z_sub [] rfl ?_
            exact key23
        · rw [if_pos g19] at h
          refine z_aload_n 0 dX13_on_50 rfl ?_
          refine z_bipush (-7) dX13_on_51 (by decide) ?_
          refine z_callV0 (As := [.int (-7)]) (st := []) dX13_on_53 hy_X13_refuseFar hL.1 hL.2.1 (by decide) wg_1820 wg_1822 wg_57 (Nat.le_refl _) (Nat.le_of_ble_eq_true rfl) (RM0.mono h (fun vv I24 L25 h => ?_))
          obtain ⟨r26, rfl, h⟩ := h
          change Z n0 xX13_on (d + 1) 0 0 56 [(0, .ref (n0 + 59)), (1, .int p0), (2, .int p1), (3, .int p2), (4, .int p3)] [.int r26] K I24 L25 (z_q0 K Q)
          refine z_goto 79 dX13_on_56 (by decide) ?_
          exact z_iret dX13_on_79 rfl ⟨rfl, h⟩
      · rw [if_pos g15] at h
        refine z_aload_n 0 dX13_on_34 rfl ?_
        refine z_bipush (-2) dX13_on_35 (by decide) ?_
        refine z_callV0 (As := [.int (-2)]) (st := []) dX13_on_37 hy_X13_refuseFar hL.1 hL.2.1 (by decide) wg_1820 wg_1822 wg_57 (Nat.le_refl _) (Nat.le_of_ble_eq_true rfl) (RM0.mono h (fun vv I27 L28 h => ?_))
        obtain ⟨r29, rfl, h⟩ := h
        change Z n0 xX13_on (d + 1) 0 0 40 [(0, .ref (n0 + 59)), (1, .int p0), (2, .int p1), (3, .int p2), (4, .int p3)] [.int r29] K I27 L28 (z_q0 K Q)
        exact z_iret dX13_on_40 rfl ⟨rfl, h⟩
    · rw [if_pos g11] at h
      refine z_aload_n 0 dX13_on_17 rfl ?_
      refine z_iconst (-1) dX13_on_18 (by decide) ?_
      refine z_callV0 (As := [.int (-1)]) (st := []) dX13_on_19 hy_X13_refuseFar hL.1 hL.2.1 (by decide) wg_1820 wg_1822 wg_57 (Nat.le_refl _) (Nat.le_of_ble_eq_true rfl) (RM0.mono h (fun vv I30 L31 h => ?_))
      obtain ⟨r32, rfl, h⟩ := h
      change Z n0 xX13_on (d + 1) 0 0 22 [(0, .ref (n0 + 59)), (1, .int p0), (2, .int p1), (3, .int p2), (4, .int p3)] [.int r32] K I30 L31 (z_q0 K Q)
      exact z_iret dX13_on_22 rfl ⟨rfl, h⟩
theorem dX13_length_0 : decode cX13_length 0 = .ok (.aload_n 0, 1) := by decide +kernel
theorem dX13_length_1 : decode cX13_length 1 = .ok (.iload_n 1, 1) := by decide +kernel
theorem dX13_length_2 : decode cX13_length 2 = .ok (.iload_n 2, 1) := by decide +kernel
theorem dX13_length_3 : decode cX13_length 3 = .ok (.invokevirtual 445, 3) := by decide +kernel
theorem dX13_length_6 : decode cX13_length 6 = .ok (.ifCond .eq 12, 3) := by decide +kernel
theorem dX13_length_9 : decode cX13_length 9 = .ok (.aload_n 0, 1) := by decide +kernel
theorem dX13_length_10 : decode cX13_length 10 = .ok (.iload_n 1, 1) := by decide +kernel
theorem dX13_length_11 : decode cX13_length 11 = .ok (.iload_n 3, 1) := by decide +kernel
theorem dX13_length_12 : decode cX13_length 12 = .ok (.invokevirtual 445, 3) := by decide +kernel
theorem dX13_length_15 : decode cX13_length 15 = .ok (.ifCond .ne 9, 3) := by decide +kernel
theorem dX13_length_18 : decode cX13_length 18 = .ok (.aload_n 0, 1) := by decide +kernel
theorem dX13_length_19 : decode cX13_length 19 = .ok (.iconst (-1), 1) := by decide +kernel
theorem dX13_length_20 : decode cX13_length 20 = .ok (.invokevirtual 308, 3) := by decide +kernel
theorem dX13_length_23 : decode cX13_length 23 = .ok (.ireturn, 1) := by decide +kernel
theorem dX13_length_24 : decode cX13_length 24 = .ok (.aload_n 0, 1) := by decide +kernel
theorem dX13_length_25 : decode cX13_length 25 = .ok (.iload_n 1, 1) := by decide +kernel
theorem dX13_length_26 : decode cX13_length 26 = .ok (.iload 4, 2) := by decide +kernel
theorem dX13_length_28 : decode cX13_length 28 = .ok (.iload 5, 2) := by decide +kernel
theorem dX13_length_30 : decode cX13_length 30 = .ok (.invokevirtual 495, 3) := by decide +kernel
theorem dX13_length_33 : decode cX13_length 33 = .ok (.istore 6, 2) := by decide +kernel
theorem dX13_length_35 : decode cX13_length 35 = .ok (.iload 6, 2) := by decide +kernel
theorem dX13_length_37 : decode cX13_length 37 = .ok (.ifCond .ge 12, 3) := by decide +kernel
theorem dX13_length_40 : decode cX13_length 40 = .ok (.aload_n 0, 1) := by decide +kernel
theorem dX13_length_41 : decode cX13_length 41 = .ok (.iload 6, 2) := by decide +kernel
theorem dX13_length_43 : decode cX13_length 43 = .ok (.invokevirtual 308, 3) := by decide +kernel
theorem dX13_length_46 : decode cX13_length 46 = .ok (.goto 10, 3) := by decide +kernel
theorem dX13_length_49 : decode cX13_length 49 = .ok (.aload_n 0, 1) := by decide +kernel
theorem dX13_length_50 : decode cX13_length 50 = .ok (.iload_n 1, 1) := by decide +kernel
theorem dX13_length_51 : decode cX13_length 51 = .ok (.iload_n 2, 1) := by decide +kernel
theorem dX13_length_52 : decode cX13_length 52 = .ok (.iload_n 3, 1) := by decide +kernel
theorem dX13_length_53 : decode cX13_length 53 = .ok (.invokevirtual 501, 3) := by decide +kernel
theorem dX13_length_56 : decode cX13_length 56 = .ok (.ireturn, 1) := by decide +kernel
set_option maxRecDepth 100000 in
set_option maxHeartbeats 4000000 in
theorem wp_X13_length {n0 d : Nat} {K : z_K} {I : z_I} {L : z_L} {Q : z_q} {p0 : Int32} {p1 : Int32} {p2 : Int32} {p3 : Int32} {p4 : Int32} (hL : MLay K) (h : RM0 n0 xX13_isPoint d [.ref (n0 + 59), .int p0, .int p1] K I L (fun vv I1 L2 => ∃ r3 : Int32, vv = some (.int r3) ∧ (if r3 = 0 then RM0 n0 xX13_refuse d [.ref (n0 + 59), .int (-1)] K I1 L2 (fun vv I5 L6 => ∃ r7 : Int32, vv = some (.int r7) ∧ Q (some (.int r7)) I5 L6) else RM0 n0 xX13_isPoint d [.ref (n0 + 59), .int p0, .int p2] K I1 L2 (fun vv I8 L9 => ∃ r10 : Int32, vv = some (.int r10) ∧ (if r10 = 0 then RM0 n0 xX13_refuse d [.ref (n0 + 59), .int (-1)] K I8 L9 (fun vv I22 L23 => ∃ r24 : Int32, vv = some (.int r24) ∧ Q (some (.int r24)) I22 L23) else RM0 n0 xX13_wrongDrawn d [.ref (n0 + 59), .int p0, .int p3, .int p4] K I8 L9 (fun vv I12 L13 => ∃ r14 : Int32, vv = some (.int r14) ∧ (if r14 < 0 then RM0 n0 xX13_refuse d [.ref (n0 + 59), .int r14] K I12 L13 (fun vv I19 L20 => ∃ r21 : Int32, vv = some (.int r21) ∧ Q (some (.int r21)) I19 L20) else RM0 n0 xX13_lengthOf d [.ref (n0 + 59), .int p0, .int p1, .int p2] K I12 L13 (fun vv I16 L17 => ∃ r18 : Int32, vv = some (.int r18) ∧ Q (some (.int r18)) I16 L17)))))))) : RM0 n0 xX13_length (d + 1) [.ref (n0 + 59), .int p0, .int p1, .int p2, .int p3, .int p4] K I L Q := by
  refine z_entry0 (by decide) (Nat.le_of_ble_eq_true rfl) ?_
  change Z n0 xX13_length (d + 1) 0 0 0 [(0, .ref (n0 + 59)), (1, .int p0), (2, .int p1), (3, .int p2), (4, .int p3), (5, .int p4)] [] K I L (z_q0 K Q)
  refine z_aload_n 0 dX13_length_0 rfl ?_
  refine z_iload_n 1 dX13_length_1 rfl ?_
  refine z_iload_n 2 dX13_length_2 rfl ?_
  refine z_callV0 (As := [.int p0, .int p1]) (st := []) dX13_length_3 hy_X13_isPoint hL.1 hL.2.1 (by decide) wg_1855 wg_1857 wg_60 (Nat.le_refl _) (Nat.le_of_ble_eq_true rfl) (RM0.mono h (fun vv I1 L2 h => ?_))
  obtain ⟨r3, rfl, h⟩ := h
  change Z n0 xX13_length (d + 1) 0 0 6 [(0, .ref (n0 + 59)), (1, .int p0), (2, .int p1), (3, .int p2), (4, .int p3), (5, .int p4)] [.int r3] K I1 L2 (z_q0 K Q)
  refine z_if_eq 18 dX13_length_6 (by decide) (fun g4 => ?_) (fun g4 => ?_)
  · rw [if_pos g4] at h
    refine z_aload_n 0 dX13_length_18 rfl ?_
    refine z_iconst (-1) dX13_length_19 (by decide) ?_
    refine z_callV0 (As := [.int (-1)]) (st := []) dX13_length_20 hy_X13_refuse hL.1 hL.2.1 (by decide) wg_1778 wg_1780 wg_54 (Nat.le_refl _) (Nat.le_of_ble_eq_true rfl) (RM0.mono h (fun vv I5 L6 h => ?_))
    obtain ⟨r7, rfl, h⟩ := h
    change Z n0 xX13_length (d + 1) 0 0 23 [(0, .ref (n0 + 59)), (1, .int p0), (2, .int p1), (3, .int p2), (4, .int p3), (5, .int p4)] [.int r7] K I5 L6 (z_q0 K Q)
    exact z_iret dX13_length_23 rfl ⟨rfl, h⟩
  · rw [if_neg g4] at h
    refine z_aload_n 0 dX13_length_9 rfl ?_
    refine z_iload_n 1 dX13_length_10 rfl ?_
    refine z_iload_n 3 dX13_length_11 rfl ?_
    refine z_callV0 (As := [.int p0, .int p2]) (st := []) dX13_length_12 hy_X13_isPoint hL.1 hL.2.1 (by decide) wg_1855 wg_1857 wg_60 (Nat.le_refl _) (Nat.le_of_ble_eq_true rfl) (RM0.mono h (fun vv I8 L9 h => ?_))
    obtain ⟨r10, rfl, h⟩ := h
    change Z n0 xX13_length (d + 1) 0 0 15 [(0, .ref (n0 + 59)), (1, .int p0), (2, .int p1), (3, .int p2), (4, .int p3), (5, .int p4)] [.int r10] K I8 L9 (z_q0 K Q)
    refine z_if_ne 24 dX13_length_15 (by decide) (fun g11 => ?_) (fun g11 => ?_)
    · rw [if_neg g11] at h
      refine z_aload_n 0 dX13_length_24 rfl ?_
      refine z_iload_n 1 dX13_length_25 rfl ?_
      refine z_iload 4 dX13_length_26 rfl ?_
      refine z_iload 5 dX13_length_28 rfl ?_
      refine z_callV0 (As := [.int p0, .int p3, .int p4]) (st := []) dX13_length_30 hy_X13_wrongDrawn hL.1 hL.2.1 (by decide) wg_1954 wg_1956 wg_75 (Nat.le_refl _) (Nat.le_of_ble_eq_true rfl) (RM0.mono h (fun vv I12 L13 h => ?_))
      obtain ⟨r14, rfl, h⟩ := h
      change Z n0 xX13_length (d + 1) 0 0 33 [(0, .ref (n0 + 59)), (1, .int p0), (2, .int p1), (3, .int p2), (4, .int p3), (5, .int p4)] [.int r14] K I12 L13 (z_q0 K Q)
      refine z_istore [1, 2, 3, 4, 5, 6, 0] [(0, .ref (n0 + 59)), (1, .int p0), (2, .int p1), (3, .int p2), (4, .int p3), (5, .int p4), (6, .int r14)] dX13_length_33 (by decide) rfl ?_
      refine z_iload 6 dX13_length_35 rfl ?_
      refine z_if_ge 49 dX13_length_37 (by decide) (fun g15 => ?_) (fun g15 => ?_)
      · rw [if_neg g15] at h
        refine z_aload_n 0 dX13_length_49 rfl ?_
        refine z_iload_n 1 dX13_length_50 rfl ?_
        refine z_iload_n 2 dX13_length_51 rfl ?_
        refine z_iload_n 3 dX13_length_52 rfl ?_
        refine z_callV0 (As := [.int p0, .int p1, .int p2]) (st := []) dX13_length_53 hy_X13_lengthOf hL.1 hL.2.1 (by decide) wg_1978 wg_1980 wg_79 (Nat.le_refl _) (Nat.le_of_ble_eq_true rfl) (RM0.mono h (fun vv I16 L17 h => ?_))
        obtain ⟨r18, rfl, h⟩ := h
        change Z n0 xX13_length (d + 1) 0 0 56 [(0, .ref (n0 + 59)), (1, .int p0), (2, .int p1), (3, .int p2), (4, .int p3), (5, .int p4), (6, .int r14)] [.int r18] K I16 L17 (z_q0 K Q)
        exact z_iret dX13_length_56 rfl ⟨rfl, h⟩
      · rw [if_pos g15] at h
        refine z_aload_n 0 dX13_length_40 rfl ?_
        refine z_iload 6 dX13_length_41 rfl ?_
        refine z_callV0 (As := [.int r14]) (st := []) dX13_length_43 hy_X13_refuse hL.1 hL.2.1 (by decide) wg_1778 wg_1780 wg_54 (Nat.le_refl _) (Nat.le_of_ble_eq_true rfl) (RM0.mono h (fun vv I19 L20 h => ?_))
        obtain ⟨r21, rfl, h⟩ := h
        change Z n0 xX13_length (d + 1) 0 0 46 [(0, .ref (n0 + 59)), (1, .int p0), (2, .int p1), (3, .int p2), (4, .int p3), (5, .int p4), (6, .int r14)] [.int r21] K I19 L20 (z_q0 K Q)
        refine z_goto 56 dX13_length_46 (by decide) ?_
        exact z_iret dX13_length_56 rfl ⟨rfl, h⟩
    · rw [if_pos g11] at h
      refine z_aload_n 0 dX13_length_18 rfl ?_
      refine z_iconst (-1) dX13_length_19 (by decide) ?_
      refine z_callV0 (As := [.int (-1)]) (st := []) dX13_length_20 hy_X13_refuse hL.1 hL.2.1 (by decide) wg_1778 wg_1780 wg_54 (Nat.le_refl _) (Nat.le_of_ble_eq_true rfl) (RM0.mono h (fun vv I22 L23 h => ?_))
      obtain ⟨r24, rfl, h⟩ := h
      change Z n0 xX13_length (d + 1) 0 0 23 [(0, .ref (n0 + 59)), (1, .int p0), (2, .int p1), (3, .int p2), (4, .int p3), (5, .int p4)] [.int r24] K I22 L23 (z_q0 K Q)
      exact z_iret dX13_length_23 rfl ⟨rfl, h⟩
theorem dX13_lengthOn_0 : decode cX13_lengthOn 0 = .ok (.aload_n 0, 1) := by decide +kernel
theorem dX13_lengthOn_1 : decode cX13_lengthOn 1 = .ok (.iload_n 1, 1) := by decide +kernel
theorem dX13_lengthOn_2 : decode cX13_lengthOn 2 = .ok (.iload_n 2, 1) := by decide +kernel
theorem dX13_lengthOn_3 : decode cX13_lengthOn 3 = .ok (.invokevirtual 445, 3) := by decide +kernel
theorem dX13_lengthOn_6 : decode cX13_lengthOn 6 = .ok (.ifCond .eq 21, 3) := by decide +kernel
theorem dX13_lengthOn_9 : decode cX13_lengthOn 9 = .ok (.aload_n 0, 1) := by decide +kernel
theorem dX13_lengthOn_10 : decode cX13_lengthOn 10 = .ok (.iload_n 1, 1) := by decide +kernel
theorem dX13_lengthOn_11 : decode cX13_lengthOn 11 = .ok (.iload_n 3, 1) := by decide +kernel
theorem dX13_lengthOn_12 : decode cX13_lengthOn 12 = .ok (.invokevirtual 445, 3) := by decide +kernel
theorem dX13_lengthOn_15 : decode cX13_lengthOn 15 = .ok (.ifCond .eq 12, 3) := by decide +kernel
theorem dX13_lengthOn_18 : decode cX13_lengthOn 18 = .ok (.aload_n 0, 1) := by decide +kernel
theorem dX13_lengthOn_19 : decode cX13_lengthOn 19 = .ok (.iload 4, 2) := by decide +kernel
theorem dX13_lengthOn_21 : decode cX13_lengthOn 21 = .ok (.invokevirtual 331, 3) := by decide +kernel
theorem dX13_lengthOn_24 : decode cX13_lengthOn 24 = .ok (.ifCond .ne 9, 3) := by decide +kernel
theorem dX13_lengthOn_27 : decode cX13_lengthOn 27 = .ok (.aload_n 0, 1) := by decide +kernel
theorem dX13_lengthOn_28 : decode cX13_lengthOn 28 = .ok (.iconst (-1), 1) := by decide +kernel
theorem dX13_lengthOn_29 : decode cX13_lengthOn 29 = .ok (.invokevirtual 308, 3) := by decide +kernel
theorem dX13_lengthOn_32 : decode cX13_lengthOn 32 = .ok (.ireturn, 1) := by decide +kernel
theorem dX13_lengthOn_33 : decode cX13_lengthOn 33 = .ok (.aload_n 0, 1) := by decide +kernel
theorem dX13_lengthOn_34 : decode cX13_lengthOn 34 = .ok (.iload_n 1, 1) := by decide +kernel
theorem dX13_lengthOn_35 : decode cX13_lengthOn 35 = .ok (.iload 4, 2) := by decide +kernel
theorem dX13_lengthOn_37 : decode cX13_lengthOn 37 = .ok (.invokevirtual 498, 3) := by decide +kernel
theorem dX13_lengthOn_40 : decode cX13_lengthOn 40 = .ok (.ifCond .ne 12, 3) := by decide +kernel
theorem dX13_lengthOn_43 : decode cX13_lengthOn 43 = .ok (.aload_n 0, 1) := by decide +kernel
theorem dX13_lengthOn_44 : decode cX13_lengthOn 44 = .ok (.bipush (-7), 2) := by decide +kernel
theorem dX13_lengthOn_46 : decode cX13_lengthOn 46 = .ok (.invokevirtual 308, 3) := by decide +kernel
theorem dX13_lengthOn_49 : decode cX13_lengthOn 49 = .ok (.goto 10, 3) := by decide +kernel
theorem dX13_lengthOn_52 : decode cX13_lengthOn 52 = .ok (.aload_n 0, 1) := by decide +kernel
theorem dX13_lengthOn_53 : decode cX13_lengthOn 53 = .ok (.iload_n 1, 1) := by decide +kernel
theorem dX13_lengthOn_54 : decode cX13_lengthOn 54 = .ok (.iload_n 2, 1) := by decide +kernel
theorem dX13_lengthOn_55 : decode cX13_lengthOn 55 = .ok (.iload_n 3, 1) := by decide +kernel
theorem dX13_lengthOn_56 : decode cX13_lengthOn 56 = .ok (.invokevirtual 501, 3) := by decide +kernel
theorem dX13_lengthOn_59 : decode cX13_lengthOn 59 = .ok (.ireturn, 1) := by decide +kernel
set_option maxRecDepth 100000 in
set_option maxHeartbeats 4000000 in
theorem wp_X13_lengthOn {n0 d : Nat} {K : z_K} {I : z_I} {L : z_L} {Q : z_q} {p0 : Int32} {p1 : Int32} {p2 : Int32} {p3 : Int32} (hL : MLay K) (h : RM0 n0 xX13_isPoint d [.ref (n0 + 59), .int p0, .int p1] K I L (fun vv I1 L2 => ∃ r3 : Int32, vv = some (.int r3) ∧ (if r3 = 0 then RM0 n0 xX13_refuse d [.ref (n0 + 59), .int (-1)] K I1 L2 (fun vv I5 L6 => ∃ r7 : Int32, vv = some (.int r7) ∧ Q (some (.int r7)) I5 L6) else RM0 n0 xX13_isPoint d [.ref (n0 + 59), .int p0, .int p2] K I1 L2 (fun vv I8 L9 => ∃ r10 : Int32, vv = some (.int r10) ∧ (if r10 = 0 then RM0 n0 xX13_refuse d [.ref (n0 + 59), .int (-1)] K I8 L9 (fun vv I12 L13 => ∃ r14 : Int32, vv = some (.int r14) ∧ Q (some (.int r14)) I12 L13) else RM0 n0 xX13_isBody d [.ref (n0 + 59), .int p3] K I8 L9 (fun vv I15 L16 => ∃ r17 : Int32, vv = some (.int r17) ∧ (if r17 = 0 then RM0 n0 xX13_refuse d [.ref (n0 + 59), .int (-1)] K I15 L16 (fun vv I29 L30 => ∃ r31 : Int32, vv = some (.int r31) ∧ Q (some (.int r31)) I29 L30) else RM0 n0 xX13_drawFor d [.ref (n0 + 59), .int p0, .int p3] K I15 L16 (fun vv I19 L20 => ∃ r21 : Int32, vv = some (.int r21) ∧ (if r21 = 0 then RM0 n0 xX13_refuse d [.ref (n0 + 59), .int (-7)] K I19 L20 (fun vv I26 L27 => ∃ r28 : Int32, vv = some (.int r28) ∧ Q (some (.int r28)) I26 L27) else RM0 n0 xX13_lengthOf d [.ref (n0 + 59), .int p0, .int p1, .int p2] K I19 L20 (fun vv I23 L24 => ∃ r25 : Int32, vv = some (.int r25) ∧ Q (some (.int r25)) I23 L24)))))))))) : RM0 n0 xX13_lengthOn (d + 1) [.ref (n0 + 59), .int p0, .int p1, .int p2, .int p3] K I L Q := by
  refine z_entry0 (by decide) (Nat.le_of_ble_eq_true rfl) ?_
  change Z n0 xX13_lengthOn (d + 1) 0 0 0 [(0, .ref (n0 + 59)), (1, .int p0), (2, .int p1), (3, .int p2), (4, .int p3)] [] K I L (z_q0 K Q)
  refine z_aload_n 0 dX13_lengthOn_0 rfl ?_
  refine z_iload_n 1 dX13_lengthOn_1 rfl ?_
  refine z_iload_n 2 dX13_lengthOn_2 rfl ?_
  refine z_callV0 (As := [.int p0, .int p1]) (st := []) dX13_lengthOn_3 hy_X13_isPoint hL.1 hL.2.1 (by decide) wg_1855 wg_1857 wg_60 (Nat.le_refl _) (Nat.le_of_ble_eq_true rfl) (RM0.mono h (fun vv I1 L2 h => ?_))
  obtain ⟨r3, rfl, h⟩ := h
  change Z n0 xX13_lengthOn (d + 1) 0 0 6 [(0, .ref (n0 + 59)), (1, .int p0), (2, .int p1), (3, .int p2), (4, .int p3)] [.int r3] K I1 L2 (z_q0 K Q)
  refine z_if_eq 27 dX13_lengthOn_6 (by decide) (fun g4 => ?_) (fun g4 => ?_)
  · rw [if_pos g4] at h
    refine z_aload_n 0 dX13_lengthOn_27 rfl ?_
    refine z_iconst (-1) dX13_lengthOn_28 (by decide) ?_
    refine z_callV0 (As := [.int (-1)]) (st := []) dX13_lengthOn_29 hy_X13_refuse hL.1 hL.2.1 (by decide) wg_1778 wg_1780 wg_54 (Nat.le_refl _) (Nat.le_of_ble_eq_true rfl) (RM0.mono h (fun vv I5 L6 h => ?_))
    obtain ⟨r7, rfl, h⟩ := h
    change Z n0 xX13_lengthOn (d + 1) 0 0 32 [(0, .ref (n0 + 59)), (1, .int p0), (2, .int p1), (3, .int p2), (4, .int p3)] [.int r7] K I5 L6 (z_q0 K Q)
    exact z_iret dX13_lengthOn_32 rfl ⟨rfl, h⟩
  · rw [if_neg g4] at h
    refine z_aload_n 0 dX13_lengthOn_9 rfl ?_
    refine z_iload_n 1 dX13_lengthOn_10 rfl ?_
    refine z_iload_n 3 dX13_lengthOn_11 rfl ?_
    refine z_callV0 (As := [.int p0, .int p2]) (st := []) dX13_lengthOn_12 hy_X13_isPoint hL.1 hL.2.1 (by decide) wg_1855 wg_1857 wg_60 (Nat.le_refl _) (Nat.le_of_ble_eq_true rfl) (RM0.mono h (fun vv I8 L9 h => ?_))
    obtain ⟨r10, rfl, h⟩ := h
    change Z n0 xX13_lengthOn (d + 1) 0 0 15 [(0, .ref (n0 + 59)), (1, .int p0), (2, .int p1), (3, .int p2), (4, .int p3)] [.int r10] K I8 L9 (z_q0 K Q)
    refine z_if_eq 27 dX13_lengthOn_15 (by decide) (fun g11 => ?_) (fun g11 => ?_)
    · rw [if_pos g11] at h
      refine z_aload_n 0 dX13_lengthOn_27 rfl ?_
      refine z_iconst (-1) dX13_lengthOn_28 (by decide) ?_
      refine z_callV0 (As := [.int (-1)]) (st := []) dX13_lengthOn_29 hy_X13_refuse hL.1 hL.2.1 (by decide) wg_1778 wg_1780 wg_54 (Nat.le_refl _) (Nat.le_of_ble_eq_true rfl) (RM0.mono h (fun vv I12 L13 h => ?_))
      obtain ⟨r14, rfl, h⟩ := h
      change Z n0 xX13_lengthOn (d + 1) 0 0 32 [(0, .ref (n0 + 59)), (1, .int p0), (2, .int p1), (3, .int p2), (4, .int p3)] [.int r14] K I12 L13 (z_q0 K Q)
      exact z_iret dX13_lengthOn_32 rfl ⟨rfl, h⟩
    · rw [if_neg g11] at h
      refine z_aload_n 0 dX13_lengthOn_18 rfl ?_
      refine z_iload 4 dX13_lengthOn_19 rfl ?_
      refine z_callV0 (As := [.int p3]) (st := []) dX13_lengthOn_21 hy_X13_isBody hL.1 hL.2.1 (by decide) wg_1816 wg_1818 wg_56 (Nat.le_refl _) (Nat.le_of_ble_eq_true rfl) (RM0.mono h (fun vv I15 L16 h => ?_))
      obtain ⟨r17, rfl, h⟩ := h
      change Z n0 xX13_lengthOn (d + 1) 0 0 24 [(0, .ref (n0 + 59)), (1, .int p0), (2, .int p1), (3, .int p2), (4, .int p3)] [.int r17] K I15 L16 (z_q0 K Q)
      refine z_if_ne 33 dX13_lengthOn_24 (by decide) (fun g18 => ?_) (fun g18 => ?_)
      · rw [if_neg g18] at h
        refine z_aload_n 0 dX13_lengthOn_33 rfl ?_
        refine z_iload_n 1 dX13_lengthOn_34 rfl ?_
        refine z_iload 4 dX13_lengthOn_35 rfl ?_
        refine z_callV0 (As := [.int p0, .int p3]) (st := []) dX13_lengthOn_37 hy_X13_drawFor hL.1 hL.2.1 (by decide) wg_1970 wg_1972 wg_78 (Nat.le_refl _) (Nat.le_of_ble_eq_true rfl) (RM0.mono h (fun vv I19 L20 h => ?_))
        obtain ⟨r21, rfl, h⟩ := h
        change Z n0 xX13_lengthOn (d + 1) 0 0 40 [(0, .ref (n0 + 59)), (1, .int p0), (2, .int p1), (3, .int p2), (4, .int p3)] [.int r21] K I19 L20 (z_q0 K Q)
        refine z_if_ne 52 dX13_lengthOn_40 (by decide) (fun g22 => ?_) (fun g22 => ?_)
        · rw [if_neg g22] at h
          refine z_aload_n 0 dX13_lengthOn_52 rfl ?_
          refine z_iload_n 1 dX13_lengthOn_53 rfl ?_
          refine z_iload_n 2 dX13_lengthOn_54 rfl ?_
          refine z_iload_n 3 dX13_lengthOn_55 rfl ?_
          refine z_callV0 (As := [.int p0, .int p1, .int p2]) (st := []) dX13_lengthOn_56 hy_X13_lengthOf hL.1 hL.2.1 (by decide) wg_1978 wg_1980 wg_79 (Nat.le_refl _) (Nat.le_of_ble_eq_true rfl) (RM0.mono h (fun vv I23 L24 h => ?_))
          obtain ⟨r25, rfl, h⟩ := h
          change Z n0 xX13_lengthOn (d + 1) 0 0 59 [(0, .ref (n0 + 59)), (1, .int p0), (2, .int p1), (3, .int p2), (4, .int p3)] [.int r25] K I23 L24 (z_q0 K Q)
          exact z_iret dX13_lengthOn_59 rfl ⟨rfl, h⟩
        · rw [if_pos g22] at h
          refine z_aload_n 0 dX13_lengthOn_43 rfl ?_
          refine z_bipush (-7) dX13_lengthOn_44 (by decide) ?_
          refine z_callV0 (As := [.int (-7)]) (st := []) dX13_lengthOn_46 hy_X13_refuse hL.1 hL.2.1 (by decide) wg_1778 wg_1780 wg_54 (Nat.le_refl _) (Nat.le_of_ble_eq_true rfl) (RM0.mono h (fun vv I26 L27 h => ?_))
          obtain ⟨r28, rfl, h⟩ := h
          change Z n0 xX13_lengthOn (d + 1) 0 0 49 [(0, .ref (n0 + 59)), (1, .int p0), (2, .int p1), (3, .int p2), (4, .int p3)] [.int r28] K I26 L27 (z_q0 K Q)
          refine z_goto 59 dX13_lengthOn_49 (by decide) ?_
          exact z_iret dX13_lengthOn_59 rfl ⟨rfl, h⟩
      · rw [if_pos g18] at h
        refine z_aload_n 0 dX13_lengthOn_27 rfl ?_
        refine z_iconst (-1) dX13_lengthOn_28 (by decide) ?_
        refine z_callV0 (As := [.int (-1)]) (st := []) dX13_lengthOn_29 hy_X13_refuse hL.1 hL.2.1 (by decide) wg_1778 wg_1780 wg_54 (Nat.le_refl _) (Nat.le_of_ble_eq_true rfl) (RM0.mono h (fun vv I29 L30 h => ?_))
        obtain ⟨r31, rfl, h⟩ := h
        change Z n0 xX13_lengthOn (d + 1) 0 0 32 [(0, .ref (n0 + 59)), (1, .int p0), (2, .int p1), (3, .int p2), (4, .int p3)] [.int r31] K I29 L30 (z_q0 K Q)
        exact z_iret dX13_lengthOn_32 rfl ⟨rfl, h⟩
theorem dX13_area_0 : decode cX13_area 0 = .ok (.aload_n 0, 1) := by decide +kernel
theorem dX13_area_1 : decode cX13_area 1 = .ok (.iload_n 1, 1) := by decide +kernel
theorem dX13_area_2 : decode cX13_area 2 = .ok (.iload_n 2, 1) := by decide +kernel
theorem dX13_area_3 : decode cX13_area 3 = .ok (.iload_n 3, 1) := by decide +kernel
theorem dX13_area_4 : decode cX13_area 4 = .ok (.invokevirtual 495, 3) := by decide +kernel
theorem dX13_area_7 : decode cX13_area 7 = .ok (.istore 4, 2) := by decide +kernel
theorem dX13_area_9 : decode cX13_area 9 = .ok (.iload 4, 2) := by decide +kernel
theorem dX13_area_11 : decode cX13_area 11 = .ok (.ifCond .ge 13, 3) := by decide +kernel
theorem dX13_area_14 : decode cX13_area 14 = .ok (.aload_n 0, 1) := by decide +kernel
theorem dX13_area_15 : decode cX13_area 15 = .ok (.iload 4, 2) := by decide +kernel
theorem dX13_area_17 : decode cX13_area 17 = .ok (.invokevirtual 308, 3) := by decide +kernel
theorem dX13_area_20 : decode cX13_area 20 = .ok (.i2l, 1) := by decide +kernel
theorem dX13_area_21 : decode cX13_area 21 = .ok (.goto 8, 3) := by decide +kernel
theorem dX13_area_24 : decode cX13_area 24 = .ok (.aload_n 0, 1) := by decide +kernel
theorem dX13_area_25 : decode cX13_area 25 = .ok (.iload_n 1, 1) := by decide +kernel
theorem dX13_area_26 : decode cX13_area 26 = .ok (.invokevirtual 504, 3) := by decide +kernel
theorem dX13_area_29 : decode cX13_area 29 = .ok (.lreturn, 1) := by decide +kernel
set_option maxRecDepth 100000 in
set_option maxHeartbeats 4000000 in
theorem wp_X13_area {n0 d : Nat} {K : z_K} {I : z_I} {L : z_L} {Q : z_q} {p0 : Int32} {p1 : Int32} {p2 : Int32} (hL : MLay K) (h : RM0 n0 xX13_wrongDrawn d [.ref (n0 + 59), .int p0, .int p1, .int p2] K I L (fun vv I1 L2 => ∃ r3 : Int32, vv = some (.int r3) ∧ (if r3 < 0 then RM0 n0 xX13_refuse d [.ref (n0 + 59), .int r3] K I1 L2 (fun vv I8 L9 => ∃ r10 : Int32, vv = some (.int r10) ∧ Q (some (.long r10.toInt64)) I8 L9) else RM0 n0 xX13_areaOf d [.ref (n0 + 59), .int p0] K I1 L2 (fun vv I5 L6 => ∃ r7 : Int64, vv = some (.long r7) ∧ Q (some (.long r7)) I5 L6)))) : RM0 n0 xX13_area (d + 1) [.ref (n0 + 59), .int p0, .int p1, .int p2] K I L Q := by
  refine z_entry0 (by decide) (Nat.le_of_ble_eq_true rfl) ?_
  change Z n0 xX13_area (d + 1) 0 0 0 [(0, .ref (n0 + 59)), (1, .int p0), (2, .int p1), (3, .int p2)] [] K I L (z_q0 K Q)
  refine z_aload_n 0 dX13_area_0 rfl ?_
  refine z_iload_n 1 dX13_area_1 rfl ?_
  refine z_iload_n 2 dX13_area_2 rfl ?_
  refine z_iload_n 3 dX13_area_3 rfl ?_
  refine z_callV0 (As := [.int p0, .int p1, .int p2]) (st := []) dX13_area_4 hy_X13_wrongDrawn hL.1 hL.2.1 (by decide) wg_1954 wg_1956 wg_75 (Nat.le_refl _) (Nat.le_of_ble_eq_true rfl) (RM0.mono h (fun vv I1 L2 h => ?_))
  obtain ⟨r3, rfl, h⟩ := h
  change Z n0 xX13_area (d + 1) 0 0 7 [(0, .ref (n0 + 59)), (1, .int p0), (2, .int p1), (3, .int p2)] [.int r3] K I1 L2 (z_q0 K Q)
  refine z_istore [1, 2, 3, 4, 0] [(0, .ref (n0 + 59)), (1, .int p0), (2, .int p1), (3, .int p2), (4, .int r3)] dX13_area_7 (by decide) rfl ?_
  refine z_iload 4 dX13_area_9 rfl ?_
  refine z_if_ge 24 dX13_area_11 (by decide) (fun g4 => ?_) (fun g4 => ?_)
  · rw [if_neg g4] at h
    refine z_aload_n 0 dX13_area_24 rfl ?_
    refine z_iload_n 1 dX13_area_25 rfl ?_
    refine z_callV0 (As := [.int p0]) (st := []) dX13_area_26 hy_X13_areaOf hL.1 hL.2.1 (by decide) wg_2002 wg_2004 wg_81 (Nat.le_refl _) (Nat.le_of_ble_eq_true rfl) (RM0.mono h (fun vv I5 L6 h => ?_))
    obtain ⟨r7, rfl, h⟩ := h
    change Z n0 xX13_area (d + 1) 0 0 29 [(0, .ref (n0 + 59)), (1, .int p0), (2, .int p1), (3, .int p2), (4, .int r3)] [.long r7] K I5 L6 (z_q0 K Q)
    exact z_lret dX13_area_29 rfl ⟨rfl, h⟩
  · rw [if_pos g4] at h
    refine z_aload_n 0 dX13_area_14 rfl ?_
    refine z_iload 4 dX13_area_15 rfl ?_
    refine z_callV0 (As := [.int r3]) (st := []) dX13_area_17 hy_X13_refuse hL.1 hL.2.1 (by decide) wg_1778 wg_1780 wg_54 (Nat.le_refl _) (Nat.le_of_ble_eq_true rfl) (RM0.mono h (fun vv I8 L9 h => ?_))
    obtain ⟨r10, rfl, h⟩ := h
    change Z n0 xX13_area (d + 1) 0 0 20 [(0, .ref (n0 + 59)), (1, .int p0), (2, .int p1), (3, .int p2), (4, .int r3)] [.int r10] K I8 L9 (z_q0 K Q)
    refine z_i2l dX13_area_20 ?_
    refine z_goto 29 dX13_area_21 (by decide) ?_
    exact z_lret dX13_area_29 rfl ⟨rfl, h⟩
theorem dX13_seam_0 : decode cX13_seam 0 = .ok (.aload_n 0, 1) := by decide +kernel
theorem dX13_seam_1 : decode cX13_seam 1 = .ok (.iload_n 1, 1) := by decide +kernel
theorem dX13_seam_2 : decode cX13_seam 2 = .ok (.iload_n 2, 1) := by decide +kernel
theorem dX13_seam_3 : decode cX13_seam 3 = .ok (.invokevirtual 445, 3) := by decide +kernel
theorem dX13_seam_6 : decode cX13_seam 6 = .ok (.ifCond .eq 34, 3) := by decide +kernel
theorem dX13_seam_9 : decode cX13_seam 9 = .ok (.aload_n 0, 1) := by decide +kernel
theorem dX13_seam_10 : decode cX13_seam 10 = .ok (.iload_n 1, 1) := by decide +kernel
theorem dX13_seam_11 : decode cX13_seam 11 = .ok (.iload_n 3, 1) := by decide +kernel
theorem dX13_seam_12 : decode cX13_seam 12 = .ok (.invokevirtual 445, 3) := by decide +kernel
theorem dX13_seam_15 : decode cX13_seam 15 = .ok (.ifCond .eq 25, 3) := by decide +kernel
theorem dX13_seam_18 : decode cX13_seam 18 = .ok (.aload_n 0, 1) := by decide +kernel
theorem dX13_seam_19 : decode cX13_seam 19 = .ok (.iload 4, 2) := by decide +kernel
theorem dX13_seam_21 : decode cX13_seam 21 = .ok (.iload 5, 2) := by decide +kernel
theorem dX13_seam_23 : decode cX13_seam 23 = .ok (.invokevirtual 445, 3) := by decide +kernel
theorem dX13_seam_26 : decode cX13_seam 26 = .ok (.ifCond .eq 14, 3) := by decide +kernel
theorem dX13_seam_29 : decode cX13_seam 29 = .ok (.aload_n 0, 1) := by decide +kernel
theorem dX13_seam_30 : decode cX13_seam 30 = .ok (.iload 4, 2) := by decide +kernel
theorem dX13_seam_32 : decode cX13_seam 32 = .ok (.iload 6, 2) := by decide +kernel
theorem dX13_seam_34 : decode cX13_seam 34 = .ok (.invokevirtual 445, 3) := by decide +kernel
theorem dX13_seam_37 : decode cX13_seam 37 = .ok (.ifCond .ne 9, 3) := by decide +kernel
theorem dX13_seam_40 : decode cX13_seam 40 = .ok (.aload_n 0, 1) := by decide +kernel
theorem dX13_seam_41 : decode cX13_seam 41 = .ok (.iconst (-1), 1) := by decide +kernel
theorem dX13_seam_42 : decode cX13_seam 42 = .ok (.invokevirtual 308, 3) := by decide +kernel
theorem dX13_seam_45 : decode cX13_seam 45 = .ok (.ireturn, 1) := by decide +kernel
theorem dX13_seam_46 : decode cX13_seam 46 = .ok (.iload 7, 2) := by decide +kernel
theorem dX13_seam_48 : decode cX13_seam 48 = .ok (.sipush (-999), 3) := by decide +kernel
theorem dX13_seam_51 : decode cX13_seam 51 = .ok (.if_icmp .lt 10, 3) := by decide +kernel
theorem dX13_seam_54 : decode cX13_seam 54 = .ok (.iload 8, 2) := by decide +kernel
theorem dX13_seam_56 : decode cX13_seam 56 = .ok (.iload 7, 2) := by decide +kernel
theorem dX13_seam_58 : decode cX13_seam 58 = .ok (.if_icmp .ge 10, 3) := by decide +kernel
theorem dX13_seam_61 : decode cX13_seam 61 = .ok (.aload_n 0, 1) := by decide +kernel
theorem dX13_seam_62 : decode cX13_seam 62 = .ok (.bipush (-4), 2) := by decide +kernel
theorem dX13_seam_64 : decode cX13_seam 64 = .ok (.invokevirtual 308, 3) := by decide +kernel
theorem dX13_seam_67 : decode cX13_seam 67 = .ok (.ireturn, 1) := by decide +kernel
theorem dX13_seam_68 : decode cX13_seam 68 = .ok (.iload 7, 2) := by decide +kernel
theorem dX13_seam_70 : decode cX13_seam 70 = .ok (.sipush 999, 3) := by decide +kernel
theorem dX13_seam_73 : decode cX13_seam 73 = .ok (.if_icmp .gt 20, 3) := by decide +kernel
theorem dX13_seam_76 : decode cX13_seam 76 = .ok (.iload 8, 2) := by decide +kernel
theorem dX13_seam_78 : decode cX13_seam 78 = .ok (.sipush 999, 3) := by decide +kernel
theorem dX13_seam_81 : decode cX13_seam 81 = .ok (.if_icmp .gt 12, 3) := by decide +kernel
theorem dX13_seam_84 : decode cX13_seam 84 = .ok (.aload_n 0, 1) := by decide +kernel
theorem dX13_seam_85 : decode cX13_seam 85 = .ok (.getfield 508, 3) := by decide +kernel
theorem dX13_seam_88 : decode cX13_seam 88 = .ok (.bipush 20, 2) := by decide +kernel
theorem dX13_seam_90 : decode cX13_seam 90 = .ok (.if_icmp .ne 10, 3) := by decide +kernel
theorem dX13_seam_93 : decode cX13_seam 93 = .ok (.aload_n 0, 1) := by decide +kernel
theorem dX13_seam_94 : decode cX13_seam 94 = .ok (.bipush (-6), 2) := by decide +kernel
theorem dX13_seam_96 : decode cX13_seam 96 = .ok (.invokevirtual 308, 3) := by decide +kernel
theorem dX13_seam_99 : decode cX13_seam 99 = .ok (.ireturn, 1) := by decide +kernel
theorem dX13_seam_100 : decode cX13_seam 100 = .ok (.aload_n 0, 1) := by decide +kernel
theorem dX13_seam_101 : decode cX13_seam 101 = .ok (.getfield 126, 3) := by decide +kernel
theorem dX13_seam_104 : decode cX13_seam 104 = .ok (.aload_n 0, 1) := by decide +kernel
theorem dX13_seam_105 : decode cX13_seam 105 = .ok (.getfield 508, 3) := by decide +kernel
theorem dX13_seam_108 : decode cX13_seam 108 = .ok (.iload_n 1, 1) := by decide +kernel
theorem dX13_seam_109 : decode cX13_seam 109 = .ok (.iastore, 1) := by decide +kernel
theorem dX13_seam_110 : decode cX13_seam 110 = .ok (.aload_n 0, 1) := by decide +kernel
theorem dX13_seam_111 : decode cX13_seam 111 = .ok (.getfield 129, 3) := by decide +kernel
theorem dX13_seam_114 : decode cX13_seam 114 = .ok (.aload_n 0, 1) := by decide +kernel
theorem dX13_seam_115 : decode cX13_seam 115 = .ok (.getfield 508, 3) := by decide +kernel
theorem dX13_seam_118 : decode cX13_seam 118 = .ok (.iload_n 2, 1) := by decide +kernel
theorem dX13_seam_119 : decode cX13_seam 119 = .ok (.iastore, 1) := by decide +kernel
theorem dX13_seam_120 : decode cX13_seam 120 = .ok (.aload_n 0, 1) := by decide +kernel
theorem dX13_seam_121 : decode cX13_seam 121 = .ok (.getfield 132, 3) := by decide +kernel
theorem dX13_seam_124 : decode cX13_seam 124 = .ok (.aload_n 0, 1) := by decide +kernel
theorem dX13_seam_125 : decode cX13_seam 125 = .ok (.getfield 508, 3) := by decide +kernel
theorem dX13_seam_128 : decode cX13_seam 128 = .ok (.iload_n 3, 1) := by decide +kernel
theorem dX13_seam_129 : decode cX13_seam 129 = .ok (.iastore, 1) := by decide +kernel
theorem dX13_seam_130 : decode cX13_seam 130 = .ok (.aload_n 0, 1) := by decide +kernel
theorem dX13_seam_131 : decode cX13_seam 131 = .ok (.getfield 135, 3) := by decide +kernel
theorem dX13_seam_134 : decode cX13_seam 134 = .ok (.aload_n 0, 1) := by decide +kernel
theorem dX13_seam_135 : decode cX13_seam 135 = .ok (.getfield 508, 3) := by decide +kernel
theorem dX13_seam_138 : decode cX13_seam 138 = .ok (.iload 4, 2) := by decide +kernel
theorem dX13_seam_140 : decode cX13_seam 140 = .ok (.iastore, 1) := by decide +kernel
theorem dX13_seam_141 : decode cX13_seam 141 = .ok (.aload_n 0, 1) := by decide +kernel
theorem dX13_seam_142 : decode cX13_seam 142 = .ok (.getfield 138, 3) := by decide +kernel
theorem dX13_seam_145 : decode cX13_seam 145 = .ok (.aload_n 0, 1) := by decide +kernel
theorem dX13_seam_146 : decode cX13_seam 146 = .ok (.getfield 508, 3) := by decide +kernel
theorem dX13_seam_149 : decode cX13_seam 149 = .ok (.iload 5, 2) := by decide +kernel
theorem dX13_seam_151 : decode cX13_seam 151 = .ok (.iastore, 1) := by decide +kernel
theorem dX13_seam_152 : decode cX13_seam 152 = .ok (.aload_n 0, 1) := by decide +kernel
theorem dX13_seam_153 : decode cX13_seam 153 = .ok (.getfield 141, 3) := by decide +kernel
theorem dX13_seam_156 : decode cX13_seam 156 = .ok (.aload_n 0, 1) := by decide +kernel
theorem dX13_seam_157 : decode cX13_seam 157 = .ok (.getfield 508, 3) := by decide +kernel
theorem dX13_seam_160 : decode cX13_seam 160 = .ok (.iload 6, 2) := by decide +kernel
theorem dX13_seam_162 : decode cX13_seam 162 = .ok (.iastore, 1) := by decide +kernel
theorem dX13_seam_163 : decode cX13_seam 163 = .ok (.aload_n 0, 1) := by decide +kernel
theorem dX13_seam_164 : decode cX13_seam 164 = .ok (.getfield 144, 3) := by decide +kernel
theorem dX13_seam_167 : decode cX13_seam 167 = .ok (.aload_n 0, 1) := by decide +kernel
theorem dX13_seam_168 : decode cX13_seam 168 = .ok (.getfield 508, 3) := by decide +kernel
theorem dX13_seam_171 : decode cX13_seam 171 = .ok (.iload 7, 2) := by decide +kernel
theorem dX13_seam_173 : decode cX13_seam 173 = .ok (.iastore, 1) := by decide +kernel
theorem dX13_seam_174 : decode cX13_seam 174 = .ok (.aload_n 0, 1) := by decide +kernel
theorem dX13_seam_175 : decode cX13_seam 175 = .ok (.getfield 147, 3) := by decide +kernel
theorem dX13_seam_178 : decode cX13_seam 178 = .ok (.aload_n 0, 1) := by decide +kernel
theorem dX13_seam_179 : decode cX13_seam 179 = .ok (.getfield 508, 3) := by decide +kernel
theorem dX13_seam_182 : decode cX13_seam 182 = .ok (.iload 8, 2) := by decide +kernel
theorem dX13_seam_184 : decode cX13_seam 184 = .ok (.iastore, 1) := by decide +kernel
theorem dX13_seam_185 : decode cX13_seam 185 = .ok (.aload_n 0, 1) := by decide +kernel
theorem dX13_seam_186 : decode cX13_seam 186 = .ok (.dup, 1) := by decide +kernel
theorem dX13_seam_187 : decode cX13_seam 187 = .ok (.getfield 508, 3) := by decide +kernel
theorem dX13_seam_190 : decode cX13_seam 190 = .ok (.iconst 1, 1) := by decide +kernel
theorem dX13_seam_191 : decode cX13_seam 191 = .ok (.iadd, 1) := by decide +kernel
theorem dX13_seam_192 : decode cX13_seam 192 = .ok (.putfield 508, 3) := by decide +kernel
theorem dX13_seam_195 : decode cX13_seam 195 = .ok (.aload_n 0, 1) := by decide +kernel
theorem dX13_seam_196 : decode cX13_seam 196 = .ok (.getfield 508, 3) := by decide +kernel
theorem dX13_seam_199 : decode cX13_seam 199 = .ok (.iconst 1, 1) := by decide +kernel
theorem dX13_seam_200 : decode cX13_seam 200 = .ok (.isub, 1) := by decide +kernel
theorem dX13_seam_201 : decode cX13_seam 201 = .ok (.ireturn, 1) := by decide +kernel
set_option maxRecDepth 100000 in
set_option maxHeartbeats 4000000 in
theorem wp_X13_seam {n0 d : Nat} {K : z_K} {I : z_I} {L : z_L} {Q : z_q} {p0 : Int32} {p1 : Int32} {p2 : Int32} {p3 : Int32} {p4 : Int32} {p5 : Int32} {p6 : Int32} {p7 : Int32} (hL : MLay K) (h : RM0 n0 xX13_isPoint d [.ref (n0 + 59), .int p0, .int p1] K I L (fun vv I1 L2 => ∃ r3 : Int32, vv = some (.int r3) ∧ (if r3 = 0 then RM0 n0 xX13_refuse d [.ref (n0 + 59), .int (-1)] K I1 L2 (fun vv I5 L6 => ∃ r7 : Int32, vv = some (.int r7) ∧ Q (some (.int r7)) I5 L6) else RM0 n0 xX13_isPoint d [.ref (n0 + 59), .int p0, .int p2] K I1 L2 (fun vv I8 L9 => ∃ r10 : Int32, vv = some (.int r10) ∧ (if r10 = 0 then RM0 n0 xX13_refuse d [.ref (n0 + 59), .int (-1)] K I8 L9 (fun vv I12 L13 => ∃ r14 : Int32, vv = some (.int r14) ∧ Q (some (.int r14)) I12 L13) else RM0 n0 xX13_isPoint d [.ref (n0 + 59), .int p3, .int p4] K I8 L9 (fun vv I15 L16 => ∃ r17 : Int32, vv = some (.int r17) ∧ (if r17 = 0 then RM0 n0 xX13_refuse d [.ref (n0 + 59), .int (-1)] K I15 L16 (fun vv I19 L20 => ∃ r21 : Int32, vv = some (.int r21) ∧ Q (some (.int r21)) I19 L20) else RM0 n0 xX13_isPoint d [.ref (n0 + 59), .int p3, .int p5] K I15 L16 (fun vv I22 L23 => ∃ r24 : Int32, vv = some (.int r24) ∧ (if r24 = 0 then RM0 n0 xX13_refuse d [.ref (n0 + 59), .int (-1)] K I22 L23 (fun vv I47 L48 => ∃ r49 : Int32, vv = some (.int r49) ∧ Q (some (.int r49)) I47 L48) else (if p6 < (-999) then RM0 n0 xX13_refuse d [.ref (n0 + 59), .int (-4)] K I22 L23 (fun vv I27 L28 => ∃ r29 : Int32, vv = some (.int r29) ∧ Q (some (.int r29)) I27 L28) else (if p7 < p6 then RM0 n0 xX13_refuse d [.ref (n0 + 59), .int (-4)] K I22 L23 (fun vv I44 L45 => ∃ r46 : Int32, vv = some (.int r46) ∧ Q (some (.int r46)) I44 L45) else (if 999 < p6 then RM0 n0 xX13_refuse d [.ref (n0 + 59), .int (-6)] K I22 L23 (fun vv I32 L33 => ∃ r34 : Int32, vv = some (.int r34) ∧ Q (some (.int r34)) I32 L33) else (if 999 < p7 then RM0 n0 xX13_refuse d [.ref (n0 + 59), .int (-6)] K I22 L23 (fun vv I36 L37 => ∃ r38 : Int32, vv = some (.int r38) ∧ Q (some (.int r38)) I36 L37) else (if ((I22 59 62) : Int32) = 20 then RM0 n0 xX13_refuse d [.ref (n0 + 59), .int (-6)] K I22 L23 (fun vv I41 L42 => ∃ r43 : Int32, vv = some (.int r43) ∧ Q (some (.int r43)) I41 L42) else vp_in (I22 59 62) 20 ∧ Q (some (.int ((((I22 59 62) + 1)) - 1))) (zI (zI (zI (zI (zI (zI (zI (zI (zI I22 98 ((I22 59 62).toNatClampNeg) p0) 99 ((I22 59 62).toNatClampNeg) p1) 100 ((I22 59 62).toNatClampNeg) p2) 101 ((I22 59 62).toNatClampNeg) p3) 102 ((I22 59 62).toNatClampNeg) p4) 103 ((I22 59 62).toNatClampNeg) p5) 104 ((I22 59 62).toNatClampNeg) p6) 105 ((I22 59 62).toNatClampNeg) p7) 59 62 ((I22 59 62) + 1)) L23)))))))))))))) : RM0 n0 xX13_seam (d + 1) [.ref (n0 + 59), .int p0, .int p1, .int p2, .int p3, .int p4, .int p5, .int p6, .int p7] K I L Q := by
  refine z_entry0 (by decide) (Nat.le_of_ble_eq_true rfl) ?_
  change Z n0 xX13_seam (d + 1) 0 0 0 [(0, .ref (n0 + 59)), (1, .int p0), (2, .int p1), (3, .int p2), (4, .int p3), (5, .int p4), (6, .int p5), (7, .int p6), (8, .int p7)] [] K I L (z_q0 K Q)
  refine z_aload_n 0 dX13_seam_0 rfl ?_
  refine z_iload_n 1 dX13_seam_1 rfl ?_
  refine z_iload_n 2 dX13_seam_2 rfl ?_
  refine z_callV0 (As := [.int p0, .int p1]) (st := []) dX13_seam_3 hy_X13_isPoint hL.1 hL.2.1 (by decide) wg_1855 wg_1857 wg_60 (Nat.le_refl _) (Nat.le_of_ble_eq_true rfl) (RM0.mono h (fun vv I1 L2 h => ?_))
  obtain ⟨r3, rfl, h⟩ := h
  change Z n0 xX13_seam (d + 1) 0 0 6 [(0, .ref (n0 + 59)), (1, .int p0), (2, .int p1), (3, .int p2), (4, .int p3), (5, .int p4), (6, .int p5), (7, .int p6), (8, .int p7)] [.int r3] K I1 L2 (z_q0 K Q)
  refine z_if_eq 40 dX13_seam_6 (by decide) (fun g4 => ?_) (fun g4 => ?_)
  · rw [if_pos g4] at h
    refine z_aload_n 0 dX13_seam_40 rfl ?_
    refine z_iconst (-1) dX13_seam_41 (by decide) ?_
    refine z_callV0 (As := [.int (-1)]) (st := []) dX13_seam_42 hy_X13_refuse hL.1 hL.2.1 (by decide) wg_1778 wg_1780 wg_54 (Nat.le_refl _) (Nat.le_of_ble_eq_true rfl) (RM0.mono h (fun vv I5 L6 h => ?_))
    obtain ⟨r7, rfl, h⟩ := h
    change Z n0 xX13_seam (d + 1) 0 0 45 [(0, .ref (n0 + 59)), (1, .int p0), (2, .int p1), (3, .int p2), (4, .int p3), (5, .int p4), (6, .int p5), (7, .int p6), (8, .int p7)] [.int r7] K I5 L6 (z_q0 K Q)
    exact z_iret dX13_seam_45 rfl ⟨rfl, h⟩
  · rw [if_neg g4] at h
    refine z_aload_n 0 dX13_seam_9 rfl ?_
    refine z_iload_n 1 dX13_seam_10 rfl ?_
    refine z_iload_n 3 dX13_seam_11 rfl ?_
    refine z_callV0 (As := [.int p0, .int p2]) (st := []) dX13_seam_12 hy_X13_isPoint hL.1 hL.2.1 (by decide) wg_1855 wg_1857 wg_60 (Nat.le_refl _) (Nat.le_of_ble_eq_true rfl) (RM0.mono h (fun vv I8 L9 h => ?_))
    obtain ⟨r10, rfl, h⟩ := h
    change Z n0 xX13_seam (d + 1) 0 0 15 [(0, .ref (n0 + 59)), (1, .int p0), (2, .int p1), (3, .int p2), (4, .int p3), (5, .int p4), (6, .int p5), (7, .int p6), (8, .int p7)] [.int r10] K I8 L9 (z_q0 K Q)
    refine z_if_eq 40 dX13_seam_15 (by decide) (fun g11 => ?_) (fun g11 => ?_)
    · rw [if_pos g11] at h
      refine z_aload_n 0 dX13_seam_40 rfl ?_
      refine z_iconst (-1) dX13_seam_41 (by decide) ?_
      refine z_callV0 (As := [.int (-1)]) (st := []) dX13_seam_42 hy_X13_refuse hL.1 hL.2.1 (by decide) wg_1778 wg_1780 wg_54 (Nat.le_refl _) (Nat.le_of_ble_eq_true rfl) (RM0.mono h (fun vv I12 L13 h => ?_))
      obtain ⟨r14, rfl, h⟩ := h
      change Z n0 xX13_seam (d + 1) 0 0 45 [(0, .ref (n0 + 59)), (1, .int p0), (2, .int p1), (3, .int p2), (4, .int p3), (5, .int p4), (6, .int p5), (7, .int p6), (8, .int p7)] [.int r14] K I12 L13 (z_q0 K Q)
      exact z_iret dX13_seam_45 rfl ⟨rfl, h⟩
    · rw [if_neg g11] at h
      refine z_aload_n 0 dX13_seam_18 rfl ?_
      refine z_iload 4 dX13_seam_19 rfl ?_
      refine z_iload 5 dX13_seam_21 rfl ?_
      refine z_callV0 (As := [.int p3, .int p4]) (st := []) dX13_seam_23 hy_X13_isPoint hL.1 hL.2.1 (by decide) wg_1855 wg_1857 wg_60 (Nat.le_refl _) (Nat.le_of_ble_eq_true rfl) (RM0.mono h (fun vv I15 L16 h => ?_))
      obtain ⟨r17, rfl, h⟩ := h
      change Z n0 xX13_seam (d + 1) 0 0 26 [(0, .ref (n0 + 59)), (1, .int p0), (2, .int p1), (3, .int p2), (4, .int p3), (5, .int p4), (6, .int p5), (7, .int p6), (8, .int p7)] [.int r17] K I15 L16 (z_q0 K Q)
      refine z_if_eq 40 dX13_seam_26 (by decide) (fun g18 => ?_) (fun g18 => ?_)
      · rw [if_pos g18] at h
        refine z_aload_n 0 dX13_seam_40 rfl ?_
        refine z_iconst (-1) dX13_seam_41 (by decide) ?_
        refine z_callV0 (As := [.int (-1)]) (st := []) dX13_seam_42 hy_X13_refuse hL.1 hL.2.1 (by decide) wg_1778 wg_1780 wg_54 (Nat.le_refl _) (Nat.le_of_ble_eq_true rfl) (RM0.mono h (fun vv I19 L20 h => ?_))
        obtain ⟨r21, rfl, h⟩ := h
        change Z n0 xX13_seam (d + 1) 0 0 45 [(0, .ref (n0 + 59)), (1, .int p0), (2, .int p1), (3, .int p2), (4, .int p3), (5, .int p4), (6, .int p5), (7, .int p6), (8, .int p7)] [.int r21] K I19 L20 (z_q0 K Q)
        exact z_iret dX13_seam_45 rfl ⟨rfl, h⟩
      · rw [if_neg g18] at h
        refine z_aload_n 0 dX13_seam_29 rfl ?_
        refine z_iload 4 dX13_seam_30 rfl ?_
        refine z_iload 6 dX13_seam_32 rfl ?_
        refine z_callV0 (As := [.int p3, .int p5]) (st := []) dX13_seam_34 hy_X13_isPoint hL.1 hL.2.1 (by decide) wg_1855 wg_1857 wg_60 (Nat.le_refl _) (Nat.le_of_ble_eq_true rfl) (RM0.mono h (fun vv I22 L23 h => ?_))
        obtain ⟨r24, rfl, h⟩ := h
        change Z n0 xX13_seam (d + 1) 0 0 37 [(0, .ref (n0 + 59)), (1, .int p0), (2, .int p1), (3, .int p2), (4, .int p3), (5, .int p4), (6, .int p5), (7, .int p6), (8, .int p7)] [.int r24] K I22 L23 (z_q0 K Q)
        refine z_if_ne 46 dX13_seam_37 (by decide) (fun g25 => ?_) (fun g25 => ?_)
        · rw [if_neg g25] at h
          refine z_iload 7 dX13_seam_46 rfl ?_
          refine z_sipush (-999) dX13_seam_48 (by decide) ?_
          refine z_icmp_lt 61 dX13_seam_51 (by decide) (fun g26 => ?_) (fun g26 => ?_)
          · rw [if_pos g26] at h
            refine z_aload_n 0 dX13_seam_61 rfl ?_
            refine z_bipush (-4) dX13_seam_62 (by decide) ?_
            refine z_callV0 (As := [.int (-4)]) (st := []) dX13_seam_64 hy_X13_refuse hL.1 hL.2.1 (by decide) wg_1778 wg_1780 wg_54 (Nat.le_refl _) (Nat.le_of_ble_eq_true rfl) (RM0.mono h (fun vv I27 L28 h => ?_))
            obtain ⟨r29, rfl, h⟩ := h
            change Z n0 xX13_seam (d + 1) 0 0 67 [(0, .ref (n0 + 59)), (1, .int p0), (2, .int p1), (3, .int p2), (4, .int p3), (5, .int p4), (6, .int p5), (7, .int p6), (8, .int p7)] [.int r29] K I27 L28 (z_q0 K Q)
            exact z_iret dX13_seam_67 rfl ⟨rfl, h⟩
          · rw [if_neg g26] at h
            refine z_iload 8 dX13_seam_54 rfl ?_
            refine z_iload 7 dX13_seam_56 rfl ?_
            refine z_icmp_ge 68 dX13_seam_58 (by decide) (fun g30 => ?_) (fun g30 => ?_)
            · rw [if_neg g30] at h
              refine z_iload 7 dX13_seam_68 rfl ?_
              refine z_sipush 999 dX13_seam_70 (by decide) ?_
              refine z_icmp_gt 93 dX13_seam_73 (by decide) (fun g31 => ?_) (fun g31 => ?_)
              · rw [if_pos g31] at h
                refine z_aload_n 0 dX13_seam_93 rfl ?_
                refine z_bipush (-6) dX13_seam_94 (by decide) ?_
                refine z_callV0 (As := [.int (-6)]) (st := []) dX13_seam_96 hy_X13_refuse hL.1 hL.2.1 (by decide) wg_1778 wg_1780 wg_54 (Nat.le_refl _) (Nat.le_of_ble_eq_true rfl) (RM0.mono h (fun vv I32 L33 h => ?_))
                obtain ⟨r34, rfl, h⟩ := h
                change Z n0 xX13_seam (d + 1) 0 0 99 [(0, .ref (n0 + 59)), (1, .int p0), (2, .int p1), (3, .int p2), (4, .int p3), (5, .int p4), (6, .int p5), (7, .int p6), (8, .int p7)] [.int r34] K I32 L33 (z_q0 K Q)
                exact z_iret dX13_seam_99 rfl ⟨rfl, h⟩
              · rw [if_neg g31] at h
                refine z_iload 8 dX13_seam_76 rfl ?_
                refine z_sipush 999 dX13_seam_78 (by decide) ?_
                refine z_icmp_gt 93 dX13_seam_81 (by decide) (fun g35 => ?_) (fun g35 => ?_)
                · rw [if_pos g35] at h
                  refine z_aload_n 0 dX13_seam_93 rfl ?_
                  refine z_bipush (-6) dX13_seam_94 (by decide) ?_
                  refine z_callV0 (As := [.int (-6)]) (st := []) dX13_seam_96 hy_X13_refuse hL.1 hL.2.1 (by decide) wg_1778 wg_1780 wg_54 (Nat.le_refl _) (Nat.le_of_ble_eq_true rfl) (RM0.mono h (fun vv I36 L37 h => ?_))
                  obtain ⟨r38, rfl, h⟩ := h
                  change Z n0 xX13_seam (d + 1) 0 0 99 [(0, .ref (n0 + 59)), (1, .int p0), (2, .int p1), (3, .int p2), (4, .int p3), (5, .int p4), (6, .int p5), (7, .int p6), (8, .int p7)] [.int r38] K I36 L37 (z_q0 K Q)
                  exact z_iret dX13_seam_99 rfl ⟨rfl, h⟩
                · rw [if_neg g35] at h
                  refine z_aload_n 0 dX13_seam_84 rfl ?_
                  refine fg_13_508 (I22 59 62) rfl dX13_seam_85 hL.1 hL.2.1 rfl ?_
                  refine z_bipush 20 dX13_seam_88 (by decide) ?_
                  refine z_icmp_ne 100 dX13_seam_90 (by decide) (fun g39 => ?_) (fun g39 => ?_)
                  · rw [if_neg g39] at h
                    refine z_aload_n 0 dX13_seam_100 rfl ?_
                    refine fg_13_126 (some 98) rfl dX13_seam_101 hL.1 hL.2.1 (ma_63 hL).1 ?_
                    refine z_aload_n 0 dX13_seam_104 rfl ?_
                    refine fg_13_508 (I22 59 62) rfl dX13_seam_105 hL.1 hL.2.1 rfl ?_
                    refine z_iload_n 1 dX13_seam_108 rfl ?_
                    obtain ⟨o40, h⟩ := h
                    refine z_iast dX13_seam_109 (ma_63 hL).2.1 (ma_63 hL).2.2 o40 ?_
                    refine z_aload_n 0 dX13_seam_110 rfl ?_
                    refine fg_13_129 (some 99) rfl dX13_seam_111 hL.1 hL.2.1 (ma_64 hL).1 ?_
                    refine z_aload_n 0 dX13_seam_114 rfl ?_
                    refine fg_13_508 (I22 59 62) rfl dX13_seam_115 hL.1 hL.2.1 rfl ?_
                    refine z_iload_n 2 dX13_seam_118 rfl ?_
                    refine z_iast dX13_seam_119 (ma_64 hL).2.1 (ma_64 hL).2.2 o40 ?_
                    refine z_aload_n 0 dX13_seam_120 rfl ?_
                    refine fg_13_132 (some 100) rfl dX13_seam_121 hL.1 hL.2.1 (ma_65 hL).1 ?_
                    refine z_aload_n 0 dX13_seam_124 rfl ?_
                    refine fg_13_508 (I22 59 62) rfl dX13_seam_125 hL.1 hL.2.1 rfl ?_
                    refine z_iload_n 3 dX13_seam_128 rfl ?_
                    refine z_iast dX13_seam_129 (ma_65 hL).2.1 (ma_65 hL).2.2 o40 ?_
                    refine z_aload_n 0 dX13_seam_130 rfl ?_
                    refine fg_13_135 (some 101) rfl dX13_seam_131 hL.1 hL.2.1 (ma_66 hL).1 ?_
                    refine z_aload_n 0 dX13_seam_134 rfl ?_
                    refine fg_13_508 (I22 59 62) rfl dX13_seam_135 hL.1 hL.2.1 rfl ?_
                    refine z_iload 4 dX13_seam_138 rfl ?_
                    refine z_iast dX13_seam_140 (ma_66 hL).2.1 (ma_66 hL).2.2 o40 ?_
                    refine z_aload_n 0 dX13_seam_141 rfl ?_
                    refine fg_13_138 (some 102) rfl dX13_seam_142 hL.1 hL.2.1 (ma_67 hL).1 ?_
                    refine z_aload_n 0 dX13_seam_145 rfl ?_
                    refine fg_13_508 (I22 59 62) rfl dX13_seam_146 hL.1 hL.2.1 rfl ?_
                    refine z_iload 5 dX13_seam_149 rfl ?_
                    refine z_iast dX13_seam_151 (ma_67 hL).2.1 (ma_67 hL).2.2 o40 ?_
                    refine z_aload_n 0 dX13_seam_152 rfl ?_
                    refine fg_13_141 (some 103) rfl dX13_seam_153 hL.1 hL.2.1 (ma_68 hL).1 ?_
                    refine z_aload_n 0 dX13_seam_156 rfl ?_
                    refine fg_13_508 (I22 59 62) rfl dX13_seam_157 hL.1 hL.2.1 rfl ?_
                    refine z_iload 6 dX13_seam_160 rfl ?_
                    refine z_iast dX13_seam_162 (ma_68 hL).2.1 (ma_68 hL).2.2 o40 ?_
                    refine z_aload_n 0 dX13_seam_163 rfl ?_
                    refine fg_13_144 (some 104) rfl dX13_seam_164 hL.1 hL.2.1 (ma_69 hL).1 ?_
                    refine z_aload_n 0 dX13_seam_167 rfl ?_
                    refine fg_13_508 (I22 59 62) rfl dX13_seam_168 hL.1 hL.2.1 rfl ?_
                    refine z_iload 7 dX13_seam_171 rfl ?_
                    refine z_iast dX13_seam_173 (ma_69 hL).2.1 (ma_69 hL).2.2 o40 ?_
                    refine z_aload_n 0 dX13_seam_174 rfl ?_
                    refine fg_13_147 (some 105) rfl dX13_seam_175 hL.1 hL.2.1 (ma_70 hL).1 ?_
                    refine z_aload_n 0 dX13_seam_178 rfl ?_
                    refine fg_13_508 (I22 59 62) rfl dX13_seam_179 hL.1 hL.2.1 rfl ?_
                    refine z_iload 8 dX13_seam_182 rfl ?_
                    refine z_iast dX13_seam_184 (ma_70 hL).2.1 (ma_70 hL).2.2 o40 ?_
                    refine z_aload_n 0 dX13_seam_185 rfl ?_
                    refine z_dup dX13_seam_186 rfl ?_
                    refine fg_13_508 (I22 59 62) rfl dX13_seam_187 hL.1 hL.2.1 rfl ?_
                    refine z_iconst 1 dX13_seam_190 (by decide) ?_
                    refine z_iadd dX13_seam_191 ?_
                    refine fp_13_508 rfl dX13_seam_192 hL.1 hL.2.1 ?_
                    refine z_aload_n 0 dX13_seam_195 rfl ?_
                    refine fg_13_508 (((I22 59 62) + 1)) rfl dX13_seam_196 hL.1 hL.2.1 rfl ?_
                    refine z_iconst 1 dX13_seam_199 (by decide) ?_
                    refine z_isub dX13_seam_200 ?_
                    exact z_iret dX13_seam_201 rfl ⟨rfl, h⟩
                  · rw [if_pos g39] at h
                    refine z_aload_n 0 dX13_seam_93 rfl ?_
                    refine z_bipush (-6) dX13_seam_94 (by decide) ?_
                    refine z_callV0 (As := [.int (-6)]) (st := []) dX13_seam_96 hy_X13_refuse hL.1 hL.2.1 (by decide) wg_1778 wg_1780 wg_54 (Nat.le_refl _) (Nat.le_of_ble_eq_true rfl) (RM0.mono h (fun vv I41 L42 h => ?_))
                    obtain ⟨r43, rfl, h⟩ := h
                    change Z n0 xX13_seam (d + 1) 0 0 99 [(0, .ref (n0 + 59)), (1, .int p0), (2, .int p1), (3, .int p2), (4, .int p3), (5, .int p4), (6, .int p5), (7, .int p6), (8, .int p7)] [.int r43] K I41 L42 (z_q0 K Q)
                    exact z_iret dX13_seam_99 rfl ⟨rfl, h⟩
            · rw [if_pos g30] at h
              refine z_aload_n 0 dX13_seam_61 rfl ?_
              refine z_bipush (-4) dX13_seam_62 (by decide) ?_
              refine z_callV0 (As := [.int (-4)]) (st := []) dX13_seam_64 hy_X13_refuse hL.1 hL.2.1 (by decide) wg_1778 wg_1780 wg_54 (Nat.le_refl _) (Nat.le_of_ble_eq_true rfl) (RM0.mono h (fun vv I44 L45 h => ?_))
              obtain ⟨r46, rfl, h⟩ := h
              change Z n0 xX13_seam (d + 1) 0 0 67 [(0, .ref (n0 + 59)), (1, .int p0), (2, .int p1), (3, .int p2), (4, .int p3), (5, .int p4), (6, .int p5), (7, .int p6), (8, .int p7)] [.int r46] K I44 L45 (z_q0 K Q)
              exact z_iret dX13_seam_67 rfl ⟨rfl, h⟩
        · rw [if_pos g25] at h
          refine z_aload_n 0 dX13_seam_40 rfl ?_
          refine z_iconst (-1) dX13_seam_41 (by decide) ?_
          refine z_callV0 (As := [.int (-1)]) (st := []) dX13_seam_42 hy_X13_refuse hL.1 hL.2.1 (by decide) wg_1778 wg_1780 wg_54 (Nat.le_refl _) (Nat.le_of_ble_eq_true rfl) (RM0.mono h (fun vv I47 L48 h => ?_))
          obtain ⟨r49, rfl, h⟩ := h
          change Z n0 xX13_seam (d + 1) 0 0 45 [(0, .ref (n0 + 59)), (1, .int p0), (2, .int p1), (3, .int p2), (4, .int p3), (5, .int p4), (6, .int p5), (7, .int p6), (8, .int p7)] [.int r49] K I47 L48 (z_q0 K Q)
          exact z_iret dX13_seam_45 rfl ⟨rfl, h⟩
theorem dX13_isSeam_0 : decode cX13_isSeam 0 = .ok (.iload_n 1, 1) := by decide +kernel
theorem dX13_isSeam_1 : decode cX13_isSeam 1 = .ok (.i2l, 1) := by decide +kernel
theorem dX13_isSeam_2 : decode cX13_isSeam 2 = .ok (.lconst 0, 1) := by decide +kernel
theorem dX13_isSeam_3 : decode cX13_isSeam 3 = .ok (.aload_n 0, 1) := by decide +kernel
theorem dX13_isSeam_4 : decode cX13_isSeam 4 = .ok (.getfield 508, 3) := by decide +kernel
theorem dX13_isSeam_7 : decode cX13_isSeam 7 = .ok (.iconst 1, 1) := by decide +kernel
theorem dX13_isSeam_8 : decode cX13_isSeam 8 = .ok (.isub, 1) := by decide +kernel
theorem dX13_isSeam_9 : decode cX13_isSeam 9 = .ok (.i2l, 1) := by decide +kernel
theorem dX13_isSeam_10 : decode cX13_isSeam 10 = .ok (.invokestatic 291, 3) := by decide +kernel
theorem dX13_isSeam_13 : decode cX13_isSeam 13 = .ok (.ireturn, 1) := by decide +kernel
set_option maxRecDepth 100000 in
set_option maxHeartbeats 4000000 in
theorem wp_X13_isSeam {n0 d : Nat} {K : z_K} {I : z_I} {L : z_L} {Q : z_q} {p0 : Int32} (hL : MLay K) (h : RM0 n0 xX13_in d [.long p0.toInt64, .long 0, .long ((((I 59 62) - 1) : Int32).toInt64)] K I L (fun vv I1 L2 => ∃ r3 : Int32, vv = some (.int r3) ∧ z_b r3 ∧ Q (some (.int r3)) I1 L2)) : RM0 n0 xX13_isSeam (d + 1) [.ref (n0 + 59), .int p0] K I L Q := by
  refine z_entry0 (by decide) (Nat.le_of_ble_eq_true rfl) ?_
  change Z n0 xX13_isSeam (d + 1) 0 0 0 [(0, .ref (n0 + 59)), (1, .int p0)] [] K I L (z_q0 K Q)
  refine z_iload_n 1 dX13_isSeam_0 rfl ?_
  refine z_i2l dX13_isSeam_1 ?_
  refine z_lconst 0 dX13_isSeam_2 (by decide) ?_
  refine z_aload_n 0 dX13_isSeam_3 rfl ?_
  refine fg_13_508 (I 59 62) rfl dX13_isSeam_4 hL.1 hL.2.1 rfl ?_
  refine z_iconst 1 dX13_isSeam_7 (by decide) ?_
  refine z_isub dX13_isSeam_8 ?_
  refine z_i2l dX13_isSeam_9 ?_
  refine z_callS0 (As := [.long p0.toInt64, .long 0, .long ((((I 59 62) - 1) : Int32).toInt64)]) (st := []) dX13_isSeam_10 hy_X13_in wg_1790 wg_1791 (Nat.le_refl _) (Nat.le_of_ble_eq_true rfl) (RM0.mono h (fun vv I1 L2 h => ?_))
  obtain ⟨r3, rfl, h⟩ := h
  change Z n0 xX13_isSeam (d + 1) 0 0 13 [(0, .ref (n0 + 59)), (1, .int p0)] [.int r3] K I1 L2 (z_q0 K Q)
  obtain ⟨o4, h⟩ := h
  exact z_zretb dX13_isSeam_13 rfl o4 ⟨rfl, h⟩
theorem dX13_notch_0 : decode cX13_notch 0 = .ok (.aload_n 0, 1) := by decide +kernel
theorem dX13_notch_1 : decode cX13_notch 1 = .ok (.iload_n 1, 1) := by decide +kernel
theorem dX13_notch_2 : decode cX13_notch 2 = .ok (.invokevirtual 511, 3) := by decide +kernel
theorem dX13_notch_5 : decode cX13_notch 5 = .ok (.ifCond .ne 9, 3) := by decide +kernel
theorem dX13_notch_8 : decode cX13_notch 8 = .ok (.aload_n 0, 1) := by decide +kernel
theorem dX13_notch_9 : decode cX13_notch 9 = .ok (.iconst (-1), 1) := by decide +kernel
theorem dX13_notch_10 : decode cX13_notch 10 = .ok (.invokevirtual 308, 3) := by decide +kernel
theorem dX13_notch_13 : decode cX13_notch 13 = .ok (.ireturn, 1) := by decide +kernel
theorem dX13_notch_14 : decode cX13_notch 14 = .ok (.iload_n 2, 1) := by decide +kernel
theorem dX13_notch_15 : decode cX13_notch 15 = .ok (.ifCond .lt 7, 3) := by decide +kernel
theorem dX13_notch_18 : decode cX13_notch 18 = .ok (.iload_n 3, 1) := by decide +kernel
theorem dX13_notch_19 : decode cX13_notch 19 = .ok (.ifCond .ge 10, 3) := by decide +kernel
theorem dX13_notch_22 : decode cX13_notch 22 = .ok (.aload_n 0, 1) := by decide +kernel
theorem dX13_notch_23 : decode cX13_notch 23 = .ok (.bipush (-4), 2) := by decide +kernel
theorem dX13_notch_25 : decode cX13_notch 25 = .ok (.invokevirtual 308, 3) := by decide +kernel
theorem dX13_notch_28 : decode cX13_notch 28 = .ok (.ireturn, 1) := by decide +kernel
theorem dX13_notch_29 : decode cX13_notch 29 = .ok (.iload_n 2, 1) := by decide +kernel
theorem dX13_notch_30 : decode cX13_notch 30 = .ok (.ldc_w 514, 3) := by decide +kernel
theorem dX13_notch_33 : decode cX13_notch 33 = .ok (.if_icmp .gt 21, 3) := by decide +kernel
theorem dX13_notch_36 : decode cX13_notch 36 = .ok (.iload_n 3, 1) := by decide +kernel
theorem dX13_notch_37 : decode cX13_notch 37 = .ok (.ldc_w 514, 3) := by decide +kernel
theorem dX13_notch_40 : decode cX13_notch 40 = .ok (.if_icmp .gt 14, 3) := by decide +kernel
theorem dX13_notch_43 : decode cX13_notch 43 = .ok (.aload_n 0, 1) := by decide +kernel
theorem dX13_notch_44 : decode cX13_notch 44 = .ok (.getfield 153, 3) := by decide +kernel
theorem dX13_notch_47 : decode cX13_notch 47 = .ok (.iload_n 1, 1) := by decide +kernel
theorem dX13_notch_48 : decode cX13_notch 48 = .ok (.iaload, 1) := by decide +kernel
theorem dX13_notch_49 : decode cX13_notch 49 = .ok (.bipush 6, 2) := by decide +kernel
theorem dX13_notch_51 : decode cX13_notch 51 = .ok (.if_icmp .ne 10, 3) := by decide +kernel
theorem dX13_notch_54 : decode cX13_notch 54 = .ok (.aload_n 0, 1) := by decide +kernel
theorem dX13_notch_55 : decode cX13_notch 55 = .ok (.bipush (-6), 2) := by decide +kernel
theorem dX13_notch_57 : decode cX13_notch 57 = .ok (.invokevirtual 308, 3) := by decide +kernel
theorem dX13_notch_60 : decode cX13_notch 60 = .ok (.ireturn, 1) := by decide +kernel
theorem dX13_notch_61 : decode cX13_notch 61 = .ok (.aload_n 0, 1) := by decide +kernel
theorem dX13_notch_62 : decode cX13_notch 62 = .ok (.getfield 156, 3) := by decide +kernel
theorem dX13_notch_65 : decode cX13_notch 65 = .ok (.bipush 6, 2) := by decide +kernel
theorem dX13_notch_67 : decode cX13_notch 67 = .ok (.iload_n 1, 1) := by decide +kernel
theorem dX13_notch_68 : decode cX13_notch 68 = .ok (.imul, 1) := by decide +kernel
theorem dX13_notch_69 : decode cX13_notch 69 = .ok (.aload_n 0, 1) := by decide +kernel
theorem dX13_notch_70 : decode cX13_notch 70 = .ok (.getfield 153, 3) := by decide +kernel
theorem dX13_notch_73 : decode cX13_notch 73 = .ok (.iload_n 1, 1) := by decide +kernel
theorem dX13_notch_74 : decode cX13_notch 74 = .ok (.iaload, 1) := by decide +kernel
theorem dX13_notch_75 : decode cX13_notch 75 = .ok (.iadd, 1) := by decide +kernel
theorem dX13_notch_76 : decode cX13_notch 76 = .ok (.iload_n 2, 1) := by decide +kernel
theorem dX13_notch_77 : decode cX13_notch 77 = .ok (.iastore, 1) := by decide +kernel
theorem dX13_notch_78 : decode cX13_notch 78 = .ok (.aload_n 0, 1) := by decide +kernel
theorem dX13_notch_79 : decode cX13_notch 79 = .ok (.getfield 159, 3) := by decide +kernel
theorem dX13_notch_82 : decode cX13_notch 82 = .ok (.bipush 6, 2) := by decide +kernel
theorem dX13_notch_84 : decode cX13_notch 84 = .ok (.iload_n 1, 1) := by decide +kernel
theorem dX13_notch_85 : decode cX13_notch 85 = .ok (.imul, 1) := by decide +kernel
theorem dX13_notch_86 : decode cX13_notch 86 = .ok (.aload_n 0, 1) := by decide +kernel
theorem dX13_notch_87 : decode cX13_notch 87 = .ok (.getfield 153, 3) := by decide +kernel
theorem dX13_notch_90 : decode cX13_notch 90 = .ok (.iload_n 1, 1) := by decide +kernel
theorem dX13_notch_91 : decode cX13_notch 91 = .ok (.iaload, 1) := by decide +kernel
theorem dX13_notch_92 : decode cX13_notch 92 = .ok (.iadd, 1) := by decide +kernel
theorem dX13_notch_93 : decode cX13_notch 93 = .ok (.iload_n 3, 1) := by decide +kernel
theorem dX13_notch_94 : decode cX13_notch 94 = .ok (.iastore, 1) := by decide +kernel
theorem dX13_notch_95 : decode cX13_notch 95 = .ok (.aload_n 0, 1) := by decide +kernel
theorem dX13_notch_96 : decode cX13_notch 96 = .ok (.getfield 153, 3) := by decide +kernel
theorem dX13_notch_99 : decode cX13_notch 99 = .ok (.iload_n 1, 1) := by decide +kernel
theorem dX13_notch_100 : decode cX13_notch 100 = .ok (.dup2, 1) := by decide +kernel
theorem dX13_notch_101 : decode cX13_notch 101 = .ok (.iaload, 1) := by decide +kernel
theorem dX13_notch_102 : decode cX13_notch 102 = .ok (.iconst 1, 1) := by decide +kernel
theorem dX13_notch_103 : decode cX13_notch 103 = .ok (.iadd, 1) := by decide +kernel
theorem dX13_notch_104 : decode cX13_notch 104 = .ok (.iastore, 1) := by decide +kernel
theorem dX13_notch_105 : decode cX13_notch 105 = .ok (.aload_n 0, 1) := by decide +kernel
theorem dX13_notch_106 : decode cX13_notch 106 = .ok (.getfield 153, 3) := by decide +kernel
theorem dX13_notch_109 : decode cX13_notch 109 = .ok (.iload_n 1, 1) := by decide +kernel
theorem dX13_notch_110 : decode cX13_notch 110 = .ok (.iaload, 1) := by decide +kernel
theorem dX13_notch_111 : decode cX13_notch 111 = .ok (.ireturn, 1) := by decide +kernel
set_option maxRecDepth 100000 in
set_option maxHeartbeats 4000000 in
theorem wp_X13_notch {n0 d : Nat} {K : z_K} {I : z_I} {L : z_L} {Q : z_q} {p0 : Int32} {p1 : Int32} {p2 : Int32} (hL : MLay K) (h : RM0 n0 xX13_isSeam d [.ref (n0 + 59), .int p0] K I L (fun vv I1 L2 => ∃ r3 : Int32, vv = some (.int r3) ∧ (if r3 = 0 then RM0 n0 xX13_refuse d [.ref (n0 + 59), .int (-1)] K I1 L2 (fun vv I27 L28 => ∃ r29 : Int32, vv = some (.int r29) ∧ Q (some (.int r29)) I27 L28) else (if p1 < 0 then RM0 n0 xX13_refuse d [.ref (n0 + 59), .int (-4)] K I1 L2 (fun vv I6 L7 => ∃ r8 : Int32, vv = some (.int r8) ∧ Q (some (.int r8)) I6 L7) else (if p2 < 0 then RM0 n0 xX13_refuse d [.ref (n0 + 59), .int (-4)] K I1 L2 (fun vv I24 L25 => ∃ r26 : Int32, vv = some (.int r26) ∧ Q (some (.int r26)) I24 L25) else (if 99999 < p1 then RM0 n0 xX13_refuse d [.ref (n0 + 59), .int (-6)] K I1 L2 (fun vv I11 L12 => ∃ r13 : Int32, vv = some (.int r13) ∧ Q (some (.int r13)) I11 L12) else (if 99999 < p2 then RM0 n0 xX13_refuse d [.ref (n0 + 59), .int (-6)] K I1 L2 (fun vv I15 L16 => ∃ r17 : Int32, vv = some (.int r17) ∧ Q (some (.int r17)) I15 L16) else vp_in p0 20 ∧ (if ((I1 107 p0.toNatClampNeg) : Int32) = 6 then RM0 n0 xX13_refuse d [.ref (n0 + 59), .int (-6)] K I1 L2 (fun vv I21 L22 => ∃ r23 : Int32, vv = some (.int r23) ∧ Q (some (.int r23)) I21 L22) else vp_in ((6 * p0) + (I1 107 p0.toNatClampNeg)) 120 ∧ Q (some (.int ((zI (zI (zI I1 108 (((6 * p0) + (I1 107 p0.toNatClampNeg)).toNatClampNeg) p1) 109 (((6 * p0) + (I1 107 p0.toNatClampNeg)).toNatClampNeg) p2) 107 p0.toNatClampNeg ((I1 107 p0.toNatClampNeg) + 1)) 107 p0.toNatClampNeg))) (zI (zI (zI I1 108 (((6 * p0) + (I1 107 p0.toNatClampNeg)).toNatClampNeg) p1) 109 (((6 * p0) + (I1 107 p0.toNatClampNeg)).toNatClampNeg) p2) 107 p0.toNatClampNeg ((I1 107 p0.toNatClampNeg) + 1)) L2)))))))) : RM0 n0 xX13_notch (d + 1) [.ref (n0 + 59), .int p0, .int p1, .int p2] K I L Q := by
  refine z_entry0 (by decide) (Nat.le_of_ble_eq_true rfl) ?_
  change Z n0 xX13_notch (d + 1) 0 0 0 [(0, .ref (n0 + 59)), (1, .int p0), (2, .int p1), (3, .int p2)] [] K I L (z_q0 K Q)
  refine z_aload_n 0 dX13_notch_0 rfl ?_
  refine z_iload_n 1 dX13_notch_1 rfl ?_
  refine z_callV0 (As := [.int p0]) (st := []) dX13_notch_2 hy_X13_isSeam hL.1 hL.2.1 (by decide) wg_2014 wg_2016 wg_82 (Nat.le_refl _) (Nat.le_of_ble_eq_true rfl) (RM0.mono h (fun vv I1 L2 h => ?_))
  obtain ⟨r3, rfl, h⟩ := h
  change Z n0 xX13_notch (d + 1) 0 0 5 [(0, .ref (n0 + 59)), (1, .int p0), (2, .int p1), (3, .int p2)] [.int r3] K I1 L2 (z_q0 K Q)
  refine z_if_ne 14 dX13_notch_5 (by decide) (fun g4 => ?_) (fun g4 => ?_)
  · rw [if_neg g4] at h
    refine z_iload_n 2 dX13_notch_14 rfl ?_
    refine z_if_lt 22 dX13_notch_15 (by decide) (fun g5 => ?_) (fun g5 => ?_)
    · rw [if_pos g5] at h
      refine z_aload_n 0 dX13_notch_22 rfl ?_
      refine z_bipush (-4) dX13_notch_23 (by decide) ?_
      refine z_callV0 (As := [.int (-4)]) (st := []) dX13_notch_25 hy_X13_refuse hL.1 hL.2.1 (by decide) wg_1778 wg_1780 wg_54 (Nat.le_refl _) (Nat.le_of_ble_eq_true rfl) (RM0.mono h (fun vv I6 L7 h => ?_))
      obtain ⟨r8, rfl, h⟩ := h
      change Z n0 xX13_notch (d + 1) 0 0 28 [(0, .ref (n0 + 59)), (1, .int p0), (2, .int p1), (3, .int p2)] [.int r8] K I6 L7 (z_q0 K Q)
      exact z_iret dX13_notch_28 rfl ⟨rfl, h⟩
    · rw [if_neg g5] at h
      refine z_iload_n 3 dX13_notch_18 rfl ?_
      refine z_if_ge 29 dX13_notch_19 (by decide) (fun g9 => ?_) (fun g9 => ?_)
      · rw [if_neg g9] at h
        refine z_iload_n 2 dX13_notch_29 rfl ?_
        refine z_ldc_w 99999 dX13_notch_30 wg_2018 ?_
        refine z_icmp_gt 54 dX13_notch_33 (by decide) (fun g10 => ?_) (fun g10 => ?_)
        · rw [if_pos g10] at h
          refine z_aload_n 0 dX13_notch_54 rfl ?_
          refine z_bipush (-6) dX13_notch_55 (by decide) ?_
          refine z_callV0 (As := [.int (-6)]) (st := []) dX13_notch_57 hy_X13_refuse hL.1 hL.2.1 (by decide) wg_1778 wg_1780 wg_54 (Nat.le_refl _) (Nat.le_of_ble_eq_true rfl) (RM0.mono h (fun vv I11 L12 h => ?_))
          obtain ⟨r13, rfl, h⟩ := h
          change Z n0 xX13_notch (d + 1) 0 0 60 [(0, .ref (n0 + 59)), (1, .int p0), (2, .int p1), (3, .int p2)] [.int r13] K I11 L12 (z_q0 K Q)
          exact z_iret dX13_notch_60 rfl ⟨rfl, h⟩
        · rw [if_neg g10] at h
          refine z_iload_n 3 dX13_notch_36 rfl ?_
          refine z_ldc_w 99999 dX13_notch_37 wg_2018 ?_
          refine z_icmp_gt 54 dX13_notch_40 (by decide) (fun g14 => ?_) (fun g14 => ?_)
          · rw [if_pos g14] at h
            refine z_aload_n 0 dX13_notch_54 rfl ?_
            refine z_bipush (-6) dX13_notch_55 (by decide) ?_
            refine z_callV0 (As := [.int (-6)]) (st := []) dX13_notch_57 hy_X13_refuse hL.1 hL.2.1 (by decide) wg_1778 wg_1780 wg_54 (Nat.le_refl _) (Nat.le_of_ble_eq_true rfl) (RM0.mono h (fun vv I15 L16 h => ?_))
            obtain ⟨r17, rfl, h⟩ := h
            change Z n0 xX13_notch (d + 1) 0 0 60 [(0, .ref (n0 + 59)), (1, .int p0), (2, .int p1), (3, .int p2)] [.int r17] K I15 L16 (z_q0 K Q)
            exact z_iret dX13_notch_60 rfl ⟨rfl, h⟩
          · rw [if_neg g14] at h
            refine z_aload_n 0 dX13_notch_43 rfl ?_
            refine fg_13_153 (some 107) rfl dX13_notch_44 hL.1 hL.2.1 (ma_72 hL).1 ?_
            refine z_iload_n 1 dX13_notch_47 rfl ?_
            obtain ⟨o18, h⟩ := h
            refine z_iald (I1 107 p0.toNatClampNeg) dX13_notch_48 (ma_72 hL).2.1 (ma_72 hL).2.2 o18 rfl ?_
            refine z_bipush 6 dX13_notch_49 (by decide) ?_
            refine z_icmp_ne 61 dX13_notch_51 (by decide) (fun g19 => ?_) (fun g19 => ?_)
            · rw [if_neg g19] at h
              refine z_aload_n 0 dX13_notch_61 rfl ?_
              refine fg_13_156 (some 108) rfl dX13_notch_62 hL.1 hL.2.1 (ma_73 hL).1 ?_
              refine z_bipush 6 dX13_notch_65 (by decide) ?_
              refine z_iload_n 1 dX13_notch_67 rfl ?_
              refine z_imul dX13_notch_68 ?_
              refine z_aload_n 0 dX13_notch_69 rfl ?_
              refine fg_13_153 (some 107) rfl dX13_notch_70 hL.1 hL.2.1 (ma_72 hL).1 ?_
              refine z_iload_n 1 dX13_notch_73 rfl ?_
              refine z_iald (I1 107 p0.toNatClampNeg) dX13_notch_74 (ma_72 hL).2.1 (ma_72 hL).2.2 o18 rfl ?_
              refine z_iadd dX13_notch_75 ?_
              refine z_iload_n 2 dX13_notch_76 rfl ?_
              obtain ⟨o20, h⟩ := h
              refine z_iast dX13_notch_77 (ma_73 hL).2.1 (ma_73 hL).2.2 o20 ?_
              refine z_aload_n 0 dX13_notch_78 rfl ?_
              refine fg_13_159 (some 109) rfl dX13_notch_79 hL.1 hL.2.1 (ma_74 hL).1 ?_
              refine z_bipush 6 dX13_notch_82 (by decide) ?_
              refine z_iload_n 1 dX13_notch_84 rfl ?_
              refine z_imul dX13_notch_85 ?_
              refine z_aload_n 0 dX13_notch_86 rfl ?_
              refine fg_13_153 (some 107) rfl dX13_notch_87 hL.1 hL.2.1 (ma_72 hL).1 ?_
              refine z_iload_n 1 dX13_notch_90 rfl ?_
              refine z_iald (I1 107 p0.toNatClampNeg) dX13_notch_91 (ma_72 hL).2.1 (ma_72 hL).2.2 o18 rfl ?_
              refine z_iadd dX13_notch_92 ?_
              refine z_iload_n 3 dX13_notch_93 rfl ?_
              refine z_iast dX13_notch_94 (ma_74 hL).2.1 (ma_74 hL).2.2 o20 ?_
              refine z_aload_n 0 dX13_notch_95 rfl ?_
              refine fg_13_153 (some 107) rfl dX13_notch_96 hL.1 hL.2.1 (ma_72 hL).1 ?_
              refine z_iload_n 1 dX13_notch_99 rfl ?_
              refine z_dup2 dX13_notch_100 rfl rfl ?_
              refine z_iald (I1 107 p0.toNatClampNeg) dX13_notch_101 (ma_72 hL).2.1 (ma_72 hL).2.2 o18 rfl ?_
              refine z_iconst 1 dX13_notch_102 (by decide) ?_
              refine z_iadd dX13_notch_103 ?_
              refine z_iast dX13_notch_104 (ma_72 hL).2.1 (ma_72 hL).2.2 o18 ?_
              refine z_aload_n 0 dX13_notch_105 rfl ?_
              refine fg_13_153 (some 107) rfl dX13_notch_106 hL.1 hL.2.1 (ma_72 hL).1 ?_
              refine z_iload_n 1 dX13_notch_109 rfl ?_
              refine z_iald ((zI (zI (zI I1 108 (((6 * p0) + (I1 107 p0.toNatClampNeg)).toNatClampNeg) p1) 109 (((6 * p0) + (I1 107 p0.toNatClampNeg)).toNatClampNeg) p2) 107 p0.toNatClampNeg ((I1 107 p0.toNatClampNeg) + 1)) 107 p0.toNatClampNeg) dX13_notch_110 (ma_72 hL).2.1 (ma_72 hL).2.2 o18 rfl ?_
              exact z_iret dX13_notch_111 rfl ⟨rfl, h⟩
            · rw [if_pos g19] at h
              refine z_aload_n 0 dX13_notch_54 rfl ?_
              refine z_bipush (-6) dX13_notch_55 (by decide) ?_
              refine z_callV0 (As := [.int (-6)]) (st := []) dX13_notch_57 hy_X13_refuse hL.1 hL.2.1 (by decide) wg_1778 wg_1780 wg_54 (Nat.le_refl _) (Nat.le_of_ble_eq_true rfl) (RM0.mono h (fun vv I21 L22 h => ?_))
              obtain ⟨r23, rfl, h⟩ := h
              change Z n0 xX13_notch (d + 1) 0 0 60 [(0, .ref (n0 + 59)), (1, .int p0), (2, .int p1), (3, .int p2)] [.int r23] K I21 L22 (z_q0 K Q)
              exact z_iret dX13_notch_60 rfl ⟨rfl, h⟩
      · rw [if_pos g9] at h
        refine z_aload_n 0 dX13_notch_22 rfl ?_
        refine z_bipush (-4) dX13_notch_23 (by decide) ?_
        refine z_callV0 (As := [.int (-4)]) (st := []) dX13_notch_25 hy_X13_refuse hL.1 hL.2.1 (by decide) wg_1778 wg_1780 wg_54 (Nat.le_refl _) (Nat.le_of_ble_eq_true rfl) (RM0.mono h (fun vv I24 L25 h => ?_))
        obtain ⟨r26, rfl, h⟩ := h
        change Z n0 xX13_notch (d + 1) 0 0 28 [(0, .ref (n0 + 59)), (1, .int p0), (2, .int p1), (3, .int p2)] [.int r26] K I24 L25 (z_q0 K Q)
        exact z_iret dX13_notch_28 rfl ⟨rfl, h⟩
  · rw [if_pos g4] at h
    refine z_aload_n 0 dX13_notch_8 rfl ?_
    refine z_iconst (-1) dX13_notch_9 (by decide) ?_
    refine z_callV0 (As := [.int (-1)]) (st := []) dX13_notch_10 hy_X13_refuse hL.1 hL.2.1 (by decide) wg_1778 wg_1780 wg_54 (Nat.le_refl _) (Nat.le_of_ble_eq_true rfl) (RM0.mono h (fun vv I27 L28 h => ?_))
    obtain ⟨r29, rfl, h⟩ := h
    change Z n0 xX13_notch (d + 1) 0 0 13 [(0, .ref (n0 + 59)), (1, .int p0), (2, .int p1), (3, .int p2)] [.int r29] K I27 L28 (z_q0 K Q)
    exact z_iret dX13_notch_13 rfl ⟨rfl, h⟩
theorem dX13_gather_0 : decode cX13_gather 0 = .ok (.aload_n 0, 1) := by decide +kernel
theorem dX13_gather_1 : decode cX13_gather 1 = .ok (.iload_n 1, 1) := by decide +kernel
theorem dX13_gather_2 : decode cX13_gather 2 = .ok (.invokevirtual 511, 3) := by decide +kernel
theorem dX13_gather_5 : decode cX13_gather 5 = .ok (.ifCond .ne 9, 3) := by decide +kernel
theorem dX13_gather_8 : decode cX13_gather 8 = .ok (.aload_n 0, 1) := by decide +kernel
theorem dX13_gather_9 : decode cX13_gather 9 = .ok (.iconst (-1), 1) := by decide +kernel
theorem dX13_gather_10 : decode cX13_gather 10 = .ok (.invokevirtual 308, 3) := by decide +kernel
theorem dX13_gather_13 : decode cX13_gather 13 = .ok (.ireturn, 1) := by decide +kernel
theorem dX13_gather_14 : decode cX13_gather 14 = .ok (.iload_n 2, 1) := by decide +kernel
theorem dX13_gather_15 : decode cX13_gather 15 = .ok (.iconst 0, 1) := by decide +kernel
theorem dX13_gather_16 : decode cX13_gather 16 = .ok (.sipush 999, 3) := by decide +kernel
theorem dX13_gather_19 : decode cX13_gather 19 = .ok (.invokestatic 324, 3) := by decide +kernel
theorem dX13_gather_22 : decode cX13_gather 22 = .ok (.ifCond .ge 16, 3) := by decide +kernel
theorem dX13_gather_25 : decode cX13_gather 25 = .ok (.aload_n 0, 1) := by decide +kernel
theorem dX13_gather_26 : decode cX13_gather 26 = .ok (.iload_n 2, 1) := by decide +kernel
theorem dX13_gather_27 : decode cX13_gather 27 = .ok (.iconst 0, 1) := by decide +kernel
theorem dX13_gather_28 : decode cX13_gather 28 = .ok (.sipush 999, 3) := by decide +kernel
theorem dX13_gather_31 : decode cX13_gather 31 = .ok (.invokestatic 324, 3) := by decide +kernel
theorem dX13_gather_34 : decode cX13_gather 34 = .ok (.invokevirtual 308, 3) := by decide +kernel
theorem dX13_gather_37 : decode cX13_gather 37 = .ok (.ireturn, 1) := by decide +kernel
theorem dX13_gather_38 : decode cX13_gather 38 = .ok (.aload_n 0, 1) := by decide +kernel
theorem dX13_gather_39 : decode cX13_gather 39 = .ok (.getfield 150, 3) := by decide +kernel
theorem dX13_gather_42 : decode cX13_gather 42 = .ok (.iload_n 1, 1) := by decide +kernel
theorem dX13_gather_43 : decode cX13_gather 43 = .ok (.iaload, 1) := by decide +kernel
theorem dX13_gather_44 : decode cX13_gather 44 = .ok (.istore_n 3, 1) := by decide +kernel
theorem dX13_gather_45 : decode cX13_gather 45 = .ok (.aload_n 0, 1) := by decide +kernel
theorem dX13_gather_46 : decode cX13_gather 46 = .ok (.getfield 150, 3) := by decide +kernel
theorem dX13_gather_49 : decode cX13_gather 49 = .ok (.iload_n 1, 1) := by decide +kernel
theorem dX13_gather_50 : decode cX13_gather 50 = .ok (.iload_n 2, 1) := by decide +kernel
theorem dX13_gather_51 : decode cX13_gather 51 = .ok (.iastore, 1) := by decide +kernel
theorem dX13_gather_52 : decode cX13_gather 52 = .ok (.iload_n 3, 1) := by decide +kernel
theorem dX13_gather_53 : decode cX13_gather 53 = .ok (.ireturn, 1) := by decide +kernel
set_option maxRecDepth 100000 in
set_option maxHeartbeats 4000000 in
theorem wp_X13_gather {n0 d : Nat} {K : z_K} {I : z_I} {L : z_L} {Q : z_q} {p0 : Int32} {p1 : Int32} (hL : MLay K) (h : RM0 n0 xX13_isSeam d [.ref (n0 + 59), .int p0] K I L (fun vv I1 L2 => ∃ r3 : Int32, vv = some (.int r3) ∧ (if r3 = 0 then RM0 n0 xX13_refuse d [.ref (n0 + 59), .int (-1)] K I1 L2 (fun vv I16 L17 => ∃ r18 : Int32, vv = some (.int r18) ∧ Q (some (.int r18)) I16 L17) else RM0 n0 xX13_bounds d [.int p1, .int 0, .int 999] K I1 L2 (fun vv I5 L6 => ∃ r7 : Int32, vv = some (.int r7) ∧ (if r7 < 0 then RM0 n0 xX13_bounds d [.int p1, .int 0, .int 999] K I5 L6 (fun vv I10 L11 => ∃ r12 : Int32, vv = some (.int r12) ∧ RM0 n0 xX13_refuse d [.ref (n0 + 59), .int r12] K I10 L11 (fun vv I13 L14 => ∃ r15 : Int32, vv = some (.int r15) ∧ Q (some (.int r15)) I13 L14)) else vp_in p0 20 ∧ Q (some (.int (I5 106 p0.toNatClampNeg))) (zI I5 106 p0.toNatClampNeg p1) L6))))) : RM0 n0 xX13_gather (d + 1) [.ref (n0 + 59), .int p0, .int p1] K I L Q := by
  refine z_entry0 (by decide) (Nat.le_of_ble_eq_true rfl) ?_
  change Z n0 xX13_gather (d + 1) 0 0 0 [(0, .ref (n0 + 59)), (1, .int p0), (2, .int p1)] [] K I L (z_q0 K Q)
  refine z_aload_n 0 dX13_gather_0 rfl ?_
  refine z_iload_n 1 dX13_gather_1 rfl ?_
  refine z_callV0 (As := [.int p0]) (st := []) dX13_gather_2 hy_X13_isSeam hL.1 hL.2.1 (by decide) wg_2014 wg_2016 wg_82 (Nat.le_refl _) (Nat.le_of_ble_eq_true rfl) (RM0.mono h (fun vv I1 L2 h => ?_))
  obtain ⟨r3, rfl, h⟩ := h
  change Z n0 xX13_gather (d + 1) 0 0 5 [(0, .ref (n0 + 59)), (1, .int p0), (2, .int p1)] [.int r3] K I1 L2 (z_q0 K Q)
  refine z_if_ne 14 dX13_gather_5 (by decide) (fun g4 => ?_) (fun g4 => ?_)
  · rw [if_neg g4] at h
    refine z_iload_n 2 dX13_gather_14 rfl ?_
    refine z_iconst 0 dX13_gather_15 (by decide) ?_
    refine z_sipush 999 dX13_gather_16 (by decide) ?_
    refine z_callS0 (As := [.int p1, .int 0, .int 999]) (st := []) dX13_gather_19 hy_X13_bounds wg_1797 wg_1798 (Nat.le_refl _) (Nat.le_of_ble_eq_true rfl) (RM0.mono h (fun vv I5 L6 h => ?_))
    obtain ⟨r7, rfl, h⟩ := h
    change Z n0 xX13_gather (d + 1) 0 0 22 [(0, .ref (n0 + 59)), (1, .int p0), (2, .int p1)] [.int r7] K I5 L6 (z_q0 K Q)
    refine z_if_ge 38 dX13_gather_22 (by decide) (fun g8 => ?_) (fun g8 => ?_)
    · rw [if_neg g8] at h
      refine z_aload_n 0 dX13_gather_38 rfl ?_
      refine fg_13_150 (some 106) rfl dX13_gather_39 hL.1 hL.2.1 (ma_71 hL).1 ?_
      refine z_iload_n 1 dX13_gather_42 rfl ?_
      obtain ⟨o9, h⟩ := h
      refine z_iald (I5 106 p0.toNatClampNeg) dX13_gather_43 (ma_71 hL).2.1 (ma_71 hL).2.2 o9 rfl ?_
      refine z_istore_n [1, 2, 3, 0] [(0, .ref (n0 + 59)), (1, .int p0), (2, .int p1), (3, .int (I5 106 p0.toNatClampNeg))] dX13_gather_44 (by decide) rfl ?_
      refine z_aload_n 0 dX13_gather_45 rfl ?_
      refine fg_13_150 (some 106) rfl dX13_gather_46 hL.1 hL.2.1 (ma_71 hL).1 ?_
      refine z_iload_n 1 dX13_gather_49 rfl ?_
      refine z_iload_n 2 dX13_gather_50 rfl ?_
      refine z_iast dX13_gather_51 (ma_71 hL).2.1 (ma_71 hL).2.2 o9 ?_
      refine z_iload_n 3 dX13_gather_52 rfl ?_
      exact z_iret dX13_gather_53 rfl ⟨rfl, h⟩
    · rw [if_pos g8] at h
      refine z_aload_n 0 dX13_gather_25 rfl ?_
      refine z_iload_n 2 dX13_gather_26 rfl ?_
      refine z_iconst 0 dX13_gather_27 (by decide) ?_
      refine z_sipush 999 dX13_gather_28 (by decide) ?_
      refine z_callS0 (As := [.int p1, .int 0, .int 999]) (st := [.ref (n0 + 59)]) dX13_gather_31 hy_X13_bounds wg_1797 wg_1798 (Nat.le_refl _) (Nat.le_of_ble_eq_true rfl) (RM0.mono h (fun vv I10 L11 h => ?_))
      obtain ⟨r12, rfl, h⟩ := h
      change Z n0 xX13_gather (d + 1) 0 0 34 [(0, .ref (n0 + 59)), (1, .int p0), (2, .int p1)] [.int r12, .ref (n0 + 59)] K I10 L11 (z_q0 K Q)
      refine z_callV0 (As := [.int r12]) (st := []) dX13_gather_34 hy_X13_refuse hL.1 hL.2.1 (by decide) wg_1778 wg_1780 wg_54 (Nat.le_refl _) (Nat.le_of_ble_eq_true rfl) (RM0.mono h (fun vv I13 L14 h => ?_))
      obtain ⟨r15, rfl, h⟩ := h
      change Z n0 xX13_gather (d + 1) 0 0 37 [(0, .ref (n0 + 59)), (1, .int p0), (2, .int p1)] [.int r15] K I13 L14 (z_q0 K Q)
      exact z_iret dX13_gather_37 rfl ⟨rfl, h⟩
  · rw [if_pos g4] at h
    refine z_aload_n 0 dX13_gather_8 rfl ?_
    refine z_iconst (-1) dX13_gather_9 (by decide) ?_
    refine z_callV0 (As := [.int (-1)]) (st := []) dX13_gather_10 hy_X13_refuse hL.1 hL.2.1 (by decide) wg_1778 wg_1780 wg_54 (Nat.le_refl _) (Nat.le_of_ble_eq_true rfl) (RM0.mono h (fun vv I16 L17 h => ?_))
    obtain ⟨r18, rfl, h⟩ := h
    change Z n0 xX13_gather (d + 1) 0 0 13 [(0, .ref (n0 + 59)), (1, .int p0), (2, .int p1)] [.int r18] K I16 L17 (z_q0 K Q)
    exact z_iret dX13_gather_13 rfl ⟨rfl, h⟩
theorem dX13_wrongSeam_0 : decode cX13_wrongSeam 0 = .ok (.aload_n 0, 1) := by decide +kernel
theorem dX13_wrongSeam_1 : decode cX13_wrongSeam 1 = .ok (.iload_n 1, 1) := by decide +kernel
theorem dX13_wrongSeam_2 : decode cX13_wrongSeam 2 = .ok (.invokevirtual 511, 3) := by decide +kernel
theorem dX13_wrongSeam_5 : decode cX13_wrongSeam 5 = .ok (.ifCond .eq 10, 3) := by decide +kernel
theorem dX13_wrongSeam_8 : decode cX13_wrongSeam 8 = .ok (.iload_n 2, 1) := by decide +kernel
theorem dX13_wrongSeam_9 : decode cX13_wrongSeam 9 = .ok (.invokestatic 321, 3) := by decide +kernel
theorem dX13_wrongSeam_12 : decode cX13_wrongSeam 12 = .ok (.ifCond .ne 5, 3) := by decide +kernel
theorem dX13_wrongSeam_15 : decode cX13_wrongSeam 15 = .ok (.iconst (-1), 1) := by decide +kernel
theorem dX13_wrongSeam_16 : decode cX13_wrongSeam 16 = .ok (.ireturn, 1) := by decide +kernel
theorem dX13_wrongSeam_17 : decode cX13_wrongSeam 17 = .ok (.aload_n 0, 1) := by decide +kernel
theorem dX13_wrongSeam_18 : decode cX13_wrongSeam 18 = .ok (.aload_n 0, 1) := by decide +kernel
theorem dX13_wrongSeam_19 : decode cX13_wrongSeam 19 = .ok (.getfield 126, 3) := by decide +kernel
theorem dX13_wrongSeam_22 : decode cX13_wrongSeam 22 = .ok (.iload_n 1, 1) := by decide +kernel
theorem dX13_wrongSeam_23 : decode cX13_wrongSeam 23 = .ok (.iaload, 1) := by decide +kernel
theorem dX13_wrongSeam_24 : decode cX13_wrongSeam 24 = .ok (.iload_n 2, 1) := by decide +kernel
theorem dX13_wrongSeam_25 : decode cX13_wrongSeam 25 = .ok (.iload_n 3, 1) := by decide +kernel
theorem dX13_wrongSeam_26 : decode cX13_wrongSeam 26 = .ok (.invokevirtual 495, 3) := by decide +kernel
theorem dX13_wrongSeam_29 : decode cX13_wrongSeam 29 = .ok (.istore 4, 2) := by decide +kernel
theorem dX13_wrongSeam_31 : decode cX13_wrongSeam 31 = .ok (.iload 4, 2) := by decide +kernel
theorem dX13_wrongSeam_33 : decode cX13_wrongSeam 33 = .ok (.ifCond .ge 6, 3) := by decide +kernel
theorem dX13_wrongSeam_36 : decode cX13_wrongSeam 36 = .ok (.iload 4, 2) := by decide +kernel
theorem dX13_wrongSeam_38 : decode cX13_wrongSeam 38 = .ok (.ireturn, 1) := by decide +kernel
theorem dX13_wrongSeam_39 : decode cX13_wrongSeam 39 = .ok (.aload_n 0, 1) := by decide +kernel
theorem dX13_wrongSeam_40 : decode cX13_wrongSeam 40 = .ok (.aload_n 0, 1) := by decide +kernel
theorem dX13_wrongSeam_41 : decode cX13_wrongSeam 41 = .ok (.aload_n 0, 1) := by decide +kernel
theorem dX13_wrongSeam_42 : decode cX13_wrongSeam 42 = .ok (.getfield 126, 3) := by decide +kernel
theorem dX13_wrongSeam_45 : decode cX13_wrongSeam 45 = .ok (.iload_n 1, 1) := by decide +kernel
theorem dX13_wrongSeam_46 : decode cX13_wrongSeam 46 = .ok (.iaload, 1) := by decide +kernel
theorem dX13_wrongSeam_47 : decode cX13_wrongSeam 47 = .ok (.aload_n 0, 1) := by decide +kernel
theorem dX13_wrongSeam_48 : decode cX13_wrongSeam 48 = .ok (.getfield 129, 3) := by decide +kernel
theorem dX13_wrongSeam_51 : decode cX13_wrongSeam 51 = .ok (.iload_n 1, 1) := by decide +kernel
theorem dX13_wrongSeam_52 : decode cX13_wrongSeam 52 = .ok (.iaload, 1) := by decide +kernel
theorem dX13_wrongSeam_53 : decode cX13_wrongSeam 53 = .ok (.aload_n 0, 1) := by decide +kernel
theorem dX13_wrongSeam_54 : decode cX13_wrongSeam 54 = .ok (.getfield 132, 3) := by decide +kernel
theorem dX13_wrongSeam_57 : decode cX13_wrongSeam 57 = .ok (.iload_n 1, 1) := by decide +kernel
theorem dX13_wrongSeam_58 : decode cX13_wrongSeam 58 = .ok (.iaload, 1) := by decide +kernel
theorem dX13_wrongSeam_59 : decode cX13_wrongSeam 59 = .ok (.invokevirtual 501, 3) := by decide +kernel
theorem dX13_wrongSeam_62 : decode cX13_wrongSeam 62 = .ok (.putfield 515, 3) := by decide +kernel
theorem dX13_wrongSeam_65 : decode cX13_wrongSeam 65 = .ok (.aload_n 0, 1) := by decide +kernel
theorem dX13_wrongSeam_66 : decode cX13_wrongSeam 66 = .ok (.aload_n 0, 1) := by decide +kernel
theorem dX13_wrongSeam_67 : decode cX13_wrongSeam 67 = .ok (.getfield 135, 3) := by decide +kernel
theorem dX13_wrongSeam_70 : decode cX13_wrongSeam 70 = .ok (.iload_n 1, 1) := by decide +kernel
theorem dX13_wrongSeam_71 : decode cX13_wrongSeam 71 = .ok (.iaload, 1) := by decide +kernel
theorem dX13_wrongSeam_72 : decode cX13_wrongSeam 72 = .ok (.iload_n 2, 1) := by decide +kernel
theorem dX13_wrongSeam_73 : decode cX13_wrongSeam 73 = .ok (.iload_n 3, 1) := by decide +kernel
theorem dX13_wrongSeam_74 : decode cX13_wrongSeam 74 = .ok (.invokevirtual 495, 3) := by decide +kernel
theorem dX13_wrongSeam_77 : decode cX13_wrongSeam 77 = .ok (.istore 4, 2) := by decide +kernel
theorem dX13_wrongSeam_79 : decode cX13_wrongSeam 79 = .ok (.iload 4, 2) := by decide +kernel
theorem dX13_wrongSeam_81 : decode cX13_wrongSeam 81 = .ok (.ifCond .ge 6, 3) := by decide +kernel
theorem dX13_wrongSeam_84 : decode cX13_wrongSeam 84 = .ok (.iload 4, 2) := by decide +kernel
theorem dX13_wrongSeam_86 : decode cX13_wrongSeam 86 = .ok (.ireturn, 1) := by decide +kernel
theorem dX13_wrongSeam_87 : decode cX13_wrongSeam 87 = .ok (.aload_n 0, 1) := by decide +kernel
theorem dX13_wrongSeam_88 : decode cX13_wrongSeam 88 = .ok (.aload_n 0, 1) := by decide +kernel
theorem dX13_wrongSeam_89 : decode cX13_wrongSeam 89 = .ok (.aload_n 0, 1) := by decide +kernel
theorem dX13_wrongSeam_90 : decode cX13_wrongSeam 90 = .ok (.getfield 135, 3) := by decide +kernel
theorem dX13_wrongSeam_93 : decode cX13_wrongSeam 93 = .ok (.iload_n 1, 1) := by decide +kernel
theorem dX13_wrongSeam_94 : decode cX13_wrongSeam 94 = .ok (.iaload, 1) := by decide +kernel
theorem dX13_wrongSeam_95 : decode cX13_wrongSeam 95 = .ok (.aload_n 0, 1) := by decide +kernel
theorem dX13_wrongSeam_96 : decode cX13_wrongSeam 96 = .ok (.getfield 138, 3) := by decide +kernel
theorem dX13_wrongSeam_99 : decode cX13_wrongSeam 99 = .ok (.iload_n 1, 1) := by decide +kernel
theorem dX13_wrongSeam_100 : decode cX13_wrongSeam 100 = .ok (.iaload, 1) := by decide +kernel
theorem dX13_wrongSeam_101 : decode cX13_wrongSeam 101 = .ok (.aload_n 0, 1) := by decide +kernel
theorem dX13_wrongSeam_102 : decode cX13_wrongSeam 102 = .ok (.getfield 141, 3) := by decide +kernel
theorem dX13_wrongSeam_105 : decode cX13_wrongSeam 105 = .ok (.iload_n 1, 1) := by decide +kernel
theorem dX13_wrongSeam_106 : decode cX13_wrongSeam 106 = .ok (.iaload, 1) := by decide +kernel
theorem dX13_wrongSeam_107 : decode cX13_wrongSeam 107 = .ok (.invokevirtual 501, 3) := by decide +kernel
theorem dX13_wrongSeam_110 : decode cX13_wrongSeam 110 = .ok (.putfield 518, 3) := by decide +kernel
theorem dX13_wrongSeam_113 : decode cX13_wrongSeam 113 = .ok (.iconst 0, 1) := by decide +kernel
theorem dX13_wrongSeam_114 : decode cX13_wrongSeam 114 = .ok (.ireturn, 1) := by decide +kernel
set_option maxRecDepth 100000 in
set_option maxHeartbeats 4000000 in
theorem wp_X13_wrongSeam {n0 d : Nat} {K : z_K} {I : z_I} {L : z_L} {Q : z_q} {p0 : Int32} {p1 : Int32} {p2 : Int32} (hL : MLay K) (h : RM0 n0 xX13_isSeam d [.ref (n0 + 59), .int p0] K I L (fun vv I1 L2 => ∃ r3 : Int32, vv = some (.int r3) ∧ (if r3 = 0 then Q (some (.int (-1))) I1 L2 else RM0 n0 xX13_isSize d [.int p1] K I1 L2 (fun vv I5 L6 => ∃ r7 : Int32, vv = some (.int r7) ∧ (if r7 = 0 then Q (some (.int (-1))) I5 L6 else vp_in p0 20 ∧ RM0 n0 xX13_wrongDrawn d [.ref (n0 + 59), .int (I5 98 p0.toNatClampNeg), .int p1, .int p2] K I5 L6 (fun vv I10 L11 => ∃ r12 : Int32, vv = some (.int r12) ∧ (if r12 < 0 then Q (some (.int r12)) I10 L11 else RM0 n0 xX13_lengthOf d [.ref (n0 + 59), .int (I10 98 p0.toNatClampNeg), .int (I10 99 p0.toNatClampNeg), .int (I10 100 p0.toNatClampNeg)] K I10 L11 (fun vv I14 L15 => ∃ r16 : Int32, vv = some (.int r16) ∧ RM0 n0 xX13_wrongDrawn d [.ref (n0 + 59), .int (I14 101 p0.toNatClampNeg), .int p1, .int p2] K (zI I14 59 75 r16) L15 (fun vv I17 L18 => ∃ r19 : Int32, vv = some (.int r19) ∧ (if r19 < 0 then Q (some (.int r19)) I17 L18 else RM0 n0 xX13_lengthOf d [.ref (n0 + 59), .int (I17 101 p0.toNatClampNeg), .int (I17 102 p0.toNatClampNeg), .int (I17 103 p0.toNatClampNeg)] K I17 L18 (fun vv I21 L22 => ∃ r23 : Int32, vv = some (.int r23) ∧ Q (some (.int 0)) (zI I21 59 76 r23) L22))))))))))) : RM0 n0 xX13_wrongSeam (d + 1) [.ref (n0 + 59), .int p0, .int p1, .int p2] K I L Q := by
  refine z_entry0 (by decide) (Nat.le_of_ble_eq_true rfl) ?_
  change Z n0 xX13_wrongSeam (d + 1) 0 0 0 [(0, .ref (n0 + 59)), (1, .int p0), (2, .int p1), (3, .int p2)] [] K I L (z_q0 K Q)
  refine z_aload_n 0 dX13_wrongSeam_0 rfl ?_
  refine z_iload_n 1 dX13_wrongSeam_1 rfl ?_
  refine z_callV0 (As := [.int p0]) (st := []) dX13_wrongSeam_2 hy_X13_isSeam hL.1 hL.2.1 (by decide) wg_2014 wg_2016 wg_82 (Nat.le_refl _) (Nat.le_of_ble_eq_true rfl) (RM0.mono h (fun vv I1 L2 h => ?_))
  obtain ⟨r3, rfl, h⟩ := h
  change Z n0 xX13_wrongSeam (d + 1) 0 0 5 [(0, .ref (n0 + 59)), (1, .int p0), (2, .int p1), (3, .int p2)] [.int r3] K I1 L2 (z_q0 K Q)
  refine z_if_eq 15 dX13_wrongSeam_5 (by decide) (fun g4 => ?_) (fun g4 => ?_)
  · rw [if_pos g4] at h
    refine z_iconst (-1) dX13_wrongSeam_15 (by decide) ?_
    exact z_iret dX13_wrongSeam_16 rfl ⟨rfl, h⟩
  · rw [if_neg g4] at h
    refine z_iload_n 2 dX13_wrongSeam_8 rfl ?_
    refine z_callS0 (As := [.int p1]) (st := []) dX13_wrongSeam_9 hy_X13_isSize wg_1793 wg_1794 (Nat.le_refl _) (Nat.le_of_ble_eq_true rfl) (RM0.mono h (fun vv I5 L6 h => ?_))
    obtain ⟨r7, rfl, h⟩ := h
    change Z n0 xX13_wrongSeam (d + 1) 0 0 12 [(0, .ref (n0 + 59)), (1, .int p0), (2, .int p1), (3, .int p2)] [.int r7] K I5 L6 (z_q0 K Q)
    refine z_if_ne 17 dX13_wrongSeam_12 (by decide) (fun g8 => ?_) (fun g8 => ?_)
    · rw [if_neg g8] at h
      refine z_aload_n 0 dX13_wrongSeam_17 rfl ?_
      refine z_aload_n 0 dX13_wrongSeam_18 rfl ?_
      refine fg_13_126 (some 98) rfl dX13_wrongSeam_19 hL.1 hL.2.1 (ma_63 hL).1 ?_
      refine z_iload_n 1 dX13_wrongSeam_22 rfl ?_
      obtain ⟨o9, h⟩ := h
      refine z_iald (I5 98 p0.toNatClampNeg) dX13_wrongSeam_23 (ma_63 hL).2.1 (ma_63 hL).2.2 o9 rfl ?_
      refine z_iload_n 2 dX13_wrongSeam_24 rfl ?_
      refine z_iload_n 3 dX13_wrongSeam_25 rfl ?_
      refine z_callV0 (As := [.int (I5 98 p0.toNatClampNeg), .int p1, .int p2]) (st := []) dX13_wrongSeam_26 hy_X13_wrongDrawn hL.1 hL.2.1 (by decide) wg_1954 wg_1956 wg_75 (Nat.le_refl _) (Nat.le_of_ble_eq_true rfl) (RM0.mono h (fun vv I10 L11 h => ?_))
      obtain ⟨r12, rfl, h⟩ := h
      change Z n0 xX13_wrongSeam (d + 1) 0 0 29 [(0, .ref (n0 + 59)), (1, .int p0), (2, .int p1), (3, .int p2)] [.int r12] K I10 L11 (z_q0 K Q)
      refine z_istore [1, 2, 3, 4, 0] [(0, .ref (n0 + 59)), (1, .int p0), (2, .int p1), (3, .int p2), (4, .int r12)] dX13_wrongSeam_29 (by decide) rfl ?_
      refine z_iload 4 dX13_wrongSeam_31 rfl ?_
      refine z_if_ge 39 dX13_wrongSeam_33 (by decide) (fun g13 => ?_) (fun g13 => ?_)
      · rw [if_neg g13] at h
        refine z_aload_n 0 dX13_wrongSeam_39 rfl ?_
        refine z_aload_n 0 dX13_wrongSeam_40 rfl ?_
        refine z_aload_n 0 dX13_wrongSeam_41 rfl ?_
        refine fg_13_126 (some 98) rfl dX13_wrongSeam_42 hL.1 hL.2.1 (ma_63 hL).1 ?_
        refine z_iload_n 1 dX13_wrongSeam_45 rfl ?_
        refine z_iald (I10 98 p0.toNatClampNeg) dX13_wrongSeam_46 (ma_63 hL).2.1 (ma_63 hL).2.2 o9 rfl ?_
        refine z_aload_n 0 dX13_wrongSeam_47 rfl ?_
        refine fg_13_129 (some 99) rfl dX13_wrongSeam_48 hL.1 hL.2.1 (ma_64 hL).1 ?_
        refine z_iload_n 1 dX13_wrongSeam_51 rfl ?_
        refine z_iald (I10 99 p0.toNatClampNeg) dX13_wrongSeam_52 (ma_64 hL).2.1 (ma_64 hL).2.2 o9 rfl ?_
        refine z_aload_n 0 dX13_wrongSeam_53 rfl ?_
        refine fg_13_132 (some 100) rfl dX13_wrongSeam_54 hL.1 hL.2.1 (ma_65 hL).1 ?_
        refine z_iload_n 1 dX13_wrongSeam_57 rfl ?_
        refine z_iald (I10 100 p0.toNatClampNeg) dX13_wrongSeam_58 (ma_65 hL).2.1 (ma_65 hL).2.2 o9 rfl ?_
        refine z_callV0 (As := [.int (I10 98 p0.toNatClampNeg), .int (I10 99 p0.toNatClampNeg), .int (I10 100 p0.toNatClampNeg)]) (st := [.ref (n0 + 59)]) dX13_wrongSeam_59 hy_X13_lengthOf hL.1 hL.2.1 (by decide) wg_1978 wg_1980 wg_79 (Nat.le_refl _) (Nat.le_of_ble_eq_true rfl) (RM0.mono h (fun vv I14 L15 h => ?_))
        obtain ⟨r16, rfl, h⟩ := h
        change Z n0 xX13_wrongSeam (d + 1) 0 0 62 [(0, .ref (n0 + 59)), (1, .int p0), (2, .int p1), (3, .int p2), (4, .int r12)] [.int r16, .ref (n0 + 59)] K I14 L15 (z_q0 K Q)
        refine fp_13_515 rfl dX13_wrongSeam_62 hL.1 hL.2.1 ?_
        refine z_aload_n 0 dX13_wrongSeam_65 rfl ?_
        refine z_aload_n 0 dX13_wrongSeam_66 rfl ?_
        refine fg_13_135 (some 101) rfl dX13_wrongSeam_67 hL.1 hL.2.1 (ma_66 hL).1 ?_
        refine z_iload_n 1 dX13_wrongSeam_70 rfl ?_
        refine z_iald (I14 101 p0.toNatClampNeg) dX13_wrongSeam_71 (ma_66 hL).2.1 (ma_66 hL).2.2 o9 rfl ?_
        refine z_iload_n 2 dX13_wrongSeam_72 rfl ?_
        refine z_iload_n 3 dX13_wrongSeam_73 rfl ?_
        refine z_callV0 (As := [.int (I14 101 p0.toNatClampNeg), .int p1, .int p2]) (st := []) dX13_wrongSeam_74 hy_X13_wrongDrawn hL.1 hL.2.1 (by decide) wg_1954 wg_1956 wg_75 (Nat.le_refl _) (Nat.le_of_ble_eq_true rfl) (RM0.mono h (fun vv I17 L18 h => ?_))
        obtain ⟨r19, rfl, h⟩ := h
        change Z n0 xX13_wrongSeam (d + 1) 0 0 77 [(0, .ref (n0 + 59)), (1, .int p0), (2, .int p1), (3, .int p2), (4, .int r12)] [.int r19] K I17 L18 (z_q0 K Q)
        refine z_istore [1, 2, 3, 4, 0] [(0, .ref (n0 + 59)), (1, .int p0), (2, .int p1), (3, .int p2), (4, .int r19)] dX13_wrongSeam_77 (by decide) rfl ?_
        refine z_iload 4 dX13_wrongSeam_79 rfl ?_
        refine z_if_ge 87 dX13_wrongSeam_81 (by decide) (fun g20 => ?_) (fun g20 => ?_)
        · rw [if_neg g20] at h
          refine z_aload_n 0 dX13_wrongSeam_87 rfl ?_
          refine z_aload_n 0 dX13_wrongSeam_88 rfl ?_
          refine z_aload_n 0 dX13_wrongSeam_89 rfl ?_
          refine fg_13_135 (some 101) rfl dX13_wrongSeam_90 hL.1 hL.2.1 (ma_66 hL).1 ?_
          refine z_iload_n 1 dX13_wrongSeam_93 rfl ?_
          refine z_iald (I17 101 p0.toNatClampNeg) dX13_wrongSeam_94 (ma_66 hL).2.1 (ma_66 hL).2.2 o9 rfl ?_
          refine z_aload_n 0 dX13_wrongSeam_95 rfl ?_
          refine fg_13_138 (some 102) rfl dX13_wrongSeam_96 hL.1 hL.2.1 (ma_67 hL).1 ?_
          refine z_iload_n 1 dX13_wrongSeam_99 rfl ?_
          refine z_iald (I17 102 p0.toNatClampNeg) dX13_wrongSeam_100 (ma_67 hL).2.1 (ma_67 hL).2.2 o9 rfl ?_
          refine z_aload_n 0 dX13_wrongSeam_101 rfl ?_
          refine fg_13_141 (some 103) rfl dX13_wrongSeam_102 hL.1 hL.2.1 (ma_68 hL).1 ?_
          refine z_iload_n 1 dX13_wrongSeam_105 rfl ?_
          refine z_iald (I17 103 p0.toNatClampNeg) dX13_wrongSeam_106 (ma_68 hL).2.1 (ma_68 hL).2.2 o9 rfl ?_
          refine z_callV0 (As := [.int (I17 101 p0.toNatClampNeg), .int (I17 102 p0.toNatClampNeg), .int (I17 103 p0.toNatClampNeg)]) (st := [.ref (n0 + 59)]) dX13_wrongSeam_107 hy_X13_lengthOf hL.1 hL.2.1 (by decide) wg_1978 wg_1980 wg_79 (Nat.le_refl _) (Nat.le_of_ble_eq_true rfl) (RM0.mono h (fun vv I21 L22 h => ?_))
          obtain ⟨r23, rfl, h⟩ := h
          change Z n0 xX13_wrongSeam (d + 1) 0 0 110 [(0, .ref (n0 + 59)), (1, .int p0), (2, .int p1), (3, .int p2), (4, .int r19)] [.int r23, .ref (n0 + 59)] K I21 L22 (z_q0 K Q)
          refine fp_13_518 rfl dX13_wrongSeam_110 hL.1 hL.2.1 ?_
          refine z_iconst 0 dX13_wrongSeam_113 (by decide) ?_
          exact z_iret dX13_wrongSeam_114 rfl ⟨rfl, h⟩
        · rw [if_pos g20] at h
          refine z_iload 4 dX13_wrongSeam_84 rfl ?_
          exact z_iret dX13_wrongSeam_86 rfl ⟨rfl, h⟩
      · rw [if_pos g13] at h
        refine z_iload 4 dX13_wrongSeam_36 rfl ?_
        exact z_iret dX13_wrongSeam_38 rfl ⟨rfl, h⟩
    · rw [if_pos g8] at h
      refine z_iconst (-1) dX13_wrongSeam_15 (by decide) ?_
      exact z_iret dX13_wrongSeam_16 rfl ⟨rfl, h⟩
theorem dX13_ease_0 : decode cX13_ease 0 = .ok (.aload_n 0, 1) := by decide +kernel
theorem dX13_ease_1 : decode cX13_ease 1 = .ok (.iload_n 1, 1) := by decide +kernel
theorem dX13_ease_2 : decode cX13_ease 2 = .ok (.iload_n 2, 1) := by decide +kernel
theorem dX13_ease_3 : decode cX13_ease 3 = .ok (.iload_n 3, 1) := by decide +kernel
theorem dX13_ease_4 : decode cX13_ease 4 = .ok (.invokevirtual 521, 3) := by decide +kernel
theorem dX13_ease_7 : decode cX13_ease 7 = .ok (.istore 4, 2) := by decide +kernel
theorem dX13_ease_9 : decode cX13_ease 9 = .ok (.iload 4, 2) := by decide +kernel
theorem dX13_ease_11 : decode cX13_ease 11 = .ok (.ifCond .ge 12, 3) := by decide +kernel
theorem dX13_ease_14 : decode cX13_ease 14 = .ok (.aload_n 0, 1) := by decide +kernel
theorem dX13_ease_15 : decode cX13_ease 15 = .ok (.iload 4, 2) := by decide +kernel
theorem dX13_ease_17 : decode cX13_ease 17 = .ok (.invokevirtual 334, 3) := by decide +kernel
theorem dX13_ease_20 : decode cX13_ease 20 = .ok (.goto 12, 3) := by decide +kernel
theorem dX13_ease_23 : decode cX13_ease 23 = .ok (.aload_n 0, 1) := by decide +kernel
theorem dX13_ease_24 : decode cX13_ease 24 = .ok (.getfield 518, 3) := by decide +kernel
theorem dX13_ease_27 : decode cX13_ease 27 = .ok (.aload_n 0, 1) := by decide +kernel
theorem dX13_ease_28 : decode cX13_ease 28 = .ok (.getfield 515, 3) := by decide +kernel
theorem dX13_ease_31 : decode cX13_ease 31 = .ok (.isub, 1) := by decide +kernel
theorem dX13_ease_32 : decode cX13_ease 32 = .ok (.ireturn, 1) := by decide +kernel
set_option maxRecDepth 100000 in
set_option maxHeartbeats 4000000 in
theorem wp_X13_ease {n0 d : Nat} {K : z_K} {I : z_I} {L : z_L} {Q : z_q} {p0 : Int32} {p1 : Int32} {p2 : Int32} (hL : MLay K) (h : RM0 n0 xX13_wrongSeam d [.ref (n0 + 59), .int p0, .int p1, .int p2] K I L (fun vv I1 L2 => ∃ r3 : Int32, vv = some (.int r3) ∧ (if r3 < 0 then RM0 n0 xX13_refuseFar d [.ref (n0 + 59), .int r3] K I1 L2 (fun vv I5 L6 => ∃ r7 : Int32, vv = some (.int r7) ∧ Q (some (.int r7)) I5 L6) else Q (some (.int ((I1 59 76) - (I1 59 75)))) I1 L2))) : RM0 n0 xX13_ease (d + 1) [.ref (n0 + 59), .int p0, .int p1, .int p2] K I L Q := by
  refine z_entry0 (by decide) (Nat.le_of_ble_eq_true rfl) ?_
  change Z n0 xX13_ease (d + 1) 0 0 0 [(0, .ref (n0 + 59)), (1, .int p0), (2, .int p1), (3, .int p2)] [] K I L (z_q0 K Q)
  refine z_aload_n 0 dX13_ease_0 rfl ?_
  refine z_iload_n 1 dX13_ease_1 rfl ?_
  refine z_iload_n 2 dX13_ease_2 rfl ?_
  refine z_iload_n 3 dX13_ease_3 rfl ?_
  refine z_callV0 (As := [.int p0, .int p1, .int p2]) (st := []) dX13_ease_4 hy_X13_wrongSeam hL.1 hL.2.1 (by decide) wg_2027 wg_2029 wg_83 (Nat.le_refl _) (Nat.le_of_ble_eq_true rfl) (RM0.mono h (fun vv I1 L2 h => ?_))
  obtain ⟨r3, rfl, h⟩ := h
  change Z n0 xX13_ease (d + 1) 0 0 7 [(0, .ref (n0 + 59)), (1, .int p0), (2, .int p1), (3, .int p2)] [.int r3] K I1 L2 (z_q0 K Q)
  refine z_istore [1, 2, 3, 4, 0] [(0, .ref (n0 + 59)), (1, .int p0), (2, .int p1), (3, .int p2), (4, .int r3)] dX13_ease_7 (by decide) rfl ?_
  refine z_iload 4 dX13_ease_9 rfl ?_
  refine z_if_ge 23 dX13_ease_11 (by decide) (fun g4 => ?_) (fun g4 => ?_)
  · rw [if_neg g4] at h
    refine z_aload_n 0 dX13_ease_23 rfl ?_
    refine fg_13_518 (I1 59 76) rfl dX13_ease_24 hL.1 hL.2.1 rfl ?_
    refine z_aload_n 0 dX13_ease_27 rfl ?_
    refine fg_13_515 (I1 59 75) rfl dX13_ease_28 hL.1 hL.2.1 rfl ?_
    refine z_isub dX13_ease_31 ?_
    exact z_iret dX13_ease_32 rfl ⟨rfl, h⟩
  · rw [if_pos g4] at h
    refine z_aload_n 0 dX13_ease_14 rfl ?_
    refine z_iload 4 dX13_ease_15 rfl ?_
    refine z_callV0 (As := [.int r3]) (st := []) dX13_ease_17 hy_X13_refuseFar hL.1 hL.2.1 (by decide) wg_1820 wg_1822 wg_57 (Nat.le_refl _) (Nat.le_of_ble_eq_true rfl) (RM0.mono h (fun vv I5 L6 h => ?_))
    obtain ⟨r7, rfl, h⟩ := h
    change Z n0 xX13_ease (d + 1) 0 0 20 [(0, .ref (n0 + 59)), (1, .int p0), (2, .int p1), (3, .int p2), (4, .int r3)] [.int r7] K I5 L6 (z_q0 K Q)
    refine z_goto 32 dX13_ease_20 (by decide) ?_
    exact z_iret dX13_ease_32 rfl ⟨rfl, h⟩
theorem dX13_doesMeet_0 : decode cX13_doesMeet 0 = .ok (.aload_n 0, 1) := by decide +kernel
theorem dX13_doesMeet_1 : decode cX13_doesMeet 1 = .ok (.getfield 518, 3) := by decide +kernel
theorem dX13_doesMeet_4 : decode cX13_doesMeet 4 = .ok (.aload_n 0, 1) := by decide +kernel
theorem dX13_doesMeet_5 : decode cX13_doesMeet 5 = .ok (.getfield 515, 3) := by decide +kernel
theorem dX13_doesMeet_8 : decode cX13_doesMeet 8 = .ok (.isub, 1) := by decide +kernel
theorem dX13_doesMeet_9 : decode cX13_doesMeet 9 = .ok (.i2l, 1) := by decide +kernel
theorem dX13_doesMeet_10 : decode cX13_doesMeet 10 = .ok (.aload_n 0, 1) := by decide +kernel
theorem dX13_doesMeet_11 : decode cX13_doesMeet 11 = .ok (.getfield 144, 3) := by decide +kernel
theorem dX13_doesMeet_14 : decode cX13_doesMeet 14 = .ok (.iload_n 1, 1) := by decide +kernel
theorem dX13_doesMeet_15 : decode cX13_doesMeet 15 = .ok (.iaload, 1) := by decide +kernel
theorem dX13_doesMeet_16 : decode cX13_doesMeet 16 = .ok (.i2l, 1) := by decide +kernel
theorem dX13_doesMeet_17 : decode cX13_doesMeet 17 = .ok (.aload_n 0, 1) := by decide +kernel
theorem dX13_doesMeet_18 : decode cX13_doesMeet 18 = .ok (.getfield 147, 3) := by decide +kernel
theorem dX13_doesMeet_21 : decode cX13_doesMeet 21 = .ok (.iload_n 1, 1) := by decide +kernel
theorem dX13_doesMeet_22 : decode cX13_doesMeet 22 = .ok (.iaload, 1) := by decide +kernel
theorem dX13_doesMeet_23 : decode cX13_doesMeet 23 = .ok (.i2l, 1) := by decide +kernel
theorem dX13_doesMeet_24 : decode cX13_doesMeet 24 = .ok (.invokestatic 291, 3) := by decide +kernel
theorem dX13_doesMeet_27 : decode cX13_doesMeet 27 = .ok (.ireturn, 1) := by decide +kernel
set_option maxRecDepth 100000 in
set_option maxHeartbeats 4000000 in
theorem wp_X13_doesMeet {n0 d : Nat} {K : z_K} {I : z_I} {L : z_L} {Q : z_q} {p0 : Int32} (hL : MLay K) (h : vp_in p0 20 ∧ RM0 n0 xX13_in d [.long ((((I 59 76) - (I 59 75)) : Int32).toInt64), .long (((I 104 p0.toNatClampNeg) : Int32).toInt64), .long (((I 105 p0.toNatClampNeg) : Int32).toInt64)] K I L (fun vv I2 L3 => ∃ r4 : Int32, vv = some (.int r4) ∧ z_b r4 ∧ Q (some (.int r4)) I2 L3)) : RM0 n0 xX13_doesMeet (d + 1) [.ref (n0 + 59), .int p0] K I L Q := by
  refine z_entry0 (by decide) (Nat.le_of_ble_eq_true rfl) ?_
  change Z n0 xX13_doesMeet (d + 1) 0 0 0 [(0, .ref (n0 + 59)), (1, .int p0)] [] K I L (z_q0 K Q)
  refine z_aload_n 0 dX13_doesMeet_0 rfl ?_
  refine fg_13_518 (I 59 76) rfl dX13_doesMeet_1 hL.1 hL.2.1 rfl ?_
  refine z_aload_n 0 dX13_doesMeet_4 rfl ?_
  refine fg_13_515 (I 59 75) rfl dX13_doesMeet_5 hL.1 hL.2.1 rfl ?_
  refine z_isub dX13_doesMeet_8 ?_
  refine z_i2l dX13_doesMeet_9 ?_
  refine z_aload_n 0 dX13_doesMeet_10 rfl ?_
  refine fg_13_144 (some 104) rfl dX13_doesMeet_11 hL.1 hL.2.1 (ma_69 hL).1 ?_
  refine z_iload_n 1 dX13_doesMeet_14 rfl ?_
  obtain ⟨o1, h⟩ := h
  refine z_iald (I 104 p0.toNatClampNeg) dX13_doesMeet_15 (ma_69 hL).2.1 (ma_69 hL).2.2 o1 rfl ?_
  refine z_i2l dX13_doesMeet_16 ?_
  refine z_aload_n 0 dX13_doesMeet_17 rfl ?_
  refine fg_13_147 (some 105) rfl dX13_doesMeet_18 hL.1 hL.2.1 (ma_70 hL).1 ?_
  refine z_iload_n 1 dX13_doesMeet_21 rfl ?_
  refine z_iald (I 105 p0.toNatClampNeg) dX13_doesMeet_22 (ma_70 hL).2.1 (ma_70 hL).2.2 o1 rfl ?_
  refine z_i2l dX13_doesMeet_23 ?_
  refine z_callS0 (As := [.long ((((I 59 76) - (I 59 75)) : Int32).toInt64), .long (((I 104 p0.toNatClampNeg) : Int32).toInt64), .long (((I 105 p0.toNatClampNeg) : Int32).toInt64)]) (st := []) dX13_doesMeet_24 hy_X13_in wg_1790 wg_1791 (Nat.le_refl _) (Nat.le_of_ble_eq_true rfl) (RM0.mono h (fun vv I2 L3 h => ?_))
  obtain ⟨r4, rfl, h⟩ := h
  change Z n0 xX13_doesMeet (d + 1) 0 0 27 [(0, .ref (n0 + 59)), (1, .int p0)] [.int r4] K I2 L3 (z_q0 K Q)
  obtain ⟨o5, h⟩ := h
  exact z_zretb dX13_doesMeet_27 rfl o5 ⟨rfl, h⟩
theorem dX13_meets_0 : decode cX13_meets 0 = .ok (.aload_n 0, 1) := by decide +kernel
theorem dX13_meets_1 : decode cX13_meets 1 = .ok (.iload_n 1, 1) := by decide +kernel
theorem dX13_meets_2 : decode cX13_meets 2 = .ok (.iload_n 2, 1) := by decide +kernel
theorem dX13_meets_3 : decode cX13_meets 3 = .ok (.iload_n 3, 1) := by decide +kernel
theorem dX13_meets_4 : decode cX13_meets 4 = .ok (.invokevirtual 521, 3) := by decide +kernel
theorem dX13_meets_7 : decode cX13_meets 7 = .ok (.istore 4, 2) := by decide +kernel
theorem dX13_meets_9 : decode cX13_meets 9 = .ok (.iload 4, 2) := by decide +kernel
theorem dX13_meets_11 : decode cX13_meets 11 = .ok (.ifCond .ge 12, 3) := by decide +kernel
theorem dX13_meets_14 : decode cX13_meets 14 = .ok (.aload_n 0, 1) := by decide +kernel
theorem dX13_meets_15 : decode cX13_meets 15 = .ok (.iload 4, 2) := by decide +kernel
theorem dX13_meets_17 : decode cX13_meets 17 = .ok (.invokevirtual 308, 3) := by decide +kernel
theorem dX13_meets_20 : decode cX13_meets 20 = .ok (.goto 16, 3) := by decide +kernel
theorem dX13_meets_23 : decode cX13_meets 23 = .ok (.aload_n 0, 1) := by decide +kernel
theorem dX13_meets_24 : decode cX13_meets 24 = .ok (.iload_n 1, 1) := by decide +kernel
theorem dX13_meets_25 : decode cX13_meets 25 = .ok (.invokevirtual 524, 3) := by decide +kernel
theorem dX13_meets_28 : decode cX13_meets 28 = .ok (.ifCond .eq 7, 3) := by decide +kernel
theorem dX13_meets_31 : decode cX13_meets 31 = .ok (.iconst 1, 1) := by decide +kernel
theorem dX13_meets_32 : decode cX13_meets 32 = .ok (.goto 4, 3) := by decide +kernel
theorem dX13_meets_35 : decode cX13_meets 35 = .ok (.iconst 0, 1) := by decide +kernel
theorem dX13_meets_36 : decode cX13_meets 36 = .ok (.ireturn, 1) := by decide +kernel
set_option maxRecDepth 100000 in
set_option maxHeartbeats 4000000 in
theorem wp_X13_meets {n0 d : Nat} {K : z_K} {I : z_I} {L : z_L} {Q : z_q} {p0 : Int32} {p1 : Int32} {p2 : Int32} (hL : MLay K) (h : RM0 n0 xX13_wrongSeam d [.ref (n0 + 59), .int p0, .int p1, .int p2] K I L (fun vv I1 L2 => ∃ r3 : Int32, vv = some (.int r3) ∧ (if r3 < 0 then RM0 n0 xX13_refuse d [.ref (n0 + 59), .int r3] K I1 L2 (fun vv I10 L11 => ∃ r12 : Int32, vv = some (.int r12) ∧ Q (some (.int r12)) I10 L11) else RM0 n0 xX13_doesMeet d [.ref (n0 + 59), .int p0] K I1 L2 (fun vv I5 L6 => ∃ r7 : Int32, vv = some (.int r7) ∧ Q (some (.int (if r7 = 0 then 0 else 1))) I5 L6)))) : RM0 n0 xX13_meets (d + 1) [.ref (n0 + 59), .int p0, .int p1, .int p2] K I L Q := by
  refine z_entry0 (by decide) (Nat.le_of_ble_eq_true rfl) ?_
  change Z n0 xX13_meets (d + 1) 0 0 0 [(0, .ref (n0 + 59)), (1, .int p0), (2, .int p1), (3, .int p2)] [] K I L (z_q0 K Q)
  refine z_aload_n 0 dX13_meets_0 rfl ?_
  refine z_iload_n 1 dX13_meets_1 rfl ?_
  refine z_iload_n 2 dX13_meets_2 rfl ?_
  refine z_iload_n 3 dX13_meets_3 rfl ?_
  refine z_callV0 (As := [.int p0, .int p1, .int p2]) (st := []) dX13_meets_4 hy_X13_wrongSeam hL.1 hL.2.1 (by decide) wg_2027 wg_2029 wg_83 (Nat.le_refl _) (Nat.le_of_ble_eq_true rfl) (RM0.mono h (fun vv I1 L2 h => ?_))
  obtain ⟨r3, rfl, h⟩ := h
  change Z n0 xX13_meets (d + 1) 0 0 7 [(0, .ref (n0 + 59)), (1, .int p0), (2, .int p1), (3, .int p2)] [.int r3] K I1 L2 (z_q0 K Q)
  refine z_istore [1, 2, 3, 4, 0] [(0, .ref (n0 + 59)), (1, .int p0), (2, .int p1), (3, .int p2), (4, .int r3)] dX13_meets_7 (by decide) rfl ?_
  refine z_iload 4 dX13_meets_9 rfl ?_
  refine z_if_ge 23 dX13_meets_11 (by decide) (fun g4 => ?_) (fun g4 => ?_)
  · rw [if_neg g4] at h
    refine z_aload_n 0 dX13_meets_23 rfl ?_
    refine z_iload_n 1 dX13_meets_24 rfl ?_
    refine z_callV0 (As := [.int p0]) (st := []) dX13_meets_25 hy_X13_doesMeet hL.1 hL.2.1 (by decide) wg_2035 wg_2037 wg_84 (Nat.le_refl _) (Nat.le_of_ble_eq_true rfl) (RM0.mono h (fun vv I5 L6 h => ?_))
    obtain ⟨r7, rfl, h⟩ := h
    change Z n0 xX13_meets (d + 1) 0 0 28 [(0, .ref (n0 + 59)), (1, .int p0), (2, .int p1), (3, .int p2), (4, .int r3)] [.int r7] K I5 L6 (z_q0 K Q)
    have key9 : Z n0 xX13_meets (d + 1) 0 0 36 [] [.int (if r7 = 0 then 0 else 1)] K I5 L6 (z_q0 K Q) := by
      exact z_iret dX13_meets_36 rfl ⟨rfl, h⟩
    refine z_if_eq 35 dX13_meets_28 (by decide) (fun g8 => ?_) (fun g8 => ?_)
    · refine z_iconst 0 dX13_meets_35 (by decide) ?_
      have ee : ((if r7 = 0 then 0 else 1) : Int32) = 0 := by rw [if_pos g8]
      rw [ee] at key9
      clear ee
      refine z_sub [] rfl ?_
      exact key9
    · refine z_iconst 1 dX13_meets_31 (by decide) ?_
      refine z_goto 36 dX13_meets_32 (by decide) ?_
      have ee : ((if r7 = 0 then 0 else 1) : Int32) = 1 := by rw [if_neg g8]
      rw [ee] at key9
      clear ee
      refine z_sub [] rfl ?_
      exact key9
  · rw [if_pos g4] at h
    refine z_aload_n 0 dX13_meets_14 rfl ?_
    refine z_iload 4 dX13_meets_15 rfl ?_
    refine z_callV0 (As := [.int r3]) (st := []) dX13_meets_17 hy_X13_refuse hL.1 hL.2.1 (by decide) wg_1778 wg_1780 wg_54 (Nat.le_refl _) (Nat.le_of_ble_eq_true rfl) (RM0.mono h (fun vv I10 L11 h => ?_))
    obtain ⟨r12, rfl, h⟩ := h
    change Z n0 xX13_meets (d + 1) 0 0 20 [(0, .ref (n0 + 59)), (1, .int p0), (2, .int p1), (3, .int p2), (4, .int r3)] [.int r12] K I10 L11 (z_q0 K Q)
    refine z_goto 36 dX13_meets_20 (by decide) ?_
    exact z_iret dX13_meets_36 rfl ⟨rfl, h⟩
theorem dX13_lostOf_0 : decode cX13_lostOf 0 = .ok (.iconst 0, 1) := by decide +kernel
theorem dX13_lostOf_1 : decode cX13_lostOf 1 = .ok (.istore_n 2, 1) := by decide +kernel
theorem dX13_lostOf_2 : decode cX13_lostOf 2 = .ok (.iload_n 2, 1) := by decide +kernel
theorem dX13_lostOf_3 : decode cX13_lostOf 3 = .ok (.aload_n 0, 1) := by decide +kernel
theorem dX13_lostOf_4 : decode cX13_lostOf 4 = .ok (.getfield 153, 3) := by decide +kernel
theorem dX13_lostOf_7 : decode cX13_lostOf 7 = .ok (.iload_n 1, 1) := by decide +kernel
theorem dX13_lostOf_8 : decode cX13_lostOf 8 = .ok (.iaload, 1) := by decide +kernel
theorem dX13_lostOf_9 : decode cX13_lostOf 9 = .ok (.if_icmp .ge 156, 3) := by decide +kernel
theorem dX13_lostOf_12 : decode cX13_lostOf 12 = .ok (.aload_n 0, 1) := by decide +kernel
theorem dX13_lostOf_13 : decode cX13_lostOf 13 = .ok (.getfield 156, 3) := by decide +kernel
theorem dX13_lostOf_16 : decode cX13_lostOf 16 = .ok (.bipush 6, 2) := by decide +kernel
theorem dX13_lostOf_18 : decode cX13_lostOf 18 = .ok (.iload_n 1, 1) := by decide +kernel
theorem dX13_lostOf_19 : decode cX13_lostOf 19 = .ok (.imul, 1) := by decide +kernel
theorem dX13_lostOf_20 : decode cX13_lostOf 20 = .ok (.iload_n 2, 1) := by decide +kernel
theorem dX13_lostOf_21 : decode cX13_lostOf 21 = .ok (.iadd, 1) := by decide +kernel
theorem dX13_lostOf_22 : decode cX13_lostOf 22 = .ok (.iaload, 1) := by decide +kernel
theorem dX13_lostOf_23 : decode cX13_lostOf 23 = .ok (.istore_n 3, 1) := by decide +kernel
theorem dX13_lostOf_24 : decode cX13_lostOf 24 = .ok (.aload_n 0, 1) := by decide +kernel
theorem dX13_lostOf_25 : decode cX13_lostOf 25 = .ok (.getfield 159, 3) := by decide +kernel
theorem dX13_lostOf_28 : decode cX13_lostOf 28 = .ok (.bipush 6, 2) := by decide +kernel
theorem dX13_lostOf_30 : decode cX13_lostOf 30 = .ok (.iload_n 1, 1) := by decide +kernel
theorem dX13_lostOf_31 : decode cX13_lostOf 31 = .ok (.imul, 1) := by decide +kernel
theorem dX13_lostOf_32 : decode cX13_lostOf 32 = .ok (.iload_n 2, 1) := by decide +kernel
theorem dX13_lostOf_33 : decode cX13_lostOf 33 = .ok (.iadd, 1) := by decide +kernel
theorem dX13_lostOf_34 : decode cX13_lostOf 34 = .ok (.iaload, 1) := by decide +kernel
theorem dX13_lostOf_35 : decode cX13_lostOf 35 = .ok (.istore 4, 2) := by decide +kernel
theorem dX13_lostOf_37 : decode cX13_lostOf 37 = .ok (.iload_n 2, 1) := by decide +kernel
theorem dX13_lostOf_38 : decode cX13_lostOf 38 = .ok (.ifCond .ne 7, 3) := by decide +kernel
theorem dX13_lostOf_41 : decode cX13_lostOf 41 = .ok (.iconst 0, 1) := by decide +kernel
theorem dX13_lostOf_42 : decode cX13_lostOf 42 = .ok (.goto 16, 3) := by decide +kernel
theorem dX13_lostOf_45 : decode cX13_lostOf 45 = .ok (.aload_n 0, 1) := by decide +kernel
theorem dX13_lostOf_46 : decode cX13_lostOf 46 = .ok (.getfield 156, 3) := by decide +kernel
theorem dX13_lostOf_49 : decode cX13_lostOf 49 = .ok (.bipush 6, 2) := by decide +kernel
theorem dX13_lostOf_51 : decode cX13_lostOf 51 = .ok (.iload_n 1, 1) := by decide +kernel
theorem dX13_lostOf_52 : decode cX13_lostOf 52 = .ok (.imul, 1) := by decide +kernel
theorem dX13_lostOf_53 : decode cX13_lostOf 53 = .ok (.iload_n 2, 1) := by decide +kernel
theorem dX13_lostOf_54 : decode cX13_lostOf 54 = .ok (.iadd, 1) := by decide +kernel
theorem dX13_lostOf_55 : decode cX13_lostOf 55 = .ok (.iconst 1, 1) := by decide +kernel
theorem dX13_lostOf_56 : decode cX13_lostOf 56 = .ok (.isub, 1) := by decide +kernel
theorem dX13_lostOf_57 : decode cX13_lostOf 57 = .ok (.iaload, 1) := by decide +kernel
theorem dX13_lostOf_58 : decode cX13_lostOf 58 = .ok (.istore 5, 2) := by decide +kernel
theorem dX13_lostOf_60 : decode cX13_lostOf 60 = .ok (.iload_n 2, 1) := by decide +kernel
theorem dX13_lostOf_61 : decode cX13_lostOf 61 = .ok (.ifCond .ne 7, 3) := by decide +kernel
theorem dX13_lostOf_64 : decode cX13_lostOf 64 = .ok (.iconst 0, 1) := by decide +kernel
theorem dX13_lostOf_65 : decode cX13_lostOf 65 = .ok (.goto 16, 3) := by decide +kernel
theorem dX13_lostOf_68 : decode cX13_lostOf 68 = .ok (.aload_n 0, 1) := by decide +kernel
theorem dX13_lostOf_69 : decode cX13_lostOf 69 = .ok (.getfield 159, 3) := by decide +kernel
theorem dX13_lostOf_72 : decode cX13_lostOf 72 = .ok (.bipush 6, 2) := by decide +kernel
theorem dX13_lostOf_74 : decode cX13_lostOf 74 = .ok (.iload_n 1, 1) := by decide +kernel
theorem dX13_lostOf_75 : decode cX13_lostOf 75 = .ok (.imul, 1) := by decide +kernel
theorem dX13_lostOf_76 : decode cX13_lostOf 76 = .ok (.iload_n 2, 1) := by decide +kernel
theorem dX13_lostOf_77 : decode cX13_lostOf 77 = .ok (.iadd, 1) := by decide +kernel
theorem dX13_lostOf_78 : decode cX13_lostOf 78 = .ok (.iconst 1, 1) := by decide +kernel
theorem dX13_lostOf_79 : decode cX13_lostOf 79 = .ok (.isub, 1) := by decide +kernel
theorem dX13_lostOf_80 : decode cX13_lostOf 80 = .ok (.iaload, 1) := by decide +kernel
theorem dX13_lostOf_81 : decode cX13_lostOf 81 = .ok (.istore 6, 2) := by decide +kernel
theorem dX13_lostOf_83 : decode cX13_lostOf 83 = .ok (.iload_n 2, 1) := by decide +kernel
theorem dX13_lostOf_84 : decode cX13_lostOf 84 = .ok (.ifCond .eq 16, 3) := by decide +kernel
theorem dX13_lostOf_87 : decode cX13_lostOf 87 = .ok (.iload_n 3, 1) := by decide +kernel
theorem dX13_lostOf_88 : decode cX13_lostOf 88 = .ok (.iload 5, 2) := by decide +kernel
theorem dX13_lostOf_90 : decode cX13_lostOf 90 = .ok (.if_icmp .le 14, 3) := by decide +kernel
theorem dX13_lostOf_93 : decode cX13_lostOf 93 = .ok (.iload 4, 2) := by decide +kernel
theorem dX13_lostOf_95 : decode cX13_lostOf 95 = .ok (.iload 6, 2) := by decide +kernel
theorem dX13_lostOf_97 : decode cX13_lostOf 97 = .ok (.if_icmp .le 7, 3) := by decide +kernel
theorem dX13_lostOf_100 : decode cX13_lostOf 100 = .ok (.iconst 1, 1) := by decide +kernel
theorem dX13_lostOf_101 : decode cX13_lostOf 101 = .ok (.goto 4, 3) := by decide +kernel
theorem dX13_lostOf_104 : decode cX13_lostOf 104 = .ok (.iconst 0, 1) := by decide +kernel
theorem dX13_lostOf_105 : decode cX13_lostOf 105 = .ok (.istore 7, 2) := by decide +kernel
theorem dX13_lostOf_107 : decode cX13_lostOf 107 = .ok (.iload 4, 2) := by decide +kernel
theorem dX13_lostOf_109 : decode cX13_lostOf 109 = .ok (.iload 6, 2) := by decide +kernel
theorem dX13_lostOf_111 : decode cX13_lostOf 111 = .ok (.isub, 1) := by decide +kernel
theorem dX13_lostOf_112 : decode cX13_lostOf 112 = .ok (.iload_n 3, 1) := by decide +kernel
theorem dX13_lostOf_113 : decode cX13_lostOf 113 = .ok (.iload 5, 2) := by decide +kernel
theorem dX13_lostOf_115 : decode cX13_lostOf 115 = .ok (.isub, 1) := by decide +kernel
theorem dX13_lostOf_116 : decode cX13_lostOf 116 = .ok (.isub, 1) := by decide +kernel
theorem dX13_lostOf_117 : decode cX13_lostOf 117 = .ok (.istore 8, 2) := by decide +kernel
theorem dX13_lostOf_119 : decode cX13_lostOf 119 = .ok (.iload_n 3, 1) := by decide +kernel
theorem dX13_lostOf_120 : decode cX13_lostOf 120 = .ok (.aload_n 0, 1) := by decide +kernel
theorem dX13_lostOf_121 : decode cX13_lostOf 121 = .ok (.getfield 515, 3) := by decide +kernel
theorem dX13_lostOf_124 : decode cX13_lostOf 124 = .ok (.if_icmp .gt 33, 3) := by decide +kernel
theorem dX13_lostOf_127 : decode cX13_lostOf 127 = .ok (.iload 4, 2) := by decide +kernel
theorem dX13_lostOf_129 : decode cX13_lostOf 129 = .ok (.aload_n 0, 1) := by decide +kernel
theorem dX13_lostOf_130 : decode cX13_lostOf 130 = .ok (.getfield 518, 3) := by decide +kernel
theorem dX13_lostOf_133 : decode cX13_lostOf 133 = .ok (.if_icmp .gt 24, 3) := by decide +kernel
theorem dX13_lostOf_136 : decode cX13_lostOf 136 = .ok (.iload 7, 2) := by decide +kernel
theorem dX13_lostOf_138 : decode cX13_lostOf 138 = .ok (.ifCond .eq 19, 3) := by decide +kernel
theorem dX13_lostOf_141 : decode cX13_lostOf 141 = .ok (.iload 8, 2) := by decide +kernel
theorem dX13_lostOf_143 : decode cX13_lostOf 143 = .ok (.ifCond .lt 14, 3) := by decide +kernel
theorem dX13_lostOf_146 : decode cX13_lostOf 146 = .ok (.iload 8, 2) := by decide +kernel
theorem dX13_lostOf_148 : decode cX13_lostOf 148 = .ok (.aload_n 0, 1) := by decide +kernel
theorem dX13_lostOf_149 : decode cX13_lostOf 149 = .ok (.getfield 150, 3) := by decide +kernel
theorem dX13_lostOf_152 : decode cX13_lostOf 152 = .ok (.iload_n 1, 1) := by decide +kernel
theorem dX13_lostOf_153 : decode cX13_lostOf 153 = .ok (.iaload, 1) := by decide +kernel
theorem dX13_lostOf_154 : decode cX13_lostOf 154 = .ok (.if_icmp .le 5, 3) := by decide +kernel
theorem dX13_lostOf_157 : decode cX13_lostOf 157 = .ok (.iload_n 2, 1) := by decide +kernel
theorem dX13_lostOf_158 : decode cX13_lostOf 158 = .ok (.ireturn, 1) := by decide +kernel
theorem dX13_lostOf_159 : decode cX13_lostOf 159 = .ok (.iinc 2 1, 3) := by decide +kernel
theorem dX13_lostOf_162 : decode cX13_lostOf 162 = .ok (.goto (-160), 3) := by decide +kernel
theorem dX13_lostOf_165 : decode cX13_lostOf 165 = .ok (.bipush (-9), 2) := by decide +kernel
theorem dX13_lostOf_167 : decode cX13_lostOf 167 = .ok (.ireturn, 1) := by decide +kernel
set_option maxRecDepth 100000 in
set_option maxHeartbeats 4000000 in
theorem wp_X13_lostOf {n0 d : Nat} {K : z_K} {I : z_I} {L : z_L} {Q : z_q} {p0 : Int32} (hL : MLay K) (h : Z n0 xX13_lostOf d 0 0 2 [(0, .ref (n0 + 59)), (1, .int p0), (2, .int 0)] [] K I L (z_q0 K Q)) : RM0 n0 xX13_lostOf d [.ref (n0 + 59), .int p0] K I L Q := by
  refine z_entry0 (by decide) (Nat.le_of_ble_eq_true rfl) ?_
  change Z n0 xX13_lostOf d 0 0 0 [(0, .ref (n0 + 59)), (1, .int p0)] [] K I L (z_q0 K Q)
  refine z_iconst 0 dX13_lostOf_0 (by decide) ?_
  refine z_istore_n [1, 2, 0] [(0, .ref (n0 + 59)), (1, .int p0), (2, .int 0)] dX13_lostOf_1 (by decide) rfl ?_
  exact h
set_option maxRecDepth 100000 in
set_option maxHeartbeats 4000000 in
theorem wp_X13_lostOf_2 {n0 d : Nat} {rc rs : Nat} {K : z_K} {I : z_I} {L : z_L} {Q : z_q} {a1 : Int32} {a2 : Int32} (hL : MLay K) (h : vp_in a1 20 ∧ (if a2 < (I 107 a1.toNatClampNeg) then vp_in ((6 * a1) + a2) 120 ∧ (¬ (a2 = 0) → vp_in (((6 * a1) + a2) - 1) 120) ∧ (¬ (a2 = 0) → vp_in (((6 * a1) + a2) - 1) 120) ∧ (if (I 59 75) < ((I 108 (((6 * a1) + a2).toNatClampNeg)) : Int32) then Q (some (.int a2)) I L else (if (I 59 76) < ((I 109 (((6 * a1) + a2).toNatClampNeg)) : Int32) then Q (some (.int a2)) I L else (if ((if a2 = 0 then 1 else if (if a2 = 0 then 0 else (I 108 ((((6 * a1) + a2) - 1).toNatClampNeg))) < ((I 108 (((6 * a1) + a2).toNatClampNeg)) : Int32) then if (if a2 = 0 then 0 else (I 109 ((((6 * a1) + a2) - 1).toNatClampNeg))) < ((I 109 (((6 * a1) + a2).toNatClampNeg)) : Int32) then 1 else 0 else 0) : Int32) = 0 then Q (some (.int a2)) I L else (if ((((I 109 (((6 * a1) + a2).toNatClampNeg)) - (if a2 = 0 then 0 else (I 109 ((((6 * a1) + a2) - 1).toNatClampNeg)))) - ((I 108 (((6 * a1) + a2).toNatClampNeg)) - (if a2 = 0 then 0 else (I 108 ((((6 * a1) + a2) - 1).toNatClampNeg))))) : Int32) < 0 then Q (some (.int a2)) I L else (if (I 106 a1.toNatClampNeg) < ((((I 109 (((6 * a1) + a2).toNatClampNeg)) - (if a2 = 0 then 0 else (I 109 ((((6 * a1) + a2) - 1).toNatClampNeg)))) - ((I 108 (((6 * a1) + a2).toNatClampNeg)) - (if a2 = 0 then 0 else (I 108 ((((6 * a1) + a2) - 1).toNatClampNeg))))) : Int32) then Q (some (.int a2)) I L else Z n0 xX13_lostOf d rc rs 2 [(0, .ref (n0 + 59)), (1, .int a1), (2, .int (a2 + 1))] [] K I L (z_q0 K Q)))))) else Q (some (.int (-9))) I L)) : Z n0 xX13_lostOf d rc rs 2 [(0, .ref (n0 + 59)), (1, .int a1), (2, .int a2)] [] K I L (z_q0 K Q) := by
  refine z_iload_n 2 dX13_lostOf_2 rfl ?_
  refine z_aload_n 0 dX13_lostOf_3 rfl ?_
  refine fg_13_153 (some 107) rfl dX13_lostOf_4 hL.1 hL.2.1 (ma_72 hL).1 ?_
  refine z_iload_n 1 dX13_lostOf_7 rfl ?_
  obtain ⟨o1, h⟩ := h
  refine z_iald (I 107 a1.toNatClampNeg) dX13_lostOf_8 (ma_72 hL).2.1 (ma_72 hL).2.2 o1 rfl ?_
  refine z_icmp_ge 165 dX13_lostOf_9 (by decide) (fun g2 => ?_) (fun g2 => ?_)
  · rw [if_neg g2] at h
    refine z_bipush (-9) dX13_lostOf_165 (by decide) ?_
    exact z_iret dX13_lostOf_167 rfl ⟨rfl, h⟩
  · rw [if_pos g2] at h
    refine z_aload_n 0 dX13_lostOf_12 rfl ?_
    refine fg_13_156 (some 108) rfl dX13_lostOf_13 hL.1 hL.2.1 (ma_73 hL).1 ?_
    refine z_bipush 6 dX13_lostOf_16 (by decide) ?_
    refine z_iload_n 1 dX13_lostOf_18 rfl ?_
    refine z_imul dX13_lostOf_19 ?_
    refine z_iload_n 2 dX13_lostOf_20 rfl ?_
    refine z_iadd dX13_lostOf_21 ?_
    obtain ⟨o3, h⟩ := h
    refine z_iald (I 108 (((6 * a1) + a2).toNatClampNeg)) dX13_lostOf_22 (ma_73 hL).2.1 (ma_73 hL).2.2 o3 rfl ?_
    refine z_istore_n [1, 2, 3, 0] [(0, .ref (n0 + 59)), (1, .int a1), (2, .int a2), (3, .int (I 108 (((6 * a1) + a2).toNatClampNeg)))] dX13_lostOf_23 (by decide) rfl ?_
    refine z_aload_n 0 dX13_lostOf_24 rfl ?_
    refine fg_13_159 (some 109) rfl dX13_lostOf_25 hL.1 hL.2.1 (ma_74 hL).1 ?_
    refine z_bipush 6 dX13_lostOf_28 (by decide) ?_
    refine z_iload_n 1 dX13_lostOf_30 rfl ?_
    refine z_imul dX13_lostOf_31 ?_
    refine z_iload_n 2 dX13_lostOf_32 rfl ?_
    refine z_iadd dX13_lostOf_33 ?_
    refine z_iald (I 109 (((6 * a1) + a2).toNatClampNeg)) dX13_lostOf_34 (ma_74 hL).2.1 (ma_74 hL).2.2 o3 rfl ?_
    refine z_istore [1, 2, 3, 4, 0] [(0, .ref (n0 + 59)), (1, .int a1), (2, .int a2), (3, .int (I 108 (((6 * a1) + a2).toNatClampNeg))), (4, .int (I 109 (((6 * a1) + a2).toNatClampNeg)))] dX13_lostOf_35 (by decide) rfl ?_
    refine z_iload_n 2 dX13_lostOf_37 rfl ?_
    obtain ⟨o5, h⟩ := h
    have key6 : Z n0 xX13_lostOf d rc rs 58 [(0, .ref (n0 + 59)), (1, .int a1), (2, .int a2), (3, .int (I 108 (((6 * a1) + a2).toNatClampNeg))), (4, .int (I 109 (((6 * a1) + a2).toNatClampNeg)))] [.int (if a2 = 0 then 0 else (I 108 ((((6 * a1) + a2) - 1).toNatClampNeg)))] K I L (z_q0 K Q) := by
      refine z_istore [1, 2, 3, 4, 5, 0] [(0, .ref (n0 + 59)), (1, .int a1), (2, .int a2), (3, .int (I 108 (((6 * a1) + a2).toNatClampNeg))), (4, .int (I 109 (((6 * a1) + a2).toNatClampNeg))), (5, .int (if a2 = 0 then 0 else (I 108 ((((6 * a1) + a2) - 1).toNatClampNeg))))] dX13_lostOf_58 (by decide) rfl ?_
      refine z_iload_n 2 dX13_lostOf_60 rfl ?_
      obtain ⟨o8, h⟩ := h
      have key9 : Z n0 xX13_lostOf d rc rs 81 [(0, .ref (n0 + 59)), (1, .int a1), (2, .int a2), (3, .int (I 108 (((6 * a1) + a2).toNatClampNeg))), (4, .int (I 109 (((6 * a1) + a2).toNatClampNeg))), (5, .int (if a2 = 0 then 0 else (I 108 ((((6 * a1) + a2) - 1).toNatClampNeg))))] [.int (if a2 = 0 then 0 else (I 109 ((((6 * a1) + a2) - 1).toNatClampNeg)))] K I L (z_q0 K Q) := by
        refine z_istore [1, 2, 3, 4, 5, 6, 0] [(0, .ref (n0 + 59)), (1, .int a1), (2, .int a2), (3, .int (I 108 (((6 * a1) + a2).toNatClampNeg))), (4, .int (I 109 (((6 * a1) + a2).toNatClampNeg))), (5, .int (if a2 = 0 then 0 else (I 108 ((((6 * a1) + a2) - 1).toNatClampNeg)))), (6, .int (if a2 = 0 then 0 else (I 109 ((((6 * a1) + a2) - 1).toNatClampNeg))))] dX13_lostOf_81 (by decide) rfl ?_
        refine z_iload_n 2 dX13_lostOf_83 rfl ?_
        have key13 : Z n0 xX13_lostOf d rc rs 105 [(0, .ref (n0 + 59)), (1, .int a1), (2, .int a2), (3, .int (I 108 (((6 * a1) + a2).toNatClampNeg))), (4, .int (I 109 (((6 * a1) + a2).toNatClampNeg))), (5, .int (if a2 = 0 then 0 else (I 108 ((((6 * a1) + a2) - 1).toNatClampNeg)))), (6, .int (if a2 = 0 then 0 else (I 109 ((((6 * a1) + a2) - 1).toNatClampNeg))))] [.int (if a2 = 0 then 1 else if (if a2 = 0 then 0 else (I 108 ((((6 * a1) + a2) - 1).toNatClampNeg))) < ((I 108 (((6 * a1) + a2).toNatClampNeg)) : Int32) then if (if a2 = 0 then 0 else (I 109 ((((6 * a1) + a2) - 1).toNatClampNeg))) < ((I 109 (((6 * a1) + a2).toNatClampNeg)) : Int32) then 1 else 0 else 0)] K I L (z_q0 K Q) := by
          refine z_istore [1, 2, 3, 4, 5, 6, 7, 0] [(0, .ref (n0 + 59)), (1, .int a1), (2, .int a2), (3, .int (I 108 (((6 * a1) + a2).toNatClampNeg))), (4, .int (I 109 (((6 * a1) + a2).toNatClampNeg))), (5, .int (if a2 = 0 then 0 else (I 108 ((((6 * a1) + a2) - 1).toNatClampNeg)))), (6, .int (if a2 = 0 then 0 else (I 109 ((((6 * a1) + a2) - 1).toNatClampNeg)))), (7, .int (if a2 = 0 then 1 else if (if a2 = 0 then 0 else (I 108 ((((6 * a1) + a2) - 1).toNatClampNeg))) < ((I 108 (((6 * a1) + a2).toNatClampNeg)) : Int32) then if (if a2 = 0 then 0 else (I 109 ((((6 * a1) + a2) - 1).toNatClampNeg))) < ((I 109 (((6 * a1) + a2).toNatClampNeg)) : Int32) then 1 else 0 else 0))] dX13_lostOf_105 (by decide) rfl ?_
          refine z_iload 4 dX13_lostOf_107 rfl ?_
          refine z_iload 6 dX13_lostOf_109 rfl ?_
          refine z_isub dX13_lostOf_111 ?_
          refine z_iload_n 3 dX13_lostOf_112 rfl ?_
          refine z_iload 5 dX13_lostOf_113 rfl ?_
          refine z_isub dX13_lostOf_115 ?_
          refine z_isub dX13_lostOf_116 ?_
          refine z_istore [1, 2, 3, 4, 5, 6, 7, 8, 0] [(0, .ref (n0 + 59)), (1, .int a1), (2, .int a2), (3, .int (I 108 (((6 * a1) + a2).toNatClampNeg))), (4, .int (I 109 (((6 * a1) + a2).toNatClampNeg))), (5, .int (if a2 = 0 then 0 else (I 108 ((((6 * a1) + a2) - 1).toNatClampNeg)))), (6, .int (if a2 = 0 then 0 else (I 109 ((((6 * a1) + a2) - 1).toNatClampNeg)))), (7, .int (if a2 = 0 then 1 else if (if a2 = 0 then 0 else (I 108 ((((6 * a1) + a2) - 1).toNatClampNeg))) < ((I 108 (((6 * a1) + a2).toNatClampNeg)) : Int32) then if (if a2 = 0 then 0 else (I 109 ((((6 * a1) + a2) - 1).toNatClampNeg))) < ((I 109 (((6 * a1) + a2).toNatClampNeg)) : Int32) then 1 else 0 else 0)), (8, .int (((I 109 (((6 * a1) + a2).toNatClampNeg)) - (if a2 = 0 then 0 else (I 109 ((((6 * a1) + a2) - 1).toNatClampNeg)))) - ((I 108 (((6 * a1) + a2).toNatClampNeg)) - (if a2 = 0 then 0 else (I 108 ((((6 * a1) + a2) - 1).toNatClampNeg))))))] dX13_lostOf_117 (by decide) rfl ?_
          refine z_iload_n 3 dX13_lostOf_119 rfl ?_
          refine z_aload_n 0 dX13_lostOf_120 rfl ?_
          refine fg_13_515 (I 59 75) rfl dX13_lostOf_121 hL.1 hL.2.1 rfl ?_
          refine z_icmp_gt 157 dX13_lostOf_124 (by decide) (fun g14 => ?_) (fun g14 => ?_)
          · rw [if_pos g14] at h
            refine z_iload_n 2 dX13_lostOf_157 rfl ?_
            exact z_iret dX13_lostOf_158 rfl ⟨rfl, h⟩
          · rw [if_neg g14] at h
            refine z_iload 4 dX13_lostOf_127 rfl ?_
            refine z_aload_n 0 dX13_lostOf_129 rfl ?_
            refine fg_13_518 (I 59 76) rfl dX13_lostOf_130 hL.1 hL.2.1 rfl ?_
            refine z_icmp_gt 157 dX13_lostOf_133 (by decide) (fun g15 => ?_) (fun g15 => ?_)
            · rw [if_pos g15] at h
              refine z_iload_n 2 dX13_lostOf_157 rfl ?_
              exact z_iret dX13_lostOf_158 rfl ⟨rfl, h⟩
            · rw [if_neg g15] at h
              refine z_iload 7 dX13_lostOf_136 rfl ?_
              refine z_if_eq 157 dX13_lostOf_138 (by decide) (fun g16 => ?_) (fun g16 => ?_)
              · rw [if_pos g16] at h
                refine z_iload_n 2 dX13_lostOf_157 rfl ?_
                exact z_iret dX13_lostOf_158 rfl ⟨rfl, h⟩
              · rw [if_neg g16] at h
                refine z_iload 8 dX13_lostOf_141 rfl ?_
                refine z_if_lt 157 dX13_lostOf_143 (by decide) (fun g17 => ?_) (fun g17 => ?_)
                · rw [if_pos g17] at h
                  refine z_iload_n 2 dX13_lostOf_157 rfl ?_
                  exact z_iret dX13_lostOf_158 rfl ⟨rfl, h⟩
                · rw [if_neg g17] at h
                  refine z_iload 8 dX13_lostOf_146 rfl ?_
                  refine z_aload_n 0 dX13_lostOf_148 rfl ?_
                  refine fg_13_150 (some 106) rfl dX13_lostOf_149 hL.1 hL.2.1 (ma_71 hL).1 ?_
                  refine z_iload_n 1 dX13_lostOf_152 rfl ?_
                  refine z_iald (I 106 a1.toNatClampNeg) dX13_lostOf_153 (ma_71 hL).2.1 (ma_71 hL).2.2 o1 rfl ?_
                  refine z_icmp_le 159 dX13_lostOf_154 (by decide) (fun g18 => ?_) (fun g18 => ?_)
                  · rw [if_neg g18] at h
                    refine z_iinc (j := 2) (a2 + 1) [1, 2, 0, 3, 4, 5, 6, 7, 8] [(0, .ref (n0 + 59)), (1, .int a1), (2, .int (a2 + 1)), (3, .int (I 108 (((6 * a1) + a2).toNatClampNeg))), (4, .int (I 109 (((6 * a1) + a2).toNatClampNeg))), (5, .int (if a2 = 0 then 0 else (I 108 ((((6 * a1) + a2) - 1).toNatClampNeg)))), (6, .int (if a2 = 0 then 0 else (I 109 ((((6 * a1) + a2) - 1).toNatClampNeg)))), (7, .int (if a2 = 0 then 1 else if (if a2 = 0 then 0 else (I 108 ((((6 * a1) + a2) - 1).toNatClampNeg))) < ((I 108 (((6 * a1) + a2).toNatClampNeg)) : Int32) then if (if a2 = 0 then 0 else (I 109 ((((6 * a1) + a2) - 1).toNatClampNeg))) < ((I 109 (((6 * a1) + a2).toNatClampNeg)) : Int32) then 1 else 0 else 0)), (8, .int (((I 109 (((6 * a1) + a2).toNatClampNeg)) - (if a2 = 0 then 0 else (I 109 ((((6 * a1) + a2) - 1).toNatClampNeg)))) - ((I 108 (((6 * a1) + a2).toNatClampNeg)) - (if a2 = 0 then 0 else (I 108 ((((6 * a1) + a2) - 1).toNatClampNeg))))))] dX13_lostOf_159 rfl rfl (by decide) rfl ?_
                    refine z_goto 2 dX13_lostOf_162 (by decide) ?_
                    refine z_sub [0, 1, 2] rfl ?_
                    exact h
                  · rw [if_pos g18] at h
                    refine z_iload_n 2 dX13_lostOf_157 rfl ?_
                    exact z_iret dX13_lostOf_158 rfl ⟨rfl, h⟩
        refine z_if_eq 100 dX13_lostOf_84 (by decide) (fun g10 => ?_) (fun g10 => ?_)
        · refine z_iconst 1 dX13_lostOf_100 (by decide) ?_
          refine z_goto 105 dX13_lostOf_101 (by decide) ?_
          have ee : ((if a2 = 0 then 1 else if (if a2 = 0 then 0 else (I 108 ((((6 * a1) + a2) - 1).toNatClampNeg))) < ((I 108 (((6 * a1) + a2).toNatClampNeg)) : Int32) then if (if a2 = 0 then 0 else (I 109 ((((6 * a1) + a2) - 1).toNatClampNeg))) < ((I 109 (((6 * a1) + a2).toNatClampNeg)) : Int32) then 1 else 0 else 0) : Int32) = 1 := by rw [if_pos g10]
          rw [ee] at key13
          clear ee
          exact key13
        · refine z_iload_n 3 dX13_lostOf_87 rfl ?_
          refine z_iload 5 dX13_lostOf_88 rfl ?_
          refine z_icmp_le 104 dX13_lostOf_90 (by decide) (fun g11 => ?_) (fun g11 => ?_)
          · refine z_iconst 0 dX13_lostOf_104 (by decide) ?_
            have ee : ((if a2 = 0 then 1 else if (if a2 = 0 then 0 else (I 108 ((((6 * a1) + a2) - 1).toNatClampNeg))) < ((I 108 (((6 * a1) + a2).toNatClampNeg)) : Int32) then if (if a2 = 0 then 0 else (I 109 ((((6 * a1) + a2) - 1).toNatClampNeg))) < ((I 109 (((6 * a1) + a2).toNatClampNeg)) : Int32) then 1 else 0 else 0) : Int32) = 0 := by rw [if_neg g10, if_neg g11]
            rw [ee] at key13
            clear ee
            exact key13
          · refine z_iload 4 dX13_lostOf_93 rfl ?_
            refine z_iload 6 dX13_lostOf_95 rfl ?_
            refine z_icmp_le 104 dX13_lostOf_97 (by decide) (fun g12 => ?_) (fun g12 => ?_)
            · refine z_iconst 0 dX13_lostOf_104 (by decide) ?_
              have ee : ((if a2 = 0 then 1 else if (if a2 = 0 then 0 else (I 108 ((((6 * a1) + a2) - 1).toNatClampNeg))) < ((I 108 (((6 * a1) + a2).toNatClampNeg)) : Int32) then if (if a2 = 0 then 0 else (I 109 ((((6 * a1) + a2) - 1).toNatClampNeg))) < ((I 109 (((6 * a1) + a2).toNatClampNeg)) : Int32) then 1 else 0 else 0) : Int32) = 0 := by rw [if_neg g10, if_pos g11, if_neg g12]
              rw [ee] at key13
              clear ee
              exact key13
            · refine z_iconst 1 dX13_lostOf_100 (by decide) ?_
              refine z_goto 105 dX13_lostOf_101 (by decide) ?_
              have ee : ((if a2 = 0 then 1 else if (if a2 = 0 then 0 else (I 108 ((((6 * a1) + a2) - 1).toNatClampNeg))) < ((I 108 (((6 * a1) + a2).toNatClampNeg)) : Int32) then if (if a2 = 0 then 0 else (I 109 ((((6 * a1) + a2) - 1).toNatClampNeg))) < ((I 109 (((6 * a1) + a2).toNatClampNeg)) : Int32) then 1 else 0 else 0) : Int32) = 1 := by rw [if_neg g10, if_pos g11, if_pos g12]
              rw [ee] at key13
              clear ee
              exact key13
      refine z_if_ne 68 dX13_lostOf_61 (by decide) (fun g7 => ?_) (fun g7 => ?_)
      · refine z_aload_n 0 dX13_lostOf_68 rfl ?_
        refine fg_13_159 (some 109) rfl dX13_lostOf_69 hL.1 hL.2.1 (ma_74 hL).1 ?_
        refine z_bipush 6 dX13_lostOf_72 (by decide) ?_
        refine z_iload_n 1 dX13_lostOf_74 rfl ?_
        refine z_imul dX13_lostOf_75 ?_
        refine z_iload_n 2 dX13_lostOf_76 rfl ?_
        refine z_iadd dX13_lostOf_77 ?_
        refine z_iconst 1 dX13_lostOf_78 (by decide) ?_
        refine z_isub dX13_lostOf_79 ?_
        refine z_iald (I 109 ((((6 * a1) + a2) - 1).toNatClampNeg)) dX13_lostOf_80 (ma_74 hL).2.1 (ma_74 hL).2.2 (o8 g7) rfl ?_
        have ee : ((if a2 = 0 then 0 else (I 109 ((((6 * a1) + a2) - 1).toNatClampNeg))) : Int32) = (I 109 ((((6 * a1) + a2) - 1).toNatClampNeg)) := by rw [if_neg g7]
        rw [ee] at key9
        clear ee
        exact key9
      · refine z_iconst 0 dX13_lostOf_64 (by decide) ?_
        refine z_goto 81 dX13_lostOf_65 (by decide) ?_
        have ee : ((if a2 = 0 then 0 else (I 109 ((((6 * a1) + a2) - 1).toNatClampNeg))) : Int32) = 0 := by rw [if_pos g7]
        rw [ee] at key9
        clear ee
        exact key9
    refine z_if_ne 45 dX13_lostOf_38 (by decide) (fun g4 => ?_) (fun g4 => ?_)
    · refine z_aload_n 0 dX13_lostOf_45 rfl ?_
      refine fg_13_156 (some 108) rfl dX13_lostOf_46 hL.1 hL.2.1 (ma_73 hL).1 ?_
      refine z_bipush 6 dX13_lostOf_49 (by decide) ?_
      refine z_iload_n 1 dX13_lostOf_51 rfl ?_
      refine z_imul dX13_lostOf_52 ?_
      refine z_iload_n 2 dX13_lostOf_53 rfl ?_
      refine z_iadd dX13_lostOf_54 ?_
      refine z_iconst 1 dX13_lostOf_55 (by decide) ?_
      refine z_isub dX13_lostOf_56 ?_
      refine z_iald (I 108 ((((6 * a1) + a2) - 1).toNatClampNeg)) dX13_lostOf_57 (ma_73 hL).2.1 (ma_73 hL).2.2 (o5 g4) rfl ?_
      have ee : ((if a2 = 0 then 0 else (I 108 ((((6 * a1) + a2) - 1).toNatClampNeg))) : Int32) = (I 108 ((((6 * a1) + a2) - 1).toNatClampNeg)) := by rw [if_neg g4]
      rw [ee] at key6
      clear ee
      exact key6
    · refine z_iconst 0 dX13_lostOf_41 (by decide) ?_
      refine z_goto 58 dX13_lostOf_42 (by decide) ?_
      have ee : ((if a2 = 0 then 0 else (I 108 ((((6 * a1) + a2) - 1).toNatClampNeg))) : Int32) = 0 := by rw [if_pos g4]
      rw [ee] at key6
      clear ee
      exact key6
theorem dX13_lost_0 : decode cX13_lost 0 = .ok (.aload_n 0, 1) := by decide +kernel
theorem dX13_lost_1 : decode cX13_lost 1 = .ok (.iload_n 1, 1) := by decide +kernel
theorem dX13_lost_2 : decode cX13_lost 2 = .ok (.iload_n 2, 1) := by decide +kernel
theorem dX13_lost_3 : decode cX13_lost 3 = .ok (.iload_n 3, 1) := by decide +kernel
theorem dX13_lost_4 : decode cX13_lost 4 = .ok (.invokevirtual 521, 3) := by decide +kernel
theorem dX13_lost_7 : decode cX13_lost 7 = .ok (.istore 4, 2) := by decide +kernel
theorem dX13_lost_9 : decode cX13_lost 9 = .ok (.iload 4, 2) := by decide +kernel
theorem dX13_lost_11 : decode cX13_lost 11 = .ok (.ifCond .ge 12, 3) := by decide +kernel
theorem dX13_lost_14 : decode cX13_lost 14 = .ok (.aload_n 0, 1) := by decide +kernel
theorem dX13_lost_15 : decode cX13_lost 15 = .ok (.iload 4, 2) := by decide +kernel
theorem dX13_lost_17 : decode cX13_lost 17 = .ok (.invokevirtual 308, 3) := by decide +kernel
theorem dX13_lost_20 : decode cX13_lost 20 = .ok (.goto 8, 3) := by decide +kernel
theorem dX13_lost_23 : decode cX13_lost 23 = .ok (.aload_n 0, 1) := by decide +kernel
theorem dX13_lost_24 : decode cX13_lost 24 = .ok (.iload_n 1, 1) := by decide +kernel
theorem dX13_lost_25 : decode cX13_lost 25 = .ok (.invokevirtual 527, 3) := by decide +kernel
theorem dX13_lost_28 : decode cX13_lost 28 = .ok (.ireturn, 1) := by decide +kernel
set_option maxRecDepth 100000 in
set_option maxHeartbeats 4000000 in
theorem wp_X13_lost {n0 d : Nat} {K : z_K} {I : z_I} {L : z_L} {Q : z_q} {p0 : Int32} {p1 : Int32} {p2 : Int32} (hL : MLay K) (h : RM0 n0 xX13_wrongSeam d [.ref (n0 + 59), .int p0, .int p1, .int p2] K I L (fun vv I1 L2 => ∃ r3 : Int32, vv = some (.int r3) ∧ (if r3 < 0 then RM0 n0 xX13_refuse d [.ref (n0 + 59), .int r3] K I1 L2 (fun vv I8 L9 => ∃ r10 : Int32, vv = some (.int r10) ∧ Q (some (.int r10)) I8 L9) else RM0 n0 xX13_lostOf d [.ref (n0 + 59), .int p0] K I1 L2 (fun vv I5 L6 => ∃ r7 : Int32, vv = some (.int r7) ∧ Q (some (.int r7)) I5 L6)))) : RM0 n0 xX13_lost (d + 1) [.ref (n0 + 59), .int p0, .int p1, .int p2] K I L Q := by
  refine z_entry0 (by decide) (Nat.le_of_ble_eq_true rfl) ?_
  change Z n0 xX13_lost (d + 1) 0 0 0 [(0, .ref (n0 + 59)), (1, .int p0), (2, .int p1), (3, .int p2)] [] K I L (z_q0 K Q)
  refine z_aload_n 0 dX13_lost_0 rfl ?_
  refine z_iload_n 1 dX13_lost_1 rfl ?_
  refine z_iload_n 2 dX13_lost_2 rfl ?_
  refine z_iload_n 3 dX13_lost_3 rfl ?_
  refine z_callV0 (As := [.int p0, .int p1, .int p2]) (st := []) dX13_lost_4 hy_X13_wrongSeam hL.1 hL.2.1 (by decide) wg_2027 wg_2029 wg_83 (Nat.le_refl _) (Nat.le_of_ble_eq_true rfl) (RM0.mono h (fun vv I1 L2 h => ?_))
  obtain ⟨r3, rfl, h⟩ := h
  change Z n0 xX13_lost (d + 1) 0 0 7 [(0, .ref (n0 + 59)), (1, .int p0), (2, .int p1), (3, .int p2)] [.int r3] K I1 L2 (z_q0 K Q)
  refine z_istore [1, 2, 3, 4, 0] [(0, .ref (n0 + 59)), (1, .int p0), (2, .int p1), (3, .int p2), (4, .int r3)] dX13_lost_7 (by decide) rfl ?_
  refine z_iload 4 dX13_lost_9 rfl ?_
  refine z_if_ge 23 dX13_lost_11 (by decide) (fun g4 => ?_) (fun g4 => ?_)
  · rw [if_neg g4] at h
    refine z_aload_n 0 dX13_lost_23 rfl ?_
    refine z_iload_n 1 dX13_lost_24 rfl ?_
    refine z_callV0 (As := [.int p0]) (st := []) dX13_lost_25 hy_X13_lostOf hL.1 hL.2.1 (by decide) wg_2043 wg_2045 wg_85 (Nat.le_refl _) (Nat.le_of_ble_eq_true rfl) (RM0.mono h (fun vv I5 L6 h => ?_))
    obtain ⟨r7, rfl, h⟩ := h
    change Z n0 xX13_lost (d + 1) 0 0 28 [(0, .ref (n0 + 59)), (1, .int p0), (2, .int p1), (3, .int p2), (4, .int r3)] [.int r7] K I5 L6 (z_q0 K Q)
    exact z_iret dX13_lost_28 rfl ⟨rfl, h⟩
  · rw [if_pos g4] at h
    refine z_aload_n 0 dX13_lost_14 rfl ?_
    refine z_iload 4 dX13_lost_15 rfl ?_
    refine z_callV0 (As := [.int r3]) (st := []) dX13_lost_17 hy_X13_refuse hL.1 hL.2.1 (by decide) wg_1778 wg_1780 wg_54 (Nat.le_refl _) (Nat.le_of_ble_eq_true rfl) (RM0.mono h (fun vv I8 L9 h => ?_))
    obtain ⟨r10, rfl, h⟩ := h
    change Z n0 xX13_lost (d + 1) 0 0 20 [(0, .ref (n0 + 59)), (1, .int p0), (2, .int p1), (3, .int p2), (4, .int r3)] [.int r10] K I8 L9 (z_q0 K Q)
    refine z_goto 28 dX13_lost_20 (by decide) ?_
    exact z_iret dX13_lost_28 rfl ⟨rfl, h⟩
theorem dX13_wrong_0 : decode cX13_wrong 0 = .ok (.iload_n 1, 1) := by decide +kernel
theorem dX13_wrong_1 : decode cX13_wrong 1 = .ok (.iconst 0, 1) := by decide +kernel
theorem dX13_wrong_2 : decode cX13_wrong 2 = .ok (.sipush 1000, 3) := by decide +kernel
theorem dX13_wrong_5 : decode cX13_wrong 5 = .ok (.invokestatic 324, 3) := by decide +kernel
theorem dX13_wrong_8 : decode cX13_wrong 8 = .ok (.ifCond .ge 16, 3) := by decide +kernel
theorem dX13_wrong_11 : decode cX13_wrong 11 = .ok (.aload_n 0, 1) := by decide +kernel
theorem dX13_wrong_12 : decode cX13_wrong 12 = .ok (.iload_n 1, 1) := by decide +kernel
theorem dX13_wrong_13 : decode cX13_wrong 13 = .ok (.iconst 0, 1) := by decide +kernel
theorem dX13_wrong_14 : decode cX13_wrong 14 = .ok (.sipush 1000, 3) := by decide +kernel
theorem dX13_wrong_17 : decode cX13_wrong 17 = .ok (.invokestatic 324, 3) := by decide +kernel
theorem dX13_wrong_20 : decode cX13_wrong 20 = .ok (.invokevirtual 308, 3) := by decide +kernel
theorem dX13_wrong_23 : decode cX13_wrong 23 = .ok (.ireturn, 1) := by decide +kernel
theorem dX13_wrong_24 : decode cX13_wrong 24 = .ok (.iconst 0, 1) := by decide +kernel
theorem dX13_wrong_25 : decode cX13_wrong 25 = .ok (.istore_n 2, 1) := by decide +kernel
theorem dX13_wrong_26 : decode cX13_wrong 26 = .ok (.iload_n 2, 1) := by decide +kernel
theorem dX13_wrong_27 : decode cX13_wrong 27 = .ok (.bipush 11, 2) := by decide +kernel
theorem dX13_wrong_29 : decode cX13_wrong 29 = .ok (.if_icmp .ge 60, 3) := by decide +kernel
theorem dX13_wrong_32 : decode cX13_wrong 32 = .ok (.iconst 0, 1) := by decide +kernel
theorem dX13_wrong_33 : decode cX13_wrong 33 = .ok (.istore_n 3, 1) := by decide +kernel
theorem dX13_wrong_34 : decode cX13_wrong 34 = .ok (.iload_n 3, 1) := by decide +kernel
theorem dX13_wrong_35 : decode cX13_wrong 35 = .ok (.aload_n 0, 1) := by decide +kernel
theorem dX13_wrong_36 : decode cX13_wrong 36 = .ok (.getfield 508, 3) := by decide +kernel
theorem dX13_wrong_39 : decode cX13_wrong 39 = .ok (.if_icmp .ge 44, 3) := by decide +kernel
theorem dX13_wrong_42 : decode cX13_wrong 42 = .ok (.aload_n 0, 1) := by decide +kernel
theorem dX13_wrong_43 : decode cX13_wrong 43 = .ok (.iload_n 3, 1) := by decide +kernel
theorem dX13_wrong_44 : decode cX13_wrong 44 = .ok (.iload_n 2, 1) := by decide +kernel
theorem dX13_wrong_45 : decode cX13_wrong 45 = .ok (.iload_n 1, 1) := by decide +kernel
theorem dX13_wrong_46 : decode cX13_wrong 46 = .ok (.invokevirtual 521, 3) := by decide +kernel
theorem dX13_wrong_49 : decode cX13_wrong 49 = .ok (.ifCond .lt 21, 3) := by decide +kernel
theorem dX13_wrong_52 : decode cX13_wrong 52 = .ok (.aload_n 0, 1) := by decide +kernel
theorem dX13_wrong_53 : decode cX13_wrong 53 = .ok (.iload_n 3, 1) := by decide +kernel
theorem dX13_wrong_54 : decode cX13_wrong 54 = .ok (.invokevirtual 524, 3) := by decide +kernel
theorem dX13_wrong_57 : decode cX13_wrong 57 = .ok (.ifCond .eq 13, 3) := by decide +kernel
theorem dX13_wrong_60 : decode cX13_wrong 60 = .ok (.aload_n 0, 1) := by decide +kernel
theorem dX13_wrong_61 : decode cX13_wrong 61 = .ok (.iload_n 3, 1) := by decide +kernel
theorem dX13_wrong_62 : decode cX13_wrong 62 = .ok (.invokevirtual 527, 3) := by decide +kernel
theorem dX13_wrong_65 : decode cX13_wrong 65 = .ok (.bipush (-9), 2) := by decide +kernel
theorem dX13_wrong_67 : decode cX13_wrong 67 = .ok (.if_icmp .eq 10, 3) := by decide +kernel
theorem dX13_wrong_70 : decode cX13_wrong 70 = .ok (.bipush 32, 2) := by decide +kernel
theorem dX13_wrong_72 : decode cX13_wrong 72 = .ok (.iload_n 2, 1) := by decide +kernel
theorem dX13_wrong_73 : decode cX13_wrong 73 = .ok (.imul, 1) := by decide +kernel
theorem dX13_wrong_74 : decode cX13_wrong 74 = .ok (.iload_n 3, 1) := by decide +kernel
theorem dX13_wrong_75 : decode cX13_wrong 75 = .ok (.iadd, 1) := by decide +kernel
theorem dX13_wrong_76 : decode cX13_wrong 76 = .ok (.ireturn, 1) := by decide +kernel
theorem dX13_wrong_77 : decode cX13_wrong 77 = .ok (.iinc 3 1, 3) := by decide +kernel
theorem dX13_wrong_80 : decode cX13_wrong 80 = .ok (.goto (-46), 3) := by decide +kernel
theorem dX13_wrong_83 : decode cX13_wrong 83 = .ok (.iinc 2 1, 3) := by decide +kernel
theorem dX13_wrong_86 : decode cX13_wrong 86 = .ok (.goto (-60), 3) := by decide +kernel
theorem dX13_wrong_89 : decode cX13_wrong 89 = .ok (.bipush (-9), 2) := by decide +kernel
theorem dX13_wrong_91 : decode cX13_wrong 91 = .ok (.ireturn, 1) := by decide +kernel
set_option maxRecDepth 100000 in
set_option maxHeartbeats 4000000 in
theorem wp_X13_wrong {n0 d : Nat} {K : z_K} {I : z_I} {L : z_L} {Q : z_q} {p0 : Int32} (hL : MLay K) (h : RM0 n0 xX13_bounds d [.int p0, .int 0, .int 1000] K I L (fun vv I1 L2 => ∃ r3 : Int32, vv = some (.int r3) ∧ (if r3 < 0 then RM0 n0 xX13_bounds d [.int p0, .int 0, .int 1000] K I1 L2 (fun vv I5 L6 => ∃ r7 : Int32, vv = some (.int r7) ∧ RM0 n0 xX13_refuse d [.ref (n0 + 59), .int r7] K I5 L6 (fun vv I8 L9 => ∃ r10 : Int32, vv = some (.int r10) ∧ Q (some (.int r10)) I8 L9)) else Z n0 xX13_wrong (d + 1) 0 0 26 [(0, .ref (n0 + 59)), (1, .int p0), (2, .int 0)] [] K I1 L2 (z_q0 K Q)))) : RM0 n0 xX13_wrong (d + 1) [.ref (n0 + 59), .int p0] K I L Q := by
  refine z_entry0 (by decide) (Nat.le_of_ble_eq_true rfl) ?_
  change Z n0 xX13_wrong (d + 1) 0 0 0 [(0, .ref (n0 + 59)), (1, .int p0)] [] K I L (z_q0 K Q)
  refine z_iload_n 1 dX13_wrong_0 rfl ?_
  refine z_iconst 0 dX13_wrong_1 (by decide) ?_
  refine z_sipush 1000 dX13_wrong_2 (by decide) ?_
  refine z_callS0 (As := [.int p0, .int 0, .int 1000]) (st := []) dX13_wrong_5 hy_X13_bounds wg_1797 wg_1798 (Nat.le_refl _) (Nat.le_of_ble_eq_true rfl) (RM0.mono h (fun vv I1 L2 h => ?_))
  obtain ⟨r3, rfl, h⟩ := h
  change Z n0 xX13_wrong (d + 1) 0 0 8 [(0, .ref (n0 + 59)), (1, .int p0)] [.int r3] K I1 L2 (z_q0 K Q)
  refine z_if_ge 24 dX13_wrong_8 (by decide) (fun g4 => ?_) (fun g4 => ?_)
  · rw [if_neg g4] at h
    refine z_iconst 0 dX13_wrong_24 (by decide) ?_
    refine z_istore_n [1, 2, 0] [(0, .ref (n0 + 59)), (1, .int p0), (2, .int 0)] dX13_wrong_25 (by decide) rfl ?_
    exact h
  · rw [if_pos g4] at h
    refine z_aload_n 0 dX13_wrong_11 rfl ?_
    refine z_iload_n 1 dX13_wrong_12 rfl ?_
    refine z_iconst 0 dX13_wrong_13 (by decide) ?_
    refine z_sipush 1000 dX13_wrong_14 (by decide) ?_
    refine z_callS0 (As := [.int p0, .int 0, .int 1000]) (st := [.ref (n0 + 59)]) dX13_wrong_17 hy_X13_bounds wg_1797 wg_1798 (Nat.le_refl _) (Nat.le_of_ble_eq_true rfl) (RM0.mono h (fun vv I5 L6 h => ?_))
    obtain ⟨r7, rfl, h⟩ := h
    change Z n0 xX13_wrong (d + 1) 0 0 20 [(0, .ref (n0 + 59)), (1, .int p0)] [.int r7, .ref (n0 + 59)] K I5 L6 (z_q0 K Q)
    refine z_callV0 (As := [.int r7]) (st := []) dX13_wrong_20 hy_X13_refuse hL.1 hL.2.1 (by decide) wg_1778 wg_1780 wg_54 (Nat.le_refl _) (Nat.le_of_ble_eq_true rfl) (RM0.mono h (fun vv I8 L9 h => ?_))
    obtain ⟨r10, rfl, h⟩ := h
    change Z n0 xX13_wrong (d + 1) 0 0 23 [(0, .ref (n0 + 59)), (1, .int p0)] [.int r10] K I8 L9 (z_q0 K Q)
    exact z_iret dX13_wrong_23 rfl ⟨rfl, h⟩
set_option maxRecDepth 100000 in
set_option maxHeartbeats 4000000 in
theorem wp_X13_wrong_26 {n0 d : Nat} {rc rs : Nat} {K : z_K} {I : z_I} {L : z_L} {Q : z_q} {a1 : Int32} {a2 : Int32} (hL : MLay K) (h : (if a2 < 11 then Z n0 xX13_wrong (d + 1) rc rs 34 [(0, .ref (n0 + 59)), (1, .int a1), (2, .int a2), (3, .int 0)] [] K I L (z_q0 K Q) else Q (some (.int (-9))) I L)) : Z n0 xX13_wrong (d + 1) rc rs 26 [(0, .ref (n0 + 59)), (1, .int a1), (2, .int a2)] [] K I L (z_q0 K Q) := by
  refine z_iload_n 2 dX13_wrong_26 rfl ?_
  refine z_bipush 11 dX13_wrong_27 (by decide) ?_
  refine z_icmp_ge 89 dX13_wrong_29 (by decide) (fun g1 => ?_) (fun g1 => ?_)
  · rw [if_neg g1] at h
    refine z_bipush (-9) dX13_wrong_89 (by decide) ?_
    exact z_iret dX13_wrong_91 rfl ⟨rfl, h⟩
  · rw [if_pos g1] at h
    refine z_iconst 0 dX13_wrong_32 (by decide) ?_
    refine z_istore_n [1, 2, 3, 0] [(0, .ref (n0 + 59)), (1, .int a1), (2, .int a2), (3, .int 0)] dX13_wrong_33 (by decide) rfl ?_
    exact h
set_option maxRecDepth 100000 in
set_option maxHeartbeats 4000000 in
theorem wp_X13_wrong_34 {n0 d : Nat} {rc rs : Nat} {K : z_K} {I : z_I} {L : z_L} {Q : z_q} {a1 : Int32} {a2 : Int32} {a3 : Int32} (hL : MLay K) (h : (if a3 < (I 59 62) then RM0 n0 xX13_wrongSeam d [.ref (n0 + 59), .int a3, .int a2, .int a1] K I L (fun vv I2 L3 => ∃ r4 : Int32, vv = some (.int r4) ∧ (if r4 < 0 then Q (some (.int ((32 * a2) + a3))) I2 L3 else RM0 n0 xX13_doesMeet d [.ref (n0 + 59), .int a3] K I2 L3 (fun vv I6 L7 => ∃ r8 : Int32, vv = some (.int r8) ∧ (if r8 = 0 then Q (some (.int ((32 * a2) + a3))) I6 L7 else RM0 n0 xX13_lostOf d [.ref (n0 + 59), .int a3] K I6 L7 (fun vv I10 L11 => ∃ r12 : Int32, vv = some (.int r12) ∧ (if r12 = (-9) then Z n0 xX13_wrong (d + 1) rc rs 34 [(0, .ref (n0 + 59)), (1, .int a1), (2, .int a2), (3, .int (a3 + 1))] [] K I10 L11 (z_q0 K Q) else Q (some (.int ((32 * a2) + a3))) I10 L11)))))) else Z n0 xX13_wrong (d + 1) rc rs 26 [(0, .ref (n0 + 59)), (1, .int a1), (2, .int (a2 + 1))] [] K I L (z_q0 K Q))) : Z n0 xX13_wrong (d + 1) rc rs 34 [(0, .ref (n0 + 59)), (1, .int a1), (2, .int a2), (3, .int a3)] [] K I L (z_q0 K Q) := by
  refine z_iload_n 3 dX13_wrong_34 rfl ?_
  refine z_aload_n 0 dX13_wrong_35 rfl ?_
  refine fg_13_508 (I 59 62) rfl dX13_wrong_36 hL.1 hL.2.1 rfl ?_
  refine z_icmp_ge 83 dX13_wrong_39 (by decide) (fun g1 => ?_) (fun g1 => ?_)
  · rw [if_neg g1] at h
    refine z_iinc (j := 2) (a2 + 1) [1, 2, 0, 3] [(0, .ref (n0 + 59)), (1, .int a1), (2, .int (a2 + 1)), (3, .int a3)] dX13_wrong_83 rfl rfl (by decide) rfl ?_
    refine z_goto 26 dX13_wrong_86 (by decide) ?_
    refine z_sub [0, 1, 2] rfl ?_
    exact h
  · rw [if_pos g1] at h
    refine z_aload_n 0 dX13_wrong_42 rfl ?_
    refine z_iload_n 3 dX13_wrong_43 rfl ?_
    refine z_iload_n 2 dX13_wrong_44 rfl ?_
    refine z_iload_n 1 dX13_wrong_45 rfl ?_
    refine z_callV0 (As := [.int a3, .int a2, .int a1]) (st := []) dX13_wrong_46 hy_X13_wrongSeam hL.1 hL.2.1 (by decide) wg_2027 wg_2029 wg_83 (Nat.le_refl _) (Nat.le_of_ble_eq_true rfl) (RM0.mono h (fun vv I2 L3 h => ?_))
    obtain ⟨r4, rfl, h⟩ := h
    change Z n0 xX13_wrong (d + 1) rc rs 49 [(0, .ref (n0 + 59)), (1, .int a1), (2, .int a2), (3, .int a3)] [.int r4] K I2 L3 (z_q0 K Q)
    refine z_if_lt 70 dX13_wrong_49 (by decide) (fun g5 => ?_) (fun g5 => ?_)
    · rw [if_pos g5] at h
      refine z_bipush 32 dX13_wrong_70 (by decide) ?_
      refine z_iload_n 2 dX13_wrong_72 rfl ?_
      refine z_imul dX13_wrong_73 ?_
      refine z_iload_n 3 dX13_wrong_74 rfl ?_
      refine z_iadd dX13_wrong_75 ?_
      exact z_iret dX13_wrong_76 rfl ⟨rfl, h⟩
    · rw [if_neg g5] at h
      refine z_aload_n 0 dX13_wrong_52 rfl ?_
      refine z_iload_n 3 dX13_wrong_53 rfl ?_
      refine z_callV0 (As := [.int a3]) (st := []) dX13_wrong_54 hy_X13_doesMeet hL.1 hL.2.1 (by decide) wg_2035 wg_2037 wg_84 (Nat.le_refl _) (Nat.le_of_ble_eq_true rfl) (RM0.mono h (fun vv I6 L7 h => ?_))
      obtain ⟨r8, rfl, h⟩ := h
      change Z n0 xX13_wrong (d + 1) rc rs 57 [(0, .ref (n0 + 59)), (1, .int a1), (2, .int a2), (3, .int a3)] [.int r8] K I6 L7 (z_q0 K Q)
      refine z_if_eq 70 dX13_wrong_57 (by decide) (fun g9 => ?_) (fun g9 => ?_)
      · rw [if_pos g9] at h
        refine z_bipush 32 dX13_wrong_70 (by decide) ?_
        refine z_iload_n 2 dX13_wrong_72 rfl ?_
        refine z_imul dX13_wrong_73 ?_
        refine z_iload_n 3 dX13_wrong_74 rfl ?_
        refine z_iadd dX13_wrong_75 ?_
        exact z_iret dX13_wrong_76 rfl ⟨rfl, h⟩
      · rw [if_neg g9] at h
        refine z_aload_n 0 dX13_wrong_60 rfl ?_
        refine z_iload_n 3 dX13_wrong_61 rfl ?_
        refine z_callV0 (As := [.int a3]) (st := []) dX13_wrong_62 hy_X13_lostOf hL.1 hL.2.1 (by decide) wg_2043 wg_2045 wg_85 (Nat.le_refl _) (Nat.le_of_ble_eq_true rfl) (RM0.mono h (fun vv I10 L11 h => ?_))
        obtain ⟨r12, rfl, h⟩ := h
        change Z n0 xX13_wrong (d + 1) rc rs 65 [(0, .ref (n0 + 59)), (1, .int a1), (2, .int a2), (3, .int a3)] [.int r12] K I10 L11 (z_q0 K Q)
        refine z_bipush (-9) dX13_wrong_65 (by decide) ?_
        refine z_icmp_eq 77 dX13_wrong_67 (by decide) (fun g13 => ?_) (fun g13 => ?_)
        · rw [if_pos g13] at h
          refine z_iinc (j := 3) (a3 + 1) [1, 2, 3, 0] [(0, .ref (n0 + 59)), (1, .int a1), (2, .int a2), (3, .int (a3 + 1))] dX13_wrong_77 rfl rfl (by decide) rfl ?_
          refine z_goto 34 dX13_wrong_80 (by decide) ?_
          exact h
        · rw [if_neg g13] at h
          refine z_bipush 32 dX13_wrong_70 (by decide) ?_
          refine z_iload_n 2 dX13_wrong_72 rfl ?_
          refine z_imul dX13_wrong_73 ?_
          refine z_iload_n 3 dX13_wrong_74 rfl ?_
          refine z_iadd dX13_wrong_75 ?_
          exact z_iret dX13_wrong_76 rfl ⟨rfl, h⟩
theorem dX13_condition_0 : decode cX13_condition 0 = .ok (.iload_n 1, 1) := by decide +kernel
theorem dX13_condition_1 : decode cX13_condition 1 = .ok (.bipush (-99), 2) := by decide +kernel
theorem dX13_condition_3 : decode cX13_condition 3 = .ok (.if_icmp .lt 44, 3) := by decide +kernel
theorem dX13_condition_6 : decode cX13_condition 6 = .ok (.iload_n 2, 1) := by decide +kernel
theorem dX13_condition_7 : decode cX13_condition 7 = .ok (.bipush (-99), 2) := by decide +kernel
theorem dX13_condition_9 : decode cX13_condition 9 = .ok (.if_icmp .lt 38, 3) := by decide +kernel
theorem dX13_condition_12 : decode cX13_condition 12 = .ok (.iload_n 3, 1) := by decide +kernel
theorem dX13_condition_13 : decode cX13_condition 13 = .ok (.bipush (-99), 2) := by decide +kernel
theorem dX13_condition_15 : decode cX13_condition 15 = .ok (.if_icmp .lt 32, 3) := by decide +kernel
theorem dX13_condition_18 : decode cX13_condition 18 = .ok (.iload 4, 2) := by decide +kernel
theorem dX13_condition_20 : decode cX13_condition 20 = .ok (.bipush (-99), 2) := by decide +kernel
theorem dX13_condition_22 : decode cX13_condition 22 = .ok (.if_icmp .lt 25, 3) := by decide +kernel
theorem dX13_condition_25 : decode cX13_condition 25 = .ok (.iload 5, 2) := by decide +kernel
theorem dX13_condition_27 : decode cX13_condition 27 = .ok (.bipush (-99), 2) := by decide +kernel
theorem dX13_condition_29 : decode cX13_condition 29 = .ok (.if_icmp .lt 18, 3) := by decide +kernel
theorem dX13_condition_32 : decode cX13_condition 32 = .ok (.iload 6, 2) := by decide +kernel
theorem dX13_condition_34 : decode cX13_condition 34 = .ok (.bipush (-99), 2) := by decide +kernel
theorem dX13_condition_36 : decode cX13_condition 36 = .ok (.if_icmp .lt 11, 3) := by decide +kernel
theorem dX13_condition_39 : decode cX13_condition 39 = .ok (.iload 7, 2) := by decide +kernel
theorem dX13_condition_41 : decode cX13_condition 41 = .ok (.sipush (-9999), 3) := by decide +kernel
theorem dX13_condition_44 : decode cX13_condition 44 = .ok (.if_icmp .ge 10, 3) := by decide +kernel
theorem dX13_condition_47 : decode cX13_condition 47 = .ok (.aload_n 0, 1) := by decide +kernel
theorem dX13_condition_48 : decode cX13_condition 48 = .ok (.bipush (-4), 2) := by decide +kernel
theorem dX13_condition_50 : decode cX13_condition 50 = .ok (.invokevirtual 308, 3) := by decide +kernel
theorem dX13_condition_53 : decode cX13_condition 53 = .ok (.ireturn, 1) := by decide +kernel
theorem dX13_condition_54 : decode cX13_condition 54 = .ok (.iload_n 1, 1) := by decide +kernel
theorem dX13_condition_55 : decode cX13_condition 55 = .ok (.bipush 99, 2) := by decide +kernel
theorem dX13_condition_57 : decode cX13_condition 57 = .ok (.if_icmp .gt 52, 3) := by decide +kernel
theorem dX13_condition_60 : decode cX13_condition 60 = .ok (.iload_n 2, 1) := by decide +kernel
theorem dX13_condition_61 : decode cX13_condition 61 = .ok (.bipush 99, 2) := by decide +kernel
theorem dX13_condition_63 : decode cX13_condition 63 = .ok (.if_icmp .gt 46, 3) := by decide +kernel
theorem dX13_condition_66 : decode cX13_condition 66 = .ok (.iload_n 3, 1) := by decide +kernel
theorem dX13_condition_67 : decode cX13_condition 67 = .ok (.bipush 99, 2) := by decide +kernel
theorem dX13_condition_69 : decode cX13_condition 69 = .ok (.if_icmp .gt 40, 3) := by decide +kernel
theorem dX13_condition_72 : decode cX13_condition 72 = .ok (.iload 4, 2) := by decide +kernel
theorem dX13_condition_74 : decode cX13_condition 74 = .ok (.bipush 99, 2) := by decide +kernel
theorem dX13_condition_76 : decode cX13_condition 76 = .ok (.if_icmp .gt 33, 3) := by decide +kernel
theorem dX13_condition_79 : decode cX13_condition 79 = .ok (.iload 5, 2) := by decide +kernel
theorem dX13_condition_81 : decode cX13_condition 81 = .ok (.bipush 99, 2) := by decide +kernel
theorem dX13_condition_83 : decode cX13_condition 83 = .ok (.if_icmp .gt 26, 3) := by decide +kernel
theorem dX13_condition_86 : decode cX13_condition 86 = .ok (.iload 6, 2) := by decide +kernel
theorem dX13_condition_88 : decode cX13_condition 88 = .ok (.bipush 99, 2) := by decide +kernel
theorem dX13_condition_90 : decode cX13_condition 90 = .ok (.if_icmp .gt 19, 3) := by decide +kernel
theorem dX13_condition_93 : decode cX13_condition 93 = .ok (.iload 7, 2) := by decide +kernel
theorem dX13_condition_95 : decode cX13_condition 95 = .ok (.sipush 9999, 3) := by decide +kernel
theorem dX13_condition_98 : decode cX13_condition 98 = .ok (.if_icmp .gt 11, 3) := by decide +kernel
theorem dX13_condition_101 : decode cX13_condition 101 = .ok (.aload_n 0, 1) := by decide +kernel
theorem dX13_condition_102 : decode cX13_condition 102 = .ok (.getfield 530, 3) := by decide +kernel
theorem dX13_condition_105 : decode cX13_condition 105 = .ok (.iconst 2, 1) := by decide +kernel
theorem dX13_condition_106 : decode cX13_condition 106 = .ok (.if_icmp .ne 10, 3) := by decide +kernel
theorem dX13_condition_109 : decode cX13_condition 109 = .ok (.aload_n 0, 1) := by decide +kernel
theorem dX13_condition_110 : decode cX13_condition 110 = .ok (.bipush (-6), 2) := by decide +kernel
theorem dX13_condition_112 : decode cX13_condition 112 = .ok (.invokevirtual 308, 3) := by decide +kernel
theorem dX13_condition_115 : decode cX13_condition 115 = .ok (.ireturn, 1) := by decide +kernel
theorem dX13_condition_116 : decode cX13_condition 116 = .ok (.bipush 6, 2) := by decide +kernel
theorem dX13_condition_118 : decode cX13_condition 118 = .ok (.aload_n 0, 1) := by decide +kernel
theorem dX13_condition_119 : decode cX13_condition 119 = .ok (.getfield 530, 3) := by decide +kernel
theorem dX13_condition_122 : decode cX13_condition 122 = .ok (.imul, 1) := by decide +kernel
theorem dX13_condition_123 : decode cX13_condition 123 = .ok (.istore 8, 2) := by decide +kernel
theorem dX13_condition_125 : decode cX13_condition 125 = .ok (.aload_n 0, 1) := by decide +kernel
theorem dX13_condition_126 : decode cX13_condition 126 = .ok (.getfield 162, 3) := by decide +kernel
theorem dX13_condition_129 : decode cX13_condition 129 = .ok (.iload 8, 2) := by decide +kernel
theorem dX13_condition_131 : decode cX13_condition 131 = .ok (.iload_n 1, 1) := by decide +kernel
theorem dX13_condition_132 : decode cX13_condition 132 = .ok (.iastore, 1) := by decide +kernel
theorem dX13_condition_133 : decode cX13_condition 133 = .ok (.aload_n 0, 1) := by decide +kernel
theorem dX13_condition_134 : decode cX13_condition 134 = .ok (.getfield 162, 3) := by decide +kernel
theorem dX13_condition_137 : decode cX13_condition 137 = .ok (.iload 8, 2) := by decide +kernel
theorem dX13_condition_139 : decode cX13_condition 139 = .ok (.iconst 1, 1) := by decide +kernel
theorem dX13_condition_140 : decode cX13_condition 140 = .ok (.iadd, 1) := by decide +kernel
theorem dX13_condition_141 : decode cX13_condition 141 = .ok (.iload_n 2, 1) := by decide +kernel
theorem dX13_condition_142 : decode cX13_condition 142 = .ok (.iastore, 1) := by decide +kernel
theorem dX13_condition_143 : decode cX13_condition 143 = .ok (.aload_n 0, 1) := by decide +kernel
theorem dX13_condition_144 : decode cX13_condition 144 = .ok (.getfield 162, 3) := by decide +kernel
theorem dX13_condition_147 : decode cX13_condition 147 = .ok (.iload 8, 2) := by decide +kernel
theorem dX13_condition_149 : decode cX13_condition 149 = .ok (.iconst 2, 1) := by decide +kernel
theorem dX13_condition_150 : decode cX13_condition 150 = .ok (.iadd, 1) := by decide +kernel
theorem dX13_condition_151 : decode cX13_condition 151 = .ok (.iload_n 3, 1) := by decide +kernel
theorem dX13_condition_152 : decode cX13_condition 152 = .ok (.iastore, 1) := by decide +kernel
theorem dX13_condition_153 : decode cX13_condition 153 = .ok (.aload_n 0, 1) := by decide +kernel
theorem dX13_condition_154 : decode cX13_condition 154 = .ok (.getfield 162, 3) := by decide +kernel
theorem dX13_condition_157 : decode cX13_condition 157 = .ok (.iload 8, 2) := by decide +kernel
theorem dX13_condition_159 : decode cX13_condition 159 = .ok (.iconst 3, 1) := by decide +kernel
theorem dX13_condition_160 : decode cX13_condition 160 = .ok (.iadd, 1) := by decide +kernel
theorem dX13_condition_161 : decode cX13_condition 161 = .ok (.iload 4, 2) := by decide +kernel
theorem dX13_condition_163 : decode cX13_condition 163 = .ok (.iastore, 1) := by decide +kernel
theorem dX13_condition_164 : decode cX13_condition 164 = .ok (.aload_n 0, 1) := by decide +kernel
theorem dX13_condition_165 : decode cX13_condition 165 = .ok (.getfield 162, 3) := by decide +kernel
theorem dX13_condition_168 : decode cX13_condition 168 = .ok (.iload 8, 2) := by decide +kernel
theorem dX13_condition_170 : decode cX13_condition 170 = .ok (.iconst 4, 1) := by decide +kernel
theorem dX13_condition_171 : decode cX13_condition 171 = .ok (.iadd, 1) := by decide +kernel
theorem dX13_condition_172 : decode cX13_condition 172 = .ok (.iload 5, 2) := by decide +kernel
theorem dX13_condition_174 : decode cX13_condition 174 = .ok (.iastore, 1) := by decide +kernel
theorem dX13_condition_175 : decode cX13_condition 175 = .ok (.aload_n 0, 1) := by decide +kernel
theorem dX13_condition_176 : decode cX13_condition 176 = .ok (.getfield 162, 3) := by decide +kernel
theorem dX13_condition_179 : decode cX13_condition 179 = .ok (.iload 8, 2) := by decide +kernel
theorem dX13_condition_181 : decode cX13_condition 181 = .ok (.iconst 5, 1) := by decide +kernel
theorem dX13_condition_182 : decode cX13_condition 182 = .ok (.iadd, 1) := by decide +kernel
theorem dX13_condition_183 : decode cX13_condition 183 = .ok (.iload 6, 2) := by decide +kernel
theorem dX13_condition_185 : decode cX13_condition 185 = .ok (.iastore, 1) := by decide +kernel
theorem dX13_condition_186 : decode cX13_condition 186 = .ok (.aload_n 0, 1) := by decide +kernel
theorem dX13_condition_187 : decode cX13_condition 187 = .ok (.getfield 165, 3) := by decide +kernel
theorem dX13_condition_190 : decode cX13_condition 190 = .ok (.aload_n 0, 1) := by decide +kernel
theorem dX13_condition_191 : decode cX13_condition 191 = .ok (.getfield 530, 3) := by decide +kernel
theorem dX13_condition_194 : decode cX13_condition 194 = .ok (.iload 7, 2) := by decide +kernel
theorem dX13_condition_196 : decode cX13_condition 196 = .ok (.iastore, 1) := by decide +kernel
theorem dX13_condition_197 : decode cX13_condition 197 = .ok (.aload_n 0, 1) := by decide +kernel
theorem dX13_condition_198 : decode cX13_condition 198 = .ok (.dup, 1) := by decide +kernel
theorem dX13_condition_199 : decode cX13_condition 199 = .ok (.getfield 530, 3) := by decide +kernel
theorem dX13_condition_202 : decode cX13_condition 202 = .ok (.iconst 1, 1) := by decide +kernel
theorem dX13_condition_203 : decode cX13_condition 203 = .ok (.iadd, 1) := by decide +kernel
theorem dX13_condition_204 : decode cX13_condition 204 = .ok (.putfield 530, 3) := by decide +kernel
theorem dX13_condition_207 : decode cX13_condition 207 = .ok (.aload_n 0, 1) := by decide +kernel
theorem dX13_condition_208 : decode cX13_condition 208 = .ok (.getfield 530, 3) := by decide +kernel
theorem dX13_condition_211 : decode cX13_condition 211 = .ok (.ireturn, 1) := by decide +kernel
set_option maxRecDepth 100000 in
set_option maxHeartbeats 4000000 in
theorem wp_X13_condition {n0 d : Nat} {K : z_K} {I : z_I} {L : z_L} {Q : z_q} {p0 : Int32} {p1 : Int32} {p2 : Int32} {p3 : Int32} {p4 : Int32} {p5 : Int32} {p6 : Int32} (hL : MLay K) (h : (if p0 < (-99) then RM0 n0 xX13_refuse d [.ref (n0 + 59), .int (-4)] K I L (fun vv I2 L3 => ∃ r4 : Int32, vv = some (.int r4) ∧ Q (some (.int r4)) I2 L3) else (if p1 < (-99) then RM0 n0 xX13_refuse d [.ref (n0 + 59), .int (-4)] K I L (fun vv I6 L7 => ∃ r8 : Int32, vv = some (.int r8) ∧ Q (some (.int r8)) I6 L7) else (if p2 < (-99) then RM0 n0 xX13_refuse d [.ref (n0 + 59), .int (-4)] K I L (fun vv I10 L11 => ∃ r12 : Int32, vv = some (.int r12) ∧ Q (some (.int r12)) I10 L11) else (if p3 < (-99) then RM0 n0 xX13_refuse d [.ref (n0 + 59), .int (-4)] K I L (fun vv I14 L15 => ∃ r16 : Int32, vv = some (.int r16) ∧ Q (some (.int r16)) I14 L15) else (if p4 < (-99) then RM0 n0 xX13_refuse d [.ref (n0 + 59), .int (-4)] K I L (fun vv I18 L19 => ∃ r20 : Int32, vv = some (.int r20) ∧ Q (some (.int r20)) I18 L19) else (if p5 < (-99) then RM0 n0 xX13_refuse d [.ref (n0 + 59), .int (-4)] K I L (fun vv I22 L23 => ∃ r24 : Int32, vv = some (.int r24) ∧ Q (some (.int r24)) I22 L23) else (if p6 < (-9999) then RM0 n0 xX13_refuse d [.ref (n0 + 59), .int (-4)] K I L (fun vv I65 L66 => ∃ r67 : Int32, vv = some (.int r67) ∧ Q (some (.int r67)) I65 L66) else (if 99 < p0 then RM0 n0 xX13_refuse d [.ref (n0 + 59), .int (-6)] K I L (fun vv I27 L28 => ∃ r29 : Int32, vv = some (.int r29) ∧ Q (some (.int r29)) I27 L28) else (if 99 < p1 then RM0 n0 xX13_refuse d [.ref (n0 + 59), .int (-6)] K I L (fun vv I31 L32 => ∃ r33 : Int32, vv = some (.int r33) ∧ Q (some (.int r33)) I31 L32) else (if 99 < p2 then RM0 n0 xX13_refuse d [.ref (n0 + 59), .int (-6)] K I L (fun vv I35 L36 => ∃ r37 : Int32, vv = some (.int r37) ∧ Q (some (.int r37)) I35 L36) else (if 99 < p3 then RM0 n0 xX13_refuse d [.ref (n0 + 59), .int (-6)] K I L (fun vv I39 L40 => ∃ r41 : Int32, vv = some (.int r41) ∧ Q (some (.int r41)) I39 L40) else (if 99 < p4 then RM0 n0 xX13_refuse d [.ref (n0 + 59), .int (-6)] K I L (fun vv I43 L44 => ∃ r45 : Int32, vv = some (.int r45) ∧ Q (some (.int r45)) I43 L44) else (if 99 < p5 then RM0 n0 xX13_refuse d [.ref (n0 + 59), .int (-6)] K I L (fun vv I47 L48 => ∃ r49 : Int32, vv = some (.int r49) ∧ Q (some (.int r49)) I47 L48) else (if 9999 < p6 then RM0 n0 xX13_refuse d [.ref (n0 + 59), .int (-6)] K I L (fun vv I51 L52 => ∃ r53 : Int32, vv = some (.int r53) ∧ Q (some (.int r53)) I51 L52) else (if ((I 59 77) : Int32) = 2 then RM0 n0 xX13_refuse d [.ref (n0 + 59), .int (-6)] K I L (fun vv I62 L63 => ∃ r64 : Int32, vv = some (.int r64) ∧ Q (some (.int r64)) I62 L63) else vp_in (6 * (I 59 77)) 12 ∧ vp_in ((6 * (I 59 77)) + 1) 12 ∧ vp_in ((6 * (I 59 77)) + 2) 12 ∧ vp_in ((6 * (I 59 77)) + 3) 12 ∧ vp_in ((6 * (I 59 77)) + 4) 12 ∧ vp_in ((6 * (I 59 77)) + 5) 12 ∧ vp_in (I 59 77) 2 ∧ Q (some (.int (((I 59 77) + 1)))) (zI (zI (zI (zI (zI (zI (zI (zI I 110 ((6 * (I 59 77)).toNatClampNeg) p0) 110 (((6 * (I 59 77)) + 1).toNatClampNeg) p1) 110 (((6 * (I 59 77)) + 2).toNatClampNeg) p2) 110 (((6 * (I 59 77)) + 3).toNatClampNeg) p3) 110 (((6 * (I 59 77)) + 4).toNatClampNeg) p4) 110 (((6 * (I 59 77)) + 5).toNatClampNeg) p5) 111 ((I 59 77).toNatClampNeg) p6) 59 77 ((I 59 77) + 1)) L)))))))))))))))) : RM0 n0 xX13_condition (d + 1) [.ref (n0 + 59), .int p0, .int p1, .int p2, .int p3, .int p4, .int p5, .int p6] K I L Q := by
  refine z_entry0 (by decide) (Nat.le_of_ble_eq_true rfl) ?_
  change Z n0 xX13_condition (d + 1) 0 0 0 [(0, .ref (n0 + 59)), (1, .int p0), (2, .int p1), (3, .int p2), (4, .int p3), (5, .int p4), (6, .int p5), (7, .int p6)] [] K I L (z_q0 K Q)
  refine z_iload_n 1 dX13_condition_0 rfl ?_
  refine z_bipush (-99) dX13_condition_1 (by decide) ?_
  refine z_icmp_lt 47 dX13_condition_3 (by decide) (fun g1 => ?_) (fun g1 => ?_)
  · rw [if_pos g1] at h
    refine z_aload_n 0 dX13_condition_47 rfl ?_
    refine z_bipush (-4) dX13_condition_48 (by decide) ?_
    refine z_callV0 (As := [.int (-4)]) (st := []) dX13_condition_50 hy_X13_refuse hL.1 hL.2.1 (by decide) wg_1778 wg_1780 wg_54 (Nat.le_refl _) (Nat.le_of_ble_eq_true rfl) (RM0.mono h (fun vv I2 L3 h => ?_))
    obtain ⟨r4, rfl, h⟩ := h
    change Z n0 xX13_condition (d + 1) 0 0 53 [(0, .ref (n0 + 59)), (1, .int p0), (2, .int p1), (3, .int p2), (4, .int p3), (5, .int p4), (6, .int p5), (7, .int p6)] [.int r4] K I2 L3 (z_q0 K Q)
    exact z_iret dX13_condition_53 rfl ⟨rfl, h⟩
  · rw [if_neg g1] at h
    refine z_iload_n 2 dX13_condition_6 rfl ?_
    refine z_bipush (-99) dX13_condition_7 (by decide) ?_
    refine z_icmp_lt 47 dX13_condition_9 (by decide) (fun g5 => ?_) (fun g5 => ?_)
    · rw [if_pos g5] at h
      refine z_aload_n 0 dX13_condition_47 rfl ?_
      refine z_bipush (-4) dX13_condition_48 (by decide) ?_
      refine z_callV0 (As := [.int (-4)]) (st := []) dX13_condition_50 hy_X13_refuse hL.1 hL.2.1 (by decide) wg_1778 wg_1780 wg_54 (Nat.le_refl _) (Nat.le_of_ble_eq_true rfl) (RM0.mono h (fun vv I6 L7 h => ?_))
      obtain ⟨r8, rfl, h⟩ := h
      change Z n0 xX13_condition (d + 1) 0 0 53 [(0, .ref (n0 + 59)), (1, .int p0), (2, .int p1), (3, .int p2), (4, .int p3), (5, .int p4), (6, .int p5), (7, .int p6)] [.int r8] K I6 L7 (z_q0 K Q)
      exact z_iret dX13_condition_53 rfl ⟨rfl, h⟩
    · rw [if_neg g5] at h
      refine z_iload_n 3 dX13_condition_12 rfl ?_
      refine z_bipush (-99) dX13_condition_13 (by decide) ?_
      refine z_icmp_lt 47 dX13_condition_15 (by decide) (fun g9 => ?_) (fun g9 => ?_)
      · rw [if_pos g9] at h
        refine z_aload_n 0 dX13_condition_47 rfl ?_
        refine z_bipush (-4) dX13_condition_48 (by decide) ?_
        refine z_callV0 (As := [.int (-4)]) (st := []) dX13_condition_50 hy_X13_refuse hL.1 hL.2.1 (by decide) wg_1778 wg_1780 wg_54 (Nat.le_refl _) (Nat.le_of_ble_eq_true rfl) (RM0.mono h (fun vv I10 L11 h => ?_))
        obtain ⟨r12, rfl, h⟩ := h
        change Z n0 xX13_condition (d + 1) 0 0 53 [(0, .ref (n0 + 59)), (1, .int p0), (2, .int p1), (3, .int p2), (4, .int p3), (5, .int p4), (6, .int p5), (7, .int p6)] [.int r12] K I10 L11 (z_q0 K Q)
        exact z_iret dX13_condition_53 rfl ⟨rfl, h⟩
      · rw [if_neg g9] at h
        refine z_iload 4 dX13_condition_18 rfl ?_
        refine z_bipush (-99) dX13_condition_20 (by decide) ?_
        refine z_icmp_lt 47 dX13_condition_22 (by decide) (fun g13 => ?_) (fun g13 => ?_)
        · rw [if_pos g13] at h
          refine z_aload_n 0 dX13_condition_47 rfl ?_
          refine z_bipush (-4) dX13_condition_48 (by decide) ?_
          refine z_callV0 (As := [.int (-4)]) (st := []) dX13_condition_50 hy_X13_refuse hL.1 hL.2.1 (by decide) wg_1778 wg_1780 wg_54 (Nat.le_refl _) (Nat.le_of_ble_eq_true rfl) (RM0.mono h (fun vv I14 L15 h => ?_))
          obtain ⟨r16, rfl, h⟩ := h
          change Z n0 xX13_condition (d + 1) 0 0 53 [(0, .ref (n0 + 59)), (1, .int p0), (2, .int p1), (3, .int p2), (4, .int p3), (5, .int p4), (6, .int p5), (7, .int p6)] [.int r16] K I14 L15 (z_q0 K Q)
          exact z_iret dX13_condition_53 rfl ⟨rfl, h⟩
        · rw [if_neg g13] at h
          refine z_iload 5 dX13_condition_25 rfl ?_
          refine z_bipush (-99) dX13_condition_27 (by decide) ?_
          refine z_icmp_lt 47 dX13_condition_29 (by decide) (fun g17 => ?_) (fun g17 => ?_)
          · rw [if_pos g17] at h
            refine z_aload_n 0 dX13_condition_47 rfl ?_
            refine z_bipush (-4) dX13_condition_48 (by decide) ?_
            refine z_callV0 (As := [.int (-4)]) (st := []) dX13_condition_50 hy_X13_refuse hL.1 hL.2.1 (by decide) wg_1778 wg_1780 wg_54 (Nat.le_refl _) (Nat.le_of_ble_eq_true rfl) (RM0.mono h (fun vv I18 L19 h => ?_))
            obtain ⟨r20, rfl, h⟩ := h
            change Z n0 xX13_condition (d + 1) 0 0 53 [(0, .ref (n0 + 59)), (1, .int p0), (2, .int p1), (3, .int p2), (4, .int p3), (5, .int p4), (6, .int p5), (7, .int p6)] [.int r20] K I18 L19 (z_q0 K Q)
            exact z_iret dX13_condition_53 rfl ⟨rfl, h⟩
          · rw [if_neg g17] at h
            refine z_iload 6 dX13_condition_32 rfl ?_
            refine z_bipush (-99) dX13_condition_34 (by decide) ?_
            refine z_icmp_lt 47 dX13_condition_36 (by decide) (fun g21 => ?_) (fun g21 => ?_)
            · rw [if_pos g21] at h
              refine z_aload_n 0 dX13_condition_47 rfl ?_
              refine z_bipush (-4) dX13_condition_48 (by decide) ?_
              refine z_callV0 (As := [.int (-4)]) (st := []) dX13_condition_50 hy_X13_refuse hL.1 hL.2.1 (by decide) wg_1778 wg_1780 wg_54 (Nat.le_refl _) (Nat.le_of_ble_eq_true rfl) (RM0.mono h (fun vv I22 L23 h => ?_))
              obtain ⟨r24, rfl, h⟩ := h
              change Z n0 xX13_condition (d + 1) 0 0 53 [(0, .ref (n0 + 59)), (1, .int p0), (2, .int p1), (3, .int p2), (4, .int p3), (5, .int p4), (6, .int p5), (7, .int p6)] [.int r24] K I22 L23 (z_q0 K Q)
              exact z_iret dX13_condition_53 rfl ⟨rfl, h⟩
            · rw [if_neg g21] at h
              refine z_iload 7 dX13_condition_39 rfl ?_
              refine z_sipush (-9999) dX13_condition_41 (by decide) ?_
              refine z_icmp_ge 54 dX13_condition_44 (by decide) (fun g25 => ?_) (fun g25 => ?_)
              · rw [if_neg g25] at h
                refine z_iload_n 1 dX13_condition_54 rfl ?_
                refine z_bipush 99 dX13_condition_55 (by decide) ?_
                refine z_icmp_gt 109 dX13_condition_57 (by decide) (fun g26 => ?_) (fun g26 => ?_)
                · rw [if_pos g26] at h
                  refine z_aload_n 0 dX13_condition_109 rfl ?_
                  refine z_bipush (-6) dX13_condition_110 (by decide) ?_
                  refine z_callV0 (As := [.int (-6)]) (st := []) dX13_condition_112 hy_X13_refuse hL.1 hL.2.1 (by decide) wg_1778 wg_1780 wg_54 (Nat.le_refl _) (Nat.le_of_ble_eq_true rfl) (RM0.mono h (fun vv I27 L28 h => ?_))
                  obtain ⟨r29, rfl, h⟩ := h
                  change Z n0 xX13_condition (d + 1) 0 0 115 [(0, .ref (n0 + 59)), (1, .int p0), (2, .int p1), (3, .int p2), (4, .int p3), (5, .int p4), (6, .int p5), (7, .int p6)] [.int r29] K I27 L28 (z_q0 K Q)
                  exact z_iret dX13_condition_115 rfl ⟨rfl, h⟩
                · rw [if_neg g26] at h
                  refine z_iload_n 2 dX13_condition_60 rfl ?_
                  refine z_bipush 99 dX13_condition_61 (by decide) ?_
                  refine z_icmp_gt 109 dX13_condition_63 (by decide) (fun g30 => ?_) (fun g30 => ?_)
                  · rw [if_pos g30] at h
                    refine z_aload_n 0 dX13_condition_109 rfl ?_
                    refine z_bipush (-6) dX13_condition_110 (by decide) ?_
                    refine z_callV0 (As := [.int (-6)]) (st := []) dX13_condition_112 hy_X13_refuse hL.1 hL.2.1 (by decide) wg_1778 wg_1780 wg_54 (Nat.le_refl _) (Nat.le_of_ble_eq_true rfl) (RM0.mono h (fun vv I31 L32 h => ?_))
                    obtain ⟨r33, rfl, h⟩ := h
                    change Z n0 xX13_condition (d + 1) 0 0 115 [(0, .ref (n0 + 59)), (1, .int p0), (2, .int p1), (3, .int p2), (4, .int p3), (5, .int p4), (6, .int p5), (7, .int p6)] [.int r33] K I31 L32 (z_q0 K Q)
                    exact z_iret dX13_condition_115 rfl ⟨rfl, h⟩
                  · rw [if_neg g30] at h
                    refine z_iload_n 3 dX13_condition_66 rfl ?_
                    refine z_bipush 99 dX13_condition_67 (by decide) ?_
                    refine z_icmp_gt 109 dX13_condition_69 (by decide) (fun g34 => ?_) (fun g34 => ?_)
                    · rw [if_pos g34] at h
                      refine z_aload_n 0 dX13_condition_109 rfl ?_
                      refine z_bipush (-6) dX13_condition_110 (by decide) ?_
                      refine z_callV0 (As := [.int (-6)]) (st := []) dX13_condition_112 hy_X13_refuse hL.1 hL.2.1 (by decide) wg_1778 wg_1780 wg_54 (Nat.le_refl _) (Nat.le_of_ble_eq_true rfl) (RM0.mono h (fun vv I35 L36 h => ?_))
                      obtain ⟨r37, rfl, h⟩ := h
                      change Z n0 xX13_condition (d + 1) 0 0 115 [(0, .ref (n0 + 59)), (1, .int p0), (2, .int p1), (3, .int p2), (4, .int p3), (5, .int p4), (6, .int p5), (7, .int p6)] [.int r37] K I35 L36 (z_q0 K Q)
                      exact z_iret dX13_condition_115 rfl ⟨rfl, h⟩
                    · rw [if_neg g34] at h
                      refine z_iload 4 dX13_condition_72 rfl ?_
                      refine z_bipush 99 dX13_condition_74 (by decide) ?_
                      refine z_icmp_gt 109 dX13_condition_76 (by decide) (fun g38 => ?_) (fun g38 => ?_)
                      · rw [if_pos g38] at h
                        refine z_aload_n 0 dX13_condition_109 rfl ?_
                        refine z_bipush (-6) dX13_condition_110 (by decide) ?_
                        refine z_callV0 (As := [.int (-6)]) (st := []) dX13_condition_112 hy_X13_refuse hL.1 hL.2.1 (by decide) wg_1778 wg_1780 wg_54 (Nat.le_refl _) (Nat.le_of_ble_eq_true rfl) (RM0.mono h (fun vv I39 L40 h => ?_))
                        obtain ⟨r41, rfl, h⟩ := h
                        change Z n0 xX13_condition (d + 1) 0 0 115 [(0, .ref (n0 + 59)), (1, .int p0), (2, .int p1), (3, .int p2), (4, .int p3), (5, .int p4), (6, .int p5), (7, .int p6)] [.int r41] K I39 L40 (z_q0 K Q)
                        exact z_iret dX13_condition_115 rfl ⟨rfl, h⟩
                      · rw [if_neg g38] at h
                        refine z_iload 5 dX13_condition_79 rfl ?_
                        refine z_bipush 99 dX13_condition_81 (by decide) ?_
                        refine z_icmp_gt 109 dX13_condition_83 (by decide) (fun g42 => ?_) (fun g42 => ?_)
                        · rw [if_pos g42] at h
                          refine z_aload_n 0 dX13_condition_109 rfl ?_
                          refine z_bipush (-6) dX13_condition_110 (by decide) ?_
                          refine z_callV0 (As := [.int (-6)]) (st := []) dX13_condition_112 hy_X13_refuse hL.1 hL.2.1 (by decide) wg_1778 wg_1780 wg_54 (Nat.le_refl _) (Nat.le_of_ble_eq_true rfl) (RM0.mono h (fun vv I43 L44 h => ?_))
                          obtain ⟨r45, rfl, h⟩ := h
                          change Z n0 xX13_condition (d + 1) 0 0 115 [(0, .ref (n0 + 59)), (1, .int p0), (2, .int p1), (3, .int p2), (4, .int p3), (5, .int p4), (6, .int p5), (7, .int p6)] [.int r45] K I43 L44 (z_q0 K Q)
                          exact z_iret dX13_condition_115 rfl ⟨rfl, h⟩
                        · rw [if_neg g42] at h
                          refine z_iload 6 dX13_condition_86 rfl ?_
                          refine z_bipush 99 dX13_condition_88 (by decide) ?_
                          refine z_icmp_gt 109 dX13_condition_90 (by decide) (fun g46 => ?_) (fun g46 => ?_)
                          · rw [if_pos g46] at h
                            refine z_aload_n 0 dX13_condition_109 rfl ?_
                            refine z_bipush (-6) dX13_condition_110 (by decide) ?_
                            refine z_callV0 (As := [.int (-6)]) (st := []) dX13_condition_112 hy_X13_refuse hL.1 hL.2.1 (by decide) wg_1778 wg_1780 wg_54 (Nat.le_refl _) (Nat.le_of_ble_eq_true rfl) (RM0.mono h (fun vv I47 L48 h => ?_))
                            obtain ⟨r49, rfl, h⟩ := h
                            change Z n0 xX13_condition (d + 1) 0 0 115 [(0, .ref (n0 + 59)), (1, .int p0), (2, .int p1), (3, .int p2), (4, .int p3), (5, .int p4), (6, .int p5), (7, .int p6)] [.int r49] K I47 L48 (z_q0 K Q)
                            exact z_iret dX13_condition_115 rfl ⟨rfl, h⟩
                          · rw [if_neg g46] at h
                            refine z_iload 7 dX13_condition_93 rfl ?_
                            refine z_sipush 9999 dX13_condition_95 (by decide) ?_
                            refine z_icmp_gt 109 dX13_condition_98 (by decide) (fun g50 => ?_) (fun g50 => ?_)
                            · rw [if_pos g50] at h
                              refine z_aload_n 0 dX13_condition_109 rfl ?_
                              refine z_bipush (-6) dX13_condition_110 (by decide) ?_
                              refine z_callV0 (As := [.int (-6)]) (st := []) dX13_condition_112 hy_X13_refuse hL.1 hL.2.1 (by decide) wg_1778 wg_1780 wg_54 (Nat.le_refl _) (Nat.le_of_ble_eq_true rfl) (RM0.mono h (fun vv I51 L52 h => ?_))
                              obtain ⟨r53, rfl, h⟩ := h
                              change Z n0 xX13_condition (d + 1) 0 0 115 [(0, .ref (n0 + 59)), (1, .int p0), (2, .int p1), (3, .int p2), (4, .int p3), (5, .int p4), (6, .int p5), (7, .int p6)] [.int r53] K I51 L52 (z_q0 K Q)
                              exact z_iret dX13_condition_115 rfl ⟨rfl, h⟩
                            · rw [if_neg g50] at h
                              refine z_aload_n 0 dX13_condition_101 rfl ?_
                              refine fg_13_530 (I 59 77) rfl dX13_condition_102 hL.1 hL.2.1 rfl ?_
                              refine z_iconst 2 dX13_condition_105 (by decide) ?_
                              refine z_icmp_ne 116 dX13_condition_106 (by decide) (fun g54 => ?_) (fun g54 => ?_)
                              · rw [if_neg g54] at h
                                refine z_bipush 6 dX13_condition_116 (by decide) ?_
                                refine z_aload_n 0 dX13_condition_118 rfl ?_
                                refine fg_13_530 (I 59 77) rfl dX13_condition_119 hL.1 hL.2.1 rfl ?_
                                refine z_imul dX13_condition_122 ?_
                                refine z_istore [1, 2, 3, 4, 5, 6, 7, 8, 0] [(0, .ref (n0 + 59)), (1, .int p0), (2, .int p1), (3, .int p2), (4, .int p3), (5, .int p4), (6, .int p5), (7, .int p6), (8, .int (6 * (I 59 77)))] dX13_condition_123 (by decide) rfl ?_
                                refine z_aload_n 0 dX13_condition_125 rfl ?_
                                refine fg_13_162 (some 110) rfl dX13_condition_126 hL.1 hL.2.1 (ma_78 hL).1 ?_
                                refine z_iload 8 dX13_condition_129 rfl ?_
                                refine z_iload_n 1 dX13_condition_131 rfl ?_
                                obtain ⟨o55, h⟩ := h
                                refine z_iast dX13_condition_132 (ma_78 hL).2.1 (ma_78 hL).2.2 o55 ?_
                                refine z_aload_n 0 dX13_condition_133 rfl ?_
                                refine fg_13_162 (some 110) rfl dX13_condition_134 hL.1 hL.2.1 (ma_78 hL).1 ?_
                                refine z_iload 8 dX13_condition_137 rfl ?_
                                refine z_iconst 1 dX13_condition_139 (by decide) ?_
                                refine z_iadd dX13_condition_140 ?_
                                refine z_iload_n 2 dX13_condition_141 rfl ?_
                                obtain ⟨o56, h⟩ := h
                                refine z_iast dX13_condition_142 (ma_78 hL).2.1 (ma_78 hL).2.2 o56 ?_
                                refine z_aload_n 0 dX13_condition_143 rfl ?_
                                refine fg_13_162 (some 110) rfl dX13_condition_144 hL.1 hL.2.1 (ma_78 hL).1 ?_
                                refine z_iload 8 dX13_condition_147 rfl ?_
                                refine z_iconst 2 dX13_condition_149 (by decide) ?_
                                refine z_iadd dX13_condition_150 ?_
                                refine z_iload_n 3 dX13_condition_151 rfl ?_
                                obtain ⟨o57, h⟩ := h
                                refine z_iast dX13_condition_152 (ma_78 hL).2.1 (ma_78 hL).2.2 o57 ?_
                                refine z_aload_n 0 dX13_condition_153 rfl ?_
                                refine fg_13_162 (some 110) rfl dX13_condition_154 hL.1 hL.2.1 (ma_78 hL).1 ?_
                                refine z_iload 8 dX13_condition_157 rfl ?_
                                refine z_iconst 3 dX13_condition_159 (by decide) ?_
                                refine z_iadd dX13_condition_160 ?_
                                refine z_iload 4 dX13_condition_161 rfl ?_
                                obtain ⟨o58, h⟩ := h
                                refine z_iast dX13_condition_163 (ma_78 hL).2.1 (ma_78 hL).2.2 o58 ?_
                                refine z_aload_n 0 dX13_condition_164 rfl ?_
                                refine fg_13_162 (some 110) rfl dX13_condition_165 hL.1 hL.2.1 (ma_78 hL).1 ?_
                                refine z_iload 8 dX13_condition_168 rfl ?_
                                refine z_iconst 4 dX13_condition_170 (by decide) ?_
                                refine z_iadd dX13_condition_171 ?_
                                refine z_iload 5 dX13_condition_172 rfl ?_
                                obtain ⟨o59, h⟩ := h
                                refine z_iast dX13_condition_174 (ma_78 hL).2.1 (ma_78 hL).2.2 o59 ?_
                                refine z_aload_n 0 dX13_condition_175 rfl ?_
                                refine fg_13_162 (some 110) rfl dX13_condition_176 hL.1 hL.2.1 (ma_78 hL).1 ?_
                                refine z_iload 8 dX13_condition_179 rfl ?_
                                refine z_iconst 5 dX13_condition_181 (by decide) ?_
                                refine z_iadd dX13_condition_182 ?_
                                refine z_iload 6 dX13_condition_183 rfl ?_
                                obtain ⟨o60, h⟩ := h
                                refine z_iast dX13_condition_185 (ma_78 hL).2.1 (ma_78 hL).2.2 o60 ?_
                                refine z_aload_n 0 dX13_condition_186 rfl ?_
                                refine fg_13_165 (some 111) rfl dX13_condition_187 hL.1 hL.2.1 (ma_79 hL).1 ?_
                                refine z_aload_n 0 dX13_condition_190 rfl ?_
                                refine fg_13_530 (I 59 77) rfl dX13_condition_191 hL.1 hL.2.1 rfl ?_
                                refine z_iload 7 dX13_condition_194 rfl ?_
                                obtain ⟨o61, h⟩ := h
                                refine z_iast dX13_condition_196 (ma_79 hL).2.1 (ma_79 hL).2.2 o61 ?_
                                refine z_aload_n 0 dX13_condition_197 rfl ?_
                                refine z_dup dX13_condition_198 rfl ?_
                                refine fg_13_530 (I 59 77) rfl dX13_condition_199 hL.1 hL.2.1 rfl ?_
                                refine z_iconst 1 dX13_condition_202 (by decide) ?_
                                refine z_iadd dX13_condition_203 ?_
                                refine fp_13_530 rfl dX13_condition_204 hL.1 hL.2.1 ?_
                                refine z_aload_n 0 dX13_condition_207 rfl ?_
                                refine fg_13_530 (((I 59 77) + 1)) rfl dX13_condition_208 hL.1 hL.2.1 rfl ?_
                                exact z_iret dX13_condition_211 rfl ⟨rfl, h⟩
                              · rw [if_pos g54] at h
                                refine z_aload_n 0 dX13_condition_109 rfl ?_
                                refine z_bipush (-6) dX13_condition_110 (by decide) ?_
                                refine z_callV0 (As := [.int (-6)]) (st := []) dX13_condition_112 hy_X13_refuse hL.1 hL.2.1 (by decide) wg_1778 wg_1780 wg_54 (Nat.le_refl _) (Nat.le_of_ble_eq_true rfl) (RM0.mono h (fun vv I62 L63 h => ?_))
                                obtain ⟨r64, rfl, h⟩ := h
                                change Z n0 xX13_condition (d + 1) 0 0 115 [(0, .ref (n0 + 59)), (1, .int p0), (2, .int p1), (3, .int p2), (4, .int p3), (5, .int p4), (6, .int p5), (7, .int p6)] [.int r64] K I62 L63 (z_q0 K Q)
                                exact z_iret dX13_condition_115 rfl ⟨rfl, h⟩
              · rw [if_pos g25] at h
                refine z_aload_n 0 dX13_condition_47 rfl ?_
                refine z_bipush (-4) dX13_condition_48 (by decide) ?_
                refine z_callV0 (As := [.int (-4)]) (st := []) dX13_condition_50 hy_X13_refuse hL.1 hL.2.1 (by decide) wg_1778 wg_1780 wg_54 (Nat.le_refl _) (Nat.le_of_ble_eq_true rfl) (RM0.mono h (fun vv I65 L66 h => ?_))
                obtain ⟨r67, rfl, h⟩ := h
                change Z n0 xX13_condition (d + 1) 0 0 53 [(0, .ref (n0 + 59)), (1, .int p0), (2, .int p1), (3, .int p2), (4, .int p3), (5, .int p4), (6, .int p5), (7, .int p6)] [.int r67] K I65 L66 (z_q0 K Q)
                exact z_iret dX13_condition_53 rfl ⟨rfl, h⟩
theorem dX13_free_0 : decode cX13_free 0 = .ok (.aload_n 0, 1) := by decide +kernel
theorem dX13_free_1 : decode cX13_free 1 = .ok (.getfield 530, 3) := by decide +kernel
theorem dX13_free_4 : decode cX13_free 4 = .ok (.istore_n 1, 1) := by decide +kernel
theorem dX13_free_5 : decode cX13_free 5 = .ok (.aload_n 0, 1) := by decide +kernel
theorem dX13_free_6 : decode cX13_free 6 = .ok (.iconst 0, 1) := by decide +kernel
theorem dX13_free_7 : decode cX13_free 7 = .ok (.putfield 530, 3) := by decide +kernel
theorem dX13_free_10 : decode cX13_free 10 = .ok (.iload_n 1, 1) := by decide +kernel
theorem dX13_free_11 : decode cX13_free 11 = .ok (.ireturn, 1) := by decide +kernel
set_option maxRecDepth 100000 in
set_option maxHeartbeats 4000000 in
theorem wp_X13_free {n0 d : Nat} {K : z_K} {I : z_I} {L : z_L} {Q : z_q}  (hL : MLay K) (h : Q (some (.int (I 59 77))) (zI I 59 77 0) L) : RM0 n0 xX13_free d [.ref (n0 + 59)] K I L Q := by
  refine z_entry0 (by decide) (Nat.le_of_ble_eq_true rfl) ?_
  change Z n0 xX13_free d 0 0 0 [(0, .ref (n0 + 59))] [] K I L (z_q0 K Q)
  refine z_aload_n 0 dX13_free_0 rfl ?_
  refine fg_13_530 (I 59 77) rfl dX13_free_1 hL.1 hL.2.1 rfl ?_
  refine z_istore_n [1, 0] [(0, .ref (n0 + 59)), (1, .int (I 59 77))] dX13_free_4 (by decide) rfl ?_
  refine z_aload_n 0 dX13_free_5 rfl ?_
  refine z_iconst 0 dX13_free_6 (by decide) ?_
  refine fp_13_530 rfl dX13_free_7 hL.1 hL.2.1 ?_
  refine z_iload_n 1 dX13_free_10 rfl ?_
  exact z_iret dX13_free_11 rfl ⟨rfl, h⟩
theorem dX13_product_0 : decode cX13_product 0 = .ok (.lconst 0, 1) := by decide +kernel
theorem dX13_product_1 : decode cX13_product 1 = .ok (.lstore_n 3, 1) := by decide +kernel
theorem dX13_product_2 : decode cX13_product 2 = .ok (.iconst 0, 1) := by decide +kernel
theorem dX13_product_3 : decode cX13_product 3 = .ok (.istore 5, 2) := by decide +kernel
theorem dX13_product_5 : decode cX13_product 5 = .ok (.iload 5, 2) := by decide +kernel
theorem dX13_product_7 : decode cX13_product 7 = .ok (.bipush 6, 2) := by decide +kernel
theorem dX13_product_9 : decode cX13_product 9 = .ok (.if_icmp .ge 39, 3) := by decide +kernel
theorem dX13_product_12 : decode cX13_product 12 = .ok (.lload_n 3, 1) := by decide +kernel
theorem dX13_product_13 : decode cX13_product 13 = .ok (.aload_n 0, 1) := by decide +kernel
theorem dX13_product_14 : decode cX13_product 14 = .ok (.getfield 162, 3) := by decide +kernel
theorem dX13_product_17 : decode cX13_product 17 = .ok (.bipush 6, 2) := by decide +kernel
theorem dX13_product_19 : decode cX13_product 19 = .ok (.iload_n 1, 1) := by decide +kernel
theorem dX13_product_20 : decode cX13_product 20 = .ok (.imul, 1) := by decide +kernel
theorem dX13_product_21 : decode cX13_product 21 = .ok (.iload 5, 2) := by decide +kernel
theorem dX13_product_23 : decode cX13_product 23 = .ok (.iadd, 1) := by decide +kernel
theorem dX13_product_24 : decode cX13_product 24 = .ok (.iaload, 1) := by decide +kernel
theorem dX13_product_25 : decode cX13_product 25 = .ok (.i2l, 1) := by decide +kernel
theorem dX13_product_26 : decode cX13_product 26 = .ok (.aload_n 0, 1) := by decide +kernel
theorem dX13_product_27 : decode cX13_product 27 = .ok (.getfield 162, 3) := by decide +kernel
theorem dX13_product_30 : decode cX13_product 30 = .ok (.bipush 6, 2) := by decide +kernel
theorem dX13_product_32 : decode cX13_product 32 = .ok (.iload_n 2, 1) := by decide +kernel
theorem dX13_product_33 : decode cX13_product 33 = .ok (.imul, 1) := by decide +kernel
theorem dX13_product_34 : decode cX13_product 34 = .ok (.iload 5, 2) := by decide +kernel
theorem dX13_product_36 : decode cX13_product 36 = .ok (.iadd, 1) := by decide +kernel
theorem dX13_product_37 : decode cX13_product 37 = .ok (.iaload, 1) := by decide +kernel
theorem dX13_product_38 : decode cX13_product 38 = .ok (.i2l, 1) := by decide +kernel
theorem dX13_product_39 : decode cX13_product 39 = .ok (.lmul, 1) := by decide +kernel
theorem dX13_product_40 : decode cX13_product 40 = .ok (.ladd, 1) := by decide +kernel
theorem dX13_product_41 : decode cX13_product 41 = .ok (.lstore_n 3, 1) := by decide +kernel
theorem dX13_product_42 : decode cX13_product 42 = .ok (.iinc 5 1, 3) := by decide +kernel
theorem dX13_product_45 : decode cX13_product 45 = .ok (.goto (-40), 3) := by decide +kernel
theorem dX13_product_48 : decode cX13_product 48 = .ok (.lload_n 3, 1) := by decide +kernel
theorem dX13_product_49 : decode cX13_product 49 = .ok (.lreturn, 1) := by decide +kernel
set_option maxRecDepth 100000 in
set_option maxHeartbeats 4000000 in
theorem wp_X13_product {n0 d : Nat} {K : z_K} {I : z_I} {L : z_L} {Q : z_q} {p0 : Int32} {p1 : Int32} (hL : MLay K) (h : Z n0 xX13_product d 0 0 5 [(0, .ref (n0 + 59)), (1, .int p0), (2, .int p1), (3, .long 0), (5, .int 0)] [] K I L (z_q0 K Q)) : RM0 n0 xX13_product d [.ref (n0 + 59), .int p0, .int p1] K I L Q := by
  refine z_entry0 (by decide) (Nat.le_of_ble_eq_true rfl) ?_
  change Z n0 xX13_product d 0 0 0 [(0, .ref (n0 + 59)), (1, .int p0), (2, .int p1)] [] K I L (z_q0 K Q)
  refine z_lconst 0 dX13_product_0 (by decide) ?_
  refine z_lstore_n [1, 2, 3, 0] [(0, .ref (n0 + 59)), (1, .int p0), (2, .int p1), (3, .long 0)] dX13_product_1 (by decide) rfl ?_
  refine z_iconst 0 dX13_product_2 (by decide) ?_
  refine z_istore [1, 2, 3, 4, 0] [(0, .ref (n0 + 59)), (1, .int p0), (2, .int p1), (3, .long 0), (5, .int 0)] dX13_product_3 (by decide) rfl ?_
  exact h
set_option maxRecDepth 100000 in
set_option maxHeartbeats 4000000 in
theorem wp_X13_product_5 {n0 d : Nat} {rc rs : Nat} {K : z_K} {I : z_I} {L : z_L} {Q : z_q} {a1 : Int32} {a2 : Int32} {a3 : Int64} {a5 : Int32} (hL : MLay K) (h : (if a5 < 6 then vp_in ((6 * a1) + a5) 12 ∧ vp_in ((6 * a2) + a5) 12 ∧ Z n0 xX13_product d rc rs 5 [(0, .ref (n0 + 59)), (1, .int a1), (2, .int a2), (3, .long (a3 + ((((I 110 (((6 * a1) + a5).toNatClampNeg)) : Int32).toInt64) * (((I 110 (((6 * a2) + a5).toNatClampNeg)) : Int32).toInt64)))), (5, .int (a5 + 1))] [] K I L (z_q0 K Q) else Q (some (.long a3)) I L)) : Z n0 xX13_product d rc rs 5 [(0, .ref (n0 + 59)), (1, .int a1), (2, .int a2), (3, .long a3), (5, .int a5)] [] K I L (z_q0 K Q) := by
  refine z_iload 4 dX13_product_5 rfl ?_
  refine z_bipush 6 dX13_product_7 (by decide) ?_
  refine z_icmp_ge 48 dX13_product_9 (by decide) (fun g1 => ?_) (fun g1 => ?_)
  · rw [if_neg g1] at h
    refine z_lload_n 3 dX13_product_48 rfl ?_
    exact z_lret dX13_product_49 rfl ⟨rfl, h⟩
  · rw [if_pos g1] at h
    refine z_lload_n 3 dX13_product_12 rfl ?_
    refine z_aload_n 0 dX13_product_13 rfl ?_
    refine fg_13_162 (some 110) rfl dX13_product_14 hL.1 hL.2.1 (ma_78 hL).1 ?_
    refine z_bipush 6 dX13_product_17 (by decide) ?_
    refine z_iload_n 1 dX13_product_19 rfl ?_
    refine z_imul dX13_product_20 ?_
    refine z_iload 4 dX13_product_21 rfl ?_
    refine z_iadd dX13_product_23 ?_
    obtain ⟨o2, h⟩ := h
    refine z_iald (I 110 (((6 * a1) + a5).toNatClampNeg)) dX13_product_24 (ma_78 hL).2.1 (ma_78 hL).2.2 o2 rfl ?_
    refine z_i2l dX13_product_25 ?_
    refine z_aload_n 0 dX13_product_26 rfl ?_
    refine fg_13_162 (some 110) rfl dX13_product_27 hL.1 hL.2.1 (ma_78 hL).1 ?_
    refine z_bipush 6 dX13_product_30 (by decide) ?_
    refine z_iload_n 2 dX13_product_32 rfl ?_
    refine z_imul dX13_product_33 ?_
    refine z_iload 4 dX13_product_34 rfl ?_
    refine z_iadd dX13_product_36 ?_
    obtain ⟨o3, h⟩ := h
    refine z_iald (I 110 (((6 * a2) + a5).toNatClampNeg)) dX13_product_37 (ma_78 hL).2.1 (ma_78 hL).2.2 o3 rfl ?_
    refine z_i2l dX13_product_38 ?_
    refine z_lmul dX13_product_39 ?_
    refine z_ladd dX13_product_40 ?_
    refine z_lstore_n [1, 2, 3, 0, 4] [(0, .ref (n0 + 59)), (1, .int a1), (2, .int a2), (3, .long (a3 + ((((I 110 (((6 * a1) + a5).toNatClampNeg)) : Int32).toInt64) * (((I 110 (((6 * a2) + a5).toNatClampNeg)) : Int32).toInt64)))), (5, .int a5)] dX13_product_41 (by decide) rfl ?_
    refine z_iinc (j := 4) (a5 + 1) [1, 2, 3, 4, 0] [(0, .ref (n0 + 59)), (1, .int a1), (2, .int a2), (3, .long (a3 + ((((I 110 (((6 * a1) + a5).toNatClampNeg)) : Int32).toInt64) * (((I 110 (((6 * a2) + a5).toNatClampNeg)) : Int32).toInt64)))), (5, .int (a5 + 1))] dX13_product_42 rfl rfl (by decide) rfl ?_
    refine z_goto 5 dX13_product_45 (by decide) ?_
    exact h
theorem dX13_leastOfOne_0 : decode cX13_leastOfOne 0 = .ok (.aload_n 0, 1) := by decide +kernel
theorem dX13_leastOfOne_1 : decode cX13_leastOfOne 1 = .ok (.iload_n 1, 1) := by decide +kernel
theorem dX13_leastOfOne_2 : decode cX13_leastOfOne 2 = .ok (.iload_n 1, 1) := by decide +kernel
theorem dX13_leastOfOne_3 : decode cX13_leastOfOne 3 = .ok (.invokevirtual 533, 3) := by decide +kernel
theorem dX13_leastOfOne_6 : decode cX13_leastOfOne 6 = .ok (.lstore_n 2, 1) := by decide +kernel
theorem dX13_leastOfOne_7 : decode cX13_leastOfOne 7 = .ok (.aload_n 0, 1) := by decide +kernel
theorem dX13_leastOfOne_8 : decode cX13_leastOfOne 8 = .ok (.lload_n 2, 1) := by decide +kernel
theorem dX13_leastOfOne_9 : decode cX13_leastOfOne 9 = .ok (.lconst 0, 1) := by decide +kernel
theorem dX13_leastOfOne_10 : decode cX13_leastOfOne 10 = .ok (.lcmp, 1) := by decide +kernel
theorem dX13_leastOfOne_11 : decode cX13_leastOfOne 11 = .ok (.ifCond .ne 7, 3) := by decide +kernel
theorem dX13_leastOfOne_14 : decode cX13_leastOfOne 14 = .ok (.lconst 1, 1) := by decide +kernel
theorem dX13_leastOfOne_15 : decode cX13_leastOfOne 15 = .ok (.goto 4, 3) := by decide +kernel
theorem dX13_leastOfOne_18 : decode cX13_leastOfOne 18 = .ok (.lload_n 2, 1) := by decide +kernel
theorem dX13_leastOfOne_19 : decode cX13_leastOfOne 19 = .ok (.putfield 537, 3) := by decide +kernel
theorem dX13_leastOfOne_22 : decode cX13_leastOfOne 22 = .ok (.iconst 0, 1) := by decide +kernel
theorem dX13_leastOfOne_23 : decode cX13_leastOfOne 23 = .ok (.istore 4, 2) := by decide +kernel
theorem dX13_leastOfOne_25 : decode cX13_leastOfOne 25 = .ok (.iload 4, 2) := by decide +kernel
theorem dX13_leastOfOne_27 : decode cX13_leastOfOne 27 = .ok (.bipush 6, 2) := by decide +kernel
theorem dX13_leastOfOne_29 : decode cX13_leastOfOne 29 = .ok (.if_icmp .ge 47, 3) := by decide +kernel
theorem dX13_leastOfOne_32 : decode cX13_leastOfOne 32 = .ok (.aload_n 0, 1) := by decide +kernel
theorem dX13_leastOfOne_33 : decode cX13_leastOfOne 33 = .ok (.getfield 168, 3) := by decide +kernel
theorem dX13_leastOfOne_36 : decode cX13_leastOfOne 36 = .ok (.iload 4, 2) := by decide +kernel
theorem dX13_leastOfOne_38 : decode cX13_leastOfOne 38 = .ok (.lload_n 2, 1) := by decide +kernel
theorem dX13_leastOfOne_39 : decode cX13_leastOfOne 39 = .ok (.lconst 0, 1) := by decide +kernel
theorem dX13_leastOfOne_40 : decode cX13_leastOfOne 40 = .ok (.lcmp, 1) := by decide +kernel
theorem dX13_leastOfOne_41 : decode cX13_leastOfOne 41 = .ok (.ifCond .ne 7, 3) := by decide +kernel
theorem dX13_leastOfOne_44 : decode cX13_leastOfOne 44 = .ok (.lconst 0, 1) := by decide +kernel
theorem dX13_leastOfOne_45 : decode cX13_leastOfOne 45 = .ok (.goto 24, 3) := by decide +kernel
theorem dX13_leastOfOne_48 : decode cX13_leastOfOne 48 = .ok (.aload_n 0, 1) := by decide +kernel
theorem dX13_leastOfOne_49 : decode cX13_leastOfOne 49 = .ok (.getfield 162, 3) := by decide +kernel
theorem dX13_leastOfOne_52 : decode cX13_leastOfOne 52 = .ok (.bipush 6, 2) := by decide +kernel
theorem dX13_leastOfOne_54 : decode cX13_leastOfOne 54 = .ok (.iload_n 1, 1) := by decide +kernel
theorem dX13_leastOfOne_55 : decode cX13_leastOfOne 55 = .ok (.imul, 1) := by decide +kernel
theorem dX13_leastOfOne_56 : decode cX13_leastOfOne 56 = .ok (.iload 4, 2) := by decide +kernel
theorem dX13_leastOfOne_58 : decode cX13_leastOfOne 58 = .ok (.iadd, 1) := by decide +kernel
theorem dX13_leastOfOne_59 : decode cX13_leastOfOne 59 = .ok (.iaload, 1) := by decide +kernel
theorem dX13_leastOfOne_60 : decode cX13_leastOfOne 60 = .ok (.i2l, 1) := by decide +kernel
theorem dX13_leastOfOne_61 : decode cX13_leastOfOne 61 = .ok (.aload_n 0, 1) := by decide +kernel
theorem dX13_leastOfOne_62 : decode cX13_leastOfOne 62 = .ok (.getfield 165, 3) := by decide +kernel
theorem dX13_leastOfOne_65 : decode cX13_leastOfOne 65 = .ok (.iload_n 1, 1) := by decide +kernel
theorem dX13_leastOfOne_66 : decode cX13_leastOfOne 66 = .ok (.iaload, 1) := by decide +kernel
theorem dX13_leastOfOne_67 : decode cX13_leastOfOne 67 = .ok (.i2l, 1) := by decide +kernel
theorem dX13_leastOfOne_68 : decode cX13_leastOfOne 68 = .ok (.lmul, 1) := by decide +kernel
theorem dX13_leastOfOne_69 : decode cX13_leastOfOne 69 = .ok (.lastore, 1) := by decide +kernel
theorem dX13_leastOfOne_70 : decode cX13_leastOfOne 70 = .ok (.iinc 4 1, 3) := by decide +kernel
theorem dX13_leastOfOne_73 : decode cX13_leastOfOne 73 = .ok (.goto (-48), 3) := by decide +kernel
theorem dX13_leastOfOne_76 : decode cX13_leastOfOne 76 = .ok (.return_, 1) := by decide +kernel
set_option maxRecDepth 100000 in
set_option maxHeartbeats 4000000 in
theorem wp_X13_leastOfOne {n0 d : Nat} {K : z_K} {I : z_I} {L : z_L} {Q : z_q} {p0 : Int32} (hL : MLay K) (h : RM0 n0 xX13_product d [.ref (n0 + 59), .int p0, .int p0] K I L (fun vv I1 L2 => ∃ r3 : Int64, vv = some (.long r3) ∧ (if r3 = 0 then Z n0 xX13_leastOfOne (d + 1) 0 0 25 [(0, .ref (n0 + 59)), (1, .int p0), (2, .long r3), (4, .int 0)] [] K I1 (zL L2 59 81 1) (z_q0 K Q) else Z n0 xX13_leastOfOne (d + 1) 0 0 25 [(0, .ref (n0 + 59)), (1, .int p0), (2, .long r3), (4, .int 0)] [] K I1 (zL L2 59 81 r3) (z_q0 K Q)))) : RM0 n0 xX13_leastOfOne (d + 1) [.ref (n0 + 59), .int p0] K I L Q := by
  refine z_entry0 (by decide) (Nat.le_of_ble_eq_true rfl) ?_
  change Z n0 xX13_leastOfOne (d + 1) 0 0 0 [(0, .ref (n0 + 59)), (1, .int p0)] [] K I L (z_q0 K Q)
  refine z_aload_n 0 dX13_leastOfOne_0 rfl ?_
  refine z_iload_n 1 dX13_leastOfOne_1 rfl ?_
  refine z_iload_n 1 dX13_leastOfOne_2 rfl ?_
  refine z_callV0 (As := [.int p0, .int p0]) (st := []) dX13_leastOfOne_3 hy_X13_product hL.1 hL.2.1 (by decide) wg_2068 wg_2070 wg_87 (Nat.le_refl _) (Nat.le_of_ble_eq_true rfl) (RM0.mono h (fun vv I1 L2 h => ?_))
  obtain ⟨r3, rfl, h⟩ := h
  change Z n0 xX13_leastOfOne (d + 1) 0 0 6 [(0, .ref (n0 + 59)), (1, .int p0)] [.long r3] K I1 L2 (z_q0 K Q)
  refine z_lstore_n [1, 2, 0] [(0, .ref (n0 + 59)), (1, .int p0), (2, .long r3)] dX13_leastOfOne_6 (by decide) rfl ?_
  refine z_aload_n 0 dX13_leastOfOne_7 rfl ?_
  refine z_lload_n 2 dX13_leastOfOne_8 rfl ?_
  refine z_lconst 0 dX13_leastOfOne_9 (by decide) ?_
  refine z_lif_ne 18 dX13_leastOfOne_10 dX13_leastOfOne_11 (by decide) (fun g4 => ?_) (fun g4 => ?_)
  · rw [if_neg g4] at h
    refine z_lload_n 2 dX13_leastOfOne_18 rfl ?_
    refine fp_13_537 rfl dX13_leastOfOne_19 hL.1 hL.2.1 ?_
    refine z_iconst 0 dX13_leastOfOne_22 (by decide) ?_
    refine z_istore [1, 2, 3, 0] [(0, .ref (n0 + 59)), (1, .int p0), (2, .long r3), (4, .int 0)] dX13_leastOfOne_23 (by decide) rfl ?_
    exact h
  · rw [if_pos g4] at h
    refine z_lconst 1 dX13_leastOfOne_14 (by decide) ?_
    refine z_goto 19 dX13_leastOfOne_15 (by decide) ?_
    refine fp_13_537 rfl dX13_leastOfOne_19 hL.1 hL.2.1 ?_
    refine z_iconst 0 dX13_leastOfOne_22 (by decide) ?_
    refine z_istore [1, 2, 3, 0] [(0, .ref (n0 + 59)), (1, .int p0), (2, .long r3), (4, .int 0)] dX13_leastOfOne_23 (by decide) rfl ?_
    exact h
set_option maxRecDepth 100000 in
set_option maxHeartbeats 4000000 in
theorem wp_X13_leastOfOne_25 {n0 d : Nat} {rc rs : Nat} {K : z_K} {I : z_I} {L : z_L} {Q : z_q} {a1 : Int32} {a2 : Int64} {a4 : Int32} (hL : MLay K) (h : (if a4 < 6 then (if a2 = 0 then vp_in a4 6 ∧ Z n0 xX13_leastOfOne (d + 1) rc rs 25 [(0, .ref (n0 + 59)), (1, .int a1), (2, .long a2), (4, .int (a4 + 1))] [] K I (zL L 112 a4.toNatClampNeg 0) (z_q0 K Q) else vp_in ((6 * a1) + a4) 12 ∧ vp_in a1 2 ∧ vp_in a4 6 ∧ Z n0 xX13_leastOfOne (d + 1) rc rs 25 [(0, .ref (n0 + 59)), (1, .int a1), (2, .long a2), (4, .int (a4 + 1))] [] K I (zL L 112 a4.toNatClampNeg ((((I 110 (((6 * a1) + a4).toNatClampNeg)) : Int32).toInt64) * (((I 111 a1.toNatClampNeg) : Int32).toInt64))) (z_q0 K Q)) else Q none I L)) : Z n0 xX13_leastOfOne (d + 1) rc rs 25 [(0, .ref (n0 + 59)), (1, .int a1), (2, .long a2), (4, .int a4)] [] K I L (z_q0 K Q) := by
  refine z_iload 3 dX13_leastOfOne_25 rfl ?_
  refine z_bipush 6 dX13_leastOfOne_27 (by decide) ?_
  refine z_icmp_ge 76 dX13_leastOfOne_29 (by decide) (fun g1 => ?_) (fun g1 => ?_)
  · rw [if_neg g1] at h
    exact z_vret dX13_leastOfOne_76 rfl ⟨rfl, h⟩
  · rw [if_pos g1] at h
    refine z_aload_n 0 dX13_leastOfOne_32 rfl ?_
    refine fg_13_168 (some 112) rfl dX13_leastOfOne_33 hL.1 hL.2.1 (ma_80 hL).1 ?_
    refine z_iload 3 dX13_leastOfOne_36 rfl ?_
    refine z_lload_n 2 dX13_leastOfOne_38 rfl ?_
    refine z_lconst 0 dX13_leastOfOne_39 (by decide) ?_
    refine z_lif_ne 48 dX13_leastOfOne_40 dX13_leastOfOne_41 (by decide) (fun g2 => ?_) (fun g2 => ?_)
    · rw [if_neg g2] at h
      refine z_aload_n 0 dX13_leastOfOne_48 rfl ?_
      refine fg_13_162 (some 110) rfl dX13_leastOfOne_49 hL.1 hL.2.1 (ma_78 hL).1 ?_
      refine z_bipush 6 dX13_leastOfOne_52 (by decide) ?_
      refine z_iload_n 1 dX13_leastOfOne_54 rfl ?_
      refine z_imul dX13_leastOfOne_55 ?_
      refine z_iload 3 dX13_leastOfOne_56 rfl ?_
      refine z_iadd dX13_leastOfOne_58 ?_
      obtain ⟨o3, h⟩ := h
      refine z_iald (I 110 (((6 * a1) + a4).toNatClampNeg)) dX13_leastOfOne_59 (ma_78 hL).2.1 (ma_78 hL).2.2 o3 rfl ?_
      refine z_i2l dX13_leastOfOne_60 ?_
      refine z_aload_n 0 dX13_leastOfOne_61 rfl ?_
      refine fg_13_165 (some 111) rfl dX13_leastOfOne_62 hL.1 hL.2.1 (ma_79 hL).1 ?_
      refine z_iload_n 1 dX13_leastOfOne_65 rfl ?_
      obtain ⟨o4, h⟩ := h
      refine z_iald (I 111 a1.toNatClampNeg) dX13_leastOfOne_66 (ma_79 hL).2.1 (ma_79 hL).2.2 o4 rfl ?_
      refine z_i2l dX13_leastOfOne_67 ?_
      refine z_lmul dX13_leastOfOne_68 ?_
      obtain ⟨o5, h⟩ := h
      refine z_last dX13_leastOfOne_69 (ma_80 hL).2.1 (ma_80 hL).2.2 o5 ?_
      refine z_iinc (j := 3) (a4 + 1) [1, 2, 3, 0] [(0, .ref (n0 + 59)), (1, .int a1), (2, .long a2), (4, .int (a4 + 1))] dX13_leastOfOne_70 rfl rfl (by decide) rfl ?_
      refine z_goto 25 dX13_leastOfOne_73 (by decide) ?_
      exact h
    · rw [if_pos g2] at h
      refine z_lconst 0 dX13_leastOfOne_44 (by decide) ?_
      refine z_goto 69 dX13_leastOfOne_45 (by decide) ?_
      obtain ⟨o6, h⟩ := h
      refine z_last dX13_leastOfOne_69 (ma_80 hL).2.1 (ma_80 hL).2.2 o6 ?_
      refine z_iinc (j := 3) (a4 + 1) [1, 2, 3, 0] [(0, .ref (n0 + 59)), (1, .int a1), (2, .long a2), (4, .int (a4 + 1))] dX13_leastOfOne_70 rfl rfl (by decide) rfl ?_
      refine z_goto 25 dX13_leastOfOne_73 (by decide) ?_
      exact h
theorem dX13_findLeast_0 : decode cX13_findLeast 0 = .ok (.aload_n 0, 1) := by decide +kernel
theorem dX13_findLeast_1 : decode cX13_findLeast 1 = .ok (.lconst 1, 1) := by decide +kernel
theorem dX13_findLeast_2 : decode cX13_findLeast 2 = .ok (.putfield 537, 3) := by decide +kernel
theorem dX13_findLeast_5 : decode cX13_findLeast 5 = .ok (.iconst 0, 1) := by decide +kernel
theorem dX13_findLeast_6 : decode cX13_findLeast 6 = .ok (.istore_n 1, 1) := by decide +kernel
theorem dX13_findLeast_7 : decode cX13_findLeast 7 = .ok (.iload_n 1, 1) := by decide +kernel
theorem dX13_findLeast_8 : decode cX13_findLeast 8 = .ok (.bipush 6, 2) := by decide +kernel
theorem dX13_findLeast_10 : decode cX13_findLeast 10 = .ok (.if_icmp .ge 16, 3) := by decide +kernel
theorem dX13_findLeast_13 : decode cX13_findLeast 13 = .ok (.aload_n 0, 1) := by decide +kernel
theorem dX13_findLeast_14 : decode cX13_findLeast 14 = .ok (.getfield 168, 3) := by decide +kernel
theorem dX13_findLeast_17 : decode cX13_findLeast 17 = .ok (.iload_n 1, 1) := by decide +kernel
theorem dX13_findLeast_18 : decode cX13_findLeast 18 = .ok (.lconst 0, 1) := by decide +kernel
theorem dX13_findLeast_19 : decode cX13_findLeast 19 = .ok (.lastore, 1) := by decide +kernel
theorem dX13_findLeast_20 : decode cX13_findLeast 20 = .ok (.iinc 1 1, 3) := by decide +kernel
theorem dX13_findLeast_23 : decode cX13_findLeast 23 = .ok (.goto (-16), 3) := by decide +kernel
theorem dX13_findLeast_26 : decode cX13_findLeast 26 = .ok (.iconst 1, 1) := by decide +kernel
theorem dX13_findLeast_27 : decode cX13_findLeast 27 = .ok (.istore_n 1, 1) := by decide +kernel
theorem dX13_findLeast_28 : decode cX13_findLeast 28 = .ok (.iconst 0, 1) := by decide +kernel
theorem dX13_findLeast_29 : decode cX13_findLeast 29 = .ok (.istore_n 2, 1) := by decide +kernel
theorem dX13_findLeast_30 : decode cX13_findLeast 30 = .ok (.iload_n 2, 1) := by decide +kernel
theorem dX13_findLeast_31 : decode cX13_findLeast 31 = .ok (.aload_n 0, 1) := by decide +kernel
theorem dX13_findLeast_32 : decode cX13_findLeast 32 = .ok (.getfield 530, 3) := by decide +kernel
theorem dX13_findLeast_35 : decode cX13_findLeast 35 = .ok (.if_icmp .ge 39, 3) := by decide +kernel
theorem dX13_findLeast_38 : decode cX13_findLeast 38 = .ok (.iload_n 1, 1) := by decide +kernel
theorem dX13_findLeast_39 : decode cX13_findLeast 39 = .ok (.ifCond .eq 27, 3) := by decide +kernel
theorem dX13_findLeast_42 : decode cX13_findLeast 42 = .ok (.aload_n 0, 1) := by decide +kernel
theorem dX13_findLeast_43 : decode cX13_findLeast 43 = .ok (.iload_n 2, 1) := by decide +kernel
theorem dX13_findLeast_44 : decode cX13_findLeast 44 = .ok (.iload_n 2, 1) := by decide +kernel
theorem dX13_findLeast_45 : decode cX13_findLeast 45 = .ok (.invokevirtual 533, 3) := by decide +kernel
theorem dX13_findLeast_48 : decode cX13_findLeast 48 = .ok (.lconst 0, 1) := by decide +kernel
theorem dX13_findLeast_49 : decode cX13_findLeast 49 = .ok (.lcmp, 1) := by decide +kernel
theorem dX13_findLeast_50 : decode cX13_findLeast 50 = .ok (.ifCond .gt 12, 3) := by decide +kernel
theorem dX13_findLeast_53 : decode cX13_findLeast 53 = .ok (.aload_n 0, 1) := by decide +kernel
theorem dX13_findLeast_54 : decode cX13_findLeast 54 = .ok (.getfield 165, 3) := by decide +kernel
theorem dX13_findLeast_57 : decode cX13_findLeast 57 = .ok (.iload_n 2, 1) := by decide +kernel
theorem dX13_findLeast_58 : decode cX13_findLeast 58 = .ok (.iaload, 1) := by decide +kernel
theorem dX13_findLeast_59 : decode cX13_findLeast 59 = .ok (.ifCond .ne 7, 3) := by decide +kernel
theorem dX13_findLeast_62 : decode cX13_findLeast 62 = .ok (.iconst 1, 1) := by decide +kernel
theorem dX13_findLeast_63 : decode cX13_findLeast 63 = .ok (.goto 4, 3) := by decide +kernel
theorem dX13_findLeast_66 : decode cX13_findLeast 66 = .ok (.iconst 0, 1) := by decide +kernel
theorem dX13_findLeast_67 : decode cX13_findLeast 67 = .ok (.istore_n 1, 1) := by decide +kernel
theorem dX13_findLeast_68 : decode cX13_findLeast 68 = .ok (.iinc 2 1, 3) := by decide +kernel
theorem dX13_findLeast_71 : decode cX13_findLeast 71 = .ok (.goto (-41), 3) := by decide +kernel
theorem dX13_findLeast_74 : decode cX13_findLeast 74 = .ok (.aload_n 0, 1) := by decide +kernel
theorem dX13_findLeast_75 : decode cX13_findLeast 75 = .ok (.getfield 530, 3) := by decide +kernel
theorem dX13_findLeast_78 : decode cX13_findLeast 78 = .ok (.iconst 1, 1) := by decide +kernel
theorem dX13_findLeast_79 : decode cX13_findLeast 79 = .ok (.if_icmp .ne 8, 3) := by decide +kernel
theorem dX13_findLeast_82 : decode cX13_findLeast 82 = .ok (.aload_n 0, 1) := by decide +kernel
theorem dX13_findLeast_83 : decode cX13_findLeast 83 = .ok (.iconst 0, 1) := by decide +kernel
theorem dX13_findLeast_84 : decode cX13_findLeast 84 = .ok (.invokevirtual 541, 3) := by decide +kernel
theorem dX13_findLeast_87 : decode cX13_findLeast 87 = .ok (.aload_n 0, 1) := by decide +kernel
theorem dX13_findLeast_88 : decode cX13_findLeast 88 = .ok (.getfield 530, 3) := by decide +kernel
theorem dX13_findLeast_91 : decode cX13_findLeast 91 = .ok (.iconst 2, 1) := by decide +kernel
theorem dX13_findLeast_92 : decode cX13_findLeast 92 = .ok (.if_icmp .lt 7, 3) := by decide +kernel
theorem dX13_findLeast_95 : decode cX13_findLeast 95 = .ok (.iload_n 1, 1) := by decide +kernel
theorem dX13_findLeast_96 : decode cX13_findLeast 96 = .ok (.ifCond .ne 5, 3) := by decide +kernel
theorem dX13_findLeast_99 : decode cX13_findLeast 99 = .ok (.iload_n 1, 1) := by decide +kernel
theorem dX13_findLeast_100 : decode cX13_findLeast 100 = .ok (.ireturn, 1) := by decide +kernel
theorem dX13_findLeast_101 : decode cX13_findLeast 101 = .ok (.aload_n 0, 1) := by decide +kernel
theorem dX13_findLeast_102 : decode cX13_findLeast 102 = .ok (.iconst 0, 1) := by decide +kernel
theorem dX13_findLeast_103 : decode cX13_findLeast 103 = .ok (.iconst 0, 1) := by decide +kernel
theorem dX13_findLeast_104 : decode cX13_findLeast 104 = .ok (.invokevirtual 533, 3) := by decide +kernel
theorem dX13_findLeast_107 : decode cX13_findLeast 107 = .ok (.lstore_n 2, 1) := by decide +kernel
theorem dX13_findLeast_108 : decode cX13_findLeast 108 = .ok (.aload_n 0, 1) := by decide +kernel
theorem dX13_findLeast_109 : decode cX13_findLeast 109 = .ok (.iconst 0, 1) := by decide +kernel
theorem dX13_findLeast_110 : decode cX13_findLeast 110 = .ok (.iconst 1, 1) := by decide +kernel
theorem dX13_findLeast_111 : decode cX13_findLeast 111 = .ok (.invokevirtual 533, 3) := by decide +kernel
theorem dX13_findLeast_114 : decode cX13_findLeast 114 = .ok (.lstore 4, 2) := by decide +kernel
theorem dX13_findLeast_116 : decode cX13_findLeast 116 = .ok (.aload_n 0, 1) := by decide +kernel
theorem dX13_findLeast_117 : decode cX13_findLeast 117 = .ok (.iconst 1, 1) := by decide +kernel
theorem dX13_findLeast_118 : decode cX13_findLeast 118 = .ok (.iconst 1, 1) := by decide +kernel
theorem dX13_findLeast_119 : decode cX13_findLeast 119 = .ok (.invokevirtual 533, 3) := by decide +kernel
theorem dX13_findLeast_122 : decode cX13_findLeast 122 = .ok (.lstore 6, 2) := by decide +kernel
theorem dX13_findLeast_124 : decode cX13_findLeast 124 = .ok (.lload_n 2, 1) := by decide +kernel
theorem dX13_findLeast_125 : decode cX13_findLeast 125 = .ok (.lload 6, 2) := by decide +kernel
theorem dX13_findLeast_127 : decode cX13_findLeast 127 = .ok (.lmul, 1) := by decide +kernel
theorem dX13_findLeast_128 : decode cX13_findLeast 128 = .ok (.lload 4, 2) := by decide +kernel
theorem dX13_findLeast_130 : decode cX13_findLeast 130 = .ok (.lload 4, 2) := by decide +kernel
theorem dX13_findLeast_132 : decode cX13_findLeast 132 = .ok (.lmul, 1) := by decide +kernel
theorem dX13_findLeast_133 : decode cX13_findLeast 133 = .ok (.lsub, 1) := by decide +kernel
theorem dX13_findLeast_134 : decode cX13_findLeast 134 = .ok (.lstore 8, 2) := by decide +kernel
theorem dX13_findLeast_136 : decode cX13_findLeast 136 = .ok (.lload 8, 2) := by decide +kernel
theorem dX13_findLeast_138 : decode cX13_findLeast 138 = .ok (.lconst 0, 1) := by decide +kernel
theorem dX13_findLeast_139 : decode cX13_findLeast 139 = .ok (.lcmp, 1) := by decide +kernel
theorem dX13_findLeast_140 : decode cX13_findLeast 140 = .ok (.ifCond .ne 98, 3) := by decide +kernel
theorem dX13_findLeast_143 : decode cX13_findLeast 143 = .ok (.iconst 0, 1) := by decide +kernel
theorem dX13_findLeast_144 : decode cX13_findLeast 144 = .ok (.istore 10, 2) := by decide +kernel
theorem dX13_findLeast_146 : decode cX13_findLeast 146 = .ok (.iload 10, 2) := by decide +kernel
theorem dX13_findLeast_148 : decode cX13_findLeast 148 = .ok (.bipush 6, 2) := by decide +kernel
theorem dX13_findLeast_150 : decode cX13_findLeast 150 = .ok (.if_icmp .ge 71, 3) := by decide +kernel
theorem dX13_findLeast_153 : decode cX13_findLeast 153 = .ok (.lload_n 2, 1) := by decide +kernel
theorem dX13_findLeast_154 : decode cX13_findLeast 154 = .ok (.lconst 0, 1) := by decide +kernel
theorem dX13_findLeast_155 : decode cX13_findLeast 155 = .ok (.lcmp, 1) := by decide +kernel
theorem dX13_findLeast_156 : decode cX13_findLeast 156 = .ok (.ifCond .le 65, 3) := by decide +kernel
theorem dX13_findLeast_159 : decode cX13_findLeast 159 = .ok (.lload 6, 2) := by decide +kernel
theorem dX13_findLeast_161 : decode cX13_findLeast 161 = .ok (.lconst 0, 1) := by decide +kernel
theorem dX13_findLeast_162 : decode cX13_findLeast 162 = .ok (.lcmp, 1) := by decide +kernel
theorem dX13_findLeast_163 : decode cX13_findLeast 163 = .ok (.ifCond .le 58, 3) := by decide +kernel
theorem dX13_findLeast_166 : decode cX13_findLeast 166 = .ok (.iload_n 1, 1) := by decide +kernel
theorem dX13_findLeast_167 : decode cX13_findLeast 167 = .ok (.ifCond .eq 46, 3) := by decide +kernel
theorem dX13_findLeast_170 : decode cX13_findLeast 170 = .ok (.aload_n 0, 1) := by decide +kernel
theorem dX13_findLeast_171 : decode cX13_findLeast 171 = .ok (.getfield 165, 3) := by decide +kernel
theorem dX13_findLeast_174 : decode cX13_findLeast 174 = .ok (.iconst 0, 1) := by decide +kernel
theorem dX13_findLeast_175 : decode cX13_findLeast 175 = .ok (.iaload, 1) := by decide +kernel
theorem dX13_findLeast_176 : decode cX13_findLeast 176 = .ok (.i2l, 1) := by decide +kernel
theorem dX13_findLeast_177 : decode cX13_findLeast 177 = .ok (.aload_n 0, 1) := by decide +kernel
theorem dX13_findLeast_178 : decode cX13_findLeast 178 = .ok (.getfield 162, 3) := by decide +kernel
theorem dX13_findLeast_181 : decode cX13_findLeast 181 = .ok (.bipush 6, 2) := by decide +kernel
theorem dX13_findLeast_183 : decode cX13_findLeast 183 = .ok (.iload 10, 2) := by decide +kernel
theorem dX13_findLeast_185 : decode cX13_findLeast 185 = .ok (.iadd, 1) := by decide +kernel
theorem dX13_findLeast_186 : decode cX13_findLeast 186 = .ok (.iaload, 1) := by decide +kernel
theorem dX13_findLeast_187 : decode cX13_findLeast 187 = .ok (.i2l, 1) := by decide +kernel
theorem dX13_findLeast_188 : decode cX13_findLeast 188 = .ok (.lmul, 1) := by decide +kernel
theorem dX13_findLeast_189 : decode cX13_findLeast 189 = .ok (.aload_n 0, 1) := by decide +kernel
theorem dX13_findLeast_190 : decode cX13_findLeast 190 = .ok (.getfield 165, 3) := by decide +kernel
theorem dX13_findLeast_193 : decode cX13_findLeast 193 = .ok (.iconst 1, 1) := by decide +kernel
theorem dX13_findLeast_194 : decode cX13_findLeast 194 = .ok (.iaload, 1) := by decide +kernel
theorem dX13_findLeast_195 : decode cX13_findLeast 195 = .ok (.i2l, 1) := by decide +kernel
theorem dX13_findLeast_196 : decode cX13_findLeast 196 = .ok (.aload_n 0, 1) := by decide +kernel
theorem dX13_findLeast_197 : decode cX13_findLeast 197 = .ok (.getfield 162, 3) := by decide +kernel
theorem dX13_findLeast_200 : decode cX13_findLeast 200 = .ok (.iload 10, 2) := by decide +kernel
theorem dX13_findLeast_202 : decode cX13_findLeast 202 = .ok (.iaload, 1) := by decide +kernel
theorem dX13_findLeast_203 : decode cX13_findLeast 203 = .ok (.i2l, 1) := by decide +kernel
theorem dX13_findLeast_204 : decode cX13_findLeast 204 = .ok (.lmul, 1) := by decide +kernel
theorem dX13_findLeast_205 : decode cX13_findLeast 205 = .ok (.lcmp, 1) := by decide +kernel
theorem dX13_findLeast_206 : decode cX13_findLeast 206 = .ok (.ifCond .ne 7, 3) := by decide +kernel
theorem dX13_findLeast_209 : decode cX13_findLeast 209 = .ok (.iconst 1, 1) := by decide +kernel
theorem dX13_findLeast_210 : decode cX13_findLeast 210 = .ok (.goto 4, 3) := by decide +kernel
theorem dX13_findLeast_213 : decode cX13_findLeast 213 = .ok (.iconst 0, 1) := by decide +kernel
theorem dX13_findLeast_214 : decode cX13_findLeast 214 = .ok (.istore_n 1, 1) := by decide +kernel
theorem dX13_findLeast_215 : decode cX13_findLeast 215 = .ok (.iinc 10 1, 3) := by decide +kernel
theorem dX13_findLeast_218 : decode cX13_findLeast 218 = .ok (.goto (-72), 3) := by decide +kernel
theorem dX13_findLeast_221 : decode cX13_findLeast 221 = .ok (.aload_n 0, 1) := by decide +kernel
theorem dX13_findLeast_222 : decode cX13_findLeast 222 = .ok (.lload_n 2, 1) := by decide +kernel
theorem dX13_findLeast_223 : decode cX13_findLeast 223 = .ok (.lconst 0, 1) := by decide +kernel
theorem dX13_findLeast_224 : decode cX13_findLeast 224 = .ok (.lcmp, 1) := by decide +kernel
theorem dX13_findLeast_225 : decode cX13_findLeast 225 = .ok (.ifCond .le 7, 3) := by decide +kernel
theorem dX13_findLeast_228 : decode cX13_findLeast 228 = .ok (.iconst 0, 1) := by decide +kernel
theorem dX13_findLeast_229 : decode cX13_findLeast 229 = .ok (.goto 4, 3) := by decide +kernel
theorem dX13_findLeast_232 : decode cX13_findLeast 232 = .ok (.iconst 1, 1) := by decide +kernel
theorem dX13_findLeast_233 : decode cX13_findLeast 233 = .ok (.invokevirtual 541, 3) := by decide +kernel
theorem dX13_findLeast_236 : decode cX13_findLeast 236 = .ok (.iload_n 1, 1) := by decide +kernel
theorem dX13_findLeast_237 : decode cX13_findLeast 237 = .ok (.ireturn, 1) := by decide +kernel
theorem dX13_findLeast_238 : decode cX13_findLeast 238 = .ok (.aload_n 0, 1) := by decide +kernel
theorem dX13_findLeast_239 : decode cX13_findLeast 239 = .ok (.lload 8, 2) := by decide +kernel
theorem dX13_findLeast_241 : decode cX13_findLeast 241 = .ok (.putfield 537, 3) := by decide +kernel
theorem dX13_findLeast_244 : decode cX13_findLeast 244 = .ok (.lload 6, 2) := by decide +kernel
theorem dX13_findLeast_246 : decode cX13_findLeast 246 = .ok (.aload_n 0, 1) := by decide +kernel
theorem dX13_findLeast_247 : decode cX13_findLeast 247 = .ok (.getfield 165, 3) := by decide +kernel
theorem dX13_findLeast_250 : decode cX13_findLeast 250 = .ok (.iconst 0, 1) := by decide +kernel
theorem dX13_findLeast_251 : decode cX13_findLeast 251 = .ok (.iaload, 1) := by decide +kernel
theorem dX13_findLeast_252 : decode cX13_findLeast 252 = .ok (.i2l, 1) := by decide +kernel
theorem dX13_findLeast_253 : decode cX13_findLeast 253 = .ok (.lmul, 1) := by decide +kernel
theorem dX13_findLeast_254 : decode cX13_findLeast 254 = .ok (.lload 4, 2) := by decide +kernel
theorem dX13_findLeast_256 : decode cX13_findLeast 256 = .ok (.aload_n 0, 1) := by decide +kernel
theorem dX13_findLeast_257 : decode cX13_findLeast 257 = .ok (.getfield 165, 3) := by decide +kernel
theorem dX13_findLeast_260 : decode cX13_findLeast 260 = .ok (.iconst 1, 1) := by decide +kernel
theorem dX13_findLeast_261 : decode cX13_findLeast 261 = .ok (.iaload, 1) := by decide +kernel
theorem dX13_findLeast_262 : decode cX13_findLeast 262 = .ok (.i2l, 1) := by decide +kernel
theorem dX13_findLeast_263 : decode cX13_findLeast 263 = .ok (.lmul, 1) := by decide +kernel
theorem dX13_findLeast_264 : decode cX13_findLeast 264 = .ok (.lsub, 1) := by decide +kernel
theorem dX13_findLeast_265 : decode cX13_findLeast 265 = .ok (.lstore 10, 2) := by decide +kernel
theorem dX13_findLeast_267 : decode cX13_findLeast 267 = .ok (.lload_n 2, 1) := by decide +kernel
theorem dX13_findLeast_268 : decode cX13_findLeast 268 = .ok (.aload_n 0, 1) := by decide +kernel
theorem dX13_findLeast_269 : decode cX13_findLeast 269 = .ok (.getfield 165, 3) := by decide +kernel
theorem dX13_findLeast_272 : decode cX13_findLeast 272 = .ok (.iconst 1, 1) := by decide +kernel
theorem dX13_findLeast_273 : decode cX13_findLeast 273 = .ok (.iaload, 1) := by decide +kernel
theorem dX13_findLeast_274 : decode cX13_findLeast 274 = .ok (.i2l, 1) := by decide +kernel
theorem dX13_findLeast_275 : decode cX13_findLeast 275 = .ok (.lmul, 1) := by decide +kernel
theorem dX13_findLeast_276 : decode cX13_findLeast 276 = .ok (.lload 4, 2) := by decide +kernel
theorem dX13_findLeast_278 : decode cX13_findLeast 278 = .ok (.aload_n 0, 1) := by decide +kernel
theorem dX13_findLeast_279 : decode cX13_findLeast 279 = .ok (.getfield 165, 3) := by decide +kernel
theorem dX13_findLeast_282 : decode cX13_findLeast 282 = .ok (.iconst 0, 1) := by decide +kernel
theorem dX13_findLeast_283 : decode cX13_findLeast 283 = .ok (.iaload, 1) := by decide +kernel
theorem dX13_findLeast_284 : decode cX13_findLeast 284 = .ok (.i2l, 1) := by decide +kernel
theorem dX13_findLeast_285 : decode cX13_findLeast 285 = .ok (.lmul, 1) := by decide +kernel
theorem dX13_findLeast_286 : decode cX13_findLeast 286 = .ok (.lsub, 1) := by decide +kernel
theorem dX13_findLeast_287 : decode cX13_findLeast 287 = .ok (.lstore 12, 2) := by decide +kernel
theorem dX13_findLeast_289 : decode cX13_findLeast 289 = .ok (.iconst 0, 1) := by decide +kernel
theorem dX13_findLeast_290 : decode cX13_findLeast 290 = .ok (.istore 14, 2) := by decide +kernel
theorem dX13_findLeast_292 : decode cX13_findLeast 292 = .ok (.iload 14, 2) := by decide +kernel
theorem dX13_findLeast_294 : decode cX13_findLeast 294 = .ok (.bipush 6, 2) := by decide +kernel
theorem dX13_findLeast_296 : decode cX13_findLeast 296 = .ok (.if_icmp .ge 42, 3) := by decide +kernel
theorem dX13_findLeast_299 : decode cX13_findLeast 299 = .ok (.aload_n 0, 1) := by decide +kernel
theorem dX13_findLeast_300 : decode cX13_findLeast 300 = .ok (.getfield 168, 3) := by decide +kernel
theorem dX13_findLeast_303 : decode cX13_findLeast 303 = .ok (.iload 14, 2) := by decide +kernel
theorem dX13_findLeast_305 : decode cX13_findLeast 305 = .ok (.lload 10, 2) := by decide +kernel
theorem dX13_findLeast_307 : decode cX13_findLeast 307 = .ok (.aload_n 0, 1) := by decide +kernel
theorem dX13_findLeast_308 : decode cX13_findLeast 308 = .ok (.getfield 162, 3) := by decide +kernel
theorem dX13_findLeast_311 : decode cX13_findLeast 311 = .ok (.iload 14, 2) := by decide +kernel
theorem dX13_findLeast_313 : decode cX13_findLeast 313 = .ok (.iaload, 1) := by decide +kernel
theorem dX13_findLeast_314 : decode cX13_findLeast 314 = .ok (.i2l, 1) := by decide +kernel
theorem dX13_findLeast_315 : decode cX13_findLeast 315 = .ok (.lmul, 1) := by decide +kernel
theorem dX13_findLeast_316 : decode cX13_findLeast 316 = .ok (.lload 12, 2) := by decide +kernel
theorem dX13_findLeast_318 : decode cX13_findLeast 318 = .ok (.aload_n 0, 1) := by decide +kernel
theorem dX13_findLeast_319 : decode cX13_findLeast 319 = .ok (.getfield 162, 3) := by decide +kernel
theorem dX13_findLeast_322 : decode cX13_findLeast 322 = .ok (.bipush 6, 2) := by decide +kernel
theorem dX13_findLeast_324 : decode cX13_findLeast 324 = .ok (.iload 14, 2) := by decide +kernel
theorem dX13_findLeast_326 : decode cX13_findLeast 326 = .ok (.iadd, 1) := by decide +kernel
theorem dX13_findLeast_327 : decode cX13_findLeast 327 = .ok (.iaload, 1) := by decide +kernel
theorem dX13_findLeast_328 : decode cX13_findLeast 328 = .ok (.i2l, 1) := by decide +kernel
theorem dX13_findLeast_329 : decode cX13_findLeast 329 = .ok (.lmul, 1) := by decide +kernel
theorem dX13_findLeast_330 : decode cX13_findLeast 330 = .ok (.ladd, 1) := by decide +kernel
theorem dX13_findLeast_331 : decode cX13_findLeast 331 = .ok (.lastore, 1) := by decide +kernel
theorem dX13_findLeast_332 : decode cX13_findLeast 332 = .ok (.iinc 14 1, 3) := by decide +kernel
theorem dX13_findLeast_335 : decode cX13_findLeast 335 = .ok (.goto (-43), 3) := by decide +kernel
theorem dX13_findLeast_338 : decode cX13_findLeast 338 = .ok (.iconst 1, 1) := by decide +kernel
theorem dX13_findLeast_339 : decode cX13_findLeast 339 = .ok (.ireturn, 1) := by decide +kernel
set_option maxRecDepth 100000 in
set_option maxHeartbeats 4000000 in
theorem wp_X13_findLeast {n0 d : Nat} {K : z_K} {I : z_I} {L : z_L} {Q : z_q}  (hL : MLay K) (h : Z n0 xX13_findLeast (d + 1) 0 0 7 [(0, .ref (n0 + 59)), (1, .int 0)] [] K I (zL L 59 81 1) (z_q0 K Q)) : RM0 n0 xX13_findLeast (d + 1) [.ref (n0 + 59)] K I L Q := by
  refine z_entry0 (by decide) (Nat.le_of_ble_eq_true rfl) ?_
  change Z n0 xX13_findLeast (d + 1) 0 0 0 [(0, .ref (n0 + 59))] [] K I L (z_q0 K Q)
  refine z_aload_n 0 dX13_findLeast_0 rfl ?_
  refine z_lconst 1 dX13_findLeast_1 (by decide) ?_
  refine fp_13_537 rfl dX13_findLeast_2 hL.1 hL.2.1 ?_
  refine z_iconst 0 dX13_findLeast_5 (by decide) ?_
  refine z_istore_n [1, 0] [(0, .ref (n0 + 59)), (1, .int 0)] dX13_findLeast_6 (by decide) rfl ?_
  exact h
set_option maxRecDepth 100000 in
set_option maxHeartbeats 4000000 in
theorem wp_X13_findLeast_7 {n0 d : Nat} {rc rs : Nat} {K : z_K} {I : z_I} {L : z_L} {Q : z_q} {a1 : Int32} (hL : MLay K) (h : (if a1 < 6 then vp_in a1 6 ∧ Z n0 xX13_findLeast (d + 1) rc rs 7 [(0, .ref (n0 + 59)), (1, .int (a1 + 1))] [] K I (zL L 112 a1.toNatClampNeg 0) (z_q0 K Q) else Z n0 xX13_findLeast (d + 1) rc rs 30 [(0, .ref (n0 + 59)), (1, .int 1), (2, .int 0)] [] K I L (z_q0 K Q))) : Z n0 xX13_findLeast (d + 1) rc rs 7 [(0, .ref (n0 + 59)), (1, .int a1)] [] K I L (z_q0 K Q) := by
  refine z_iload_n 1 dX13_findLeast_7 rfl ?_
  refine z_bipush 6 dX13_findLeast_8 (by decide) ?_
  refine z_icmp_ge 26 dX13_findLeast_10 (by decide) (fun g1 => ?_) (fun g1 => ?_)
  · rw [if_neg g1] at h
    refine z_iconst 1 dX13_findLeast_26 (by decide) ?_
    refine z_istore_n [1, 0] [(0, .ref (n0 + 59)), (1, .int 1)] dX13_findLeast_27 (by decide) rfl ?_
    refine z_iconst 0 dX13_findLeast_28 (by decide) ?_
    refine z_istore_n [1, 2, 0] [(0, .ref (n0 + 59)), (1, .int 1), (2, .int 0)] dX13_findLeast_29 (by decide) rfl ?_
    exact h
  · rw [if_pos g1] at h
    refine z_aload_n 0 dX13_findLeast_13 rfl ?_
    refine fg_13_168 (some 112) rfl dX13_findLeast_14 hL.1 hL.2.1 (ma_80 hL).1 ?_
    refine z_iload_n 1 dX13_findLeast_17 rfl ?_
    refine z_lconst 0 dX13_findLeast_18 (by decide) ?_
    obtain ⟨o2, h⟩ := h
    refine z_last dX13_findLeast_19 (ma_80 hL).2.1 (ma_80 hL).2.2 o2 ?_
    refine z_iinc (j := 1) (a1 + 1) [1, 0] [(0, .ref (n0 + 59)), (1, .int (a1 + 1))] dX13_findLeast_20 rfl rfl (by decide) rfl ?_
    refine z_goto 7 dX13_findLeast_23 (by decide) ?_
    exact h
set_option maxRecDepth 100000 in
set_option maxHeartbeats 4000000 in
theorem wp_X13_findLeast_30 {n0 d : Nat} {rc rs : Nat} {K : z_K} {I : z_I} {L : z_L} {Q : z_q} {a1 : Int32} {a2 : Int32} (hL : MLay K) (h : (if a2 < (I 59 77) then (if a1 = 0 then Z n0 xX13_findLeast (d + 1) rc rs 30 [(0, .ref (n0 + 59)), (1, .int 0), (2, .int (a2 + 1))] [] K I L (z_q0 K Q) else RM0 n0 xX13_product d [.ref (n0 + 59), .int a2, .int a2] K I L (fun vv I34 L35 => ∃ r36 : Int64, vv = some (.long r36) ∧ (if 0 < r36 then Z n0 xX13_findLeast (d + 1) rc rs 30 [(0, .ref (n0 + 59)), (1, .int 1), (2, .int (a2 + 1))] [] K I34 L35 (z_q0 K Q) else vp_in a2 2 ∧ Z n0 xX13_findLeast (d + 1) rc rs 30 [(0, .ref (n0 + 59)), (1, .int (if ((I34 111 a2.toNatClampNeg) : Int32) = 0 then 1 else 0)), (2, .int (a2 + 1))] [] K I34 L35 (z_q0 K Q)))) else (if ((I 59 77) : Int32) = 1 then RM0 n0 xX13_leastOfOne d [.ref (n0 + 59), .int 0] K I L (fun vv I17 L18 => vv = none ∧ (if ((I17 59 77) : Int32) < 2 then z_b a1 ∧ Q (some (.int a1)) I17 L18 else (if a1 = 0 then z_b a1 ∧ Q (some (.int a1)) I17 L18 else RM0 n0 xX13_product d [.ref (n0 + 59), .int 0, .int 0] K I17 L18 (fun vv I22 L23 => ∃ r24 : Int64, vv = some (.long r24) ∧ RM0 n0 xX13_product d [.ref (n0 + 59), .int 0, .int 1] K I22 L23 (fun vv I25 L26 => ∃ r27 : Int64, vv = some (.long r27) ∧ RM0 n0 xX13_product d [.ref (n0 + 59), .int 1, .int 1] K I25 L26 (fun vv I28 L29 => ∃ r30 : Int64, vv = some (.long r30) ∧ (if (((r24 * r30) - (r27 * r27)) : Int64) = 0 then Z n0 xX13_findLeast (d + 1) rc rs 146 [(0, .ref (n0 + 59)), (1, .int a1), (2, .long r24), (6, .long r30), (10, .int 0)] [] K I28 L29 (z_q0 K Q) else Z n0 xX13_findLeast (d + 1) rc rs 292 [(0, .ref (n0 + 59)), (10, .long ((r30 * (((I28 111 0) : Int32).toInt64)) - (r27 * (((I28 111 1) : Int32).toInt64)))), (12, .long ((r24 * (((I28 111 1) : Int32).toInt64)) - (r27 * (((I28 111 0) : Int32).toInt64)))), (14, .int 0)] [] K I28 (zL L29 59 81 ((r24 * r30) - (r27 * r27))) (z_q0 K Q)))))))) else (if ((I 59 77) : Int32) < 2 then z_b a1 ∧ Q (some (.int a1)) I L else (if a1 = 0 then z_b a1 ∧ Q (some (.int a1)) I L else RM0 n0 xX13_product d [.ref (n0 + 59), .int 0, .int 0] K I L (fun vv I6 L7 => ∃ r8 : Int64, vv = some (.long r8) ∧ RM0 n0 xX13_product d [.ref (n0 + 59), .int 0, .int 1] K I6 L7 (fun vv I9 L10 => ∃ r11 : Int64, vv = some (.long r11) ∧ RM0 n0 xX13_product d [.ref (n0 + 59), .int 1, .int 1] K I9 L10 (fun vv I12 L13 => ∃ r14 : Int64, vv = some (.long r14) ∧ (if (((r8 * r14) - (r11 * r11)) : Int64) = 0 then Z n0 xX13_findLeast (d + 1) rc rs 146 [(0, .ref (n0 + 59)), (1, .int a1), (2, .long r8), (6, .long r14), (10, .int 0)] [] K I12 L13 (z_q0 K Q) else Z n0 xX13_findLeast (d + 1) rc rs 292 [(0, .ref (n0 + 59)), (10, .long ((r14 * (((I12 111 0) : Int32).toInt64)) - (r11 * (((I12 111 1) : Int32).toInt64)))), (12, .long ((r8 * (((I12 111 1) : Int32).toInt64)) - (r11 * (((I12 111 0) : Int32).toInt64)))), (14, .int 0)] [] K I12 (zL L13 59 81 ((r8 * r14) - (r11 * r11))) (z_q0 K Q)))))))))) : Z n0 xX13_findLeast (d + 1) rc rs 30 [(0, .ref (n0 + 59)), (1, .int a1), (2, .int a2)] [] K I L (z_q0 K Q) := by
  refine z_iload_n 2 dX13_findLeast_30 rfl ?_
  refine z_aload_n 0 dX13_findLeast_31 rfl ?_
  refine fg_13_530 (I 59 77) rfl dX13_findLeast_32 hL.1 hL.2.1 rfl ?_
  refine z_icmp_ge 74 dX13_findLeast_35 (by decide) (fun g1 => ?_) (fun g1 => ?_)
  · rw [if_neg g1] at h
    refine z_aload_n 0 dX13_findLeast_74 rfl ?_
    refine fg_13_530 (I 59 77) rfl dX13_findLeast_75 hL.1 hL.2.1 rfl ?_
    refine z_iconst 1 dX13_findLeast_78 (by decide) ?_
    refine z_icmp_ne 87 dX13_findLeast_79 (by decide) (fun g2 => ?_) (fun g2 => ?_)
    · rw [if_neg g2] at h
      refine z_aload_n 0 dX13_findLeast_87 rfl ?_
      refine fg_13_530 (I 59 77) rfl dX13_findLeast_88 hL.1 hL.2.1 rfl ?_
      refine z_iconst 2 dX13_findLeast_91 (by decide) ?_
      refine z_icmp_lt 99 dX13_findLeast_92 (by decide) (fun g3 => ?_) (fun g3 => ?_)
      · rw [if_pos g3] at h
        refine z_iload_n 1 dX13_findLeast_99 rfl ?_
        obtain ⟨o4, h⟩ := h
        exact z_zretb dX13_findLeast_100 rfl o4 ⟨rfl, h⟩
      · rw [if_neg g3] at h
        refine z_iload_n 1 dX13_findLeast_95 rfl ?_
        refine z_if_ne 101 dX13_findLeast_96 (by decide) (fun g5 => ?_) (fun g5 => ?_)
        · rw [if_neg g5] at h
          refine z_aload_n 0 dX13_findLeast_101 rfl ?_
          refine z_iconst 0 dX13_findLeast_102 (by decide) ?_
          refine z_iconst 0 dX13_findLeast_103 (by decide) ?_
          refine z_callV0 (As := [.int 0, .int 0]) (st := []) dX13_findLeast_104 hy_X13_product hL.1 hL.2.1 (by decide) wg_2068 wg_2070 wg_87 (Nat.le_refl _) (Nat.le_of_ble_eq_true rfl) (RM0.mono h (fun vv I6 L7 h => ?_))
          obtain ⟨r8, rfl, h⟩ := h
          change Z n0 xX13_findLeast (d + 1) rc rs 107 [(0, .ref (n0 + 59)), (1, .int a1), (2, .int a2)] [.long r8] K I6 L7 (z_q0 K Q)
          refine z_lstore_n [1, 2, 0] [(0, .ref (n0 + 59)), (1, .int a1), (2, .long r8)] dX13_findLeast_107 (by decide) rfl ?_
          refine z_aload_n 0 dX13_findLeast_108 rfl ?_
          refine z_iconst 0 dX13_findLeast_109 (by decide) ?_
          refine z_iconst 1 dX13_findLeast_110 (by decide) ?_
          refine z_callV0 (As := [.int 0, .int 1]) (st := []) dX13_findLeast_111 hy_X13_product hL.1 hL.2.1 (by decide) wg_2068 wg_2070 wg_87 (Nat.le_refl _) (Nat.le_of_ble_eq_true rfl) (RM0.mono h (fun vv I9 L10 h => ?_))
          obtain ⟨r11, rfl, h⟩ := h
          change Z n0 xX13_findLeast (d + 1) rc rs 114 [(0, .ref (n0 + 59)), (1, .int a1), (2, .long r8)] [.long r11] K I9 L10 (z_q0 K Q)
          refine z_lstore [1, 2, 3, 0] [(0, .ref (n0 + 59)), (1, .int a1), (2, .long r8), (4, .long r11)] dX13_findLeast_114 (by decide) rfl ?_
          refine z_aload_n 0 dX13_findLeast_116 rfl ?_
          refine z_iconst 1 dX13_findLeast_117 (by decide) ?_
          refine z_iconst 1 dX13_findLeast_118 (by decide) ?_
          refine z_callV0 (As := [.int 1, .int 1]) (st := []) dX13_findLeast_119 hy_X13_product hL.1 hL.2.1 (by decide) wg_2068 wg_2070 wg_87 (Nat.le_refl _) (Nat.le_of_ble_eq_true rfl) (RM0.mono h (fun vv I12 L13 h => ?_))
          obtain ⟨r14, rfl, h⟩ := h
          change Z n0 xX13_findLeast (d + 1) rc rs 122 [(0, .ref (n0 + 59)), (1, .int a1), (2, .long r8), (4, .long r11)] [.long r14] K I12 L13 (z_q0 K Q)
          refine z_lstore [1, 2, 3, 4, 0] [(0, .ref (n0 + 59)), (1, .int a1), (2, .long r8), (4, .long r11), (6, .long r14)] dX13_findLeast_122 (by decide) rfl ?_
          refine z_lload_n 2 dX13_findLeast_124 rfl ?_
          refine z_lload 4 dX13_findLeast_125 rfl ?_
          refine z_lmul dX13_findLeast_127 ?_
          refine z_lload 3 dX13_findLeast_128 rfl ?_
          refine z_lload 3 dX13_findLeast_130 rfl ?_
          refine z_lmul dX13_findLeast_132 ?_
          refine z_lsub dX13_findLeast_133 ?_
          refine z_lstore [1, 2, 3, 4, 5, 0] [(0, .ref (n0 + 59)), (1, .int a1), (2, .long r8), (4, .long r11), (6, .long r14), (8, .long ((r8 * r14) - (r11 * r11)))] dX13_findLeast_134 (by decide) rfl ?_
          refine z_lload 5 dX13_findLeast_136 rfl ?_
          refine z_lconst 0 dX13_findLeast_138 (by decide) ?_
          refine z_lif_ne 238 dX13_findLeast_139 dX13_findLeast_140 (by decide) (fun g15 => ?_) (fun g15 => ?_)
          · rw [if_neg g15] at h
            refine z_aload_n 0 dX13_findLeast_238 rfl ?_
            refine z_lload 5 dX13_findLeast_239 rfl ?_
            refine fp_13_537 rfl dX13_findLeast_241 hL.1 hL.2.1 ?_
            refine z_lload 4 dX13_findLeast_244 rfl ?_
            refine z_aload_n 0 dX13_findLeast_246 rfl ?_
            refine fg_13_165 (some 111) rfl dX13_findLeast_247 hL.1 hL.2.1 (ma_79 hL).1 ?_
            refine z_iconst 0 dX13_findLeast_250 (by decide) ?_
            refine z_iald (I12 111 0) dX13_findLeast_251 (ma_79 hL).2.1 (ma_79 hL).2.2 (by unfold vp_in; decide) rfl ?_
            refine z_i2l dX13_findLeast_252 ?_
            refine z_lmul dX13_findLeast_253 ?_
            refine z_lload 3 dX13_findLeast_254 rfl ?_
            refine z_aload_n 0 dX13_findLeast_256 rfl ?_
            refine fg_13_165 (some 111) rfl dX13_findLeast_257 hL.1 hL.2.1 (ma_79 hL).1 ?_
            refine z_iconst 1 dX13_findLeast_260 (by decide) ?_
            refine z_iald (I12 111 1) dX13_findLeast_261 (ma_79 hL).2.1 (ma_79 hL).2.2 (by unfold vp_in; decide) rfl ?_
            refine z_i2l dX13_findLeast_262 ?_
            refine z_lmul dX13_findLeast_263 ?_
            refine z_lsub dX13_findLeast_264 ?_
            refine z_lstore [1, 2, 3, 4, 5, 6, 0] [(0, .ref (n0 + 59)), (1, .int a1), (2, .long r8), (4, .long r11), (6, .long r14), (8, .long ((r8 * r14) - (r11 * r11))), (10, .long ((r14 * (((I12 111 0) : Int32).toInt64)) - (r11 * (((I12 111 1) : Int32).toInt64))))] dX13_findLeast_265 (by decide) rfl ?_
            refine z_lload_n 2 dX13_findLeast_267 rfl ?_
            refine z_aload_n 0 dX13_findLeast_268 rfl ?_
            refine fg_13_165 (some 111) rfl dX13_findLeast_269 hL.1 hL.2.1 (ma_79 hL).1 ?_
            refine z_iconst 1 dX13_findLeast_272 (by decide) ?_
            refine z_iald (I12 111 1) dX13_findLeast_273 (ma_79 hL).2.1 (ma_79 hL).2.2 (by unfold vp_in; decide) rfl ?_
            refine z_i2l dX13_findLeast_274 ?_
            refine z_lmul dX13_findLeast_275 ?_
            refine z_lload 3 dX13_findLeast_276 rfl ?_
            refine z_aload_n 0 dX13_findLeast_278 rfl ?_
            refine fg_13_165 (some 111) rfl dX13_findLeast_279 hL.1 hL.2.1 (ma_79 hL).1 ?_
            refine z_iconst 0 dX13_findLeast_282 (by decide) ?_
            refine z_iald (I12 111 0) dX13_findLeast_283 (ma_79 hL).2.1 (ma_79 hL).2.2 (by unfold vp_in; decide) rfl ?_
            refine z_i2l dX13_findLeast_284 ?_
            refine z_lmul dX13_findLeast_285 ?_
            refine z_lsub dX13_findLeast_286 ?_
            refine z_lstore [1, 2, 3, 4, 5, 6, 7, 0] [(0, .ref (n0 + 59)), (1, .int a1), (2, .long r8), (4, .long r11), (6, .long r14), (8, .long ((r8 * r14) - (r11 * r11))), (10, .long ((r14 * (((I12 111 0) : Int32).toInt64)) - (r11 * (((I12 111 1) : Int32).toInt64)))), (12, .long ((r8 * (((I12 111 1) : Int32).toInt64)) - (r11 * (((I12 111 0) : Int32).toInt64))))] dX13_findLeast_287 (by decide) rfl ?_
            refine z_iconst 0 dX13_findLeast_289 (by decide) ?_
            refine z_istore [1, 2, 3, 4, 5, 6, 7, 8, 0] [(0, .ref (n0 + 59)), (1, .int a1), (2, .long r8), (4, .long r11), (6, .long r14), (8, .long ((r8 * r14) - (r11 * r11))), (10, .long ((r14 * (((I12 111 0) : Int32).toInt64)) - (r11 * (((I12 111 1) : Int32).toInt64)))), (12, .long ((r8 * (((I12 111 1) : Int32).toInt64)) - (r11 * (((I12 111 0) : Int32).toInt64)))), (14, .int 0)] dX13_findLeast_290 (by decide) rfl ?_
            refine z_sub [0, 6, 7, 8] rfl ?_
            exact h
          · rw [if_pos g15] at h
            refine z_iconst 0 dX13_findLeast_143 (by decide) ?_
            refine z_istore [1, 2, 3, 4, 5, 6, 0] [(0, .ref (n0 + 59)), (1, .int a1), (2, .long r8), (4, .long r11), (6, .long r14), (8, .long ((r8 * r14) - (r11 * r11))), (10, .int 0)] dX13_findLeast_144 (by decide) rfl ?_
            refine z_sub [0, 1, 2, 4, 6] rfl ?_
            exact h
        · rw [if_pos g5] at h
          refine z_iload_n 1 dX13_findLeast_99 rfl ?_
          obtain ⟨o16, h⟩ := h
          exact z_zretb dX13_findLeast_100 rfl o16 ⟨rfl, h⟩
    · rw [if_pos g2] at h
      refine z_aload_n 0 dX13_findLeast_82 rfl ?_
      refine z_iconst 0 dX13_findLeast_83 (by decide) ?_
      refine z_callV0 (As := [.int 0]) (st := []) dX13_findLeast_84 hy_X13_leastOfOne hL.1 hL.2.1 (by decide) wg_2072 wg_2074 wg_88 (Nat.le_refl _) (Nat.le_of_ble_eq_true rfl) (RM0.mono h (fun vv I17 L18 h => ?_))
      obtain ⟨rfl, h⟩ := h
      change Z n0 xX13_findLeast (d + 1) rc rs 87 [(0, .ref (n0 + 59)), (1, .int a1), (2, .int a2)] [] K I17 L18 (z_q0 K Q)
      refine z_aload_n 0 dX13_findLeast_87 rfl ?_
      refine fg_13_530 (I17 59 77) rfl dX13_findLeast_88 hL.1 hL.2.1 rfl ?_
      refine z_iconst 2 dX13_findLeast_91 (by decide) ?_
      refine z_icmp_lt 99 dX13_findLeast_92 (by decide) (fun g19 => ?_) (fun g19 => ?_)
      · rw [if_pos g19] at h
        refine z_iload_n 1 dX13_findLeast_99 rfl ?_
        obtain ⟨o20, h⟩ := h
        exact z_zretb dX13_findLeast_100 rfl o20 ⟨rfl, h⟩
      · rw [if_neg g19] at h
        refine z_iload_n 1 dX13_findLeast_95 rfl ?_
        refine z_if_ne 101 dX13_findLeast_96 (by decide) (fun g21 => ?_) (fun g21 => ?_)
        · rw [if_neg g21] at h
          refine z_aload_n 0 dX13_findLeast_101 rfl ?_
          refine z_iconst 0 dX13_findLeast_102 (by decide) ?_
          refine z_iconst 0 dX13_findLeast_103 (by decide) ?_
          refine z_callV0 (As := [.int 0, .int 0]) (st := []) dX13_findLeast_104 hy_X13_product hL.1 hL.2.1 (by decide) wg_2068 wg_2070 wg_87 (Nat.le_refl _) (Nat.le_of_ble_eq_true rfl) (RM0.mono h (fun vv I22 L23 h => ?_))
          obtain ⟨r24, rfl, h⟩ := h
          change Z n0 xX13_findLeast (d + 1) rc rs 107 [(0, .ref (n0 + 59)), (1, .int a1), (2, .int a2)] [.long r24] K I22 L23 (z_q0 K Q)
          refine z_lstore_n [1, 2, 0] [(0, .ref (n0 + 59)), (1, .int a1), (2, .long r24)] dX13_findLeast_107 (by decide) rfl ?_
          refine z_aload_n 0 dX13_findLeast_108 rfl ?_
          refine z_iconst 0 dX13_findLeast_109 (by decide) ?_
          refine z_iconst 1 dX13_findLeast_110 (by decide) ?_
          refine z_callV0 (As := [.int 0, .int 1]) (st := []) dX13_findLeast_111 hy_X13_product hL.1 hL.2.1 (by decide) wg_2068 wg_2070 wg_87 (Nat.le_refl _) (Nat.le_of_ble_eq_true rfl) (RM0.mono h (fun vv I25 L26 h => ?_))
          obtain ⟨r27, rfl, h⟩ := h
          change Z n0 xX13_findLeast (d + 1) rc rs 114 [(0, .ref (n0 + 59)), (1, .int a1), (2, .long r24)] [.long r27] K I25 L26 (z_q0 K Q)
          refine z_lstore [1, 2, 3, 0] [(0, .ref (n0 + 59)), (1, .int a1), (2, .long r24), (4, .long r27)] dX13_findLeast_114 (by decide) rfl ?_
          refine z_aload_n 0 dX13_findLeast_116 rfl ?_
          refine z_iconst 1 dX13_findLeast_117 (by decide) ?_
          refine z_iconst 1 dX13_findLeast_118 (by decide) ?_
          refine z_callV0 (As := [.int 1, .int 1]) (st := []) dX13_findLeast_119 hy_X13_product hL.1 hL.2.1 (by decide) wg_2068 wg_2070 wg_87 (Nat.le_refl _) (Nat.le_of_ble_eq_true rfl) (RM0.mono h (fun vv I28 L29 h => ?_))
          obtain ⟨r30, rfl, h⟩ := h
          change Z n0 xX13_findLeast (d + 1) rc rs 122 [(0, .ref (n0 + 59)), (1, .int a1), (2, .long r24), (4, .long r27)] [.long r30] K I28 L29 (z_q0 K Q)
          refine z_lstore [1, 2, 3, 4, 0] [(0, .ref (n0 + 59)), (1, .int a1), (2, .long r24), (4, .long r27), (6, .long r30)] dX13_findLeast_122 (by decide) rfl ?_
          refine z_lload_n 2 dX13_findLeast_124 rfl ?_
          refine z_lload 4 dX13_findLeast_125 rfl ?_
          refine z_lmul dX13_findLeast_127 ?_
          refine z_lload 3 dX13_findLeast_128 rfl ?_
          refine z_lload 3 dX13_findLeast_130 rfl ?_
          refine z_lmul dX13_findLeast_132 ?_
          refine z_lsub dX13_findLeast_133 ?_
          refine z_lstore [1, 2, 3, 4, 5, 0] [(0, .ref (n0 + 59)), (1, .int a1), (2, .long r24), (4, .long r27), (6, .long r30), (8, .long ((r24 * r30) - (r27 * r27)))] dX13_findLeast_134 (by decide) rfl ?_
          refine z_lload 5 dX13_findLeast_136 rfl ?_
          refine z_lconst 0 dX13_findLeast_138 (by decide) ?_
          refine z_lif_ne 238 dX13_findLeast_139 dX13_findLeast_140 (by decide) (fun g31 => ?_) (fun g31 => ?_)
          · rw [if_neg g31] at h
            refine z_aload_n 0 dX13_findLeast_238 rfl ?_
            refine z_lload 5 dX13_findLeast_239 rfl ?_
            refine fp_13_537 rfl dX13_findLeast_241 hL.1 hL.2.1 ?_
            refine z_lload 4 dX13_findLeast_244 rfl ?_
            refine z_aload_n 0 dX13_findLeast_246 rfl ?_
            refine fg_13_165 (some 111) rfl dX13_findLeast_247 hL.1 hL.2.1 (ma_79 hL).1 ?_
            refine z_iconst 0 dX13_findLeast_250 (by decide) ?_
            refine z_iald (I28 111 0) dX13_findLeast_251 (ma_79 hL).2.1 (ma_79 hL).2.2 (by unfold vp_in; decide) rfl ?_
            refine z_i2l dX13_findLeast_252 ?_
            refine z_lmul dX13_findLeast_253 ?_
            refine z_lload 3 dX13_findLeast_254 rfl ?_
            refine z_aload_n 0 dX13_findLeast_256 rfl ?_
            refine fg_13_165 (some 111) rfl dX13_findLeast_257 hL.1 hL.2.1 (ma_79 hL).1 ?_
            refine z_iconst 1 dX13_findLeast_260 (by decide) ?_
            refine z_iald (I28 111 1) dX13_findLeast_261 (ma_79 hL).2.1 (ma_79 hL).2.2 (by unfold vp_in; decide) rfl ?_
            refine z_i2l dX13_findLeast_262 ?_
            refine z_lmul dX13_findLeast_263 ?_
            refine z_lsub dX13_findLeast_264 ?_
            refine z_lstore [1, 2, 3, 4, 5, 6, 0] [(0, .ref (n0 + 59)), (1, .int a1), (2, .long r24), (4, .long r27), (6, .long r30), (8, .long ((r24 * r30) - (r27 * r27))), (10, .long ((r30 * (((I28 111 0) : Int32).toInt64)) - (r27 * (((I28 111 1) : Int32).toInt64))))] dX13_findLeast_265 (by decide) rfl ?_
            refine z_lload_n 2 dX13_findLeast_267 rfl ?_
            refine z_aload_n 0 dX13_findLeast_268 rfl ?_
            refine fg_13_165 (some 111) rfl dX13_findLeast_269 hL.1 hL.2.1 (ma_79 hL).1 ?_
            refine z_iconst 1 dX13_findLeast_272 (by decide) ?_
            refine z_iald (I28 111 1) dX13_findLeast_273 (ma_79 hL).2.1 (ma_79 hL).2.2 (by unfold vp_in; decide) rfl ?_
            refine z_i2l dX13_findLeast_274 ?_
            refine z_lmul dX13_findLeast_275 ?_
            refine z_lload 3 dX13_findLeast_276 rfl ?_
            refine z_aload_n 0 dX13_findLeast_278 rfl ?_
            refine fg_13_165 (some 111) rfl dX13_findLeast_279 hL.1 hL.2.1 (ma_79 hL).1 ?_
            refine z_iconst 0 dX13_findLeast_282 (by decide) ?_
            refine z_iald (I28 111 0) dX13_findLeast_283 (ma_79 hL).2.1 (ma_79 hL).2.2 (by unfold vp_in; decide) rfl ?_
            refine z_i2l dX13_findLeast_284 ?_
            refine z_lmul dX13_findLeast_285 ?_
            refine z_lsub dX13_findLeast_286 ?_
            refine z_lstore [1, 2, 3, 4, 5, 6, 7, 0] [(0, .ref (n0 + 59)), (1, .int a1), (2, .long r24), (4, .long r27), (6, .long r30), (8, .long ((r24 * r30) - (r27 * r27))), (10, .long ((r30 * (((I28 111 0) : Int32).toInt64)) - (r27 * (((I28 111 1) : Int32).toInt64)))), (12, .long ((r24 * (((I28 111 1) : Int32).toInt64)) - (r27 * (((I28 111 0) : Int32).toInt64))))] dX13_findLeast_287 (by decide) rfl ?_
            refine z_iconst 0 dX13_findLeast_289 (by decide) ?_
            refine z_istore [1, 2, 3, 4, 5, 6, 7, 8, 0] [(0, .ref (n0 + 59)), (1, .int a1), (2, .long r24), (4, .long r27), (6, .long r30), (8, .long ((r24 * r30) - (r27 * r27))), (10, .long ((r30 * (((I28 111 0) : Int32).toInt64)) - (r27 * (((I28 111 1) : Int32).toInt64)))), (12, .long ((r24 * (((I28 111 1) : Int32).toInt64)) - (r27 * (((I28 111 0) : Int32).toInt64)))), (14, .int 0)] dX13_findLeast_290 (by decide) rfl ?_
            refine z_sub [0, 6, 7, 8] rfl ?_
            exact h
          · rw [if_pos g31] at h
            refine z_iconst 0 dX13_findLeast_143 (by decide) ?_
            refine z_istore [1, 2, 3, 4, 5, 6, 0] [(0, .ref (n0 + 59)), (1, .int a1), (2, .long r24), (4, .long r27), (6, .long r30), (8, .long ((r24 * r30) - (r27 * r27))), (10, .int 0)] dX13_findLeast_144 (by decide) rfl ?_
            refine z_sub [0, 1, 2, 4, 6] rfl ?_
            exact h
        · rw [if_pos g21] at h
          refine z_iload_n 1 dX13_findLeast_99 rfl ?_
          obtain ⟨o32, h⟩ := h
          exact z_zretb dX13_findLeast_100 rfl o32 ⟨rfl, h⟩
  · rw [if_pos g1] at h
    refine z_iload_n 1 dX13_findLeast_38 rfl ?_
    refine z_if_eq 66 dX13_findLeast_39 (by decide) (fun g33 => ?_) (fun g33 => ?_)
    · rw [if_pos g33] at h
      refine z_iconst 0 dX13_findLeast_66 (by decide) ?_
      refine z_istore_n [1, 0, 2] [(0, .ref (n0 + 59)), (1, .int 0), (2, .int a2)] dX13_findLeast_67 (by decide) rfl ?_
      refine z_iinc (j := 2) (a2 + 1) [1, 2, 0] [(0, .ref (n0 + 59)), (1, .int 0), (2, .int (a2 + 1))] dX13_findLeast_68 rfl rfl (by decide) rfl ?_
      refine z_goto 30 dX13_findLeast_71 (by decide) ?_
      exact h
    · rw [if_neg g33] at h
      refine z_aload_n 0 dX13_findLeast_42 rfl ?_
      refine z_iload_n 2 dX13_findLeast_43 rfl ?_
      refine z_iload_n 2 dX13_findLeast_44 rfl ?_
      refine z_callV0 (As := [.int a2, .int a2]) (st := []) dX13_findLeast_45 hy_X13_product hL.1 hL.2.1 (by decide) wg_2068 wg_2070 wg_87 (Nat.le_refl _) (Nat.le_of_ble_eq_true rfl) (RM0.mono h (fun vv I34 L35 h => ?_))
      obtain ⟨r36, rfl, h⟩ := h
      change Z n0 xX13_findLeast (d + 1) rc rs 48 [(0, .ref (n0 + 59)), (1, .int a1), (2, .int a2)] [.long r36] K I34 L35 (z_q0 K Q)
      refine z_lconst 0 dX13_findLeast_48 (by decide) ?_
      refine z_lif_gt 62 dX13_findLeast_49 dX13_findLeast_50 (by decide) (fun g37 => ?_) (fun g37 => ?_)
      · rw [if_pos g37] at h
        refine z_iconst 1 dX13_findLeast_62 (by decide) ?_
        refine z_goto 67 dX13_findLeast_63 (by decide) ?_
        refine z_istore_n [1, 0, 2] [(0, .ref (n0 + 59)), (1, .int 1), (2, .int a2)] dX13_findLeast_67 (by decide) rfl ?_
        refine z_iinc (j := 2) (a2 + 1) [1, 2, 0] [(0, .ref (n0 + 59)), (1, .int 1), (2, .int (a2 + 1))] dX13_findLeast_68 rfl rfl (by decide) rfl ?_
        refine z_goto 30 dX13_findLeast_71 (by decide) ?_
        exact h
      · rw [if_neg g37] at h
        refine z_aload_n 0 dX13_findLeast_53 rfl ?_
        refine fg_13_165 (some 111) rfl dX13_findLeast_54 hL.1 hL.2.1 (ma_79 hL).1 ?_
        refine z_iload_n 2 dX13_findLeast_57 rfl ?_
        obtain ⟨o38, h⟩ := h
        refine z_iald (I34 111 a2.toNatClampNeg) dX13_findLeast_58 (ma_79 hL).2.1 (ma_79 hL).2.2 o38 rfl ?_
        have key40 : Z n0 xX13_findLeast (d + 1) rc rs 67 [(0, .ref (n0 + 59)), (2, .int a2)] [.int (if ((I34 111 a2.toNatClampNeg) : Int32) = 0 then 1 else 0)] K I34 L35 (z_q0 K Q) := by
          refine z_istore_n [1, 0, 2] [(0, .ref (n0 + 59)), (1, .int (if ((I34 111 a2.toNatClampNeg) : Int32) = 0 then 1 else 0)), (2, .int a2)] dX13_findLeast_67 (by decide) rfl ?_
          refine z_iinc (j := 2) (a2 + 1) [1, 2, 0] [(0, .ref (n0 + 59)), (1, .int (if ((I34 111 a2.toNatClampNeg) : Int32) = 0 then 1 else 0)), (2, .int (a2 + 1))] dX13_findLeast_68 rfl rfl (by decide) rfl ?_
          refine z_goto 30 dX13_findLeast_71 (by decide) ?_
          exact h
        refine z_if_ne 66 dX13_findLeast_59 (by decide) (fun g39 => ?_) (fun g39 => ?_)
        · refine z_iconst 0 dX13_findLeast_66 (by decide) ?_
          have ee : ((if ((I34 111 a2.toNatClampNeg) : Int32) = 0 then 1 else 0) : Int32) = 0 := by rw [if_neg g39]
          rw [ee] at key40
          clear ee
          refine z_sub [0, 2] rfl ?_
          exact key40
        · refine z_iconst 1 dX13_findLeast_62 (by decide) ?_
          refine z_goto 67 dX13_findLeast_63 (by decide) ?_
          have ee : ((if ((I34 111 a2.toNatClampNeg) : Int32) = 0 then 1 else 0) : Int32) = 1 := by rw [if_pos g39]
          rw [ee] at key40
          clear ee
          refine z_sub [0, 2] rfl ?_
          exact key40
set_option maxRecDepth 100000 in
set_option maxHeartbeats 4000000 in
theorem wp_X13_findLeast_146 {n0 d : Nat} {rc rs : Nat} {K : z_K} {I : z_I} {L : z_L} {Q : z_q} {a1 : Int32} {a2 : Int64} {a6 : Int64} {a10 : Int32} (hL : MLay K) (h : (if a10 < 6 then (if 0 < a2 then (if 0 < a6 then (¬ (a1 = 0) → vp_in (6 + a10) 12) ∧ (¬ (a1 = 0) → vp_in a10 12) ∧ Z n0 xX13_findLeast (d + 1) rc rs 146 [(0, .ref (n0 + 59)), (1, .int (if a1 = 0 then 0 else if (((((I 111 0) : Int32).toInt64) * (((I 110 ((6 + a10).toNatClampNeg)) : Int32).toInt64)) : Int64) = ((((I 111 1) : Int32).toInt64) * (((I 110 a10.toNatClampNeg) : Int32).toInt64)) then 1 else 0)), (2, .long a2), (6, .long a6), (10, .int (a10 + 1))] [] K I L (z_q0 K Q) else (if 0 < a2 then RM0 n0 xX13_leastOfOne d [.ref (n0 + 59), .int 0] K I L (fun vv I22 L23 => vv = none ∧ z_b a1 ∧ Q (some (.int a1)) I22 L23) else RM0 n0 xX13_leastOfOne d [.ref (n0 + 59), .int 1] K I L (fun vv I19 L20 => vv = none ∧ z_b a1 ∧ Q (some (.int a1)) I19 L20))) else (if 0 < a2 then RM0 n0 xX13_leastOfOne d [.ref (n0 + 59), .int 0] K I L (fun vv I14 L15 => vv = none ∧ z_b a1 ∧ Q (some (.int a1)) I14 L15) else RM0 n0 xX13_leastOfOne d [.ref (n0 + 59), .int 1] K I L (fun vv I11 L12 => vv = none ∧ z_b a1 ∧ Q (some (.int a1)) I11 L12))) else (if 0 < a2 then RM0 n0 xX13_leastOfOne d [.ref (n0 + 59), .int 0] K I L (fun vv I6 L7 => vv = none ∧ z_b a1 ∧ Q (some (.int a1)) I6 L7) else RM0 n0 xX13_leastOfOne d [.ref (n0 + 59), .int 1] K I L (fun vv I3 L4 => vv = none ∧ z_b a1 ∧ Q (some (.int a1)) I3 L4)))) : Z n0 xX13_findLeast (d + 1) rc rs 146 [(0, .ref (n0 + 59)), (1, .int a1), (2, .long a2), (6, .long a6), (10, .int a10)] [] K I L (z_q0 K Q) := by
  refine z_iload 4 dX13_findLeast_146 rfl ?_
  refine z_bipush 6 dX13_findLeast_148 (by decide) ?_
  refine z_icmp_ge 221 dX13_findLeast_150 (by decide) (fun g1 => ?_) (fun g1 => ?_)
  · rw [if_neg g1] at h
    refine z_aload_n 0 dX13_findLeast_221 rfl ?_
    refine z_lload_n 2 dX13_findLeast_222 rfl ?_
    refine z_lconst 0 dX13_findLeast_223 (by decide) ?_
    refine z_lif_le 232 dX13_findLeast_224 dX13_findLeast_225 (by decide) (fun g2 => ?_) (fun g2 => ?_)
    · rw [if_neg g2] at h
      refine z_iconst 1 dX13_findLeast_232 (by decide) ?_
      refine z_callV0 (As := [.int 1]) (st := []) dX13_findLeast_233 hy_X13_leastOfOne hL.1 hL.2.1 (by decide) wg_2072 wg_2074 wg_88 (Nat.le_refl _) (Nat.le_of_ble_eq_true rfl) (RM0.mono h (fun vv I3 L4 h => ?_))
      obtain ⟨rfl, h⟩ := h
      change Z n0 xX13_findLeast (d + 1) rc rs 236 [(0, .ref (n0 + 59)), (1, .int a1), (2, .long a2), (6, .long a6), (10, .int a10)] [] K I3 L4 (z_q0 K Q)
      refine z_iload_n 1 dX13_findLeast_236 rfl ?_
      obtain ⟨o5, h⟩ := h
      exact z_zretb dX13_findLeast_237 rfl o5 ⟨rfl, h⟩
    · rw [if_pos g2] at h
      refine z_iconst 0 dX13_findLeast_228 (by decide) ?_
      refine z_goto 233 dX13_findLeast_229 (by decide) ?_
      refine z_callV0 (As := [.int 0]) (st := []) dX13_findLeast_233 hy_X13_leastOfOne hL.1 hL.2.1 (by decide) wg_2072 wg_2074 wg_88 (Nat.le_refl _) (Nat.le_of_ble_eq_true rfl) (RM0.mono h (fun vv I6 L7 h => ?_))
      obtain ⟨rfl, h⟩ := h
      change Z n0 xX13_findLeast (d + 1) rc rs 236 [(0, .ref (n0 + 59)), (1, .int a1), (2, .long a2), (6, .long a6), (10, .int a10)] [] K I6 L7 (z_q0 K Q)
      refine z_iload_n 1 dX13_findLeast_236 rfl ?_
      obtain ⟨o8, h⟩ := h
      exact z_zretb dX13_findLeast_237 rfl o8 ⟨rfl, h⟩
  · rw [if_pos g1] at h
    refine z_lload_n 2 dX13_findLeast_153 rfl ?_
    refine z_lconst 0 dX13_findLeast_154 (by decide) ?_
    refine z_lif_le 221 dX13_findLeast_155 dX13_findLeast_156 (by decide) (fun g9 => ?_) (fun g9 => ?_)
    · rw [if_neg g9] at h
      refine z_aload_n 0 dX13_findLeast_221 rfl ?_
      refine z_lload_n 2 dX13_findLeast_222 rfl ?_
      refine z_lconst 0 dX13_findLeast_223 (by decide) ?_
      refine z_lif_le 232 dX13_findLeast_224 dX13_findLeast_225 (by decide) (fun g10 => ?_) (fun g10 => ?_)
      · rw [if_neg g10] at h
        refine z_iconst 1 dX13_findLeast_232 (by decide) ?_
        refine z_callV0 (As := [.int 1]) (st := []) dX13_findLeast_233 hy_X13_leastOfOne hL.1 hL.2.1 (by decide) wg_2072 wg_2074 wg_88 (Nat.le_refl _) (Nat.le_of_ble_eq_true rfl) (RM0.mono h (fun vv I11 L12 h => ?_))
        obtain ⟨rfl, h⟩ := h
        change Z n0 xX13_findLeast (d + 1) rc rs 236 [(0, .ref (n0 + 59)), (1, .int a1), (2, .long a2), (6, .long a6), (10, .int a10)] [] K I11 L12 (z_q0 K Q)
        refine z_iload_n 1 dX13_findLeast_236 rfl ?_
        obtain ⟨o13, h⟩ := h
        exact z_zretb dX13_findLeast_237 rfl o13 ⟨rfl, h⟩
      · rw [if_pos g10] at h
        refine z_iconst 0 dX13_findLeast_228 (by decide) ?_
        refine z_goto 233 dX13_findLeast_229 (by decide) ?_
        refine z_callV0 (As := [.int 0]) (st := []) dX13_findLeast_233 hy_X13_leastOfOne hL.1 hL.2.1 (by decide) wg_2072 wg_2074 wg_88 (Nat.le_refl _) (Nat.le_of_ble_eq_true rfl) (RM0.mono h (fun vv I14 L15 h => ?_))
        obtain ⟨rfl, h⟩ := h
        change Z n0 xX13_findLeast (d + 1) rc rs 236 [(0, .ref (n0 + 59)), (1, .int a1), (2, .long a2), (6, .long a6), (10, .int a10)] [] K I14 L15 (z_q0 K Q)
        refine z_iload_n 1 dX13_findLeast_236 rfl ?_
        obtain ⟨o16, h⟩ := h
        exact z_zretb dX13_findLeast_237 rfl o16 ⟨rfl, h⟩
    · rw [if_pos g9] at h
      refine z_lload 3 dX13_findLeast_159 rfl ?_
      refine z_lconst 0 dX13_findLeast_161 (by decide) ?_
      refine z_lif_le 221 dX13_findLeast_162 dX13_findLeast_163 (by decide) (fun g17 => ?_) (fun g17 => ?_)
      · rw [if_neg g17] at h
        refine z_aload_n 0 dX13_findLeast_221 rfl ?_
        refine z_lload_n 2 dX13_findLeast_222 rfl ?_
        refine z_lconst 0 dX13_findLeast_223 (by decide) ?_
        refine z_lif_le 232 dX13_findLeast_224 dX13_findLeast_225 (by decide) (fun g18 => ?_) (fun g18 => ?_)
        · rw [if_neg g18] at h
          refine z_iconst 1 dX13_findLeast_232 (by decide) ?_
          refine z_callV0 (As := [.int 1]) (st := []) dX13_findLeast_233 hy_X13_leastOfOne hL.1 hL.2.1 (by decide) wg_2072 wg_2074 wg_88 (Nat.le_refl _) (Nat.le_of_ble_eq_true rfl) (RM0.mono h (fun vv I19 L20 h => ?_))
          obtain ⟨rfl, h⟩ := h
          change Z n0 xX13_findLeast (d + 1) rc rs 236 [(0, .ref (n0 + 59)), (1, .int a1), (2, .long a2), (6, .long a6), (10, .int a10)] [] K I19 L20 (z_q0 K Q)
          refine z_iload_n 1 dX13_findLeast_236 rfl ?_
          obtain ⟨o21, h⟩ := h
          exact z_zretb dX13_findLeast_237 rfl o21 ⟨rfl, h⟩
        · rw [if_pos g18] at h
          refine z_iconst 0 dX13_findLeast_228 (by decide) ?_
          refine z_goto 233 dX13_findLeast_229 (by decide) ?_
          refine z_callV0 (As := [.int 0]) (st := []) dX13_findLeast_233 hy_X13_leastOfOne hL.1 hL.2.1 (by decide) wg_2072 wg_2074 wg_88 (Nat.le_refl _) (Nat.le_of_ble_eq_true rfl) (RM0.mono h (fun vv I22 L23 h => ?_))
          obtain ⟨rfl, h⟩ := h
          change Z n0 xX13_findLeast (d + 1) rc rs 236 [(0, .ref (n0 + 59)), (1, .int a1), (2, .long a2), (6, .long a6), (10, .int a10)] [] K I22 L23 (z_q0 K Q)
          refine z_iload_n 1 dX13_findLeast_236 rfl ?_
          obtain ⟨o24, h⟩ := h
          exact z_zretb dX13_findLeast_237 rfl o24 ⟨rfl, h⟩
      · rw [if_pos g17] at h
        refine z_iload_n 1 dX13_findLeast_166 rfl ?_
        obtain ⟨o26, o27, h⟩ := h
        have key29 : Z n0 xX13_findLeast (d + 1) rc rs 214 [(0, .ref (n0 + 59)), (2, .long a2), (6, .long a6), (10, .int a10)] [.int (if a1 = 0 then 0 else if (((((I 111 0) : Int32).toInt64) * (((I 110 ((6 + a10).toNatClampNeg)) : Int32).toInt64)) : Int64) = ((((I 111 1) : Int32).toInt64) * (((I 110 a10.toNatClampNeg) : Int32).toInt64)) then 1 else 0)] K I L (z_q0 K Q) := by
          refine z_istore_n [1, 0, 2, 3, 4] [(0, .ref (n0 + 59)), (1, .int (if a1 = 0 then 0 else if (((((I 111 0) : Int32).toInt64) * (((I 110 ((6 + a10).toNatClampNeg)) : Int32).toInt64)) : Int64) = ((((I 111 1) : Int32).toInt64) * (((I 110 a10.toNatClampNeg) : Int32).toInt64)) then 1 else 0)), (2, .long a2), (6, .long a6), (10, .int a10)] dX13_findLeast_214 (by decide) rfl ?_
          refine z_iinc (j := 4) (a10 + 1) [1, 2, 3, 4, 0] [(0, .ref (n0 + 59)), (1, .int (if a1 = 0 then 0 else if (((((I 111 0) : Int32).toInt64) * (((I 110 ((6 + a10).toNatClampNeg)) : Int32).toInt64)) : Int64) = ((((I 111 1) : Int32).toInt64) * (((I 110 a10.toNatClampNeg) : Int32).toInt64)) then 1 else 0)), (2, .long a2), (6, .long a6), (10, .int (a10 + 1))] dX13_findLeast_215 rfl rfl (by decide) rfl ?_
          refine z_goto 146 dX13_findLeast_218 (by decide) ?_
          exact h
        refine z_if_eq 213 dX13_findLeast_167 (by decide) (fun g25 => ?_) (fun g25 => ?_)
        · refine z_iconst 0 dX13_findLeast_213 (by decide) ?_
          have ee : ((if a1 = 0 then 0 else if (((((I 111 0) : Int32).toInt64) * (((I 110 ((6 + a10).toNatClampNeg)) : Int32).toInt64)) : Int64) = ((((I 111 1) : Int32).toInt64) * (((I 110 a10.toNatClampNeg) : Int32).toInt64)) then 1 else 0) : Int32) = 0 := by rw [if_pos g25]
          rw [ee] at key29
          clear ee
          refine z_sub [0, 2, 3, 4] rfl ?_
          exact key29
        · refine z_aload_n 0 dX13_findLeast_170 rfl ?_
          refine fg_13_165 (some 111) rfl dX13_findLeast_171 hL.1 hL.2.1 (ma_79 hL).1 ?_
          refine z_iconst 0 dX13_findLeast_174 (by decide) ?_
          refine z_iald (I 111 0) dX13_findLeast_175 (ma_79 hL).2.1 (ma_79 hL).2.2 (by unfold vp_in; decide) rfl ?_
          refine z_i2l dX13_findLeast_176 ?_
          refine z_aload_n 0 dX13_findLeast_177 rfl ?_
          refine fg_13_162 (some 110) rfl dX13_findLeast_178 hL.1 hL.2.1 (ma_78 hL).1 ?_
          refine z_bipush 6 dX13_findLeast_181 (by decide) ?_
          refine z_iload 4 dX13_findLeast_183 rfl ?_
          refine z_iadd dX13_findLeast_185 ?_
          refine z_iald (I 110 ((6 + a10).toNatClampNeg)) dX13_findLeast_186 (ma_78 hL).2.1 (ma_78 hL).2.2 (o26 g25) rfl ?_
          refine z_i2l dX13_findLeast_187 ?_
          refine z_lmul dX13_findLeast_188 ?_
          refine z_aload_n 0 dX13_findLeast_189 rfl ?_
          refine fg_13_165 (some 111) rfl dX13_findLeast_190 hL.1 hL.2.1 (ma_79 hL).1 ?_
          refine z_iconst 1 dX13_findLeast_193 (by decide) ?_
          refine z_iald (I 111 1) dX13_findLeast_194 (ma_79 hL).2.1 (ma_79 hL).2.2 (by unfold vp_in; decide) rfl ?_
          refine z_i2l dX13_findLeast_195 ?_
          refine z_aload_n 0 dX13_findLeast_196 rfl ?_
          refine fg_13_162 (some 110) rfl dX13_findLeast_197 hL.1 hL.2.1 (ma_78 hL).1 ?_
          refine z_iload 4 dX13_findLeast_200 rfl ?_
          refine z_iald (I 110 a10.toNatClampNeg) dX13_findLeast_202 (ma_78 hL).2.1 (ma_78 hL).2.2 (o27 g25) rfl ?_
          refine z_i2l dX13_findLeast_203 ?_
          refine z_lmul dX13_findLeast_204 ?_
          refine z_lif_ne 213 dX13_findLeast_205 dX13_findLeast_206 (by decide) (fun g28 => ?_) (fun g28 => ?_)
          · refine z_iconst 0 dX13_findLeast_213 (by decide) ?_
            have ee : ((if a1 = 0 then 0 else if (((((I 111 0) : Int32).toInt64) * (((I 110 ((6 + a10).toNatClampNeg)) : Int32).toInt64)) : Int64) = ((((I 111 1) : Int32).toInt64) * (((I 110 a10.toNatClampNeg) : Int32).toInt64)) then 1 else 0) : Int32) = 0 := by rw [if_neg g25, if_neg g28]
            rw [ee] at key29
            clear ee
            refine z_sub [0, 2, 3, 4] rfl ?_
            exact key29
          · refine z_iconst 1 dX13_findLeast_209 (by decide) ?_
            refine z_goto 214 dX13_findLeast_210 (by decide) ?_
            have ee : ((if a1 = 0 then 0 else if (((((I 111 0) : Int32).toInt64) * (((I 110 ((6 + a10).toNatClampNeg)) : Int32).toInt64)) : Int64) = ((((I 111 1) : Int32).toInt64) * (((I 110 a10.toNatClampNeg) : Int32).toInt64)) then 1 else 0) : Int32) = 1 := by rw [if_neg g25, if_pos g28]
            rw [ee] at key29
            clear ee
            refine z_sub [0, 2, 3, 4] rfl ?_
            exact key29
set_option maxRecDepth 100000 in
set_option maxHeartbeats 4000000 in
theorem wp_X13_findLeast_292 {n0 d : Nat} {rc rs : Nat} {K : z_K} {I : z_I} {L : z_L} {Q : z_q} {a10 : Int64} {a12 : Int64} {a14 : Int32} (hL : MLay K) (h : (if a14 < 6 then vp_in a14 12 ∧ vp_in (6 + a14) 12 ∧ vp_in a14 6 ∧ Z n0 xX13_findLeast (d + 1) rc rs 292 [(0, .ref (n0 + 59)), (10, .long a10), (12, .long a12), (14, .int (a14 + 1))] [] K I (zL L 112 a14.toNatClampNeg ((a10 * (((I 110 a14.toNatClampNeg) : Int32).toInt64)) + (a12 * (((I 110 ((6 + a14).toNatClampNeg)) : Int32).toInt64)))) (z_q0 K Q) else Q (some (.int 1)) I L)) : Z n0 xX13_findLeast (d + 1) rc rs 292 [(0, .ref (n0 + 59)), (10, .long a10), (12, .long a12), (14, .int a14)] [] K I L (z_q0 K Q) := by
  refine z_iload 3 dX13_findLeast_292 rfl ?_
  refine z_bipush 6 dX13_findLeast_294 (by decide) ?_
  refine z_icmp_ge 338 dX13_findLeast_296 (by decide) (fun g1 => ?_) (fun g1 => ?_)
  · rw [if_neg g1] at h
    refine z_iconst 1 dX13_findLeast_338 (by decide) ?_
    exact z_zretb dX13_findLeast_339 rfl (Or.inr rfl) ⟨rfl, h⟩
  · rw [if_pos g1] at h
    refine z_aload_n 0 dX13_findLeast_299 rfl ?_
    refine fg_13_168 (some 112) rfl dX13_findLeast_300 hL.1 hL.2.1 (ma_80 hL).1 ?_
    refine z_iload 3 dX13_findLeast_303 rfl ?_
    refine z_lload 1 dX13_findLeast_305 rfl ?_
    refine z_aload_n 0 dX13_findLeast_307 rfl ?_
    refine fg_13_162 (some 110) rfl dX13_findLeast_308 hL.1 hL.2.1 (ma_78 hL).1 ?_
    refine z_iload 3 dX13_findLeast_311 rfl ?_
    obtain ⟨o2, h⟩ := h
    refine z_iald (I 110 a14.toNatClampNeg) dX13_findLeast_313 (ma_78 hL).2.1 (ma_78 hL).2.2 o2 rfl ?_
    refine z_i2l dX13_findLeast_314 ?_
    refine z_lmul dX13_findLeast_315 ?_
    refine z_lload 2 dX13_findLeast_316 rfl ?_
    refine z_aload_n 0 dX13_findLeast_318 rfl ?_
    refine fg_13_162 (some 110) rfl dX13_findLeast_319 hL.1 hL.2.1 (ma_78 hL).1 ?_
    refine z_bipush 6 dX13_findLeast_322 (by decide) ?_
    refine z_iload 3 dX13_findLeast_324 rfl ?_
    refine z_iadd dX13_findLeast_326 ?_
    obtain ⟨o3, h⟩ := h
    refine z_iald (I 110 ((6 + a14).toNatClampNeg)) dX13_findLeast_327 (ma_78 hL).2.1 (ma_78 hL).2.2 o3 rfl ?_
    refine z_i2l dX13_findLeast_328 ?_
    refine z_lmul dX13_findLeast_329 ?_
    refine z_ladd dX13_findLeast_330 ?_
    obtain ⟨o4, h⟩ := h
    refine z_last dX13_findLeast_331 (ma_80 hL).2.1 (ma_80 hL).2.2 o4 ?_
    refine z_iinc (j := 3) (a14 + 1) [1, 2, 3, 0] [(0, .ref (n0 + 59)), (10, .long a10), (12, .long a12), (14, .int (a14 + 1))] dX13_findLeast_332 rfl rfl (by decide) rfl ?_
    refine z_goto 292 dX13_findLeast_335 (by decide) ?_
    exact h
theorem dX13_divisor_0 : decode cX13_divisor 0 = .ok (.lload_n 0, 1) := by decide +kernel
theorem dX13_divisor_1 : decode cX13_divisor 1 = .ok (.lconst 0, 1) := by decide +kernel
theorem dX13_divisor_2 : decode cX13_divisor 2 = .ok (.lcmp, 1) := by decide +kernel
theorem dX13_divisor_3 : decode cX13_divisor 3 = .ok (.ifCond .ge 8, 3) := by decide +kernel
theorem dX13_divisor_6 : decode cX13_divisor 6 = .ok (.lload_n 0, 1) := by decide +kernel
theorem dX13_divisor_7 : decode cX13_divisor 7 = .ok (.lneg, 1) := by decide +kernel
theorem dX13_divisor_8 : decode cX13_divisor 8 = .ok (.goto 4, 3) := by decide +kernel
theorem dX13_divisor_11 : decode cX13_divisor 11 = .ok (.lload_n 0, 1) := by decide +kernel
theorem dX13_divisor_12 : decode cX13_divisor 12 = .ok (.lstore 4, 2) := by decide +kernel
theorem dX13_divisor_14 : decode cX13_divisor 14 = .ok (.lload_n 2, 1) := by decide +kernel
theorem dX13_divisor_15 : decode cX13_divisor 15 = .ok (.lstore 6, 2) := by decide +kernel
theorem dX13_divisor_17 : decode cX13_divisor 17 = .ok (.lload 6, 2) := by decide +kernel
theorem dX13_divisor_19 : decode cX13_divisor 19 = .ok (.lconst 0, 1) := by decide +kernel
theorem dX13_divisor_20 : decode cX13_divisor 20 = .ok (.lcmp, 1) := by decide +kernel
theorem dX13_divisor_21 : decode cX13_divisor 21 = .ok (.ifCond .eq 21, 3) := by decide +kernel
theorem dX13_divisor_24 : decode cX13_divisor 24 = .ok (.lload 4, 2) := by decide +kernel
theorem dX13_divisor_26 : decode cX13_divisor 26 = .ok (.lload 6, 2) := by decide +kernel
theorem dX13_divisor_28 : decode cX13_divisor 28 = .ok (.lrem, 1) := by decide +kernel
theorem dX13_divisor_29 : decode cX13_divisor 29 = .ok (.lstore 8, 2) := by decide +kernel
theorem dX13_divisor_31 : decode cX13_divisor 31 = .ok (.lload 6, 2) := by decide +kernel
theorem dX13_divisor_33 : decode cX13_divisor 33 = .ok (.lstore 4, 2) := by decide +kernel
theorem dX13_divisor_35 : decode cX13_divisor 35 = .ok (.lload 8, 2) := by decide +kernel
theorem dX13_divisor_37 : decode cX13_divisor 37 = .ok (.lstore 6, 2) := by decide +kernel
theorem dX13_divisor_39 : decode cX13_divisor 39 = .ok (.goto (-22), 3) := by decide +kernel
theorem dX13_divisor_42 : decode cX13_divisor 42 = .ok (.lload 4, 2) := by decide +kernel
theorem dX13_divisor_44 : decode cX13_divisor 44 = .ok (.lreturn, 1) := by decide +kernel
set_option maxRecDepth 100000 in
set_option maxHeartbeats 4000000 in
theorem wp_X13_divisor {n0 d : Nat} {K : z_K} {I : z_I} {L : z_L} {Q : z_q} {p0 : Int64} {p1 : Int64} (hL : MLay K) (h : (if p0 < 0 then Z n0 xX13_divisor d 0 0 17 [(4, .long (-p0)), (6, .long p1)] [] K I L (z_q0 K Q) else Z n0 xX13_divisor d 0 0 17 [(4, .long p0), (6, .long p1)] [] K I L (z_q0 K Q))) : RM0 n0 xX13_divisor d [.long p0, .long p1] K I L Q := by
  refine z_entry0 (by decide) (Nat.le_of_ble_eq_true rfl) ?_
  change Z n0 xX13_divisor d 0 0 0 [(0, .long p0), (2, .long p1)] [] K I L (z_q0 K Q)
  refine z_lload_n 0 dX13_divisor_0 rfl ?_
  refine z_lconst 0 dX13_divisor_1 (by decide) ?_
  refine z_lif_ge 11 dX13_divisor_2 dX13_divisor_3 (by decide) (fun g1 => ?_) (fun g1 => ?_)
  · rw [if_neg g1] at h
    refine z_lload_n 0 dX13_divisor_11 rfl ?_
    refine z_lstore [1, 2, 0] [(0, .long p0), (2, .long p1), (4, .long p0)] dX13_divisor_12 (by decide) rfl ?_
    refine z_lload_n 1 dX13_divisor_14 rfl ?_
    refine z_lstore [1, 2, 3, 0] [(0, .long p0), (2, .long p1), (4, .long p0), (6, .long p1)] dX13_divisor_15 (by decide) rfl ?_
    refine z_sub [2, 3] rfl ?_
    exact h
  · rw [if_pos g1] at h
    refine z_lload_n 0 dX13_divisor_6 rfl ?_
    refine z_lneg dX13_divisor_7 ?_
    refine z_goto 12 dX13_divisor_8 (by decide) ?_
    refine z_lstore [1, 2, 0] [(0, .long p0), (2, .long p1), (4, .long (-p0))] dX13_divisor_12 (by decide) rfl ?_
    refine z_lload_n 1 dX13_divisor_14 rfl ?_
    refine z_lstore [1, 2, 3, 0] [(0, .long p0), (2, .long p1), (4, .long (-p0)), (6, .long p1)] dX13_divisor_15 (by decide) rfl ?_
    refine z_sub [2, 3] rfl ?_
    exact h
set_option maxRecDepth 100000 in
set_option maxHeartbeats 4000000 in
theorem wp_X13_divisor_17 {n0 d : Nat} {rc rs : Nat} {K : z_K} {I : z_I} {L : z_L} {Q : z_q} {a4 : Int64} {a6 : Int64} (hL : MLay K) (h : (if a6 = 0 then Q (some (.long a4)) I L else ¬ (a6 : Int64) = 0 ∧ Z n0 xX13_divisor d rc rs 17 [(4, .long a6), (6, .long (a4 - a4 / a6 * a6))] [] K I L (z_q0 K Q))) : Z n0 xX13_divisor d rc rs 17 [(4, .long a4), (6, .long a6)] [] K I L (z_q0 K Q) := by
  refine z_lload 1 dX13_divisor_17 rfl ?_
  refine z_lconst 0 dX13_divisor_19 (by decide) ?_
  refine z_lif_eq 42 dX13_divisor_20 dX13_divisor_21 (by decide) (fun g1 => ?_) (fun g1 => ?_)
  · rw [if_pos g1] at h
    refine z_lload 0 dX13_divisor_42 rfl ?_
    exact z_lret dX13_divisor_44 rfl ⟨rfl, h⟩
  · rw [if_neg g1] at h
    refine z_lload 0 dX13_divisor_24 rfl ?_
    refine z_lload 1 dX13_divisor_26 rfl ?_
    obtain ⟨o2, h⟩ := h
    refine z_lrem dX13_divisor_28 o2 ?_
    refine z_lstore [1, 2, 0] [(4, .long a4), (6, .long a6), (8, .long (a4 - a4 / a6 * a6))] dX13_divisor_29 (by decide) rfl ?_
    refine z_lload 1 dX13_divisor_31 rfl ?_
    refine z_lstore [0, 1, 2] [(4, .long a6), (6, .long a6), (8, .long (a4 - a4 / a6 * a6))] dX13_divisor_33 (by decide) rfl ?_
    refine z_lload 2 dX13_divisor_35 rfl ?_
    refine z_lstore [1, 0, 2] [(4, .long a6), (6, .long (a4 - a4 / a6 * a6)), (8, .long (a4 - a4 / a6 * a6))] dX13_divisor_37 (by decide) rfl ?_
    refine z_goto 17 dX13_divisor_39 (by decide) ?_
    refine z_sub [0, 1] rfl ?_
    exact h
theorem dX13_least_0 : decode cX13_least 0 = .ok (.iload_n 1, 1) := by decide +kernel
theorem dX13_least_1 : decode cX13_least 1 = .ok (.i2l, 1) := by decide +kernel
theorem dX13_least_2 : decode cX13_least 2 = .ok (.lconst 0, 1) := by decide +kernel
theorem dX13_least_3 : decode cX13_least 3 = .ok (.ldc2_w 544, 3) := by decide +kernel
theorem dX13_least_6 : decode cX13_least 6 = .ok (.invokestatic 291, 3) := by decide +kernel
theorem dX13_least_9 : decode cX13_least 9 = .ok (.ifCond .ne 10, 3) := by decide +kernel
theorem dX13_least_12 : decode cX13_least 12 = .ok (.aload_n 0, 1) := by decide +kernel
theorem dX13_least_13 : decode cX13_least 13 = .ok (.iconst (-1), 1) := by decide +kernel
theorem dX13_least_14 : decode cX13_least 14 = .ok (.invokevirtual 334, 3) := by decide +kernel
theorem dX13_least_17 : decode cX13_least 17 = .ok (.i2l, 1) := by decide +kernel
theorem dX13_least_18 : decode cX13_least 18 = .ok (.lreturn, 1) := by decide +kernel
theorem dX13_least_19 : decode cX13_least 19 = .ok (.iload_n 2, 1) := by decide +kernel
theorem dX13_least_20 : decode cX13_least 20 = .ok (.i2l, 1) := by decide +kernel
theorem dX13_least_21 : decode cX13_least 21 = .ok (.lconst 0, 1) := by decide +kernel
theorem dX13_least_22 : decode cX13_least 22 = .ok (.lconst 1, 1) := by decide +kernel
theorem dX13_least_23 : decode cX13_least 23 = .ok (.invokestatic 291, 3) := by decide +kernel
theorem dX13_least_26 : decode cX13_least 26 = .ok (.ifCond .ne 11, 3) := by decide +kernel
theorem dX13_least_29 : decode cX13_least 29 = .ok (.aload_n 0, 1) := by decide +kernel
theorem dX13_least_30 : decode cX13_least 30 = .ok (.bipush (-2), 2) := by decide +kernel
theorem dX13_least_32 : decode cX13_least 32 = .ok (.invokevirtual 334, 3) := by decide +kernel
theorem dX13_least_35 : decode cX13_least 35 = .ok (.i2l, 1) := by decide +kernel
theorem dX13_least_36 : decode cX13_least 36 = .ok (.lreturn, 1) := by decide +kernel
theorem dX13_least_37 : decode cX13_least 37 = .ok (.aload_n 0, 1) := by decide +kernel
theorem dX13_least_38 : decode cX13_least 38 = .ok (.invokevirtual 546, 3) := by decide +kernel
theorem dX13_least_41 : decode cX13_least 41 = .ok (.ifCond .ne 11, 3) := by decide +kernel
theorem dX13_least_44 : decode cX13_least 44 = .ok (.aload_n 0, 1) := by decide +kernel
theorem dX13_least_45 : decode cX13_least 45 = .ok (.bipush (-3), 2) := by decide +kernel
theorem dX13_least_47 : decode cX13_least 47 = .ok (.invokevirtual 334, 3) := by decide +kernel
theorem dX13_least_50 : decode cX13_least 50 = .ok (.i2l, 1) := by decide +kernel
theorem dX13_least_51 : decode cX13_least 51 = .ok (.lreturn, 1) := by decide +kernel
theorem dX13_least_52 : decode cX13_least 52 = .ok (.aload_n 0, 1) := by decide +kernel
theorem dX13_least_53 : decode cX13_least 53 = .ok (.getfield 168, 3) := by decide +kernel
theorem dX13_least_56 : decode cX13_least 56 = .ok (.iload_n 1, 1) := by decide +kernel
theorem dX13_least_57 : decode cX13_least 57 = .ok (.laload, 1) := by decide +kernel
theorem dX13_least_58 : decode cX13_least 58 = .ok (.aload_n 0, 1) := by decide +kernel
theorem dX13_least_59 : decode cX13_least 59 = .ok (.getfield 537, 3) := by decide +kernel
theorem dX13_least_62 : decode cX13_least 62 = .ok (.invokestatic 549, 3) := by decide +kernel
theorem dX13_least_65 : decode cX13_least 65 = .ok (.lstore_n 3, 1) := by decide +kernel
theorem dX13_least_66 : decode cX13_least 66 = .ok (.iload_n 2, 1) := by decide +kernel
theorem dX13_least_67 : decode cX13_least 67 = .ok (.ifCond .ne 14, 3) := by decide +kernel
theorem dX13_least_70 : decode cX13_least 70 = .ok (.aload_n 0, 1) := by decide +kernel
theorem dX13_least_71 : decode cX13_least 71 = .ok (.getfield 168, 3) := by decide +kernel
theorem dX13_least_74 : decode cX13_least 74 = .ok (.iload_n 1, 1) := by decide +kernel
theorem dX13_least_75 : decode cX13_least 75 = .ok (.laload, 1) := by decide +kernel
theorem dX13_least_76 : decode cX13_least 76 = .ok (.lload_n 3, 1) := by decide +kernel
theorem dX13_least_77 : decode cX13_least 77 = .ok (.ldiv, 1) := by decide +kernel
theorem dX13_least_78 : decode cX13_least 78 = .ok (.goto 9, 3) := by decide +kernel
theorem dX13_least_81 : decode cX13_least 81 = .ok (.aload_n 0, 1) := by decide +kernel
theorem dX13_least_82 : decode cX13_least 82 = .ok (.getfield 537, 3) := by decide +kernel
theorem dX13_least_85 : decode cX13_least 85 = .ok (.lload_n 3, 1) := by decide +kernel
theorem dX13_least_86 : decode cX13_least 86 = .ok (.ldiv, 1) := by decide +kernel
theorem dX13_least_87 : decode cX13_least 87 = .ok (.lreturn, 1) := by decide +kernel
set_option maxRecDepth 100000 in
set_option maxHeartbeats 4000000 in
theorem wp_X13_least {n0 d : Nat} {K : z_K} {I : z_I} {L : z_L} {Q : z_q} {p0 : Int32} {p1 : Int32} (hL : MLay K) (h : RM0 n0 xX13_in d [.long p0.toInt64, .long 0, .long 5] K I L (fun vv I1 L2 => ∃ r3 : Int32, vv = some (.int r3) ∧ (if r3 = 0 then RM0 n0 xX13_refuseFar d [.ref (n0 + 59), .int (-1)] K I1 L2 (fun vv I27 L28 => ∃ r29 : Int32, vv = some (.int r29) ∧ Q (some (.long r29.toInt64)) I27 L28) else RM0 n0 xX13_in d [.long p1.toInt64, .long 0, .long 1] K I1 L2 (fun vv I5 L6 => ∃ r7 : Int32, vv = some (.int r7) ∧ (if r7 = 0 then RM0 n0 xX13_refuseFar d [.ref (n0 + 59), .int (-2)] K I5 L6 (fun vv I24 L25 => ∃ r26 : Int32, vv = some (.int r26) ∧ Q (some (.long r26.toInt64)) I24 L25) else RM0 n0 xX13_findLeast d [.ref (n0 + 59)] K I5 L6 (fun vv I9 L10 => ∃ r11 : Int32, vv = some (.int r11) ∧ (if r11 = 0 then RM0 n0 xX13_refuseFar d [.ref (n0 + 59), .int (-3)] K I9 L10 (fun vv I21 L22 => ∃ r23 : Int32, vv = some (.int r23) ∧ Q (some (.long r23.toInt64)) I21 L22) else vp_in p0 6 ∧ RM0 n0 xX13_divisor d [.long (L10 112 p0.toNatClampNeg), .long (L10 59 81)] K I9 L10 (fun vv I14 L15 => ∃ r16 : Int64, vv = some (.long r16) ∧ (¬ (p1 = 0) → ¬ (r16 : Int64) = 0) ∧ (p1 = 0 → ¬ (r16 : Int64) = 0) ∧ Q (some (.long (if p1 = 0 then ((L15 112 p0.toNatClampNeg) / r16) else ((L15 59 81) / r16)))) I14 L15)))))))) : RM0 n0 xX13_least (d + 1) [.ref (n0 + 59), .int p0, .int p1] K I L Q := by
  refine z_entry0 (by decide) (Nat.le_of_ble_eq_true rfl) ?_
  change Z n0 xX13_least (d + 1) 0 0 0 [(0, .ref (n0 + 59)), (1, .int p0), (2, .int p1)] [] K I L (z_q0 K Q)
  refine z_iload_n 1 dX13_least_0 rfl ?_
  refine z_i2l dX13_least_1 ?_
  refine z_lconst 0 dX13_least_2 (by decide) ?_
  refine z_ldc2_w 5 dX13_least_3 wg_2063 ?_
  refine z_callS0 (As := [.long p0.toInt64, .long 0, .long 5]) (st := []) dX13_least_6 hy_X13_in wg_1790 wg_1791 (Nat.le_refl _) (Nat.le_of_ble_eq_true rfl) (RM0.mono h (fun vv I1 L2 h => ?_))
  obtain ⟨r3, rfl, h⟩ := h
  change Z n0 xX13_least (d + 1) 0 0 9 [(0, .ref (n0 + 59)), (1, .int p0), (2, .int p1)] [.int r3] K I1 L2 (z_q0 K Q)
  refine z_if_ne 19 dX13_least_9 (by decide) (fun g4 => ?_) (fun g4 => ?_)
  · rw [if_neg g4] at h
    refine z_iload_n 2 dX13_least_19 rfl ?_
    refine z_i2l dX13_least_20 ?_
    refine z_lconst 0 dX13_least_21 (by decide) ?_
    refine z_lconst 1 dX13_least_22 (by decide) ?_
    refine z_callS0 (As := [.long p1.toInt64, .long 0, .long 1]) (st := []) dX13_least_23 hy_X13_in wg_1790 wg_1791 (Nat.le_refl _) (Nat.le_of_ble_eq_true rfl) (RM0.mono h (fun vv I5 L6 h => ?_))
    obtain ⟨r7, rfl, h⟩ := h
    change Z n0 xX13_least (d + 1) 0 0 26 [(0, .ref (n0 + 59)), (1, .int p0), (2, .int p1)] [.int r7] K I5 L6 (z_q0 K Q)
    refine z_if_ne 37 dX13_least_26 (by decide) (fun g8 => ?_) (fun g8 => ?_)
    · rw [if_neg g8] at h
      refine z_aload_n 0 dX13_least_37 rfl ?_
      refine z_callV0 (As := []) (st := []) dX13_least_38 hy_X13_findLeast hL.1 hL.2.1 (by decide) wg_2064 wg_2066 wg_86 (Nat.le_refl _) (Nat.le_of_ble_eq_true rfl) (RM0.mono h (fun vv I9 L10 h => ?_))
      obtain ⟨r11, rfl, h⟩ := h
      change Z n0 xX13_least (d + 1) 0 0 41 [(0, .ref (n0 + 59)), (1, .int p0), (2, .int p1)] [.int r11] K I9 L10 (z_q0 K Q)
      refine z_if_ne 52 dX13_least_41 (by decide) (fun g12 => ?_) (fun g12 => ?_)
      · rw [if_neg g12] at h
        refine z_aload_n 0 dX13_least_52 rfl ?_
        refine fg_13_168 (some 112) rfl dX13_least_53 hL.1 hL.2.1 (ma_80 hL).1 ?_
        refine z_iload_n 1 dX13_least_56 rfl ?_
        obtain ⟨o13, h⟩ := h
        refine z_lald (L10 112 p0.toNatClampNeg) dX13_least_57 (ma_80 hL).2.1 (ma_80 hL).2.2 o13 rfl ?_
        refine z_aload_n 0 dX13_least_58 rfl ?_
        refine fg_13_537 (L10 59 81) rfl dX13_least_59 hL.1 hL.2.1 rfl ?_
        refine z_callS0 (As := [.long (L10 112 p0.toNatClampNeg), .long (L10 59 81)]) (st := []) dX13_least_62 hy_X13_divisor wg_2076 wg_2077 (Nat.le_refl _) (Nat.le_of_ble_eq_true rfl) (RM0.mono h (fun vv I14 L15 h => ?_))
        obtain ⟨r16, rfl, h⟩ := h
        change Z n0 xX13_least (d + 1) 0 0 65 [(0, .ref (n0 + 59)), (1, .int p0), (2, .int p1)] [.long r16] K I14 L15 (z_q0 K Q)
        refine z_lstore_n [1, 2, 3, 0] [(0, .ref (n0 + 59)), (1, .int p0), (2, .int p1), (3, .long r16)] dX13_least_65 (by decide) rfl ?_
        refine z_iload_n 2 dX13_least_66 rfl ?_
        obtain ⟨o18, o19, h⟩ := h
        have key20 : Z n0 xX13_least (d + 1) 0 0 87 [] [.long (if p1 = 0 then ((L15 112 p0.toNatClampNeg) / r16) else ((L15 59 81) / r16))] K I14 L15 (z_q0 K Q) := by
          exact z_lret dX13_least_87 rfl ⟨rfl, h⟩
        refine z_if_ne 81 dX13_least_67 (by decide) (fun g17 => ?_) (fun g17 => ?_)
        · refine z_aload_n 0 dX13_least_81 rfl ?_
          refine fg_13_537 (L15 59 81) rfl dX13_least_82 hL.1 hL.2.1 rfl ?_
          refine z_lload_n 3 dX13_least_85 rfl ?_
          refine z_ldiv dX13_least_86 (o18 g17) ?_
          have ee : ((if p1 = 0 then ((L15 112 p0.toNatClampNeg) / r16) else ((L15 59 81) / r16)) : Int64) = ((L15 59 81) / r16) := by rw [if_neg g17]
          rw [ee] at key20
          clear ee
          refine z_sub [] rfl ?_
          exact key20
        · refine z_aload_n 0 dX13_least_70 rfl ?_
          refine fg_13_168 (some 112) rfl dX13_least_71 hL.1 hL.2.1 (ma_80 hL).1 ?_
          refine z_iload_n 1 dX13_least_74 rfl ?_
          refine z_lald (L15 112 p0.toNatClampNeg) dX13_least_75 (ma_80 hL).2.1 (ma_80 hL).2.2 o13 rfl ?_
          refine z_lload_n 3 dX13_least_76 rfl ?_
          refine z_ldiv dX13_least_77 (o19 g17) ?_
          refine z_goto 87 dX13_least_78 (by decide) ?_
          have ee : ((if p1 = 0 then ((L15 112 p0.toNatClampNeg) / r16) else ((L15 59 81) / r16)) : Int64) = ((L15 112 p0.toNatClampNeg) / r16) := by rw [if_pos g17]
          rw [ee] at key20
          clear ee
          refine z_sub [] rfl ?_
          exact key20
      · rw [if_pos g12] at h
        refine z_aload_n 0 dX13_least_44 rfl ?_
        refine z_bipush (-3) dX13_least_45 (by decide) ?_
        refine z_callV0 (As := [.int (-3)]) (st := []) dX13_least_47 hy_X13_refuseFar hL.1 hL.2.1 (by decide) wg_1820 wg_1822 wg_57 (Nat.le_refl _) (Nat.le_of_ble_eq_true rfl) (RM0.mono h (fun vv I21 L22 h => ?_))
        obtain ⟨r23, rfl, h⟩ := h
        change Z n0 xX13_least (d + 1) 0 0 50 [(0, .ref (n0 + 59)), (1, .int p0), (2, .int p1)] [.int r23] K I21 L22 (z_q0 K Q)
        refine z_i2l dX13_least_50 ?_
        exact z_lret dX13_least_51 rfl ⟨rfl, h⟩
    · rw [if_pos g8] at h
      refine z_aload_n 0 dX13_least_29 rfl ?_
      refine z_bipush (-2) dX13_least_30 (by decide) ?_
      refine z_callV0 (As := [.int (-2)]) (st := []) dX13_least_32 hy_X13_refuseFar hL.1 hL.2.1 (by decide) wg_1820 wg_1822 wg_57 (Nat.le_refl _) (Nat.le_of_ble_eq_true rfl) (RM0.mono h (fun vv I24 L25 h => ?_))
      obtain ⟨r26, rfl, h⟩ := h
      change Z n0 xX13_least (d + 1) 0 0 35 [(0, .ref (n0 + 59)), (1, .int p0), (2, .int p1)] [.int r26] K I24 L25 (z_q0 K Q)
      refine z_i2l dX13_least_35 ?_
      exact z_lret dX13_least_36 rfl ⟨rfl, h⟩
  · rw [if_pos g4] at h
    refine z_aload_n 0 dX13_least_12 rfl ?_
    refine z_iconst (-1) dX13_least_13 (by decide) ?_
    refine z_callV0 (As := [.int (-1)]) (st := []) dX13_least_14 hy_X13_refuseFar hL.1 hL.2.1 (by decide) wg_1820 wg_1822 wg_57 (Nat.le_refl _) (Nat.le_of_ble_eq_true rfl) (RM0.mono h (fun vv I27 L28 h => ?_))
    obtain ⟨r29, rfl, h⟩ := h
    change Z n0 xX13_least (d + 1) 0 0 17 [(0, .ref (n0 + 59)), (1, .int p0), (2, .int p1)] [.int r29] K I27 L28 (z_q0 K Q)
    refine z_i2l dX13_least_17 ?_
    exact z_lret dX13_least_18 rfl ⟨rfl, h⟩
theorem dX13_cloth_0 : decode cX13_cloth 0 = .ok (.iload_n 1, 1) := by decide +kernel
theorem dX13_cloth_1 : decode cX13_cloth 1 = .ok (.i2l, 1) := by decide +kernel
theorem dX13_cloth_2 : decode cX13_cloth 2 = .ok (.lconst 0, 1) := by decide +kernel
theorem dX13_cloth_3 : decode cX13_cloth 3 = .ok (.ldc2_w 544, 3) := by decide +kernel
theorem dX13_cloth_6 : decode cX13_cloth 6 = .ok (.invokestatic 291, 3) := by decide +kernel
theorem dX13_cloth_9 : decode cX13_cloth 9 = .ok (.ifCond .ne 10, 3) := by decide +kernel
theorem dX13_cloth_12 : decode cX13_cloth 12 = .ok (.aload_n 0, 1) := by decide +kernel
theorem dX13_cloth_13 : decode cX13_cloth 13 = .ok (.bipush (-2), 2) := by decide +kernel
theorem dX13_cloth_15 : decode cX13_cloth 15 = .ok (.invokevirtual 308, 3) := by decide +kernel
theorem dX13_cloth_18 : decode cX13_cloth 18 = .ok (.ireturn, 1) := by decide +kernel
theorem dX13_cloth_19 : decode cX13_cloth 19 = .ok (.iload_n 2, 1) := by decide +kernel
theorem dX13_cloth_20 : decode cX13_cloth 20 = .ok (.iload_n 1, 1) := by decide +kernel
theorem dX13_cloth_21 : decode cX13_cloth 21 = .ok (.iconst 2, 1) := by decide +kernel
theorem dX13_cloth_22 : decode cX13_cloth 22 = .ok (.if_icmp .ge 7, 3) := by decide +kernel
theorem dX13_cloth_25 : decode cX13_cloth 25 = .ok (.iconst 1, 1) := by decide +kernel
theorem dX13_cloth_26 : decode cX13_cloth 26 = .ok (.goto 4, 3) := by decide +kernel
theorem dX13_cloth_29 : decode cX13_cloth 29 = .ok (.iconst 0, 1) := by decide +kernel
theorem dX13_cloth_30 : decode cX13_cloth 30 = .ok (.if_icmp .ge 10, 3) := by decide +kernel
theorem dX13_cloth_33 : decode cX13_cloth 33 = .ok (.aload_n 0, 1) := by decide +kernel
theorem dX13_cloth_34 : decode cX13_cloth 34 = .ok (.bipush (-4), 2) := by decide +kernel
theorem dX13_cloth_36 : decode cX13_cloth 36 = .ok (.invokevirtual 308, 3) := by decide +kernel
theorem dX13_cloth_39 : decode cX13_cloth 39 = .ok (.ireturn, 1) := by decide +kernel
theorem dX13_cloth_40 : decode cX13_cloth 40 = .ok (.iload_n 2, 1) := by decide +kernel
theorem dX13_cloth_41 : decode cX13_cloth 41 = .ok (.iload_n 1, 1) := by decide +kernel
theorem dX13_cloth_42 : decode cX13_cloth 42 = .ok (.ifCond .ne 8, 3) := by decide +kernel
theorem dX13_cloth_45 : decode cX13_cloth 45 = .ok (.bipush 24, 2) := by decide +kernel
theorem dX13_cloth_47 : decode cX13_cloth 47 = .ok (.goto 35, 3) := by decide +kernel
theorem dX13_cloth_50 : decode cX13_cloth 50 = .ok (.iload_n 1, 1) := by decide +kernel
theorem dX13_cloth_51 : decode cX13_cloth 51 = .ok (.iconst 1, 1) := by decide +kernel
theorem dX13_cloth_52 : decode cX13_cloth 52 = .ok (.if_icmp .ne 9, 3) := by decide +kernel
theorem dX13_cloth_55 : decode cX13_cloth 55 = .ok (.sipush 500, 3) := by decide +kernel
theorem dX13_cloth_58 : decode cX13_cloth 58 = .ok (.goto 24, 3) := by decide +kernel
theorem dX13_cloth_61 : decode cX13_cloth 61 = .ok (.iload_n 1, 1) := by decide +kernel
theorem dX13_cloth_62 : decode cX13_cloth 62 = .ok (.iconst 2, 1) := by decide +kernel
theorem dX13_cloth_63 : decode cX13_cloth 63 = .ok (.if_icmp .ne 7, 3) := by decide +kernel
theorem dX13_cloth_66 : decode cX13_cloth 66 = .ok (.iconst 1, 1) := by decide +kernel
theorem dX13_cloth_67 : decode cX13_cloth 67 = .ok (.goto 15, 3) := by decide +kernel
theorem dX13_cloth_70 : decode cX13_cloth 70 = .ok (.iload_n 1, 1) := by decide +kernel
theorem dX13_cloth_71 : decode cX13_cloth 71 = .ok (.iconst 3, 1) := by decide +kernel
theorem dX13_cloth_72 : decode cX13_cloth 72 = .ok (.if_icmp .ne 8, 3) := by decide +kernel
theorem dX13_cloth_75 : decode cX13_cloth 75 = .ok (.bipush 12, 2) := by decide +kernel
theorem dX13_cloth_77 : decode cX13_cloth 77 = .ok (.goto 5, 3) := by decide +kernel
theorem dX13_cloth_80 : decode cX13_cloth 80 = .ok (.bipush 50, 2) := by decide +kernel
theorem dX13_cloth_82 : decode cX13_cloth 82 = .ok (.if_icmp .le 10, 3) := by decide +kernel
theorem dX13_cloth_85 : decode cX13_cloth 85 = .ok (.aload_n 0, 1) := by decide +kernel
theorem dX13_cloth_86 : decode cX13_cloth 86 = .ok (.bipush (-6), 2) := by decide +kernel
theorem dX13_cloth_88 : decode cX13_cloth 88 = .ok (.invokevirtual 308, 3) := by decide +kernel
theorem dX13_cloth_91 : decode cX13_cloth 91 = .ok (.ireturn, 1) := by decide +kernel
theorem dX13_cloth_92 : decode cX13_cloth 92 = .ok (.aload_n 0, 1) := by decide +kernel
theorem dX13_cloth_93 : decode cX13_cloth 93 = .ok (.getfield 171, 3) := by decide +kernel
theorem dX13_cloth_96 : decode cX13_cloth 96 = .ok (.iload_n 1, 1) := by decide +kernel
theorem dX13_cloth_97 : decode cX13_cloth 97 = .ok (.iaload, 1) := by decide +kernel
theorem dX13_cloth_98 : decode cX13_cloth 98 = .ok (.istore_n 3, 1) := by decide +kernel
theorem dX13_cloth_99 : decode cX13_cloth 99 = .ok (.aload_n 0, 1) := by decide +kernel
theorem dX13_cloth_100 : decode cX13_cloth 100 = .ok (.getfield 171, 3) := by decide +kernel
theorem dX13_cloth_103 : decode cX13_cloth 103 = .ok (.iload_n 1, 1) := by decide +kernel
theorem dX13_cloth_104 : decode cX13_cloth 104 = .ok (.iload_n 2, 1) := by decide +kernel
theorem dX13_cloth_105 : decode cX13_cloth 105 = .ok (.iastore, 1) := by decide +kernel
theorem dX13_cloth_106 : decode cX13_cloth 106 = .ok (.iload_n 3, 1) := by decide +kernel
theorem dX13_cloth_107 : decode cX13_cloth 107 = .ok (.ireturn, 1) := by decide +kernel
set_option maxRecDepth 100000 in
set_option maxHeartbeats 4000000 in
theorem wp_X13_cloth {n0 d : Nat} {K : z_K} {I : z_I} {L : z_L} {Q : z_q} {p0 : Int32} {p1 : Int32} (hL : MLay K) (h : RM0 n0 xX13_in d [.long p0.toInt64, .long 0, .long 5] K I L (fun vv I1 L2 => ∃ r3 : Int32, vv = some (.int r3) ∧ (if r3 = 0 then RM0 n0 xX13_refuse d [.ref (n0 + 59), .int (-2)] K I1 L2 (fun vv I21 L22 => ∃ r23 : Int32, vv = some (.int r23) ∧ Q (some (.int r23)) I21 L22) else (if p1 < (if p0 < 2 then 1 else 0) then RM0 n0 xX13_refuse d [.ref (n0 + 59), .int (-4)] K I1 L2 (fun vv I18 L19 => ∃ r20 : Int32, vv = some (.int r20) ∧ Q (some (.int r20)) I18 L19) else (if (if p0 = 0 then 24 else if p0 = 1 then 500 else if p0 = 2 then 1 else if p0 = 3 then 12 else 50) < p1 then RM0 n0 xX13_refuse d [.ref (n0 + 59), .int (-6)] K I1 L2 (fun vv I15 L16 => ∃ r17 : Int32, vv = some (.int r17) ∧ Q (some (.int r17)) I15 L16) else vp_in p0 6 ∧ Q (some (.int (I1 113 p0.toNatClampNeg))) (zI I1 113 p0.toNatClampNeg p1) L2))))) : RM0 n0 xX13_cloth (d + 1) [.ref (n0 + 59), .int p0, .int p1] K I L Q := by
  refine z_entry0 (by decide) (Nat.le_of_ble_eq_true rfl) ?_
  change Z n0 xX13_cloth (d + 1) 0 0 0 [(0, .ref (n0 + 59)), (1, .int p0), (2, .int p1)] [] K I L (z_q0 K Q)
  refine z_iload_n 1 dX13_cloth_0 rfl ?_
  refine z_i2l dX13_cloth_1 ?_
  refine z_lconst 0 dX13_cloth_2 (by decide) ?_
  refine z_ldc2_w 5 dX13_cloth_3 wg_2063 ?_
  refine z_callS0 (As := [.long p0.toInt64, .long 0, .long 5]) (st := []) dX13_cloth_6 hy_X13_in wg_1790 wg_1791 (Nat.le_refl _) (Nat.le_of_ble_eq_true rfl) (RM0.mono h (fun vv I1 L2 h => ?_))
  obtain ⟨r3, rfl, h⟩ := h
  change Z n0 xX13_cloth (d + 1) 0 0 9 [(0, .ref (n0 + 59)), (1, .int p0), (2, .int p1)] [.int r3] K I1 L2 (z_q0 K Q)
  refine z_if_ne 19 dX13_cloth_9 (by decide) (fun g4 => ?_) (fun g4 => ?_)
  · rw [if_neg g4] at h
    refine z_iload_n 2 dX13_cloth_19 rfl ?_
    refine z_iload_n 1 dX13_cloth_20 rfl ?_
    refine z_iconst 2 dX13_cloth_21 (by decide) ?_
    have key6 : Z n0 xX13_cloth (d + 1) 0 0 30 [(0, .ref (n0 + 59)), (1, .int p0), (2, .int p1)] [.int (if p0 < 2 then 1 else 0), .int p1] K I1 L2 (z_q0 K Q) := by
      refine z_icmp_ge 40 dX13_cloth_30 (by decide) (fun g7 => ?_) (fun g7 => ?_)
      · rw [if_neg g7] at h
        refine z_iload_n 2 dX13_cloth_40 rfl ?_
        refine z_iload_n 1 dX13_cloth_41 rfl ?_
        have key12 : Z n0 xX13_cloth (d + 1) 0 0 82 [(0, .ref (n0 + 59)), (1, .int p0), (2, .int p1)] [.int (if p0 = 0 then 24 else if p0 = 1 then 500 else if p0 = 2 then 1 else if p0 = 3 then 12 else 50), .int p1] K I1 L2 (z_q0 K Q) := by
          refine z_icmp_le 92 dX13_cloth_82 (by decide) (fun g13 => ?_) (fun g13 => ?_)
          · rw [if_neg g13] at h
            refine z_aload_n 0 dX13_cloth_92 rfl ?_
            refine fg_13_171 (some 113) rfl dX13_cloth_93 hL.1 hL.2.1 (ma_82 hL).1 ?_
            refine z_iload_n 1 dX13_cloth_96 rfl ?_
            obtain ⟨o14, h⟩ := h
            refine z_iald (I1 113 p0.toNatClampNeg) dX13_cloth_97 (ma_82 hL).2.1 (ma_82 hL).2.2 o14 rfl ?_
            refine z_istore_n [1, 2, 3, 0] [(0, .ref (n0 + 59)), (1, .int p0), (2, .int p1), (3, .int (I1 113 p0.toNatClampNeg))] dX13_cloth_98 (by decide) rfl ?_
            refine z_aload_n 0 dX13_cloth_99 rfl ?_
            refine fg_13_171 (some 113) rfl dX13_cloth_100 hL.1 hL.2.1 (ma_82 hL).1 ?_
            refine z_iload_n 1 dX13_cloth_103 rfl ?_
            refine z_iload_n 2 dX13_cloth_104 rfl ?_
            refine z_iast dX13_cloth_105 (ma_82 hL).2.1 (ma_82 hL).2.2 o14 ?_
            refine z_iload_n 3 dX13_cloth_106 rfl ?_
            exact z_iret dX13_cloth_107 rfl ⟨rfl, h⟩
          · rw [if_pos g13] at h
            refine z_aload_n 0 dX13_cloth_85 rfl ?_
            refine z_bipush (-6) dX13_cloth_86 (by decide) ?_
            refine z_callV0 (As := [.int (-6)]) (st := []) dX13_cloth_88 hy_X13_refuse hL.1 hL.2.1 (by decide) wg_1778 wg_1780 wg_54 (Nat.le_refl _) (Nat.le_of_ble_eq_true rfl) (RM0.mono h (fun vv I15 L16 h => ?_))
            obtain ⟨r17, rfl, h⟩ := h
            change Z n0 xX13_cloth (d + 1) 0 0 91 [(0, .ref (n0 + 59)), (1, .int p0), (2, .int p1)] [.int r17] K I15 L16 (z_q0 K Q)
            exact z_iret dX13_cloth_91 rfl ⟨rfl, h⟩
        refine z_if_ne 50 dX13_cloth_42 (by decide) (fun g8 => ?_) (fun g8 => ?_)
        · refine z_iload_n 1 dX13_cloth_50 rfl ?_
          refine z_iconst 1 dX13_cloth_51 (by decide) ?_
          refine z_icmp_ne 61 dX13_cloth_52 (by decide) (fun g9 => ?_) (fun g9 => ?_)
          · refine z_iload_n 1 dX13_cloth_61 rfl ?_
            refine z_iconst 2 dX13_cloth_62 (by decide) ?_
            refine z_icmp_ne 70 dX13_cloth_63 (by decide) (fun g10 => ?_) (fun g10 => ?_)
            · refine z_iload_n 1 dX13_cloth_70 rfl ?_
              refine z_iconst 3 dX13_cloth_71 (by decide) ?_
              refine z_icmp_ne 80 dX13_cloth_72 (by decide) (fun g11 => ?_) (fun g11 => ?_)
              · refine z_bipush 50 dX13_cloth_80 (by decide) ?_
                have ee : ((if p0 = 0 then 24 else if p0 = 1 then 500 else if p0 = 2 then 1 else if p0 = 3 then 12 else 50) : Int32) = 50 := by rw [if_neg g8, if_neg g9, if_neg g10, if_neg g11]
                rw [ee] at key12
                clear ee
                exact key12
              · refine z_bipush 12 dX13_cloth_75 (by decide) ?_
                refine z_goto 82 dX13_cloth_77 (by decide) ?_
                have ee : ((if p0 = 0 then 24 else if p0 = 1 then 500 else if p0 = 2 then 1 else if p0 = 3 then 12 else 50) : Int32) = 12 := by rw [if_neg g8, if_neg g9, if_neg g10, if_pos g11]
                rw [ee] at key12
                clear ee
                exact key12
            · refine z_iconst 1 dX13_cloth_66 (by decide) ?_
              refine z_goto 82 dX13_cloth_67 (by decide) ?_
              have ee : ((if p0 = 0 then 24 else if p0 = 1 then 500 else if p0 = 2 then 1 else if p0 = 3 then 12 else 50) : Int32) = 1 := by rw [if_neg g8, if_neg g9, if_pos g10]
              rw [ee] at key12
              clear ee
              exact key12
          · refine z_sipush 500 dX13_cloth_55 (by decide) ?_
            refine z_goto 82 dX13_cloth_58 (by decide) ?_
            have ee : ((if p0 = 0 then 24 else if p0 = 1 then 500 else if p0 = 2 then 1 else if p0 = 3 then 12 else 50) : Int32) = 500 := by rw [if_neg g8, if_pos g9]
            rw [ee] at key12
            clear ee
            exact key12
        · refine z_bipush 24 dX13_cloth_45 (by decide) ?_
          refine z_goto 82 dX13_cloth_47 (by decide) ?_
          have ee : ((if p0 = 0 then 24 else if p0 = 1 then 500 else if p0 = 2 then 1 else if p0 = 3 then 12 else 50) : Int32) = 24 := by rw [if_pos g8]
          rw [ee] at key12
          clear ee
          exact key12
      · rw [if_pos g7] at h
        refine z_aload_n 0 dX13_cloth_33 rfl ?_
        refine z_bipush (-4) dX13_cloth_34 (by decide) ?_
        refine z_callV0 (As := [.int (-4)]) (st := []) dX13_cloth_36 hy_X13_refuse hL.1 hL.2.1 (by decide) wg_1778 wg_1780 wg_54 (Nat.le_refl _) (Nat.le_of_ble_eq_true rfl) (RM0.mono h (fun vv I18 L19 h => ?_))
        obtain ⟨r20, rfl, h⟩ := h
        change Z n0 xX13_cloth (d + 1) 0 0 39 [(0, .ref (n0 + 59)), (1, .int p0), (2, .int p1)] [.int r20] K I18 L19 (z_q0 K Q)
        exact z_iret dX13_cloth_39 rfl ⟨rfl, h⟩
    refine z_icmp_ge 29 dX13_cloth_22 (by decide) (fun g5 => ?_) (fun g5 => ?_)
    · refine z_iconst 0 dX13_cloth_29 (by decide) ?_
      have ee : ((if p0 < 2 then 1 else 0) : Int32) = 0 := by rw [if_neg g5]
      rw [ee] at key6
      clear ee
      exact key6
    · refine z_iconst 1 dX13_cloth_25 (by decide) ?_
      refine z_goto 30 dX13_cloth_26 (by decide) ?_
      have ee : ((if p0 < 2 then 1 else 0) : Int32) = 1 := by rw [if_pos g5]
      rw [ee] at key6
      clear ee
      exact key6
  · rw [if_pos g4] at h
    refine z_aload_n 0 dX13_cloth_12 rfl ?_
    refine z_bipush (-2) dX13_cloth_13 (by decide) ?_
    refine z_callV0 (As := [.int (-2)]) (st := []) dX13_cloth_15 hy_X13_refuse hL.1 hL.2.1 (by decide) wg_1778 wg_1780 wg_54 (Nat.le_refl _) (Nat.le_of_ble_eq_true rfl) (RM0.mono h (fun vv I21 L22 h => ?_))
    obtain ⟨r23, rfl, h⟩ := h
    change Z n0 xX13_cloth (d + 1) 0 0 18 [(0, .ref (n0 + 59)), (1, .int p0), (2, .int p1)] [.int r23] K I21 L22 (z_q0 K Q)
    exact z_iret dX13_cloth_18 rfl ⟨rfl, h⟩
theorem dX13_crosses_0 : decode cX13_crosses 0 = .ok (.lload_n 2, 1) := by decide +kernel
theorem dX13_crosses_1 : decode cX13_crosses 1 = .ok (.lload 10, 2) := by decide +kernel
theorem dX13_crosses_3 : decode cX13_crosses 3 = .ok (.lcmp, 1) := by decide +kernel
theorem dX13_crosses_4 : decode cX13_crosses 4 = .ok (.ifCond .le 7, 3) := by decide +kernel
theorem dX13_crosses_7 : decode cX13_crosses 7 = .ok (.iconst 1, 1) := by decide +kernel
theorem dX13_crosses_8 : decode cX13_crosses 8 = .ok (.goto 4, 3) := by decide +kernel
theorem dX13_crosses_11 : decode cX13_crosses 11 = .ok (.iconst 0, 1) := by decide +kernel
theorem dX13_crosses_12 : decode cX13_crosses 12 = .ok (.lload 6, 2) := by decide +kernel
theorem dX13_crosses_14 : decode cX13_crosses 14 = .ok (.lload 10, 2) := by decide +kernel
theorem dX13_crosses_16 : decode cX13_crosses 16 = .ok (.lcmp, 1) := by decide +kernel
theorem dX13_crosses_17 : decode cX13_crosses 17 = .ok (.ifCond .le 7, 3) := by decide +kernel
theorem dX13_crosses_20 : decode cX13_crosses 20 = .ok (.iconst 1, 1) := by decide +kernel
theorem dX13_crosses_21 : decode cX13_crosses 21 = .ok (.goto 4, 3) := by decide +kernel
theorem dX13_crosses_24 : decode cX13_crosses 24 = .ok (.iconst 0, 1) := by decide +kernel
theorem dX13_crosses_25 : decode cX13_crosses 25 = .ok (.if_icmp .ne 5, 3) := by decide +kernel
theorem dX13_crosses_28 : decode cX13_crosses 28 = .ok (.iconst 0, 1) := by decide +kernel
theorem dX13_crosses_29 : decode cX13_crosses 29 = .ok (.ireturn, 1) := by decide +kernel
theorem dX13_crosses_30 : decode cX13_crosses 30 = .ok (.lload 10, 2) := by decide +kernel
theorem dX13_crosses_32 : decode cX13_crosses 32 = .ok (.lload_n 2, 1) := by decide +kernel
theorem dX13_crosses_33 : decode cX13_crosses 33 = .ok (.lsub, 1) := by decide +kernel
theorem dX13_crosses_34 : decode cX13_crosses 34 = .ok (.lload 4, 2) := by decide +kernel
theorem dX13_crosses_36 : decode cX13_crosses 36 = .ok (.lload_n 0, 1) := by decide +kernel
theorem dX13_crosses_37 : decode cX13_crosses 37 = .ok (.lsub, 1) := by decide +kernel
theorem dX13_crosses_38 : decode cX13_crosses 38 = .ok (.lmul, 1) := by decide +kernel
theorem dX13_crosses_39 : decode cX13_crosses 39 = .ok (.lload 8, 2) := by decide +kernel
theorem dX13_crosses_41 : decode cX13_crosses 41 = .ok (.lload_n 0, 1) := by decide +kernel
theorem dX13_crosses_42 : decode cX13_crosses 42 = .ok (.lsub, 1) := by decide +kernel
theorem dX13_crosses_43 : decode cX13_crosses 43 = .ok (.lload 6, 2) := by decide +kernel
theorem dX13_crosses_45 : decode cX13_crosses 45 = .ok (.lload_n 2, 1) := by decide +kernel
theorem dX13_crosses_46 : decode cX13_crosses 46 = .ok (.lsub, 1) := by decide +kernel
theorem dX13_crosses_47 : decode cX13_crosses 47 = .ok (.lmul, 1) := by decide +kernel
theorem dX13_crosses_48 : decode cX13_crosses 48 = .ok (.lsub, 1) := by decide +kernel
theorem dX13_crosses_49 : decode cX13_crosses 49 = .ok (.lstore 12, 2) := by decide +kernel
theorem dX13_crosses_51 : decode cX13_crosses 51 = .ok (.lload 6, 2) := by decide +kernel
theorem dX13_crosses_53 : decode cX13_crosses 53 = .ok (.lload_n 2, 1) := by decide +kernel
theorem dX13_crosses_54 : decode cX13_crosses 54 = .ok (.lcmp, 1) := by decide +kernel
theorem dX13_crosses_55 : decode cX13_crosses 55 = .ok (.ifCond .le 18, 3) := by decide +kernel
theorem dX13_crosses_58 : decode cX13_crosses 58 = .ok (.lload 12, 2) := by decide +kernel
theorem dX13_crosses_60 : decode cX13_crosses 60 = .ok (.lconst 0, 1) := by decide +kernel
theorem dX13_crosses_61 : decode cX13_crosses 61 = .ok (.lcmp, 1) := by decide +kernel
theorem dX13_crosses_62 : decode cX13_crosses 62 = .ok (.ifCond .le 7, 3) := by decide +kernel
theorem dX13_crosses_65 : decode cX13_crosses 65 = .ok (.iconst 1, 1) := by decide +kernel
theorem dX13_crosses_66 : decode cX13_crosses 66 = .ok (.goto 19, 3) := by decide +kernel
theorem dX13_crosses_69 : decode cX13_crosses 69 = .ok (.iconst 0, 1) := by decide +kernel
theorem dX13_crosses_70 : decode cX13_crosses 70 = .ok (.goto 15, 3) := by decide +kernel
theorem dX13_crosses_73 : decode cX13_crosses 73 = .ok (.lload 12, 2) := by decide +kernel
theorem dX13_crosses_75 : decode cX13_crosses 75 = .ok (.lconst 0, 1) := by decide +kernel
theorem dX13_crosses_76 : decode cX13_crosses 76 = .ok (.lcmp, 1) := by decide +kernel
theorem dX13_crosses_77 : decode cX13_crosses 77 = .ok (.ifCond .ge 7, 3) := by decide +kernel
theorem dX13_crosses_80 : decode cX13_crosses 80 = .ok (.iconst 1, 1) := by decide +kernel
theorem dX13_crosses_81 : decode cX13_crosses 81 = .ok (.goto 4, 3) := by decide +kernel
theorem dX13_crosses_84 : decode cX13_crosses 84 = .ok (.iconst 0, 1) := by decide +kernel
theorem dX13_crosses_85 : decode cX13_crosses 85 = .ok (.ireturn, 1) := by decide +kernel
set_option maxRecDepth 100000 in
set_option maxHeartbeats 4000000 in
theorem wp_X13_crosses {n0 d : Nat} {K : z_K} {I : z_I} {L : z_L} {Q : z_q} {p0 : Int64} {p1 : Int64} {p2 : Int64} {p3 : Int64} {p4 : Int64} {p5 : Int64} (hL : MLay K) (h : (if p5 < p1 then (if p5 < p3 then Q (some (.int 0)) I L else (if p1 < p3 then (if 0 < ((((p5 - p1) * (p2 - p0)) - ((p4 - p0) * (p3 - p1))) : Int64) then Q (some (.int 1)) I L else Q (some (.int 0)) I L) else (if ((((p5 - p1) * (p2 - p0)) - ((p4 - p0) * (p3 - p1))) : Int64) < 0 then Q (some (.int 1)) I L else Q (some (.int 0)) I L))) else (if p5 < p3 then (if p1 < p3 then (if 0 < ((((p5 - p1) * (p2 - p0)) - ((p4 - p0) * (p3 - p1))) : Int64) then Q (some (.int 1)) I L else Q (some (.int 0)) I L) else (if ((((p5 - p1) * (p2 - p0)) - ((p4 - p0) * (p3 - p1))) : Int64) < 0 then Q (some (.int 1)) I L else Q (some (.int 0)) I L)) else Q (some (.int 0)) I L))) : RM0 n0 xX13_crosses d [.long p0, .long p1, .long p2, .long p3, .long p4, .long p5] K I L Q := by
  refine z_entry0 (by decide) (Nat.le_of_ble_eq_true rfl) ?_
  change Z n0 xX13_crosses d 0 0 0 [(0, .long p0), (2, .long p1), (4, .long p2), (6, .long p3), (8, .long p4), (10, .long p5)] [] K I L (z_q0 K Q)
  refine z_lload_n 1 dX13_crosses_0 rfl ?_
  refine z_lload 5 dX13_crosses_1 rfl ?_
  refine z_lif_le 11 dX13_crosses_3 dX13_crosses_4 (by decide) (fun g1 => ?_) (fun g1 => ?_)
  · rw [if_neg g1] at h
    refine z_iconst 0 dX13_crosses_11 (by decide) ?_
    refine z_lload 3 dX13_crosses_12 rfl ?_
    refine z_lload 5 dX13_crosses_14 rfl ?_
    refine z_lif_le 24 dX13_crosses_16 dX13_crosses_17 (by decide) (fun g2 => ?_) (fun g2 => ?_)
    · rw [if_neg g2] at h
      refine z_iconst 0 dX13_crosses_24 (by decide) ?_
      refine z_icmp_ne 30 dX13_crosses_25 (by decide) (fun q => absurd q (by decide)) (fun _ => ?_)
      refine z_iconst 0 dX13_crosses_28 (by decide) ?_
      exact z_zretb dX13_crosses_29 rfl (Or.inl rfl) ⟨rfl, h⟩
    · rw [if_pos g2] at h
      refine z_iconst 1 dX13_crosses_20 (by decide) ?_
      refine z_goto 25 dX13_crosses_21 (by decide) ?_
      refine z_icmp_ne 30 dX13_crosses_25 (by decide) (fun _ => ?_) (fun q => absurd q (by decide))
      refine z_lload 5 dX13_crosses_30 rfl ?_
      refine z_lload_n 1 dX13_crosses_32 rfl ?_
      refine z_lsub dX13_crosses_33 ?_
      refine z_lload 2 dX13_crosses_34 rfl ?_
      refine z_lload_n 0 dX13_crosses_36 rfl ?_
      refine z_lsub dX13_crosses_37 ?_
      refine z_lmul dX13_crosses_38 ?_
      refine z_lload 4 dX13_crosses_39 rfl ?_
      refine z_lload_n 0 dX13_crosses_41 rfl ?_
      refine z_lsub dX13_crosses_42 ?_
      refine z_lload 3 dX13_crosses_43 rfl ?_
      refine z_lload_n 1 dX13_crosses_45 rfl ?_
      refine z_lsub dX13_crosses_46 ?_
      refine z_lmul dX13_crosses_47 ?_
      refine z_lsub dX13_crosses_48 ?_
      refine z_lstore [1, 2, 3, 4, 5, 6, 0] [(0, .long p0), (2, .long p1), (4, .long p2), (6, .long p3), (8, .long p4), (10, .long p5), (12, .long (((p5 - p1) * (p2 - p0)) - ((p4 - p0) * (p3 - p1))))] dX13_crosses_49 (by decide) rfl ?_
      refine z_lload 3 dX13_crosses_51 rfl ?_
      refine z_lload_n 1 dX13_crosses_53 rfl ?_
      refine z_lif_le 73 dX13_crosses_54 dX13_crosses_55 (by decide) (fun g3 => ?_) (fun g3 => ?_)
      · rw [if_neg g3] at h
        refine z_lload 6 dX13_crosses_73 rfl ?_
        refine z_lconst 0 dX13_crosses_75 (by decide) ?_
        refine z_lif_ge 84 dX13_crosses_76 dX13_crosses_77 (by decide) (fun g4 => ?_) (fun g4 => ?_)
        · rw [if_neg g4] at h
          refine z_iconst 0 dX13_crosses_84 (by decide) ?_
          exact z_zretb dX13_crosses_85 rfl (Or.inl rfl) ⟨rfl, h⟩
        · rw [if_pos g4] at h
          refine z_iconst 1 dX13_crosses_80 (by decide) ?_
          refine z_goto 85 dX13_crosses_81 (by decide) ?_
          exact z_zretb dX13_crosses_85 rfl (Or.inr rfl) ⟨rfl, h⟩
      · rw [if_pos g3] at h
        refine z_lload 6 dX13_crosses_58 rfl ?_
        refine z_lconst 0 dX13_crosses_60 (by decide) ?_
        refine z_lif_le 69 dX13_crosses_61 dX13_crosses_62 (by decide) (fun g5 => ?_) (fun g5 => ?_)
        · rw [if_neg g5] at h
          refine z_iconst 0 dX13_crosses_69 (by decide) ?_
          refine z_goto 85 dX13_crosses_70 (by decide) ?_
          exact z_zretb dX13_crosses_85 rfl (Or.inl rfl) ⟨rfl, h⟩
        · rw [if_pos g5] at h
          refine z_iconst 1 dX13_crosses_65 (by decide) ?_
          refine z_goto 85 dX13_crosses_66 (by decide) ?_
          exact z_zretb dX13_crosses_85 rfl (Or.inr rfl) ⟨rfl, h⟩
  · rw [if_pos g1] at h
    refine z_iconst 1 dX13_crosses_7 (by decide) ?_
    refine z_goto 12 dX13_crosses_8 (by decide) ?_
    refine z_lload 3 dX13_crosses_12 rfl ?_
    refine z_lload 5 dX13_crosses_14 rfl ?_
    refine z_lif_le 24 dX13_crosses_16 dX13_crosses_17 (by decide) (fun g6 => ?_) (fun g6 => ?_)
    · rw [if_neg g6] at h
      refine z_iconst 0 dX13_crosses_24 (by decide) ?_
      refine z_icmp_ne 30 dX13_crosses_25 (by decide) (fun _ => ?_) (fun q => absurd q (by decide))
      refine z_lload 5 dX13_crosses_30 rfl ?_
      refine z_lload_n 1 dX13_crosses_32 rfl ?_
      refine z_lsub dX13_crosses_33 ?_
      refine z_lload 2 dX13_crosses_34 rfl ?_
      refine z_lload_n 0 dX13_crosses_36 rfl ?_
      refine z_lsub dX13_crosses_37 ?_
      refine z_lmul dX13_crosses_38 ?_
      refine z_lload 4 dX13_crosses_39 rfl ?_
      refine z_lload_n 0 dX13_crosses_41 rfl ?_
      refine z_lsub dX13_crosses_42 ?_
      refine z_lload 3 dX13_crosses_43 rfl ?_
      refine z_lload_n 1 dX13_crosses_45 rfl ?_
      refine z_lsub dX13_crosses_46 ?_
      refine z_lmul dX13_crosses_47 ?_
      refine z_lsub dX13_crosses_48 ?_
      refine z_lstore [1, 2, 3, 4, 5, 6, 0] [(0, .long p0), (2, .long p1), (4, .long p2), (6, .long p3), (8, .long p4), (10, .long p5), (12, .long (((p5 - p1) * (p2 - p0)) - ((p4 - p0) * (p3 - p1))))] dX13_crosses_49 (by decide) rfl ?_
      refine z_lload 3 dX13_crosses_51 rfl ?_
      refine z_lload_n 1 dX13_crosses_53 rfl ?_
      refine z_lif_le 73 dX13_crosses_54 dX13_crosses_55 (by decide) (fun g7 => ?_) (fun g7 => ?_)
      · rw [if_neg g7] at h
        refine z_lload 6 dX13_crosses_73 rfl ?_
        refine z_lconst 0 dX13_crosses_75 (by decide) ?_
        refine z_lif_ge 84 dX13_crosses_76 dX13_crosses_77 (by decide) (fun g8 => ?_) (fun g8 => ?_)
        · rw [if_neg g8] at h
          refine z_iconst 0 dX13_crosses_84 (by decide) ?_
          exact z_zretb dX13_crosses_85 rfl (Or.inl rfl) ⟨rfl, h⟩
        · rw [if_pos g8] at h
          refine z_iconst 1 dX13_crosses_80 (by decide) ?_
          refine z_goto 85 dX13_crosses_81 (by decide) ?_
          exact z_zretb dX13_crosses_85 rfl (Or.inr rfl) ⟨rfl, h⟩
      · rw [if_pos g7] at h
        refine z_lload 6 dX13_crosses_58 rfl ?_
        refine z_lconst 0 dX13_crosses_60 (by decide) ?_
        refine z_lif_le 69 dX13_crosses_61 dX13_crosses_62 (by decide) (fun g9 => ?_) (fun g9 => ?_)
        · rw [if_neg g9] at h
          refine z_iconst 0 dX13_crosses_69 (by decide) ?_
          refine z_goto 85 dX13_crosses_70 (by decide) ?_
          exact z_zretb dX13_crosses_85 rfl (Or.inl rfl) ⟨rfl, h⟩
        · rw [if_pos g9] at h
          refine z_iconst 1 dX13_crosses_65 (by decide) ?_
          refine z_goto 85 dX13_crosses_66 (by decide) ?_
          exact z_zretb dX13_crosses_85 rfl (Or.inr rfl) ⟨rfl, h⟩
    · rw [if_pos g6] at h
      refine z_iconst 1 dX13_crosses_20 (by decide) ?_
      refine z_goto 25 dX13_crosses_21 (by decide) ?_
      refine z_icmp_ne 30 dX13_crosses_25 (by decide) (fun q => absurd q (by decide)) (fun _ => ?_)
      refine z_iconst 0 dX13_crosses_28 (by decide) ?_
      exact z_zretb dX13_crosses_29 rfl (Or.inl rfl) ⟨rfl, h⟩
