theorem dX12_alter_0 : decode cX12_alter 0 = .ok (.aload_n 0, 1) := by decide +kernel
theorem dX12_alter_1 : decode cX12_alter 1 = .ok (.iload_n 1, 1) := by decide +kernel
theorem dX12_alter_2 : decode cX12_alter 2 = .ok (.iload_n 2, 1) := by decide +kernel
theorem dX12_alter_3 : decode cX12_alter 3 = .ok (.invokevirtual 160, 3) := by decide +kernel
theorem dX12_alter_6 : decode cX12_alter 6 = .ok (.astore 6, 2) := by decide +kernel
theorem dX12_alter_8 : decode cX12_alter 8 = .ok (.aload_n 0, 1) := by decide +kernel
theorem dX12_alter_9 : decode cX12_alter 9 = .ok (.iload_n 3, 1) := by decide +kernel
theorem dX12_alter_10 : decode cX12_alter 10 = .ok (.invokevirtual 122, 3) := by decide +kernel
theorem dX12_alter_13 : decode cX12_alter 13 = .ok (.astore 7, 2) := by decide +kernel
theorem dX12_alter_15 : decode cX12_alter 15 = .ok (.aload 6, 2) := by decide +kernel
theorem dX12_alter_17 : decode cX12_alter 17 = .ok (.ifnull 8, 3) := by decide +kernel
theorem dX12_alter_20 : decode cX12_alter 20 = .ok (.aload 7, 2) := by decide +kernel
theorem dX12_alter_22 : decode cX12_alter 22 = .ok (.ifnonnull 9, 3) := by decide +kernel
theorem dX12_alter_25 : decode cX12_alter 25 = .ok (.aload_n 0, 1) := by decide +kernel
theorem dX12_alter_26 : decode cX12_alter 26 = .ok (.iconst (-1), 1) := by decide +kernel
theorem dX12_alter_27 : decode cX12_alter 27 = .ok (.invokevirtual 85, 3) := by decide +kernel
theorem dX12_alter_30 : decode cX12_alter 30 = .ok (.ireturn, 1) := by decide +kernel
theorem dX12_alter_31 : decode cX12_alter 31 = .ok (.iload 4, 2) := by decide +kernel
theorem dX12_alter_33 : decode cX12_alter 33 = .ok (.iload 5, 2) := by decide +kernel
theorem dX12_alter_35 : decode cX12_alter 35 = .ok (.sipush (-999), 3) := by decide +kernel
theorem dX12_alter_38 : decode cX12_alter 38 = .ok (.sipush 999, 3) := by decide +kernel
theorem dX12_alter_41 : decode cX12_alter 41 = .ok (.invokestatic 197, 3) := by decide +kernel
theorem dX12_alter_44 : decode cX12_alter 44 = .ok (.istore 8, 2) := by decide +kernel
theorem dX12_alter_46 : decode cX12_alter 46 = .ok (.iload 8, 2) := by decide +kernel
theorem dX12_alter_48 : decode cX12_alter 48 = .ok (.ifCond .eq 10, 3) := by decide +kernel
theorem dX12_alter_51 : decode cX12_alter 51 = .ok (.aload_n 0, 1) := by decide +kernel
theorem dX12_alter_52 : decode cX12_alter 52 = .ok (.iload 8, 2) := by decide +kernel
theorem dX12_alter_54 : decode cX12_alter 54 = .ok (.invokevirtual 85, 3) := by decide +kernel
theorem dX12_alter_57 : decode cX12_alter 57 = .ok (.ireturn, 1) := by decide +kernel
theorem dX12_alter_58 : decode cX12_alter 58 = .ok (.aload 7, 2) := by decide +kernel
theorem dX12_alter_60 : decode cX12_alter 60 = .ok (.iload_n 1, 1) := by decide +kernel
theorem dX12_alter_61 : decode cX12_alter 61 = .ok (.iload_n 2, 1) := by decide +kernel
theorem dX12_alter_62 : decode cX12_alter 62 = .ok (.invokevirtual 207, 3) := by decide +kernel
theorem dX12_alter_65 : decode cX12_alter 65 = .ok (.istore 9, 2) := by decide +kernel
theorem dX12_alter_67 : decode cX12_alter 67 = .ok (.iload 9, 2) := by decide +kernel
theorem dX12_alter_69 : decode cX12_alter 69 = .ok (.ifCond .ne 19, 3) := by decide +kernel
theorem dX12_alter_72 : decode cX12_alter 72 = .ok (.aload_n 0, 1) := by decide +kernel
theorem dX12_alter_73 : decode cX12_alter 73 = .ok (.getfield 211, 3) := by decide +kernel
theorem dX12_alter_76 : decode cX12_alter 76 = .ok (.bipush 40, 2) := by decide +kernel
theorem dX12_alter_78 : decode cX12_alter 78 = .ok (.if_icmp .lt 10, 3) := by decide +kernel
theorem dX12_alter_81 : decode cX12_alter 81 = .ok (.aload_n 0, 1) := by decide +kernel
theorem dX12_alter_82 : decode cX12_alter 82 = .ok (.bipush (-6), 2) := by decide +kernel
theorem dX12_alter_84 : decode cX12_alter 84 = .ok (.invokevirtual 85, 3) := by decide +kernel
theorem dX12_alter_87 : decode cX12_alter 87 = .ok (.ireturn, 1) := by decide +kernel
theorem dX12_alter_88 : decode cX12_alter 88 = .ok (.iload 9, 2) := by decide +kernel
theorem dX12_alter_90 : decode cX12_alter 90 = .ok (.ifCond .ne 13, 3) := by decide +kernel
theorem dX12_alter_93 : decode cX12_alter 93 = .ok (.aload_n 0, 1) := by decide +kernel
theorem dX12_alter_94 : decode cX12_alter 94 = .ok (.dup, 1) := by decide +kernel
theorem dX12_alter_95 : decode cX12_alter 95 = .ok (.getfield 211, 3) := by decide +kernel
theorem dX12_alter_98 : decode cX12_alter 98 = .ok (.iconst 1, 1) := by decide +kernel
theorem dX12_alter_99 : decode cX12_alter 99 = .ok (.iadd, 1) := by decide +kernel
theorem dX12_alter_100 : decode cX12_alter 100 = .ok (.putfield 211, 3) := by decide +kernel
theorem dX12_alter_103 : decode cX12_alter 103 = .ok (.aload 7, 2) := by decide +kernel
theorem dX12_alter_105 : decode cX12_alter 105 = .ok (.iload_n 1, 1) := by decide +kernel
theorem dX12_alter_106 : decode cX12_alter 106 = .ok (.iload_n 2, 1) := by decide +kernel
theorem dX12_alter_107 : decode cX12_alter 107 = .ok (.iload 4, 2) := by decide +kernel
theorem dX12_alter_109 : decode cX12_alter 109 = .ok (.iload 5, 2) := by decide +kernel
theorem dX12_alter_111 : decode cX12_alter 111 = .ok (.invokevirtual 214, 3) := by decide +kernel
theorem dX12_alter_114 : decode cX12_alter 114 = .ok (.iconst 1, 1) := by decide +kernel
theorem dX12_alter_115 : decode cX12_alter 115 = .ok (.ireturn, 1) := by decide +kernel
set_option maxRecDepth 100000 in
set_option maxHeartbeats 4000000 in
theorem wp_X12_alter {n0 d : Nat} {K : z_K} {I : z_I} {L : z_L} {Q : z_q} {p0 : Int32} {p1 : Int32} {p2 : Int32} {p3 : Int32} {p4 : Int32} (hL : CLay K) (h : RM0 n0 xX12_pieceWith d [.ref (n0 + 0), .int p0, .int p1] K I L (fun vv I1 L2 => ∃ r3 : Option Nat, vv = some (zr n0 r3) ∧ RM0 n0 xX12_bodyOf d [.ref (n0 + 0), .int p2] K I1 L2 (fun vv I4 L5 => ∃ r6 : Option Nat, vv = some (zr n0 r6) ∧ ((r3 = none → RM0 n0 xX12_refuse d [.ref (n0 + 0), .int (-1)] K I4 L5 (fun vv I9 L10 => ∃ r11 : Int32, vv = some (.int r11) ∧ Q (some (.int r11)) I9 L10)) ∧ (∀ q8, r3 = some q8 → ((r6 = none → RM0 n0 xX12_refuse d [.ref (n0 + 0), .int (-1)] K I4 L5 (fun vv I14 L15 => ∃ r16 : Int32, vv = some (.int r16) ∧ Q (some (.int r16)) I14 L15)) ∧ (∀ q13, r6 = some q13 → RM0 n0 xX12_bothOutside d [.int p3, .int p4, .int (-999), .int 999] K I4 L5 (fun vv I17 L18 => ∃ r19 : Int32, vv = some (.int r19) ∧ (if r19 = 0 then q13 < K.1 ∧ (K.2.1 q13).1 = 0 ∧ RM0 n0 xX0_isAltered d [.ref (n0 + q13), .int p0, .int p1] K I17 L18 (fun vv I23 L24 => ∃ r25 : Int32, vv = some (.int r25) ∧ (if r25 = 0 then (if ((I23 0 5) : Int32) < 40 then (if r25 = 0 then RM0 n0 xX0_setAltered d [.ref (n0 + q13), .int p0, .int p1, .int p3, .int p4] K (zI I23 0 5 ((I23 0 5) + 1)) L24 (fun vv I36 L37 => vv = none ∧ Q (some (.int 1)) I36 L37) else RM0 n0 xX0_setAltered d [.ref (n0 + q13), .int p0, .int p1, .int p3, .int p4] K I23 L24 (fun vv I34 L35 => vv = none ∧ Q (some (.int 1)) I34 L35)) else RM0 n0 xX12_refuse d [.ref (n0 + 0), .int (-6)] K I23 L24 (fun vv I38 L39 => ∃ r40 : Int32, vv = some (.int r40) ∧ Q (some (.int r40)) I38 L39)) else (if r25 = 0 then RM0 n0 xX0_setAltered d [.ref (n0 + q13), .int p0, .int p1, .int p3, .int p4] K (zI I23 0 5 ((I23 0 5) + 1)) L24 (fun vv I30 L31 => vv = none ∧ Q (some (.int 1)) I30 L31) else RM0 n0 xX0_setAltered d [.ref (n0 + q13), .int p0, .int p1, .int p3, .int p4] K I23 L24 (fun vv I28 L29 => vv = none ∧ Q (some (.int 1)) I28 L29)))) else RM0 n0 xX12_refuse d [.ref (n0 + 0), .int r19] K I17 L18 (fun vv I41 L42 => ∃ r43 : Int32, vv = some (.int r43) ∧ Q (some (.int r43)) I41 L42)))))))))) : RM0 n0 xX12_alter (d + 1) [.ref (n0 + 0), .int p0, .int p1, .int p2, .int p3, .int p4] K I L Q := by
  refine z_entry0 (by decide) (Nat.le_of_ble_eq_true rfl) ?_
  change Z n0 xX12_alter (d + 1) 0 0 0 [(0, .ref (n0 + 0)), (1, .int p0), (2, .int p1), (3, .int p2), (4, .int p3), (5, .int p4)] [] K I L (z_q0 K Q)
  refine z_aload_n 0 dX12_alter_0 rfl ?_
  refine z_iload_n 1 dX12_alter_1 rfl ?_
  refine z_iload_n 2 dX12_alter_2 rfl ?_
  refine z_callV0 (As := [.int p0, .int p1]) (st := []) dX12_alter_3 hy_X12_pieceWith (co_0 hL).1 (co_0 hL).2 (by decide) wg_655 wg_657 wg_6 (Nat.le_refl _) (Nat.le_of_ble_eq_true rfl) (RM0.mono h ?_)
  clear h
  intro vv I1 L2 h
  obtain ⟨r3, rfl, h⟩ := h
  change Z n0 xX12_alter (d + 1) 0 0 6 [(0, .ref (n0 + 0)), (1, .int p0), (2, .int p1), (3, .int p2), (4, .int p3), (5, .int p4)] [zr n0 r3] K I1 L2 (z_q0 K Q)
  refine z_astoreO [1, 2, 3, 4, 5, 6, 0] [(0, .ref (n0 + 0)), (1, .int p0), (2, .int p1), (3, .int p2), (4, .int p3), (5, .int p4), (6, zr n0 r3)] dX12_alter_6 (by decide) (fun v hv => by subst hv; rfl) ?_
  refine z_aload_n 0 dX12_alter_8 rfl ?_
  refine z_iload_n 3 dX12_alter_9 rfl ?_
  refine z_callV0 (As := [.int p2]) (st := []) dX12_alter_10 hy_X12_bodyOf (co_0 hL).1 (co_0 hL).2 (by decide) wg_551 wg_553 wg_2 (Nat.le_refl _) (Nat.le_of_ble_eq_true rfl) (RM0.mono h ?_)
  clear h
  intro vv I4 L5 h
  obtain ⟨r6, rfl, h⟩ := h
  change Z n0 xX12_alter (d + 1) 0 0 13 [(0, .ref (n0 + 0)), (1, .int p0), (2, .int p1), (3, .int p2), (4, .int p3), (5, .int p4), (6, zr n0 r3)] [zr n0 r6] K I4 L5 (z_q0 K Q)
  refine z_astoreO [1, 2, 3, 4, 5, 6, 7, 0] [(0, .ref (n0 + 0)), (1, .int p0), (2, .int p1), (3, .int p2), (4, .int p3), (5, .int p4), (6, zr n0 r3), (7, zr n0 r6)] dX12_alter_13 (by decide) (fun v hv => by subst hv; cases r3 <;> rfl) ?_
  refine z_aloadO 6 dX12_alter_15 rfl ?_
  refine z_ifnull 25 dX12_alter_17 (by decide) (fun g7 => ?_) (fun q8 g7 => ?_)
  · replace h := h.1 g7
    subst g7
    change Z n0 xX12_alter (d + 1) 0 0 25 [(0, .ref (n0 + 0)), (1, .int p0), (2, .int p1), (3, .int p2), (4, .int p3), (5, .int p4), (6, .null), (7, zr n0 r6)] [] K I4 L5 (z_q0 K Q)
    refine z_aload_n 0 dX12_alter_25 rfl ?_
    refine z_iconst (-1) dX12_alter_26 (by decide) ?_
    refine z_callV0 (As := [.int (-1)]) (st := []) dX12_alter_27 hy_X12_refuse (co_0 hL).1 (co_0 hL).2 (by decide) wg_462 wg_464 wg_0 (Nat.le_refl _) (Nat.le_of_ble_eq_true rfl) (RM0.mono h ?_)
    clear h
    intro vv I9 L10 h
    obtain ⟨r11, rfl, h⟩ := h
    change Z n0 xX12_alter (d + 1) 0 0 30 [(0, .ref (n0 + 0)), (1, .int p0), (2, .int p1), (3, .int p2), (4, .int p3), (5, .int p4), (6, .null), (7, zr n0 r6)] [.int r11] K I9 L10 (z_q0 K Q)
    exact z_iret dX12_alter_30 rfl ⟨rfl, h⟩
  · replace h := h.2 q8 g7
    subst g7
    change Z n0 xX12_alter (d + 1) 0 0 20 [(0, .ref (n0 + 0)), (1, .int p0), (2, .int p1), (3, .int p2), (4, .int p3), (5, .int p4), (6, .ref (n0 + q8)), (7, zr n0 r6)] [] K I4 L5 (z_q0 K Q)
    refine z_aloadO 7 dX12_alter_20 rfl ?_
    refine z_ifnonnull 31 dX12_alter_22 (by decide) (fun q13 g12 => ?_) (fun g12 => ?_)
    · replace h := h.2 q13 g12
      subst g12
      change Z n0 xX12_alter (d + 1) 0 0 31 [(0, .ref (n0 + 0)), (1, .int p0), (2, .int p1), (3, .int p2), (4, .int p3), (5, .int p4), (6, .ref (n0 + q8)), (7, .ref (n0 + q13))] [] K I4 L5 (z_q0 K Q)
      refine z_iload 4 dX12_alter_31 rfl ?_
      refine z_iload 5 dX12_alter_33 rfl ?_
      refine z_sipush (-999) dX12_alter_35 (by decide) ?_
      refine z_sipush 999 dX12_alter_38 (by decide) ?_
      refine z_callS0 (As := [.int p3, .int p4, .int (-999), .int 999]) (st := []) dX12_alter_41 hy_X12_bothOutside wg_793 wg_794 (Nat.le_refl _) (Nat.le_of_ble_eq_true rfl) (RM0.mono h ?_)
      clear h
      intro vv I17 L18 h
      obtain ⟨r19, rfl, h⟩ := h
      change Z n0 xX12_alter (d + 1) 0 0 44 [(0, .ref (n0 + 0)), (1, .int p0), (2, .int p1), (3, .int p2), (4, .int p3), (5, .int p4), (6, .ref (n0 + q8)), (7, .ref (n0 + q13))] [.int r19] K I17 L18 (z_q0 K Q)
      refine z_istore [1, 2, 3, 4, 5, 6, 7, 8, 0] [(0, .ref (n0 + 0)), (1, .int p0), (2, .int p1), (3, .int p2), (4, .int p3), (5, .int p4), (6, .ref (n0 + q8)), (7, .ref (n0 + q13)), (8, .int r19)] dX12_alter_44 (by decide) rfl ?_
      refine z_iload 8 dX12_alter_46 rfl ?_
      refine z_if_eq 58 dX12_alter_48 (by decide) (fun g20 => ?_) (fun g20 => ?_)
      · rw [if_pos g20] at h
        refine z_aload 7 dX12_alter_58 rfl ?_
        refine z_iload_n 1 dX12_alter_60 rfl ?_
        refine z_iload_n 2 dX12_alter_61 rfl ?_
        obtain ⟨o21, o22, h⟩ := h
        refine z_callV0 (As := [.int p0, .int p1]) (st := []) dX12_alter_62 hy_X0_isAltered o21 o22 (by decide) wg_804 wg_805 wg_806 (Nat.le_refl _) (Nat.le_of_ble_eq_true rfl) (RM0.mono h ?_)
        clear h
        intro vv I23 L24 h
        obtain ⟨r25, rfl, h⟩ := h
        change Z n0 xX12_alter (d + 1) 0 0 65 [(0, .ref (n0 + 0)), (1, .int p0), (2, .int p1), (3, .int p2), (4, .int p3), (5, .int p4), (6, .ref (n0 + q8)), (7, .ref (n0 + q13)), (8, .int r19)] [.int r25] K I23 L24 (z_q0 K Q)
        refine z_istore [1, 2, 3, 4, 5, 6, 7, 8, 9, 0] [(0, .ref (n0 + 0)), (1, .int p0), (2, .int p1), (3, .int p2), (4, .int p3), (5, .int p4), (6, .ref (n0 + q8)), (7, .ref (n0 + q13)), (8, .int r19), (9, .int r25)] dX12_alter_65 (by decide) rfl ?_
        refine z_iload 9 dX12_alter_67 rfl ?_
        refine z_if_ne 88 dX12_alter_69 (by decide) (fun g26 => ?_) (fun g26 => ?_)
        · rw [if_neg g26] at h
          refine z_iload 9 dX12_alter_88 rfl ?_
          refine z_if_ne 103 dX12_alter_90 (by decide) (fun g27 => ?_) (fun g27 => ?_)
          · rw [if_neg g27] at h
            refine z_aload 7 dX12_alter_103 rfl ?_
            refine z_iload_n 1 dX12_alter_105 rfl ?_
            refine z_iload_n 2 dX12_alter_106 rfl ?_
            refine z_iload 4 dX12_alter_107 rfl ?_
            refine z_iload 5 dX12_alter_109 rfl ?_
            refine z_callV0 (As := [.int p0, .int p1, .int p3, .int p4]) (st := []) dX12_alter_111 hy_X0_setAltered o21 o22 (by decide) wg_812 wg_813 wg_814 (Nat.le_refl _) (Nat.le_of_ble_eq_true rfl) (RM0.mono h ?_)
            clear h
            intro vv I28 L29 h
            obtain ⟨rfl, h⟩ := h
            change Z n0 xX12_alter (d + 1) 0 0 114 [(0, .ref (n0 + 0)), (1, .int p0), (2, .int p1), (3, .int p2), (4, .int p3), (5, .int p4), (6, .ref (n0 + q8)), (7, .ref (n0 + q13)), (8, .int r19), (9, .int r25)] [] K I28 L29 (z_q0 K Q)
            refine z_iconst 1 dX12_alter_114 (by decide) ?_
            exact z_iret dX12_alter_115 rfl ⟨rfl, h⟩
          · rw [if_pos g27] at h
            refine z_aload_n 0 dX12_alter_93 rfl ?_
            refine z_dup dX12_alter_94 rfl ?_
            refine fg_12_211 (I23 0 5) rfl dX12_alter_95 (co_0 hL).1 (co_0 hL).2 rfl ?_
            refine z_iconst 1 dX12_alter_98 (by decide) ?_
            refine z_iadd dX12_alter_99 ?_
            refine fp_12_211 rfl dX12_alter_100 (co_0 hL).1 (co_0 hL).2 ?_
            refine z_aload 7 dX12_alter_103 rfl ?_
            refine z_iload_n 1 dX12_alter_105 rfl ?_
            refine z_iload_n 2 dX12_alter_106 rfl ?_
            refine z_iload 4 dX12_alter_107 rfl ?_
            refine z_iload 5 dX12_alter_109 rfl ?_
            refine z_callV0 (As := [.int p0, .int p1, .int p3, .int p4]) (st := []) dX12_alter_111 hy_X0_setAltered o21 o22 (by decide) wg_812 wg_813 wg_814 (Nat.le_refl _) (Nat.le_of_ble_eq_true rfl) (RM0.mono h ?_)
            clear h
            intro vv I30 L31 h
            obtain ⟨rfl, h⟩ := h
            change Z n0 xX12_alter (d + 1) 0 0 114 [(0, .ref (n0 + 0)), (1, .int p0), (2, .int p1), (3, .int p2), (4, .int p3), (5, .int p4), (6, .ref (n0 + q8)), (7, .ref (n0 + q13)), (8, .int r19), (9, .int r25)] [] K I30 L31 (z_q0 K Q)
            refine z_iconst 1 dX12_alter_114 (by decide) ?_
            exact z_iret dX12_alter_115 rfl ⟨rfl, h⟩
        · rw [if_pos g26] at h
          refine z_aload_n 0 dX12_alter_72 rfl ?_
          refine fg_12_211 (I23 0 5) rfl dX12_alter_73 (co_0 hL).1 (co_0 hL).2 rfl ?_
          refine z_bipush 40 dX12_alter_76 (by decide) ?_
          refine z_icmp_lt 88 dX12_alter_78 (by decide) (fun g32 => ?_) (fun g32 => ?_)
          · rw [if_pos g32] at h
            refine z_iload 9 dX12_alter_88 rfl ?_
            refine z_if_ne 103 dX12_alter_90 (by decide) (fun g33 => ?_) (fun g33 => ?_)
            · rw [if_neg g33] at h
              refine z_aload 7 dX12_alter_103 rfl ?_
              refine z_iload_n 1 dX12_alter_105 rfl ?_
              refine z_iload_n 2 dX12_alter_106 rfl ?_
              refine z_iload 4 dX12_alter_107 rfl ?_
              refine z_iload 5 dX12_alter_109 rfl ?_
              refine z_callV0 (As := [.int p0, .int p1, .int p3, .int p4]) (st := []) dX12_alter_111 hy_X0_setAltered o21 o22 (by decide) wg_812 wg_813 wg_814 (Nat.le_refl _) (Nat.le_of_ble_eq_true rfl) (RM0.mono h ?_)
              clear h
              intro vv I34 L35 h
              obtain ⟨rfl, h⟩ := h
              change Z n0 xX12_alter (d + 1) 0 0 114 [(0, .ref (n0 + 0)), (1, .int p0), (2, .int p1), (3, .int p2), (4, .int p3), (5, .int p4), (6, .ref (n0 + q8)), (7, .ref (n0 + q13)), (8, .int r19), (9, .int r25)] [] K I34 L35 (z_q0 K Q)
              refine z_iconst 1 dX12_alter_114 (by decide) ?_
              exact z_iret dX12_alter_115 rfl ⟨rfl, h⟩
            · rw [if_pos g33] at h
              refine z_aload_n 0 dX12_alter_93 rfl ?_
              refine z_dup dX12_alter_94 rfl ?_
              refine fg_12_211 (I23 0 5) rfl dX12_alter_95 (co_0 hL).1 (co_0 hL).2 rfl ?_
              refine z_iconst 1 dX12_alter_98 (by decide) ?_
              refine z_iadd dX12_alter_99 ?_
              refine fp_12_211 rfl dX12_alter_100 (co_0 hL).1 (co_0 hL).2 ?_
              refine z_aload 7 dX12_alter_103 rfl ?_
              refine z_iload_n 1 dX12_alter_105 rfl ?_
              refine z_iload_n 2 dX12_alter_106 rfl ?_
              refine z_iload 4 dX12_alter_107 rfl ?_
              refine z_iload 5 dX12_alter_109 rfl ?_
              refine z_callV0 (As := [.int p0, .int p1, .int p3, .int p4]) (st := []) dX12_alter_111 hy_X0_setAltered o21 o22 (by decide) wg_812 wg_813 wg_814 (Nat.le_refl _) (Nat.le_of_ble_eq_true rfl) (RM0.mono h ?_)
              clear h
              intro vv I36 L37 h
              obtain ⟨rfl, h⟩ := h
              change Z n0 xX12_alter (d + 1) 0 0 114 [(0, .ref (n0 + 0)), (1, .int p0), (2, .int p1), (3, .int p2), (4, .int p3), (5, .int p4), (6, .ref (n0 + q8)), (7, .ref (n0 + q13)), (8, .int r19), (9, .int r25)] [] K I36 L37 (z_q0 K Q)
              refine z_iconst 1 dX12_alter_114 (by decide) ?_
              exact z_iret dX12_alter_115 rfl ⟨rfl, h⟩
          · rw [if_neg g32] at h
            refine z_aload_n 0 dX12_alter_81 rfl ?_
            refine z_bipush (-6) dX12_alter_82 (by decide) ?_
            refine z_callV0 (As := [.int (-6)]) (st := []) dX12_alter_84 hy_X12_refuse (co_0 hL).1 (co_0 hL).2 (by decide) wg_462 wg_464 wg_0 (Nat.le_refl _) (Nat.le_of_ble_eq_true rfl) (RM0.mono h ?_)
            clear h
            intro vv I38 L39 h
            obtain ⟨r40, rfl, h⟩ := h
            change Z n0 xX12_alter (d + 1) 0 0 87 [(0, .ref (n0 + 0)), (1, .int p0), (2, .int p1), (3, .int p2), (4, .int p3), (5, .int p4), (6, .ref (n0 + q8)), (7, .ref (n0 + q13)), (8, .int r19), (9, .int r25)] [.int r40] K I38 L39 (z_q0 K Q)
            exact z_iret dX12_alter_87 rfl ⟨rfl, h⟩
      · rw [if_neg g20] at h
        refine z_aload_n 0 dX12_alter_51 rfl ?_
        refine z_iload 8 dX12_alter_52 rfl ?_
        refine z_callV0 (As := [.int r19]) (st := []) dX12_alter_54 hy_X12_refuse (co_0 hL).1 (co_0 hL).2 (by decide) wg_462 wg_464 wg_0 (Nat.le_refl _) (Nat.le_of_ble_eq_true rfl) (RM0.mono h ?_)
        clear h
        intro vv I41 L42 h
        obtain ⟨r43, rfl, h⟩ := h
        change Z n0 xX12_alter (d + 1) 0 0 57 [(0, .ref (n0 + 0)), (1, .int p0), (2, .int p1), (3, .int p2), (4, .int p3), (5, .int p4), (6, .ref (n0 + q8)), (7, .ref (n0 + q13)), (8, .int r19)] [.int r43] K I41 L42 (z_q0 K Q)
        exact z_iret dX12_alter_57 rfl ⟨rfl, h⟩
    · replace h := h.1 g12
      subst g12
      change Z n0 xX12_alter (d + 1) 0 0 25 [(0, .ref (n0 + 0)), (1, .int p0), (2, .int p1), (3, .int p2), (4, .int p3), (5, .int p4), (6, .ref (n0 + q8)), (7, .null)] [] K I4 L5 (z_q0 K Q)
      refine z_aload_n 0 dX12_alter_25 rfl ?_
      refine z_iconst (-1) dX12_alter_26 (by decide) ?_
      refine z_callV0 (As := [.int (-1)]) (st := []) dX12_alter_27 hy_X12_refuse (co_0 hL).1 (co_0 hL).2 (by decide) wg_462 wg_464 wg_0 (Nat.le_refl _) (Nat.le_of_ble_eq_true rfl) (RM0.mono h ?_)
      clear h
      intro vv I14 L15 h
      obtain ⟨r16, rfl, h⟩ := h
      change Z n0 xX12_alter (d + 1) 0 0 30 [(0, .ref (n0 + 0)), (1, .int p0), (2, .int p1), (3, .int p2), (4, .int p3), (5, .int p4), (6, .ref (n0 + q8)), (7, .null)] [.int r16] K I14 L15 (z_q0 K Q)
      exact z_iret dX12_alter_30 rfl ⟨rfl, h⟩
theorem dX12_curve_0 : decode cX12_curve 0 = .ok (.aload_n 0, 1) := by decide +kernel
theorem dX12_curve_1 : decode cX12_curve 1 = .ok (.iload_n 1, 1) := by decide +kernel
theorem dX12_curve_2 : decode cX12_curve 2 = .ok (.iload_n 2, 1) := by decide +kernel
theorem dX12_curve_3 : decode cX12_curve 3 = .ok (.invokevirtual 160, 3) := by decide +kernel
theorem dX12_curve_6 : decode cX12_curve 6 = .ok (.astore 5, 2) := by decide +kernel
theorem dX12_curve_8 : decode cX12_curve 8 = .ok (.aload 5, 2) := by decide +kernel
theorem dX12_curve_10 : decode cX12_curve 10 = .ok (.ifnonnull 9, 3) := by decide +kernel
theorem dX12_curve_13 : decode cX12_curve 13 = .ok (.aload_n 0, 1) := by decide +kernel
theorem dX12_curve_14 : decode cX12_curve 14 = .ok (.iconst (-1), 1) := by decide +kernel
theorem dX12_curve_15 : decode cX12_curve 15 = .ok (.invokevirtual 85, 3) := by decide +kernel
theorem dX12_curve_18 : decode cX12_curve 18 = .ok (.ireturn, 1) := by decide +kernel
theorem dX12_curve_19 : decode cX12_curve 19 = .ok (.iload_n 3, 1) := by decide +kernel
theorem dX12_curve_20 : decode cX12_curve 20 = .ok (.iload 4, 2) := by decide +kernel
theorem dX12_curve_22 : decode cX12_curve 22 = .ok (.sipush (-999), 3) := by decide +kernel
theorem dX12_curve_25 : decode cX12_curve 25 = .ok (.sipush 999, 3) := by decide +kernel
theorem dX12_curve_28 : decode cX12_curve 28 = .ok (.invokestatic 197, 3) := by decide +kernel
theorem dX12_curve_31 : decode cX12_curve 31 = .ok (.istore 6, 2) := by decide +kernel
theorem dX12_curve_33 : decode cX12_curve 33 = .ok (.iload 6, 2) := by decide +kernel
theorem dX12_curve_35 : decode cX12_curve 35 = .ok (.ifCond .eq 10, 3) := by decide +kernel
theorem dX12_curve_38 : decode cX12_curve 38 = .ok (.aload_n 0, 1) := by decide +kernel
theorem dX12_curve_39 : decode cX12_curve 39 = .ok (.iload 6, 2) := by decide +kernel
theorem dX12_curve_41 : decode cX12_curve 41 = .ok (.invokevirtual 85, 3) := by decide +kernel
theorem dX12_curve_44 : decode cX12_curve 44 = .ok (.ireturn, 1) := by decide +kernel
theorem dX12_curve_45 : decode cX12_curve 45 = .ok (.aload 5, 2) := by decide +kernel
theorem dX12_curve_47 : decode cX12_curve 47 = .ok (.getfield 218, 3) := by decide +kernel
theorem dX12_curve_50 : decode cX12_curve 50 = .ok (.iload_n 2, 1) := by decide +kernel
theorem dX12_curve_51 : decode cX12_curve 51 = .ok (.iconst 1, 1) := by decide +kernel
theorem dX12_curve_52 : decode cX12_curve 52 = .ok (.bastore, 1) := by decide +kernel
theorem dX12_curve_53 : decode cX12_curve 53 = .ok (.aload 5, 2) := by decide +kernel
theorem dX12_curve_55 : decode cX12_curve 55 = .ok (.getfield 222, 3) := by decide +kernel
theorem dX12_curve_58 : decode cX12_curve 58 = .ok (.iload_n 2, 1) := by decide +kernel
theorem dX12_curve_59 : decode cX12_curve 59 = .ok (.iload_n 3, 1) := by decide +kernel
theorem dX12_curve_60 : decode cX12_curve 60 = .ok (.iastore, 1) := by decide +kernel
theorem dX12_curve_61 : decode cX12_curve 61 = .ok (.aload 5, 2) := by decide +kernel
theorem dX12_curve_63 : decode cX12_curve 63 = .ok (.getfield 225, 3) := by decide +kernel
theorem dX12_curve_66 : decode cX12_curve 66 = .ok (.iload_n 2, 1) := by decide +kernel
theorem dX12_curve_67 : decode cX12_curve 67 = .ok (.iload 4, 2) := by decide +kernel
theorem dX12_curve_69 : decode cX12_curve 69 = .ok (.iastore, 1) := by decide +kernel
theorem dX12_curve_70 : decode cX12_curve 70 = .ok (.iconst 1, 1) := by decide +kernel
theorem dX12_curve_71 : decode cX12_curve 71 = .ok (.ireturn, 1) := by decide +kernel
set_option maxRecDepth 100000 in
set_option maxHeartbeats 4000000 in
theorem wp_X12_curve {n0 d : Nat} {K : z_K} {I : z_I} {L : z_L} {Q : z_q} {p0 : Int32} {p1 : Int32} {p2 : Int32} {p3 : Int32} (hL : CLay K) (h : RM0 n0 xX12_pieceWith d [.ref (n0 + 0), .int p0, .int p1] K I L (fun vv I1 L2 => ∃ r3 : Option Nat, vv = some (zr n0 r3) ∧ ((r3 = none → RM0 n0 xX12_refuse d [.ref (n0 + 0), .int (-1)] K I1 L2 (fun vv I6 L7 => ∃ r8 : Int32, vv = some (.int r8) ∧ Q (some (.int r8)) I6 L7)) ∧ (∀ q5, r3 = some q5 → RM0 n0 xX12_bothOutside d [.int p2, .int p3, .int (-999), .int 999] K I1 L2 (fun vv I9 L10 => ∃ r11 : Int32, vv = some (.int r11) ∧ (if r11 = 0 then q5 < K.1 ∧ (K.2.1 q5).1 = 5 ∧ (∃ q15, K.2.2 q5 8 = some q15 ∧ ∃ n16, q15 < K.1 ∧ K.2.1 q15 = (21, n16) ∧ vp_in p1 n16 ∧ (∃ q20, K.2.2 q5 9 = some q20 ∧ ∃ n21, q20 < K.1 ∧ K.2.1 q20 = (20, n21) ∧ vp_in p1 n21 ∧ (∃ q25, K.2.2 q5 10 = some q25 ∧ ∃ n26, q25 < K.1 ∧ K.2.1 q25 = (20, n26) ∧ vp_in p1 n26 ∧ Q (some (.int 1)) (zI (zI (zI I9 q15 p1.toNatClampNeg 1) q20 p1.toNatClampNeg p2) q25 p1.toNatClampNeg p3) L10))) else RM0 n0 xX12_refuse d [.ref (n0 + 0), .int r11] K I9 L10 (fun vv I30 L31 => ∃ r32 : Int32, vv = some (.int r32) ∧ Q (some (.int r32)) I30 L31))))))) : RM0 n0 xX12_curve (d + 1) [.ref (n0 + 0), .int p0, .int p1, .int p2, .int p3] K I L Q := by
  refine z_entry0 (by decide) (Nat.le_of_ble_eq_true rfl) ?_
  change Z n0 xX12_curve (d + 1) 0 0 0 [(0, .ref (n0 + 0)), (1, .int p0), (2, .int p1), (3, .int p2), (4, .int p3)] [] K I L (z_q0 K Q)
  refine z_aload_n 0 dX12_curve_0 rfl ?_
  refine z_iload_n 1 dX12_curve_1 rfl ?_
  refine z_iload_n 2 dX12_curve_2 rfl ?_
  refine z_callV0 (As := [.int p0, .int p1]) (st := []) dX12_curve_3 hy_X12_pieceWith (co_0 hL).1 (co_0 hL).2 (by decide) wg_655 wg_657 wg_6 (Nat.le_refl _) (Nat.le_of_ble_eq_true rfl) (RM0.mono h ?_)
  clear h
  intro vv I1 L2 h
  obtain ⟨r3, rfl, h⟩ := h
  change Z n0 xX12_curve (d + 1) 0 0 6 [(0, .ref (n0 + 0)), (1, .int p0), (2, .int p1), (3, .int p2), (4, .int p3)] [zr n0 r3] K I1 L2 (z_q0 K Q)
  refine z_astoreO [1, 2, 3, 4, 5, 0] [(0, .ref (n0 + 0)), (1, .int p0), (2, .int p1), (3, .int p2), (4, .int p3), (5, zr n0 r3)] dX12_curve_6 (by decide) (fun v hv => by subst hv; rfl) ?_
  refine z_aloadO 5 dX12_curve_8 rfl ?_
  refine z_ifnonnull 19 dX12_curve_10 (by decide) (fun q5 g4 => ?_) (fun g4 => ?_)
  · replace h := h.2 q5 g4
    subst g4
    change Z n0 xX12_curve (d + 1) 0 0 19 [(0, .ref (n0 + 0)), (1, .int p0), (2, .int p1), (3, .int p2), (4, .int p3), (5, .ref (n0 + q5))] [] K I1 L2 (z_q0 K Q)
    refine z_iload_n 3 dX12_curve_19 rfl ?_
    refine z_iload 4 dX12_curve_20 rfl ?_
    refine z_sipush (-999) dX12_curve_22 (by decide) ?_
    refine z_sipush 999 dX12_curve_25 (by decide) ?_
    refine z_callS0 (As := [.int p2, .int p3, .int (-999), .int 999]) (st := []) dX12_curve_28 hy_X12_bothOutside wg_793 wg_794 (Nat.le_refl _) (Nat.le_of_ble_eq_true rfl) (RM0.mono h ?_)
    clear h
    intro vv I9 L10 h
    obtain ⟨r11, rfl, h⟩ := h
    change Z n0 xX12_curve (d + 1) 0 0 31 [(0, .ref (n0 + 0)), (1, .int p0), (2, .int p1), (3, .int p2), (4, .int p3), (5, .ref (n0 + q5))] [.int r11] K I9 L10 (z_q0 K Q)
    refine z_istore [1, 2, 3, 4, 5, 6, 0] [(0, .ref (n0 + 0)), (1, .int p0), (2, .int p1), (3, .int p2), (4, .int p3), (5, .ref (n0 + q5)), (6, .int r11)] dX12_curve_31 (by decide) rfl ?_
    refine z_iload 6 dX12_curve_33 rfl ?_
    refine z_if_eq 45 dX12_curve_35 (by decide) (fun g12 => ?_) (fun g12 => ?_)
    · rw [if_pos g12] at h
      refine z_aload 5 dX12_curve_45 rfl ?_
      obtain ⟨o13, o14, h⟩ := h
      obtain ⟨q15, q15e, h⟩ := h
      refine fg_12_218 (some q15) rfl dX12_curve_47 o13 o14 q15e ?_
      refine z_iload_n 2 dX12_curve_50 rfl ?_
      refine z_iconst 1 dX12_curve_51 (by decide) ?_
      obtain ⟨n16, o17, o18, o19, h⟩ := h
      refine z_zastb dX12_curve_52 o17 o18 o19 (Or.inr rfl) ?_
      refine z_aload 5 dX12_curve_53 rfl ?_
      obtain ⟨q20, q20e, h⟩ := h
      refine fg_12_222 (some q20) rfl dX12_curve_55 o13 o14 q20e ?_
      refine z_iload_n 2 dX12_curve_58 rfl ?_
      refine z_iload_n 3 dX12_curve_59 rfl ?_
      obtain ⟨n21, o22, o23, o24, h⟩ := h
      refine z_iast dX12_curve_60 o22 o23 o24 ?_
      refine z_aload 5 dX12_curve_61 rfl ?_
      obtain ⟨q25, q25e, h⟩ := h
      refine fg_12_225 (some q25) rfl dX12_curve_63 o13 o14 q25e ?_
      refine z_iload_n 2 dX12_curve_66 rfl ?_
      refine z_iload 4 dX12_curve_67 rfl ?_
      obtain ⟨n26, o27, o28, o29, h⟩ := h
      refine z_iast dX12_curve_69 o27 o28 o29 ?_
      refine z_iconst 1 dX12_curve_70 (by decide) ?_
      exact z_iret dX12_curve_71 rfl ⟨rfl, h⟩
    · rw [if_neg g12] at h
      refine z_aload_n 0 dX12_curve_38 rfl ?_
      refine z_iload 6 dX12_curve_39 rfl ?_
      refine z_callV0 (As := [.int r11]) (st := []) dX12_curve_41 hy_X12_refuse (co_0 hL).1 (co_0 hL).2 (by decide) wg_462 wg_464 wg_0 (Nat.le_refl _) (Nat.le_of_ble_eq_true rfl) (RM0.mono h ?_)
      clear h
      intro vv I30 L31 h
      obtain ⟨r32, rfl, h⟩ := h
      change Z n0 xX12_curve (d + 1) 0 0 44 [(0, .ref (n0 + 0)), (1, .int p0), (2, .int p1), (3, .int p2), (4, .int p3), (5, .ref (n0 + q5)), (6, .int r11)] [.int r32] K I30 L31 (z_q0 K Q)
      exact z_iret dX12_curve_44 rfl ⟨rfl, h⟩
  · replace h := h.1 g4
    subst g4
    change Z n0 xX12_curve (d + 1) 0 0 13 [(0, .ref (n0 + 0)), (1, .int p0), (2, .int p1), (3, .int p2), (4, .int p3), (5, .null)] [] K I1 L2 (z_q0 K Q)
    refine z_aload_n 0 dX12_curve_13 rfl ?_
    refine z_iconst (-1) dX12_curve_14 (by decide) ?_
    refine z_callV0 (As := [.int (-1)]) (st := []) dX12_curve_15 hy_X12_refuse (co_0 hL).1 (co_0 hL).2 (by decide) wg_462 wg_464 wg_0 (Nat.le_refl _) (Nat.le_of_ble_eq_true rfl) (RM0.mono h ?_)
    clear h
    intro vv I6 L7 h
    obtain ⟨r8, rfl, h⟩ := h
    change Z n0 xX12_curve (d + 1) 0 0 18 [(0, .ref (n0 + 0)), (1, .int p0), (2, .int p1), (3, .int p2), (4, .int p3), (5, .null)] [.int r8] K I6 L7 (z_q0 K Q)
    exact z_iret dX12_curve_18 rfl ⟨rfl, h⟩
theorem dX12_straight_0 : decode cX12_straight 0 = .ok (.aload_n 0, 1) := by decide +kernel
theorem dX12_straight_1 : decode cX12_straight 1 = .ok (.iload_n 1, 1) := by decide +kernel
theorem dX12_straight_2 : decode cX12_straight 2 = .ok (.iload_n 2, 1) := by decide +kernel
theorem dX12_straight_3 : decode cX12_straight 3 = .ok (.invokevirtual 160, 3) := by decide +kernel
theorem dX12_straight_6 : decode cX12_straight 6 = .ok (.astore_n 3, 1) := by decide +kernel
theorem dX12_straight_7 : decode cX12_straight 7 = .ok (.aload_n 3, 1) := by decide +kernel
theorem dX12_straight_8 : decode cX12_straight 8 = .ok (.ifnonnull 9, 3) := by decide +kernel
theorem dX12_straight_11 : decode cX12_straight 11 = .ok (.aload_n 0, 1) := by decide +kernel
theorem dX12_straight_12 : decode cX12_straight 12 = .ok (.iconst (-1), 1) := by decide +kernel
theorem dX12_straight_13 : decode cX12_straight 13 = .ok (.invokevirtual 85, 3) := by decide +kernel
theorem dX12_straight_16 : decode cX12_straight 16 = .ok (.ireturn, 1) := by decide +kernel
theorem dX12_straight_17 : decode cX12_straight 17 = .ok (.aload_n 3, 1) := by decide +kernel
theorem dX12_straight_18 : decode cX12_straight 18 = .ok (.getfield 218, 3) := by decide +kernel
theorem dX12_straight_21 : decode cX12_straight 21 = .ok (.iload_n 2, 1) := by decide +kernel
theorem dX12_straight_22 : decode cX12_straight 22 = .ok (.baload, 1) := by decide +kernel
theorem dX12_straight_23 : decode cX12_straight 23 = .ok (.ifCond .ne 5, 3) := by decide +kernel
theorem dX12_straight_26 : decode cX12_straight 26 = .ok (.iconst 0, 1) := by decide +kernel
theorem dX12_straight_27 : decode cX12_straight 27 = .ok (.ireturn, 1) := by decide +kernel
theorem dX12_straight_28 : decode cX12_straight 28 = .ok (.aload_n 3, 1) := by decide +kernel
theorem dX12_straight_29 : decode cX12_straight 29 = .ok (.getfield 218, 3) := by decide +kernel
theorem dX12_straight_32 : decode cX12_straight 32 = .ok (.iload_n 2, 1) := by decide +kernel
theorem dX12_straight_33 : decode cX12_straight 33 = .ok (.iconst 0, 1) := by decide +kernel
theorem dX12_straight_34 : decode cX12_straight 34 = .ok (.bastore, 1) := by decide +kernel
theorem dX12_straight_35 : decode cX12_straight 35 = .ok (.iconst 1, 1) := by decide +kernel
theorem dX12_straight_36 : decode cX12_straight 36 = .ok (.ireturn, 1) := by decide +kernel
set_option maxRecDepth 100000 in
set_option maxHeartbeats 4000000 in
theorem wp_X12_straight {n0 d : Nat} {K : z_K} {I : z_I} {L : z_L} {Q : z_q} {p0 : Int32} {p1 : Int32} (hL : CLay K) (h : RM0 n0 xX12_pieceWith d [.ref (n0 + 0), .int p0, .int p1] K I L (fun vv I1 L2 => ∃ r3 : Option Nat, vv = some (zr n0 r3) ∧ ((r3 = none → RM0 n0 xX12_refuse d [.ref (n0 + 0), .int (-1)] K I1 L2 (fun vv I6 L7 => ∃ r8 : Int32, vv = some (.int r8) ∧ Q (some (.int r8)) I6 L7)) ∧ (∀ q5, r3 = some q5 → q5 < K.1 ∧ (K.2.1 q5).1 = 5 ∧ (∃ q11, K.2.2 q5 8 = some q11 ∧ ∃ n12, q11 < K.1 ∧ K.2.1 q11 = (21, n12) ∧ vp_in p1 n12 ∧ (if ((I1 q11 p1.toNatClampNeg) : Int32) = 0 then Q (some (.int 0)) I1 L2 else Q (some (.int 1)) (zI I1 q11 p1.toNatClampNeg 0) L2)))))) : RM0 n0 xX12_straight (d + 1) [.ref (n0 + 0), .int p0, .int p1] K I L Q := by
  refine z_entry0 (by decide) (Nat.le_of_ble_eq_true rfl) ?_
  change Z n0 xX12_straight (d + 1) 0 0 0 [(0, .ref (n0 + 0)), (1, .int p0), (2, .int p1)] [] K I L (z_q0 K Q)
  refine z_aload_n 0 dX12_straight_0 rfl ?_
  refine z_iload_n 1 dX12_straight_1 rfl ?_
  refine z_iload_n 2 dX12_straight_2 rfl ?_
  refine z_callV0 (As := [.int p0, .int p1]) (st := []) dX12_straight_3 hy_X12_pieceWith (co_0 hL).1 (co_0 hL).2 (by decide) wg_655 wg_657 wg_6 (Nat.le_refl _) (Nat.le_of_ble_eq_true rfl) (RM0.mono h ?_)
  clear h
  intro vv I1 L2 h
  obtain ⟨r3, rfl, h⟩ := h
  change Z n0 xX12_straight (d + 1) 0 0 6 [(0, .ref (n0 + 0)), (1, .int p0), (2, .int p1)] [zr n0 r3] K I1 L2 (z_q0 K Q)
  refine z_astore_nO [1, 2, 3, 0] [(0, .ref (n0 + 0)), (1, .int p0), (2, .int p1), (3, zr n0 r3)] dX12_straight_6 (by decide) (fun v hv => by subst hv; rfl) ?_
  refine z_aload_nO 3 dX12_straight_7 rfl ?_
  refine z_ifnonnull 17 dX12_straight_8 (by decide) (fun q5 g4 => ?_) (fun g4 => ?_)
  · replace h := h.2 q5 g4
    subst g4
    change Z n0 xX12_straight (d + 1) 0 0 17 [(0, .ref (n0 + 0)), (1, .int p0), (2, .int p1), (3, .ref (n0 + q5))] [] K I1 L2 (z_q0 K Q)
    refine z_aload_n 3 dX12_straight_17 rfl ?_
    obtain ⟨o9, o10, h⟩ := h
    obtain ⟨q11, q11e, h⟩ := h
    refine fg_12_218 (some q11) rfl dX12_straight_18 o9 o10 q11e ?_
    refine z_iload_n 2 dX12_straight_21 rfl ?_
    obtain ⟨n12, o13, o14, o15, h⟩ := h
    refine z_zald (I1 q11 p1.toNatClampNeg) dX12_straight_22 o13 o14 o15 rfl ?_
    refine z_if_ne 28 dX12_straight_23 (by decide) (fun g16 => ?_) (fun g16 => ?_)
    · rw [if_neg g16] at h
      refine z_aload_n 3 dX12_straight_28 rfl ?_
      refine fg_12_218 (some q11) rfl dX12_straight_29 o9 o10 q11e ?_
      refine z_iload_n 2 dX12_straight_32 rfl ?_
      refine z_iconst 0 dX12_straight_33 (by decide) ?_
      refine z_zastb dX12_straight_34 o13 o14 o15 (Or.inl rfl) ?_
      refine z_iconst 1 dX12_straight_35 (by decide) ?_
      exact z_iret dX12_straight_36 rfl ⟨rfl, h⟩
    · rw [if_pos g16] at h
      refine z_iconst 0 dX12_straight_26 (by decide) ?_
      exact z_iret dX12_straight_27 rfl ⟨rfl, h⟩
  · replace h := h.1 g4
    subst g4
    change Z n0 xX12_straight (d + 1) 0 0 11 [(0, .ref (n0 + 0)), (1, .int p0), (2, .int p1), (3, .null)] [] K I1 L2 (z_q0 K Q)
    refine z_aload_n 0 dX12_straight_11 rfl ?_
    refine z_iconst (-1) dX12_straight_12 (by decide) ?_
    refine z_callV0 (As := [.int (-1)]) (st := []) dX12_straight_13 hy_X12_refuse (co_0 hL).1 (co_0 hL).2 (by decide) wg_462 wg_464 wg_0 (Nat.le_refl _) (Nat.le_of_ble_eq_true rfl) (RM0.mono h ?_)
    clear h
    intro vv I6 L7 h
    obtain ⟨r8, rfl, h⟩ := h
    change Z n0 xX12_straight (d + 1) 0 0 16 [(0, .ref (n0 + 0)), (1, .int p0), (2, .int p1), (3, .null)] [.int r8] K I6 L7 (z_q0 K Q)
    exact z_iret dX12_straight_16 rfl ⟨rfl, h⟩
theorem dX12_at_0 : decode cX12_at 0 = .ok (.aload_n 0, 1) := by decide +kernel
theorem dX12_at_1 : decode cX12_at 1 = .ok (.iload_n 1, 1) := by decide +kernel
theorem dX12_at_2 : decode cX12_at 2 = .ok (.iload_n 2, 1) := by decide +kernel
theorem dX12_at_3 : decode cX12_at 3 = .ok (.invokevirtual 160, 3) := by decide +kernel
theorem dX12_at_6 : decode cX12_at 6 = .ok (.astore 6, 2) := by decide +kernel
theorem dX12_at_8 : decode cX12_at 8 = .ok (.aload 6, 2) := by decide +kernel
theorem dX12_at_10 : decode cX12_at 10 = .ok (.ifnull 10, 3) := by decide +kernel
theorem dX12_at_13 : decode cX12_at 13 = .ok (.iload_n 3, 1) := by decide +kernel
theorem dX12_at_14 : decode cX12_at 14 = .ok (.invokestatic 97, 3) := by decide +kernel
theorem dX12_at_17 : decode cX12_at 17 = .ok (.ifCond .ne 9, 3) := by decide +kernel
theorem dX12_at_20 : decode cX12_at 20 = .ok (.aload_n 0, 1) := by decide +kernel
theorem dX12_at_21 : decode cX12_at 21 = .ok (.iconst (-1), 1) := by decide +kernel
theorem dX12_at_22 : decode cX12_at 22 = .ok (.invokevirtual 126, 3) := by decide +kernel
theorem dX12_at_25 : decode cX12_at 25 = .ok (.ireturn, 1) := by decide +kernel
theorem dX12_at_26 : decode cX12_at 26 = .ok (.iload 5, 2) := by decide +kernel
theorem dX12_at_28 : decode cX12_at 28 = .ok (.invokestatic 228, 3) := by decide +kernel
theorem dX12_at_31 : decode cX12_at 31 = .ok (.ifCond .ne 10, 3) := by decide +kernel
theorem dX12_at_34 : decode cX12_at 34 = .ok (.aload_n 0, 1) := by decide +kernel
theorem dX12_at_35 : decode cX12_at 35 = .ok (.bipush (-2), 2) := by decide +kernel
theorem dX12_at_37 : decode cX12_at 37 = .ok (.invokevirtual 126, 3) := by decide +kernel
theorem dX12_at_40 : decode cX12_at 40 = .ok (.ireturn, 1) := by decide +kernel
theorem dX12_at_41 : decode cX12_at 41 = .ok (.iload 4, 2) := by decide +kernel
theorem dX12_at_43 : decode cX12_at 43 = .ok (.iconst 0, 1) := by decide +kernel
theorem dX12_at_44 : decode cX12_at 44 = .ok (.sipush 1000, 3) := by decide +kernel
theorem dX12_at_47 : decode cX12_at 47 = .ok (.invokestatic 100, 3) := by decide +kernel
theorem dX12_at_50 : decode cX12_at 50 = .ok (.istore 7, 2) := by decide +kernel
theorem dX12_at_52 : decode cX12_at 52 = .ok (.iload 7, 2) := by decide +kernel
theorem dX12_at_54 : decode cX12_at 54 = .ok (.ifCond .eq 10, 3) := by decide +kernel
theorem dX12_at_57 : decode cX12_at 57 = .ok (.aload_n 0, 1) := by decide +kernel
theorem dX12_at_58 : decode cX12_at 58 = .ok (.iload 7, 2) := by decide +kernel
theorem dX12_at_60 : decode cX12_at 60 = .ok (.invokevirtual 126, 3) := by decide +kernel
theorem dX12_at_63 : decode cX12_at 63 = .ok (.ireturn, 1) := by decide +kernel
theorem dX12_at_64 : decode cX12_at 64 = .ok (.aload_n 0, 1) := by decide +kernel
theorem dX12_at_65 : decode cX12_at 65 = .ok (.iload_n 3, 1) := by decide +kernel
theorem dX12_at_66 : decode cX12_at 66 = .ok (.iload 4, 2) := by decide +kernel
theorem dX12_at_68 : decode cX12_at 68 = .ok (.invokevirtual 231, 3) := by decide +kernel
theorem dX12_at_71 : decode cX12_at 71 = .ok (.aload_n 0, 1) := by decide +kernel
theorem dX12_at_72 : decode cX12_at 72 = .ok (.getfield 41, 3) := by decide +kernel
theorem dX12_at_75 : decode cX12_at 75 = .ok (.aload 6, 2) := by decide +kernel
theorem dX12_at_77 : decode cX12_at 77 = .ok (.invokevirtual 235, 3) := by decide +kernel
theorem dX12_at_80 : decode cX12_at 80 = .ok (.ifCond .ne 10, 3) := by decide +kernel
theorem dX12_at_83 : decode cX12_at 83 = .ok (.aload_n 0, 1) := by decide +kernel
theorem dX12_at_84 : decode cX12_at 84 = .ok (.bipush (-7), 2) := by decide +kernel
theorem dX12_at_86 : decode cX12_at 86 = .ok (.invokevirtual 126, 3) := by decide +kernel
theorem dX12_at_89 : decode cX12_at 89 = .ok (.ireturn, 1) := by decide +kernel
theorem dX12_at_90 : decode cX12_at 90 = .ok (.aload_n 0, 1) := by decide +kernel
theorem dX12_at_91 : decode cX12_at 91 = .ok (.getfield 41, 3) := by decide +kernel
theorem dX12_at_94 : decode cX12_at 94 = .ok (.aload 6, 2) := by decide +kernel
theorem dX12_at_96 : decode cX12_at 96 = .ok (.iload_n 2, 1) := by decide +kernel
theorem dX12_at_97 : decode cX12_at 97 = .ok (.iload 5, 2) := by decide +kernel
theorem dX12_at_99 : decode cX12_at 99 = .ok (.invokevirtual 239, 3) := by decide +kernel
theorem dX12_at_102 : decode cX12_at 102 = .ok (.ireturn, 1) := by decide +kernel
set_option maxRecDepth 100000 in
set_option maxHeartbeats 4000000 in
theorem wp_X12_at {n0 d : Nat} {K : z_K} {I : z_I} {L : z_L} {Q : z_R} {p0 : Int32} {p1 : Int32} {p2 : Int32} {p3 : Int32} {p4 : Int32} (hL : CLay K) (h : RM0 n0 xX12_pieceWith d [.ref (n0 + 0), .int p0, .int p1] K I L (fun vv I1 L2 => ∃ r3 : Option Nat, vv = some (zr n0 r3) ∧ ((r3 = none → RM0 n0 xX12_refuseApart d [.ref (n0 + 0), .int (-1)] K I1 L2 (fun vv I6 L7 => ∃ r8 : Int32, vv = some (.int r8) ∧ Q (some (.int r8)) K I6 L7)) ∧ (∀ q5, r3 = some q5 → RM0 n0 xX12_isSize d [.int p2] K I1 L2 (fun vv I9 L10 => ∃ r11 : Int32, vv = some (.int r11) ∧ (if r11 = 0 then RM0 n0 xX12_refuseApart d [.ref (n0 + 0), .int (-1)] K I9 L10 (fun vv I43 L44 => ∃ r45 : Int32, vv = some (.int r45) ∧ Q (some (.int r45)) K I43 L44) else RM0 n0 xX12_isAxis d [.int p4] K I9 L10 (fun vv I13 L14 => ∃ r15 : Int32, vv = some (.int r15) ∧ (if r15 = 0 then RM0 n0 xX12_refuseApart d [.ref (n0 + 0), .int (-2)] K I13 L14 (fun vv I40 L41 => ∃ r42 : Int32, vv = some (.int r42) ∧ Q (some (.int r42)) K I40 L41) else RM0 n0 xX12_outside d [.int p3, .int 0, .int 1000] K I13 L14 (fun vv I17 L18 => ∃ r19 : Int32, vv = some (.int r19) ∧ (if r19 = 0 then RM n0 xX12_drawAt d 0 0 [.ref (n0 + 0), .int p2, .int p3] K I17 L18 (fun vv K23 I21 L22 => vv = none ∧ CLay K23 ∧ RM n0 xX2_sound d 0 0 [.ref (n0 + 8), .ref (n0 + q5)] K23 I21 L22 (fun vv K27 I25 L26 => ∃ r28 : Int32, vv = some (.int r28) ∧ CLay K27 ∧ (if r28 = 0 then RM0 n0 xX12_refuseApart d [.ref (n0 + 0), .int (-7)] K27 I25 L26 (fun vv I34 L35 => ∃ r36 : Int32, vv = some (.int r36) ∧ Q (some (.int r36)) K27 I34 L35) else RM0 n0 xX2_placeOf d [.ref (n0 + 8), .ref (n0 + q5), .int p1, .int p4] K27 I25 L26 (fun vv I31 L32 => ∃ r33 : Int32, vv = some (.int r33) ∧ Q (some (.int r33)) K27 I31 L32)))) else RM0 n0 xX12_refuseApart d [.ref (n0 + 0), .int r19] K I17 L18 (fun vv I37 L38 => ∃ r39 : Int32, vv = some (.int r39) ∧ Q (some (.int r39)) K I37 L38))))))))))) : RM n0 xX12_at (d + 1) 0 0 [.ref (n0 + 0), .int p0, .int p1, .int p2, .int p3, .int p4] K I L Q := by
  refine z_entry (by decide) (Nat.le_of_ble_eq_true rfl) ?_
  change Z n0 xX12_at (d + 1) 0 0 0 [(0, .ref (n0 + 0)), (1, .int p0), (2, .int p1), (3, .int p2), (4, .int p3), (5, .int p4)] [] K I L Q
  refine z_aload_n 0 dX12_at_0 rfl ?_
  refine z_iload_n 1 dX12_at_1 rfl ?_
  refine z_iload_n 2 dX12_at_2 rfl ?_
  refine z_callV0 (As := [.int p0, .int p1]) (st := []) dX12_at_3 hy_X12_pieceWith (co_0 hL).1 (co_0 hL).2 (by decide) wg_655 wg_657 wg_6 (Nat.le_refl _) (Nat.le_of_ble_eq_true rfl) (RM0.mono h ?_)
  clear h
  intro vv I1 L2 h
  obtain ⟨r3, rfl, h⟩ := h
  change Z n0 xX12_at (d + 1) 0 0 6 [(0, .ref (n0 + 0)), (1, .int p0), (2, .int p1), (3, .int p2), (4, .int p3), (5, .int p4)] [zr n0 r3] K I1 L2 Q
  refine z_astoreO [1, 2, 3, 4, 5, 6, 0] [(0, .ref (n0 + 0)), (1, .int p0), (2, .int p1), (3, .int p2), (4, .int p3), (5, .int p4), (6, zr n0 r3)] dX12_at_6 (by decide) (fun v hv => by subst hv; rfl) ?_
  refine z_aloadO 6 dX12_at_8 rfl ?_
  refine z_ifnull 20 dX12_at_10 (by decide) (fun g4 => ?_) (fun q5 g4 => ?_)
  · replace h := h.1 g4
    subst g4
    change Z n0 xX12_at (d + 1) 0 0 20 [(0, .ref (n0 + 0)), (1, .int p0), (2, .int p1), (3, .int p2), (4, .int p3), (5, .int p4), (6, .null)] [] K I1 L2 Q
    refine z_aload_n 0 dX12_at_20 rfl ?_
    refine z_iconst (-1) dX12_at_21 (by decide) ?_
    refine z_callV0 (As := [.int (-1)]) (st := []) dX12_at_22 hy_X12_refuseApart (co_0 hL).1 (co_0 hL).2 (by decide) wg_555 wg_557 wg_3 (Nat.le_refl _) (Nat.le_of_ble_eq_true rfl) (RM0.mono h ?_)
    clear h
    intro vv I6 L7 h
    obtain ⟨r8, rfl, h⟩ := h
    change Z n0 xX12_at (d + 1) 0 0 25 [(0, .ref (n0 + 0)), (1, .int p0), (2, .int p1), (3, .int p2), (4, .int p3), (5, .int p4), (6, .null)] [.int r8] K I6 L7 Q
    exact z_iret dX12_at_25 rfl h
  · replace h := h.2 q5 g4
    subst g4
    change Z n0 xX12_at (d + 1) 0 0 13 [(0, .ref (n0 + 0)), (1, .int p0), (2, .int p1), (3, .int p2), (4, .int p3), (5, .int p4), (6, .ref (n0 + q5))] [] K I1 L2 Q
    refine z_iload_n 3 dX12_at_13 rfl ?_
    refine z_callS0 (As := [.int p2]) (st := []) dX12_at_14 hy_X12_isSize wg_473 wg_474 (Nat.le_refl _) (Nat.le_of_ble_eq_true rfl) (RM0.mono h ?_)
    clear h
    intro vv I9 L10 h
    obtain ⟨r11, rfl, h⟩ := h
    change Z n0 xX12_at (d + 1) 0 0 17 [(0, .ref (n0 + 0)), (1, .int p0), (2, .int p1), (3, .int p2), (4, .int p3), (5, .int p4), (6, .ref (n0 + q5))] [.int r11] K I9 L10 Q
    refine z_if_ne 26 dX12_at_17 (by decide) (fun g12 => ?_) (fun g12 => ?_)
    · rw [if_neg g12] at h
      refine z_iload 5 dX12_at_26 rfl ?_
      refine z_callS0 (As := [.int p4]) (st := []) dX12_at_28 hy_X12_isAxis wg_828 wg_829 (Nat.le_refl _) (Nat.le_of_ble_eq_true rfl) (RM0.mono h ?_)
      clear h
      intro vv I13 L14 h
      obtain ⟨r15, rfl, h⟩ := h
      change Z n0 xX12_at (d + 1) 0 0 31 [(0, .ref (n0 + 0)), (1, .int p0), (2, .int p1), (3, .int p2), (4, .int p3), (5, .int p4), (6, .ref (n0 + q5))] [.int r15] K I13 L14 Q
      refine z_if_ne 41 dX12_at_31 (by decide) (fun g16 => ?_) (fun g16 => ?_)
      · rw [if_neg g16] at h
        refine z_iload 4 dX12_at_41 rfl ?_
        refine z_iconst 0 dX12_at_43 (by decide) ?_
        refine z_sipush 1000 dX12_at_44 (by decide) ?_
        refine z_callS0 (As := [.int p3, .int 0, .int 1000]) (st := []) dX12_at_47 hy_X12_outside wg_476 wg_477 (Nat.le_refl _) (Nat.le_of_ble_eq_true rfl) (RM0.mono h ?_)
        clear h
        intro vv I17 L18 h
        obtain ⟨r19, rfl, h⟩ := h
        change Z n0 xX12_at (d + 1) 0 0 50 [(0, .ref (n0 + 0)), (1, .int p0), (2, .int p1), (3, .int p2), (4, .int p3), (5, .int p4), (6, .ref (n0 + q5))] [.int r19] K I17 L18 Q
        refine z_istore [1, 2, 3, 4, 5, 6, 7, 0] [(0, .ref (n0 + 0)), (1, .int p0), (2, .int p1), (3, .int p2), (4, .int p3), (5, .int p4), (6, .ref (n0 + q5)), (7, .int r19)] dX12_at_50 (by decide) rfl ?_
        refine z_iload 7 dX12_at_52 rfl ?_
        refine z_if_eq 64 dX12_at_54 (by decide) (fun g20 => ?_) (fun g20 => ?_)
        · rw [if_pos g20] at h
          refine z_aload_n 0 dX12_at_64 rfl ?_
          refine z_iload_n 3 dX12_at_65 rfl ?_
          refine z_iload 4 dX12_at_66 rfl ?_
          refine z_callV (rc := 0) (rs := 0) (mc1 := 0) (ms1 := 0) (As := [.int p2, .int p3]) (st := []) dX12_at_68 hy_X12_drawAt (co_0 hL).1 (co_0 hL).2 (by decide) wg_831 wg_833 wg_19 (Nat.le_refl _) (Nat.le_of_ble_eq_true rfl) (RM.mono h ?_)
          clear h
          intro vv K23 I21 L22 h
          obtain ⟨rfl, h⟩ := h
          obtain ⟨hL24, h⟩ := h
          change Z n0 xX12_at (d + 1) 0 0 71 [(0, .ref (n0 + 0)), (1, .int p0), (2, .int p1), (3, .int p2), (4, .int p3), (5, .int p4), (6, .ref (n0 + q5)), (7, .int r19)] [] K23 I21 L22 Q
          refine z_aload_n 0 dX12_at_71 rfl ?_
          refine fg_12_41 (some 8) rfl dX12_at_72 (co_0 hL24).1 (co_0 hL24).2 (cp_8 hL24) ?_
          refine z_aload 6 dX12_at_75 rfl ?_
          refine z_callV (rc := 0) (rs := 0) (mc1 := 0) (ms1 := 0) (As := [.ref (n0 + q5)]) (st := []) dX12_at_77 hy_X2_sound (co_8 hL24).1 (co_8 hL24).2 (by decide) wg_839 wg_840 wg_841 (Nat.le_refl _) (Nat.le_of_ble_eq_true rfl) (RM.mono h ?_)
          clear h
          intro vv K27 I25 L26 h
          obtain ⟨r28, rfl, h⟩ := h
          obtain ⟨hL29, h⟩ := h
          change Z n0 xX12_at (d + 1) 0 0 80 [(0, .ref (n0 + 0)), (1, .int p0), (2, .int p1), (3, .int p2), (4, .int p3), (5, .int p4), (6, .ref (n0 + q5)), (7, .int r19)] [.int r28] K27 I25 L26 Q
          refine z_if_ne 90 dX12_at_80 (by decide) (fun g30 => ?_) (fun g30 => ?_)
          · rw [if_neg g30] at h
            refine z_aload_n 0 dX12_at_90 rfl ?_
            refine fg_12_41 (some 8) rfl dX12_at_91 (co_0 hL29).1 (co_0 hL29).2 (cp_8 hL29) ?_
            refine z_aload 6 dX12_at_94 rfl ?_
            refine z_iload_n 2 dX12_at_96 rfl ?_
            refine z_iload 5 dX12_at_97 rfl ?_
            refine z_callV0 (As := [.ref (n0 + q5), .int p1, .int p4]) (st := []) dX12_at_99 hy_X2_placeOf (co_8 hL29).1 (co_8 hL29).2 (by decide) wg_882 wg_875 wg_876 (Nat.le_refl _) (Nat.le_of_ble_eq_true rfl) (RM0.mono h ?_)
            clear h
            intro vv I31 L32 h
            obtain ⟨r33, rfl, h⟩ := h
            change Z n0 xX12_at (d + 1) 0 0 102 [(0, .ref (n0 + 0)), (1, .int p0), (2, .int p1), (3, .int p2), (4, .int p3), (5, .int p4), (6, .ref (n0 + q5)), (7, .int r19)] [.int r33] K27 I31 L32 Q
            exact z_iret dX12_at_102 rfl h
          · rw [if_pos g30] at h
            refine z_aload_n 0 dX12_at_83 rfl ?_
            refine z_bipush (-7) dX12_at_84 (by decide) ?_
            refine z_callV0 (As := [.int (-7)]) (st := []) dX12_at_86 hy_X12_refuseApart (co_0 hL29).1 (co_0 hL29).2 (by decide) wg_555 wg_557 wg_3 (Nat.le_refl _) (Nat.le_of_ble_eq_true rfl) (RM0.mono h ?_)
            clear h
            intro vv I34 L35 h
            obtain ⟨r36, rfl, h⟩ := h
            change Z n0 xX12_at (d + 1) 0 0 89 [(0, .ref (n0 + 0)), (1, .int p0), (2, .int p1), (3, .int p2), (4, .int p3), (5, .int p4), (6, .ref (n0 + q5)), (7, .int r19)] [.int r36] K27 I34 L35 Q
            exact z_iret dX12_at_89 rfl h
        · rw [if_neg g20] at h
          refine z_aload_n 0 dX12_at_57 rfl ?_
          refine z_iload 7 dX12_at_58 rfl ?_
          refine z_callV0 (As := [.int r19]) (st := []) dX12_at_60 hy_X12_refuseApart (co_0 hL).1 (co_0 hL).2 (by decide) wg_555 wg_557 wg_3 (Nat.le_refl _) (Nat.le_of_ble_eq_true rfl) (RM0.mono h ?_)
          clear h
          intro vv I37 L38 h
          obtain ⟨r39, rfl, h⟩ := h
          change Z n0 xX12_at (d + 1) 0 0 63 [(0, .ref (n0 + 0)), (1, .int p0), (2, .int p1), (3, .int p2), (4, .int p3), (5, .int p4), (6, .ref (n0 + q5)), (7, .int r19)] [.int r39] K I37 L38 Q
          exact z_iret dX12_at_63 rfl h
      · rw [if_pos g16] at h
        refine z_aload_n 0 dX12_at_34 rfl ?_
        refine z_bipush (-2) dX12_at_35 (by decide) ?_
        refine z_callV0 (As := [.int (-2)]) (st := []) dX12_at_37 hy_X12_refuseApart (co_0 hL).1 (co_0 hL).2 (by decide) wg_555 wg_557 wg_3 (Nat.le_refl _) (Nat.le_of_ble_eq_true rfl) (RM0.mono h ?_)
        clear h
        intro vv I40 L41 h
        obtain ⟨r42, rfl, h⟩ := h
        change Z n0 xX12_at (d + 1) 0 0 40 [(0, .ref (n0 + 0)), (1, .int p0), (2, .int p1), (3, .int p2), (4, .int p3), (5, .int p4), (6, .ref (n0 + q5))] [.int r42] K I40 L41 Q
        exact z_iret dX12_at_40 rfl h
    · rw [if_pos g12] at h
      refine z_aload_n 0 dX12_at_20 rfl ?_
      refine z_iconst (-1) dX12_at_21 (by decide) ?_
      refine z_callV0 (As := [.int (-1)]) (st := []) dX12_at_22 hy_X12_refuseApart (co_0 hL).1 (co_0 hL).2 (by decide) wg_555 wg_557 wg_3 (Nat.le_refl _) (Nat.le_of_ble_eq_true rfl) (RM0.mono h ?_)
      clear h
      intro vv I43 L44 h
      obtain ⟨r45, rfl, h⟩ := h
      change Z n0 xX12_at (d + 1) 0 0 25 [(0, .ref (n0 + 0)), (1, .int p0), (2, .int p1), (3, .int p2), (4, .int p3), (5, .int p4), (6, .ref (n0 + q5))] [.int r45] K I43 L44 Q
      exact z_iret dX12_at_25 rfl h
theorem dX12_on_0 : decode cX12_on 0 = .ok (.aload_n 0, 1) := by decide +kernel
theorem dX12_on_1 : decode cX12_on 1 = .ok (.iload_n 1, 1) := by decide +kernel
theorem dX12_on_2 : decode cX12_on 2 = .ok (.iload_n 2, 1) := by decide +kernel
theorem dX12_on_3 : decode cX12_on 3 = .ok (.invokevirtual 160, 3) := by decide +kernel
theorem dX12_on_6 : decode cX12_on 6 = .ok (.astore 5, 2) := by decide +kernel
theorem dX12_on_8 : decode cX12_on 8 = .ok (.aload_n 0, 1) := by decide +kernel
theorem dX12_on_9 : decode cX12_on 9 = .ok (.iload_n 3, 1) := by decide +kernel
theorem dX12_on_10 : decode cX12_on 10 = .ok (.invokevirtual 122, 3) := by decide +kernel
theorem dX12_on_13 : decode cX12_on 13 = .ok (.astore 6, 2) := by decide +kernel
theorem dX12_on_15 : decode cX12_on 15 = .ok (.aload 5, 2) := by decide +kernel
theorem dX12_on_17 : decode cX12_on 17 = .ok (.ifnull 8, 3) := by decide +kernel
theorem dX12_on_20 : decode cX12_on 20 = .ok (.aload 6, 2) := by decide +kernel
theorem dX12_on_22 : decode cX12_on 22 = .ok (.ifnonnull 9, 3) := by decide +kernel
theorem dX12_on_25 : decode cX12_on 25 = .ok (.aload_n 0, 1) := by decide +kernel
theorem dX12_on_26 : decode cX12_on 26 = .ok (.iconst (-1), 1) := by decide +kernel
theorem dX12_on_27 : decode cX12_on 27 = .ok (.invokevirtual 126, 3) := by decide +kernel
theorem dX12_on_30 : decode cX12_on 30 = .ok (.ireturn, 1) := by decide +kernel
theorem dX12_on_31 : decode cX12_on 31 = .ok (.iload 4, 2) := by decide +kernel
theorem dX12_on_33 : decode cX12_on 33 = .ok (.invokestatic 228, 3) := by decide +kernel
theorem dX12_on_36 : decode cX12_on 36 = .ok (.ifCond .ne 10, 3) := by decide +kernel
theorem dX12_on_39 : decode cX12_on 39 = .ok (.aload_n 0, 1) := by decide +kernel
theorem dX12_on_40 : decode cX12_on 40 = .ok (.bipush (-2), 2) := by decide +kernel
theorem dX12_on_42 : decode cX12_on 42 = .ok (.invokevirtual 126, 3) := by decide +kernel
theorem dX12_on_45 : decode cX12_on 45 = .ok (.ireturn, 1) := by decide +kernel
theorem dX12_on_46 : decode cX12_on 46 = .ok (.aload_n 0, 1) := by decide +kernel
theorem dX12_on_47 : decode cX12_on 47 = .ok (.aload 6, 2) := by decide +kernel
theorem dX12_on_49 : decode cX12_on 49 = .ok (.invokevirtual 242, 3) := by decide +kernel
theorem dX12_on_52 : decode cX12_on 52 = .ok (.aload_n 0, 1) := by decide +kernel
theorem dX12_on_53 : decode cX12_on 53 = .ok (.getfield 41, 3) := by decide +kernel
theorem dX12_on_56 : decode cX12_on 56 = .ok (.aload 5, 2) := by decide +kernel
theorem dX12_on_58 : decode cX12_on 58 = .ok (.invokevirtual 235, 3) := by decide +kernel
theorem dX12_on_61 : decode cX12_on 61 = .ok (.ifCond .ne 10, 3) := by decide +kernel
theorem dX12_on_64 : decode cX12_on 64 = .ok (.aload_n 0, 1) := by decide +kernel
theorem dX12_on_65 : decode cX12_on 65 = .ok (.bipush (-7), 2) := by decide +kernel
theorem dX12_on_67 : decode cX12_on 67 = .ok (.invokevirtual 126, 3) := by decide +kernel
theorem dX12_on_70 : decode cX12_on 70 = .ok (.ireturn, 1) := by decide +kernel
theorem dX12_on_71 : decode cX12_on 71 = .ok (.aload_n 0, 1) := by decide +kernel
theorem dX12_on_72 : decode cX12_on 72 = .ok (.getfield 41, 3) := by decide +kernel
theorem dX12_on_75 : decode cX12_on 75 = .ok (.aload 5, 2) := by decide +kernel
theorem dX12_on_77 : decode cX12_on 77 = .ok (.iload_n 2, 1) := by decide +kernel
theorem dX12_on_78 : decode cX12_on 78 = .ok (.iload 4, 2) := by decide +kernel
theorem dX12_on_80 : decode cX12_on 80 = .ok (.invokevirtual 239, 3) := by decide +kernel
theorem dX12_on_83 : decode cX12_on 83 = .ok (.ireturn, 1) := by decide +kernel
set_option maxRecDepth 100000 in
set_option maxHeartbeats 4000000 in
theorem wp_X12_on {n0 d : Nat} {K : z_K} {I : z_I} {L : z_L} {Q : z_R} {p0 : Int32} {p1 : Int32} {p2 : Int32} {p3 : Int32} (hL : CLay K) (h : RM0 n0 xX12_pieceWith d [.ref (n0 + 0), .int p0, .int p1] K I L (fun vv I1 L2 => ∃ r3 : Option Nat, vv = some (zr n0 r3) ∧ RM0 n0 xX12_bodyOf d [.ref (n0 + 0), .int p2] K I1 L2 (fun vv I4 L5 => ∃ r6 : Option Nat, vv = some (zr n0 r6) ∧ ((r3 = none → RM0 n0 xX12_refuseApart d [.ref (n0 + 0), .int (-1)] K I4 L5 (fun vv I9 L10 => ∃ r11 : Int32, vv = some (.int r11) ∧ Q (some (.int r11)) K I9 L10)) ∧ (∀ q8, r3 = some q8 → ((r6 = none → RM0 n0 xX12_refuseApart d [.ref (n0 + 0), .int (-1)] K I4 L5 (fun vv I14 L15 => ∃ r16 : Int32, vv = some (.int r16) ∧ Q (some (.int r16)) K I14 L15)) ∧ (∀ q13, r6 = some q13 → RM0 n0 xX12_isAxis d [.int p3] K I4 L5 (fun vv I17 L18 => ∃ r19 : Int32, vv = some (.int r19) ∧ (if r19 = 0 then RM0 n0 xX12_refuseApart d [.ref (n0 + 0), .int (-2)] K I17 L18 (fun vv I37 L38 => ∃ r39 : Int32, vv = some (.int r39) ∧ Q (some (.int r39)) K I37 L38) else RM n0 xX12_drawFor d 0 0 [.ref (n0 + 0), .ref (n0 + q13)] K I17 L18 (fun vv K23 I21 L22 => vv = none ∧ CLay K23 ∧ RM n0 xX2_sound d 0 0 [.ref (n0 + 8), .ref (n0 + q8)] K23 I21 L22 (fun vv K27 I25 L26 => ∃ r28 : Int32, vv = some (.int r28) ∧ CLay K27 ∧ (if r28 = 0 then RM0 n0 xX12_refuseApart d [.ref (n0 + 0), .int (-7)] K27 I25 L26 (fun vv I34 L35 => ∃ r36 : Int32, vv = some (.int r36) ∧ Q (some (.int r36)) K27 I34 L35) else RM0 n0 xX2_placeOf d [.ref (n0 + 8), .ref (n0 + q8), .int p1, .int p3] K27 I25 L26 (fun vv I31 L32 => ∃ r33 : Int32, vv = some (.int r33) ∧ Q (some (.int r33)) K27 I31 L32))))))))))))) : RM n0 xX12_on (d + 1) 0 0 [.ref (n0 + 0), .int p0, .int p1, .int p2, .int p3] K I L Q := by
  refine z_entry (by decide) (Nat.le_of_ble_eq_true rfl) ?_
  change Z n0 xX12_on (d + 1) 0 0 0 [(0, .ref (n0 + 0)), (1, .int p0), (2, .int p1), (3, .int p2), (4, .int p3)] [] K I L Q
  refine z_aload_n 0 dX12_on_0 rfl ?_
  refine z_iload_n 1 dX12_on_1 rfl ?_
  refine z_iload_n 2 dX12_on_2 rfl ?_
  refine z_callV0 (As := [.int p0, .int p1]) (st := []) dX12_on_3 hy_X12_pieceWith (co_0 hL).1 (co_0 hL).2 (by decide) wg_655 wg_657 wg_6 (Nat.le_refl _) (Nat.le_of_ble_eq_true rfl) (RM0.mono h ?_)
  clear h
  intro vv I1 L2 h
  obtain ⟨r3, rfl, h⟩ := h
  change Z n0 xX12_on (d + 1) 0 0 6 [(0, .ref (n0 + 0)), (1, .int p0), (2, .int p1), (3, .int p2), (4, .int p3)] [zr n0 r3] K I1 L2 Q
  refine z_astoreO [1, 2, 3, 4, 5, 0] [(0, .ref (n0 + 0)), (1, .int p0), (2, .int p1), (3, .int p2), (4, .int p3), (5, zr n0 r3)] dX12_on_6 (by decide) (fun v hv => by subst hv; rfl) ?_
  refine z_aload_n 0 dX12_on_8 rfl ?_
  refine z_iload_n 3 dX12_on_9 rfl ?_
  refine z_callV0 (As := [.int p2]) (st := []) dX12_on_10 hy_X12_bodyOf (co_0 hL).1 (co_0 hL).2 (by decide) wg_551 wg_553 wg_2 (Nat.le_refl _) (Nat.le_of_ble_eq_true rfl) (RM0.mono h ?_)
  clear h
  intro vv I4 L5 h
  obtain ⟨r6, rfl, h⟩ := h
  change Z n0 xX12_on (d + 1) 0 0 13 [(0, .ref (n0 + 0)), (1, .int p0), (2, .int p1), (3, .int p2), (4, .int p3), (5, zr n0 r3)] [zr n0 r6] K I4 L5 Q
  refine z_astoreO [1, 2, 3, 4, 5, 6, 0] [(0, .ref (n0 + 0)), (1, .int p0), (2, .int p1), (3, .int p2), (4, .int p3), (5, zr n0 r3), (6, zr n0 r6)] dX12_on_13 (by decide) (fun v hv => by subst hv; cases r3 <;> rfl) ?_
  refine z_aloadO 5 dX12_on_15 rfl ?_
  refine z_ifnull 25 dX12_on_17 (by decide) (fun g7 => ?_) (fun q8 g7 => ?_)
  · replace h := h.1 g7
    subst g7
    change Z n0 xX12_on (d + 1) 0 0 25 [(0, .ref (n0 + 0)), (1, .int p0), (2, .int p1), (3, .int p2), (4, .int p3), (5, .null), (6, zr n0 r6)] [] K I4 L5 Q
    refine z_aload_n 0 dX12_on_25 rfl ?_
    refine z_iconst (-1) dX12_on_26 (by decide) ?_
    refine z_callV0 (As := [.int (-1)]) (st := []) dX12_on_27 hy_X12_refuseApart (co_0 hL).1 (co_0 hL).2 (by decide) wg_555 wg_557 wg_3 (Nat.le_refl _) (Nat.le_of_ble_eq_true rfl) (RM0.mono h ?_)
    clear h
    intro vv I9 L10 h
    obtain ⟨r11, rfl, h⟩ := h
    change Z n0 xX12_on (d + 1) 0 0 30 [(0, .ref (n0 + 0)), (1, .int p0), (2, .int p1), (3, .int p2), (4, .int p3), (5, .null), (6, zr n0 r6)] [.int r11] K I9 L10 Q
    exact z_iret dX12_on_30 rfl h
  · replace h := h.2 q8 g7
    subst g7
    change Z n0 xX12_on (d + 1) 0 0 20 [(0, .ref (n0 + 0)), (1, .int p0), (2, .int p1), (3, .int p2), (4, .int p3), (5, .ref (n0 + q8)), (6, zr n0 r6)] [] K I4 L5 Q
    refine z_aloadO 6 dX12_on_20 rfl ?_
    refine z_ifnonnull 31 dX12_on_22 (by decide) (fun q13 g12 => ?_) (fun g12 => ?_)
    · replace h := h.2 q13 g12
      subst g12
      change Z n0 xX12_on (d + 1) 0 0 31 [(0, .ref (n0 + 0)), (1, .int p0), (2, .int p1), (3, .int p2), (4, .int p3), (5, .ref (n0 + q8)), (6, .ref (n0 + q13))] [] K I4 L5 Q
      refine z_iload 4 dX12_on_31 rfl ?_
      refine z_callS0 (As := [.int p3]) (st := []) dX12_on_33 hy_X12_isAxis wg_828 wg_829 (Nat.le_refl _) (Nat.le_of_ble_eq_true rfl) (RM0.mono h ?_)
      clear h
      intro vv I17 L18 h
      obtain ⟨r19, rfl, h⟩ := h
      change Z n0 xX12_on (d + 1) 0 0 36 [(0, .ref (n0 + 0)), (1, .int p0), (2, .int p1), (3, .int p2), (4, .int p3), (5, .ref (n0 + q8)), (6, .ref (n0 + q13))] [.int r19] K I17 L18 Q
      refine z_if_ne 46 dX12_on_36 (by decide) (fun g20 => ?_) (fun g20 => ?_)
      · rw [if_neg g20] at h
        refine z_aload_n 0 dX12_on_46 rfl ?_
        refine z_aload 6 dX12_on_47 rfl ?_
        refine z_callV (rc := 0) (rs := 0) (mc1 := 0) (ms1 := 0) (As := [.ref (n0 + q13)]) (st := []) dX12_on_49 hy_X12_drawFor (co_0 hL).1 (co_0 hL).2 (by decide) wg_887 wg_889 wg_25 (Nat.le_refl _) (Nat.le_of_ble_eq_true rfl) (RM.mono h ?_)
        clear h
        intro vv K23 I21 L22 h
        obtain ⟨rfl, h⟩ := h
        obtain ⟨hL24, h⟩ := h
        change Z n0 xX12_on (d + 1) 0 0 52 [(0, .ref (n0 + 0)), (1, .int p0), (2, .int p1), (3, .int p2), (4, .int p3), (5, .ref (n0 + q8)), (6, .ref (n0 + q13))] [] K23 I21 L22 Q
        refine z_aload_n 0 dX12_on_52 rfl ?_
        refine fg_12_41 (some 8) rfl dX12_on_53 (co_0 hL24).1 (co_0 hL24).2 (cp_8 hL24) ?_
        refine z_aload 5 dX12_on_56 rfl ?_
        refine z_callV (rc := 0) (rs := 0) (mc1 := 0) (ms1 := 0) (As := [.ref (n0 + q8)]) (st := []) dX12_on_58 hy_X2_sound (co_8 hL24).1 (co_8 hL24).2 (by decide) wg_839 wg_840 wg_841 (Nat.le_refl _) (Nat.le_of_ble_eq_true rfl) (RM.mono h ?_)
        clear h
        intro vv K27 I25 L26 h
        obtain ⟨r28, rfl, h⟩ := h
        obtain ⟨hL29, h⟩ := h
        change Z n0 xX12_on (d + 1) 0 0 61 [(0, .ref (n0 + 0)), (1, .int p0), (2, .int p1), (3, .int p2), (4, .int p3), (5, .ref (n0 + q8)), (6, .ref (n0 + q13))] [.int r28] K27 I25 L26 Q
        refine z_if_ne 71 dX12_on_61 (by decide) (fun g30 => ?_) (fun g30 => ?_)
        · rw [if_neg g30] at h
          refine z_aload_n 0 dX12_on_71 rfl ?_
          refine fg_12_41 (some 8) rfl dX12_on_72 (co_0 hL29).1 (co_0 hL29).2 (cp_8 hL29) ?_
          refine z_aload 5 dX12_on_75 rfl ?_
          refine z_iload_n 2 dX12_on_77 rfl ?_
          refine z_iload 4 dX12_on_78 rfl ?_
          refine z_callV0 (As := [.ref (n0 + q8), .int p1, .int p3]) (st := []) dX12_on_80 hy_X2_placeOf (co_8 hL29).1 (co_8 hL29).2 (by decide) wg_882 wg_875 wg_876 (Nat.le_refl _) (Nat.le_of_ble_eq_true rfl) (RM0.mono h ?_)
          clear h
          intro vv I31 L32 h
          obtain ⟨r33, rfl, h⟩ := h
          change Z n0 xX12_on (d + 1) 0 0 83 [(0, .ref (n0 + 0)), (1, .int p0), (2, .int p1), (3, .int p2), (4, .int p3), (5, .ref (n0 + q8)), (6, .ref (n0 + q13))] [.int r33] K27 I31 L32 Q
          exact z_iret dX12_on_83 rfl h
        · rw [if_pos g30] at h
          refine z_aload_n 0 dX12_on_64 rfl ?_
          refine z_bipush (-7) dX12_on_65 (by decide) ?_
          refine z_callV0 (As := [.int (-7)]) (st := []) dX12_on_67 hy_X12_refuseApart (co_0 hL29).1 (co_0 hL29).2 (by decide) wg_555 wg_557 wg_3 (Nat.le_refl _) (Nat.le_of_ble_eq_true rfl) (RM0.mono h ?_)
          clear h
          intro vv I34 L35 h
          obtain ⟨r36, rfl, h⟩ := h
          change Z n0 xX12_on (d + 1) 0 0 70 [(0, .ref (n0 + 0)), (1, .int p0), (2, .int p1), (3, .int p2), (4, .int p3), (5, .ref (n0 + q8)), (6, .ref (n0 + q13))] [.int r36] K27 I34 L35 Q
          exact z_iret dX12_on_70 rfl h
      · rw [if_pos g20] at h
        refine z_aload_n 0 dX12_on_39 rfl ?_
        refine z_bipush (-2) dX12_on_40 (by decide) ?_
        refine z_callV0 (As := [.int (-2)]) (st := []) dX12_on_42 hy_X12_refuseApart (co_0 hL).1 (co_0 hL).2 (by decide) wg_555 wg_557 wg_3 (Nat.le_refl _) (Nat.le_of_ble_eq_true rfl) (RM0.mono h ?_)
        clear h
        intro vv I37 L38 h
        obtain ⟨r39, rfl, h⟩ := h
        change Z n0 xX12_on (d + 1) 0 0 45 [(0, .ref (n0 + 0)), (1, .int p0), (2, .int p1), (3, .int p2), (4, .int p3), (5, .ref (n0 + q8)), (6, .ref (n0 + q13))] [.int r39] K I37 L38 Q
        exact z_iret dX12_on_45 rfl h
    · replace h := h.1 g12
      subst g12
      change Z n0 xX12_on (d + 1) 0 0 25 [(0, .ref (n0 + 0)), (1, .int p0), (2, .int p1), (3, .int p2), (4, .int p3), (5, .ref (n0 + q8)), (6, .null)] [] K I4 L5 Q
      refine z_aload_n 0 dX12_on_25 rfl ?_
      refine z_iconst (-1) dX12_on_26 (by decide) ?_
      refine z_callV0 (As := [.int (-1)]) (st := []) dX12_on_27 hy_X12_refuseApart (co_0 hL).1 (co_0 hL).2 (by decide) wg_555 wg_557 wg_3 (Nat.le_refl _) (Nat.le_of_ble_eq_true rfl) (RM0.mono h ?_)
      clear h
      intro vv I14 L15 h
      obtain ⟨r16, rfl, h⟩ := h
      change Z n0 xX12_on (d + 1) 0 0 30 [(0, .ref (n0 + 0)), (1, .int p0), (2, .int p1), (3, .int p2), (4, .int p3), (5, .ref (n0 + q8)), (6, .null)] [.int r16] K I14 L15 Q
      exact z_iret dX12_on_30 rfl h
theorem dX12_length_0 : decode cX12_length 0 = .ok (.aload_n 0, 1) := by decide +kernel
theorem dX12_length_1 : decode cX12_length 1 = .ok (.iload_n 1, 1) := by decide +kernel
theorem dX12_length_2 : decode cX12_length 2 = .ok (.iload_n 2, 1) := by decide +kernel
theorem dX12_length_3 : decode cX12_length 3 = .ok (.invokevirtual 160, 3) := by decide +kernel
theorem dX12_length_6 : decode cX12_length 6 = .ok (.astore 6, 2) := by decide +kernel
theorem dX12_length_8 : decode cX12_length 8 = .ok (.aload 6, 2) := by decide +kernel
theorem dX12_length_10 : decode cX12_length 10 = .ok (.ifnull 20, 3) := by decide +kernel
theorem dX12_length_13 : decode cX12_length 13 = .ok (.aload 6, 2) := by decide +kernel
theorem dX12_length_15 : decode cX12_length 15 = .ok (.iload_n 3, 1) := by decide +kernel
theorem dX12_length_16 : decode cX12_length 16 = .ok (.invokevirtual 246, 3) := by decide +kernel
theorem dX12_length_19 : decode cX12_length 19 = .ok (.ifCond .eq 11, 3) := by decide +kernel
theorem dX12_length_22 : decode cX12_length 22 = .ok (.iload 4, 2) := by decide +kernel
theorem dX12_length_24 : decode cX12_length 24 = .ok (.invokestatic 97, 3) := by decide +kernel
theorem dX12_length_27 : decode cX12_length 27 = .ok (.ifCond .ne 9, 3) := by decide +kernel
theorem dX12_length_30 : decode cX12_length 30 = .ok (.aload_n 0, 1) := by decide +kernel
theorem dX12_length_31 : decode cX12_length 31 = .ok (.iconst (-1), 1) := by decide +kernel
theorem dX12_length_32 : decode cX12_length 32 = .ok (.invokevirtual 85, 3) := by decide +kernel
theorem dX12_length_35 : decode cX12_length 35 = .ok (.ireturn, 1) := by decide +kernel
theorem dX12_length_36 : decode cX12_length 36 = .ok (.iload 5, 2) := by decide +kernel
theorem dX12_length_38 : decode cX12_length 38 = .ok (.iconst 0, 1) := by decide +kernel
theorem dX12_length_39 : decode cX12_length 39 = .ok (.sipush 1000, 3) := by decide +kernel
theorem dX12_length_42 : decode cX12_length 42 = .ok (.invokestatic 100, 3) := by decide +kernel
theorem dX12_length_45 : decode cX12_length 45 = .ok (.istore 7, 2) := by decide +kernel
theorem dX12_length_47 : decode cX12_length 47 = .ok (.iload 7, 2) := by decide +kernel
theorem dX12_length_49 : decode cX12_length 49 = .ok (.ifCond .eq 10, 3) := by decide +kernel
theorem dX12_length_52 : decode cX12_length 52 = .ok (.aload_n 0, 1) := by decide +kernel
theorem dX12_length_53 : decode cX12_length 53 = .ok (.iload 7, 2) := by decide +kernel
theorem dX12_length_55 : decode cX12_length 55 = .ok (.invokevirtual 85, 3) := by decide +kernel
theorem dX12_length_58 : decode cX12_length 58 = .ok (.ireturn, 1) := by decide +kernel
theorem dX12_length_59 : decode cX12_length 59 = .ok (.aload_n 0, 1) := by decide +kernel
theorem dX12_length_60 : decode cX12_length 60 = .ok (.iload 4, 2) := by decide +kernel
theorem dX12_length_62 : decode cX12_length 62 = .ok (.iload 5, 2) := by decide +kernel
theorem dX12_length_64 : decode cX12_length 64 = .ok (.invokevirtual 231, 3) := by decide +kernel
theorem dX12_length_67 : decode cX12_length 67 = .ok (.aload_n 0, 1) := by decide +kernel
theorem dX12_length_68 : decode cX12_length 68 = .ok (.getfield 41, 3) := by decide +kernel
theorem dX12_length_71 : decode cX12_length 71 = .ok (.aload 6, 2) := by decide +kernel
theorem dX12_length_73 : decode cX12_length 73 = .ok (.invokevirtual 235, 3) := by decide +kernel
theorem dX12_length_76 : decode cX12_length 76 = .ok (.ifCond .ne 10, 3) := by decide +kernel
theorem dX12_length_79 : decode cX12_length 79 = .ok (.aload_n 0, 1) := by decide +kernel
theorem dX12_length_80 : decode cX12_length 80 = .ok (.bipush (-7), 2) := by decide +kernel
theorem dX12_length_82 : decode cX12_length 82 = .ok (.invokevirtual 85, 3) := by decide +kernel
theorem dX12_length_85 : decode cX12_length 85 = .ok (.ireturn, 1) := by decide +kernel
theorem dX12_length_86 : decode cX12_length 86 = .ok (.aload_n 0, 1) := by decide +kernel
theorem dX12_length_87 : decode cX12_length 87 = .ok (.getfield 41, 3) := by decide +kernel
theorem dX12_length_90 : decode cX12_length 90 = .ok (.aload 6, 2) := by decide +kernel
theorem dX12_length_92 : decode cX12_length 92 = .ok (.iload_n 2, 1) := by decide +kernel
theorem dX12_length_93 : decode cX12_length 93 = .ok (.iload_n 3, 1) := by decide +kernel
theorem dX12_length_94 : decode cX12_length 94 = .ok (.invokevirtual 249, 3) := by decide +kernel
theorem dX12_length_97 : decode cX12_length 97 = .ok (.ireturn, 1) := by decide +kernel
set_option maxRecDepth 100000 in
set_option maxHeartbeats 4000000 in
theorem wp_X12_length {n0 d : Nat} {K : z_K} {I : z_I} {L : z_L} {Q : z_R} {p0 : Int32} {p1 : Int32} {p2 : Int32} {p3 : Int32} {p4 : Int32} (hL : CLay K) (h : RM0 n0 xX12_pieceWith d [.ref (n0 + 0), .int p0, .int p1] K I L (fun vv I1 L2 => ∃ r3 : Option Nat, vv = some (zr n0 r3) ∧ ((r3 = none → RM0 n0 xX12_refuse d [.ref (n0 + 0), .int (-1)] K I1 L2 (fun vv I6 L7 => ∃ r8 : Int32, vv = some (.int r8) ∧ Q (some (.int r8)) K I6 L7)) ∧ (∀ q5, r3 = some q5 → q5 < K.1 ∧ (K.2.1 q5).1 = 5 ∧ RM0 n0 xX5_has d [.ref (n0 + q5), .int p2] K I1 L2 (fun vv I11 L12 => ∃ r13 : Int32, vv = some (.int r13) ∧ (if r13 = 0 then RM0 n0 xX12_refuse d [.ref (n0 + 0), .int (-1)] K I11 L12 (fun vv I15 L16 => ∃ r17 : Int32, vv = some (.int r17) ∧ Q (some (.int r17)) K I15 L16) else RM0 n0 xX12_isSize d [.int p3] K I11 L12 (fun vv I18 L19 => ∃ r20 : Int32, vv = some (.int r20) ∧ (if r20 = 0 then RM0 n0 xX12_refuse d [.ref (n0 + 0), .int (-1)] K I18 L19 (fun vv I45 L46 => ∃ r47 : Int32, vv = some (.int r47) ∧ Q (some (.int r47)) K I45 L46) else RM0 n0 xX12_outside d [.int p4, .int 0, .int 1000] K I18 L19 (fun vv I22 L23 => ∃ r24 : Int32, vv = some (.int r24) ∧ (if r24 = 0 then RM n0 xX12_drawAt d 0 0 [.ref (n0 + 0), .int p3, .int p4] K I22 L23 (fun vv K28 I26 L27 => vv = none ∧ CLay K28 ∧ RM n0 xX2_sound d 0 0 [.ref (n0 + 8), .ref (n0 + q5)] K28 I26 L27 (fun vv K32 I30 L31 => ∃ r33 : Int32, vv = some (.int r33) ∧ CLay K32 ∧ (if r33 = 0 then RM0 n0 xX12_refuse d [.ref (n0 + 0), .int (-7)] K32 I30 L31 (fun vv I39 L40 => ∃ r41 : Int32, vv = some (.int r41) ∧ Q (some (.int r41)) K32 I39 L40) else RM0 n0 xX2_lengthOf d [.ref (n0 + 8), .ref (n0 + q5), .int p1, .int p2] K32 I30 L31 (fun vv I36 L37 => ∃ r38 : Int32, vv = some (.int r38) ∧ Q (some (.int r38)) K32 I36 L37)))) else RM0 n0 xX12_refuse d [.ref (n0 + 0), .int r24] K I22 L23 (fun vv I42 L43 => ∃ r44 : Int32, vv = some (.int r44) ∧ Q (some (.int r44)) K I42 L43))))))))))) : RM n0 xX12_length (d + 1) 0 0 [.ref (n0 + 0), .int p0, .int p1, .int p2, .int p3, .int p4] K I L Q := by
  refine z_entry (by decide) (Nat.le_of_ble_eq_true rfl) ?_
  change Z n0 xX12_length (d + 1) 0 0 0 [(0, .ref (n0 + 0)), (1, .int p0), (2, .int p1), (3, .int p2), (4, .int p3), (5, .int p4)] [] K I L Q
  refine z_aload_n 0 dX12_length_0 rfl ?_
  refine z_iload_n 1 dX12_length_1 rfl ?_
  refine z_iload_n 2 dX12_length_2 rfl ?_
  refine z_callV0 (As := [.int p0, .int p1]) (st := []) dX12_length_3 hy_X12_pieceWith (co_0 hL).1 (co_0 hL).2 (by decide) wg_655 wg_657 wg_6 (Nat.le_refl _) (Nat.le_of_ble_eq_true rfl) (RM0.mono h ?_)
  clear h
  intro vv I1 L2 h
  obtain ⟨r3, rfl, h⟩ := h
  change Z n0 xX12_length (d + 1) 0 0 6 [(0, .ref (n0 + 0)), (1, .int p0), (2, .int p1), (3, .int p2), (4, .int p3), (5, .int p4)] [zr n0 r3] K I1 L2 Q
  refine z_astoreO [1, 2, 3, 4, 5, 6, 0] [(0, .ref (n0 + 0)), (1, .int p0), (2, .int p1), (3, .int p2), (4, .int p3), (5, .int p4), (6, zr n0 r3)] dX12_length_6 (by decide) (fun v hv => by subst hv; rfl) ?_
  refine z_aloadO 6 dX12_length_8 rfl ?_
  refine z_ifnull 30 dX12_length_10 (by decide) (fun g4 => ?_) (fun q5 g4 => ?_)
  · replace h := h.1 g4
    subst g4
    change Z n0 xX12_length (d + 1) 0 0 30 [(0, .ref (n0 + 0)), (1, .int p0), (2, .int p1), (3, .int p2), (4, .int p3), (5, .int p4), (6, .null)] [] K I1 L2 Q
    refine z_aload_n 0 dX12_length_30 rfl ?_
    refine z_iconst (-1) dX12_length_31 (by decide) ?_
    refine z_callV0 (As := [.int (-1)]) (st := []) dX12_length_32 hy_X12_refuse (co_0 hL).1 (co_0 hL).2 (by decide) wg_462 wg_464 wg_0 (Nat.le_refl _) (Nat.le_of_ble_eq_true rfl) (RM0.mono h ?_)
    clear h
    intro vv I6 L7 h
    obtain ⟨r8, rfl, h⟩ := h
    change Z n0 xX12_length (d + 1) 0 0 35 [(0, .ref (n0 + 0)), (1, .int p0), (2, .int p1), (3, .int p2), (4, .int p3), (5, .int p4), (6, .null)] [.int r8] K I6 L7 Q
    exact z_iret dX12_length_35 rfl h
  · replace h := h.2 q5 g4
    subst g4
    change Z n0 xX12_length (d + 1) 0 0 13 [(0, .ref (n0 + 0)), (1, .int p0), (2, .int p1), (3, .int p2), (4, .int p3), (5, .int p4), (6, .ref (n0 + q5))] [] K I1 L2 Q
    refine z_aload 6 dX12_length_13 rfl ?_
    refine z_iload_n 3 dX12_length_15 rfl ?_
    obtain ⟨o9, o10, h⟩ := h
    refine z_callV0 (As := [.int p2]) (st := []) dX12_length_16 hy_X5_has o9 o10 (by decide) wg_659 wg_660 wg_661 (Nat.le_refl _) (Nat.le_of_ble_eq_true rfl) (RM0.mono h ?_)
    clear h
    intro vv I11 L12 h
    obtain ⟨r13, rfl, h⟩ := h
    change Z n0 xX12_length (d + 1) 0 0 19 [(0, .ref (n0 + 0)), (1, .int p0), (2, .int p1), (3, .int p2), (4, .int p3), (5, .int p4), (6, .ref (n0 + q5))] [.int r13] K I11 L12 Q
    refine z_if_eq 30 dX12_length_19 (by decide) (fun g14 => ?_) (fun g14 => ?_)
    · rw [if_pos g14] at h
      refine z_aload_n 0 dX12_length_30 rfl ?_
      refine z_iconst (-1) dX12_length_31 (by decide) ?_
      refine z_callV0 (As := [.int (-1)]) (st := []) dX12_length_32 hy_X12_refuse (co_0 hL).1 (co_0 hL).2 (by decide) wg_462 wg_464 wg_0 (Nat.le_refl _) (Nat.le_of_ble_eq_true rfl) (RM0.mono h ?_)
      clear h
      intro vv I15 L16 h
      obtain ⟨r17, rfl, h⟩ := h
      change Z n0 xX12_length (d + 1) 0 0 35 [(0, .ref (n0 + 0)), (1, .int p0), (2, .int p1), (3, .int p2), (4, .int p3), (5, .int p4), (6, .ref (n0 + q5))] [.int r17] K I15 L16 Q
      exact z_iret dX12_length_35 rfl h
    · rw [if_neg g14] at h
      refine z_iload 4 dX12_length_22 rfl ?_
      refine z_callS0 (As := [.int p3]) (st := []) dX12_length_24 hy_X12_isSize wg_473 wg_474 (Nat.le_refl _) (Nat.le_of_ble_eq_true rfl) (RM0.mono h ?_)
      clear h
      intro vv I18 L19 h
      obtain ⟨r20, rfl, h⟩ := h
      change Z n0 xX12_length (d + 1) 0 0 27 [(0, .ref (n0 + 0)), (1, .int p0), (2, .int p1), (3, .int p2), (4, .int p3), (5, .int p4), (6, .ref (n0 + q5))] [.int r20] K I18 L19 Q
      refine z_if_ne 36 dX12_length_27 (by decide) (fun g21 => ?_) (fun g21 => ?_)
      · rw [if_neg g21] at h
        refine z_iload 5 dX12_length_36 rfl ?_
        refine z_iconst 0 dX12_length_38 (by decide) ?_
        refine z_sipush 1000 dX12_length_39 (by decide) ?_
        refine z_callS0 (As := [.int p4, .int 0, .int 1000]) (st := []) dX12_length_42 hy_X12_outside wg_476 wg_477 (Nat.le_refl _) (Nat.le_of_ble_eq_true rfl) (RM0.mono h ?_)
        clear h
        intro vv I22 L23 h
        obtain ⟨r24, rfl, h⟩ := h
        change Z n0 xX12_length (d + 1) 0 0 45 [(0, .ref (n0 + 0)), (1, .int p0), (2, .int p1), (3, .int p2), (4, .int p3), (5, .int p4), (6, .ref (n0 + q5))] [.int r24] K I22 L23 Q
        refine z_istore [1, 2, 3, 4, 5, 6, 7, 0] [(0, .ref (n0 + 0)), (1, .int p0), (2, .int p1), (3, .int p2), (4, .int p3), (5, .int p4), (6, .ref (n0 + q5)), (7, .int r24)] dX12_length_45 (by decide) rfl ?_
        refine z_iload 7 dX12_length_47 rfl ?_
        refine z_if_eq 59 dX12_length_49 (by decide) (fun g25 => ?_) (fun g25 => ?_)
        · rw [if_pos g25] at h
          refine z_aload_n 0 dX12_length_59 rfl ?_
          refine z_iload 4 dX12_length_60 rfl ?_
          refine z_iload 5 dX12_length_62 rfl ?_
          refine z_callV (rc := 0) (rs := 0) (mc1 := 0) (ms1 := 0) (As := [.int p3, .int p4]) (st := []) dX12_length_64 hy_X12_drawAt (co_0 hL).1 (co_0 hL).2 (by decide) wg_831 wg_833 wg_19 (Nat.le_refl _) (Nat.le_of_ble_eq_true rfl) (RM.mono h ?_)
          clear h
          intro vv K28 I26 L27 h
          obtain ⟨rfl, h⟩ := h
          obtain ⟨hL29, h⟩ := h
          change Z n0 xX12_length (d + 1) 0 0 67 [(0, .ref (n0 + 0)), (1, .int p0), (2, .int p1), (3, .int p2), (4, .int p3), (5, .int p4), (6, .ref (n0 + q5)), (7, .int r24)] [] K28 I26 L27 Q
          refine z_aload_n 0 dX12_length_67 rfl ?_
          refine fg_12_41 (some 8) rfl dX12_length_68 (co_0 hL29).1 (co_0 hL29).2 (cp_8 hL29) ?_
          refine z_aload 6 dX12_length_71 rfl ?_
          refine z_callV (rc := 0) (rs := 0) (mc1 := 0) (ms1 := 0) (As := [.ref (n0 + q5)]) (st := []) dX12_length_73 hy_X2_sound (co_8 hL29).1 (co_8 hL29).2 (by decide) wg_839 wg_840 wg_841 (Nat.le_refl _) (Nat.le_of_ble_eq_true rfl) (RM.mono h ?_)
          clear h
          intro vv K32 I30 L31 h
          obtain ⟨r33, rfl, h⟩ := h
          obtain ⟨hL34, h⟩ := h
          change Z n0 xX12_length (d + 1) 0 0 76 [(0, .ref (n0 + 0)), (1, .int p0), (2, .int p1), (3, .int p2), (4, .int p3), (5, .int p4), (6, .ref (n0 + q5)), (7, .int r24)] [.int r33] K32 I30 L31 Q
          refine z_if_ne 86 dX12_length_76 (by decide) (fun g35 => ?_) (fun g35 => ?_)
          · rw [if_neg g35] at h
            refine z_aload_n 0 dX12_length_86 rfl ?_
            refine fg_12_41 (some 8) rfl dX12_length_87 (co_0 hL34).1 (co_0 hL34).2 (cp_8 hL34) ?_
            refine z_aload 6 dX12_length_90 rfl ?_
            refine z_iload_n 2 dX12_length_92 rfl ?_
            refine z_iload_n 3 dX12_length_93 rfl ?_
            refine z_callV0 (As := [.ref (n0 + q5), .int p1, .int p2]) (st := []) dX12_length_94 hy_X2_lengthOf (co_8 hL34).1 (co_8 hL34).2 (by decide) wg_895 wg_896 wg_897 (Nat.le_refl _) (Nat.le_of_ble_eq_true rfl) (RM0.mono h ?_)
            clear h
            intro vv I36 L37 h
            obtain ⟨r38, rfl, h⟩ := h
            change Z n0 xX12_length (d + 1) 0 0 97 [(0, .ref (n0 + 0)), (1, .int p0), (2, .int p1), (3, .int p2), (4, .int p3), (5, .int p4), (6, .ref (n0 + q5)), (7, .int r24)] [.int r38] K32 I36 L37 Q
            exact z_iret dX12_length_97 rfl h
          · rw [if_pos g35] at h
            refine z_aload_n 0 dX12_length_79 rfl ?_
            refine z_bipush (-7) dX12_length_80 (by decide) ?_
            refine z_callV0 (As := [.int (-7)]) (st := []) dX12_length_82 hy_X12_refuse (co_0 hL34).1 (co_0 hL34).2 (by decide) wg_462 wg_464 wg_0 (Nat.le_refl _) (Nat.le_of_ble_eq_true rfl) (RM0.mono h ?_)
            clear h
            intro vv I39 L40 h
            obtain ⟨r41, rfl, h⟩ := h
            change Z n0 xX12_length (d + 1) 0 0 85 [(0, .ref (n0 + 0)), (1, .int p0), (2, .int p1), (3, .int p2), (4, .int p3), (5, .int p4), (6, .ref (n0 + q5)), (7, .int r24)] [.int r41] K32 I39 L40 Q
            exact z_iret dX12_length_85 rfl h
        · rw [if_neg g25] at h
          refine z_aload_n 0 dX12_length_52 rfl ?_
          refine z_iload 7 dX12_length_53 rfl ?_
          refine z_callV0 (As := [.int r24]) (st := []) dX12_length_55 hy_X12_refuse (co_0 hL).1 (co_0 hL).2 (by decide) wg_462 wg_464 wg_0 (Nat.le_refl _) (Nat.le_of_ble_eq_true rfl) (RM0.mono h ?_)
          clear h
          intro vv I42 L43 h
          obtain ⟨r44, rfl, h⟩ := h
          change Z n0 xX12_length (d + 1) 0 0 58 [(0, .ref (n0 + 0)), (1, .int p0), (2, .int p1), (3, .int p2), (4, .int p3), (5, .int p4), (6, .ref (n0 + q5)), (7, .int r24)] [.int r44] K I42 L43 Q
          exact z_iret dX12_length_58 rfl h
      · rw [if_pos g21] at h
        refine z_aload_n 0 dX12_length_30 rfl ?_
        refine z_iconst (-1) dX12_length_31 (by decide) ?_
        refine z_callV0 (As := [.int (-1)]) (st := []) dX12_length_32 hy_X12_refuse (co_0 hL).1 (co_0 hL).2 (by decide) wg_462 wg_464 wg_0 (Nat.le_refl _) (Nat.le_of_ble_eq_true rfl) (RM0.mono h ?_)
        clear h
        intro vv I45 L46 h
        obtain ⟨r47, rfl, h⟩ := h
        change Z n0 xX12_length (d + 1) 0 0 35 [(0, .ref (n0 + 0)), (1, .int p0), (2, .int p1), (3, .int p2), (4, .int p3), (5, .int p4), (6, .ref (n0 + q5))] [.int r47] K I45 L46 Q
        exact z_iret dX12_length_35 rfl h
theorem dX12_lengthOn_0 : decode cX12_lengthOn 0 = .ok (.aload_n 0, 1) := by decide +kernel
theorem dX12_lengthOn_1 : decode cX12_lengthOn 1 = .ok (.iload_n 1, 1) := by decide +kernel
theorem dX12_lengthOn_2 : decode cX12_lengthOn 2 = .ok (.iload_n 2, 1) := by decide +kernel
theorem dX12_lengthOn_3 : decode cX12_lengthOn 3 = .ok (.invokevirtual 160, 3) := by decide +kernel
theorem dX12_lengthOn_6 : decode cX12_lengthOn 6 = .ok (.astore 5, 2) := by decide +kernel
theorem dX12_lengthOn_8 : decode cX12_lengthOn 8 = .ok (.aload_n 0, 1) := by decide +kernel
theorem dX12_lengthOn_9 : decode cX12_lengthOn 9 = .ok (.iload 4, 2) := by decide +kernel
theorem dX12_lengthOn_11 : decode cX12_lengthOn 11 = .ok (.invokevirtual 122, 3) := by decide +kernel
theorem dX12_lengthOn_14 : decode cX12_lengthOn 14 = .ok (.astore 6, 2) := by decide +kernel
theorem dX12_lengthOn_16 : decode cX12_lengthOn 16 = .ok (.aload 5, 2) := by decide +kernel
theorem dX12_lengthOn_18 : decode cX12_lengthOn 18 = .ok (.ifnull 17, 3) := by decide +kernel
theorem dX12_lengthOn_21 : decode cX12_lengthOn 21 = .ok (.aload 5, 2) := by decide +kernel
theorem dX12_lengthOn_23 : decode cX12_lengthOn 23 = .ok (.iload_n 3, 1) := by decide +kernel
theorem dX12_lengthOn_24 : decode cX12_lengthOn 24 = .ok (.invokevirtual 246, 3) := by decide +kernel
theorem dX12_lengthOn_27 : decode cX12_lengthOn 27 = .ok (.ifCond .eq 8, 3) := by decide +kernel
theorem dX12_lengthOn_30 : decode cX12_lengthOn 30 = .ok (.aload 6, 2) := by decide +kernel
theorem dX12_lengthOn_32 : decode cX12_lengthOn 32 = .ok (.ifnonnull 9, 3) := by decide +kernel
theorem dX12_lengthOn_35 : decode cX12_lengthOn 35 = .ok (.aload_n 0, 1) := by decide +kernel
theorem dX12_lengthOn_36 : decode cX12_lengthOn 36 = .ok (.iconst (-1), 1) := by decide +kernel
theorem dX12_lengthOn_37 : decode cX12_lengthOn 37 = .ok (.invokevirtual 85, 3) := by decide +kernel
theorem dX12_lengthOn_40 : decode cX12_lengthOn 40 = .ok (.ireturn, 1) := by decide +kernel
theorem dX12_lengthOn_41 : decode cX12_lengthOn 41 = .ok (.aload_n 0, 1) := by decide +kernel
theorem dX12_lengthOn_42 : decode cX12_lengthOn 42 = .ok (.aload 6, 2) := by decide +kernel
theorem dX12_lengthOn_44 : decode cX12_lengthOn 44 = .ok (.invokevirtual 242, 3) := by decide +kernel
theorem dX12_lengthOn_47 : decode cX12_lengthOn 47 = .ok (.aload_n 0, 1) := by decide +kernel
theorem dX12_lengthOn_48 : decode cX12_lengthOn 48 = .ok (.getfield 41, 3) := by decide +kernel
theorem dX12_lengthOn_51 : decode cX12_lengthOn 51 = .ok (.aload 5, 2) := by decide +kernel
theorem dX12_lengthOn_53 : decode cX12_lengthOn 53 = .ok (.invokevirtual 235, 3) := by decide +kernel
theorem dX12_lengthOn_56 : decode cX12_lengthOn 56 = .ok (.ifCond .ne 10, 3) := by decide +kernel
theorem dX12_lengthOn_59 : decode cX12_lengthOn 59 = .ok (.aload_n 0, 1) := by decide +kernel
theorem dX12_lengthOn_60 : decode cX12_lengthOn 60 = .ok (.bipush (-7), 2) := by decide +kernel
theorem dX12_lengthOn_62 : decode cX12_lengthOn 62 = .ok (.invokevirtual 85, 3) := by decide +kernel
theorem dX12_lengthOn_65 : decode cX12_lengthOn 65 = .ok (.ireturn, 1) := by decide +kernel
theorem dX12_lengthOn_66 : decode cX12_lengthOn 66 = .ok (.aload_n 0, 1) := by decide +kernel
theorem dX12_lengthOn_67 : decode cX12_lengthOn 67 = .ok (.getfield 41, 3) := by decide +kernel
theorem dX12_lengthOn_70 : decode cX12_lengthOn 70 = .ok (.aload 5, 2) := by decide +kernel
theorem dX12_lengthOn_72 : decode cX12_lengthOn 72 = .ok (.iload_n 2, 1) := by decide +kernel
theorem dX12_lengthOn_73 : decode cX12_lengthOn 73 = .ok (.iload_n 3, 1) := by decide +kernel
theorem dX12_lengthOn_74 : decode cX12_lengthOn 74 = .ok (.invokevirtual 249, 3) := by decide +kernel
theorem dX12_lengthOn_77 : decode cX12_lengthOn 77 = .ok (.ireturn, 1) := by decide +kernel
set_option maxRecDepth 100000 in
set_option maxHeartbeats 4000000 in
theorem wp_X12_lengthOn {n0 d : Nat} {K : z_K} {I : z_I} {L : z_L} {Q : z_R} {p0 : Int32} {p1 : Int32} {p2 : Int32} {p3 : Int32} (hL : CLay K) (h : RM0 n0 xX12_pieceWith d [.ref (n0 + 0), .int p0, .int p1] K I L (fun vv I1 L2 => ∃ r3 : Option Nat, vv = some (zr n0 r3) ∧ RM0 n0 xX12_bodyOf d [.ref (n0 + 0), .int p3] K I1 L2 (fun vv I4 L5 => ∃ r6 : Option Nat, vv = some (zr n0 r6) ∧ ((r3 = none → RM0 n0 xX12_refuse d [.ref (n0 + 0), .int (-1)] K I4 L5 (fun vv I9 L10 => ∃ r11 : Int32, vv = some (.int r11) ∧ Q (some (.int r11)) K I9 L10)) ∧ (∀ q8, r3 = some q8 → q8 < K.1 ∧ (K.2.1 q8).1 = 5 ∧ RM0 n0 xX5_has d [.ref (n0 + q8), .int p2] K I4 L5 (fun vv I14 L15 => ∃ r16 : Int32, vv = some (.int r16) ∧ (if r16 = 0 then RM0 n0 xX12_refuse d [.ref (n0 + 0), .int (-1)] K I14 L15 (fun vv I18 L19 => ∃ r20 : Int32, vv = some (.int r20) ∧ Q (some (.int r20)) K I18 L19) else ((r6 = none → RM0 n0 xX12_refuse d [.ref (n0 + 0), .int (-1)] K I14 L15 (fun vv I23 L24 => ∃ r25 : Int32, vv = some (.int r25) ∧ Q (some (.int r25)) K I23 L24)) ∧ (∀ q22, r6 = some q22 → RM n0 xX12_drawFor d 0 0 [.ref (n0 + 0), .ref (n0 + q22)] K I14 L15 (fun vv K28 I26 L27 => vv = none ∧ CLay K28 ∧ RM n0 xX2_sound d 0 0 [.ref (n0 + 8), .ref (n0 + q8)] K28 I26 L27 (fun vv K32 I30 L31 => ∃ r33 : Int32, vv = some (.int r33) ∧ CLay K32 ∧ (if r33 = 0 then RM0 n0 xX12_refuse d [.ref (n0 + 0), .int (-7)] K32 I30 L31 (fun vv I39 L40 => ∃ r41 : Int32, vv = some (.int r41) ∧ Q (some (.int r41)) K32 I39 L40) else RM0 n0 xX2_lengthOf d [.ref (n0 + 8), .ref (n0 + q8), .int p1, .int p2] K32 I30 L31 (fun vv I36 L37 => ∃ r38 : Int32, vv = some (.int r38) ∧ Q (some (.int r38)) K32 I36 L37))))))))))))) : RM n0 xX12_lengthOn (d + 1) 0 0 [.ref (n0 + 0), .int p0, .int p1, .int p2, .int p3] K I L Q := by
  refine z_entry (by decide) (Nat.le_of_ble_eq_true rfl) ?_
  change Z n0 xX12_lengthOn (d + 1) 0 0 0 [(0, .ref (n0 + 0)), (1, .int p0), (2, .int p1), (3, .int p2), (4, .int p3)] [] K I L Q
  refine z_aload_n 0 dX12_lengthOn_0 rfl ?_
  refine z_iload_n 1 dX12_lengthOn_1 rfl ?_
  refine z_iload_n 2 dX12_lengthOn_2 rfl ?_
  refine z_callV0 (As := [.int p0, .int p1]) (st := []) dX12_lengthOn_3 hy_X12_pieceWith (co_0 hL).1 (co_0 hL).2 (by decide) wg_655 wg_657 wg_6 (Nat.le_refl _) (Nat.le_of_ble_eq_true rfl) (RM0.mono h ?_)
  clear h
  intro vv I1 L2 h
  obtain ⟨r3, rfl, h⟩ := h
  change Z n0 xX12_lengthOn (d + 1) 0 0 6 [(0, .ref (n0 + 0)), (1, .int p0), (2, .int p1), (3, .int p2), (4, .int p3)] [zr n0 r3] K I1 L2 Q
  refine z_astoreO [1, 2, 3, 4, 5, 0] [(0, .ref (n0 + 0)), (1, .int p0), (2, .int p1), (3, .int p2), (4, .int p3), (5, zr n0 r3)] dX12_lengthOn_6 (by decide) (fun v hv => by subst hv; rfl) ?_
  refine z_aload_n 0 dX12_lengthOn_8 rfl ?_
  refine z_iload 4 dX12_lengthOn_9 rfl ?_
  refine z_callV0 (As := [.int p3]) (st := []) dX12_lengthOn_11 hy_X12_bodyOf (co_0 hL).1 (co_0 hL).2 (by decide) wg_551 wg_553 wg_2 (Nat.le_refl _) (Nat.le_of_ble_eq_true rfl) (RM0.mono h ?_)
  clear h
  intro vv I4 L5 h
  obtain ⟨r6, rfl, h⟩ := h
  change Z n0 xX12_lengthOn (d + 1) 0 0 14 [(0, .ref (n0 + 0)), (1, .int p0), (2, .int p1), (3, .int p2), (4, .int p3), (5, zr n0 r3)] [zr n0 r6] K I4 L5 Q
  refine z_astoreO [1, 2, 3, 4, 5, 6, 0] [(0, .ref (n0 + 0)), (1, .int p0), (2, .int p1), (3, .int p2), (4, .int p3), (5, zr n0 r3), (6, zr n0 r6)] dX12_lengthOn_14 (by decide) (fun v hv => by subst hv; cases r3 <;> rfl) ?_
  refine z_aloadO 5 dX12_lengthOn_16 rfl ?_
  refine z_ifnull 35 dX12_lengthOn_18 (by decide) (fun g7 => ?_) (fun q8 g7 => ?_)
  · replace h := h.1 g7
    subst g7
    change Z n0 xX12_lengthOn (d + 1) 0 0 35 [(0, .ref (n0 + 0)), (1, .int p0), (2, .int p1), (3, .int p2), (4, .int p3), (5, .null), (6, zr n0 r6)] [] K I4 L5 Q
    refine z_aload_n 0 dX12_lengthOn_35 rfl ?_
    refine z_iconst (-1) dX12_lengthOn_36 (by decide) ?_
    refine z_callV0 (As := [.int (-1)]) (st := []) dX12_lengthOn_37 hy_X12_refuse (co_0 hL).1 (co_0 hL).2 (by decide) wg_462 wg_464 wg_0 (Nat.le_refl _) (Nat.le_of_ble_eq_true rfl) (RM0.mono h ?_)
    clear h
    intro vv I9 L10 h
    obtain ⟨r11, rfl, h⟩ := h
    change Z n0 xX12_lengthOn (d + 1) 0 0 40 [(0, .ref (n0 + 0)), (1, .int p0), (2, .int p1), (3, .int p2), (4, .int p3), (5, .null), (6, zr n0 r6)] [.int r11] K I9 L10 Q
    exact z_iret dX12_lengthOn_40 rfl h
  · replace h := h.2 q8 g7
    subst g7
    change Z n0 xX12_lengthOn (d + 1) 0 0 21 [(0, .ref (n0 + 0)), (1, .int p0), (2, .int p1), (3, .int p2), (4, .int p3), (5, .ref (n0 + q8)), (6, zr n0 r6)] [] K I4 L5 Q
    refine z_aload 5 dX12_lengthOn_21 rfl ?_
    refine z_iload_n 3 dX12_lengthOn_23 rfl ?_
    obtain ⟨o12, o13, h⟩ := h
    refine z_callV0 (As := [.int p2]) (st := []) dX12_lengthOn_24 hy_X5_has o12 o13 (by decide) wg_659 wg_660 wg_661 (Nat.le_refl _) (Nat.le_of_ble_eq_true rfl) (RM0.mono h ?_)
    clear h
    intro vv I14 L15 h
    obtain ⟨r16, rfl, h⟩ := h
    change Z n0 xX12_lengthOn (d + 1) 0 0 27 [(0, .ref (n0 + 0)), (1, .int p0), (2, .int p1), (3, .int p2), (4, .int p3), (5, .ref (n0 + q8)), (6, zr n0 r6)] [.int r16] K I14 L15 Q
    refine z_if_eq 35 dX12_lengthOn_27 (by decide) (fun g17 => ?_) (fun g17 => ?_)
    · rw [if_pos g17] at h
      refine z_aload_n 0 dX12_lengthOn_35 rfl ?_
      refine z_iconst (-1) dX12_lengthOn_36 (by decide) ?_
      refine z_callV0 (As := [.int (-1)]) (st := []) dX12_lengthOn_37 hy_X12_refuse (co_0 hL).1 (co_0 hL).2 (by decide) wg_462 wg_464 wg_0 (Nat.le_refl _) (Nat.le_of_ble_eq_true rfl) (RM0.mono h ?_)
      clear h
      intro vv I18 L19 h
      obtain ⟨r20, rfl, h⟩ := h
      change Z n0 xX12_lengthOn (d + 1) 0 0 40 [(0, .ref (n0 + 0)), (1, .int p0), (2, .int p1), (3, .int p2), (4, .int p3), (5, .ref (n0 + q8)), (6, zr n0 r6)] [.int r20] K I18 L19 Q
      exact z_iret dX12_lengthOn_40 rfl h
    · rw [if_neg g17] at h
      refine z_aloadO 6 dX12_lengthOn_30 rfl ?_
      refine z_ifnonnull 41 dX12_lengthOn_32 (by decide) (fun q22 g21 => ?_) (fun g21 => ?_)
      · replace h := h.2 q22 g21
        subst g21
        change Z n0 xX12_lengthOn (d + 1) 0 0 41 [(0, .ref (n0 + 0)), (1, .int p0), (2, .int p1), (3, .int p2), (4, .int p3), (5, .ref (n0 + q8)), (6, .ref (n0 + q22))] [] K I14 L15 Q
        refine z_aload_n 0 dX12_lengthOn_41 rfl ?_
        refine z_aload 6 dX12_lengthOn_42 rfl ?_
        refine z_callV (rc := 0) (rs := 0) (mc1 := 0) (ms1 := 0) (As := [.ref (n0 + q22)]) (st := []) dX12_lengthOn_44 hy_X12_drawFor (co_0 hL).1 (co_0 hL).2 (by decide) wg_887 wg_889 wg_25 (Nat.le_refl _) (Nat.le_of_ble_eq_true rfl) (RM.mono h ?_)
        clear h
        intro vv K28 I26 L27 h
        obtain ⟨rfl, h⟩ := h
        obtain ⟨hL29, h⟩ := h
        change Z n0 xX12_lengthOn (d + 1) 0 0 47 [(0, .ref (n0 + 0)), (1, .int p0), (2, .int p1), (3, .int p2), (4, .int p3), (5, .ref (n0 + q8)), (6, .ref (n0 + q22))] [] K28 I26 L27 Q
        refine z_aload_n 0 dX12_lengthOn_47 rfl ?_
        refine fg_12_41 (some 8) rfl dX12_lengthOn_48 (co_0 hL29).1 (co_0 hL29).2 (cp_8 hL29) ?_
        refine z_aload 5 dX12_lengthOn_51 rfl ?_
        refine z_callV (rc := 0) (rs := 0) (mc1 := 0) (ms1 := 0) (As := [.ref (n0 + q8)]) (st := []) dX12_lengthOn_53 hy_X2_sound (co_8 hL29).1 (co_8 hL29).2 (by decide) wg_839 wg_840 wg_841 (Nat.le_refl _) (Nat.le_of_ble_eq_true rfl) (RM.mono h ?_)
        clear h
        intro vv K32 I30 L31 h
        obtain ⟨r33, rfl, h⟩ := h
        obtain ⟨hL34, h⟩ := h
        change Z n0 xX12_lengthOn (d + 1) 0 0 56 [(0, .ref (n0 + 0)), (1, .int p0), (2, .int p1), (3, .int p2), (4, .int p3), (5, .ref (n0 + q8)), (6, .ref (n0 + q22))] [.int r33] K32 I30 L31 Q
        refine z_if_ne 66 dX12_lengthOn_56 (by decide) (fun g35 => ?_) (fun g35 => ?_)
        · rw [if_neg g35] at h
          refine z_aload_n 0 dX12_lengthOn_66 rfl ?_
          refine fg_12_41 (some 8) rfl dX12_lengthOn_67 (co_0 hL34).1 (co_0 hL34).2 (cp_8 hL34) ?_
          refine z_aload 5 dX12_lengthOn_70 rfl ?_
          refine z_iload_n 2 dX12_lengthOn_72 rfl ?_
          refine z_iload_n 3 dX12_lengthOn_73 rfl ?_
          refine z_callV0 (As := [.ref (n0 + q8), .int p1, .int p2]) (st := []) dX12_lengthOn_74 hy_X2_lengthOf (co_8 hL34).1 (co_8 hL34).2 (by decide) wg_895 wg_896 wg_897 (Nat.le_refl _) (Nat.le_of_ble_eq_true rfl) (RM0.mono h ?_)
          clear h
          intro vv I36 L37 h
          obtain ⟨r38, rfl, h⟩ := h
          change Z n0 xX12_lengthOn (d + 1) 0 0 77 [(0, .ref (n0 + 0)), (1, .int p0), (2, .int p1), (3, .int p2), (4, .int p3), (5, .ref (n0 + q8)), (6, .ref (n0 + q22))] [.int r38] K32 I36 L37 Q
          exact z_iret dX12_lengthOn_77 rfl h
        · rw [if_pos g35] at h
          refine z_aload_n 0 dX12_lengthOn_59 rfl ?_
          refine z_bipush (-7) dX12_lengthOn_60 (by decide) ?_
          refine z_callV0 (As := [.int (-7)]) (st := []) dX12_lengthOn_62 hy_X12_refuse (co_0 hL34).1 (co_0 hL34).2 (by decide) wg_462 wg_464 wg_0 (Nat.le_refl _) (Nat.le_of_ble_eq_true rfl) (RM0.mono h ?_)
          clear h
          intro vv I39 L40 h
          obtain ⟨r41, rfl, h⟩ := h
          change Z n0 xX12_lengthOn (d + 1) 0 0 65 [(0, .ref (n0 + 0)), (1, .int p0), (2, .int p1), (3, .int p2), (4, .int p3), (5, .ref (n0 + q8)), (6, .ref (n0 + q22))] [.int r41] K32 I39 L40 Q
          exact z_iret dX12_lengthOn_65 rfl h
      · replace h := h.1 g21
        subst g21
        change Z n0 xX12_lengthOn (d + 1) 0 0 35 [(0, .ref (n0 + 0)), (1, .int p0), (2, .int p1), (3, .int p2), (4, .int p3), (5, .ref (n0 + q8)), (6, .null)] [] K I14 L15 Q
        refine z_aload_n 0 dX12_lengthOn_35 rfl ?_
        refine z_iconst (-1) dX12_lengthOn_36 (by decide) ?_
        refine z_callV0 (As := [.int (-1)]) (st := []) dX12_lengthOn_37 hy_X12_refuse (co_0 hL).1 (co_0 hL).2 (by decide) wg_462 wg_464 wg_0 (Nat.le_refl _) (Nat.le_of_ble_eq_true rfl) (RM0.mono h ?_)
        clear h
        intro vv I23 L24 h
        obtain ⟨r25, rfl, h⟩ := h
        change Z n0 xX12_lengthOn (d + 1) 0 0 40 [(0, .ref (n0 + 0)), (1, .int p0), (2, .int p1), (3, .int p2), (4, .int p3), (5, .ref (n0 + q8)), (6, .null)] [.int r25] K I23 L24 Q
        exact z_iret dX12_lengthOn_40 rfl h
theorem dX12_area_0 : decode cX12_area 0 = .ok (.aload_n 0, 1) := by decide +kernel
theorem dX12_area_1 : decode cX12_area 1 = .ok (.iload_n 1, 1) := by decide +kernel
theorem dX12_area_2 : decode cX12_area 2 = .ok (.invokevirtual 136, 3) := by decide +kernel
theorem dX12_area_5 : decode cX12_area 5 = .ok (.astore 4, 2) := by decide +kernel
theorem dX12_area_7 : decode cX12_area 7 = .ok (.aload 4, 2) := by decide +kernel
theorem dX12_area_9 : decode cX12_area 9 = .ok (.ifnull 10, 3) := by decide +kernel
theorem dX12_area_12 : decode cX12_area 12 = .ok (.iload_n 2, 1) := by decide +kernel
theorem dX12_area_13 : decode cX12_area 13 = .ok (.invokestatic 97, 3) := by decide +kernel
theorem dX12_area_16 : decode cX12_area 16 = .ok (.ifCond .ne 10, 3) := by decide +kernel
theorem dX12_area_19 : decode cX12_area 19 = .ok (.aload_n 0, 1) := by decide +kernel
theorem dX12_area_20 : decode cX12_area 20 = .ok (.iconst (-1), 1) := by decide +kernel
theorem dX12_area_21 : decode cX12_area 21 = .ok (.invokevirtual 85, 3) := by decide +kernel
theorem dX12_area_24 : decode cX12_area 24 = .ok (.i2l, 1) := by decide +kernel
theorem dX12_area_25 : decode cX12_area 25 = .ok (.lreturn, 1) := by decide +kernel
theorem dX12_area_26 : decode cX12_area 26 = .ok (.iload_n 3, 1) := by decide +kernel
theorem dX12_area_27 : decode cX12_area 27 = .ok (.iconst 0, 1) := by decide +kernel
theorem dX12_area_28 : decode cX12_area 28 = .ok (.sipush 1000, 3) := by decide +kernel
theorem dX12_area_31 : decode cX12_area 31 = .ok (.invokestatic 100, 3) := by decide +kernel
theorem dX12_area_34 : decode cX12_area 34 = .ok (.istore 5, 2) := by decide +kernel
theorem dX12_area_36 : decode cX12_area 36 = .ok (.iload 5, 2) := by decide +kernel
theorem dX12_area_38 : decode cX12_area 38 = .ok (.ifCond .eq 11, 3) := by decide +kernel
theorem dX12_area_41 : decode cX12_area 41 = .ok (.aload_n 0, 1) := by decide +kernel
theorem dX12_area_42 : decode cX12_area 42 = .ok (.iload 5, 2) := by decide +kernel
theorem dX12_area_44 : decode cX12_area 44 = .ok (.invokevirtual 85, 3) := by decide +kernel
theorem dX12_area_47 : decode cX12_area 47 = .ok (.i2l, 1) := by decide +kernel
theorem dX12_area_48 : decode cX12_area 48 = .ok (.lreturn, 1) := by decide +kernel
theorem dX12_area_49 : decode cX12_area 49 = .ok (.aload_n 0, 1) := by decide +kernel
theorem dX12_area_50 : decode cX12_area 50 = .ok (.iload_n 2, 1) := by decide +kernel
theorem dX12_area_51 : decode cX12_area 51 = .ok (.iload_n 3, 1) := by decide +kernel
theorem dX12_area_52 : decode cX12_area 52 = .ok (.invokevirtual 231, 3) := by decide +kernel
theorem dX12_area_55 : decode cX12_area 55 = .ok (.aload_n 0, 1) := by decide +kernel
theorem dX12_area_56 : decode cX12_area 56 = .ok (.getfield 41, 3) := by decide +kernel
theorem dX12_area_59 : decode cX12_area 59 = .ok (.aload 4, 2) := by decide +kernel
theorem dX12_area_61 : decode cX12_area 61 = .ok (.invokevirtual 235, 3) := by decide +kernel
theorem dX12_area_64 : decode cX12_area 64 = .ok (.ifCond .ne 11, 3) := by decide +kernel
theorem dX12_area_67 : decode cX12_area 67 = .ok (.aload_n 0, 1) := by decide +kernel
theorem dX12_area_68 : decode cX12_area 68 = .ok (.bipush (-7), 2) := by decide +kernel
theorem dX12_area_70 : decode cX12_area 70 = .ok (.invokevirtual 85, 3) := by decide +kernel
theorem dX12_area_73 : decode cX12_area 73 = .ok (.i2l, 1) := by decide +kernel
theorem dX12_area_74 : decode cX12_area 74 = .ok (.lreturn, 1) := by decide +kernel
theorem dX12_area_75 : decode cX12_area 75 = .ok (.aload_n 0, 1) := by decide +kernel
theorem dX12_area_76 : decode cX12_area 76 = .ok (.getfield 41, 3) := by decide +kernel
theorem dX12_area_79 : decode cX12_area 79 = .ok (.aload 4, 2) := by decide +kernel
theorem dX12_area_81 : decode cX12_area 81 = .ok (.invokevirtual 252, 3) := by decide +kernel
theorem dX12_area_84 : decode cX12_area 84 = .ok (.lreturn, 1) := by decide +kernel
set_option maxRecDepth 100000 in
set_option maxHeartbeats 4000000 in
theorem wp_X12_area {n0 d : Nat} {K : z_K} {I : z_I} {L : z_L} {Q : z_R} {p0 : Int32} {p1 : Int32} {p2 : Int32} (hL : CLay K) (h : RM0 n0 xX12_pieceOf d [.ref (n0 + 0), .int p0] K I L (fun vv I1 L2 => ∃ r3 : Option Nat, vv = some (zr n0 r3) ∧ ((r3 = none → RM0 n0 xX12_refuse d [.ref (n0 + 0), .int (-1)] K I1 L2 (fun vv I6 L7 => ∃ r8 : Int32, vv = some (.int r8) ∧ Q (some (.long r8.toInt64)) K I6 L7)) ∧ (∀ q5, r3 = some q5 → RM0 n0 xX12_isSize d [.int p1] K I1 L2 (fun vv I9 L10 => ∃ r11 : Int32, vv = some (.int r11) ∧ (if r11 = 0 then RM0 n0 xX12_refuse d [.ref (n0 + 0), .int (-1)] K I9 L10 (fun vv I36 L37 => ∃ r38 : Int32, vv = some (.int r38) ∧ Q (some (.long r38.toInt64)) K I36 L37) else RM0 n0 xX12_outside d [.int p2, .int 0, .int 1000] K I9 L10 (fun vv I13 L14 => ∃ r15 : Int32, vv = some (.int r15) ∧ (if r15 = 0 then RM n0 xX12_drawAt d 0 0 [.ref (n0 + 0), .int p1, .int p2] K I13 L14 (fun vv K19 I17 L18 => vv = none ∧ CLay K19 ∧ RM n0 xX2_sound d 0 0 [.ref (n0 + 8), .ref (n0 + q5)] K19 I17 L18 (fun vv K23 I21 L22 => ∃ r24 : Int32, vv = some (.int r24) ∧ CLay K23 ∧ (if r24 = 0 then RM0 n0 xX12_refuse d [.ref (n0 + 0), .int (-7)] K23 I21 L22 (fun vv I30 L31 => ∃ r32 : Int32, vv = some (.int r32) ∧ Q (some (.long r32.toInt64)) K23 I30 L31) else RM0 n0 xX2_areaOf d [.ref (n0 + 8), .ref (n0 + q5)] K23 I21 L22 (fun vv I27 L28 => ∃ r29 : Int64, vv = some (.long r29) ∧ Q (some (.long r29)) K23 I27 L28)))) else RM0 n0 xX12_refuse d [.ref (n0 + 0), .int r15] K I13 L14 (fun vv I33 L34 => ∃ r35 : Int32, vv = some (.int r35) ∧ Q (some (.long r35.toInt64)) K I33 L34))))))))) : RM n0 xX12_area (d + 1) 0 0 [.ref (n0 + 0), .int p0, .int p1, .int p2] K I L Q := by
  refine z_entry (by decide) (Nat.le_of_ble_eq_true rfl) ?_
  change Z n0 xX12_area (d + 1) 0 0 0 [(0, .ref (n0 + 0)), (1, .int p0), (2, .int p1), (3, .int p2)] [] K I L Q
  refine z_aload_n 0 dX12_area_0 rfl ?_
  refine z_iload_n 1 dX12_area_1 rfl ?_
  refine z_callV0 (As := [.int p0]) (st := []) dX12_area_2 hy_X12_pieceOf (co_0 hL).1 (co_0 hL).2 (by decide) wg_572 wg_574 wg_5 (Nat.le_refl _) (Nat.le_of_ble_eq_true rfl) (RM0.mono h ?_)
  clear h
  intro vv I1 L2 h
  obtain ⟨r3, rfl, h⟩ := h
  change Z n0 xX12_area (d + 1) 0 0 5 [(0, .ref (n0 + 0)), (1, .int p0), (2, .int p1), (3, .int p2)] [zr n0 r3] K I1 L2 Q
  refine z_astoreO [1, 2, 3, 4, 0] [(0, .ref (n0 + 0)), (1, .int p0), (2, .int p1), (3, .int p2), (4, zr n0 r3)] dX12_area_5 (by decide) (fun v hv => by subst hv; rfl) ?_
  refine z_aloadO 4 dX12_area_7 rfl ?_
  refine z_ifnull 19 dX12_area_9 (by decide) (fun g4 => ?_) (fun q5 g4 => ?_)
  · replace h := h.1 g4
    subst g4
    change Z n0 xX12_area (d + 1) 0 0 19 [(0, .ref (n0 + 0)), (1, .int p0), (2, .int p1), (3, .int p2), (4, .null)] [] K I1 L2 Q
    refine z_aload_n 0 dX12_area_19 rfl ?_
    refine z_iconst (-1) dX12_area_20 (by decide) ?_
    refine z_callV0 (As := [.int (-1)]) (st := []) dX12_area_21 hy_X12_refuse (co_0 hL).1 (co_0 hL).2 (by decide) wg_462 wg_464 wg_0 (Nat.le_refl _) (Nat.le_of_ble_eq_true rfl) (RM0.mono h ?_)
    clear h
    intro vv I6 L7 h
    obtain ⟨r8, rfl, h⟩ := h
    change Z n0 xX12_area (d + 1) 0 0 24 [(0, .ref (n0 + 0)), (1, .int p0), (2, .int p1), (3, .int p2), (4, .null)] [.int r8] K I6 L7 Q
    refine z_i2l dX12_area_24 ?_
    exact z_lret dX12_area_25 rfl h
  · replace h := h.2 q5 g4
    subst g4
    change Z n0 xX12_area (d + 1) 0 0 12 [(0, .ref (n0 + 0)), (1, .int p0), (2, .int p1), (3, .int p2), (4, .ref (n0 + q5))] [] K I1 L2 Q
    refine z_iload_n 2 dX12_area_12 rfl ?_
    refine z_callS0 (As := [.int p1]) (st := []) dX12_area_13 hy_X12_isSize wg_473 wg_474 (Nat.le_refl _) (Nat.le_of_ble_eq_true rfl) (RM0.mono h ?_)
    clear h
    intro vv I9 L10 h
    obtain ⟨r11, rfl, h⟩ := h
    change Z n0 xX12_area (d + 1) 0 0 16 [(0, .ref (n0 + 0)), (1, .int p0), (2, .int p1), (3, .int p2), (4, .ref (n0 + q5))] [.int r11] K I9 L10 Q
    refine z_if_ne 26 dX12_area_16 (by decide) (fun g12 => ?_) (fun g12 => ?_)
    · rw [if_neg g12] at h
      refine z_iload_n 3 dX12_area_26 rfl ?_
      refine z_iconst 0 dX12_area_27 (by decide) ?_
      refine z_sipush 1000 dX12_area_28 (by decide) ?_
      refine z_callS0 (As := [.int p2, .int 0, .int 1000]) (st := []) dX12_area_31 hy_X12_outside wg_476 wg_477 (Nat.le_refl _) (Nat.le_of_ble_eq_true rfl) (RM0.mono h ?_)
      clear h
      intro vv I13 L14 h
      obtain ⟨r15, rfl, h⟩ := h
      change Z n0 xX12_area (d + 1) 0 0 34 [(0, .ref (n0 + 0)), (1, .int p0), (2, .int p1), (3, .int p2), (4, .ref (n0 + q5))] [.int r15] K I13 L14 Q
      refine z_istore [1, 2, 3, 4, 5, 0] [(0, .ref (n0 + 0)), (1, .int p0), (2, .int p1), (3, .int p2), (4, .ref (n0 + q5)), (5, .int r15)] dX12_area_34 (by decide) rfl ?_
      refine z_iload 5 dX12_area_36 rfl ?_
      refine z_if_eq 49 dX12_area_38 (by decide) (fun g16 => ?_) (fun g16 => ?_)
      · rw [if_pos g16] at h
        refine z_aload_n 0 dX12_area_49 rfl ?_
        refine z_iload_n 2 dX12_area_50 rfl ?_
        refine z_iload_n 3 dX12_area_51 rfl ?_
        refine z_callV (rc := 0) (rs := 0) (mc1 := 0) (ms1 := 0) (As := [.int p1, .int p2]) (st := []) dX12_area_52 hy_X12_drawAt (co_0 hL).1 (co_0 hL).2 (by decide) wg_831 wg_833 wg_19 (Nat.le_refl _) (Nat.le_of_ble_eq_true rfl) (RM.mono h ?_)
        clear h
        intro vv K19 I17 L18 h
        obtain ⟨rfl, h⟩ := h
        obtain ⟨hL20, h⟩ := h
        change Z n0 xX12_area (d + 1) 0 0 55 [(0, .ref (n0 + 0)), (1, .int p0), (2, .int p1), (3, .int p2), (4, .ref (n0 + q5)), (5, .int r15)] [] K19 I17 L18 Q
        refine z_aload_n 0 dX12_area_55 rfl ?_
        refine fg_12_41 (some 8) rfl dX12_area_56 (co_0 hL20).1 (co_0 hL20).2 (cp_8 hL20) ?_
        refine z_aload 4 dX12_area_59 rfl ?_
        refine z_callV (rc := 0) (rs := 0) (mc1 := 0) (ms1 := 0) (As := [.ref (n0 + q5)]) (st := []) dX12_area_61 hy_X2_sound (co_8 hL20).1 (co_8 hL20).2 (by decide) wg_839 wg_840 wg_841 (Nat.le_refl _) (Nat.le_of_ble_eq_true rfl) (RM.mono h ?_)
        clear h
        intro vv K23 I21 L22 h
        obtain ⟨r24, rfl, h⟩ := h
        obtain ⟨hL25, h⟩ := h
        change Z n0 xX12_area (d + 1) 0 0 64 [(0, .ref (n0 + 0)), (1, .int p0), (2, .int p1), (3, .int p2), (4, .ref (n0 + q5)), (5, .int r15)] [.int r24] K23 I21 L22 Q
        refine z_if_ne 75 dX12_area_64 (by decide) (fun g26 => ?_) (fun g26 => ?_)
        · rw [if_neg g26] at h
          refine z_aload_n 0 dX12_area_75 rfl ?_
          refine fg_12_41 (some 8) rfl dX12_area_76 (co_0 hL25).1 (co_0 hL25).2 (cp_8 hL25) ?_
          refine z_aload 4 dX12_area_79 rfl ?_
          refine z_callV0 (As := [.ref (n0 + q5)]) (st := []) dX12_area_81 hy_X2_areaOf (co_8 hL25).1 (co_8 hL25).2 (by decide) wg_917 wg_918 wg_919 (Nat.le_refl _) (Nat.le_of_ble_eq_true rfl) (RM0.mono h ?_)
          clear h
          intro vv I27 L28 h
          obtain ⟨r29, rfl, h⟩ := h
          change Z n0 xX12_area (d + 1) 0 0 84 [(0, .ref (n0 + 0)), (1, .int p0), (2, .int p1), (3, .int p2), (4, .ref (n0 + q5)), (5, .int r15)] [.long r29] K23 I27 L28 Q
          exact z_lret dX12_area_84 rfl h
        · rw [if_pos g26] at h
          refine z_aload_n 0 dX12_area_67 rfl ?_
          refine z_bipush (-7) dX12_area_68 (by decide) ?_
          refine z_callV0 (As := [.int (-7)]) (st := []) dX12_area_70 hy_X12_refuse (co_0 hL25).1 (co_0 hL25).2 (by decide) wg_462 wg_464 wg_0 (Nat.le_refl _) (Nat.le_of_ble_eq_true rfl) (RM0.mono h ?_)
          clear h
          intro vv I30 L31 h
          obtain ⟨r32, rfl, h⟩ := h
          change Z n0 xX12_area (d + 1) 0 0 73 [(0, .ref (n0 + 0)), (1, .int p0), (2, .int p1), (3, .int p2), (4, .ref (n0 + q5)), (5, .int r15)] [.int r32] K23 I30 L31 Q
          refine z_i2l dX12_area_73 ?_
          exact z_lret dX12_area_74 rfl h
      · rw [if_neg g16] at h
        refine z_aload_n 0 dX12_area_41 rfl ?_
        refine z_iload 5 dX12_area_42 rfl ?_
        refine z_callV0 (As := [.int r15]) (st := []) dX12_area_44 hy_X12_refuse (co_0 hL).1 (co_0 hL).2 (by decide) wg_462 wg_464 wg_0 (Nat.le_refl _) (Nat.le_of_ble_eq_true rfl) (RM0.mono h ?_)
        clear h
        intro vv I33 L34 h
        obtain ⟨r35, rfl, h⟩ := h
        change Z n0 xX12_area (d + 1) 0 0 47 [(0, .ref (n0 + 0)), (1, .int p0), (2, .int p1), (3, .int p2), (4, .ref (n0 + q5)), (5, .int r15)] [.int r35] K I33 L34 Q
        refine z_i2l dX12_area_47 ?_
        exact z_lret dX12_area_48 rfl h
    · rw [if_pos g12] at h
      refine z_aload_n 0 dX12_area_19 rfl ?_
      refine z_iconst (-1) dX12_area_20 (by decide) ?_
      refine z_callV0 (As := [.int (-1)]) (st := []) dX12_area_21 hy_X12_refuse (co_0 hL).1 (co_0 hL).2 (by decide) wg_462 wg_464 wg_0 (Nat.le_refl _) (Nat.le_of_ble_eq_true rfl) (RM0.mono h ?_)
      clear h
      intro vv I36 L37 h
      obtain ⟨r38, rfl, h⟩ := h
      change Z n0 xX12_area (d + 1) 0 0 24 [(0, .ref (n0 + 0)), (1, .int p0), (2, .int p1), (3, .int p2), (4, .ref (n0 + q5))] [.int r38] K I36 L37 Q
      refine z_i2l dX12_area_24 ?_
      exact z_lret dX12_area_25 rfl h
theorem dX12_seam_0 : decode cX12_seam 0 = .ok (.aload_n 0, 1) := by decide +kernel
theorem dX12_seam_1 : decode cX12_seam 1 = .ok (.iload_n 1, 1) := by decide +kernel
theorem dX12_seam_2 : decode cX12_seam 2 = .ok (.iload_n 2, 1) := by decide +kernel
theorem dX12_seam_3 : decode cX12_seam 3 = .ok (.invokevirtual 160, 3) := by decide +kernel
theorem dX12_seam_6 : decode cX12_seam 6 = .ok (.astore 9, 2) := by decide +kernel
theorem dX12_seam_8 : decode cX12_seam 8 = .ok (.aload_n 0, 1) := by decide +kernel
theorem dX12_seam_9 : decode cX12_seam 9 = .ok (.iload 4, 2) := by decide +kernel
theorem dX12_seam_11 : decode cX12_seam 11 = .ok (.iload 5, 2) := by decide +kernel
theorem dX12_seam_13 : decode cX12_seam 13 = .ok (.invokevirtual 160, 3) := by decide +kernel
theorem dX12_seam_16 : decode cX12_seam 16 = .ok (.astore 10, 2) := by decide +kernel
theorem dX12_seam_18 : decode cX12_seam 18 = .ok (.aload 9, 2) := by decide +kernel
theorem dX12_seam_20 : decode cX12_seam 20 = .ok (.ifnull 27, 3) := by decide +kernel
theorem dX12_seam_23 : decode cX12_seam 23 = .ok (.aload 9, 2) := by decide +kernel
theorem dX12_seam_25 : decode cX12_seam 25 = .ok (.iload_n 3, 1) := by decide +kernel
theorem dX12_seam_26 : decode cX12_seam 26 = .ok (.invokevirtual 246, 3) := by decide +kernel
theorem dX12_seam_29 : decode cX12_seam 29 = .ok (.ifCond .eq 18, 3) := by decide +kernel
theorem dX12_seam_32 : decode cX12_seam 32 = .ok (.aload 10, 2) := by decide +kernel
theorem dX12_seam_34 : decode cX12_seam 34 = .ok (.ifnull 13, 3) := by decide +kernel
theorem dX12_seam_37 : decode cX12_seam 37 = .ok (.aload 10, 2) := by decide +kernel
theorem dX12_seam_39 : decode cX12_seam 39 = .ok (.iload 6, 2) := by decide +kernel
theorem dX12_seam_41 : decode cX12_seam 41 = .ok (.invokevirtual 246, 3) := by decide +kernel
theorem dX12_seam_44 : decode cX12_seam 44 = .ok (.ifCond .ne 9, 3) := by decide +kernel
theorem dX12_seam_47 : decode cX12_seam 47 = .ok (.aload_n 0, 1) := by decide +kernel
theorem dX12_seam_48 : decode cX12_seam 48 = .ok (.iconst (-1), 1) := by decide +kernel
theorem dX12_seam_49 : decode cX12_seam 49 = .ok (.invokevirtual 85, 3) := by decide +kernel
theorem dX12_seam_52 : decode cX12_seam 52 = .ok (.ireturn, 1) := by decide +kernel
theorem dX12_seam_53 : decode cX12_seam 53 = .ok (.iload 7, 2) := by decide +kernel
theorem dX12_seam_55 : decode cX12_seam 55 = .ok (.iload 8, 2) := by decide +kernel
theorem dX12_seam_57 : decode cX12_seam 57 = .ok (.sipush (-999), 3) := by decide +kernel
theorem dX12_seam_60 : decode cX12_seam 60 = .ok (.sipush 999, 3) := by decide +kernel
theorem dX12_seam_63 : decode cX12_seam 63 = .ok (.invokestatic 197, 3) := by decide +kernel
theorem dX12_seam_66 : decode cX12_seam 66 = .ok (.istore 11, 2) := by decide +kernel
theorem dX12_seam_68 : decode cX12_seam 68 = .ok (.iload 11, 2) := by decide +kernel
theorem dX12_seam_70 : decode cX12_seam 70 = .ok (.bipush (-4), 2) := by decide +kernel
theorem dX12_seam_72 : decode cX12_seam 72 = .ok (.if_icmp .eq 10, 3) := by decide +kernel
theorem dX12_seam_75 : decode cX12_seam 75 = .ok (.iload 7, 2) := by decide +kernel
theorem dX12_seam_77 : decode cX12_seam 77 = .ok (.iload 8, 2) := by decide +kernel
theorem dX12_seam_79 : decode cX12_seam 79 = .ok (.if_icmp .le 10, 3) := by decide +kernel
theorem dX12_seam_82 : decode cX12_seam 82 = .ok (.aload_n 0, 1) := by decide +kernel
theorem dX12_seam_83 : decode cX12_seam 83 = .ok (.bipush (-4), 2) := by decide +kernel
theorem dX12_seam_85 : decode cX12_seam 85 = .ok (.invokevirtual 85, 3) := by decide +kernel
theorem dX12_seam_88 : decode cX12_seam 88 = .ok (.ireturn, 1) := by decide +kernel
theorem dX12_seam_89 : decode cX12_seam 89 = .ok (.iload 11, 2) := by decide +kernel
theorem dX12_seam_91 : decode cX12_seam 91 = .ok (.ifCond .ne 12, 3) := by decide +kernel
theorem dX12_seam_94 : decode cX12_seam 94 = .ok (.aload_n 0, 1) := by decide +kernel
theorem dX12_seam_95 : decode cX12_seam 95 = .ok (.getfield 256, 3) := by decide +kernel
theorem dX12_seam_98 : decode cX12_seam 98 = .ok (.bipush 20, 2) := by decide +kernel
theorem dX12_seam_100 : decode cX12_seam 100 = .ok (.if_icmp .lt 10, 3) := by decide +kernel
theorem dX12_seam_103 : decode cX12_seam 103 = .ok (.aload_n 0, 1) := by decide +kernel
theorem dX12_seam_104 : decode cX12_seam 104 = .ok (.bipush (-6), 2) := by decide +kernel
theorem dX12_seam_106 : decode cX12_seam 106 = .ok (.invokevirtual 85, 3) := by decide +kernel
theorem dX12_seam_109 : decode cX12_seam 109 = .ok (.ireturn, 1) := by decide +kernel
theorem dX12_seam_110 : decode cX12_seam 110 = .ok (.new 45, 3) := by decide +kernel
theorem dX12_seam_113 : decode cX12_seam 113 = .ok (.dup, 1) := by decide +kernel
theorem dX12_seam_114 : decode cX12_seam 114 = .ok (.aload 9, 2) := by decide +kernel
theorem dX12_seam_116 : decode cX12_seam 116 = .ok (.iload_n 2, 1) := by decide +kernel
theorem dX12_seam_117 : decode cX12_seam 117 = .ok (.iload_n 3, 1) := by decide +kernel
theorem dX12_seam_118 : decode cX12_seam 118 = .ok (.iload 7, 2) := by decide +kernel
theorem dX12_seam_120 : decode cX12_seam 120 = .ok (.iload 8, 2) := by decide +kernel
theorem dX12_seam_122 : decode cX12_seam 122 = .ok (.invokespecial 259, 3) := by decide +kernel
theorem dX12_seam_125 : decode cX12_seam 125 = .ok (.astore 12, 2) := by decide +kernel
theorem dX12_seam_127 : decode cX12_seam 127 = .ok (.aload 12, 2) := by decide +kernel
theorem dX12_seam_129 : decode cX12_seam 129 = .ok (.aload 10, 2) := by decide +kernel
theorem dX12_seam_131 : decode cX12_seam 131 = .ok (.iload 5, 2) := by decide +kernel
theorem dX12_seam_133 : decode cX12_seam 133 = .ok (.iload 6, 2) := by decide +kernel
theorem dX12_seam_135 : decode cX12_seam 135 = .ok (.invokevirtual 262, 3) := by decide +kernel
theorem dX12_seam_138 : decode cX12_seam 138 = .ok (.aload_n 0, 1) := by decide +kernel
theorem dX12_seam_139 : decode cX12_seam 139 = .ok (.getfield 47, 3) := by decide +kernel
theorem dX12_seam_142 : decode cX12_seam 142 = .ok (.aload_n 0, 1) := by decide +kernel
theorem dX12_seam_143 : decode cX12_seam 143 = .ok (.getfield 256, 3) := by decide +kernel
theorem dX12_seam_146 : decode cX12_seam 146 = .ok (.aload 12, 2) := by decide +kernel
theorem dX12_seam_148 : decode cX12_seam 148 = .ok (.aastore, 1) := by decide +kernel
theorem dX12_seam_149 : decode cX12_seam 149 = .ok (.aload_n 0, 1) := by decide +kernel
theorem dX12_seam_150 : decode cX12_seam 150 = .ok (.dup, 1) := by decide +kernel
theorem dX12_seam_151 : decode cX12_seam 151 = .ok (.getfield 256, 3) := by decide +kernel
theorem dX12_seam_154 : decode cX12_seam 154 = .ok (.dup_x1, 1) := by decide +kernel
theorem dX12_seam_155 : decode cX12_seam 155 = .ok (.iconst 1, 1) := by decide +kernel
theorem dX12_seam_156 : decode cX12_seam 156 = .ok (.iadd, 1) := by decide +kernel
theorem dX12_seam_157 : decode cX12_seam 157 = .ok (.putfield 256, 3) := by decide +kernel
theorem dX12_seam_160 : decode cX12_seam 160 = .ok (.ireturn, 1) := by decide +kernel
set_option maxRecDepth 100000 in
set_option maxHeartbeats 4000000 in
theorem wp_X12_seam {n0 d : Nat} {K : z_K} {I : z_I} {L : z_L} {Q : z_R} {p0 : Int32} {p1 : Int32} {p2 : Int32} {p3 : Int32} {p4 : Int32} {p5 : Int32} {p6 : Int32} {p7 : Int32} (hL : CLay K) (h : RM0 n0 xX12_pieceWith d [.ref (n0 + 0), .int p0, .int p1] K I L (fun vv I1 L2 => ∃ r3 : Option Nat, vv = some (zr n0 r3) ∧ RM0 n0 xX12_pieceWith d [.ref (n0 + 0), .int p3, .int p4] K I1 L2 (fun vv I4 L5 => ∃ r6 : Option Nat, vv = some (zr n0 r6) ∧ ((r3 = none → RM0 n0 xX12_refuse d [.ref (n0 + 0), .int (-1)] K I4 L5 (fun vv I9 L10 => ∃ r11 : Int32, vv = some (.int r11) ∧ Q (some (.int r11)) K I9 L10)) ∧ (∀ q8, r3 = some q8 → q8 < K.1 ∧ (K.2.1 q8).1 = 5 ∧ RM0 n0 xX5_has d [.ref (n0 + q8), .int p2] K I4 L5 (fun vv I14 L15 => ∃ r16 : Int32, vv = some (.int r16) ∧ (if r16 = 0 then RM0 n0 xX12_refuse d [.ref (n0 + 0), .int (-1)] K I14 L15 (fun vv I18 L19 => ∃ r20 : Int32, vv = some (.int r20) ∧ Q (some (.int r20)) K I18 L19) else ((r6 = none → RM0 n0 xX12_refuse d [.ref (n0 + 0), .int (-1)] K I14 L15 (fun vv I23 L24 => ∃ r25 : Int32, vv = some (.int r25) ∧ Q (some (.int r25)) K I23 L24)) ∧ (∀ q22, r6 = some q22 → q22 < K.1 ∧ (K.2.1 q22).1 = 5 ∧ RM0 n0 xX5_has d [.ref (n0 + q22), .int p5] K I14 L15 (fun vv I28 L29 => ∃ r30 : Int32, vv = some (.int r30) ∧ (if r30 = 0 then RM0 n0 xX12_refuse d [.ref (n0 + 0), .int (-1)] K I28 L29 (fun vv I69 L70 => ∃ r71 : Int32, vv = some (.int r71) ∧ Q (some (.int r71)) K I69 L70) else RM0 n0 xX12_bothOutside d [.int p6, .int p7, .int (-999), .int 999] K I28 L29 (fun vv I32 L33 => ∃ r34 : Int32, vv = some (.int r34) ∧ (if r34 = (-4) then RM0 n0 xX12_refuse d [.ref (n0 + 0), .int (-4)] K I32 L33 (fun vv I36 L37 => ∃ r38 : Int32, vv = some (.int r38) ∧ Q (some (.int r38)) K I36 L37) else (if p7 < p6 then RM0 n0 xX12_refuse d [.ref (n0 + 0), .int (-4)] K I32 L33 (fun vv I66 L67 => ∃ r68 : Int32, vv = some (.int r68) ∧ Q (some (.int r68)) K I66 L67) else (if r34 = 0 then (if ((I32 0 13) : Int32) < 20 then (∀ b48, K.1 = b48 → ∀ K45, K45 = zN K 8 0 → ∀ I46, I46 = zI0 I32 b48 → ∀ L47, L47 = zL0 L33 b48 → CLay K45 ∧ RM n0 xX8_init d 2 12 [.ref (n0 + b48), .ref (n0 + q8), .int p1, .int p2, .int p6, .int p7] K45 I46 L47 (fun vv K52 I50 L51 => vv = none ∧ CLay K52 ∧ b48 < K52.1 ∧ (K52.2.1 b48).1 = 8 ∧ RM n0 xX8_sewTo d 0 0 [.ref (n0 + b48), .ref (n0 + q22), .int p4, .int p5] K52 I50 L51 (fun vv K58 I56 L57 => vv = none ∧ CLay K58 ∧ vp_in (I56 0 13) 20 ∧ b48 < K58.1 ∧ (K58.2.1 b48).1 = 8 ∧ Q (some (.int (I56 0 13))) (zR K58 21 ((I56 0 13).toNatClampNeg) (some b48)) (zI I56 0 13 ((I56 0 13) + 1)) L57))) else RM0 n0 xX12_refuse d [.ref (n0 + 0), .int (-6)] K I32 L33 (fun vv I63 L64 => ∃ r65 : Int32, vv = some (.int r65) ∧ Q (some (.int r65)) K I63 L64)) else RM0 n0 xX12_refuse d [.ref (n0 + 0), .int (-6)] K I32 L33 (fun vv I41 L42 => ∃ r43 : Int32, vv = some (.int r43) ∧ Q (some (.int r43)) K I41 L42)))))))))))))))) : RM n0 xX12_seam (d + 1) 3 26 [.ref (n0 + 0), .int p0, .int p1, .int p2, .int p3, .int p4, .int p5, .int p6, .int p7] K I L Q := by
  refine z_entry (by decide) (Nat.le_of_ble_eq_true rfl) ?_
  change Z n0 xX12_seam (d + 1) 3 26 0 [(0, .ref (n0 + 0)), (1, .int p0), (2, .int p1), (3, .int p2), (4, .int p3), (5, .int p4), (6, .int p5), (7, .int p6), (8, .int p7)] [] K I L Q
  refine z_aload_n 0 dX12_seam_0 rfl ?_
  refine z_iload_n 1 dX12_seam_1 rfl ?_
  refine z_iload_n 2 dX12_seam_2 rfl ?_
  refine z_callV0 (As := [.int p0, .int p1]) (st := []) dX12_seam_3 hy_X12_pieceWith (co_0 hL).1 (co_0 hL).2 (by decide) wg_655 wg_657 wg_6 (Nat.le_refl _) (Nat.le_of_ble_eq_true rfl) (RM0.mono h ?_)
  clear h
  intro vv I1 L2 h
  obtain ⟨r3, rfl, h⟩ := h
  change Z n0 xX12_seam (d + 1) 3 26 6 [(0, .ref (n0 + 0)), (1, .int p0), (2, .int p1), (3, .int p2), (4, .int p3), (5, .int p4), (6, .int p5), (7, .int p6), (8, .int p7)] [zr n0 r3] K I1 L2 Q
  refine z_astoreO [1, 2, 3, 4, 5, 6, 7, 8, 9, 0] [(0, .ref (n0 + 0)), (1, .int p0), (2, .int p1), (3, .int p2), (4, .int p3), (5, .int p4), (6, .int p5), (7, .int p6), (8, .int p7), (9, zr n0 r3)] dX12_seam_6 (by decide) (fun v hv => by subst hv; rfl) ?_
  refine z_aload_n 0 dX12_seam_8 rfl ?_
  refine z_iload 4 dX12_seam_9 rfl ?_
  refine z_iload 5 dX12_seam_11 rfl ?_
  refine z_callV0 (As := [.int p3, .int p4]) (st := []) dX12_seam_13 hy_X12_pieceWith (co_0 hL).1 (co_0 hL).2 (by decide) wg_655 wg_657 wg_6 (Nat.le_refl _) (Nat.le_of_ble_eq_true rfl) (RM0.mono h ?_)
  clear h
  intro vv I4 L5 h
  obtain ⟨r6, rfl, h⟩ := h
  change Z n0 xX12_seam (d + 1) 3 26 16 [(0, .ref (n0 + 0)), (1, .int p0), (2, .int p1), (3, .int p2), (4, .int p3), (5, .int p4), (6, .int p5), (7, .int p6), (8, .int p7), (9, zr n0 r3)] [zr n0 r6] K I4 L5 Q
  refine z_astoreO [1, 2, 3, 4, 5, 6, 7, 8, 9, 10, 0] [(0, .ref (n0 + 0)), (1, .int p0), (2, .int p1), (3, .int p2), (4, .int p3), (5, .int p4), (6, .int p5), (7, .int p6), (8, .int p7), (9, zr n0 r3), (10, zr n0 r6)] dX12_seam_16 (by decide) (fun v hv => by subst hv; cases r3 <;> rfl) ?_
  refine z_aloadO 9 dX12_seam_18 rfl ?_
  refine z_ifnull 47 dX12_seam_20 (by decide) (fun g7 => ?_) (fun q8 g7 => ?_)
  · replace h := h.1 g7
    subst g7
    change Z n0 xX12_seam (d + 1) 3 26 47 [(0, .ref (n0 + 0)), (1, .int p0), (2, .int p1), (3, .int p2), (4, .int p3), (5, .int p4), (6, .int p5), (7, .int p6), (8, .int p7), (9, .null), (10, zr n0 r6)] [] K I4 L5 Q
    refine z_aload_n 0 dX12_seam_47 rfl ?_
    refine z_iconst (-1) dX12_seam_48 (by decide) ?_
    refine z_callV0 (As := [.int (-1)]) (st := []) dX12_seam_49 hy_X12_refuse (co_0 hL).1 (co_0 hL).2 (by decide) wg_462 wg_464 wg_0 (Nat.le_refl _) (Nat.le_of_ble_eq_true rfl) (RM0.mono h ?_)
    clear h
    intro vv I9 L10 h
    obtain ⟨r11, rfl, h⟩ := h
    change Z n0 xX12_seam (d + 1) 3 26 52 [(0, .ref (n0 + 0)), (1, .int p0), (2, .int p1), (3, .int p2), (4, .int p3), (5, .int p4), (6, .int p5), (7, .int p6), (8, .int p7), (9, .null), (10, zr n0 r6)] [.int r11] K I9 L10 Q
    exact z_iret dX12_seam_52 rfl h
  · replace h := h.2 q8 g7
    subst g7
    change Z n0 xX12_seam (d + 1) 3 26 23 [(0, .ref (n0 + 0)), (1, .int p0), (2, .int p1), (3, .int p2), (4, .int p3), (5, .int p4), (6, .int p5), (7, .int p6), (8, .int p7), (9, .ref (n0 + q8)), (10, zr n0 r6)] [] K I4 L5 Q
    refine z_aload 9 dX12_seam_23 rfl ?_
    refine z_iload_n 3 dX12_seam_25 rfl ?_
    obtain ⟨o12, o13, h⟩ := h
    refine z_callV0 (As := [.int p2]) (st := []) dX12_seam_26 hy_X5_has o12 o13 (by decide) wg_659 wg_660 wg_661 (Nat.le_refl _) (Nat.le_of_ble_eq_true rfl) (RM0.mono h ?_)
    clear h
    intro vv I14 L15 h
    obtain ⟨r16, rfl, h⟩ := h
    change Z n0 xX12_seam (d + 1) 3 26 29 [(0, .ref (n0 + 0)), (1, .int p0), (2, .int p1), (3, .int p2), (4, .int p3), (5, .int p4), (6, .int p5), (7, .int p6), (8, .int p7), (9, .ref (n0 + q8)), (10, zr n0 r6)] [.int r16] K I14 L15 Q
    refine z_if_eq 47 dX12_seam_29 (by decide) (fun g17 => ?_) (fun g17 => ?_)
    · rw [if_pos g17] at h
      refine z_aload_n 0 dX12_seam_47 rfl ?_
      refine z_iconst (-1) dX12_seam_48 (by decide) ?_
      refine z_callV0 (As := [.int (-1)]) (st := []) dX12_seam_49 hy_X12_refuse (co_0 hL).1 (co_0 hL).2 (by decide) wg_462 wg_464 wg_0 (Nat.le_refl _) (Nat.le_of_ble_eq_true rfl) (RM0.mono h ?_)
      clear h
      intro vv I18 L19 h
      obtain ⟨r20, rfl, h⟩ := h
      change Z n0 xX12_seam (d + 1) 3 26 52 [(0, .ref (n0 + 0)), (1, .int p0), (2, .int p1), (3, .int p2), (4, .int p3), (5, .int p4), (6, .int p5), (7, .int p6), (8, .int p7), (9, .ref (n0 + q8)), (10, zr n0 r6)] [.int r20] K I18 L19 Q
      exact z_iret dX12_seam_52 rfl h
    · rw [if_neg g17] at h
      refine z_aloadO 10 dX12_seam_32 rfl ?_
      refine z_ifnull 47 dX12_seam_34 (by decide) (fun g21 => ?_) (fun q22 g21 => ?_)
      · replace h := h.1 g21
        subst g21
        change Z n0 xX12_seam (d + 1) 3 26 47 [(0, .ref (n0 + 0)), (1, .int p0), (2, .int p1), (3, .int p2), (4, .int p3), (5, .int p4), (6, .int p5), (7, .int p6), (8, .int p7), (9, .ref (n0 + q8)), (10, .null)] [] K I14 L15 Q
        refine z_aload_n 0 dX12_seam_47 rfl ?_
        refine z_iconst (-1) dX12_seam_48 (by decide) ?_
        refine z_callV0 (As := [.int (-1)]) (st := []) dX12_seam_49 hy_X12_refuse (co_0 hL).1 (co_0 hL).2 (by decide) wg_462 wg_464 wg_0 (Nat.le_refl _) (Nat.le_of_ble_eq_true rfl) (RM0.mono h ?_)
        clear h
        intro vv I23 L24 h
        obtain ⟨r25, rfl, h⟩ := h
        change Z n0 xX12_seam (d + 1) 3 26 52 [(0, .ref (n0 + 0)), (1, .int p0), (2, .int p1), (3, .int p2), (4, .int p3), (5, .int p4), (6, .int p5), (7, .int p6), (8, .int p7), (9, .ref (n0 + q8)), (10, .null)] [.int r25] K I23 L24 Q
        exact z_iret dX12_seam_52 rfl h
      · replace h := h.2 q22 g21
        subst g21
        change Z n0 xX12_seam (d + 1) 3 26 37 [(0, .ref (n0 + 0)), (1, .int p0), (2, .int p1), (3, .int p2), (4, .int p3), (5, .int p4), (6, .int p5), (7, .int p6), (8, .int p7), (9, .ref (n0 + q8)), (10, .ref (n0 + q22))] [] K I14 L15 Q
        refine z_aload 10 dX12_seam_37 rfl ?_
        refine z_iload 6 dX12_seam_39 rfl ?_
        obtain ⟨o26, o27, h⟩ := h
        refine z_callV0 (As := [.int p5]) (st := []) dX12_seam_41 hy_X5_has o26 o27 (by decide) wg_659 wg_660 wg_661 (Nat.le_refl _) (Nat.le_of_ble_eq_true rfl) (RM0.mono h ?_)
        clear h
        intro vv I28 L29 h
        obtain ⟨r30, rfl, h⟩ := h
        change Z n0 xX12_seam (d + 1) 3 26 44 [(0, .ref (n0 + 0)), (1, .int p0), (2, .int p1), (3, .int p2), (4, .int p3), (5, .int p4), (6, .int p5), (7, .int p6), (8, .int p7), (9, .ref (n0 + q8)), (10, .ref (n0 + q22))] [.int r30] K I28 L29 Q
        refine z_if_ne 53 dX12_seam_44 (by decide) (fun g31 => ?_) (fun g31 => ?_)
        · rw [if_neg g31] at h
          refine z_iload 7 dX12_seam_53 rfl ?_
          refine z_iload 8 dX12_seam_55 rfl ?_
          refine z_sipush (-999) dX12_seam_57 (by decide) ?_
          refine z_sipush 999 dX12_seam_60 (by decide) ?_
          refine z_callS0 (As := [.int p6, .int p7, .int (-999), .int 999]) (st := []) dX12_seam_63 hy_X12_bothOutside wg_793 wg_794 (Nat.le_refl _) (Nat.le_of_ble_eq_true rfl) (RM0.mono h ?_)
          clear h
          intro vv I32 L33 h
          obtain ⟨r34, rfl, h⟩ := h
          change Z n0 xX12_seam (d + 1) 3 26 66 [(0, .ref (n0 + 0)), (1, .int p0), (2, .int p1), (3, .int p2), (4, .int p3), (5, .int p4), (6, .int p5), (7, .int p6), (8, .int p7), (9, .ref (n0 + q8)), (10, .ref (n0 + q22))] [.int r34] K I32 L33 Q
          refine z_istore [1, 2, 3, 4, 5, 6, 7, 8, 9, 10, 11, 0] [(0, .ref (n0 + 0)), (1, .int p0), (2, .int p1), (3, .int p2), (4, .int p3), (5, .int p4), (6, .int p5), (7, .int p6), (8, .int p7), (9, .ref (n0 + q8)), (10, .ref (n0 + q22)), (11, .int r34)] dX12_seam_66 (by decide) rfl ?_
          refine z_iload 11 dX12_seam_68 rfl ?_
          refine z_bipush (-4) dX12_seam_70 (by decide) ?_
          refine z_icmp_eq 82 dX12_seam_72 (by decide) (fun g35 => ?_) (fun g35 => ?_)
          · rw [if_pos g35] at h
            refine z_aload_n 0 dX12_seam_82 rfl ?_
            refine z_bipush (-4) dX12_seam_83 (by decide) ?_
            refine z_callV0 (As := [.int (-4)]) (st := []) dX12_seam_85 hy_X12_refuse (co_0 hL).1 (co_0 hL).2 (by decide) wg_462 wg_464 wg_0 (Nat.le_refl _) (Nat.le_of_ble_eq_true rfl) (RM0.mono h ?_)
            clear h
            intro vv I36 L37 h
            obtain ⟨r38, rfl, h⟩ := h
            change Z n0 xX12_seam (d + 1) 3 26 88 [(0, .ref (n0 + 0)), (1, .int p0), (2, .int p1), (3, .int p2), (4, .int p3), (5, .int p4), (6, .int p5), (7, .int p6), (8, .int p7), (9, .ref (n0 + q8)), (10, .ref (n0 + q22)), (11, .int r34)] [.int r38] K I36 L37 Q
            exact z_iret dX12_seam_88 rfl h
          · rw [if_neg g35] at h
            refine z_iload 7 dX12_seam_75 rfl ?_
            refine z_iload 8 dX12_seam_77 rfl ?_
            refine z_icmp_le 89 dX12_seam_79 (by decide) (fun g39 => ?_) (fun g39 => ?_)
            · rw [if_neg g39] at h
              refine z_iload 11 dX12_seam_89 rfl ?_
              refine z_if_ne 103 dX12_seam_91 (by decide) (fun g40 => ?_) (fun g40 => ?_)
              · rw [if_neg g40] at h
                refine z_aload_n 0 dX12_seam_103 rfl ?_
                refine z_bipush (-6) dX12_seam_104 (by decide) ?_
                refine z_callV0 (As := [.int (-6)]) (st := []) dX12_seam_106 hy_X12_refuse (co_0 hL).1 (co_0 hL).2 (by decide) wg_462 wg_464 wg_0 (Nat.le_refl _) (Nat.le_of_ble_eq_true rfl) (RM0.mono h ?_)
                clear h
                intro vv I41 L42 h
                obtain ⟨r43, rfl, h⟩ := h
                change Z n0 xX12_seam (d + 1) 3 26 109 [(0, .ref (n0 + 0)), (1, .int p0), (2, .int p1), (3, .int p2), (4, .int p3), (5, .int p4), (6, .int p5), (7, .int p6), (8, .int p7), (9, .ref (n0 + q8)), (10, .ref (n0 + q22)), (11, .int r34)] [.int r43] K I41 L42 Q
                exact z_iret dX12_seam_109 rfl h
              · rw [if_pos g40] at h
                refine z_aload_n 0 dX12_seam_94 rfl ?_
                refine fg_12_256 (I32 0 13) rfl dX12_seam_95 (co_0 hL).1 (co_0 hL).2 rfl ?_
                refine z_bipush 20 dX12_seam_98 (by decide) ?_
                refine z_icmp_lt 110 dX12_seam_100 (by decide) (fun g44 => ?_) (fun g44 => ?_)
                · rw [if_pos g44] at h
                  refine z_new (rc := 2) (rs := 12) (c := 8) dX12_seam_110 (by decide) wg_233 wg_929 wg_121 ?_
                  obtain ⟨b48, b48e⟩ : ∃ b, K.1 = b := ⟨_, rfl⟩
                  obtain ⟨K45, K45e⟩ : ∃ k, k = zN K 8 0 := ⟨_, rfl⟩
                  obtain ⟨I46, I46e⟩ : ∃ k, k = zI0 I32 b48 := ⟨_, rfl⟩
                  obtain ⟨L47, L47e⟩ : ∃ k, k = zL0 L33 b48 := ⟨_, rfl⟩
                  rw [b48e, ← K45e, ← I46e, ← L47e]
                  replace h := h b48 b48e K45 K45e I46 I46e L47 L47e
                  obtain ⟨hL49, h⟩ := h
                  change Z n0 xX12_seam (d + 1) 2 12 113 [(0, .ref (n0 + 0)), (1, .int p0), (2, .int p1), (3, .int p2), (4, .int p3), (5, .int p4), (6, .int p5), (7, .int p6), (8, .int p7), (9, .ref (n0 + q8)), (10, .ref (n0 + q22)), (11, .int r34)] [.ref (n0 + b48)] K45 I46 L47 Q
                  refine z_dup dX12_seam_113 rfl ?_
                  refine z_aload 9 dX12_seam_114 rfl ?_
                  refine z_iload_n 2 dX12_seam_116 rfl ?_
                  refine z_iload_n 3 dX12_seam_117 rfl ?_
                  refine z_iload 7 dX12_seam_118 rfl ?_
                  refine z_iload 8 dX12_seam_120 rfl ?_
                  refine z_callI (rc := 0) (rs := 0) (mc1 := 2) (ms1 := 12) (As := [.ref (n0 + q8), .int p1, .int p2, .int p6, .int p7]) (st := [.ref (n0 + b48)]) dX12_seam_122 hy_X8_init rfl rfl wg_930 wg_931 (Nat.le_refl _) (Nat.le_of_ble_eq_true rfl) (RM.mono h ?_)
                  clear h
                  intro vv K52 I50 L51 h
                  obtain ⟨rfl, h⟩ := h
                  obtain ⟨hL53, h⟩ := h
                  change Z n0 xX12_seam (d + 1) 0 0 125 [(0, .ref (n0 + 0)), (1, .int p0), (2, .int p1), (3, .int p2), (4, .int p3), (5, .int p4), (6, .int p5), (7, .int p6), (8, .int p7), (9, .ref (n0 + q8)), (10, .ref (n0 + q22)), (11, .int r34)] [.ref (n0 + b48)] K52 I50 L51 Q
                  refine z_astore [1, 2, 3, 4, 5, 6, 7, 8, 9, 10, 11, 12, 0] [(0, .ref (n0 + 0)), (1, .int p0), (2, .int p1), (3, .int p2), (4, .int p3), (5, .int p4), (6, .int p5), (7, .int p6), (8, .int p7), (9, .ref (n0 + q8)), (10, .ref (n0 + q22)), (11, .int r34), (12, .ref (n0 + b48))] dX12_seam_125 (by decide) rfl ?_
                  refine z_aload 12 dX12_seam_127 rfl ?_
                  refine z_aload 10 dX12_seam_129 rfl ?_
                  refine z_iload 5 dX12_seam_131 rfl ?_
                  refine z_iload 6 dX12_seam_133 rfl ?_
                  obtain ⟨o54, o55, h⟩ := h
                  refine z_callV (rc := 0) (rs := 0) (mc1 := 0) (ms1 := 0) (As := [.ref (n0 + q22), .int p4, .int p5]) (st := []) dX12_seam_135 hy_X8_sewTo o54 o55 (by decide) wg_987 wg_988 wg_989 (Nat.le_refl _) (Nat.le_of_ble_eq_true rfl) (RM.mono h ?_)
                  clear h
                  intro vv K58 I56 L57 h
                  obtain ⟨rfl, h⟩ := h
                  obtain ⟨hL59, h⟩ := h
                  change Z n0 xX12_seam (d + 1) 0 0 138 [(0, .ref (n0 + 0)), (1, .int p0), (2, .int p1), (3, .int p2), (4, .int p3), (5, .int p4), (6, .int p5), (7, .int p6), (8, .int p7), (9, .ref (n0 + q8)), (10, .ref (n0 + q22)), (11, .int r34), (12, .ref (n0 + b48))] [] K58 I56 L57 Q
                  refine z_aload_n 0 dX12_seam_138 rfl ?_
                  refine fg_12_47 (some 21) rfl dX12_seam_139 (co_0 hL59).1 (co_0 hL59).2 (ca_21 hL59).1 ?_
                  refine z_aload_n 0 dX12_seam_142 rfl ?_
                  refine fg_12_256 (I56 0 13) rfl dX12_seam_143 (co_0 hL59).1 (co_0 hL59).2 rfl ?_
                  refine z_aload 12 dX12_seam_146 rfl ?_
                  obtain ⟨o60, o61, o62, h⟩ := h
                  refine z_aast (t := 38) dX12_seam_148 (ca_21 hL59).2.1 (ca_21 hL59).2.2 (by unfold z_rt; decide) o60 o61 o62 ?_
                  refine z_aload_n 0 dX12_seam_149 rfl ?_
                  refine z_dup dX12_seam_150 rfl ?_
                  refine fg_12_256 (I56 0 13) rfl dX12_seam_151 (co_0 hL59).1 (co_0 hL59).2 rfl ?_
                  refine z_dup_x1 dX12_seam_154 rfl rfl ?_
                  refine z_iconst 1 dX12_seam_155 (by decide) ?_
                  refine z_iadd dX12_seam_156 ?_
                  refine fp_12_256 rfl dX12_seam_157 (co_0 hL59).1 (co_0 hL59).2 ?_
                  exact z_iret dX12_seam_160 rfl h
                · rw [if_neg g44] at h
                  refine z_aload_n 0 dX12_seam_103 rfl ?_
                  refine z_bipush (-6) dX12_seam_104 (by decide) ?_
                  refine z_callV0 (As := [.int (-6)]) (st := []) dX12_seam_106 hy_X12_refuse (co_0 hL).1 (co_0 hL).2 (by decide) wg_462 wg_464 wg_0 (Nat.le_refl _) (Nat.le_of_ble_eq_true rfl) (RM0.mono h ?_)
                  clear h
                  intro vv I63 L64 h
                  obtain ⟨r65, rfl, h⟩ := h
                  change Z n0 xX12_seam (d + 1) 3 26 109 [(0, .ref (n0 + 0)), (1, .int p0), (2, .int p1), (3, .int p2), (4, .int p3), (5, .int p4), (6, .int p5), (7, .int p6), (8, .int p7), (9, .ref (n0 + q8)), (10, .ref (n0 + q22)), (11, .int r34)] [.int r65] K I63 L64 Q
                  exact z_iret dX12_seam_109 rfl h
            · rw [if_pos g39] at h
              refine z_aload_n 0 dX12_seam_82 rfl ?_
              refine z_bipush (-4) dX12_seam_83 (by decide) ?_
              refine z_callV0 (As := [.int (-4)]) (st := []) dX12_seam_85 hy_X12_refuse (co_0 hL).1 (co_0 hL).2 (by decide) wg_462 wg_464 wg_0 (Nat.le_refl _) (Nat.le_of_ble_eq_true rfl) (RM0.mono h ?_)
              clear h
              intro vv I66 L67 h
              obtain ⟨r68, rfl, h⟩ := h
              change Z n0 xX12_seam (d + 1) 3 26 88 [(0, .ref (n0 + 0)), (1, .int p0), (2, .int p1), (3, .int p2), (4, .int p3), (5, .int p4), (6, .int p5), (7, .int p6), (8, .int p7), (9, .ref (n0 + q8)), (10, .ref (n0 + q22)), (11, .int r34)] [.int r68] K I66 L67 Q
              exact z_iret dX12_seam_88 rfl h
        · rw [if_pos g31] at h
          refine z_aload_n 0 dX12_seam_47 rfl ?_
          refine z_iconst (-1) dX12_seam_48 (by decide) ?_
          refine z_callV0 (As := [.int (-1)]) (st := []) dX12_seam_49 hy_X12_refuse (co_0 hL).1 (co_0 hL).2 (by decide) wg_462 wg_464 wg_0 (Nat.le_refl _) (Nat.le_of_ble_eq_true rfl) (RM0.mono h ?_)
          clear h
          intro vv I69 L70 h
          obtain ⟨r71, rfl, h⟩ := h
          change Z n0 xX12_seam (d + 1) 3 26 52 [(0, .ref (n0 + 0)), (1, .int p0), (2, .int p1), (3, .int p2), (4, .int p3), (5, .int p4), (6, .int p5), (7, .int p6), (8, .int p7), (9, .ref (n0 + q8)), (10, .ref (n0 + q22))] [.int r71] K I69 L70 Q
          exact z_iret dX12_seam_52 rfl h
theorem dX12_notch_0 : decode cX12_notch 0 = .ok (.aload_n 0, 1) := by decide +kernel
theorem dX12_notch_1 : decode cX12_notch 1 = .ok (.iload_n 1, 1) := by decide +kernel
theorem dX12_notch_2 : decode cX12_notch 2 = .ok (.invokevirtual 266, 3) := by decide +kernel
theorem dX12_notch_5 : decode cX12_notch 5 = .ok (.astore 4, 2) := by decide +kernel
theorem dX12_notch_7 : decode cX12_notch 7 = .ok (.aload 4, 2) := by decide +kernel
theorem dX12_notch_9 : decode cX12_notch 9 = .ok (.ifnonnull 9, 3) := by decide +kernel
theorem dX12_notch_12 : decode cX12_notch 12 = .ok (.aload_n 0, 1) := by decide +kernel
theorem dX12_notch_13 : decode cX12_notch 13 = .ok (.iconst (-1), 1) := by decide +kernel
theorem dX12_notch_14 : decode cX12_notch 14 = .ok (.invokevirtual 85, 3) := by decide +kernel
theorem dX12_notch_17 : decode cX12_notch 17 = .ok (.ireturn, 1) := by decide +kernel
theorem dX12_notch_18 : decode cX12_notch 18 = .ok (.iload_n 2, 1) := by decide +kernel
theorem dX12_notch_19 : decode cX12_notch 19 = .ok (.iload_n 3, 1) := by decide +kernel
theorem dX12_notch_20 : decode cX12_notch 20 = .ok (.iconst 0, 1) := by decide +kernel
theorem dX12_notch_21 : decode cX12_notch 21 = .ok (.ldc_w 270, 3) := by decide +kernel
theorem dX12_notch_24 : decode cX12_notch 24 = .ok (.invokestatic 197, 3) := by decide +kernel
theorem dX12_notch_27 : decode cX12_notch 27 = .ok (.istore 5, 2) := by decide +kernel
theorem dX12_notch_29 : decode cX12_notch 29 = .ok (.iload 5, 2) := by decide +kernel
theorem dX12_notch_31 : decode cX12_notch 31 = .ok (.ifCond .eq 10, 3) := by decide +kernel
theorem dX12_notch_34 : decode cX12_notch 34 = .ok (.aload_n 0, 1) := by decide +kernel
theorem dX12_notch_35 : decode cX12_notch 35 = .ok (.iload 5, 2) := by decide +kernel
theorem dX12_notch_37 : decode cX12_notch 37 = .ok (.invokevirtual 85, 3) := by decide +kernel
theorem dX12_notch_40 : decode cX12_notch 40 = .ok (.ireturn, 1) := by decide +kernel
theorem dX12_notch_41 : decode cX12_notch 41 = .ok (.aload 4, 2) := by decide +kernel
theorem dX12_notch_43 : decode cX12_notch 43 = .ok (.getfield 271, 3) := by decide +kernel
theorem dX12_notch_46 : decode cX12_notch 46 = .ok (.bipush 6, 2) := by decide +kernel
theorem dX12_notch_48 : decode cX12_notch 48 = .ok (.if_icmp .lt 10, 3) := by decide +kernel
theorem dX12_notch_51 : decode cX12_notch 51 = .ok (.aload_n 0, 1) := by decide +kernel
theorem dX12_notch_52 : decode cX12_notch 52 = .ok (.bipush (-6), 2) := by decide +kernel
theorem dX12_notch_54 : decode cX12_notch 54 = .ok (.invokevirtual 85, 3) := by decide +kernel
theorem dX12_notch_57 : decode cX12_notch 57 = .ok (.ireturn, 1) := by decide +kernel
theorem dX12_notch_58 : decode cX12_notch 58 = .ok (.aload 4, 2) := by decide +kernel
theorem dX12_notch_60 : decode cX12_notch 60 = .ok (.iload_n 2, 1) := by decide +kernel
theorem dX12_notch_61 : decode cX12_notch 61 = .ok (.iload_n 3, 1) := by decide +kernel
theorem dX12_notch_62 : decode cX12_notch 62 = .ok (.invokevirtual 274, 3) := by decide +kernel
theorem dX12_notch_65 : decode cX12_notch 65 = .ok (.ireturn, 1) := by decide +kernel
set_option maxRecDepth 100000 in
set_option maxHeartbeats 4000000 in
theorem wp_X12_notch {n0 d : Nat} {K : z_K} {I : z_I} {L : z_L} {Q : z_q} {p0 : Int32} {p1 : Int32} {p2 : Int32} (hL : CLay K) (h : RM0 n0 xX12_seamOf d [.ref (n0 + 0), .int p0] K I L (fun vv I1 L2 => ∃ r3 : Option Nat, vv = some (zr n0 r3) ∧ ((r3 = none → RM0 n0 xX12_refuse d [.ref (n0 + 0), .int (-1)] K I1 L2 (fun vv I6 L7 => ∃ r8 : Int32, vv = some (.int r8) ∧ Q (some (.int r8)) I6 L7)) ∧ (∀ q5, r3 = some q5 → RM0 n0 xX12_bothOutside d [.int p1, .int p2, .int 0, .int 99999] K I1 L2 (fun vv I9 L10 => ∃ r11 : Int32, vv = some (.int r11) ∧ (if r11 = 0 then q5 < K.1 ∧ (K.2.1 q5).1 = 8 ∧ (if ((I9 q5 11) : Int32) < 6 then RM0 n0 xX8_addNotch d [.ref (n0 + q5), .int p1, .int p2] K I9 L10 (fun vv I16 L17 => ∃ r18 : Int32, vv = some (.int r18) ∧ Q (some (.int r18)) I16 L17) else RM0 n0 xX12_refuse d [.ref (n0 + 0), .int (-6)] K I9 L10 (fun vv I19 L20 => ∃ r21 : Int32, vv = some (.int r21) ∧ Q (some (.int r21)) I19 L20)) else RM0 n0 xX12_refuse d [.ref (n0 + 0), .int r11] K I9 L10 (fun vv I22 L23 => ∃ r24 : Int32, vv = some (.int r24) ∧ Q (some (.int r24)) I22 L23))))))) : RM0 n0 xX12_notch (d + 1) [.ref (n0 + 0), .int p0, .int p1, .int p2] K I L Q := by
  refine z_entry0 (by decide) (Nat.le_of_ble_eq_true rfl) ?_
  change Z n0 xX12_notch (d + 1) 0 0 0 [(0, .ref (n0 + 0)), (1, .int p0), (2, .int p1), (3, .int p2)] [] K I L (z_q0 K Q)
  refine z_aload_n 0 dX12_notch_0 rfl ?_
  refine z_iload_n 1 dX12_notch_1 rfl ?_
  refine z_callV0 (As := [.int p0]) (st := []) dX12_notch_2 hy_X12_seamOf (co_0 hL).1 (co_0 hL).2 (by decide) wg_995 wg_997 wg_26 (Nat.le_refl _) (Nat.le_of_ble_eq_true rfl) (RM0.mono h ?_)
  clear h
  intro vv I1 L2 h
  obtain ⟨r3, rfl, h⟩ := h
  change Z n0 xX12_notch (d + 1) 0 0 5 [(0, .ref (n0 + 0)), (1, .int p0), (2, .int p1), (3, .int p2)] [zr n0 r3] K I1 L2 (z_q0 K Q)
  refine z_astoreO [1, 2, 3, 4, 0] [(0, .ref (n0 + 0)), (1, .int p0), (2, .int p1), (3, .int p2), (4, zr n0 r3)] dX12_notch_5 (by decide) (fun v hv => by subst hv; rfl) ?_
  refine z_aloadO 4 dX12_notch_7 rfl ?_
  refine z_ifnonnull 18 dX12_notch_9 (by decide) (fun q5 g4 => ?_) (fun g4 => ?_)
  · replace h := h.2 q5 g4
    subst g4
    change Z n0 xX12_notch (d + 1) 0 0 18 [(0, .ref (n0 + 0)), (1, .int p0), (2, .int p1), (3, .int p2), (4, .ref (n0 + q5))] [] K I1 L2 (z_q0 K Q)
    refine z_iload_n 2 dX12_notch_18 rfl ?_
    refine z_iload_n 3 dX12_notch_19 rfl ?_
    refine z_iconst 0 dX12_notch_20 (by decide) ?_
    refine z_ldc_w 99999 dX12_notch_21 wg_999 ?_
    refine z_callS0 (As := [.int p1, .int p2, .int 0, .int 99999]) (st := []) dX12_notch_24 hy_X12_bothOutside wg_793 wg_794 (Nat.le_refl _) (Nat.le_of_ble_eq_true rfl) (RM0.mono h ?_)
    clear h
    intro vv I9 L10 h
    obtain ⟨r11, rfl, h⟩ := h
    change Z n0 xX12_notch (d + 1) 0 0 27 [(0, .ref (n0 + 0)), (1, .int p0), (2, .int p1), (3, .int p2), (4, .ref (n0 + q5))] [.int r11] K I9 L10 (z_q0 K Q)
    refine z_istore [1, 2, 3, 4, 5, 0] [(0, .ref (n0 + 0)), (1, .int p0), (2, .int p1), (3, .int p2), (4, .ref (n0 + q5)), (5, .int r11)] dX12_notch_27 (by decide) rfl ?_
    refine z_iload 5 dX12_notch_29 rfl ?_
    refine z_if_eq 41 dX12_notch_31 (by decide) (fun g12 => ?_) (fun g12 => ?_)
    · rw [if_pos g12] at h
      refine z_aload 4 dX12_notch_41 rfl ?_
      obtain ⟨o13, o14, h⟩ := h
      refine fg_12_271 (I9 q5 11) rfl dX12_notch_43 o13 o14 rfl ?_
      refine z_bipush 6 dX12_notch_46 (by decide) ?_
      refine z_icmp_lt 58 dX12_notch_48 (by decide) (fun g15 => ?_) (fun g15 => ?_)
      · rw [if_pos g15] at h
        refine z_aload 4 dX12_notch_58 rfl ?_
        refine z_iload_n 2 dX12_notch_60 rfl ?_
        refine z_iload_n 3 dX12_notch_61 rfl ?_
        refine z_callV0 (As := [.int p1, .int p2]) (st := []) dX12_notch_62 hy_X8_addNotch o13 o14 (by decide) wg_1000 wg_1001 wg_1002 (Nat.le_refl _) (Nat.le_of_ble_eq_true rfl) (RM0.mono h ?_)
        clear h
        intro vv I16 L17 h
        obtain ⟨r18, rfl, h⟩ := h
        change Z n0 xX12_notch (d + 1) 0 0 65 [(0, .ref (n0 + 0)), (1, .int p0), (2, .int p1), (3, .int p2), (4, .ref (n0 + q5)), (5, .int r11)] [.int r18] K I16 L17 (z_q0 K Q)
        exact z_iret dX12_notch_65 rfl ⟨rfl, h⟩
      · rw [if_neg g15] at h
        refine z_aload_n 0 dX12_notch_51 rfl ?_
        refine z_bipush (-6) dX12_notch_52 (by decide) ?_
        refine z_callV0 (As := [.int (-6)]) (st := []) dX12_notch_54 hy_X12_refuse (co_0 hL).1 (co_0 hL).2 (by decide) wg_462 wg_464 wg_0 (Nat.le_refl _) (Nat.le_of_ble_eq_true rfl) (RM0.mono h ?_)
        clear h
        intro vv I19 L20 h
        obtain ⟨r21, rfl, h⟩ := h
        change Z n0 xX12_notch (d + 1) 0 0 57 [(0, .ref (n0 + 0)), (1, .int p0), (2, .int p1), (3, .int p2), (4, .ref (n0 + q5)), (5, .int r11)] [.int r21] K I19 L20 (z_q0 K Q)
        exact z_iret dX12_notch_57 rfl ⟨rfl, h⟩
    · rw [if_neg g12] at h
      refine z_aload_n 0 dX12_notch_34 rfl ?_
      refine z_iload 5 dX12_notch_35 rfl ?_
      refine z_callV0 (As := [.int r11]) (st := []) dX12_notch_37 hy_X12_refuse (co_0 hL).1 (co_0 hL).2 (by decide) wg_462 wg_464 wg_0 (Nat.le_refl _) (Nat.le_of_ble_eq_true rfl) (RM0.mono h ?_)
      clear h
      intro vv I22 L23 h
      obtain ⟨r24, rfl, h⟩ := h
      change Z n0 xX12_notch (d + 1) 0 0 40 [(0, .ref (n0 + 0)), (1, .int p0), (2, .int p1), (3, .int p2), (4, .ref (n0 + q5)), (5, .int r11)] [.int r24] K I22 L23 (z_q0 K Q)
      exact z_iret dX12_notch_40 rfl ⟨rfl, h⟩
  · replace h := h.1 g4
    subst g4
    change Z n0 xX12_notch (d + 1) 0 0 12 [(0, .ref (n0 + 0)), (1, .int p0), (2, .int p1), (3, .int p2), (4, .null)] [] K I1 L2 (z_q0 K Q)
    refine z_aload_n 0 dX12_notch_12 rfl ?_
    refine z_iconst (-1) dX12_notch_13 (by decide) ?_
    refine z_callV0 (As := [.int (-1)]) (st := []) dX12_notch_14 hy_X12_refuse (co_0 hL).1 (co_0 hL).2 (by decide) wg_462 wg_464 wg_0 (Nat.le_refl _) (Nat.le_of_ble_eq_true rfl) (RM0.mono h ?_)
    clear h
    intro vv I6 L7 h
    obtain ⟨r8, rfl, h⟩ := h
    change Z n0 xX12_notch (d + 1) 0 0 17 [(0, .ref (n0 + 0)), (1, .int p0), (2, .int p1), (3, .int p2), (4, .null)] [.int r8] K I6 L7 (z_q0 K Q)
    exact z_iret dX12_notch_17 rfl ⟨rfl, h⟩
theorem dX12_gather_0 : decode cX12_gather 0 = .ok (.aload_n 0, 1) := by decide +kernel
theorem dX12_gather_1 : decode cX12_gather 1 = .ok (.iload_n 1, 1) := by decide +kernel
theorem dX12_gather_2 : decode cX12_gather 2 = .ok (.invokevirtual 266, 3) := by decide +kernel
theorem dX12_gather_5 : decode cX12_gather 5 = .ok (.astore_n 3, 1) := by decide +kernel
theorem dX12_gather_6 : decode cX12_gather 6 = .ok (.aload_n 3, 1) := by decide +kernel
theorem dX12_gather_7 : decode cX12_gather 7 = .ok (.ifnonnull 9, 3) := by decide +kernel
theorem dX12_gather_10 : decode cX12_gather 10 = .ok (.aload_n 0, 1) := by decide +kernel
theorem dX12_gather_11 : decode cX12_gather 11 = .ok (.iconst (-1), 1) := by decide +kernel
theorem dX12_gather_12 : decode cX12_gather 12 = .ok (.invokevirtual 85, 3) := by decide +kernel
theorem dX12_gather_15 : decode cX12_gather 15 = .ok (.ireturn, 1) := by decide +kernel
theorem dX12_gather_16 : decode cX12_gather 16 = .ok (.iload_n 2, 1) := by decide +kernel
theorem dX12_gather_17 : decode cX12_gather 17 = .ok (.iconst 0, 1) := by decide +kernel
theorem dX12_gather_18 : decode cX12_gather 18 = .ok (.sipush 999, 3) := by decide +kernel
theorem dX12_gather_21 : decode cX12_gather 21 = .ok (.invokestatic 100, 3) := by decide +kernel
theorem dX12_gather_24 : decode cX12_gather 24 = .ok (.istore 4, 2) := by decide +kernel
theorem dX12_gather_26 : decode cX12_gather 26 = .ok (.iload 4, 2) := by decide +kernel
theorem dX12_gather_28 : decode cX12_gather 28 = .ok (.ifCond .eq 10, 3) := by decide +kernel
theorem dX12_gather_31 : decode cX12_gather 31 = .ok (.aload_n 0, 1) := by decide +kernel
theorem dX12_gather_32 : decode cX12_gather 32 = .ok (.iload 4, 2) := by decide +kernel
theorem dX12_gather_34 : decode cX12_gather 34 = .ok (.invokevirtual 85, 3) := by decide +kernel
theorem dX12_gather_37 : decode cX12_gather 37 = .ok (.ireturn, 1) := by decide +kernel
theorem dX12_gather_38 : decode cX12_gather 38 = .ok (.aload_n 3, 1) := by decide +kernel
theorem dX12_gather_39 : decode cX12_gather 39 = .ok (.getfield 277, 3) := by decide +kernel
theorem dX12_gather_42 : decode cX12_gather 42 = .ok (.istore 5, 2) := by decide +kernel
theorem dX12_gather_44 : decode cX12_gather 44 = .ok (.aload_n 3, 1) := by decide +kernel
theorem dX12_gather_45 : decode cX12_gather 45 = .ok (.iload_n 2, 1) := by decide +kernel
theorem dX12_gather_46 : decode cX12_gather 46 = .ok (.putfield 277, 3) := by decide +kernel
theorem dX12_gather_49 : decode cX12_gather 49 = .ok (.iload 5, 2) := by decide +kernel
theorem dX12_gather_51 : decode cX12_gather 51 = .ok (.ireturn, 1) := by decide +kernel
set_option maxRecDepth 100000 in
set_option maxHeartbeats 4000000 in
theorem wp_X12_gather {n0 d : Nat} {K : z_K} {I : z_I} {L : z_L} {Q : z_q} {p0 : Int32} {p1 : Int32} (hL : CLay K) (h : RM0 n0 xX12_seamOf d [.ref (n0 + 0), .int p0] K I L (fun vv I1 L2 => ∃ r3 : Option Nat, vv = some (zr n0 r3) ∧ ((r3 = none → RM0 n0 xX12_refuse d [.ref (n0 + 0), .int (-1)] K I1 L2 (fun vv I6 L7 => ∃ r8 : Int32, vv = some (.int r8) ∧ Q (some (.int r8)) I6 L7)) ∧ (∀ q5, r3 = some q5 → RM0 n0 xX12_outside d [.int p1, .int 0, .int 999] K I1 L2 (fun vv I9 L10 => ∃ r11 : Int32, vv = some (.int r11) ∧ (if r11 = 0 then q5 < K.1 ∧ (K.2.1 q5).1 = 8 ∧ Q (some (.int (I9 q5 8))) (zI I9 q5 8 p1) L10 else RM0 n0 xX12_refuse d [.ref (n0 + 0), .int r11] K I9 L10 (fun vv I15 L16 => ∃ r17 : Int32, vv = some (.int r17) ∧ Q (some (.int r17)) I15 L16))))))) : RM0 n0 xX12_gather (d + 1) [.ref (n0 + 0), .int p0, .int p1] K I L Q := by
  refine z_entry0 (by decide) (Nat.le_of_ble_eq_true rfl) ?_
  change Z n0 xX12_gather (d + 1) 0 0 0 [(0, .ref (n0 + 0)), (1, .int p0), (2, .int p1)] [] K I L (z_q0 K Q)
  refine z_aload_n 0 dX12_gather_0 rfl ?_
  refine z_iload_n 1 dX12_gather_1 rfl ?_
  refine z_callV0 (As := [.int p0]) (st := []) dX12_gather_2 hy_X12_seamOf (co_0 hL).1 (co_0 hL).2 (by decide) wg_995 wg_997 wg_26 (Nat.le_refl _) (Nat.le_of_ble_eq_true rfl) (RM0.mono h ?_)
  clear h
  intro vv I1 L2 h
  obtain ⟨r3, rfl, h⟩ := h
  change Z n0 xX12_gather (d + 1) 0 0 5 [(0, .ref (n0 + 0)), (1, .int p0), (2, .int p1)] [zr n0 r3] K I1 L2 (z_q0 K Q)
  refine z_astore_nO [1, 2, 3, 0] [(0, .ref (n0 + 0)), (1, .int p0), (2, .int p1), (3, zr n0 r3)] dX12_gather_5 (by decide) (fun v hv => by subst hv; rfl) ?_
  refine z_aload_nO 3 dX12_gather_6 rfl ?_
  refine z_ifnonnull 16 dX12_gather_7 (by decide) (fun q5 g4 => ?_) (fun g4 => ?_)
  · replace h := h.2 q5 g4
    subst g4
    change Z n0 xX12_gather (d + 1) 0 0 16 [(0, .ref (n0 + 0)), (1, .int p0), (2, .int p1), (3, .ref (n0 + q5))] [] K I1 L2 (z_q0 K Q)
    refine z_iload_n 2 dX12_gather_16 rfl ?_
    refine z_iconst 0 dX12_gather_17 (by decide) ?_
    refine z_sipush 999 dX12_gather_18 (by decide) ?_
    refine z_callS0 (As := [.int p1, .int 0, .int 999]) (st := []) dX12_gather_21 hy_X12_outside wg_476 wg_477 (Nat.le_refl _) (Nat.le_of_ble_eq_true rfl) (RM0.mono h ?_)
    clear h
    intro vv I9 L10 h
    obtain ⟨r11, rfl, h⟩ := h
    change Z n0 xX12_gather (d + 1) 0 0 24 [(0, .ref (n0 + 0)), (1, .int p0), (2, .int p1), (3, .ref (n0 + q5))] [.int r11] K I9 L10 (z_q0 K Q)
    refine z_istore [1, 2, 3, 4, 0] [(0, .ref (n0 + 0)), (1, .int p0), (2, .int p1), (3, .ref (n0 + q5)), (4, .int r11)] dX12_gather_24 (by decide) rfl ?_
    refine z_iload 4 dX12_gather_26 rfl ?_
    refine z_if_eq 38 dX12_gather_28 (by decide) (fun g12 => ?_) (fun g12 => ?_)
    · rw [if_pos g12] at h
      refine z_aload_n 3 dX12_gather_38 rfl ?_
      obtain ⟨o13, o14, h⟩ := h
      refine fg_12_277 (I9 q5 8) rfl dX12_gather_39 o13 o14 rfl ?_
      refine z_istore [1, 2, 3, 4, 5, 0] [(0, .ref (n0 + 0)), (1, .int p0), (2, .int p1), (3, .ref (n0 + q5)), (4, .int r11), (5, .int (I9 q5 8))] dX12_gather_42 (by decide) rfl ?_
      refine z_aload_n 3 dX12_gather_44 rfl ?_
      refine z_iload_n 2 dX12_gather_45 rfl ?_
      refine fp_12_277 rfl dX12_gather_46 o13 o14 ?_
      refine z_iload 5 dX12_gather_49 rfl ?_
      exact z_iret dX12_gather_51 rfl ⟨rfl, h⟩
    · rw [if_neg g12] at h
      refine z_aload_n 0 dX12_gather_31 rfl ?_
      refine z_iload 4 dX12_gather_32 rfl ?_
      refine z_callV0 (As := [.int r11]) (st := []) dX12_gather_34 hy_X12_refuse (co_0 hL).1 (co_0 hL).2 (by decide) wg_462 wg_464 wg_0 (Nat.le_refl _) (Nat.le_of_ble_eq_true rfl) (RM0.mono h ?_)
      clear h
      intro vv I15 L16 h
      obtain ⟨r17, rfl, h⟩ := h
      change Z n0 xX12_gather (d + 1) 0 0 37 [(0, .ref (n0 + 0)), (1, .int p0), (2, .int p1), (3, .ref (n0 + q5)), (4, .int r11)] [.int r17] K I15 L16 (z_q0 K Q)
      exact z_iret dX12_gather_37 rfl ⟨rfl, h⟩
  · replace h := h.1 g4
    subst g4
    change Z n0 xX12_gather (d + 1) 0 0 10 [(0, .ref (n0 + 0)), (1, .int p0), (2, .int p1), (3, .null)] [] K I1 L2 (z_q0 K Q)
    refine z_aload_n 0 dX12_gather_10 rfl ?_
    refine z_iconst (-1) dX12_gather_11 (by decide) ?_
    refine z_callV0 (As := [.int (-1)]) (st := []) dX12_gather_12 hy_X12_refuse (co_0 hL).1 (co_0 hL).2 (by decide) wg_462 wg_464 wg_0 (Nat.le_refl _) (Nat.le_of_ble_eq_true rfl) (RM0.mono h ?_)
    clear h
    intro vv I6 L7 h
    obtain ⟨r8, rfl, h⟩ := h
    change Z n0 xX12_gather (d + 1) 0 0 15 [(0, .ref (n0 + 0)), (1, .int p0), (2, .int p1), (3, .null)] [.int r8] K I6 L7 (z_q0 K Q)
    exact z_iret dX12_gather_15 rfl ⟨rfl, h⟩
theorem dX12_ease_0 : decode cX12_ease 0 = .ok (.aload_n 0, 1) := by decide +kernel
theorem dX12_ease_1 : decode cX12_ease 1 = .ok (.iload_n 1, 1) := by decide +kernel
theorem dX12_ease_2 : decode cX12_ease 2 = .ok (.iload_n 2, 1) := by decide +kernel
theorem dX12_ease_3 : decode cX12_ease 3 = .ok (.iload_n 3, 1) := by decide +kernel
theorem dX12_ease_4 : decode cX12_ease 4 = .ok (.invokevirtual 280, 3) := by decide +kernel
theorem dX12_ease_7 : decode cX12_ease 7 = .ok (.istore 4, 2) := by decide +kernel
theorem dX12_ease_9 : decode cX12_ease 9 = .ok (.iload 4, 2) := by decide +kernel
theorem dX12_ease_11 : decode cX12_ease 11 = .ok (.ifCond .eq 10, 3) := by decide +kernel
theorem dX12_ease_14 : decode cX12_ease 14 = .ok (.aload_n 0, 1) := by decide +kernel
theorem dX12_ease_15 : decode cX12_ease 15 = .ok (.iload 4, 2) := by decide +kernel
theorem dX12_ease_17 : decode cX12_ease 17 = .ok (.invokevirtual 126, 3) := by decide +kernel
theorem dX12_ease_20 : decode cX12_ease 20 = .ok (.ireturn, 1) := by decide +kernel
theorem dX12_ease_21 : decode cX12_ease 21 = .ok (.aload_n 0, 1) := by decide +kernel
theorem dX12_ease_22 : decode cX12_ease 22 = .ok (.getfield 47, 3) := by decide +kernel
theorem dX12_ease_25 : decode cX12_ease 25 = .ok (.iload_n 1, 1) := by decide +kernel
theorem dX12_ease_26 : decode cX12_ease 26 = .ok (.aaload, 1) := by decide +kernel
theorem dX12_ease_27 : decode cX12_ease 27 = .ok (.invokevirtual 283, 3) := by decide +kernel
theorem dX12_ease_30 : decode cX12_ease 30 = .ok (.ireturn, 1) := by decide +kernel
set_option maxRecDepth 100000 in
set_option maxHeartbeats 4000000 in
theorem wp_X12_ease {n0 d : Nat} {K : z_K} {I : z_I} {L : z_L} {Q : z_R} {p0 : Int32} {p1 : Int32} {p2 : Int32} (hL : CLay K) (h : RM n0 xX12_seamRefused d 0 0 [.ref (n0 + 0), .int p0, .int p1, .int p2] K I L (fun vv K3 I1 L2 => ∃ r4 : Int32, vv = some (.int r4) ∧ CLay K3 ∧ (if r4 = 0 then vp_in p0 20 ∧ (∃ q8, K3.2.2 21 p0.toNatClampNeg = some q8 ∧ q8 < K3.1 ∧ (K3.2.1 q8).1 = 8 ∧ RM0 n0 xX8_easeDrawn d [.ref (n0 + q8)] K3 I1 L2 (fun vv I11 L12 => ∃ r13 : Int32, vv = some (.int r13) ∧ Q (some (.int r13)) K3 I11 L12)) else RM0 n0 xX12_refuseApart d [.ref (n0 + 0), .int r4] K3 I1 L2 (fun vv I14 L15 => ∃ r16 : Int32, vv = some (.int r16) ∧ Q (some (.int r16)) K3 I14 L15)))) : RM n0 xX12_ease (d + 1) 0 0 [.ref (n0 + 0), .int p0, .int p1, .int p2] K I L Q := by
  refine z_entry (by decide) (Nat.le_of_ble_eq_true rfl) ?_
  change Z n0 xX12_ease (d + 1) 0 0 0 [(0, .ref (n0 + 0)), (1, .int p0), (2, .int p1), (3, .int p2)] [] K I L Q
  refine z_aload_n 0 dX12_ease_0 rfl ?_
  refine z_iload_n 1 dX12_ease_1 rfl ?_
  refine z_iload_n 2 dX12_ease_2 rfl ?_
  refine z_iload_n 3 dX12_ease_3 rfl ?_
  refine z_callV (rc := 0) (rs := 0) (mc1 := 0) (ms1 := 0) (As := [.int p0, .int p1, .int p2]) (st := []) dX12_ease_4 hy_X12_seamRefused (co_0 hL).1 (co_0 hL).2 (by decide) wg_1012 wg_1014 wg_27 (Nat.le_refl _) (Nat.le_of_ble_eq_true rfl) (RM.mono h ?_)
  clear h
  intro vv K3 I1 L2 h
  obtain ⟨r4, rfl, h⟩ := h
  obtain ⟨hL5, h⟩ := h
  change Z n0 xX12_ease (d + 1) 0 0 7 [(0, .ref (n0 + 0)), (1, .int p0), (2, .int p1), (3, .int p2)] [.int r4] K3 I1 L2 Q
  refine z_istore [1, 2, 3, 4, 0] [(0, .ref (n0 + 0)), (1, .int p0), (2, .int p1), (3, .int p2), (4, .int r4)] dX12_ease_7 (by decide) rfl ?_
  refine z_iload 4 dX12_ease_9 rfl ?_
  refine z_if_eq 21 dX12_ease_11 (by decide) (fun g6 => ?_) (fun g6 => ?_)
  · rw [if_pos g6] at h
    refine z_aload_n 0 dX12_ease_21 rfl ?_
    refine fg_12_47 (some 21) rfl dX12_ease_22 (co_0 hL5).1 (co_0 hL5).2 (ca_21 hL5).1 ?_
    refine z_iload_n 1 dX12_ease_25 rfl ?_
    obtain ⟨o7, h⟩ := h
    obtain ⟨q8, q8e, h⟩ := h
    refine z_aald (some q8) dX12_ease_26 (ca_21 hL5).2.1 (ca_21 hL5).2.2 (by unfold z_rt; decide) o7 q8e ?_
    obtain ⟨o9, o10, h⟩ := h
    refine z_callV0 (As := []) (st := []) dX12_ease_27 hy_X8_easeDrawn o9 o10 (by decide) wg_1020 wg_1021 wg_1022 (Nat.le_refl _) (Nat.le_of_ble_eq_true rfl) (RM0.mono h ?_)
    clear h
    intro vv I11 L12 h
    obtain ⟨r13, rfl, h⟩ := h
    change Z n0 xX12_ease (d + 1) 0 0 30 [(0, .ref (n0 + 0)), (1, .int p0), (2, .int p1), (3, .int p2), (4, .int r4)] [.int r13] K3 I11 L12 Q
    exact z_iret dX12_ease_30 rfl h
  · rw [if_neg g6] at h
    refine z_aload_n 0 dX12_ease_14 rfl ?_
    refine z_iload 4 dX12_ease_15 rfl ?_
    refine z_callV0 (As := [.int r4]) (st := []) dX12_ease_17 hy_X12_refuseApart (co_0 hL5).1 (co_0 hL5).2 (by decide) wg_555 wg_557 wg_3 (Nat.le_refl _) (Nat.le_of_ble_eq_true rfl) (RM0.mono h ?_)
    clear h
    intro vv I14 L15 h
    obtain ⟨r16, rfl, h⟩ := h
    change Z n0 xX12_ease (d + 1) 0 0 20 [(0, .ref (n0 + 0)), (1, .int p0), (2, .int p1), (3, .int p2), (4, .int r4)] [.int r16] K3 I14 L15 Q
    exact z_iret dX12_ease_20 rfl h
theorem dX12_meets_0 : decode cX12_meets 0 = .ok (.aload_n 0, 1) := by decide +kernel
theorem dX12_meets_1 : decode cX12_meets 1 = .ok (.iload_n 1, 1) := by decide +kernel
theorem dX12_meets_2 : decode cX12_meets 2 = .ok (.iload_n 2, 1) := by decide +kernel
theorem dX12_meets_3 : decode cX12_meets 3 = .ok (.iload_n 3, 1) := by decide +kernel
theorem dX12_meets_4 : decode cX12_meets 4 = .ok (.invokevirtual 280, 3) := by decide +kernel
theorem dX12_meets_7 : decode cX12_meets 7 = .ok (.istore 4, 2) := by decide +kernel
theorem dX12_meets_9 : decode cX12_meets 9 = .ok (.iload 4, 2) := by decide +kernel
theorem dX12_meets_11 : decode cX12_meets 11 = .ok (.ifCond .eq 10, 3) := by decide +kernel
theorem dX12_meets_14 : decode cX12_meets 14 = .ok (.aload_n 0, 1) := by decide +kernel
theorem dX12_meets_15 : decode cX12_meets 15 = .ok (.iload 4, 2) := by decide +kernel
theorem dX12_meets_17 : decode cX12_meets 17 = .ok (.invokevirtual 85, 3) := by decide +kernel
theorem dX12_meets_20 : decode cX12_meets 20 = .ok (.ireturn, 1) := by decide +kernel
theorem dX12_meets_21 : decode cX12_meets 21 = .ok (.aload_n 0, 1) := by decide +kernel
theorem dX12_meets_22 : decode cX12_meets 22 = .ok (.getfield 47, 3) := by decide +kernel
theorem dX12_meets_25 : decode cX12_meets 25 = .ok (.iload_n 1, 1) := by decide +kernel
theorem dX12_meets_26 : decode cX12_meets 26 = .ok (.aaload, 1) := by decide +kernel
theorem dX12_meets_27 : decode cX12_meets 27 = .ok (.invokevirtual 287, 3) := by decide +kernel
theorem dX12_meets_30 : decode cX12_meets 30 = .ok (.ifCond .eq 7, 3) := by decide +kernel
theorem dX12_meets_33 : decode cX12_meets 33 = .ok (.iconst 1, 1) := by decide +kernel
theorem dX12_meets_34 : decode cX12_meets 34 = .ok (.goto 4, 3) := by decide +kernel
theorem dX12_meets_37 : decode cX12_meets 37 = .ok (.iconst 0, 1) := by decide +kernel
theorem dX12_meets_38 : decode cX12_meets 38 = .ok (.ireturn, 1) := by decide +kernel
set_option maxRecDepth 100000 in
set_option maxHeartbeats 4000000 in
theorem wp_X12_meets {n0 d : Nat} {K : z_K} {I : z_I} {L : z_L} {Q : z_R} {p0 : Int32} {p1 : Int32} {p2 : Int32} (hL : CLay K) (h : RM n0 xX12_seamRefused d 0 0 [.ref (n0 + 0), .int p0, .int p1, .int p2] K I L (fun vv K3 I1 L2 => ∃ r4 : Int32, vv = some (.int r4) ∧ CLay K3 ∧ (if r4 = 0 then vp_in p0 20 ∧ (∃ q8, K3.2.2 21 p0.toNatClampNeg = some q8 ∧ q8 < K3.1 ∧ (K3.2.1 q8).1 = 8 ∧ RM0 n0 xX8_isMet d [.ref (n0 + q8)] K3 I1 L2 (fun vv I11 L12 => ∃ r13 : Int32, vv = some (.int r13) ∧ Q (some (.int (if r13 = 0 then 0 else 1))) K3 I11 L12)) else RM0 n0 xX12_refuse d [.ref (n0 + 0), .int r4] K3 I1 L2 (fun vv I16 L17 => ∃ r18 : Int32, vv = some (.int r18) ∧ Q (some (.int r18)) K3 I16 L17)))) : RM n0 xX12_meets (d + 1) 0 0 [.ref (n0 + 0), .int p0, .int p1, .int p2] K I L Q := by
  refine z_entry (by decide) (Nat.le_of_ble_eq_true rfl) ?_
  change Z n0 xX12_meets (d + 1) 0 0 0 [(0, .ref (n0 + 0)), (1, .int p0), (2, .int p1), (3, .int p2)] [] K I L Q
  refine z_aload_n 0 dX12_meets_0 rfl ?_
  refine z_iload_n 1 dX12_meets_1 rfl ?_
  refine z_iload_n 2 dX12_meets_2 rfl ?_
  refine z_iload_n 3 dX12_meets_3 rfl ?_
  refine z_callV (rc := 0) (rs := 0) (mc1 := 0) (ms1 := 0) (As := [.int p0, .int p1, .int p2]) (st := []) dX12_meets_4 hy_X12_seamRefused (co_0 hL).1 (co_0 hL).2 (by decide) wg_1012 wg_1014 wg_27 (Nat.le_refl _) (Nat.le_of_ble_eq_true rfl) (RM.mono h ?_)
  clear h
  intro vv K3 I1 L2 h
  obtain ⟨r4, rfl, h⟩ := h
  obtain ⟨hL5, h⟩ := h
  change Z n0 xX12_meets (d + 1) 0 0 7 [(0, .ref (n0 + 0)), (1, .int p0), (2, .int p1), (3, .int p2)] [.int r4] K3 I1 L2 Q
  refine z_istore [1, 2, 3, 4, 0] [(0, .ref (n0 + 0)), (1, .int p0), (2, .int p1), (3, .int p2), (4, .int r4)] dX12_meets_7 (by decide) rfl ?_
  refine z_iload 4 dX12_meets_9 rfl ?_
  refine z_if_eq 21 dX12_meets_11 (by decide) (fun g6 => ?_) (fun g6 => ?_)
  · rw [if_pos g6] at h
    refine z_aload_n 0 dX12_meets_21 rfl ?_
    refine fg_12_47 (some 21) rfl dX12_meets_22 (co_0 hL5).1 (co_0 hL5).2 (ca_21 hL5).1 ?_
    refine z_iload_n 1 dX12_meets_25 rfl ?_
    obtain ⟨o7, h⟩ := h
    obtain ⟨q8, q8e, h⟩ := h
    refine z_aald (some q8) dX12_meets_26 (ca_21 hL5).2.1 (ca_21 hL5).2.2 (by unfold z_rt; decide) o7 q8e ?_
    obtain ⟨o9, o10, h⟩ := h
    refine z_callV0 (As := []) (st := []) dX12_meets_27 hy_X8_isMet o9 o10 (by decide) wg_1028 wg_1029 wg_1030 (Nat.le_refl _) (Nat.le_of_ble_eq_true rfl) (RM0.mono h ?_)
    clear h
    intro vv I11 L12 h
    obtain ⟨r13, rfl, h⟩ := h
    change Z n0 xX12_meets (d + 1) 0 0 30 [(0, .ref (n0 + 0)), (1, .int p0), (2, .int p1), (3, .int p2), (4, .int r4)] [.int r13] K3 I11 L12 Q
    have key15 : Z n0 xX12_meets (d + 1) 0 0 38 [] [.int (if r13 = 0 then 0 else 1)] K3 I11 L12 Q := by
      exact z_iret dX12_meets_38 rfl h
    refine z_if_eq 37 dX12_meets_30 (by decide) (fun g14 => ?_) (fun g14 => ?_)
    · refine z_iconst 0 dX12_meets_37 (by decide) ?_
      have ee : ((if r13 = 0 then 0 else 1) : Int32) = 0 := by rw [if_pos g14]
      rw [ee] at key15
      clear ee
      refine z_sub [] rfl ?_
      exact key15
    · refine z_iconst 1 dX12_meets_33 (by decide) ?_
      refine z_goto 38 dX12_meets_34 (by decide) ?_
      have ee : ((if r13 = 0 then 0 else 1) : Int32) = 1 := by rw [if_neg g14]
      rw [ee] at key15
      clear ee
      refine z_sub [] rfl ?_
      exact key15
  · rw [if_neg g6] at h
    refine z_aload_n 0 dX12_meets_14 rfl ?_
    refine z_iload 4 dX12_meets_15 rfl ?_
    refine z_callV0 (As := [.int r4]) (st := []) dX12_meets_17 hy_X12_refuse (co_0 hL5).1 (co_0 hL5).2 (by decide) wg_462 wg_464 wg_0 (Nat.le_refl _) (Nat.le_of_ble_eq_true rfl) (RM0.mono h ?_)
    clear h
    intro vv I16 L17 h
    obtain ⟨r18, rfl, h⟩ := h
    change Z n0 xX12_meets (d + 1) 0 0 20 [(0, .ref (n0 + 0)), (1, .int p0), (2, .int p1), (3, .int p2), (4, .int r4)] [.int r18] K3 I16 L17 Q
    exact z_iret dX12_meets_20 rfl h
theorem dX12_lost_0 : decode cX12_lost 0 = .ok (.aload_n 0, 1) := by decide +kernel
theorem dX12_lost_1 : decode cX12_lost 1 = .ok (.iload_n 1, 1) := by decide +kernel
theorem dX12_lost_2 : decode cX12_lost 2 = .ok (.iload_n 2, 1) := by decide +kernel
theorem dX12_lost_3 : decode cX12_lost 3 = .ok (.iload_n 3, 1) := by decide +kernel
theorem dX12_lost_4 : decode cX12_lost 4 = .ok (.invokevirtual 280, 3) := by decide +kernel
theorem dX12_lost_7 : decode cX12_lost 7 = .ok (.istore 4, 2) := by decide +kernel
theorem dX12_lost_9 : decode cX12_lost 9 = .ok (.iload 4, 2) := by decide +kernel
theorem dX12_lost_11 : decode cX12_lost 11 = .ok (.ifCond .eq 10, 3) := by decide +kernel
theorem dX12_lost_14 : decode cX12_lost 14 = .ok (.aload_n 0, 1) := by decide +kernel
theorem dX12_lost_15 : decode cX12_lost 15 = .ok (.iload 4, 2) := by decide +kernel
theorem dX12_lost_17 : decode cX12_lost 17 = .ok (.invokevirtual 85, 3) := by decide +kernel
theorem dX12_lost_20 : decode cX12_lost 20 = .ok (.ireturn, 1) := by decide +kernel
theorem dX12_lost_21 : decode cX12_lost 21 = .ok (.aload_n 0, 1) := by decide +kernel
theorem dX12_lost_22 : decode cX12_lost 22 = .ok (.getfield 47, 3) := by decide +kernel
theorem dX12_lost_25 : decode cX12_lost 25 = .ok (.iload_n 1, 1) := by decide +kernel
theorem dX12_lost_26 : decode cX12_lost 26 = .ok (.aaload, 1) := by decide +kernel
theorem dX12_lost_27 : decode cX12_lost 27 = .ok (.invokevirtual 290, 3) := by decide +kernel
theorem dX12_lost_30 : decode cX12_lost 30 = .ok (.ireturn, 1) := by decide +kernel
set_option maxRecDepth 100000 in
set_option maxHeartbeats 4000000 in
theorem wp_X12_lost {n0 d : Nat} {K : z_K} {I : z_I} {L : z_L} {Q : z_R} {p0 : Int32} {p1 : Int32} {p2 : Int32} (hL : CLay K) (h : RM n0 xX12_seamRefused d 0 0 [.ref (n0 + 0), .int p0, .int p1, .int p2] K I L (fun vv K3 I1 L2 => ∃ r4 : Int32, vv = some (.int r4) ∧ CLay K3 ∧ (if r4 = 0 then vp_in p0 20 ∧ (∃ q8, K3.2.2 21 p0.toNatClampNeg = some q8 ∧ q8 < K3.1 ∧ (K3.2.1 q8).1 = 8 ∧ RM0 n0 xX8_firstLost d [.ref (n0 + q8)] K3 I1 L2 (fun vv I11 L12 => ∃ r13 : Int32, vv = some (.int r13) ∧ Q (some (.int r13)) K3 I11 L12)) else RM0 n0 xX12_refuse d [.ref (n0 + 0), .int r4] K3 I1 L2 (fun vv I14 L15 => ∃ r16 : Int32, vv = some (.int r16) ∧ Q (some (.int r16)) K3 I14 L15)))) : RM n0 xX12_lost (d + 1) 0 0 [.ref (n0 + 0), .int p0, .int p1, .int p2] K I L Q := by
  refine z_entry (by decide) (Nat.le_of_ble_eq_true rfl) ?_
  change Z n0 xX12_lost (d + 1) 0 0 0 [(0, .ref (n0 + 0)), (1, .int p0), (2, .int p1), (3, .int p2)] [] K I L Q
  refine z_aload_n 0 dX12_lost_0 rfl ?_
  refine z_iload_n 1 dX12_lost_1 rfl ?_
  refine z_iload_n 2 dX12_lost_2 rfl ?_
  refine z_iload_n 3 dX12_lost_3 rfl ?_
  refine z_callV (rc := 0) (rs := 0) (mc1 := 0) (ms1 := 0) (As := [.int p0, .int p1, .int p2]) (st := []) dX12_lost_4 hy_X12_seamRefused (co_0 hL).1 (co_0 hL).2 (by decide) wg_1012 wg_1014 wg_27 (Nat.le_refl _) (Nat.le_of_ble_eq_true rfl) (RM.mono h ?_)
  clear h
  intro vv K3 I1 L2 h
  obtain ⟨r4, rfl, h⟩ := h
  obtain ⟨hL5, h⟩ := h
  change Z n0 xX12_lost (d + 1) 0 0 7 [(0, .ref (n0 + 0)), (1, .int p0), (2, .int p1), (3, .int p2)] [.int r4] K3 I1 L2 Q
  refine z_istore [1, 2, 3, 4, 0] [(0, .ref (n0 + 0)), (1, .int p0), (2, .int p1), (3, .int p2), (4, .int r4)] dX12_lost_7 (by decide) rfl ?_
  refine z_iload 4 dX12_lost_9 rfl ?_
  refine z_if_eq 21 dX12_lost_11 (by decide) (fun g6 => ?_) (fun g6 => ?_)
  · rw [if_pos g6] at h
    refine z_aload_n 0 dX12_lost_21 rfl ?_
    refine fg_12_47 (some 21) rfl dX12_lost_22 (co_0 hL5).1 (co_0 hL5).2 (ca_21 hL5).1 ?_
    refine z_iload_n 1 dX12_lost_25 rfl ?_
    obtain ⟨o7, h⟩ := h
    obtain ⟨q8, q8e, h⟩ := h
    refine z_aald (some q8) dX12_lost_26 (ca_21 hL5).2.1 (ca_21 hL5).2.2 (by unfold z_rt; decide) o7 q8e ?_
    obtain ⟨o9, o10, h⟩ := h
    refine z_callV0 (As := []) (st := []) dX12_lost_27 hy_X8_firstLost o9 o10 (by decide) wg_1037 wg_1038 wg_1039 (Nat.le_refl _) (Nat.le_of_ble_eq_true rfl) (RM0.mono h ?_)
    clear h
    intro vv I11 L12 h
    obtain ⟨r13, rfl, h⟩ := h
    change Z n0 xX12_lost (d + 1) 0 0 30 [(0, .ref (n0 + 0)), (1, .int p0), (2, .int p1), (3, .int p2), (4, .int r4)] [.int r13] K3 I11 L12 Q
    exact z_iret dX12_lost_30 rfl h
  · rw [if_neg g6] at h
    refine z_aload_n 0 dX12_lost_14 rfl ?_
    refine z_iload 4 dX12_lost_15 rfl ?_
    refine z_callV0 (As := [.int r4]) (st := []) dX12_lost_17 hy_X12_refuse (co_0 hL5).1 (co_0 hL5).2 (by decide) wg_462 wg_464 wg_0 (Nat.le_refl _) (Nat.le_of_ble_eq_true rfl) (RM0.mono h ?_)
    clear h
    intro vv I14 L15 h
    obtain ⟨r16, rfl, h⟩ := h
    change Z n0 xX12_lost (d + 1) 0 0 20 [(0, .ref (n0 + 0)), (1, .int p0), (2, .int p1), (3, .int p2), (4, .int r4)] [.int r16] K3 I14 L15 Q
    exact z_iret dX12_lost_20 rfl h
theorem dX12_wrong_0 : decode cX12_wrong 0 = .ok (.iload_n 1, 1) := by decide +kernel
theorem dX12_wrong_1 : decode cX12_wrong 1 = .ok (.iconst 0, 1) := by decide +kernel
theorem dX12_wrong_2 : decode cX12_wrong 2 = .ok (.sipush 1000, 3) := by decide +kernel
theorem dX12_wrong_5 : decode cX12_wrong 5 = .ok (.invokestatic 100, 3) := by decide +kernel
theorem dX12_wrong_8 : decode cX12_wrong 8 = .ok (.istore_n 2, 1) := by decide +kernel
theorem dX12_wrong_9 : decode cX12_wrong 9 = .ok (.iload_n 2, 1) := by decide +kernel
theorem dX12_wrong_10 : decode cX12_wrong 10 = .ok (.ifCond .eq 9, 3) := by decide +kernel
theorem dX12_wrong_13 : decode cX12_wrong 13 = .ok (.aload_n 0, 1) := by decide +kernel
theorem dX12_wrong_14 : decode cX12_wrong 14 = .ok (.iload_n 2, 1) := by decide +kernel
theorem dX12_wrong_15 : decode cX12_wrong 15 = .ok (.invokevirtual 85, 3) := by decide +kernel
theorem dX12_wrong_18 : decode cX12_wrong 18 = .ok (.ireturn, 1) := by decide +kernel
theorem dX12_wrong_19 : decode cX12_wrong 19 = .ok (.iconst 0, 1) := by decide +kernel
theorem dX12_wrong_20 : decode cX12_wrong 20 = .ok (.istore_n 3, 1) := by decide +kernel
theorem dX12_wrong_21 : decode cX12_wrong 21 = .ok (.iload_n 3, 1) := by decide +kernel
theorem dX12_wrong_22 : decode cX12_wrong 22 = .ok (.bipush 11, 2) := by decide +kernel
theorem dX12_wrong_24 : decode cX12_wrong 24 = .ok (.if_icmp .ge 55, 3) := by decide +kernel
theorem dX12_wrong_27 : decode cX12_wrong 27 = .ok (.aload_n 0, 1) := by decide +kernel
theorem dX12_wrong_28 : decode cX12_wrong 28 = .ok (.iload_n 3, 1) := by decide +kernel
theorem dX12_wrong_29 : decode cX12_wrong 29 = .ok (.iload_n 1, 1) := by decide +kernel
theorem dX12_wrong_30 : decode cX12_wrong 30 = .ok (.invokevirtual 231, 3) := by decide +kernel
theorem dX12_wrong_33 : decode cX12_wrong 33 = .ok (.iconst 0, 1) := by decide +kernel
theorem dX12_wrong_34 : decode cX12_wrong 34 = .ok (.istore 4, 2) := by decide +kernel
theorem dX12_wrong_36 : decode cX12_wrong 36 = .ok (.iload 4, 2) := by decide +kernel
theorem dX12_wrong_38 : decode cX12_wrong 38 = .ok (.aload_n 0, 1) := by decide +kernel
theorem dX12_wrong_39 : decode cX12_wrong 39 = .ok (.getfield 256, 3) := by decide +kernel
theorem dX12_wrong_42 : decode cX12_wrong 42 = .ok (.if_icmp .ge 31, 3) := by decide +kernel
theorem dX12_wrong_45 : decode cX12_wrong 45 = .ok (.aload_n 0, 1) := by decide +kernel
theorem dX12_wrong_46 : decode cX12_wrong 46 = .ok (.aload_n 0, 1) := by decide +kernel
theorem dX12_wrong_47 : decode cX12_wrong 47 = .ok (.getfield 47, 3) := by decide +kernel
theorem dX12_wrong_50 : decode cX12_wrong 50 = .ok (.iload 4, 2) := by decide +kernel
theorem dX12_wrong_52 : decode cX12_wrong 52 = .ok (.aaload, 1) := by decide +kernel
theorem dX12_wrong_53 : decode cX12_wrong 53 = .ok (.invokevirtual 293, 3) := by decide +kernel
theorem dX12_wrong_56 : decode cX12_wrong 56 = .ok (.ifCond .eq 11, 3) := by decide +kernel
theorem dX12_wrong_59 : decode cX12_wrong 59 = .ok (.bipush 32, 2) := by decide +kernel
theorem dX12_wrong_61 : decode cX12_wrong 61 = .ok (.iload_n 3, 1) := by decide +kernel
theorem dX12_wrong_62 : decode cX12_wrong 62 = .ok (.imul, 1) := by decide +kernel
theorem dX12_wrong_63 : decode cX12_wrong 63 = .ok (.iload 4, 2) := by decide +kernel
theorem dX12_wrong_65 : decode cX12_wrong 65 = .ok (.iadd, 1) := by decide +kernel
theorem dX12_wrong_66 : decode cX12_wrong 66 = .ok (.ireturn, 1) := by decide +kernel
theorem dX12_wrong_67 : decode cX12_wrong 67 = .ok (.iinc 4 1, 3) := by decide +kernel
theorem dX12_wrong_70 : decode cX12_wrong 70 = .ok (.goto (-34), 3) := by decide +kernel
theorem dX12_wrong_73 : decode cX12_wrong 73 = .ok (.iinc 3 1, 3) := by decide +kernel
theorem dX12_wrong_76 : decode cX12_wrong 76 = .ok (.goto (-55), 3) := by decide +kernel
theorem dX12_wrong_79 : decode cX12_wrong 79 = .ok (.bipush (-9), 2) := by decide +kernel
theorem dX12_wrong_81 : decode cX12_wrong 81 = .ok (.ireturn, 1) := by decide +kernel
set_option maxRecDepth 100000 in
set_option maxHeartbeats 4000000 in
theorem wp_X12_wrong {n0 d : Nat} {K : z_K} {I : z_I} {L : z_L} {Q : z_R} {p0 : Int32} (hL : CLay K) (h : RM0 n0 xX12_outside d [.int p0, .int 0, .int 1000] K I L (fun vv I1 L2 => ∃ r3 : Int32, vv = some (.int r3) ∧ (if r3 = 0 then Z n0 xX12_wrong (d + 1) 0 0 21 [(0, .ref (n0 + 0)), (1, .int p0), (3, .int 0)] [] K I1 L2 Q else RM0 n0 xX12_refuse d [.ref (n0 + 0), .int r3] K I1 L2 (fun vv I5 L6 => ∃ r7 : Int32, vv = some (.int r7) ∧ Q (some (.int r7)) K I5 L6)))) : RM n0 xX12_wrong (d + 1) 0 0 [.ref (n0 + 0), .int p0] K I L Q := by
  refine z_entry (by decide) (Nat.le_of_ble_eq_true rfl) ?_
  change Z n0 xX12_wrong (d + 1) 0 0 0 [(0, .ref (n0 + 0)), (1, .int p0)] [] K I L Q
  refine z_iload_n 1 dX12_wrong_0 rfl ?_
  refine z_iconst 0 dX12_wrong_1 (by decide) ?_
  refine z_sipush 1000 dX12_wrong_2 (by decide) ?_
  refine z_callS0 (As := [.int p0, .int 0, .int 1000]) (st := []) dX12_wrong_5 hy_X12_outside wg_476 wg_477 (Nat.le_refl _) (Nat.le_of_ble_eq_true rfl) (RM0.mono h ?_)
  clear h
  intro vv I1 L2 h
  obtain ⟨r3, rfl, h⟩ := h
  change Z n0 xX12_wrong (d + 1) 0 0 8 [(0, .ref (n0 + 0)), (1, .int p0)] [.int r3] K I1 L2 Q
  refine z_istore_n [1, 2, 0] [(0, .ref (n0 + 0)), (1, .int p0), (2, .int r3)] dX12_wrong_8 (by decide) rfl ?_
  refine z_iload_n 2 dX12_wrong_9 rfl ?_
  refine z_if_eq 19 dX12_wrong_10 (by decide) (fun g4 => ?_) (fun g4 => ?_)
  · rw [if_pos g4] at h
    refine z_iconst 0 dX12_wrong_19 (by decide) ?_
    refine z_istore_n [1, 2, 3, 0] [(0, .ref (n0 + 0)), (1, .int p0), (2, .int r3), (3, .int 0)] dX12_wrong_20 (by decide) rfl ?_
    refine z_sub [0, 1, 3] rfl ?_
    exact h
  · rw [if_neg g4] at h
    refine z_aload_n 0 dX12_wrong_13 rfl ?_
    refine z_iload_n 2 dX12_wrong_14 rfl ?_
    refine z_callV0 (As := [.int r3]) (st := []) dX12_wrong_15 hy_X12_refuse (co_0 hL).1 (co_0 hL).2 (by decide) wg_462 wg_464 wg_0 (Nat.le_refl _) (Nat.le_of_ble_eq_true rfl) (RM0.mono h ?_)
    clear h
    intro vv I5 L6 h
    obtain ⟨r7, rfl, h⟩ := h
    change Z n0 xX12_wrong (d + 1) 0 0 18 [(0, .ref (n0 + 0)), (1, .int p0), (2, .int r3)] [.int r7] K I5 L6 Q
    exact z_iret dX12_wrong_18 rfl h
set_option maxRecDepth 100000 in
set_option maxHeartbeats 4000000 in
theorem wp_X12_wrong_21 {n0 d : Nat} {rc rs : Nat} {K : z_K} {I : z_I} {L : z_L} {Q : z_R} {a1 : Int32} {a3 : Int32} (hL : CLay K) (h : (if a3 < 11 then RM n0 xX12_drawAt d 0 0 [.ref (n0 + 0), .int a3, .int a1] K I L (fun vv K4 I2 L3 => vv = none ∧ CLay K4 ∧ Z n0 xX12_wrong (d + 1) rc rs 36 [(0, .ref (n0 + 0)), (1, .int a1), (3, .int a3), (4, .int 0)] [] K4 I2 L3 Q) else Q (some (.int (-9))) K I L)) : Z n0 xX12_wrong (d + 1) rc rs 21 [(0, .ref (n0 + 0)), (1, .int a1), (3, .int a3)] [] K I L Q := by
  refine z_iload_n 2 dX12_wrong_21 rfl ?_
  refine z_bipush 11 dX12_wrong_22 (by decide) ?_
  refine z_icmp_ge 79 dX12_wrong_24 (by decide) (fun g1 => ?_) (fun g1 => ?_)
  · rw [if_neg g1] at h
    refine z_bipush (-9) dX12_wrong_79 (by decide) ?_
    exact z_iret dX12_wrong_81 rfl h
  · rw [if_pos g1] at h
    refine z_aload_n 0 dX12_wrong_27 rfl ?_
    refine z_iload_n 2 dX12_wrong_28 rfl ?_
    refine z_iload_n 1 dX12_wrong_29 rfl ?_
    refine z_callV (rc := rc) (rs := rs) (mc1 := 0) (ms1 := 0) (As := [.int a3, .int a1]) (st := []) dX12_wrong_30 hy_X12_drawAt (co_0 hL).1 (co_0 hL).2 (by decide) wg_831 wg_833 wg_19 (Nat.le_refl _) (Nat.le_of_ble_eq_true rfl) (RM.mono h ?_)
    clear h
    intro vv K4 I2 L3 h
    obtain ⟨rfl, h⟩ := h
    obtain ⟨hL5, h⟩ := h
    change Z n0 xX12_wrong (d + 1) rc rs 33 [(0, .ref (n0 + 0)), (1, .int a1), (3, .int a3)] [] K4 I2 L3 Q
    refine z_iconst 0 dX12_wrong_33 (by decide) ?_
    refine z_istore [1, 2, 3, 0] [(0, .ref (n0 + 0)), (1, .int a1), (3, .int a3), (4, .int 0)] dX12_wrong_34 (by decide) rfl ?_
    exact h
set_option maxRecDepth 100000 in
set_option maxHeartbeats 4000000 in
theorem wp_X12_wrong_36 {n0 d : Nat} {rc rs : Nat} {K : z_K} {I : z_I} {L : z_L} {Q : z_R} {a1 : Int32} {a3 : Int32} {a4 : Int32} (hL : CLay K) (h : (if a4 < (I 0 13) then vp_in a4 20 ∧ (∃ q3, K.2.2 21 a4.toNatClampNeg = some q3 ∧ RM n0 xX12_isWrong d 0 0 [.ref (n0 + 0), .ref (n0 + q3)] K I L (fun vv K6 I4 L5 => ∃ r7 : Int32, vv = some (.int r7) ∧ CLay K6 ∧ (if r7 = 0 then Z n0 xX12_wrong (d + 1) rc rs 36 [(0, .ref (n0 + 0)), (1, .int a1), (3, .int a3), (4, .int (a4 + 1))] [] K6 I4 L5 Q else Q (some (.int ((32 * a3) + a4))) K6 I4 L5))) else Z n0 xX12_wrong (d + 1) rc rs 21 [(0, .ref (n0 + 0)), (1, .int a1), (3, .int (a3 + 1))] [] K I L Q)) : Z n0 xX12_wrong (d + 1) rc rs 36 [(0, .ref (n0 + 0)), (1, .int a1), (3, .int a3), (4, .int a4)] [] K I L Q := by
  refine z_iload 3 dX12_wrong_36 rfl ?_
  refine z_aload_n 0 dX12_wrong_38 rfl ?_
  refine fg_12_256 (I 0 13) rfl dX12_wrong_39 (co_0 hL).1 (co_0 hL).2 rfl ?_
  refine z_icmp_ge 73 dX12_wrong_42 (by decide) (fun g1 => ?_) (fun g1 => ?_)
  · rw [if_neg g1] at h
    refine z_iinc (j := 2) (a3 + 1) [1, 2, 0, 3] [(0, .ref (n0 + 0)), (1, .int a1), (3, .int (a3 + 1)), (4, .int a4)] dX12_wrong_73 rfl rfl (by decide) rfl ?_
    refine z_goto 21 dX12_wrong_76 (by decide) ?_
    refine z_sub [0, 1, 2] rfl ?_
    exact h
  · rw [if_pos g1] at h
    refine z_aload_n 0 dX12_wrong_45 rfl ?_
    refine z_aload_n 0 dX12_wrong_46 rfl ?_
    refine fg_12_47 (some 21) rfl dX12_wrong_47 (co_0 hL).1 (co_0 hL).2 (ca_21 hL).1 ?_
    refine z_iload 3 dX12_wrong_50 rfl ?_
    obtain ⟨o2, h⟩ := h
    obtain ⟨q3, q3e, h⟩ := h
    refine z_aald (some q3) dX12_wrong_52 (ca_21 hL).2.1 (ca_21 hL).2.2 (by unfold z_rt; decide) o2 q3e ?_
    refine z_callV (rc := rc) (rs := rs) (mc1 := 0) (ms1 := 0) (As := [.ref (n0 + q3)]) (st := []) dX12_wrong_53 hy_X12_isWrong (co_0 hL).1 (co_0 hL).2 (by decide) wg_1049 wg_1051 wg_30 (Nat.le_refl _) (Nat.le_of_ble_eq_true rfl) (RM.mono h ?_)
    clear h
    intro vv K6 I4 L5 h
    obtain ⟨r7, rfl, h⟩ := h
    obtain ⟨hL8, h⟩ := h
    change Z n0 xX12_wrong (d + 1) rc rs 56 [(0, .ref (n0 + 0)), (1, .int a1), (3, .int a3), (4, .int a4)] [.int r7] K6 I4 L5 Q
    refine z_if_eq 67 dX12_wrong_56 (by decide) (fun g9 => ?_) (fun g9 => ?_)
    · rw [if_pos g9] at h
      refine z_iinc (j := 3) (a4 + 1) [1, 2, 3, 0] [(0, .ref (n0 + 0)), (1, .int a1), (3, .int a3), (4, .int (a4 + 1))] dX12_wrong_67 rfl rfl (by decide) rfl ?_
      refine z_goto 36 dX12_wrong_70 (by decide) ?_
      exact h
    · rw [if_neg g9] at h
      refine z_bipush 32 dX12_wrong_59 (by decide) ?_
      refine z_iload_n 2 dX12_wrong_61 rfl ?_
      refine z_imul dX12_wrong_62 ?_
      refine z_iload 3 dX12_wrong_63 rfl ?_
      refine z_iadd dX12_wrong_65 ?_
      exact z_iret dX12_wrong_66 rfl h
theorem dX12_condition_0 : decode cX12_condition 0 = .ok (.iload_n 1, 1) := by decide +kernel
theorem dX12_condition_1 : decode cX12_condition 1 = .ok (.iload_n 2, 1) := by decide +kernel
theorem dX12_condition_2 : decode cX12_condition 2 = .ok (.invokestatic 297, 3) := by decide +kernel
theorem dX12_condition_5 : decode cX12_condition 5 = .ok (.iload_n 3, 1) := by decide +kernel
theorem dX12_condition_6 : decode cX12_condition 6 = .ok (.iload 4, 2) := by decide +kernel
theorem dX12_condition_8 : decode cX12_condition 8 = .ok (.invokestatic 297, 3) := by decide +kernel
theorem dX12_condition_11 : decode cX12_condition 11 = .ok (.invokestatic 297, 3) := by decide +kernel
theorem dX12_condition_14 : decode cX12_condition 14 = .ok (.iload 5, 2) := by decide +kernel
theorem dX12_condition_16 : decode cX12_condition 16 = .ok (.iload 6, 2) := by decide +kernel
theorem dX12_condition_18 : decode cX12_condition 18 = .ok (.invokestatic 297, 3) := by decide +kernel
theorem dX12_condition_21 : decode cX12_condition 21 = .ok (.invokestatic 297, 3) := by decide +kernel
theorem dX12_condition_24 : decode cX12_condition 24 = .ok (.istore 8, 2) := by decide +kernel
theorem dX12_condition_26 : decode cX12_condition 26 = .ok (.iload_n 1, 1) := by decide +kernel
theorem dX12_condition_27 : decode cX12_condition 27 = .ok (.iload_n 2, 1) := by decide +kernel
theorem dX12_condition_28 : decode cX12_condition 28 = .ok (.invokestatic 302, 3) := by decide +kernel
theorem dX12_condition_31 : decode cX12_condition 31 = .ok (.iload_n 3, 1) := by decide +kernel
theorem dX12_condition_32 : decode cX12_condition 32 = .ok (.iload 4, 2) := by decide +kernel
theorem dX12_condition_34 : decode cX12_condition 34 = .ok (.invokestatic 302, 3) := by decide +kernel
theorem dX12_condition_37 : decode cX12_condition 37 = .ok (.invokestatic 302, 3) := by decide +kernel
theorem dX12_condition_40 : decode cX12_condition 40 = .ok (.iload 5, 2) := by decide +kernel
theorem dX12_condition_42 : decode cX12_condition 42 = .ok (.iload 6, 2) := by decide +kernel
theorem dX12_condition_44 : decode cX12_condition 44 = .ok (.invokestatic 302, 3) := by decide +kernel
theorem dX12_condition_47 : decode cX12_condition 47 = .ok (.invokestatic 302, 3) := by decide +kernel
theorem dX12_condition_50 : decode cX12_condition 50 = .ok (.istore 9, 2) := by decide +kernel
theorem dX12_condition_52 : decode cX12_condition 52 = .ok (.iload 8, 2) := by decide +kernel
theorem dX12_condition_54 : decode cX12_condition 54 = .ok (.bipush (-99), 2) := by decide +kernel
theorem dX12_condition_56 : decode cX12_condition 56 = .ok (.if_icmp .lt 11, 3) := by decide +kernel
theorem dX12_condition_59 : decode cX12_condition 59 = .ok (.iload 7, 2) := by decide +kernel
theorem dX12_condition_61 : decode cX12_condition 61 = .ok (.sipush (-9999), 3) := by decide +kernel
theorem dX12_condition_64 : decode cX12_condition 64 = .ok (.if_icmp .ge 10, 3) := by decide +kernel
theorem dX12_condition_67 : decode cX12_condition 67 = .ok (.aload_n 0, 1) := by decide +kernel
theorem dX12_condition_68 : decode cX12_condition 68 = .ok (.bipush (-4), 2) := by decide +kernel
theorem dX12_condition_70 : decode cX12_condition 70 = .ok (.invokevirtual 85, 3) := by decide +kernel
theorem dX12_condition_73 : decode cX12_condition 73 = .ok (.ireturn, 1) := by decide +kernel
theorem dX12_condition_74 : decode cX12_condition 74 = .ok (.iload 9, 2) := by decide +kernel
theorem dX12_condition_76 : decode cX12_condition 76 = .ok (.bipush 99, 2) := by decide +kernel
theorem dX12_condition_78 : decode cX12_condition 78 = .ok (.if_icmp .gt 11, 3) := by decide +kernel
theorem dX12_condition_81 : decode cX12_condition 81 = .ok (.iload 7, 2) := by decide +kernel
theorem dX12_condition_83 : decode cX12_condition 83 = .ok (.sipush 9999, 3) := by decide +kernel
theorem dX12_condition_86 : decode cX12_condition 86 = .ok (.if_icmp .le 10, 3) := by decide +kernel
theorem dX12_condition_89 : decode cX12_condition 89 = .ok (.aload_n 0, 1) := by decide +kernel
theorem dX12_condition_90 : decode cX12_condition 90 = .ok (.bipush (-6), 2) := by decide +kernel
theorem dX12_condition_92 : decode cX12_condition 92 = .ok (.invokevirtual 85, 3) := by decide +kernel
theorem dX12_condition_95 : decode cX12_condition 95 = .ok (.ireturn, 1) := by decide +kernel
theorem dX12_condition_96 : decode cX12_condition 96 = .ok (.aload_n 0, 1) := by decide +kernel
theorem dX12_condition_97 : decode cX12_condition 97 = .ok (.getfield 54, 3) := by decide +kernel
theorem dX12_condition_100 : decode cX12_condition 100 = .ok (.getfield 305, 3) := by decide +kernel
theorem dX12_condition_103 : decode cX12_condition 103 = .ok (.iconst 2, 1) := by decide +kernel
theorem dX12_condition_104 : decode cX12_condition 104 = .ok (.if_icmp .lt 10, 3) := by decide +kernel
theorem dX12_condition_107 : decode cX12_condition 107 = .ok (.aload_n 0, 1) := by decide +kernel
theorem dX12_condition_108 : decode cX12_condition 108 = .ok (.bipush (-6), 2) := by decide +kernel
theorem dX12_condition_110 : decode cX12_condition 110 = .ok (.invokevirtual 85, 3) := by decide +kernel
theorem dX12_condition_113 : decode cX12_condition 113 = .ok (.ireturn, 1) := by decide +kernel
theorem dX12_condition_114 : decode cX12_condition 114 = .ok (.aload_n 0, 1) := by decide +kernel
theorem dX12_condition_115 : decode cX12_condition 115 = .ok (.getfield 54, 3) := by decide +kernel
theorem dX12_condition_118 : decode cX12_condition 118 = .ok (.iload_n 1, 1) := by decide +kernel
theorem dX12_condition_119 : decode cX12_condition 119 = .ok (.iload_n 2, 1) := by decide +kernel
theorem dX12_condition_120 : decode cX12_condition 120 = .ok (.iload_n 3, 1) := by decide +kernel
theorem dX12_condition_121 : decode cX12_condition 121 = .ok (.iload 4, 2) := by decide +kernel
theorem dX12_condition_123 : decode cX12_condition 123 = .ok (.iload 5, 2) := by decide +kernel
theorem dX12_condition_125 : decode cX12_condition 125 = .ok (.iload 6, 2) := by decide +kernel
theorem dX12_condition_127 : decode cX12_condition 127 = .ok (.iload 7, 2) := by decide +kernel
theorem dX12_condition_129 : decode cX12_condition 129 = .ok (.invokevirtual 308, 3) := by decide +kernel
theorem dX12_condition_132 : decode cX12_condition 132 = .ok (.ireturn, 1) := by decide +kernel
set_option maxRecDepth 100000 in
set_option maxHeartbeats 4000000 in
theorem wp_X12_condition {n0 d : Nat} {K : z_K} {I : z_I} {L : z_L} {Q : z_q} {p0 : Int32} {p1 : Int32} {p2 : Int32} {p3 : Int32} {p4 : Int32} {p5 : Int32} {p6 : Int32} (hL : CLay K) (h : (if ((if (if p5 < p4 then p5 else p4) < (if (if p3 < p2 then p3 else p2) < (if p1 < p0 then p1 else p0) then (if p3 < p2 then p3 else p2) else (if p1 < p0 then p1 else p0)) then (if p5 < p4 then p5 else p4) else (if (if p3 < p2 then p3 else p2) < (if p1 < p0 then p1 else p0) then (if p3 < p2 then p3 else p2) else (if p1 < p0 then p1 else p0))) : Int32) < (-99) then RM0 n0 xX12_refuse d [.ref (n0 + 0), .int (-4)] K I L (fun vv I2 L3 => ∃ r4 : Int32, vv = some (.int r4) ∧ Q (some (.int r4)) I2 L3) else (if p6 < (-9999) then RM0 n0 xX12_refuse d [.ref (n0 + 0), .int (-4)] K I L (fun vv I21 L22 => ∃ r23 : Int32, vv = some (.int r23) ∧ Q (some (.int r23)) I21 L22) else (if 99 < ((if (if (if p0 < p1 then p1 else p0) < (if p2 < p3 then p3 else p2) then (if p2 < p3 then p3 else p2) else (if p0 < p1 then p1 else p0)) < (if p4 < p5 then p5 else p4) then (if p4 < p5 then p5 else p4) else (if (if p0 < p1 then p1 else p0) < (if p2 < p3 then p3 else p2) then (if p2 < p3 then p3 else p2) else (if p0 < p1 then p1 else p0))) : Int32) then RM0 n0 xX12_refuse d [.ref (n0 + 0), .int (-6)] K I L (fun vv I7 L8 => ∃ r9 : Int32, vv = some (.int r9) ∧ Q (some (.int r9)) I7 L8) else (if 9999 < p6 then RM0 n0 xX12_refuse d [.ref (n0 + 0), .int (-6)] K I L (fun vv I18 L19 => ∃ r20 : Int32, vv = some (.int r20) ∧ Q (some (.int r20)) I18 L19) else (if ((I 22 2) : Int32) < 2 then RM0 n0 xX1_add d [.ref (n0 + 22), .int p0, .int p1, .int p2, .int p3, .int p4, .int p5, .int p6] K I L (fun vv I12 L13 => ∃ r14 : Int32, vv = some (.int r14) ∧ Q (some (.int r14)) I12 L13) else RM0 n0 xX12_refuse d [.ref (n0 + 0), .int (-6)] K I L (fun vv I15 L16 => ∃ r17 : Int32, vv = some (.int r17) ∧ Q (some (.int r17)) I15 L16))))))) : RM0 n0 xX12_condition (d + 1) [.ref (n0 + 0), .int p0, .int p1, .int p2, .int p3, .int p4, .int p5, .int p6] K I L Q := by
  refine z_entry0 (by decide) (Nat.le_of_ble_eq_true rfl) ?_
  change Z n0 xX12_condition (d + 1) 0 0 0 [(0, .ref (n0 + 0)), (1, .int p0), (2, .int p1), (3, .int p2), (4, .int p3), (5, .int p4), (6, .int p5), (7, .int p6)] [] K I L (z_q0 K Q)
  refine z_iload_n 1 dX12_condition_0 rfl ?_
  refine z_iload_n 2 dX12_condition_1 rfl ?_
  refine z_mmin dX12_condition_2 wg_796 (by omega) (Nat.le_of_ble_eq_true rfl) ?_
  refine z_iload_n 3 dX12_condition_5 rfl ?_
  refine z_iload 4 dX12_condition_6 rfl ?_
  refine z_mmin dX12_condition_8 wg_796 (by omega) (Nat.le_of_ble_eq_true rfl) ?_
  refine z_mmin dX12_condition_11 wg_796 (by omega) (Nat.le_of_ble_eq_true rfl) ?_
  refine z_iload 5 dX12_condition_14 rfl ?_
  refine z_iload 6 dX12_condition_16 rfl ?_
  refine z_mmin dX12_condition_18 wg_796 (by omega) (Nat.le_of_ble_eq_true rfl) ?_
  refine z_mmin dX12_condition_21 wg_796 (by omega) (Nat.le_of_ble_eq_true rfl) ?_
  refine z_istore [1, 2, 3, 4, 5, 6, 7, 8, 0] [(0, .ref (n0 + 0)), (1, .int p0), (2, .int p1), (3, .int p2), (4, .int p3), (5, .int p4), (6, .int p5), (7, .int p6), (8, .int (if (if p5 < p4 then p5 else p4) < (if (if p3 < p2 then p3 else p2) < (if p1 < p0 then p1 else p0) then (if p3 < p2 then p3 else p2) else (if p1 < p0 then p1 else p0)) then (if p5 < p4 then p5 else p4) else (if (if p3 < p2 then p3 else p2) < (if p1 < p0 then p1 else p0) then (if p3 < p2 then p3 else p2) else (if p1 < p0 then p1 else p0))))] dX12_condition_24 (by decide) rfl ?_
  refine z_iload_n 1 dX12_condition_26 rfl ?_
  refine z_iload_n 2 dX12_condition_27 rfl ?_
  refine z_mmax dX12_condition_28 wg_797 (by omega) (Nat.le_of_ble_eq_true rfl) ?_
  refine z_iload_n 3 dX12_condition_31 rfl ?_
  refine z_iload 4 dX12_condition_32 rfl ?_
  refine z_mmax dX12_condition_34 wg_797 (by omega) (Nat.le_of_ble_eq_true rfl) ?_
  refine z_mmax dX12_condition_37 wg_797 (by omega) (Nat.le_of_ble_eq_true rfl) ?_
  refine z_iload 5 dX12_condition_40 rfl ?_
  refine z_iload 6 dX12_condition_42 rfl ?_
  refine z_mmax dX12_condition_44 wg_797 (by omega) (Nat.le_of_ble_eq_true rfl) ?_
  refine z_mmax dX12_condition_47 wg_797 (by omega) (Nat.le_of_ble_eq_true rfl) ?_
  refine z_istore [1, 2, 3, 4, 5, 6, 7, 8, 9, 0] [(0, .ref (n0 + 0)), (1, .int p0), (2, .int p1), (3, .int p2), (4, .int p3), (5, .int p4), (6, .int p5), (7, .int p6), (8, .int (if (if p5 < p4 then p5 else p4) < (if (if p3 < p2 then p3 else p2) < (if p1 < p0 then p1 else p0) then (if p3 < p2 then p3 else p2) else (if p1 < p0 then p1 else p0)) then (if p5 < p4 then p5 else p4) else (if (if p3 < p2 then p3 else p2) < (if p1 < p0 then p1 else p0) then (if p3 < p2 then p3 else p2) else (if p1 < p0 then p1 else p0)))), (9, .int (if (if (if p0 < p1 then p1 else p0) < (if p2 < p3 then p3 else p2) then (if p2 < p3 then p3 else p2) else (if p0 < p1 then p1 else p0)) < (if p4 < p5 then p5 else p4) then (if p4 < p5 then p5 else p4) else (if (if p0 < p1 then p1 else p0) < (if p2 < p3 then p3 else p2) then (if p2 < p3 then p3 else p2) else (if p0 < p1 then p1 else p0))))] dX12_condition_50 (by decide) rfl ?_
  refine z_iload 8 dX12_condition_52 rfl ?_
  refine z_bipush (-99) dX12_condition_54 (by decide) ?_
  refine z_icmp_lt 67 dX12_condition_56 (by decide) (fun g1 => ?_) (fun g1 => ?_)
  · rw [if_pos g1] at h
    refine z_aload_n 0 dX12_condition_67 rfl ?_
    refine z_bipush (-4) dX12_condition_68 (by decide) ?_
    refine z_callV0 (As := [.int (-4)]) (st := []) dX12_condition_70 hy_X12_refuse (co_0 hL).1 (co_0 hL).2 (by decide) wg_462 wg_464 wg_0 (Nat.le_refl _) (Nat.le_of_ble_eq_true rfl) (RM0.mono h ?_)
    clear h
    intro vv I2 L3 h
    obtain ⟨r4, rfl, h⟩ := h
    change Z n0 xX12_condition (d + 1) 0 0 73 [(0, .ref (n0 + 0)), (1, .int p0), (2, .int p1), (3, .int p2), (4, .int p3), (5, .int p4), (6, .int p5), (7, .int p6), (8, .int (if (if p5 < p4 then p5 else p4) < (if (if p3 < p2 then p3 else p2) < (if p1 < p0 then p1 else p0) then (if p3 < p2 then p3 else p2) else (if p1 < p0 then p1 else p0)) then (if p5 < p4 then p5 else p4) else (if (if p3 < p2 then p3 else p2) < (if p1 < p0 then p1 else p0) then (if p3 < p2 then p3 else p2) else (if p1 < p0 then p1 else p0)))), (9, .int (if (if (if p0 < p1 then p1 else p0) < (if p2 < p3 then p3 else p2) then (if p2 < p3 then p3 else p2) else (if p0 < p1 then p1 else p0)) < (if p4 < p5 then p5 else p4) then (if p4 < p5 then p5 else p4) else (if (if p0 < p1 then p1 else p0) < (if p2 < p3 then p3 else p2) then (if p2 < p3 then p3 else p2) else (if p0 < p1 then p1 else p0))))] [.int r4] K I2 L3 (z_q0 K Q)
    exact z_iret dX12_condition_73 rfl ⟨rfl, h⟩
  · rw [if_neg g1] at h
    refine z_iload 7 dX12_condition_59 rfl ?_
    refine z_sipush (-9999) dX12_condition_61 (by decide) ?_
    refine z_icmp_ge 74 dX12_condition_64 (by decide) (fun g5 => ?_) (fun g5 => ?_)
    · rw [if_neg g5] at h
      refine z_iload 9 dX12_condition_74 rfl ?_
      refine z_bipush 99 dX12_condition_76 (by decide) ?_
      refine z_icmp_gt 89 dX12_condition_78 (by decide) (fun g6 => ?_) (fun g6 => ?_)
      · rw [if_pos g6] at h
        refine z_aload_n 0 dX12_condition_89 rfl ?_
        refine z_bipush (-6) dX12_condition_90 (by decide) ?_
        refine z_callV0 (As := [.int (-6)]) (st := []) dX12_condition_92 hy_X12_refuse (co_0 hL).1 (co_0 hL).2 (by decide) wg_462 wg_464 wg_0 (Nat.le_refl _) (Nat.le_of_ble_eq_true rfl) (RM0.mono h ?_)
        clear h
        intro vv I7 L8 h
        obtain ⟨r9, rfl, h⟩ := h
        change Z n0 xX12_condition (d + 1) 0 0 95 [(0, .ref (n0 + 0)), (1, .int p0), (2, .int p1), (3, .int p2), (4, .int p3), (5, .int p4), (6, .int p5), (7, .int p6), (8, .int (if (if p5 < p4 then p5 else p4) < (if (if p3 < p2 then p3 else p2) < (if p1 < p0 then p1 else p0) then (if p3 < p2 then p3 else p2) else (if p1 < p0 then p1 else p0)) then (if p5 < p4 then p5 else p4) else (if (if p3 < p2 then p3 else p2) < (if p1 < p0 then p1 else p0) then (if p3 < p2 then p3 else p2) else (if p1 < p0 then p1 else p0)))), (9, .int (if (if (if p0 < p1 then p1 else p0) < (if p2 < p3 then p3 else p2) then (if p2 < p3 then p3 else p2) else (if p0 < p1 then p1 else p0)) < (if p4 < p5 then p5 else p4) then (if p4 < p5 then p5 else p4) else (if (if p0 < p1 then p1 else p0) < (if p2 < p3 then p3 else p2) then (if p2 < p3 then p3 else p2) else (if p0 < p1 then p1 else p0))))] [.int r9] K I7 L8 (z_q0 K Q)
        exact z_iret dX12_condition_95 rfl ⟨rfl, h⟩
      · rw [if_neg g6] at h
        refine z_iload 7 dX12_condition_81 rfl ?_
        refine z_sipush 9999 dX12_condition_83 (by decide) ?_
        refine z_icmp_le 96 dX12_condition_86 (by decide) (fun g10 => ?_) (fun g10 => ?_)
        · rw [if_neg g10] at h
          refine z_aload_n 0 dX12_condition_96 rfl ?_
          refine fg_12_54 (some 22) rfl dX12_condition_97 (co_0 hL).1 (co_0 hL).2 (cp_22 hL) ?_
          refine fg_12_305 (I 22 2) rfl dX12_condition_100 (co_22 hL).1 (co_22 hL).2 rfl ?_
          refine z_iconst 2 dX12_condition_103 (by decide) ?_
          refine z_icmp_lt 114 dX12_condition_104 (by decide) (fun g11 => ?_) (fun g11 => ?_)
          · rw [if_pos g11] at h
            refine z_aload_n 0 dX12_condition_114 rfl ?_
            refine fg_12_54 (some 22) rfl dX12_condition_115 (co_0 hL).1 (co_0 hL).2 (cp_22 hL) ?_
            refine z_iload_n 1 dX12_condition_118 rfl ?_
            refine z_iload_n 2 dX12_condition_119 rfl ?_
            refine z_iload_n 3 dX12_condition_120 rfl ?_
            refine z_iload 4 dX12_condition_121 rfl ?_
            refine z_iload 5 dX12_condition_123 rfl ?_
            refine z_iload 6 dX12_condition_125 rfl ?_
            refine z_iload 7 dX12_condition_127 rfl ?_
            refine z_callV0 (As := [.int p0, .int p1, .int p2, .int p3, .int p4, .int p5, .int p6]) (st := []) dX12_condition_129 hy_X1_add (co_22 hL).1 (co_22 hL).2 (by decide) wg_1057 wg_1058 wg_1059 (Nat.le_refl _) (Nat.le_of_ble_eq_true rfl) (RM0.mono h ?_)
            clear h
            intro vv I12 L13 h
            obtain ⟨r14, rfl, h⟩ := h
            change Z n0 xX12_condition (d + 1) 0 0 132 [(0, .ref (n0 + 0)), (1, .int p0), (2, .int p1), (3, .int p2), (4, .int p3), (5, .int p4), (6, .int p5), (7, .int p6), (8, .int (if (if p5 < p4 then p5 else p4) < (if (if p3 < p2 then p3 else p2) < (if p1 < p0 then p1 else p0) then (if p3 < p2 then p3 else p2) else (if p1 < p0 then p1 else p0)) then (if p5 < p4 then p5 else p4) else (if (if p3 < p2 then p3 else p2) < (if p1 < p0 then p1 else p0) then (if p3 < p2 then p3 else p2) else (if p1 < p0 then p1 else p0)))), (9, .int (if (if (if p0 < p1 then p1 else p0) < (if p2 < p3 then p3 else p2) then (if p2 < p3 then p3 else p2) else (if p0 < p1 then p1 else p0)) < (if p4 < p5 then p5 else p4) then (if p4 < p5 then p5 else p4) else (if (if p0 < p1 then p1 else p0) < (if p2 < p3 then p3 else p2) then (if p2 < p3 then p3 else p2) else (if p0 < p1 then p1 else p0))))] [.int r14] K I12 L13 (z_q0 K Q)
            exact z_iret dX12_condition_132 rfl ⟨rfl, h⟩
          · rw [if_neg g11] at h
            refine z_aload_n 0 dX12_condition_107 rfl ?_
            refine z_bipush (-6) dX12_condition_108 (by decide) ?_
            refine z_callV0 (As := [.int (-6)]) (st := []) dX12_condition_110 hy_X12_refuse (co_0 hL).1 (co_0 hL).2 (by decide) wg_462 wg_464 wg_0 (Nat.le_refl _) (Nat.le_of_ble_eq_true rfl) (RM0.mono h ?_)
            clear h
            intro vv I15 L16 h
            obtain ⟨r17, rfl, h⟩ := h
            change Z n0 xX12_condition (d + 1) 0 0 113 [(0, .ref (n0 + 0)), (1, .int p0), (2, .int p1), (3, .int p2), (4, .int p3), (5, .int p4), (6, .int p5), (7, .int p6), (8, .int (if (if p5 < p4 then p5 else p4) < (if (if p3 < p2 then p3 else p2) < (if p1 < p0 then p1 else p0) then (if p3 < p2 then p3 else p2) else (if p1 < p0 then p1 else p0)) then (if p5 < p4 then p5 else p4) else (if (if p3 < p2 then p3 else p2) < (if p1 < p0 then p1 else p0) then (if p3 < p2 then p3 else p2) else (if p1 < p0 then p1 else p0)))), (9, .int (if (if (if p0 < p1 then p1 else p0) < (if p2 < p3 then p3 else p2) then (if p2 < p3 then p3 else p2) else (if p0 < p1 then p1 else p0)) < (if p4 < p5 then p5 else p4) then (if p4 < p5 then p5 else p4) else (if (if p0 < p1 then p1 else p0) < (if p2 < p3 then p3 else p2) then (if p2 < p3 then p3 else p2) else (if p0 < p1 then p1 else p0))))] [.int r17] K I15 L16 (z_q0 K Q)
            exact z_iret dX12_condition_113 rfl ⟨rfl, h⟩
        · rw [if_pos g10] at h
          refine z_aload_n 0 dX12_condition_89 rfl ?_
          refine z_bipush (-6) dX12_condition_90 (by decide) ?_
          refine z_callV0 (As := [.int (-6)]) (st := []) dX12_condition_92 hy_X12_refuse (co_0 hL).1 (co_0 hL).2 (by decide) wg_462 wg_464 wg_0 (Nat.le_refl _) (Nat.le_of_ble_eq_true rfl) (RM0.mono h ?_)
          clear h
          intro vv I18 L19 h
          obtain ⟨r20, rfl, h⟩ := h
          change Z n0 xX12_condition (d + 1) 0 0 95 [(0, .ref (n0 + 0)), (1, .int p0), (2, .int p1), (3, .int p2), (4, .int p3), (5, .int p4), (6, .int p5), (7, .int p6), (8, .int (if (if p5 < p4 then p5 else p4) < (if (if p3 < p2 then p3 else p2) < (if p1 < p0 then p1 else p0) then (if p3 < p2 then p3 else p2) else (if p1 < p0 then p1 else p0)) then (if p5 < p4 then p5 else p4) else (if (if p3 < p2 then p3 else p2) < (if p1 < p0 then p1 else p0) then (if p3 < p2 then p3 else p2) else (if p1 < p0 then p1 else p0)))), (9, .int (if (if (if p0 < p1 then p1 else p0) < (if p2 < p3 then p3 else p2) then (if p2 < p3 then p3 else p2) else (if p0 < p1 then p1 else p0)) < (if p4 < p5 then p5 else p4) then (if p4 < p5 then p5 else p4) else (if (if p0 < p1 then p1 else p0) < (if p2 < p3 then p3 else p2) then (if p2 < p3 then p3 else p2) else (if p0 < p1 then p1 else p0))))] [.int r20] K I18 L19 (z_q0 K Q)
          exact z_iret dX12_condition_95 rfl ⟨rfl, h⟩
    · rw [if_pos g5] at h
      refine z_aload_n 0 dX12_condition_67 rfl ?_
      refine z_bipush (-4) dX12_condition_68 (by decide) ?_
      refine z_callV0 (As := [.int (-4)]) (st := []) dX12_condition_70 hy_X12_refuse (co_0 hL).1 (co_0 hL).2 (by decide) wg_462 wg_464 wg_0 (Nat.le_refl _) (Nat.le_of_ble_eq_true rfl) (RM0.mono h ?_)
      clear h
      intro vv I21 L22 h
      obtain ⟨r23, rfl, h⟩ := h
      change Z n0 xX12_condition (d + 1) 0 0 73 [(0, .ref (n0 + 0)), (1, .int p0), (2, .int p1), (3, .int p2), (4, .int p3), (5, .int p4), (6, .int p5), (7, .int p6), (8, .int (if (if p5 < p4 then p5 else p4) < (if (if p3 < p2 then p3 else p2) < (if p1 < p0 then p1 else p0) then (if p3 < p2 then p3 else p2) else (if p1 < p0 then p1 else p0)) then (if p5 < p4 then p5 else p4) else (if (if p3 < p2 then p3 else p2) < (if p1 < p0 then p1 else p0) then (if p3 < p2 then p3 else p2) else (if p1 < p0 then p1 else p0)))), (9, .int (if (if (if p0 < p1 then p1 else p0) < (if p2 < p3 then p3 else p2) then (if p2 < p3 then p3 else p2) else (if p0 < p1 then p1 else p0)) < (if p4 < p5 then p5 else p4) then (if p4 < p5 then p5 else p4) else (if (if p0 < p1 then p1 else p0) < (if p2 < p3 then p3 else p2) then (if p2 < p3 then p3 else p2) else (if p0 < p1 then p1 else p0))))] [.int r23] K I21 L22 (z_q0 K Q)
      exact z_iret dX12_condition_73 rfl ⟨rfl, h⟩
theorem dX12_free_0 : decode cX12_free 0 = .ok (.aload_n 0, 1) := by decide +kernel
theorem dX12_free_1 : decode cX12_free 1 = .ok (.getfield 54, 3) := by decide +kernel
theorem dX12_free_4 : decode cX12_free 4 = .ok (.getfield 305, 3) := by decide +kernel
theorem dX12_free_7 : decode cX12_free 7 = .ok (.istore_n 1, 1) := by decide +kernel
theorem dX12_free_8 : decode cX12_free 8 = .ok (.aload_n 0, 1) := by decide +kernel
theorem dX12_free_9 : decode cX12_free 9 = .ok (.getfield 54, 3) := by decide +kernel
theorem dX12_free_12 : decode cX12_free 12 = .ok (.iconst 0, 1) := by decide +kernel
theorem dX12_free_13 : decode cX12_free 13 = .ok (.putfield 305, 3) := by decide +kernel
theorem dX12_free_16 : decode cX12_free 16 = .ok (.iload_n 1, 1) := by decide +kernel
theorem dX12_free_17 : decode cX12_free 17 = .ok (.ireturn, 1) := by decide +kernel
set_option maxRecDepth 100000 in
set_option maxHeartbeats 4000000 in
theorem wp_X12_free {n0 d : Nat} {K : z_K} {I : z_I} {L : z_L} {Q : z_q}  (hL : CLay K) (h : Q (some (.int (I 22 2))) (zI I 22 2 0) L) : RM0 n0 xX12_free d [.ref (n0 + 0)] K I L Q := by
  refine z_entry0 (by decide) (Nat.le_of_ble_eq_true rfl) ?_
  change Z n0 xX12_free d 0 0 0 [(0, .ref (n0 + 0))] [] K I L (z_q0 K Q)
  refine z_aload_n 0 dX12_free_0 rfl ?_
  refine fg_12_54 (some 22) rfl dX12_free_1 (co_0 hL).1 (co_0 hL).2 (cp_22 hL) ?_
  refine fg_12_305 (I 22 2) rfl dX12_free_4 (co_22 hL).1 (co_22 hL).2 rfl ?_
  refine z_istore_n [1, 0] [(0, .ref (n0 + 0)), (1, .int (I 22 2))] dX12_free_7 (by decide) rfl ?_
  refine z_aload_n 0 dX12_free_8 rfl ?_
  refine fg_12_54 (some 22) rfl dX12_free_9 (co_0 hL).1 (co_0 hL).2 (cp_22 hL) ?_
  refine z_iconst 0 dX12_free_12 (by decide) ?_
  refine fp_12_305 rfl dX12_free_13 (co_22 hL).1 (co_22 hL).2 ?_
  refine z_iload_n 1 dX12_free_16 rfl ?_
  exact z_iret dX12_free_17 rfl ⟨rfl, h⟩
theorem dX12_least_0 : decode cX12_least 0 = .ok (.iload_n 1, 1) := by decide +kernel
theorem dX12_least_1 : decode cX12_least 1 = .ok (.ifCond .lt 9, 3) := by decide +kernel
theorem dX12_least_4 : decode cX12_least 4 = .ok (.iload_n 1, 1) := by decide +kernel
theorem dX12_least_5 : decode cX12_least 5 = .ok (.bipush 6, 2) := by decide +kernel
theorem dX12_least_7 : decode cX12_least 7 = .ok (.if_icmp .lt 10, 3) := by decide +kernel
theorem dX12_least_10 : decode cX12_least 10 = .ok (.aload_n 0, 1) := by decide +kernel
theorem dX12_least_11 : decode cX12_least 11 = .ok (.iconst (-1), 1) := by decide +kernel
theorem dX12_least_12 : decode cX12_least 12 = .ok (.invokevirtual 126, 3) := by decide +kernel
theorem dX12_least_15 : decode cX12_least 15 = .ok (.i2l, 1) := by decide +kernel
theorem dX12_least_16 : decode cX12_least 16 = .ok (.lreturn, 1) := by decide +kernel
theorem dX12_least_17 : decode cX12_least 17 = .ok (.iload_n 2, 1) := by decide +kernel
theorem dX12_least_18 : decode cX12_least 18 = .ok (.ifCond .lt 8, 3) := by decide +kernel
theorem dX12_least_21 : decode cX12_least 21 = .ok (.iload_n 2, 1) := by decide +kernel
theorem dX12_least_22 : decode cX12_least 22 = .ok (.iconst 1, 1) := by decide +kernel
theorem dX12_least_23 : decode cX12_least 23 = .ok (.if_icmp .le 11, 3) := by decide +kernel
theorem dX12_least_26 : decode cX12_least 26 = .ok (.aload_n 0, 1) := by decide +kernel
theorem dX12_least_27 : decode cX12_least 27 = .ok (.bipush (-2), 2) := by decide +kernel
theorem dX12_least_29 : decode cX12_least 29 = .ok (.invokevirtual 126, 3) := by decide +kernel
theorem dX12_least_32 : decode cX12_least 32 = .ok (.i2l, 1) := by decide +kernel
theorem dX12_least_33 : decode cX12_least 33 = .ok (.lreturn, 1) := by decide +kernel
theorem dX12_least_34 : decode cX12_least 34 = .ok (.aload_n 0, 1) := by decide +kernel
theorem dX12_least_35 : decode cX12_least 35 = .ok (.getfield 54, 3) := by decide +kernel
theorem dX12_least_38 : decode cX12_least 38 = .ok (.iload_n 1, 1) := by decide +kernel
theorem dX12_least_39 : decode cX12_least 39 = .ok (.invokevirtual 311, 3) := by decide +kernel
theorem dX12_least_42 : decode cX12_least 42 = .ok (.ifCond .ne 11, 3) := by decide +kernel
theorem dX12_least_45 : decode cX12_least 45 = .ok (.aload_n 0, 1) := by decide +kernel
theorem dX12_least_46 : decode cX12_least 46 = .ok (.bipush (-3), 2) := by decide +kernel
theorem dX12_least_48 : decode cX12_least 48 = .ok (.invokevirtual 126, 3) := by decide +kernel
theorem dX12_least_51 : decode cX12_least 51 = .ok (.i2l, 1) := by decide +kernel
theorem dX12_least_52 : decode cX12_least 52 = .ok (.lreturn, 1) := by decide +kernel
theorem dX12_least_53 : decode cX12_least 53 = .ok (.iload_n 2, 1) := by decide +kernel
theorem dX12_least_54 : decode cX12_least 54 = .ok (.ifCond .ne 13, 3) := by decide +kernel
theorem dX12_least_57 : decode cX12_least 57 = .ok (.aload_n 0, 1) := by decide +kernel
theorem dX12_least_58 : decode cX12_least 58 = .ok (.getfield 54, 3) := by decide +kernel
theorem dX12_least_61 : decode cX12_least 61 = .ok (.getfield 314, 3) := by decide +kernel
theorem dX12_least_64 : decode cX12_least 64 = .ok (.goto 10, 3) := by decide +kernel
theorem dX12_least_67 : decode cX12_least 67 = .ok (.aload_n 0, 1) := by decide +kernel
theorem dX12_least_68 : decode cX12_least 68 = .ok (.getfield 54, 3) := by decide +kernel
theorem dX12_least_71 : decode cX12_least 71 = .ok (.getfield 318, 3) := by decide +kernel
theorem dX12_least_74 : decode cX12_least 74 = .ok (.lreturn, 1) := by decide +kernel
set_option maxRecDepth 100000 in
set_option maxHeartbeats 4000000 in
theorem wp_X12_least {n0 d : Nat} {K : z_K} {I : z_I} {L : z_L} {Q : z_q} {p0 : Int32} {p1 : Int32} (hL : CLay K) (h : (if p0 < 0 then RM0 n0 xX12_refuseApart d [.ref (n0 + 0), .int (-1)] K I L (fun vv I2 L3 => ∃ r4 : Int32, vv = some (.int r4) ∧ Q (some (.long r4.toInt64)) I2 L3) else (if p0 < 6 then (if p1 < 0 then RM0 n0 xX12_refuseApart d [.ref (n0 + 0), .int (-2)] K I L (fun vv I7 L8 => ∃ r9 : Int32, vv = some (.int r9) ∧ Q (some (.long r9.toInt64)) I7 L8) else (if 1 < p1 then RM0 n0 xX12_refuseApart d [.ref (n0 + 0), .int (-2)] K I L (fun vv I20 L21 => ∃ r22 : Int32, vv = some (.int r22) ∧ Q (some (.long r22.toInt64)) I20 L21) else RM0 n0 xX1_solve d [.ref (n0 + 22), .int p0] K I L (fun vv I11 L12 => ∃ r13 : Int32, vv = some (.int r13) ∧ (if r13 = 0 then RM0 n0 xX12_refuseApart d [.ref (n0 + 0), .int (-3)] K I11 L12 (fun vv I17 L18 => ∃ r19 : Int32, vv = some (.int r19) ∧ Q (some (.long r19.toInt64)) I17 L18) else Q (some (.long (if p1 = 0 then (L12 22 3) else (L12 22 4)))) I11 L12)))) else RM0 n0 xX12_refuseApart d [.ref (n0 + 0), .int (-1)] K I L (fun vv I23 L24 => ∃ r25 : Int32, vv = some (.int r25) ∧ Q (some (.long r25.toInt64)) I23 L24)))) : RM0 n0 xX12_least (d + 1) [.ref (n0 + 0), .int p0, .int p1] K I L Q := by
  refine z_entry0 (by decide) (Nat.le_of_ble_eq_true rfl) ?_
  change Z n0 xX12_least (d + 1) 0 0 0 [(0, .ref (n0 + 0)), (1, .int p0), (2, .int p1)] [] K I L (z_q0 K Q)
  refine z_iload_n 1 dX12_least_0 rfl ?_
  refine z_if_lt 10 dX12_least_1 (by decide) (fun g1 => ?_) (fun g1 => ?_)
  · rw [if_pos g1] at h
    refine z_aload_n 0 dX12_least_10 rfl ?_
    refine z_iconst (-1) dX12_least_11 (by decide) ?_
    refine z_callV0 (As := [.int (-1)]) (st := []) dX12_least_12 hy_X12_refuseApart (co_0 hL).1 (co_0 hL).2 (by decide) wg_555 wg_557 wg_3 (Nat.le_refl _) (Nat.le_of_ble_eq_true rfl) (RM0.mono h ?_)
    clear h
    intro vv I2 L3 h
    obtain ⟨r4, rfl, h⟩ := h
    change Z n0 xX12_least (d + 1) 0 0 15 [(0, .ref (n0 + 0)), (1, .int p0), (2, .int p1)] [.int r4] K I2 L3 (z_q0 K Q)
    refine z_i2l dX12_least_15 ?_
    exact z_lret dX12_least_16 rfl ⟨rfl, h⟩
  · rw [if_neg g1] at h
    refine z_iload_n 1 dX12_least_4 rfl ?_
    refine z_bipush 6 dX12_least_5 (by decide) ?_
    refine z_icmp_lt 17 dX12_least_7 (by decide) (fun g5 => ?_) (fun g5 => ?_)
    · rw [if_pos g5] at h
      refine z_iload_n 2 dX12_least_17 rfl ?_
      refine z_if_lt 26 dX12_least_18 (by decide) (fun g6 => ?_) (fun g6 => ?_)
      · rw [if_pos g6] at h
        refine z_aload_n 0 dX12_least_26 rfl ?_
        refine z_bipush (-2) dX12_least_27 (by decide) ?_
        refine z_callV0 (As := [.int (-2)]) (st := []) dX12_least_29 hy_X12_refuseApart (co_0 hL).1 (co_0 hL).2 (by decide) wg_555 wg_557 wg_3 (Nat.le_refl _) (Nat.le_of_ble_eq_true rfl) (RM0.mono h ?_)
        clear h
        intro vv I7 L8 h
        obtain ⟨r9, rfl, h⟩ := h
        change Z n0 xX12_least (d + 1) 0 0 32 [(0, .ref (n0 + 0)), (1, .int p0), (2, .int p1)] [.int r9] K I7 L8 (z_q0 K Q)
        refine z_i2l dX12_least_32 ?_
        exact z_lret dX12_least_33 rfl ⟨rfl, h⟩
      · rw [if_neg g6] at h
        refine z_iload_n 2 dX12_least_21 rfl ?_
        refine z_iconst 1 dX12_least_22 (by decide) ?_
        refine z_icmp_le 34 dX12_least_23 (by decide) (fun g10 => ?_) (fun g10 => ?_)
        · rw [if_neg g10] at h
          refine z_aload_n 0 dX12_least_34 rfl ?_
          refine fg_12_54 (some 22) rfl dX12_least_35 (co_0 hL).1 (co_0 hL).2 (cp_22 hL) ?_
          refine z_iload_n 1 dX12_least_38 rfl ?_
          refine z_callV0 (As := [.int p0]) (st := []) dX12_least_39 hy_X1_solve (co_22 hL).1 (co_22 hL).2 (by decide) wg_1069 wg_1070 wg_1071 (Nat.le_refl _) (Nat.le_of_ble_eq_true rfl) (RM0.mono h ?_)
          clear h
          intro vv I11 L12 h
          obtain ⟨r13, rfl, h⟩ := h
          change Z n0 xX12_least (d + 1) 0 0 42 [(0, .ref (n0 + 0)), (1, .int p0), (2, .int p1)] [.int r13] K I11 L12 (z_q0 K Q)
          refine z_if_ne 53 dX12_least_42 (by decide) (fun g14 => ?_) (fun g14 => ?_)
          · rw [if_neg g14] at h
            refine z_iload_n 2 dX12_least_53 rfl ?_
            have key16 : Z n0 xX12_least (d + 1) 0 0 74 [] [.long (if p1 = 0 then (L12 22 3) else (L12 22 4))] K I11 L12 (z_q0 K Q) := by
              exact z_lret dX12_least_74 rfl ⟨rfl, h⟩
            refine z_if_ne 67 dX12_least_54 (by decide) (fun g15 => ?_) (fun g15 => ?_)
            · refine z_aload_n 0 dX12_least_67 rfl ?_
              refine fg_12_54 (some 22) rfl dX12_least_68 (co_0 hL).1 (co_0 hL).2 (cp_22 hL) ?_
              refine fg_12_318 (L12 22 4) rfl dX12_least_71 (co_22 hL).1 (co_22 hL).2 rfl ?_
              have ee : ((if p1 = 0 then (L12 22 3) else (L12 22 4)) : Int64) = (L12 22 4) := by rw [if_neg g15]
              rw [ee] at key16
              clear ee
              refine z_sub [] rfl ?_
              exact key16
            · refine z_aload_n 0 dX12_least_57 rfl ?_
              refine fg_12_54 (some 22) rfl dX12_least_58 (co_0 hL).1 (co_0 hL).2 (cp_22 hL) ?_
              refine fg_12_314 (L12 22 3) rfl dX12_least_61 (co_22 hL).1 (co_22 hL).2 rfl ?_
              refine z_goto 74 dX12_least_64 (by decide) ?_
              have ee : ((if p1 = 0 then (L12 22 3) else (L12 22 4)) : Int64) = (L12 22 3) := by rw [if_pos g15]
              rw [ee] at key16
              clear ee
              refine z_sub [] rfl ?_
              exact key16
          · rw [if_pos g14] at h
            refine z_aload_n 0 dX12_least_45 rfl ?_
            refine z_bipush (-3) dX12_least_46 (by decide) ?_
            refine z_callV0 (As := [.int (-3)]) (st := []) dX12_least_48 hy_X12_refuseApart (co_0 hL).1 (co_0 hL).2 (by decide) wg_555 wg_557 wg_3 (Nat.le_refl _) (Nat.le_of_ble_eq_true rfl) (RM0.mono h ?_)
            clear h
            intro vv I17 L18 h
            obtain ⟨r19, rfl, h⟩ := h
            change Z n0 xX12_least (d + 1) 0 0 51 [(0, .ref (n0 + 0)), (1, .int p0), (2, .int p1)] [.int r19] K I17 L18 (z_q0 K Q)
            refine z_i2l dX12_least_51 ?_
            exact z_lret dX12_least_52 rfl ⟨rfl, h⟩
        · rw [if_pos g10] at h
          refine z_aload_n 0 dX12_least_26 rfl ?_
          refine z_bipush (-2) dX12_least_27 (by decide) ?_
          refine z_callV0 (As := [.int (-2)]) (st := []) dX12_least_29 hy_X12_refuseApart (co_0 hL).1 (co_0 hL).2 (by decide) wg_555 wg_557 wg_3 (Nat.le_refl _) (Nat.le_of_ble_eq_true rfl) (RM0.mono h ?_)
          clear h
          intro vv I20 L21 h
          obtain ⟨r22, rfl, h⟩ := h
          change Z n0 xX12_least (d + 1) 0 0 32 [(0, .ref (n0 + 0)), (1, .int p0), (2, .int p1)] [.int r22] K I20 L21 (z_q0 K Q)
          refine z_i2l dX12_least_32 ?_
          exact z_lret dX12_least_33 rfl ⟨rfl, h⟩
    · rw [if_neg g5] at h
      refine z_aload_n 0 dX12_least_10 rfl ?_
      refine z_iconst (-1) dX12_least_11 (by decide) ?_
      refine z_callV0 (As := [.int (-1)]) (st := []) dX12_least_12 hy_X12_refuseApart (co_0 hL).1 (co_0 hL).2 (by decide) wg_555 wg_557 wg_3 (Nat.le_refl _) (Nat.le_of_ble_eq_true rfl) (RM0.mono h ?_)
      clear h
      intro vv I23 L24 h
      obtain ⟨r25, rfl, h⟩ := h
      change Z n0 xX12_least (d + 1) 0 0 15 [(0, .ref (n0 + 0)), (1, .int p0), (2, .int p1)] [.int r25] K I23 L24 (z_q0 K Q)
      refine z_i2l dX12_least_15 ?_
      exact z_lret dX12_least_16 rfl ⟨rfl, h⟩
theorem dX12_cloth_0 : decode cX12_cloth 0 = .ok (.iload_n 1, 1) := by decide +kernel
theorem dX12_cloth_1 : decode cX12_cloth 1 = .ok (.ifCond .lt 9, 3) := by decide +kernel
theorem dX12_cloth_4 : decode cX12_cloth 4 = .ok (.iload_n 1, 1) := by decide +kernel
theorem dX12_cloth_5 : decode cX12_cloth 5 = .ok (.bipush 6, 2) := by decide +kernel
theorem dX12_cloth_7 : decode cX12_cloth 7 = .ok (.if_icmp .lt 10, 3) := by decide +kernel
theorem dX12_cloth_10 : decode cX12_cloth 10 = .ok (.aload_n 0, 1) := by decide +kernel
theorem dX12_cloth_11 : decode cX12_cloth 11 = .ok (.bipush (-2), 2) := by decide +kernel
theorem dX12_cloth_13 : decode cX12_cloth 13 = .ok (.invokevirtual 85, 3) := by decide +kernel
theorem dX12_cloth_16 : decode cX12_cloth 16 = .ok (.ireturn, 1) := by decide +kernel
theorem dX12_cloth_17 : decode cX12_cloth 17 = .ok (.iload_n 2, 1) := by decide +kernel
theorem dX12_cloth_18 : decode cX12_cloth 18 = .ok (.getstatic 321, 3) := by decide +kernel
theorem dX12_cloth_21 : decode cX12_cloth 21 = .ok (.iload_n 1, 1) := by decide +kernel
theorem dX12_cloth_22 : decode cX12_cloth 22 = .ok (.iaload, 1) := by decide +kernel
theorem dX12_cloth_23 : decode cX12_cloth 23 = .ok (.getstatic 324, 3) := by decide +kernel
theorem dX12_cloth_26 : decode cX12_cloth 26 = .ok (.iload_n 1, 1) := by decide +kernel
theorem dX12_cloth_27 : decode cX12_cloth 27 = .ok (.iaload, 1) := by decide +kernel
theorem dX12_cloth_28 : decode cX12_cloth 28 = .ok (.invokestatic 100, 3) := by decide +kernel
theorem dX12_cloth_31 : decode cX12_cloth 31 = .ok (.istore_n 3, 1) := by decide +kernel
theorem dX12_cloth_32 : decode cX12_cloth 32 = .ok (.iload_n 3, 1) := by decide +kernel
theorem dX12_cloth_33 : decode cX12_cloth 33 = .ok (.ifCond .eq 9, 3) := by decide +kernel
theorem dX12_cloth_36 : decode cX12_cloth 36 = .ok (.aload_n 0, 1) := by decide +kernel
theorem dX12_cloth_37 : decode cX12_cloth 37 = .ok (.iload_n 3, 1) := by decide +kernel
theorem dX12_cloth_38 : decode cX12_cloth 38 = .ok (.invokevirtual 85, 3) := by decide +kernel
theorem dX12_cloth_41 : decode cX12_cloth 41 = .ok (.ireturn, 1) := by decide +kernel
theorem dX12_cloth_42 : decode cX12_cloth 42 = .ok (.aload_n 0, 1) := by decide +kernel
theorem dX12_cloth_43 : decode cX12_cloth 43 = .ok (.getfield 61, 3) := by decide +kernel
theorem dX12_cloth_46 : decode cX12_cloth 46 = .ok (.getfield 327, 3) := by decide +kernel
theorem dX12_cloth_49 : decode cX12_cloth 49 = .ok (.iload_n 1, 1) := by decide +kernel
theorem dX12_cloth_50 : decode cX12_cloth 50 = .ok (.iaload, 1) := by decide +kernel
theorem dX12_cloth_51 : decode cX12_cloth 51 = .ok (.istore 4, 2) := by decide +kernel
theorem dX12_cloth_53 : decode cX12_cloth 53 = .ok (.aload_n 0, 1) := by decide +kernel
theorem dX12_cloth_54 : decode cX12_cloth 54 = .ok (.getfield 61, 3) := by decide +kernel
theorem dX12_cloth_57 : decode cX12_cloth 57 = .ok (.getfield 327, 3) := by decide +kernel
theorem dX12_cloth_60 : decode cX12_cloth 60 = .ok (.iload_n 1, 1) := by decide +kernel
theorem dX12_cloth_61 : decode cX12_cloth 61 = .ok (.iload_n 2, 1) := by decide +kernel
theorem dX12_cloth_62 : decode cX12_cloth 62 = .ok (.iastore, 1) := by decide +kernel
theorem dX12_cloth_63 : decode cX12_cloth 63 = .ok (.iload 4, 2) := by decide +kernel
theorem dX12_cloth_65 : decode cX12_cloth 65 = .ok (.ireturn, 1) := by decide +kernel
set_option maxRecDepth 100000 in
set_option maxHeartbeats 4000000 in
theorem wp_X12_cloth {n0 d : Nat} {K : z_K} {I : z_I} {L : z_L} {Q : z_q} {p0 : Int32} {p1 : Int32} (hL : CLay K) (h : (if p0 < 0 then RM0 n0 xX12_refuse d [.ref (n0 + 0), .int (-2)] K I L (fun vv I2 L3 => ∃ r4 : Int32, vv = some (.int r4) ∧ Q (some (.int r4)) I2 L3) else (if p0 < 6 then vp_in p0 6 ∧ RM0 n0 xX12_outside d [.int p1, .int (z_sf 1 p0.toNatClampNeg), .int (z_sf 2 p0.toNatClampNeg)] K I L (fun vv I7 L8 => ∃ r9 : Int32, vv = some (.int r9) ∧ (if r9 = 0 then Q (some (.int (I7 26 p0.toNatClampNeg))) (zI I7 26 p0.toNatClampNeg p1) L8 else RM0 n0 xX12_refuse d [.ref (n0 + 0), .int r9] K I7 L8 (fun vv I11 L12 => ∃ r13 : Int32, vv = some (.int r13) ∧ Q (some (.int r13)) I11 L12))) else RM0 n0 xX12_refuse d [.ref (n0 + 0), .int (-2)] K I L (fun vv I14 L15 => ∃ r16 : Int32, vv = some (.int r16) ∧ Q (some (.int r16)) I14 L15)))) : RM0 n0 xX12_cloth (d + 1) [.ref (n0 + 0), .int p0, .int p1] K I L Q := by
  refine z_entry0 (by decide) (Nat.le_of_ble_eq_true rfl) ?_
  change Z n0 xX12_cloth (d + 1) 0 0 0 [(0, .ref (n0 + 0)), (1, .int p0), (2, .int p1)] [] K I L (z_q0 K Q)
  refine z_iload_n 1 dX12_cloth_0 rfl ?_
  refine z_if_lt 10 dX12_cloth_1 (by decide) (fun g1 => ?_) (fun g1 => ?_)
  · rw [if_pos g1] at h
    refine z_aload_n 0 dX12_cloth_10 rfl ?_
    refine z_bipush (-2) dX12_cloth_11 (by decide) ?_
    refine z_callV0 (As := [.int (-2)]) (st := []) dX12_cloth_13 hy_X12_refuse (co_0 hL).1 (co_0 hL).2 (by decide) wg_462 wg_464 wg_0 (Nat.le_refl _) (Nat.le_of_ble_eq_true rfl) (RM0.mono h ?_)
    clear h
    intro vv I2 L3 h
    obtain ⟨r4, rfl, h⟩ := h
    change Z n0 xX12_cloth (d + 1) 0 0 16 [(0, .ref (n0 + 0)), (1, .int p0), (2, .int p1)] [.int r4] K I2 L3 (z_q0 K Q)
    exact z_iret dX12_cloth_16 rfl ⟨rfl, h⟩
  · rw [if_neg g1] at h
    refine z_iload_n 1 dX12_cloth_4 rfl ?_
    refine z_bipush 6 dX12_cloth_5 (by decide) ?_
    refine z_icmp_lt 17 dX12_cloth_7 (by decide) (fun g5 => ?_) (fun g5 => ?_)
    · rw [if_pos g5] at h
      refine z_iload_n 2 dX12_cloth_17 rfl ?_
      obtain ⟨o6, h⟩ := h
      refine z_sgl 1 1 dX12_cloth_18 dX12_cloth_21 dX12_cloth_22 (by decide) wg_1094 rfl o6 ?_
      refine z_sgl 2 1 dX12_cloth_23 dX12_cloth_26 dX12_cloth_27 (by decide) wg_1096 rfl o6 ?_
      refine z_callS0 (As := [.int p1, .int (z_sf 1 p0.toNatClampNeg), .int (z_sf 2 p0.toNatClampNeg)]) (st := []) dX12_cloth_28 hy_X12_outside wg_476 wg_477 (Nat.le_refl _) (Nat.le_of_ble_eq_true rfl) (RM0.mono h ?_)
      clear h
      intro vv I7 L8 h
      obtain ⟨r9, rfl, h⟩ := h
      change Z n0 xX12_cloth (d + 1) 0 0 31 [(0, .ref (n0 + 0)), (1, .int p0), (2, .int p1)] [.int r9] K I7 L8 (z_q0 K Q)
      refine z_istore_n [1, 2, 3, 0] [(0, .ref (n0 + 0)), (1, .int p0), (2, .int p1), (3, .int r9)] dX12_cloth_31 (by decide) rfl ?_
      refine z_iload_n 3 dX12_cloth_32 rfl ?_
      refine z_if_eq 42 dX12_cloth_33 (by decide) (fun g10 => ?_) (fun g10 => ?_)
      · rw [if_pos g10] at h
        refine z_aload_n 0 dX12_cloth_42 rfl ?_
        refine fg_12_61 (some 25) rfl dX12_cloth_43 (co_0 hL).1 (co_0 hL).2 (cp_25 hL) ?_
        refine fg_12_327 (some 26) rfl dX12_cloth_46 (co_25 hL).1 (co_25 hL).2 (ca_26 hL).1 ?_
        refine z_iload_n 1 dX12_cloth_49 rfl ?_
        refine z_iald (I7 26 p0.toNatClampNeg) dX12_cloth_50 (ca_26 hL).2.1 (ca_26 hL).2.2 o6 rfl ?_
        refine z_istore [1, 2, 3, 4, 0] [(0, .ref (n0 + 0)), (1, .int p0), (2, .int p1), (3, .int r9), (4, .int (I7 26 p0.toNatClampNeg))] dX12_cloth_51 (by decide) rfl ?_
        refine z_aload_n 0 dX12_cloth_53 rfl ?_
        refine fg_12_61 (some 25) rfl dX12_cloth_54 (co_0 hL).1 (co_0 hL).2 (cp_25 hL) ?_
        refine fg_12_327 (some 26) rfl dX12_cloth_57 (co_25 hL).1 (co_25 hL).2 (ca_26 hL).1 ?_
        refine z_iload_n 1 dX12_cloth_60 rfl ?_
        refine z_iload_n 2 dX12_cloth_61 rfl ?_
        refine z_iast dX12_cloth_62 (ca_26 hL).2.1 (ca_26 hL).2.2 o6 ?_
        refine z_iload 4 dX12_cloth_63 rfl ?_
        exact z_iret dX12_cloth_65 rfl ⟨rfl, h⟩
      · rw [if_neg g10] at h
        refine z_aload_n 0 dX12_cloth_36 rfl ?_
        refine z_iload_n 3 dX12_cloth_37 rfl ?_
        refine z_callV0 (As := [.int r9]) (st := []) dX12_cloth_38 hy_X12_refuse (co_0 hL).1 (co_0 hL).2 (by decide) wg_462 wg_464 wg_0 (Nat.le_refl _) (Nat.le_of_ble_eq_true rfl) (RM0.mono h ?_)
        clear h
        intro vv I11 L12 h
        obtain ⟨r13, rfl, h⟩ := h
        change Z n0 xX12_cloth (d + 1) 0 0 41 [(0, .ref (n0 + 0)), (1, .int p0), (2, .int p1), (3, .int r9)] [.int r13] K I11 L12 (z_q0 K Q)
        exact z_iret dX12_cloth_41 rfl ⟨rfl, h⟩
    · rw [if_neg g5] at h
      refine z_aload_n 0 dX12_cloth_10 rfl ?_
      refine z_bipush (-2) dX12_cloth_11 (by decide) ?_
      refine z_callV0 (As := [.int (-2)]) (st := []) dX12_cloth_13 hy_X12_refuse (co_0 hL).1 (co_0 hL).2 (by decide) wg_462 wg_464 wg_0 (Nat.le_refl _) (Nat.le_of_ble_eq_true rfl) (RM0.mono h ?_)
      clear h
      intro vv I14 L15 h
      obtain ⟨r16, rfl, h⟩ := h
      change Z n0 xX12_cloth (d + 1) 0 0 16 [(0, .ref (n0 + 0)), (1, .int p0), (2, .int p1)] [.int r16] K I14 L15 (z_q0 K Q)
      exact z_iret dX12_cloth_16 rfl ⟨rfl, h⟩
theorem dX12_cells_0 : decode cX12_cells 0 = .ok (.aload_n 0, 1) := by decide +kernel
theorem dX12_cells_1 : decode cX12_cells 1 = .ok (.iload_n 1, 1) := by decide +kernel
theorem dX12_cells_2 : decode cX12_cells 2 = .ok (.invokevirtual 136, 3) := by decide +kernel
theorem dX12_cells_5 : decode cX12_cells 5 = .ok (.astore 4, 2) := by decide +kernel
theorem dX12_cells_7 : decode cX12_cells 7 = .ok (.aload 4, 2) := by decide +kernel
theorem dX12_cells_9 : decode cX12_cells 9 = .ok (.ifnull 10, 3) := by decide +kernel
theorem dX12_cells_12 : decode cX12_cells 12 = .ok (.iload_n 2, 1) := by decide +kernel
theorem dX12_cells_13 : decode cX12_cells 13 = .ok (.invokestatic 97, 3) := by decide +kernel
theorem dX12_cells_16 : decode cX12_cells 16 = .ok (.ifCond .ne 9, 3) := by decide +kernel
theorem dX12_cells_19 : decode cX12_cells 19 = .ok (.aload_n 0, 1) := by decide +kernel
theorem dX12_cells_20 : decode cX12_cells 20 = .ok (.iconst (-1), 1) := by decide +kernel
theorem dX12_cells_21 : decode cX12_cells 21 = .ok (.invokevirtual 85, 3) := by decide +kernel
theorem dX12_cells_24 : decode cX12_cells 24 = .ok (.ireturn, 1) := by decide +kernel
theorem dX12_cells_25 : decode cX12_cells 25 = .ok (.iload_n 3, 1) := by decide +kernel
theorem dX12_cells_26 : decode cX12_cells 26 = .ok (.iconst 0, 1) := by decide +kernel
theorem dX12_cells_27 : decode cX12_cells 27 = .ok (.sipush 1000, 3) := by decide +kernel
theorem dX12_cells_30 : decode cX12_cells 30 = .ok (.invokestatic 100, 3) := by decide +kernel
theorem dX12_cells_33 : decode cX12_cells 33 = .ok (.istore 5, 2) := by decide +kernel
theorem dX12_cells_35 : decode cX12_cells 35 = .ok (.iload 5, 2) := by decide +kernel
theorem dX12_cells_37 : decode cX12_cells 37 = .ok (.ifCond .eq 10, 3) := by decide +kernel
theorem dX12_cells_40 : decode cX12_cells 40 = .ok (.aload_n 0, 1) := by decide +kernel
theorem dX12_cells_41 : decode cX12_cells 41 = .ok (.iload 5, 2) := by decide +kernel
theorem dX12_cells_43 : decode cX12_cells 43 = .ok (.invokevirtual 85, 3) := by decide +kernel
theorem dX12_cells_46 : decode cX12_cells 46 = .ok (.ireturn, 1) := by decide +kernel
theorem dX12_cells_47 : decode cX12_cells 47 = .ok (.aload_n 0, 1) := by decide +kernel
theorem dX12_cells_48 : decode cX12_cells 48 = .ok (.iload_n 2, 1) := by decide +kernel
theorem dX12_cells_49 : decode cX12_cells 49 = .ok (.iload_n 3, 1) := by decide +kernel
theorem dX12_cells_50 : decode cX12_cells 50 = .ok (.invokevirtual 231, 3) := by decide +kernel
theorem dX12_cells_53 : decode cX12_cells 53 = .ok (.aload_n 0, 1) := by decide +kernel
theorem dX12_cells_54 : decode cX12_cells 54 = .ok (.getfield 41, 3) := by decide +kernel
theorem dX12_cells_57 : decode cX12_cells 57 = .ok (.aload 4, 2) := by decide +kernel
theorem dX12_cells_59 : decode cX12_cells 59 = .ok (.invokevirtual 235, 3) := by decide +kernel
theorem dX12_cells_62 : decode cX12_cells 62 = .ok (.ifCond .ne 10, 3) := by decide +kernel
theorem dX12_cells_65 : decode cX12_cells 65 = .ok (.aload_n 0, 1) := by decide +kernel
theorem dX12_cells_66 : decode cX12_cells 66 = .ok (.bipush (-7), 2) := by decide +kernel
theorem dX12_cells_68 : decode cX12_cells 68 = .ok (.invokevirtual 85, 3) := by decide +kernel
theorem dX12_cells_71 : decode cX12_cells 71 = .ok (.ireturn, 1) := by decide +kernel
theorem dX12_cells_72 : decode cX12_cells 72 = .ok (.aload_n 0, 1) := by decide +kernel
theorem dX12_cells_73 : decode cX12_cells 73 = .ok (.getfield 68, 3) := by decide +kernel
theorem dX12_cells_76 : decode cX12_cells 76 = .ok (.aload_n 0, 1) := by decide +kernel
theorem dX12_cells_77 : decode cX12_cells 77 = .ok (.getfield 41, 3) := by decide +kernel
theorem dX12_cells_80 : decode cX12_cells 80 = .ok (.aload 4, 2) := by decide +kernel
theorem dX12_cells_82 : decode cX12_cells 82 = .ok (.aload_n 0, 1) := by decide +kernel
theorem dX12_cells_83 : decode cX12_cells 83 = .ok (.getfield 61, 3) := by decide +kernel
theorem dX12_cells_86 : decode cX12_cells 86 = .ok (.getfield 327, 3) := by decide +kernel
theorem dX12_cells_89 : decode cX12_cells 89 = .ok (.iconst 1, 1) := by decide +kernel
theorem dX12_cells_90 : decode cX12_cells 90 = .ok (.iaload, 1) := by decide +kernel
theorem dX12_cells_91 : decode cX12_cells 91 = .ok (.invokevirtual 330, 3) := by decide +kernel
theorem dX12_cells_94 : decode cX12_cells 94 = .ok (.ireturn, 1) := by decide +kernel
set_option maxRecDepth 100000 in
set_option maxHeartbeats 4000000 in
theorem wp_X12_cells {n0 d : Nat} {K : z_K} {I : z_I} {L : z_L} {Q : z_R} {p0 : Int32} {p1 : Int32} {p2 : Int32} (hL : CLay K) (h : RM0 n0 xX12_pieceOf d [.ref (n0 + 0), .int p0] K I L (fun vv I1 L2 => ∃ r3 : Option Nat, vv = some (zr n0 r3) ∧ ((r3 = none → RM0 n0 xX12_refuse d [.ref (n0 + 0), .int (-1)] K I1 L2 (fun vv I6 L7 => ∃ r8 : Int32, vv = some (.int r8) ∧ Q (some (.int r8)) K I6 L7)) ∧ (∀ q5, r3 = some q5 → RM0 n0 xX12_isSize d [.int p1] K I1 L2 (fun vv I9 L10 => ∃ r11 : Int32, vv = some (.int r11) ∧ (if r11 = 0 then RM0 n0 xX12_refuse d [.ref (n0 + 0), .int (-1)] K I9 L10 (fun vv I36 L37 => ∃ r38 : Int32, vv = some (.int r38) ∧ Q (some (.int r38)) K I36 L37) else RM0 n0 xX12_outside d [.int p2, .int 0, .int 1000] K I9 L10 (fun vv I13 L14 => ∃ r15 : Int32, vv = some (.int r15) ∧ (if r15 = 0 then RM n0 xX12_drawAt d 0 0 [.ref (n0 + 0), .int p1, .int p2] K I13 L14 (fun vv K19 I17 L18 => vv = none ∧ CLay K19 ∧ RM n0 xX2_sound d 0 0 [.ref (n0 + 8), .ref (n0 + q5)] K19 I17 L18 (fun vv K23 I21 L22 => ∃ r24 : Int32, vv = some (.int r24) ∧ CLay K23 ∧ (if r24 = 0 then RM0 n0 xX12_refuse d [.ref (n0 + 0), .int (-7)] K23 I21 L22 (fun vv I30 L31 => ∃ r32 : Int32, vv = some (.int r32) ∧ Q (some (.int r32)) K23 I30 L31) else RM0 n0 xX10_cover d [.ref (n0 + 48), .ref (n0 + 8), .ref (n0 + q5), .int (I21 26 1)] K23 I21 L22 (fun vv I27 L28 => ∃ r29 : Int32, vv = some (.int r29) ∧ Q (some (.int r29)) K23 I27 L28)))) else RM0 n0 xX12_refuse d [.ref (n0 + 0), .int r15] K I13 L14 (fun vv I33 L34 => ∃ r35 : Int32, vv = some (.int r35) ∧ Q (some (.int r35)) K I33 L34))))))))) : RM n0 xX12_cells (d + 1) 0 0 [.ref (n0 + 0), .int p0, .int p1, .int p2] K I L Q := by
  refine z_entry (by decide) (Nat.le_of_ble_eq_true rfl) ?_
  change Z n0 xX12_cells (d + 1) 0 0 0 [(0, .ref (n0 + 0)), (1, .int p0), (2, .int p1), (3, .int p2)] [] K I L Q
  refine z_aload_n 0 dX12_cells_0 rfl ?_
  refine z_iload_n 1 dX12_cells_1 rfl ?_
  refine z_callV0 (As := [.int p0]) (st := []) dX12_cells_2 hy_X12_pieceOf (co_0 hL).1 (co_0 hL).2 (by decide) wg_572 wg_574 wg_5 (Nat.le_refl _) (Nat.le_of_ble_eq_true rfl) (RM0.mono h ?_)
  clear h
  intro vv I1 L2 h
  obtain ⟨r3, rfl, h⟩ := h
  change Z n0 xX12_cells (d + 1) 0 0 5 [(0, .ref (n0 + 0)), (1, .int p0), (2, .int p1), (3, .int p2)] [zr n0 r3] K I1 L2 Q
  refine z_astoreO [1, 2, 3, 4, 0] [(0, .ref (n0 + 0)), (1, .int p0), (2, .int p1), (3, .int p2), (4, zr n0 r3)] dX12_cells_5 (by decide) (fun v hv => by subst hv; rfl) ?_
  refine z_aloadO 4 dX12_cells_7 rfl ?_
  refine z_ifnull 19 dX12_cells_9 (by decide) (fun g4 => ?_) (fun q5 g4 => ?_)
  · replace h := h.1 g4
    subst g4
    change Z n0 xX12_cells (d + 1) 0 0 19 [(0, .ref (n0 + 0)), (1, .int p0), (2, .int p1), (3, .int p2), (4, .null)] [] K I1 L2 Q
    refine z_aload_n 0 dX12_cells_19 rfl ?_
    refine z_iconst (-1) dX12_cells_20 (by decide) ?_
    refine z_callV0 (As := [.int (-1)]) (st := []) dX12_cells_21 hy_X12_refuse (co_0 hL).1 (co_0 hL).2 (by decide) wg_462 wg_464 wg_0 (Nat.le_refl _) (Nat.le_of_ble_eq_true rfl) (RM0.mono h ?_)
    clear h
    intro vv I6 L7 h
    obtain ⟨r8, rfl, h⟩ := h
    change Z n0 xX12_cells (d + 1) 0 0 24 [(0, .ref (n0 + 0)), (1, .int p0), (2, .int p1), (3, .int p2), (4, .null)] [.int r8] K I6 L7 Q
    exact z_iret dX12_cells_24 rfl h
  · replace h := h.2 q5 g4
    subst g4
    change Z n0 xX12_cells (d + 1) 0 0 12 [(0, .ref (n0 + 0)), (1, .int p0), (2, .int p1), (3, .int p2), (4, .ref (n0 + q5))] [] K I1 L2 Q
    refine z_iload_n 2 dX12_cells_12 rfl ?_
    refine z_callS0 (As := [.int p1]) (st := []) dX12_cells_13 hy_X12_isSize wg_473 wg_474 (Nat.le_refl _) (Nat.le_of_ble_eq_true rfl) (RM0.mono h ?_)
    clear h
    intro vv I9 L10 h
    obtain ⟨r11, rfl, h⟩ := h
    change Z n0 xX12_cells (d + 1) 0 0 16 [(0, .ref (n0 + 0)), (1, .int p0), (2, .int p1), (3, .int p2), (4, .ref (n0 + q5))] [.int r11] K I9 L10 Q
    refine z_if_ne 25 dX12_cells_16 (by decide) (fun g12 => ?_) (fun g12 => ?_)
    · rw [if_neg g12] at h
      refine z_iload_n 3 dX12_cells_25 rfl ?_
      refine z_iconst 0 dX12_cells_26 (by decide) ?_
      refine z_sipush 1000 dX12_cells_27 (by decide) ?_
      refine z_callS0 (As := [.int p2, .int 0, .int 1000]) (st := []) dX12_cells_30 hy_X12_outside wg_476 wg_477 (Nat.le_refl _) (Nat.le_of_ble_eq_true rfl) (RM0.mono h ?_)
      clear h
      intro vv I13 L14 h
      obtain ⟨r15, rfl, h⟩ := h
      change Z n0 xX12_cells (d + 1) 0 0 33 [(0, .ref (n0 + 0)), (1, .int p0), (2, .int p1), (3, .int p2), (4, .ref (n0 + q5))] [.int r15] K I13 L14 Q
      refine z_istore [1, 2, 3, 4, 5, 0] [(0, .ref (n0 + 0)), (1, .int p0), (2, .int p1), (3, .int p2), (4, .ref (n0 + q5)), (5, .int r15)] dX12_cells_33 (by decide) rfl ?_
      refine z_iload 5 dX12_cells_35 rfl ?_
      refine z_if_eq 47 dX12_cells_37 (by decide) (fun g16 => ?_) (fun g16 => ?_)
      · rw [if_pos g16] at h
        refine z_aload_n 0 dX12_cells_47 rfl ?_
        refine z_iload_n 2 dX12_cells_48 rfl ?_
        refine z_iload_n 3 dX12_cells_49 rfl ?_
        refine z_callV (rc := 0) (rs := 0) (mc1 := 0) (ms1 := 0) (As := [.int p1, .int p2]) (st := []) dX12_cells_50 hy_X12_drawAt (co_0 hL).1 (co_0 hL).2 (by decide) wg_831 wg_833 wg_19 (Nat.le_refl _) (Nat.le_of_ble_eq_true rfl) (RM.mono h ?_)
        clear h
        intro vv K19 I17 L18 h
        obtain ⟨rfl, h⟩ := h
        obtain ⟨hL20, h⟩ := h
        change Z n0 xX12_cells (d + 1) 0 0 53 [(0, .ref (n0 + 0)), (1, .int p0), (2, .int p1), (3, .int p2), (4, .ref (n0 + q5)), (5, .int r15)] [] K19 I17 L18 Q
        refine z_aload_n 0 dX12_cells_53 rfl ?_
        refine fg_12_41 (some 8) rfl dX12_cells_54 (co_0 hL20).1 (co_0 hL20).2 (cp_8 hL20) ?_
        refine z_aload 4 dX12_cells_57 rfl ?_
        refine z_callV (rc := 0) (rs := 0) (mc1 := 0) (ms1 := 0) (As := [.ref (n0 + q5)]) (st := []) dX12_cells_59 hy_X2_sound (co_8 hL20).1 (co_8 hL20).2 (by decide) wg_839 wg_840 wg_841 (Nat.le_refl _) (Nat.le_of_ble_eq_true rfl) (RM.mono h ?_)
        clear h
        intro vv K23 I21 L22 h
        obtain ⟨r24, rfl, h⟩ := h
        obtain ⟨hL25, h⟩ := h
        change Z n0 xX12_cells (d + 1) 0 0 62 [(0, .ref (n0 + 0)), (1, .int p0), (2, .int p1), (3, .int p2), (4, .ref (n0 + q5)), (5, .int r15)] [.int r24] K23 I21 L22 Q
        refine z_if_ne 72 dX12_cells_62 (by decide) (fun g26 => ?_) (fun g26 => ?_)
        · rw [if_neg g26] at h
          refine z_aload_n 0 dX12_cells_72 rfl ?_
          refine fg_12_68 (some 48) rfl dX12_cells_73 (co_0 hL25).1 (co_0 hL25).2 (cp_48 hL25) ?_
          refine z_aload_n 0 dX12_cells_76 rfl ?_
          refine fg_12_41 (some 8) rfl dX12_cells_77 (co_0 hL25).1 (co_0 hL25).2 (cp_8 hL25) ?_
          refine z_aload 4 dX12_cells_80 rfl ?_
          refine z_aload_n 0 dX12_cells_82 rfl ?_
          refine fg_12_61 (some 25) rfl dX12_cells_83 (co_0 hL25).1 (co_0 hL25).2 (cp_25 hL25) ?_
          refine fg_12_327 (some 26) rfl dX12_cells_86 (co_25 hL25).1 (co_25 hL25).2 (ca_26 hL25).1 ?_
          refine z_iconst 1 dX12_cells_89 (by decide) ?_
          refine z_iald (I21 26 1) dX12_cells_90 (ca_26 hL25).2.1 (ca_26 hL25).2.2 (by unfold vp_in; decide) rfl ?_
          refine z_callV0 (As := [.ref (n0 + 8), .ref (n0 + q5), .int (I21 26 1)]) (st := []) dX12_cells_91 hy_X10_cover (co_48 hL25).1 (co_48 hL25).2 (by decide) wg_1102 wg_1103 wg_1104 (Nat.le_refl _) (Nat.le_of_ble_eq_true rfl) (RM0.mono h ?_)
          clear h
          intro vv I27 L28 h
          obtain ⟨r29, rfl, h⟩ := h
          change Z n0 xX12_cells (d + 1) 0 0 94 [(0, .ref (n0 + 0)), (1, .int p0), (2, .int p1), (3, .int p2), (4, .ref (n0 + q5)), (5, .int r15)] [.int r29] K23 I27 L28 Q
          exact z_iret dX12_cells_94 rfl h
        · rw [if_pos g26] at h
          refine z_aload_n 0 dX12_cells_65 rfl ?_
          refine z_bipush (-7) dX12_cells_66 (by decide) ?_
          refine z_callV0 (As := [.int (-7)]) (st := []) dX12_cells_68 hy_X12_refuse (co_0 hL25).1 (co_0 hL25).2 (by decide) wg_462 wg_464 wg_0 (Nat.le_refl _) (Nat.le_of_ble_eq_true rfl) (RM0.mono h ?_)
          clear h
          intro vv I30 L31 h
          obtain ⟨r32, rfl, h⟩ := h
          change Z n0 xX12_cells (d + 1) 0 0 71 [(0, .ref (n0 + 0)), (1, .int p0), (2, .int p1), (3, .int p2), (4, .ref (n0 + q5)), (5, .int r15)] [.int r32] K23 I30 L31 Q
          exact z_iret dX12_cells_71 rfl h
      · rw [if_neg g16] at h
        refine z_aload_n 0 dX12_cells_40 rfl ?_
        refine z_iload 5 dX12_cells_41 rfl ?_
        refine z_callV0 (As := [.int r15]) (st := []) dX12_cells_43 hy_X12_refuse (co_0 hL).1 (co_0 hL).2 (by decide) wg_462 wg_464 wg_0 (Nat.le_refl _) (Nat.le_of_ble_eq_true rfl) (RM0.mono h ?_)
        clear h
        intro vv I33 L34 h
        obtain ⟨r35, rfl, h⟩ := h
        change Z n0 xX12_cells (d + 1) 0 0 46 [(0, .ref (n0 + 0)), (1, .int p0), (2, .int p1), (3, .int p2), (4, .ref (n0 + q5)), (5, .int r15)] [.int r35] K I33 L34 Q
        exact z_iret dX12_cells_46 rfl h
    · rw [if_pos g12] at h
      refine z_aload_n 0 dX12_cells_19 rfl ?_
      refine z_iconst (-1) dX12_cells_20 (by decide) ?_
      refine z_callV0 (As := [.int (-1)]) (st := []) dX12_cells_21 hy_X12_refuse (co_0 hL).1 (co_0 hL).2 (by decide) wg_462 wg_464 wg_0 (Nat.le_refl _) (Nat.le_of_ble_eq_true rfl) (RM0.mono h ?_)
      clear h
      intro vv I36 L37 h
      obtain ⟨r38, rfl, h⟩ := h
      change Z n0 xX12_cells (d + 1) 0 0 24 [(0, .ref (n0 + 0)), (1, .int p0), (2, .int p1), (3, .int p2), (4, .ref (n0 + q5))] [.int r38] K I36 L37 Q
      exact z_iret dX12_cells_24 rfl h
theorem dX12_lays_0 : decode cX12_lays 0 = .ok (.aload_n 0, 1) := by decide +kernel
theorem dX12_lays_1 : decode cX12_lays 1 = .ok (.iload_n 1, 1) := by decide +kernel
theorem dX12_lays_2 : decode cX12_lays 2 = .ok (.invokevirtual 136, 3) := by decide +kernel
theorem dX12_lays_5 : decode cX12_lays 5 = .ok (.astore_n 3, 1) := by decide +kernel
theorem dX12_lays_6 : decode cX12_lays 6 = .ok (.aload_n 3, 1) := by decide +kernel
theorem dX12_lays_7 : decode cX12_lays 7 = .ok (.ifnull 10, 3) := by decide +kernel
theorem dX12_lays_10 : decode cX12_lays 10 = .ok (.iload_n 2, 1) := by decide +kernel
theorem dX12_lays_11 : decode cX12_lays 11 = .ok (.invokestatic 97, 3) := by decide +kernel
theorem dX12_lays_14 : decode cX12_lays 14 = .ok (.ifCond .ne 9, 3) := by decide +kernel
theorem dX12_lays_17 : decode cX12_lays 17 = .ok (.aload_n 0, 1) := by decide +kernel
theorem dX12_lays_18 : decode cX12_lays 18 = .ok (.iconst (-1), 1) := by decide +kernel
theorem dX12_lays_19 : decode cX12_lays 19 = .ok (.invokevirtual 85, 3) := by decide +kernel
theorem dX12_lays_22 : decode cX12_lays 22 = .ok (.ireturn, 1) := by decide +kernel
theorem dX12_lays_23 : decode cX12_lays 23 = .ok (.aload_n 0, 1) := by decide +kernel
theorem dX12_lays_24 : decode cX12_lays 24 = .ok (.getfield 61, 3) := by decide +kernel
theorem dX12_lays_27 : decode cX12_lays 27 = .ok (.getfield 334, 3) := by decide +kernel
theorem dX12_lays_30 : decode cX12_lays 30 = .ok (.iconst 4, 1) := by decide +kernel
theorem dX12_lays_31 : decode cX12_lays 31 = .ok (.if_icmp .lt 10, 3) := by decide +kernel
theorem dX12_lays_34 : decode cX12_lays 34 = .ok (.aload_n 0, 1) := by decide +kernel
theorem dX12_lays_35 : decode cX12_lays 35 = .ok (.bipush (-6), 2) := by decide +kernel
theorem dX12_lays_37 : decode cX12_lays 37 = .ok (.invokevirtual 85, 3) := by decide +kernel
theorem dX12_lays_40 : decode cX12_lays 40 = .ok (.ireturn, 1) := by decide +kernel
theorem dX12_lays_41 : decode cX12_lays 41 = .ok (.aload_n 0, 1) := by decide +kernel
theorem dX12_lays_42 : decode cX12_lays 42 = .ok (.getfield 61, 3) := by decide +kernel
theorem dX12_lays_45 : decode cX12_lays 45 = .ok (.aload_n 3, 1) := by decide +kernel
theorem dX12_lays_46 : decode cX12_lays 46 = .ok (.iload_n 2, 1) := by decide +kernel
theorem dX12_lays_47 : decode cX12_lays 47 = .ok (.invokevirtual 335, 3) := by decide +kernel
theorem dX12_lays_50 : decode cX12_lays 50 = .ok (.ireturn, 1) := by decide +kernel
set_option maxRecDepth 100000 in
set_option maxHeartbeats 4000000 in
theorem wp_X12_lays {n0 d : Nat} {K : z_K} {I : z_I} {L : z_L} {Q : z_R} {p0 : Int32} {p1 : Int32} (hL : CLay K) (h : RM0 n0 xX12_pieceOf d [.ref (n0 + 0), .int p0] K I L (fun vv I1 L2 => ∃ r3 : Option Nat, vv = some (zr n0 r3) ∧ ((r3 = none → RM0 n0 xX12_refuse d [.ref (n0 + 0), .int (-1)] K I1 L2 (fun vv I6 L7 => ∃ r8 : Int32, vv = some (.int r8) ∧ Q (some (.int r8)) K I6 L7)) ∧ (∀ q5, r3 = some q5 → RM0 n0 xX12_isSize d [.int p1] K I1 L2 (fun vv I9 L10 => ∃ r11 : Int32, vv = some (.int r11) ∧ (if r11 = 0 then RM0 n0 xX12_refuse d [.ref (n0 + 0), .int (-1)] K I9 L10 (fun vv I22 L23 => ∃ r24 : Int32, vv = some (.int r24) ∧ Q (some (.int r24)) K I22 L23) else (if ((I9 25 4) : Int32) < 4 then RM n0 xX4_add d 0 0 [.ref (n0 + 25), .ref (n0 + q5), .int p1] K I9 L10 (fun vv K16 I14 L15 => ∃ r17 : Int32, vv = some (.int r17) ∧ CLay K16 ∧ Q (some (.int r17)) K16 I14 L15) else RM0 n0 xX12_refuse d [.ref (n0 + 0), .int (-6)] K I9 L10 (fun vv I19 L20 => ∃ r21 : Int32, vv = some (.int r21) ∧ Q (some (.int r21)) K I19 L20)))))))) : RM n0 xX12_lays (d + 1) 0 0 [.ref (n0 + 0), .int p0, .int p1] K I L Q := by
  refine z_entry (by decide) (Nat.le_of_ble_eq_true rfl) ?_
  change Z n0 xX12_lays (d + 1) 0 0 0 [(0, .ref (n0 + 0)), (1, .int p0), (2, .int p1)] [] K I L Q
  refine z_aload_n 0 dX12_lays_0 rfl ?_
  refine z_iload_n 1 dX12_lays_1 rfl ?_
  refine z_callV0 (As := [.int p0]) (st := []) dX12_lays_2 hy_X12_pieceOf (co_0 hL).1 (co_0 hL).2 (by decide) wg_572 wg_574 wg_5 (Nat.le_refl _) (Nat.le_of_ble_eq_true rfl) (RM0.mono h ?_)
  clear h
  intro vv I1 L2 h
  obtain ⟨r3, rfl, h⟩ := h
  change Z n0 xX12_lays (d + 1) 0 0 5 [(0, .ref (n0 + 0)), (1, .int p0), (2, .int p1)] [zr n0 r3] K I1 L2 Q
  refine z_astore_nO [1, 2, 3, 0] [(0, .ref (n0 + 0)), (1, .int p0), (2, .int p1), (3, zr n0 r3)] dX12_lays_5 (by decide) (fun v hv => by subst hv; rfl) ?_
  refine z_aload_nO 3 dX12_lays_6 rfl ?_
  refine z_ifnull 17 dX12_lays_7 (by decide) (fun g4 => ?_) (fun q5 g4 => ?_)
  · replace h := h.1 g4
    subst g4
    change Z n0 xX12_lays (d + 1) 0 0 17 [(0, .ref (n0 + 0)), (1, .int p0), (2, .int p1), (3, .null)] [] K I1 L2 Q
    refine z_aload_n 0 dX12_lays_17 rfl ?_
    refine z_iconst (-1) dX12_lays_18 (by decide) ?_
    refine z_callV0 (As := [.int (-1)]) (st := []) dX12_lays_19 hy_X12_refuse (co_0 hL).1 (co_0 hL).2 (by decide) wg_462 wg_464 wg_0 (Nat.le_refl _) (Nat.le_of_ble_eq_true rfl) (RM0.mono h ?_)
    clear h
    intro vv I6 L7 h
    obtain ⟨r8, rfl, h⟩ := h
    change Z n0 xX12_lays (d + 1) 0 0 22 [(0, .ref (n0 + 0)), (1, .int p0), (2, .int p1), (3, .null)] [.int r8] K I6 L7 Q
    exact z_iret dX12_lays_22 rfl h
  · replace h := h.2 q5 g4
    subst g4
    change Z n0 xX12_lays (d + 1) 0 0 10 [(0, .ref (n0 + 0)), (1, .int p0), (2, .int p1), (3, .ref (n0 + q5))] [] K I1 L2 Q
    refine z_iload_n 2 dX12_lays_10 rfl ?_
    refine z_callS0 (As := [.int p1]) (st := []) dX12_lays_11 hy_X12_isSize wg_473 wg_474 (Nat.le_refl _) (Nat.le_of_ble_eq_true rfl) (RM0.mono h ?_)
    clear h
    intro vv I9 L10 h
    obtain ⟨r11, rfl, h⟩ := h
    change Z n0 xX12_lays (d + 1) 0 0 14 [(0, .ref (n0 + 0)), (1, .int p0), (2, .int p1), (3, .ref (n0 + q5))] [.int r11] K I9 L10 Q
    refine z_if_ne 23 dX12_lays_14 (by decide) (fun g12 => ?_) (fun g12 => ?_)
    · rw [if_neg g12] at h
      refine z_aload_n 0 dX12_lays_23 rfl ?_
      refine fg_12_61 (some 25) rfl dX12_lays_24 (co_0 hL).1 (co_0 hL).2 (cp_25 hL) ?_
      refine fg_12_334 (I9 25 4) rfl dX12_lays_27 (co_25 hL).1 (co_25 hL).2 rfl ?_
      refine z_iconst 4 dX12_lays_30 (by decide) ?_
      refine z_icmp_lt 41 dX12_lays_31 (by decide) (fun g13 => ?_) (fun g13 => ?_)
      · rw [if_pos g13] at h
        refine z_aload_n 0 dX12_lays_41 rfl ?_
        refine fg_12_61 (some 25) rfl dX12_lays_42 (co_0 hL).1 (co_0 hL).2 (cp_25 hL) ?_
        refine z_aload_n 3 dX12_lays_45 rfl ?_
        refine z_iload_n 2 dX12_lays_46 rfl ?_
        refine z_callV (rc := 0) (rs := 0) (mc1 := 0) (ms1 := 0) (As := [.ref (n0 + q5), .int p1]) (st := []) dX12_lays_47 hy_X4_add (co_25 hL).1 (co_25 hL).2 (by decide) wg_1136 wg_1137 wg_1138 (Nat.le_refl _) (Nat.le_of_ble_eq_true rfl) (RM.mono h ?_)
        clear h
        intro vv K16 I14 L15 h
        obtain ⟨r17, rfl, h⟩ := h
        obtain ⟨hL18, h⟩ := h
        change Z n0 xX12_lays (d + 1) 0 0 50 [(0, .ref (n0 + 0)), (1, .int p0), (2, .int p1), (3, .ref (n0 + q5))] [.int r17] K16 I14 L15 Q
        exact z_iret dX12_lays_50 rfl h
      · rw [if_neg g13] at h
        refine z_aload_n 0 dX12_lays_34 rfl ?_
        refine z_bipush (-6) dX12_lays_35 (by decide) ?_
        refine z_callV0 (As := [.int (-6)]) (st := []) dX12_lays_37 hy_X12_refuse (co_0 hL).1 (co_0 hL).2 (by decide) wg_462 wg_464 wg_0 (Nat.le_refl _) (Nat.le_of_ble_eq_true rfl) (RM0.mono h ?_)
        clear h
        intro vv I19 L20 h
        obtain ⟨r21, rfl, h⟩ := h
        change Z n0 xX12_lays (d + 1) 0 0 40 [(0, .ref (n0 + 0)), (1, .int p0), (2, .int p1), (3, .ref (n0 + q5))] [.int r21] K I19 L20 Q
        exact z_iret dX12_lays_40 rfl h
    · rw [if_pos g12] at h
      refine z_aload_n 0 dX12_lays_17 rfl ?_
      refine z_iconst (-1) dX12_lays_18 (by decide) ?_
      refine z_callV0 (As := [.int (-1)]) (st := []) dX12_lays_19 hy_X12_refuse (co_0 hL).1 (co_0 hL).2 (by decide) wg_462 wg_464 wg_0 (Nat.le_refl _) (Nat.le_of_ble_eq_true rfl) (RM0.mono h ?_)
      clear h
      intro vv I22 L23 h
      obtain ⟨r24, rfl, h⟩ := h
      change Z n0 xX12_lays (d + 1) 0 0 22 [(0, .ref (n0 + 0)), (1, .int p0), (2, .int p1), (3, .ref (n0 + q5))] [.int r24] K I22 L23 Q
      exact z_iret dX12_lays_22 rfl h
theorem dX12_clear_0 : decode cX12_clear 0 = .ok (.aload_n 0, 1) := by decide +kernel
theorem dX12_clear_1 : decode cX12_clear 1 = .ok (.getfield 61, 3) := by decide +kernel
theorem dX12_clear_4 : decode cX12_clear 4 = .ok (.getfield 334, 3) := by decide +kernel
theorem dX12_clear_7 : decode cX12_clear 7 = .ok (.istore_n 1, 1) := by decide +kernel
theorem dX12_clear_8 : decode cX12_clear 8 = .ok (.aload_n 0, 1) := by decide +kernel
theorem dX12_clear_9 : decode cX12_clear 9 = .ok (.getfield 61, 3) := by decide +kernel
theorem dX12_clear_12 : decode cX12_clear 12 = .ok (.iconst 0, 1) := by decide +kernel
theorem dX12_clear_13 : decode cX12_clear 13 = .ok (.putfield 334, 3) := by decide +kernel
theorem dX12_clear_16 : decode cX12_clear 16 = .ok (.iload_n 1, 1) := by decide +kernel
theorem dX12_clear_17 : decode cX12_clear 17 = .ok (.ireturn, 1) := by decide +kernel
set_option maxRecDepth 100000 in
set_option maxHeartbeats 4000000 in
theorem wp_X12_clear {n0 d : Nat} {K : z_K} {I : z_I} {L : z_L} {Q : z_q}  (hL : CLay K) (h : Q (some (.int (I 25 4))) (zI I 25 4 0) L) : RM0 n0 xX12_clear d [.ref (n0 + 0)] K I L Q := by
  refine z_entry0 (by decide) (Nat.le_of_ble_eq_true rfl) ?_
  change Z n0 xX12_clear d 0 0 0 [(0, .ref (n0 + 0))] [] K I L (z_q0 K Q)
  refine z_aload_n 0 dX12_clear_0 rfl ?_
  refine fg_12_61 (some 25) rfl dX12_clear_1 (co_0 hL).1 (co_0 hL).2 (cp_25 hL) ?_
  refine fg_12_334 (I 25 4) rfl dX12_clear_4 (co_25 hL).1 (co_25 hL).2 rfl ?_
  refine z_istore_n [1, 0] [(0, .ref (n0 + 0)), (1, .int (I 25 4))] dX12_clear_7 (by decide) rfl ?_
  refine z_aload_n 0 dX12_clear_8 rfl ?_
  refine fg_12_61 (some 25) rfl dX12_clear_9 (co_0 hL).1 (co_0 hL).2 (cp_25 hL) ?_
  refine z_iconst 0 dX12_clear_12 (by decide) ?_
  refine fp_12_334 rfl dX12_clear_13 (co_25 hL).1 (co_25 hL).2 ?_
  refine z_iload_n 1 dX12_clear_16 rfl ?_
  exact z_iret dX12_clear_17 rfl ⟨rfl, h⟩
theorem dX12_shortest_0 : decode cX12_shortest 0 = .ok (.iload_n 1, 1) := by decide +kernel
theorem dX12_shortest_1 : decode cX12_shortest 1 = .ok (.ifCond .lt 8, 3) := by decide +kernel
theorem dX12_shortest_4 : decode cX12_shortest 4 = .ok (.iload_n 1, 1) := by decide +kernel
theorem dX12_shortest_5 : decode cX12_shortest 5 = .ok (.iconst 1, 1) := by decide +kernel
theorem dX12_shortest_6 : decode cX12_shortest 6 = .ok (.if_icmp .le 10, 3) := by decide +kernel
theorem dX12_shortest_9 : decode cX12_shortest 9 = .ok (.aload_n 0, 1) := by decide +kernel
theorem dX12_shortest_10 : decode cX12_shortest 10 = .ok (.bipush (-2), 2) := by decide +kernel
theorem dX12_shortest_12 : decode cX12_shortest 12 = .ok (.invokevirtual 85, 3) := by decide +kernel
theorem dX12_shortest_15 : decode cX12_shortest 15 = .ok (.ireturn, 1) := by decide +kernel
theorem dX12_shortest_16 : decode cX12_shortest 16 = .ok (.aload_n 0, 1) := by decide +kernel
theorem dX12_shortest_17 : decode cX12_shortest 17 = .ok (.invokevirtual 338, 3) := by decide +kernel
theorem dX12_shortest_20 : decode cX12_shortest 20 = .ok (.istore_n 2, 1) := by decide +kernel
theorem dX12_shortest_21 : decode cX12_shortest 21 = .ok (.iload_n 2, 1) := by decide +kernel
theorem dX12_shortest_22 : decode cX12_shortest 22 = .ok (.ifCond .eq 9, 3) := by decide +kernel
theorem dX12_shortest_25 : decode cX12_shortest 25 = .ok (.aload_n 0, 1) := by decide +kernel
theorem dX12_shortest_26 : decode cX12_shortest 26 = .ok (.iload_n 2, 1) := by decide +kernel
theorem dX12_shortest_27 : decode cX12_shortest 27 = .ok (.invokevirtual 85, 3) := by decide +kernel
theorem dX12_shortest_30 : decode cX12_shortest 30 = .ok (.ireturn, 1) := by decide +kernel
theorem dX12_shortest_31 : decode cX12_shortest 31 = .ok (.iload_n 1, 1) := by decide +kernel
theorem dX12_shortest_32 : decode cX12_shortest 32 = .ok (.ifCond .ne 13, 3) := by decide +kernel
theorem dX12_shortest_35 : decode cX12_shortest 35 = .ok (.aload_n 0, 1) := by decide +kernel
theorem dX12_shortest_36 : decode cX12_shortest 36 = .ok (.getfield 61, 3) := by decide +kernel
theorem dX12_shortest_39 : decode cX12_shortest 39 = .ok (.getfield 341, 3) := by decide +kernel
theorem dX12_shortest_42 : decode cX12_shortest 42 = .ok (.goto 10, 3) := by decide +kernel
theorem dX12_shortest_45 : decode cX12_shortest 45 = .ok (.aload_n 0, 1) := by decide +kernel
theorem dX12_shortest_46 : decode cX12_shortest 46 = .ok (.getfield 61, 3) := by decide +kernel
theorem dX12_shortest_49 : decode cX12_shortest 49 = .ok (.invokevirtual 344, 3) := by decide +kernel
theorem dX12_shortest_52 : decode cX12_shortest 52 = .ok (.ireturn, 1) := by decide +kernel
set_option maxRecDepth 100000 in
set_option maxHeartbeats 4000000 in
theorem wp_X12_shortest {n0 d : Nat} {K : z_K} {I : z_I} {L : z_L} {Q : z_R} {p0 : Int32} (hL : CLay K) (h : (if p0 < 0 then RM0 n0 xX12_refuse d [.ref (n0 + 0), .int (-2)] K I L (fun vv I2 L3 => ∃ r4 : Int32, vv = some (.int r4) ∧ Q (some (.int r4)) K I2 L3) else (if 1 < p0 then RM0 n0 xX12_refuse d [.ref (n0 + 0), .int (-2)] K I L (fun vv I19 L20 => ∃ r21 : Int32, vv = some (.int r21) ∧ Q (some (.int r21)) K I19 L20) else RM n0 xX12_layingRefused d 0 0 [.ref (n0 + 0)] K I L (fun vv K8 I6 L7 => ∃ r9 : Int32, vv = some (.int r9) ∧ CLay K8 ∧ (if r9 = 0 then (if p0 = 0 then Q (some (.int (I6 25 10))) K8 I6 L7 else RM0 n0 xX4_bound d [.ref (n0 + 25)] K8 I6 L7 (fun vv I13 L14 => ∃ r15 : Int32, vv = some (.int r15) ∧ Q (some (.int r15)) K8 I13 L14)) else RM0 n0 xX12_refuse d [.ref (n0 + 0), .int r9] K8 I6 L7 (fun vv I16 L17 => ∃ r18 : Int32, vv = some (.int r18) ∧ Q (some (.int r18)) K8 I16 L17)))))) : RM n0 xX12_shortest (d + 1) 0 0 [.ref (n0 + 0), .int p0] K I L Q := by
  refine z_entry (by decide) (Nat.le_of_ble_eq_true rfl) ?_
  change Z n0 xX12_shortest (d + 1) 0 0 0 [(0, .ref (n0 + 0)), (1, .int p0)] [] K I L Q
  refine z_iload_n 1 dX12_shortest_0 rfl ?_
  refine z_if_lt 9 dX12_shortest_1 (by decide) (fun g1 => ?_) (fun g1 => ?_)
  · rw [if_pos g1] at h
    refine z_aload_n 0 dX12_shortest_9 rfl ?_
    refine z_bipush (-2) dX12_shortest_10 (by decide) ?_
    refine z_callV0 (As := [.int (-2)]) (st := []) dX12_shortest_12 hy_X12_refuse (co_0 hL).1 (co_0 hL).2 (by decide) wg_462 wg_464 wg_0 (Nat.le_refl _) (Nat.le_of_ble_eq_true rfl) (RM0.mono h ?_)
    clear h
    intro vv I2 L3 h
    obtain ⟨r4, rfl, h⟩ := h
    change Z n0 xX12_shortest (d + 1) 0 0 15 [(0, .ref (n0 + 0)), (1, .int p0)] [.int r4] K I2 L3 Q
    exact z_iret dX12_shortest_15 rfl h
  · rw [if_neg g1] at h
    refine z_iload_n 1 dX12_shortest_4 rfl ?_
    refine z_iconst 1 dX12_shortest_5 (by decide) ?_
    refine z_icmp_le 16 dX12_shortest_6 (by decide) (fun g5 => ?_) (fun g5 => ?_)
    · rw [if_neg g5] at h
      refine z_aload_n 0 dX12_shortest_16 rfl ?_
      refine z_callV (rc := 0) (rs := 0) (mc1 := 0) (ms1 := 0) (As := []) (st := []) dX12_shortest_17 hy_X12_layingRefused (co_0 hL).1 (co_0 hL).2 (by decide) wg_1148 wg_1150 wg_39 (Nat.le_refl _) (Nat.le_of_ble_eq_true rfl) (RM.mono h ?_)
      clear h
      intro vv K8 I6 L7 h
      obtain ⟨r9, rfl, h⟩ := h
      obtain ⟨hL10, h⟩ := h
      change Z n0 xX12_shortest (d + 1) 0 0 20 [(0, .ref (n0 + 0)), (1, .int p0)] [.int r9] K8 I6 L7 Q
      refine z_istore_n [1, 2, 0] [(0, .ref (n0 + 0)), (1, .int p0), (2, .int r9)] dX12_shortest_20 (by decide) rfl ?_
      refine z_iload_n 2 dX12_shortest_21 rfl ?_
      refine z_if_eq 31 dX12_shortest_22 (by decide) (fun g11 => ?_) (fun g11 => ?_)
      · rw [if_pos g11] at h
        refine z_iload_n 1 dX12_shortest_31 rfl ?_
        refine z_if_ne 45 dX12_shortest_32 (by decide) (fun g12 => ?_) (fun g12 => ?_)
        · rw [if_neg g12] at h
          refine z_aload_n 0 dX12_shortest_45 rfl ?_
          refine fg_12_61 (some 25) rfl dX12_shortest_46 (co_0 hL10).1 (co_0 hL10).2 (cp_25 hL10) ?_
          refine z_callV0 (As := []) (st := []) dX12_shortest_49 hy_X4_bound (co_25 hL10).1 (co_25 hL10).2 (by decide) wg_1186 wg_1187 wg_1188 (Nat.le_refl _) (Nat.le_of_ble_eq_true rfl) (RM0.mono h ?_)
          clear h
          intro vv I13 L14 h
          obtain ⟨r15, rfl, h⟩ := h
          change Z n0 xX12_shortest (d + 1) 0 0 52 [(0, .ref (n0 + 0)), (1, .int p0), (2, .int r9)] [.int r15] K8 I13 L14 Q
          exact z_iret dX12_shortest_52 rfl h
        · rw [if_pos g12] at h
          refine z_aload_n 0 dX12_shortest_35 rfl ?_
          refine fg_12_61 (some 25) rfl dX12_shortest_36 (co_0 hL10).1 (co_0 hL10).2 (cp_25 hL10) ?_
          refine fg_12_341 (I6 25 10) rfl dX12_shortest_39 (co_25 hL10).1 (co_25 hL10).2 rfl ?_
          refine z_goto 52 dX12_shortest_42 (by decide) ?_
          exact z_iret dX12_shortest_52 rfl h
      · rw [if_neg g11] at h
        refine z_aload_n 0 dX12_shortest_25 rfl ?_
        refine z_iload_n 2 dX12_shortest_26 rfl ?_
        refine z_callV0 (As := [.int r9]) (st := []) dX12_shortest_27 hy_X12_refuse (co_0 hL10).1 (co_0 hL10).2 (by decide) wg_462 wg_464 wg_0 (Nat.le_refl _) (Nat.le_of_ble_eq_true rfl) (RM0.mono h ?_)
        clear h
        intro vv I16 L17 h
        obtain ⟨r18, rfl, h⟩ := h
        change Z n0 xX12_shortest (d + 1) 0 0 30 [(0, .ref (n0 + 0)), (1, .int p0), (2, .int r9)] [.int r18] K8 I16 L17 Q
        exact z_iret dX12_shortest_30 rfl h
    · rw [if_pos g5] at h
      refine z_aload_n 0 dX12_shortest_9 rfl ?_
      refine z_bipush (-2) dX12_shortest_10 (by decide) ?_
      refine z_callV0 (As := [.int (-2)]) (st := []) dX12_shortest_12 hy_X12_refuse (co_0 hL).1 (co_0 hL).2 (by decide) wg_462 wg_464 wg_0 (Nat.le_refl _) (Nat.le_of_ble_eq_true rfl) (RM0.mono h ?_)
      clear h
      intro vv I19 L20 h
      obtain ⟨r21, rfl, h⟩ := h
      change Z n0 xX12_shortest (d + 1) 0 0 15 [(0, .ref (n0 + 0)), (1, .int p0)] [.int r21] K I19 L20 Q
      exact z_iret dX12_shortest_15 rfl h
theorem dX12_place_0 : decode cX12_place 0 = .ok (.iload_n 2, 1) := by decide +kernel
theorem dX12_place_1 : decode cX12_place 1 = .ok (.ifCond .lt 8, 3) := by decide +kernel
theorem dX12_place_4 : decode cX12_place 4 = .ok (.iload_n 2, 1) := by decide +kernel
theorem dX12_place_5 : decode cX12_place 5 = .ok (.iconst 3, 1) := by decide +kernel
theorem dX12_place_6 : decode cX12_place 6 = .ok (.if_icmp .lt 10, 3) := by decide +kernel
theorem dX12_place_9 : decode cX12_place 9 = .ok (.aload_n 0, 1) := by decide +kernel
theorem dX12_place_10 : decode cX12_place 10 = .ok (.bipush (-2), 2) := by decide +kernel
theorem dX12_place_12 : decode cX12_place 12 = .ok (.invokevirtual 85, 3) := by decide +kernel
theorem dX12_place_15 : decode cX12_place 15 = .ok (.ireturn, 1) := by decide +kernel
theorem dX12_place_16 : decode cX12_place 16 = .ok (.aload_n 0, 1) := by decide +kernel
theorem dX12_place_17 : decode cX12_place 17 = .ok (.invokevirtual 338, 3) := by decide +kernel
theorem dX12_place_20 : decode cX12_place 20 = .ok (.istore_n 3, 1) := by decide +kernel
theorem dX12_place_21 : decode cX12_place 21 = .ok (.iload_n 3, 1) := by decide +kernel
theorem dX12_place_22 : decode cX12_place 22 = .ok (.ifCond .eq 9, 3) := by decide +kernel
theorem dX12_place_25 : decode cX12_place 25 = .ok (.aload_n 0, 1) := by decide +kernel
theorem dX12_place_26 : decode cX12_place 26 = .ok (.iload_n 3, 1) := by decide +kernel
theorem dX12_place_27 : decode cX12_place 27 = .ok (.invokevirtual 85, 3) := by decide +kernel
theorem dX12_place_30 : decode cX12_place 30 = .ok (.ireturn, 1) := by decide +kernel
theorem dX12_place_31 : decode cX12_place 31 = .ok (.iload_n 1, 1) := by decide +kernel
theorem dX12_place_32 : decode cX12_place 32 = .ok (.ifCond .lt 14, 3) := by decide +kernel
theorem dX12_place_35 : decode cX12_place 35 = .ok (.iload_n 1, 1) := by decide +kernel
theorem dX12_place_36 : decode cX12_place 36 = .ok (.aload_n 0, 1) := by decide +kernel
theorem dX12_place_37 : decode cX12_place 37 = .ok (.getfield 61, 3) := by decide +kernel
theorem dX12_place_40 : decode cX12_place 40 = .ok (.getfield 334, 3) := by decide +kernel
theorem dX12_place_43 : decode cX12_place 43 = .ok (.if_icmp .lt 9, 3) := by decide +kernel
theorem dX12_place_46 : decode cX12_place 46 = .ok (.aload_n 0, 1) := by decide +kernel
theorem dX12_place_47 : decode cX12_place 47 = .ok (.iconst (-1), 1) := by decide +kernel
theorem dX12_place_48 : decode cX12_place 48 = .ok (.invokevirtual 85, 3) := by decide +kernel
theorem dX12_place_51 : decode cX12_place 51 = .ok (.ireturn, 1) := by decide +kernel
theorem dX12_place_52 : decode cX12_place 52 = .ok (.aload_n 0, 1) := by decide +kernel
theorem dX12_place_53 : decode cX12_place 53 = .ok (.getfield 61, 3) := by decide +kernel
theorem dX12_place_56 : decode cX12_place 56 = .ok (.getfield 347, 3) := by decide +kernel
theorem dX12_place_59 : decode cX12_place 59 = .ok (.iload_n 1, 1) := by decide +kernel
theorem dX12_place_60 : decode cX12_place 60 = .ok (.iconst 3, 1) := by decide +kernel
theorem dX12_place_61 : decode cX12_place 61 = .ok (.imul, 1) := by decide +kernel
theorem dX12_place_62 : decode cX12_place 62 = .ok (.iload_n 2, 1) := by decide +kernel
theorem dX12_place_63 : decode cX12_place 63 = .ok (.iadd, 1) := by decide +kernel
theorem dX12_place_64 : decode cX12_place 64 = .ok (.iaload, 1) := by decide +kernel
theorem dX12_place_65 : decode cX12_place 65 = .ok (.ireturn, 1) := by decide +kernel
set_option maxRecDepth 100000 in
set_option maxHeartbeats 4000000 in
theorem wp_X12_place {n0 d : Nat} {K : z_K} {I : z_I} {L : z_L} {Q : z_R} {p0 : Int32} {p1 : Int32} (hL : CLay K) (h : (if p1 < 0 then RM0 n0 xX12_refuse d [.ref (n0 + 0), .int (-2)] K I L (fun vv I2 L3 => ∃ r4 : Int32, vv = some (.int r4) ∧ Q (some (.int r4)) K I2 L3) else (if p1 < 3 then RM n0 xX12_layingRefused d 0 0 [.ref (n0 + 0)] K I L (fun vv K8 I6 L7 => ∃ r9 : Int32, vv = some (.int r9) ∧ CLay K8 ∧ (if r9 = 0 then (if p0 < 0 then RM0 n0 xX12_refuse d [.ref (n0 + 0), .int (-1)] K8 I6 L7 (fun vv I13 L14 => ∃ r15 : Int32, vv = some (.int r15) ∧ Q (some (.int r15)) K8 I13 L14) else (if p0 < (I6 25 4) then vp_in ((p0 * 3) + p1) 12 ∧ Q (some (.int (I6 34 (((p0 * 3) + p1).toNatClampNeg)))) K8 I6 L7 else RM0 n0 xX12_refuse d [.ref (n0 + 0), .int (-1)] K8 I6 L7 (fun vv I18 L19 => ∃ r20 : Int32, vv = some (.int r20) ∧ Q (some (.int r20)) K8 I18 L19))) else RM0 n0 xX12_refuse d [.ref (n0 + 0), .int r9] K8 I6 L7 (fun vv I21 L22 => ∃ r23 : Int32, vv = some (.int r23) ∧ Q (some (.int r23)) K8 I21 L22))) else RM0 n0 xX12_refuse d [.ref (n0 + 0), .int (-2)] K I L (fun vv I24 L25 => ∃ r26 : Int32, vv = some (.int r26) ∧ Q (some (.int r26)) K I24 L25)))) : RM n0 xX12_place (d + 1) 0 0 [.ref (n0 + 0), .int p0, .int p1] K I L Q := by
  refine z_entry (by decide) (Nat.le_of_ble_eq_true rfl) ?_
  change Z n0 xX12_place (d + 1) 0 0 0 [(0, .ref (n0 + 0)), (1, .int p0), (2, .int p1)] [] K I L Q
  refine z_iload_n 2 dX12_place_0 rfl ?_
  refine z_if_lt 9 dX12_place_1 (by decide) (fun g1 => ?_) (fun g1 => ?_)
  · rw [if_pos g1] at h
    refine z_aload_n 0 dX12_place_9 rfl ?_
    refine z_bipush (-2) dX12_place_10 (by decide) ?_
    refine z_callV0 (As := [.int (-2)]) (st := []) dX12_place_12 hy_X12_refuse (co_0 hL).1 (co_0 hL).2 (by decide) wg_462 wg_464 wg_0 (Nat.le_refl _) (Nat.le_of_ble_eq_true rfl) (RM0.mono h ?_)
    clear h
    intro vv I2 L3 h
    obtain ⟨r4, rfl, h⟩ := h
    change Z n0 xX12_place (d + 1) 0 0 15 [(0, .ref (n0 + 0)), (1, .int p0), (2, .int p1)] [.int r4] K I2 L3 Q
    exact z_iret dX12_place_15 rfl h
  · rw [if_neg g1] at h
    refine z_iload_n 2 dX12_place_4 rfl ?_
    refine z_iconst 3 dX12_place_5 (by decide) ?_
    refine z_icmp_lt 16 dX12_place_6 (by decide) (fun g5 => ?_) (fun g5 => ?_)
    · rw [if_pos g5] at h
      refine z_aload_n 0 dX12_place_16 rfl ?_
      refine z_callV (rc := 0) (rs := 0) (mc1 := 0) (ms1 := 0) (As := []) (st := []) dX12_place_17 hy_X12_layingRefused (co_0 hL).1 (co_0 hL).2 (by decide) wg_1148 wg_1150 wg_39 (Nat.le_refl _) (Nat.le_of_ble_eq_true rfl) (RM.mono h ?_)
      clear h
      intro vv K8 I6 L7 h
      obtain ⟨r9, rfl, h⟩ := h
      obtain ⟨hL10, h⟩ := h
      change Z n0 xX12_place (d + 1) 0 0 20 [(0, .ref (n0 + 0)), (1, .int p0), (2, .int p1)] [.int r9] K8 I6 L7 Q
      refine z_istore_n [1, 2, 3, 0] [(0, .ref (n0 + 0)), (1, .int p0), (2, .int p1), (3, .int r9)] dX12_place_20 (by decide) rfl ?_
      refine z_iload_n 3 dX12_place_21 rfl ?_
      refine z_if_eq 31 dX12_place_22 (by decide) (fun g11 => ?_) (fun g11 => ?_)
      · rw [if_pos g11] at h
        refine z_iload_n 1 dX12_place_31 rfl ?_
        refine z_if_lt 46 dX12_place_32 (by decide) (fun g12 => ?_) (fun g12 => ?_)
        · rw [if_pos g12] at h
          refine z_aload_n 0 dX12_place_46 rfl ?_
          refine z_iconst (-1) dX12_place_47 (by decide) ?_
          refine z_callV0 (As := [.int (-1)]) (st := []) dX12_place_48 hy_X12_refuse (co_0 hL10).1 (co_0 hL10).2 (by decide) wg_462 wg_464 wg_0 (Nat.le_refl _) (Nat.le_of_ble_eq_true rfl) (RM0.mono h ?_)
          clear h
          intro vv I13 L14 h
          obtain ⟨r15, rfl, h⟩ := h
          change Z n0 xX12_place (d + 1) 0 0 51 [(0, .ref (n0 + 0)), (1, .int p0), (2, .int p1), (3, .int r9)] [.int r15] K8 I13 L14 Q
          exact z_iret dX12_place_51 rfl h
        · rw [if_neg g12] at h
          refine z_iload_n 1 dX12_place_35 rfl ?_
          refine z_aload_n 0 dX12_place_36 rfl ?_
          refine fg_12_61 (some 25) rfl dX12_place_37 (co_0 hL10).1 (co_0 hL10).2 (cp_25 hL10) ?_
          refine fg_12_334 (I6 25 4) rfl dX12_place_40 (co_25 hL10).1 (co_25 hL10).2 rfl ?_
          refine z_icmp_lt 52 dX12_place_43 (by decide) (fun g16 => ?_) (fun g16 => ?_)
          · rw [if_pos g16] at h
            refine z_aload_n 0 dX12_place_52 rfl ?_
            refine fg_12_61 (some 25) rfl dX12_place_53 (co_0 hL10).1 (co_0 hL10).2 (cp_25 hL10) ?_
            refine fg_12_347 (some 34) rfl dX12_place_56 (co_25 hL10).1 (co_25 hL10).2 (ca_34 hL10).1 ?_
            refine z_iload_n 1 dX12_place_59 rfl ?_
            refine z_iconst 3 dX12_place_60 (by decide) ?_
            refine z_imul dX12_place_61 ?_
            refine z_iload_n 2 dX12_place_62 rfl ?_
            refine z_iadd dX12_place_63 ?_
            obtain ⟨o17, h⟩ := h
            refine z_iald (I6 34 (((p0 * 3) + p1).toNatClampNeg)) dX12_place_64 (ca_34 hL10).2.1 (ca_34 hL10).2.2 o17 rfl ?_
            exact z_iret dX12_place_65 rfl h
          · rw [if_neg g16] at h
            refine z_aload_n 0 dX12_place_46 rfl ?_
            refine z_iconst (-1) dX12_place_47 (by decide) ?_
            refine z_callV0 (As := [.int (-1)]) (st := []) dX12_place_48 hy_X12_refuse (co_0 hL10).1 (co_0 hL10).2 (by decide) wg_462 wg_464 wg_0 (Nat.le_refl _) (Nat.le_of_ble_eq_true rfl) (RM0.mono h ?_)
            clear h
            intro vv I18 L19 h
            obtain ⟨r20, rfl, h⟩ := h
            change Z n0 xX12_place (d + 1) 0 0 51 [(0, .ref (n0 + 0)), (1, .int p0), (2, .int p1), (3, .int r9)] [.int r20] K8 I18 L19 Q
            exact z_iret dX12_place_51 rfl h
      · rw [if_neg g11] at h
        refine z_aload_n 0 dX12_place_25 rfl ?_
        refine z_iload_n 3 dX12_place_26 rfl ?_
        refine z_callV0 (As := [.int r9]) (st := []) dX12_place_27 hy_X12_refuse (co_0 hL10).1 (co_0 hL10).2 (by decide) wg_462 wg_464 wg_0 (Nat.le_refl _) (Nat.le_of_ble_eq_true rfl) (RM0.mono h ?_)
        clear h
        intro vv I21 L22 h
        obtain ⟨r23, rfl, h⟩ := h
        change Z n0 xX12_place (d + 1) 0 0 30 [(0, .ref (n0 + 0)), (1, .int p0), (2, .int p1), (3, .int r9)] [.int r23] K8 I21 L22 Q
        exact z_iret dX12_place_30 rfl h
    · rw [if_neg g5] at h
      refine z_aload_n 0 dX12_place_9 rfl ?_
      refine z_bipush (-2) dX12_place_10 (by decide) ?_
      refine z_callV0 (As := [.int (-2)]) (st := []) dX12_place_12 hy_X12_refuse (co_0 hL).1 (co_0 hL).2 (by decide) wg_462 wg_464 wg_0 (Nat.le_refl _) (Nat.le_of_ble_eq_true rfl) (RM0.mono h ?_)
      clear h
      intro vv I24 L25 h
      obtain ⟨r26, rfl, h⟩ := h
      change Z n0 xX12_place (d + 1) 0 0 15 [(0, .ref (n0 + 0)), (1, .int p0), (2, .int p1)] [.int r26] K I24 L25 Q
      exact z_iret dX12_place_15 rfl h
theorem dX12_put_0 : decode cX12_put 0 = .ok (.iload_n 1, 1) := by decide +kernel
theorem dX12_put_1 : decode cX12_put 1 = .ok (.iconst 0, 1) := by decide +kernel
theorem dX12_put_2 : decode cX12_put 2 = .ok (.bipush 95, 2) := by decide +kernel
theorem dX12_put_4 : decode cX12_put 4 = .ok (.invokestatic 100, 3) := by decide +kernel
theorem dX12_put_7 : decode cX12_put 7 = .ok (.istore_n 2, 1) := by decide +kernel
theorem dX12_put_8 : decode cX12_put 8 = .ok (.iload_n 2, 1) := by decide +kernel
theorem dX12_put_9 : decode cX12_put 9 = .ok (.ifCond .eq 9, 3) := by decide +kernel
theorem dX12_put_12 : decode cX12_put 12 = .ok (.aload_n 0, 1) := by decide +kernel
theorem dX12_put_13 : decode cX12_put 13 = .ok (.iload_n 2, 1) := by decide +kernel
theorem dX12_put_14 : decode cX12_put 14 = .ok (.invokevirtual 85, 3) := by decide +kernel
theorem dX12_put_17 : decode cX12_put 17 = .ok (.ireturn, 1) := by decide +kernel
theorem dX12_put_18 : decode cX12_put 18 = .ok (.aload_n 0, 1) := by decide +kernel
theorem dX12_put_19 : decode cX12_put 19 = .ok (.getfield 61, 3) := by decide +kernel
theorem dX12_put_22 : decode cX12_put 22 = .ok (.getfield 350, 3) := by decide +kernel
theorem dX12_put_25 : decode cX12_put 25 = .ok (.bipush 12, 2) := by decide +kernel
theorem dX12_put_27 : decode cX12_put 27 = .ok (.if_icmp .lt 10, 3) := by decide +kernel
theorem dX12_put_30 : decode cX12_put 30 = .ok (.aload_n 0, 1) := by decide +kernel
theorem dX12_put_31 : decode cX12_put 31 = .ok (.bipush (-6), 2) := by decide +kernel
theorem dX12_put_33 : decode cX12_put 33 = .ok (.invokevirtual 85, 3) := by decide +kernel
theorem dX12_put_36 : decode cX12_put 36 = .ok (.ireturn, 1) := by decide +kernel
theorem dX12_put_37 : decode cX12_put 37 = .ok (.aload_n 0, 1) := by decide +kernel
theorem dX12_put_38 : decode cX12_put 38 = .ok (.getfield 61, 3) := by decide +kernel
theorem dX12_put_41 : decode cX12_put 41 = .ok (.getfield 353, 3) := by decide +kernel
theorem dX12_put_44 : decode cX12_put 44 = .ok (.aload_n 0, 1) := by decide +kernel
theorem dX12_put_45 : decode cX12_put 45 = .ok (.getfield 61, 3) := by decide +kernel
theorem dX12_put_48 : decode cX12_put 48 = .ok (.getfield 350, 3) := by decide +kernel
theorem dX12_put_51 : decode cX12_put 51 = .ok (.iload_n 1, 1) := by decide +kernel
theorem dX12_put_52 : decode cX12_put 52 = .ok (.iastore, 1) := by decide +kernel
theorem dX12_put_53 : decode cX12_put 53 = .ok (.aload_n 0, 1) := by decide +kernel
theorem dX12_put_54 : decode cX12_put 54 = .ok (.getfield 61, 3) := by decide +kernel
theorem dX12_put_57 : decode cX12_put 57 = .ok (.dup, 1) := by decide +kernel
theorem dX12_put_58 : decode cX12_put 58 = .ok (.getfield 350, 3) := by decide +kernel
theorem dX12_put_61 : decode cX12_put 61 = .ok (.iconst 1, 1) := by decide +kernel
theorem dX12_put_62 : decode cX12_put 62 = .ok (.iadd, 1) := by decide +kernel
theorem dX12_put_63 : decode cX12_put 63 = .ok (.putfield 350, 3) := by decide +kernel
theorem dX12_put_66 : decode cX12_put 66 = .ok (.aload_n 0, 1) := by decide +kernel
theorem dX12_put_67 : decode cX12_put 67 = .ok (.getfield 61, 3) := by decide +kernel
theorem dX12_put_70 : decode cX12_put 70 = .ok (.getfield 350, 3) := by decide +kernel
theorem dX12_put_73 : decode cX12_put 73 = .ok (.ireturn, 1) := by decide +kernel
set_option maxRecDepth 100000 in
set_option maxHeartbeats 4000000 in
theorem wp_X12_put {n0 d : Nat} {K : z_K} {I : z_I} {L : z_L} {Q : z_q} {p0 : Int32} (hL : CLay K) (h : RM0 n0 xX12_outside d [.int p0, .int 0, .int 95] K I L (fun vv I1 L2 => ∃ r3 : Int32, vv = some (.int r3) ∧ (if r3 = 0 then (if ((I1 25 12) : Int32) < 12 then vp_in (I1 25 12) 12 ∧ Q (some (.int (((I1 25 12) + 1)))) (zI (zI I1 35 ((I1 25 12).toNatClampNeg) p0) 25 12 ((I1 25 12) + 1)) L2 else RM0 n0 xX12_refuse d [.ref (n0 + 0), .int (-6)] K I1 L2 (fun vv I7 L8 => ∃ r9 : Int32, vv = some (.int r9) ∧ Q (some (.int r9)) I7 L8)) else RM0 n0 xX12_refuse d [.ref (n0 + 0), .int r3] K I1 L2 (fun vv I10 L11 => ∃ r12 : Int32, vv = some (.int r12) ∧ Q (some (.int r12)) I10 L11)))) : RM0 n0 xX12_put (d + 1) [.ref (n0 + 0), .int p0] K I L Q := by
  refine z_entry0 (by decide) (Nat.le_of_ble_eq_true rfl) ?_
  change Z n0 xX12_put (d + 1) 0 0 0 [(0, .ref (n0 + 0)), (1, .int p0)] [] K I L (z_q0 K Q)
  refine z_iload_n 1 dX12_put_0 rfl ?_
  refine z_iconst 0 dX12_put_1 (by decide) ?_
  refine z_bipush 95 dX12_put_2 (by decide) ?_
  refine z_callS0 (As := [.int p0, .int 0, .int 95]) (st := []) dX12_put_4 hy_X12_outside wg_476 wg_477 (Nat.le_refl _) (Nat.le_of_ble_eq_true rfl) (RM0.mono h ?_)
  clear h
  intro vv I1 L2 h
  obtain ⟨r3, rfl, h⟩ := h
  change Z n0 xX12_put (d + 1) 0 0 7 [(0, .ref (n0 + 0)), (1, .int p0)] [.int r3] K I1 L2 (z_q0 K Q)
  refine z_istore_n [1, 2, 0] [(0, .ref (n0 + 0)), (1, .int p0), (2, .int r3)] dX12_put_7 (by decide) rfl ?_
  refine z_iload_n 2 dX12_put_8 rfl ?_
  refine z_if_eq 18 dX12_put_9 (by decide) (fun g4 => ?_) (fun g4 => ?_)
  · rw [if_pos g4] at h
    refine z_aload_n 0 dX12_put_18 rfl ?_
    refine fg_12_61 (some 25) rfl dX12_put_19 (co_0 hL).1 (co_0 hL).2 (cp_25 hL) ?_
    refine fg_12_350 (I1 25 12) rfl dX12_put_22 (co_25 hL).1 (co_25 hL).2 rfl ?_
    refine z_bipush 12 dX12_put_25 (by decide) ?_
    refine z_icmp_lt 37 dX12_put_27 (by decide) (fun g5 => ?_) (fun g5 => ?_)
    · rw [if_pos g5] at h
      refine z_aload_n 0 dX12_put_37 rfl ?_
      refine fg_12_61 (some 25) rfl dX12_put_38 (co_0 hL).1 (co_0 hL).2 (cp_25 hL) ?_
      refine fg_12_353 (some 35) rfl dX12_put_41 (co_25 hL).1 (co_25 hL).2 (ca_35 hL).1 ?_
      refine z_aload_n 0 dX12_put_44 rfl ?_
      refine fg_12_61 (some 25) rfl dX12_put_45 (co_0 hL).1 (co_0 hL).2 (cp_25 hL) ?_
      refine fg_12_350 (I1 25 12) rfl dX12_put_48 (co_25 hL).1 (co_25 hL).2 rfl ?_
      refine z_iload_n 1 dX12_put_51 rfl ?_
      obtain ⟨o6, h⟩ := h
      refine z_iast dX12_put_52 (ca_35 hL).2.1 (ca_35 hL).2.2 o6 ?_
      refine z_aload_n 0 dX12_put_53 rfl ?_
      refine fg_12_61 (some 25) rfl dX12_put_54 (co_0 hL).1 (co_0 hL).2 (cp_25 hL) ?_
      refine z_dup dX12_put_57 rfl ?_
      refine fg_12_350 (I1 25 12) rfl dX12_put_58 (co_25 hL).1 (co_25 hL).2 rfl ?_
      refine z_iconst 1 dX12_put_61 (by decide) ?_
      refine z_iadd dX12_put_62 ?_
      refine fp_12_350 rfl dX12_put_63 (co_25 hL).1 (co_25 hL).2 ?_
      refine z_aload_n 0 dX12_put_66 rfl ?_
      refine fg_12_61 (some 25) rfl dX12_put_67 (co_0 hL).1 (co_0 hL).2 (cp_25 hL) ?_
      refine fg_12_350 (((I1 25 12) + 1)) rfl dX12_put_70 (co_25 hL).1 (co_25 hL).2 rfl ?_
      exact z_iret dX12_put_73 rfl ⟨rfl, h⟩
    · rw [if_neg g5] at h
      refine z_aload_n 0 dX12_put_30 rfl ?_
      refine z_bipush (-6) dX12_put_31 (by decide) ?_
      refine z_callV0 (As := [.int (-6)]) (st := []) dX12_put_33 hy_X12_refuse (co_0 hL).1 (co_0 hL).2 (by decide) wg_462 wg_464 wg_0 (Nat.le_refl _) (Nat.le_of_ble_eq_true rfl) (RM0.mono h ?_)
      clear h
      intro vv I7 L8 h
      obtain ⟨r9, rfl, h⟩ := h
      change Z n0 xX12_put (d + 1) 0 0 36 [(0, .ref (n0 + 0)), (1, .int p0), (2, .int r3)] [.int r9] K I7 L8 (z_q0 K Q)
      exact z_iret dX12_put_36 rfl ⟨rfl, h⟩
  · rw [if_neg g4] at h
    refine z_aload_n 0 dX12_put_12 rfl ?_
    refine z_iload_n 2 dX12_put_13 rfl ?_
    refine z_callV0 (As := [.int r3]) (st := []) dX12_put_14 hy_X12_refuse (co_0 hL).1 (co_0 hL).2 (by decide) wg_462 wg_464 wg_0 (Nat.le_refl _) (Nat.le_of_ble_eq_true rfl) (RM0.mono h ?_)
    clear h
    intro vv I10 L11 h
    obtain ⟨r12, rfl, h⟩ := h
    change Z n0 xX12_put (d + 1) 0 0 17 [(0, .ref (n0 + 0)), (1, .int p0), (2, .int r3)] [.int r12] K I10 L11 (z_q0 K Q)
    exact z_iret dX12_put_17 rfl ⟨rfl, h⟩
theorem dX12_judge_0 : decode cX12_judge 0 = .ok (.aload_n 0, 1) := by decide +kernel
theorem dX12_judge_1 : decode cX12_judge 1 = .ok (.getfield 61, 3) := by decide +kernel
theorem dX12_judge_4 : decode cX12_judge 4 = .ok (.getfield 334, 3) := by decide +kernel
theorem dX12_judge_7 : decode cX12_judge 7 = .ok (.ifCond .eq 22, 3) := by decide +kernel
theorem dX12_judge_10 : decode cX12_judge 10 = .ok (.aload_n 0, 1) := by decide +kernel
theorem dX12_judge_11 : decode cX12_judge 11 = .ok (.getfield 61, 3) := by decide +kernel
theorem dX12_judge_14 : decode cX12_judge 14 = .ok (.getfield 350, 3) := by decide +kernel
theorem dX12_judge_17 : decode cX12_judge 17 = .ok (.aload_n 0, 1) := by decide +kernel
theorem dX12_judge_18 : decode cX12_judge 18 = .ok (.getfield 61, 3) := by decide +kernel
theorem dX12_judge_21 : decode cX12_judge 21 = .ok (.getfield 334, 3) := by decide +kernel
theorem dX12_judge_24 : decode cX12_judge 24 = .ok (.iconst 3, 1) := by decide +kernel
theorem dX12_judge_25 : decode cX12_judge 25 = .ok (.imul, 1) := by decide +kernel
theorem dX12_judge_26 : decode cX12_judge 26 = .ok (.if_icmp .eq 10, 3) := by decide +kernel
theorem dX12_judge_29 : decode cX12_judge 29 = .ok (.aload_n 0, 1) := by decide +kernel
theorem dX12_judge_30 : decode cX12_judge 30 = .ok (.bipush (-5), 2) := by decide +kernel
theorem dX12_judge_32 : decode cX12_judge 32 = .ok (.invokevirtual 85, 3) := by decide +kernel
theorem dX12_judge_35 : decode cX12_judge 35 = .ok (.ireturn, 1) := by decide +kernel
theorem dX12_judge_36 : decode cX12_judge 36 = .ok (.aload_n 0, 1) := by decide +kernel
theorem dX12_judge_37 : decode cX12_judge 37 = .ok (.invokevirtual 356, 3) := by decide +kernel
theorem dX12_judge_40 : decode cX12_judge 40 = .ok (.ifCond .ne 10, 3) := by decide +kernel
theorem dX12_judge_43 : decode cX12_judge 43 = .ok (.aload_n 0, 1) := by decide +kernel
theorem dX12_judge_44 : decode cX12_judge 44 = .ok (.bipush (-7), 2) := by decide +kernel
theorem dX12_judge_46 : decode cX12_judge 46 = .ok (.invokevirtual 85, 3) := by decide +kernel
theorem dX12_judge_49 : decode cX12_judge 49 = .ok (.ireturn, 1) := by decide +kernel
theorem dX12_judge_50 : decode cX12_judge 50 = .ok (.aload_n 0, 1) := by decide +kernel
theorem dX12_judge_51 : decode cX12_judge 51 = .ok (.getfield 61, 3) := by decide +kernel
theorem dX12_judge_54 : decode cX12_judge 54 = .ok (.iconst 0, 1) := by decide +kernel
theorem dX12_judge_55 : decode cX12_judge 55 = .ok (.putfield 350, 3) := by decide +kernel
theorem dX12_judge_58 : decode cX12_judge 58 = .ok (.aload_n 0, 1) := by decide +kernel
theorem dX12_judge_59 : decode cX12_judge 59 = .ok (.getfield 61, 3) := by decide +kernel
theorem dX12_judge_62 : decode cX12_judge 62 = .ok (.invokevirtual 359, 3) := by decide +kernel
theorem dX12_judge_65 : decode cX12_judge 65 = .ok (.ireturn, 1) := by decide +kernel
set_option maxRecDepth 100000 in
set_option maxHeartbeats 4000000 in
theorem wp_X12_judge {n0 d : Nat} {K : z_K} {I : z_I} {L : z_L} {Q : z_R}  (hL : CLay K) (h : (if ((I 25 4) : Int32) = 0 then RM0 n0 xX12_refuse d [.ref (n0 + 0), .int (-5)] K I L (fun vv I2 L3 => ∃ r4 : Int32, vv = some (.int r4) ∧ Q (some (.int r4)) K I2 L3) else (if ((I 25 12) : Int32) = ((I 25 4) * 3) then RM n0 xX12_shapesStand d 0 0 [.ref (n0 + 0)] K I L (fun vv K8 I6 L7 => ∃ r9 : Int32, vv = some (.int r9) ∧ CLay K8 ∧ (if r9 = 0 then RM0 n0 xX12_refuse d [.ref (n0 + 0), .int (-7)] K8 I6 L7 (fun vv I15 L16 => ∃ r17 : Int32, vv = some (.int r17) ∧ Q (some (.int r17)) K8 I15 L16) else RM0 n0 xX4_judged d [.ref (n0 + 25)] K8 (zI I6 25 12 0) L7 (fun vv I12 L13 => ∃ r14 : Int32, vv = some (.int r14) ∧ Q (some (.int r14)) K8 I12 L13))) else RM0 n0 xX12_refuse d [.ref (n0 + 0), .int (-5)] K I L (fun vv I18 L19 => ∃ r20 : Int32, vv = some (.int r20) ∧ Q (some (.int r20)) K I18 L19)))) : RM n0 xX12_judge (d + 1) 0 0 [.ref (n0 + 0)] K I L Q := by
  refine z_entry (by decide) (Nat.le_of_ble_eq_true rfl) ?_
  change Z n0 xX12_judge (d + 1) 0 0 0 [(0, .ref (n0 + 0))] [] K I L Q
  refine z_aload_n 0 dX12_judge_0 rfl ?_
  refine fg_12_61 (some 25) rfl dX12_judge_1 (co_0 hL).1 (co_0 hL).2 (cp_25 hL) ?_
  refine fg_12_334 (I 25 4) rfl dX12_judge_4 (co_25 hL).1 (co_25 hL).2 rfl ?_
  refine z_if_eq 29 dX12_judge_7 (by decide) (fun g1 => ?_) (fun g1 => ?_)
  · rw [if_pos g1] at h
    refine z_aload_n 0 dX12_judge_29 rfl ?_
    refine z_bipush (-5) dX12_judge_30 (by decide) ?_
    refine z_callV0 (As := [.int (-5)]) (st := []) dX12_judge_32 hy_X12_refuse (co_0 hL).1 (co_0 hL).2 (by decide) wg_462 wg_464 wg_0 (Nat.le_refl _) (Nat.le_of_ble_eq_true rfl) (RM0.mono h ?_)
    clear h
    intro vv I2 L3 h
    obtain ⟨r4, rfl, h⟩ := h
    change Z n0 xX12_judge (d + 1) 0 0 35 [(0, .ref (n0 + 0))] [.int r4] K I2 L3 Q
    exact z_iret dX12_judge_35 rfl h
  · rw [if_neg g1] at h
    refine z_aload_n 0 dX12_judge_10 rfl ?_
    refine fg_12_61 (some 25) rfl dX12_judge_11 (co_0 hL).1 (co_0 hL).2 (cp_25 hL) ?_
    refine fg_12_350 (I 25 12) rfl dX12_judge_14 (co_25 hL).1 (co_25 hL).2 rfl ?_
    refine z_aload_n 0 dX12_judge_17 rfl ?_
    refine fg_12_61 (some 25) rfl dX12_judge_18 (co_0 hL).1 (co_0 hL).2 (cp_25 hL) ?_
    refine fg_12_334 (I 25 4) rfl dX12_judge_21 (co_25 hL).1 (co_25 hL).2 rfl ?_
    refine z_iconst 3 dX12_judge_24 (by decide) ?_
    refine z_imul dX12_judge_25 ?_
    refine z_icmp_eq 36 dX12_judge_26 (by decide) (fun g5 => ?_) (fun g5 => ?_)
    · rw [if_pos g5] at h
      refine z_aload_n 0 dX12_judge_36 rfl ?_
      refine z_callV (rc := 0) (rs := 0) (mc1 := 0) (ms1 := 0) (As := []) (st := []) dX12_judge_37 hy_X12_shapesStand (co_0 hL).1 (co_0 hL).2 (by decide) wg_1152 wg_1154 wg_40 (Nat.le_refl _) (Nat.le_of_ble_eq_true rfl) (RM.mono h ?_)
      clear h
      intro vv K8 I6 L7 h
      obtain ⟨r9, rfl, h⟩ := h
      obtain ⟨hL10, h⟩ := h
      change Z n0 xX12_judge (d + 1) 0 0 40 [(0, .ref (n0 + 0))] [.int r9] K8 I6 L7 Q
      refine z_if_ne 50 dX12_judge_40 (by decide) (fun g11 => ?_) (fun g11 => ?_)
      · rw [if_neg g11] at h
        refine z_aload_n 0 dX12_judge_50 rfl ?_
        refine fg_12_61 (some 25) rfl dX12_judge_51 (co_0 hL10).1 (co_0 hL10).2 (cp_25 hL10) ?_
        refine z_iconst 0 dX12_judge_54 (by decide) ?_
        refine fp_12_350 rfl dX12_judge_55 (co_25 hL10).1 (co_25 hL10).2 ?_
        refine z_aload_n 0 dX12_judge_58 rfl ?_
        refine fg_12_61 (some 25) rfl dX12_judge_59 (co_0 hL10).1 (co_0 hL10).2 (cp_25 hL10) ?_
        refine z_callV0 (As := []) (st := []) dX12_judge_62 hy_X4_judged (co_25 hL10).1 (co_25 hL10).2 (by decide) wg_1202 wg_1203 wg_1204 (Nat.le_refl _) (Nat.le_of_ble_eq_true rfl) (RM0.mono h ?_)
        clear h
        intro vv I12 L13 h
        obtain ⟨r14, rfl, h⟩ := h
        change Z n0 xX12_judge (d + 1) 0 0 65 [(0, .ref (n0 + 0))] [.int r14] K8 I12 L13 Q
        exact z_iret dX12_judge_65 rfl h
      · rw [if_pos g11] at h
        refine z_aload_n 0 dX12_judge_43 rfl ?_
        refine z_bipush (-7) dX12_judge_44 (by decide) ?_
        refine z_callV0 (As := [.int (-7)]) (st := []) dX12_judge_46 hy_X12_refuse (co_0 hL10).1 (co_0 hL10).2 (by decide) wg_462 wg_464 wg_0 (Nat.le_refl _) (Nat.le_of_ble_eq_true rfl) (RM0.mono h ?_)
        clear h
        intro vv I15 L16 h
        obtain ⟨r17, rfl, h⟩ := h
        change Z n0 xX12_judge (d + 1) 0 0 49 [(0, .ref (n0 + 0))] [.int r17] K8 I15 L16 Q
        exact z_iret dX12_judge_49 rfl h
    · rw [if_neg g5] at h
      refine z_aload_n 0 dX12_judge_29 rfl ?_
      refine z_bipush (-5) dX12_judge_30 (by decide) ?_
      refine z_callV0 (As := [.int (-5)]) (st := []) dX12_judge_32 hy_X12_refuse (co_0 hL).1 (co_0 hL).2 (by decide) wg_462 wg_464 wg_0 (Nat.le_refl _) (Nat.le_of_ble_eq_true rfl) (RM0.mono h ?_)
      clear h
      intro vv I18 L19 h
      obtain ⟨r20, rfl, h⟩ := h
      change Z n0 xX12_judge (d + 1) 0 0 35 [(0, .ref (n0 + 0))] [.int r20] K I18 L19 Q
      exact z_iret dX12_judge_35 rfl h
theorem dX12_cut_0 : decode cX12_cut 0 = .ok (.iload_n 2, 1) := by decide +kernel
theorem dX12_cut_1 : decode cX12_cut 1 = .ok (.invokestatic 228, 3) := by decide +kernel
theorem dX12_cut_4 : decode cX12_cut 4 = .ok (.ifCond .ne 10, 3) := by decide +kernel
theorem dX12_cut_7 : decode cX12_cut 7 = .ok (.aload_n 0, 1) := by decide +kernel
theorem dX12_cut_8 : decode cX12_cut 8 = .ok (.bipush (-2), 2) := by decide +kernel
theorem dX12_cut_10 : decode cX12_cut 10 = .ok (.invokevirtual 126, 3) := by decide +kernel
theorem dX12_cut_13 : decode cX12_cut 13 = .ok (.ireturn, 1) := by decide +kernel
theorem dX12_cut_14 : decode cX12_cut 14 = .ok (.iload_n 1, 1) := by decide +kernel
theorem dX12_cut_15 : decode cX12_cut 15 = .ok (.ldc_w 362, 3) := by decide +kernel
theorem dX12_cut_18 : decode cX12_cut 18 = .ok (.ldc_w 270, 3) := by decide +kernel
theorem dX12_cut_21 : decode cX12_cut 21 = .ok (.invokestatic 100, 3) := by decide +kernel
theorem dX12_cut_24 : decode cX12_cut 24 = .ok (.istore 4, 2) := by decide +kernel
theorem dX12_cut_26 : decode cX12_cut 26 = .ok (.iload 4, 2) := by decide +kernel
theorem dX12_cut_28 : decode cX12_cut 28 = .ok (.ifCond .eq 10, 3) := by decide +kernel
theorem dX12_cut_31 : decode cX12_cut 31 = .ok (.aload_n 0, 1) := by decide +kernel
theorem dX12_cut_32 : decode cX12_cut 32 = .ok (.iload 4, 2) := by decide +kernel
theorem dX12_cut_34 : decode cX12_cut 34 = .ok (.invokevirtual 126, 3) := by decide +kernel
theorem dX12_cut_37 : decode cX12_cut 37 = .ok (.ireturn, 1) := by decide +kernel
theorem dX12_cut_38 : decode cX12_cut 38 = .ok (.bipush 100, 2) := by decide +kernel
theorem dX12_cut_40 : decode cX12_cut 40 = .ok (.aload_n 0, 1) := by decide +kernel
theorem dX12_cut_41 : decode cX12_cut 41 = .ok (.getfield 61, 3) := by decide +kernel
theorem dX12_cut_44 : decode cX12_cut 44 = .ok (.getfield 327, 3) := by decide +kernel
theorem dX12_cut_47 : decode cX12_cut 47 = .ok (.iconst 4, 1) := by decide +kernel
theorem dX12_cut_48 : decode cX12_cut 48 = .ok (.iload_n 2, 1) := by decide +kernel
theorem dX12_cut_49 : decode cX12_cut 49 = .ok (.iadd, 1) := by decide +kernel
theorem dX12_cut_50 : decode cX12_cut 50 = .ok (.iaload, 1) := by decide +kernel
theorem dX12_cut_51 : decode cX12_cut 51 = .ok (.isub, 1) := by decide +kernel
theorem dX12_cut_52 : decode cX12_cut 52 = .ok (.istore 5, 2) := by decide +kernel
theorem dX12_cut_54 : decode cX12_cut 54 = .ok (.iload 5, 2) := by decide +kernel
theorem dX12_cut_56 : decode cX12_cut 56 = .ok (.iconst 1, 1) := by decide +kernel
theorem dX12_cut_57 : decode cX12_cut 57 = .ok (.if_icmp .ge 5, 3) := by decide +kernel
theorem dX12_cut_60 : decode cX12_cut 60 = .ok (.iconst 0, 1) := by decide +kernel
theorem dX12_cut_61 : decode cX12_cut 61 = .ok (.ireturn, 1) := by decide +kernel
theorem dX12_cut_62 : decode cX12_cut 62 = .ok (.iload_n 1, 1) := by decide +kernel
theorem dX12_cut_63 : decode cX12_cut 63 = .ok (.invokestatic 363, 3) := by decide +kernel
theorem dX12_cut_66 : decode cX12_cut 66 = .ok (.bipush 100, 2) := by decide +kernel
theorem dX12_cut_68 : decode cX12_cut 68 = .ok (.imul, 1) := by decide +kernel
theorem dX12_cut_69 : decode cX12_cut 69 = .ok (.iload 5, 2) := by decide +kernel
theorem dX12_cut_71 : decode cX12_cut 71 = .ok (.iadd, 1) := by decide +kernel
theorem dX12_cut_72 : decode cX12_cut 72 = .ok (.iconst 1, 1) := by decide +kernel
theorem dX12_cut_73 : decode cX12_cut 73 = .ok (.isub, 1) := by decide +kernel
theorem dX12_cut_74 : decode cX12_cut 74 = .ok (.iload 5, 2) := by decide +kernel
theorem dX12_cut_76 : decode cX12_cut 76 = .ok (.idiv, 1) := by decide +kernel
theorem dX12_cut_77 : decode cX12_cut 77 = .ok (.istore 6, 2) := by decide +kernel
theorem dX12_cut_79 : decode cX12_cut 79 = .ok (.iload_n 1, 1) := by decide +kernel
theorem dX12_cut_80 : decode cX12_cut 80 = .ok (.ifCond .ge 9, 3) := by decide +kernel
theorem dX12_cut_83 : decode cX12_cut 83 = .ok (.iload 6, 2) := by decide +kernel
theorem dX12_cut_85 : decode cX12_cut 85 = .ok (.ineg, 1) := by decide +kernel
theorem dX12_cut_86 : decode cX12_cut 86 = .ok (.goto 5, 3) := by decide +kernel
theorem dX12_cut_89 : decode cX12_cut 89 = .ok (.iload 6, 2) := by decide +kernel
theorem dX12_cut_91 : decode cX12_cut 91 = .ok (.istore 7, 2) := by decide +kernel
theorem dX12_cut_93 : decode cX12_cut 93 = .ok (.iload_n 3, 1) := by decide +kernel
theorem dX12_cut_94 : decode cX12_cut 94 = .ok (.ifCond .eq 14, 3) := by decide +kernel
theorem dX12_cut_97 : decode cX12_cut 97 = .ok (.iload 7, 2) := by decide +kernel
theorem dX12_cut_99 : decode cX12_cut 99 = .ok (.iload 5, 2) := by decide +kernel
theorem dX12_cut_101 : decode cX12_cut 101 = .ok (.imul, 1) := by decide +kernel
theorem dX12_cut_102 : decode cX12_cut 102 = .ok (.bipush 100, 2) := by decide +kernel
theorem dX12_cut_104 : decode cX12_cut 104 = .ok (.idiv, 1) := by decide +kernel
theorem dX12_cut_105 : decode cX12_cut 105 = .ok (.goto 5, 3) := by decide +kernel
theorem dX12_cut_108 : decode cX12_cut 108 = .ok (.iload 7, 2) := by decide +kernel
theorem dX12_cut_110 : decode cX12_cut 110 = .ok (.ireturn, 1) := by decide +kernel
set_option maxRecDepth 100000 in
set_option maxHeartbeats 4000000 in
theorem wp_X12_cut {n0 d : Nat} {K : z_K} {I : z_I} {L : z_L} {Q : z_q} {p0 : Int32} {p1 : Int32} {p2 : Int32} (hL : CLay K) (h : RM0 n0 xX12_isAxis d [.int p1] K I L (fun vv I1 L2 => ∃ r3 : Int32, vv = some (.int r3) ∧ (if r3 = 0 then RM0 n0 xX12_refuseApart d [.ref (n0 + 0), .int (-2)] K I1 L2 (fun vv I19 L20 => ∃ r21 : Int32, vv = some (.int r21) ∧ Q (some (.int r21)) I19 L20) else RM0 n0 xX12_outside d [.int p0, .int (-99999), .int 99999] K I1 L2 (fun vv I5 L6 => ∃ r7 : Int32, vv = some (.int r7) ∧ (if r7 = 0 then vp_in (4 + p1) 6 ∧ (if ((100 - (I5 26 ((4 + p1).toNatClampNeg))) : Int32) < 1 then Q (some (.int 0)) I5 L6 else ¬ ((100 - (I5 26 ((4 + p1).toNatClampNeg))) : Int32) = 0 ∧ Q (some (.int (if p2 = 0 then (if p0 < 0 then (-(((((if 0 ≤ p0 then p0 else 0 - p0) * 100) + (100 - (I5 26 ((4 + p1).toNatClampNeg)))) - 1) / (100 - (I5 26 ((4 + p1).toNatClampNeg))))) else (((((if 0 ≤ p0 then p0 else 0 - p0) * 100) + (100 - (I5 26 ((4 + p1).toNatClampNeg)))) - 1) / (100 - (I5 26 ((4 + p1).toNatClampNeg))))) else (((if p0 < 0 then (-(((((if 0 ≤ p0 then p0 else 0 - p0) * 100) + (100 - (I5 26 ((4 + p1).toNatClampNeg)))) - 1) / (100 - (I5 26 ((4 + p1).toNatClampNeg))))) else (((((if 0 ≤ p0 then p0 else 0 - p0) * 100) + (100 - (I5 26 ((4 + p1).toNatClampNeg)))) - 1) / (100 - (I5 26 ((4 + p1).toNatClampNeg))))) * (100 - (I5 26 ((4 + p1).toNatClampNeg)))) / 100)))) I5 L6) else RM0 n0 xX12_refuseApart d [.ref (n0 + 0), .int r7] K I5 L6 (fun vv I16 L17 => ∃ r18 : Int32, vv = some (.int r18) ∧ Q (some (.int r18)) I16 L17)))))) : RM0 n0 xX12_cut (d + 1) [.ref (n0 + 0), .int p0, .int p1, .int p2] K I L Q := by
  refine z_entry0 (by decide) (Nat.le_of_ble_eq_true rfl) ?_
  change Z n0 xX12_cut (d + 1) 0 0 0 [(0, .ref (n0 + 0)), (1, .int p0), (2, .int p1), (3, .int p2)] [] K I L (z_q0 K Q)
  refine z_iload_n 2 dX12_cut_0 rfl ?_
  refine z_callS0 (As := [.int p1]) (st := []) dX12_cut_1 hy_X12_isAxis wg_828 wg_829 (Nat.le_refl _) (Nat.le_of_ble_eq_true rfl) (RM0.mono h ?_)
  clear h
  intro vv I1 L2 h
  obtain ⟨r3, rfl, h⟩ := h
  change Z n0 xX12_cut (d + 1) 0 0 4 [(0, .ref (n0 + 0)), (1, .int p0), (2, .int p1), (3, .int p2)] [.int r3] K I1 L2 (z_q0 K Q)
  refine z_if_ne 14 dX12_cut_4 (by decide) (fun g4 => ?_) (fun g4 => ?_)
  · rw [if_neg g4] at h
    refine z_iload_n 1 dX12_cut_14 rfl ?_
    refine z_ldc_w (-99999) dX12_cut_15 wg_1214 ?_
    refine z_ldc_w 99999 dX12_cut_18 wg_999 ?_
    refine z_callS0 (As := [.int p0, .int (-99999), .int 99999]) (st := []) dX12_cut_21 hy_X12_outside wg_476 wg_477 (Nat.le_refl _) (Nat.le_of_ble_eq_true rfl) (RM0.mono h ?_)
    clear h
    intro vv I5 L6 h
    obtain ⟨r7, rfl, h⟩ := h
    change Z n0 xX12_cut (d + 1) 0 0 24 [(0, .ref (n0 + 0)), (1, .int p0), (2, .int p1), (3, .int p2)] [.int r7] K I5 L6 (z_q0 K Q)
    refine z_istore [1, 2, 3, 4, 0] [(0, .ref (n0 + 0)), (1, .int p0), (2, .int p1), (3, .int p2), (4, .int r7)] dX12_cut_24 (by decide) rfl ?_
    refine z_iload 4 dX12_cut_26 rfl ?_
    refine z_if_eq 38 dX12_cut_28 (by decide) (fun g8 => ?_) (fun g8 => ?_)
    · rw [if_pos g8] at h
      refine z_bipush 100 dX12_cut_38 (by decide) ?_
      refine z_aload_n 0 dX12_cut_40 rfl ?_
      refine fg_12_61 (some 25) rfl dX12_cut_41 (co_0 hL).1 (co_0 hL).2 (cp_25 hL) ?_
      refine fg_12_327 (some 26) rfl dX12_cut_44 (co_25 hL).1 (co_25 hL).2 (ca_26 hL).1 ?_
      refine z_iconst 4 dX12_cut_47 (by decide) ?_
      refine z_iload_n 2 dX12_cut_48 rfl ?_
      refine z_iadd dX12_cut_49 ?_
      obtain ⟨o9, h⟩ := h
      refine z_iald (I5 26 ((4 + p1).toNatClampNeg)) dX12_cut_50 (ca_26 hL).2.1 (ca_26 hL).2.2 o9 rfl ?_
      refine z_isub dX12_cut_51 ?_
      refine z_istore [1, 2, 3, 4, 5, 0] [(0, .ref (n0 + 0)), (1, .int p0), (2, .int p1), (3, .int p2), (4, .int r7), (5, .int (100 - (I5 26 ((4 + p1).toNatClampNeg))))] dX12_cut_52 (by decide) rfl ?_
      refine z_iload 5 dX12_cut_54 rfl ?_
      refine z_iconst 1 dX12_cut_56 (by decide) ?_
      refine z_icmp_ge 62 dX12_cut_57 (by decide) (fun g10 => ?_) (fun g10 => ?_)
      · rw [if_neg g10] at h
        refine z_iload_n 1 dX12_cut_62 rfl ?_
        refine z_mabs dX12_cut_63 wg_1215 (by omega) (Nat.le_of_ble_eq_true rfl) ?_
        refine z_bipush 100 dX12_cut_66 (by decide) ?_
        refine z_imul dX12_cut_68 ?_
        refine z_iload 5 dX12_cut_69 rfl ?_
        refine z_iadd dX12_cut_71 ?_
        refine z_iconst 1 dX12_cut_72 (by decide) ?_
        refine z_isub dX12_cut_73 ?_
        refine z_iload 5 dX12_cut_74 rfl ?_
        obtain ⟨o11, h⟩ := h
        refine z_idiv dX12_cut_76 o11 ?_
        refine z_istore [1, 2, 3, 4, 5, 6, 0] [(0, .ref (n0 + 0)), (1, .int p0), (2, .int p1), (3, .int p2), (4, .int r7), (5, .int (100 - (I5 26 ((4 + p1).toNatClampNeg)))), (6, .int (((((if 0 ≤ p0 then p0 else 0 - p0) * 100) + (100 - (I5 26 ((4 + p1).toNatClampNeg)))) - 1) / (100 - (I5 26 ((4 + p1).toNatClampNeg)))))] dX12_cut_77 (by decide) rfl ?_
        refine z_iload_n 1 dX12_cut_79 rfl ?_
        have key13 : Z n0 xX12_cut (d + 1) 0 0 91 [(3, .int p2), (5, .int (100 - (I5 26 ((4 + p1).toNatClampNeg))))] [.int (if p0 < 0 then (-(((((if 0 ≤ p0 then p0 else 0 - p0) * 100) + (100 - (I5 26 ((4 + p1).toNatClampNeg)))) - 1) / (100 - (I5 26 ((4 + p1).toNatClampNeg))))) else (((((if 0 ≤ p0 then p0 else 0 - p0) * 100) + (100 - (I5 26 ((4 + p1).toNatClampNeg)))) - 1) / (100 - (I5 26 ((4 + p1).toNatClampNeg)))))] K I5 L6 (z_q0 K Q) := by
          refine z_istore [1, 2, 0] [(3, .int p2), (5, .int (100 - (I5 26 ((4 + p1).toNatClampNeg)))), (7, .int (if p0 < 0 then (-(((((if 0 ≤ p0 then p0 else 0 - p0) * 100) + (100 - (I5 26 ((4 + p1).toNatClampNeg)))) - 1) / (100 - (I5 26 ((4 + p1).toNatClampNeg))))) else (((((if 0 ≤ p0 then p0 else 0 - p0) * 100) + (100 - (I5 26 ((4 + p1).toNatClampNeg)))) - 1) / (100 - (I5 26 ((4 + p1).toNatClampNeg))))))] dX12_cut_91 (by decide) rfl ?_
          refine z_iload_n 0 dX12_cut_93 rfl ?_
          have key15 : Z n0 xX12_cut (d + 1) 0 0 110 [] [.int (if p2 = 0 then (if p0 < 0 then (-(((((if 0 ≤ p0 then p0 else 0 - p0) * 100) + (100 - (I5 26 ((4 + p1).toNatClampNeg)))) - 1) / (100 - (I5 26 ((4 + p1).toNatClampNeg))))) else (((((if 0 ≤ p0 then p0 else 0 - p0) * 100) + (100 - (I5 26 ((4 + p1).toNatClampNeg)))) - 1) / (100 - (I5 26 ((4 + p1).toNatClampNeg))))) else (((if p0 < 0 then (-(((((if 0 ≤ p0 then p0 else 0 - p0) * 100) + (100 - (I5 26 ((4 + p1).toNatClampNeg)))) - 1) / (100 - (I5 26 ((4 + p1).toNatClampNeg))))) else (((((if 0 ≤ p0 then p0 else 0 - p0) * 100) + (100 - (I5 26 ((4 + p1).toNatClampNeg)))) - 1) / (100 - (I5 26 ((4 + p1).toNatClampNeg))))) * (100 - (I5 26 ((4 + p1).toNatClampNeg)))) / 100))] K I5 L6 (z_q0 K Q) := by
            exact z_iret dX12_cut_110 rfl ⟨rfl, h⟩
          refine z_if_eq 108 dX12_cut_94 (by decide) (fun g14 => ?_) (fun g14 => ?_)
          · refine z_iload 2 dX12_cut_108 rfl ?_
            have ee : ((if p2 = 0 then (if p0 < 0 then (-(((((if 0 ≤ p0 then p0 else 0 - p0) * 100) + (100 - (I5 26 ((4 + p1).toNatClampNeg)))) - 1) / (100 - (I5 26 ((4 + p1).toNatClampNeg))))) else (((((if 0 ≤ p0 then p0 else 0 - p0) * 100) + (100 - (I5 26 ((4 + p1).toNatClampNeg)))) - 1) / (100 - (I5 26 ((4 + p1).toNatClampNeg))))) else (((if p0 < 0 then (-(((((if 0 ≤ p0 then p0 else 0 - p0) * 100) + (100 - (I5 26 ((4 + p1).toNatClampNeg)))) - 1) / (100 - (I5 26 ((4 + p1).toNatClampNeg))))) else (((((if 0 ≤ p0 then p0 else 0 - p0) * 100) + (100 - (I5 26 ((4 + p1).toNatClampNeg)))) - 1) / (100 - (I5 26 ((4 + p1).toNatClampNeg))))) * (100 - (I5 26 ((4 + p1).toNatClampNeg)))) / 100)) : Int32) = (if p0 < 0 then (-(((((if 0 ≤ p0 then p0 else 0 - p0) * 100) + (100 - (I5 26 ((4 + p1).toNatClampNeg)))) - 1) / (100 - (I5 26 ((4 + p1).toNatClampNeg))))) else (((((if 0 ≤ p0 then p0 else 0 - p0) * 100) + (100 - (I5 26 ((4 + p1).toNatClampNeg)))) - 1) / (100 - (I5 26 ((4 + p1).toNatClampNeg))))) := by rw [if_pos g14]
            rw [ee] at key15
            clear ee
            refine z_sub [] rfl ?_
            exact key15
          · refine z_iload 2 dX12_cut_97 rfl ?_
            refine z_iload 1 dX12_cut_99 rfl ?_
            refine z_imul dX12_cut_101 ?_
            refine z_bipush 100 dX12_cut_102 (by decide) ?_
            refine z_idiv dX12_cut_104 (by decide) ?_
            refine z_goto 110 dX12_cut_105 (by decide) ?_
            have ee : ((if p2 = 0 then (if p0 < 0 then (-(((((if 0 ≤ p0 then p0 else 0 - p0) * 100) + (100 - (I5 26 ((4 + p1).toNatClampNeg)))) - 1) / (100 - (I5 26 ((4 + p1).toNatClampNeg))))) else (((((if 0 ≤ p0 then p0 else 0 - p0) * 100) + (100 - (I5 26 ((4 + p1).toNatClampNeg)))) - 1) / (100 - (I5 26 ((4 + p1).toNatClampNeg))))) else (((if p0 < 0 then (-(((((if 0 ≤ p0 then p0 else 0 - p0) * 100) + (100 - (I5 26 ((4 + p1).toNatClampNeg)))) - 1) / (100 - (I5 26 ((4 + p1).toNatClampNeg))))) else (((((if 0 ≤ p0 then p0 else 0 - p0) * 100) + (100 - (I5 26 ((4 + p1).toNatClampNeg)))) - 1) / (100 - (I5 26 ((4 + p1).toNatClampNeg))))) * (100 - (I5 26 ((4 + p1).toNatClampNeg)))) / 100)) : Int32) = (((if p0 < 0 then (-(((((if 0 ≤ p0 then p0 else 0 - p0) * 100) + (100 - (I5 26 ((4 + p1).toNatClampNeg)))) - 1) / (100 - (I5 26 ((4 + p1).toNatClampNeg))))) else (((((if 0 ≤ p0 then p0 else 0 - p0) * 100) + (100 - (I5 26 ((4 + p1).toNatClampNeg)))) - 1) / (100 - (I5 26 ((4 + p1).toNatClampNeg))))) * (100 - (I5 26 ((4 + p1).toNatClampNeg)))) / 100) := by rw [if_neg g14]
            rw [ee] at key15
            clear ee
            refine z_sub [] rfl ?_
            exact key15
        refine z_if_ge 89 dX12_cut_80 (by decide) (fun g12 => ?_) (fun g12 => ?_)
        · refine z_iload 6 dX12_cut_89 rfl ?_
          have ee : ((if p0 < 0 then (-(((((if 0 ≤ p0 then p0 else 0 - p0) * 100) + (100 - (I5 26 ((4 + p1).toNatClampNeg)))) - 1) / (100 - (I5 26 ((4 + p1).toNatClampNeg))))) else (((((if 0 ≤ p0 then p0 else 0 - p0) * 100) + (100 - (I5 26 ((4 + p1).toNatClampNeg)))) - 1) / (100 - (I5 26 ((4 + p1).toNatClampNeg))))) : Int32) = (((((if 0 ≤ p0 then p0 else 0 - p0) * 100) + (100 - (I5 26 ((4 + p1).toNatClampNeg)))) - 1) / (100 - (I5 26 ((4 + p1).toNatClampNeg)))) := by rw [if_neg g12]
          rw [ee] at key13
          clear ee
          refine z_sub [3, 5] rfl ?_
          exact key13
        · refine z_iload 6 dX12_cut_83 rfl ?_
          refine z_ineg dX12_cut_85 ?_
          refine z_goto 91 dX12_cut_86 (by decide) ?_
          have ee : ((if p0 < 0 then (-(((((if 0 ≤ p0 then p0 else 0 - p0) * 100) + (100 - (I5 26 ((4 + p1).toNatClampNeg)))) - 1) / (100 - (I5 26 ((4 + p1).toNatClampNeg))))) else (((((if 0 ≤ p0 then p0 else 0 - p0) * 100) + (100 - (I5 26 ((4 + p1).toNatClampNeg)))) - 1) / (100 - (I5 26 ((4 + p1).toNatClampNeg))))) : Int32) = (-(((((if 0 ≤ p0 then p0 else 0 - p0) * 100) + (100 - (I5 26 ((4 + p1).toNatClampNeg)))) - 1) / (100 - (I5 26 ((4 + p1).toNatClampNeg))))) := by rw [if_pos g12]
          rw [ee] at key13
          clear ee
          refine z_sub [3, 5] rfl ?_
          exact key13
      · rw [if_pos g10] at h
        refine z_iconst 0 dX12_cut_60 (by decide) ?_
        exact z_iret dX12_cut_61 rfl ⟨rfl, h⟩
    · rw [if_neg g8] at h
      refine z_aload_n 0 dX12_cut_31 rfl ?_
      refine z_iload 4 dX12_cut_32 rfl ?_
      refine z_callV0 (As := [.int r7]) (st := []) dX12_cut_34 hy_X12_refuseApart (co_0 hL).1 (co_0 hL).2 (by decide) wg_555 wg_557 wg_3 (Nat.le_refl _) (Nat.le_of_ble_eq_true rfl) (RM0.mono h ?_)
      clear h
      intro vv I16 L17 h
      obtain ⟨r18, rfl, h⟩ := h
      change Z n0 xX12_cut (d + 1) 0 0 37 [(0, .ref (n0 + 0)), (1, .int p0), (2, .int p1), (3, .int p2), (4, .int r7)] [.int r18] K I16 L17 (z_q0 K Q)
      exact z_iret dX12_cut_37 rfl ⟨rfl, h⟩
  · rw [if_pos g4] at h
    refine z_aload_n 0 dX12_cut_7 rfl ?_
    refine z_bipush (-2) dX12_cut_8 (by decide) ?_
    refine z_callV0 (As := [.int (-2)]) (st := []) dX12_cut_10 hy_X12_refuseApart (co_0 hL).1 (co_0 hL).2 (by decide) wg_555 wg_557 wg_3 (Nat.le_refl _) (Nat.le_of_ble_eq_true rfl) (RM0.mono h ?_)
    clear h
    intro vv I19 L20 h
    obtain ⟨r21, rfl, h⟩ := h
    change Z n0 xX12_cut (d + 1) 0 0 13 [(0, .ref (n0 + 0)), (1, .int p0), (2, .int p1), (3, .int p2)] [.int r21] K I19 L20 (z_q0 K Q)
    exact z_iret dX12_cut_13 rfl ⟨rfl, h⟩
theorem dX12_trial_0 : decode cX12_trial 0 = .ok (.aload_n 0, 1) := by decide +kernel
theorem dX12_trial_1 : decode cX12_trial 1 = .ok (.iload_n 1, 1) := by decide +kernel
theorem dX12_trial_2 : decode cX12_trial 2 = .ok (.iload_n 3, 1) := by decide +kernel
theorem dX12_trial_3 : decode cX12_trial 3 = .ok (.invokevirtual 160, 3) := by decide +kernel
theorem dX12_trial_6 : decode cX12_trial 6 = .ok (.astore 7, 2) := by decide +kernel
theorem dX12_trial_8 : decode cX12_trial 8 = .ok (.aload_n 0, 1) := by decide +kernel
theorem dX12_trial_9 : decode cX12_trial 9 = .ok (.iload_n 2, 1) := by decide +kernel
theorem dX12_trial_10 : decode cX12_trial 10 = .ok (.invokevirtual 122, 3) := by decide +kernel
theorem dX12_trial_13 : decode cX12_trial 13 = .ok (.astore 8, 2) := by decide +kernel
theorem dX12_trial_15 : decode cX12_trial 15 = .ok (.aload 7, 2) := by decide +kernel
theorem dX12_trial_17 : decode cX12_trial 17 = .ok (.ifnull 18, 3) := by decide +kernel
theorem dX12_trial_20 : decode cX12_trial 20 = .ok (.aload 7, 2) := by decide +kernel
theorem dX12_trial_22 : decode cX12_trial 22 = .ok (.iload 4, 2) := by decide +kernel
theorem dX12_trial_24 : decode cX12_trial 24 = .ok (.invokevirtual 246, 3) := by decide +kernel
theorem dX12_trial_27 : decode cX12_trial 27 = .ok (.ifCond .eq 8, 3) := by decide +kernel
theorem dX12_trial_30 : decode cX12_trial 30 = .ok (.aload 8, 2) := by decide +kernel
theorem dX12_trial_32 : decode cX12_trial 32 = .ok (.ifnonnull 9, 3) := by decide +kernel
theorem dX12_trial_35 : decode cX12_trial 35 = .ok (.aload_n 0, 1) := by decide +kernel
theorem dX12_trial_36 : decode cX12_trial 36 = .ok (.iconst (-1), 1) := by decide +kernel
theorem dX12_trial_37 : decode cX12_trial 37 = .ok (.invokevirtual 85, 3) := by decide +kernel
theorem dX12_trial_40 : decode cX12_trial 40 = .ok (.ireturn, 1) := by decide +kernel
theorem dX12_trial_41 : decode cX12_trial 41 = .ok (.iload 5, 2) := by decide +kernel
theorem dX12_trial_43 : decode cX12_trial 43 = .ok (.ifCond .lt 8, 3) := by decide +kernel
theorem dX12_trial_46 : decode cX12_trial 46 = .ok (.iload 6, 2) := by decide +kernel
theorem dX12_trial_48 : decode cX12_trial 48 = .ok (.ifCond .ge 10, 3) := by decide +kernel
theorem dX12_trial_51 : decode cX12_trial 51 = .ok (.aload_n 0, 1) := by decide +kernel
theorem dX12_trial_52 : decode cX12_trial 52 = .ok (.bipush (-4), 2) := by decide +kernel
theorem dX12_trial_54 : decode cX12_trial 54 = .ok (.invokevirtual 85, 3) := by decide +kernel
theorem dX12_trial_57 : decode cX12_trial 57 = .ok (.ireturn, 1) := by decide +kernel
theorem dX12_trial_58 : decode cX12_trial 58 = .ok (.iload 5, 2) := by decide +kernel
theorem dX12_trial_60 : decode cX12_trial 60 = .ok (.ldc_w 270, 3) := by decide +kernel
theorem dX12_trial_63 : decode cX12_trial 63 = .ok (.if_icmp .gt 20, 3) := by decide +kernel
theorem dX12_trial_66 : decode cX12_trial 66 = .ok (.iload 6, 2) := by decide +kernel
theorem dX12_trial_68 : decode cX12_trial 68 = .ok (.sipush 999, 3) := by decide +kernel
theorem dX12_trial_71 : decode cX12_trial 71 = .ok (.if_icmp .gt 12, 3) := by decide +kernel
theorem dX12_trial_74 : decode cX12_trial 74 = .ok (.aload_n 0, 1) := by decide +kernel
theorem dX12_trial_75 : decode cX12_trial 75 = .ok (.getfield 366, 3) := by decide +kernel
theorem dX12_trial_78 : decode cX12_trial 78 = .ok (.bipush 30, 2) := by decide +kernel
theorem dX12_trial_80 : decode cX12_trial 80 = .ok (.if_icmp .lt 10, 3) := by decide +kernel
theorem dX12_trial_83 : decode cX12_trial 83 = .ok (.aload_n 0, 1) := by decide +kernel
theorem dX12_trial_84 : decode cX12_trial 84 = .ok (.bipush (-6), 2) := by decide +kernel
theorem dX12_trial_86 : decode cX12_trial 86 = .ok (.invokevirtual 85, 3) := by decide +kernel
theorem dX12_trial_89 : decode cX12_trial 89 = .ok (.ireturn, 1) := by decide +kernel
theorem dX12_trial_90 : decode cX12_trial 90 = .ok (.aload 8, 2) := by decide +kernel
theorem dX12_trial_92 : decode cX12_trial 92 = .ok (.iload_n 1, 1) := by decide +kernel
theorem dX12_trial_93 : decode cX12_trial 93 = .ok (.iload_n 3, 1) := by decide +kernel
theorem dX12_trial_94 : decode cX12_trial 94 = .ok (.iload 4, 2) := by decide +kernel
theorem dX12_trial_96 : decode cX12_trial 96 = .ok (.invokestatic 369, 3) := by decide +kernel
theorem dX12_trial_99 : decode cX12_trial 99 = .ok (.iload 5, 2) := by decide +kernel
theorem dX12_trial_101 : decode cX12_trial 101 = .ok (.iload 6, 2) := by decide +kernel
theorem dX12_trial_103 : decode cX12_trial 103 = .ok (.isub, 1) := by decide +kernel
theorem dX12_trial_104 : decode cX12_trial 104 = .ok (.iload 5, 2) := by decide +kernel
theorem dX12_trial_106 : decode cX12_trial 106 = .ok (.iload 6, 2) := by decide +kernel
theorem dX12_trial_108 : decode cX12_trial 108 = .ok (.iadd, 1) := by decide +kernel
theorem dX12_trial_109 : decode cX12_trial 109 = .ok (.invokevirtual 372, 3) := by decide +kernel
theorem dX12_trial_112 : decode cX12_trial 112 = .ok (.aload_n 0, 1) := by decide +kernel
theorem dX12_trial_113 : decode cX12_trial 113 = .ok (.dup, 1) := by decide +kernel
theorem dX12_trial_114 : decode cX12_trial 114 = .ok (.getfield 366, 3) := by decide +kernel
theorem dX12_trial_117 : decode cX12_trial 117 = .ok (.iconst 1, 1) := by decide +kernel
theorem dX12_trial_118 : decode cX12_trial 118 = .ok (.iadd, 1) := by decide +kernel
theorem dX12_trial_119 : decode cX12_trial 119 = .ok (.putfield 366, 3) := by decide +kernel
theorem dX12_trial_122 : decode cX12_trial 122 = .ok (.aload_n 0, 1) := by decide +kernel
theorem dX12_trial_123 : decode cX12_trial 123 = .ok (.getfield 366, 3) := by decide +kernel
theorem dX12_trial_126 : decode cX12_trial 126 = .ok (.ireturn, 1) := by decide +kernel
set_option maxRecDepth 100000 in
set_option maxHeartbeats 4000000 in
theorem wp_X12_trial {n0 d : Nat} {K : z_K} {I : z_I} {L : z_L} {Q : z_q} {p0 : Int32} {p1 : Int32} {p2 : Int32} {p3 : Int32} {p4 : Int32} {p5 : Int32} (hL : CLay K) (h : RM0 n0 xX12_pieceWith d [.ref (n0 + 0), .int p0, .int p2] K I L (fun vv I1 L2 => ∃ r3 : Option Nat, vv = some (zr n0 r3) ∧ RM0 n0 xX12_bodyOf d [.ref (n0 + 0), .int p1] K I1 L2 (fun vv I4 L5 => ∃ r6 : Option Nat, vv = some (zr n0 r6) ∧ ((r3 = none → RM0 n0 xX12_refuse d [.ref (n0 + 0), .int (-1)] K I4 L5 (fun vv I9 L10 => ∃ r11 : Int32, vv = some (.int r11) ∧ Q (some (.int r11)) I9 L10)) ∧ (∀ q8, r3 = some q8 → q8 < K.1 ∧ (K.2.1 q8).1 = 5 ∧ RM0 n0 xX5_has d [.ref (n0 + q8), .int p3] K I4 L5 (fun vv I14 L15 => ∃ r16 : Int32, vv = some (.int r16) ∧ (if r16 = 0 then RM0 n0 xX12_refuse d [.ref (n0 + 0), .int (-1)] K I14 L15 (fun vv I18 L19 => ∃ r20 : Int32, vv = some (.int r20) ∧ Q (some (.int r20)) I18 L19) else ((r6 = none → RM0 n0 xX12_refuse d [.ref (n0 + 0), .int (-1)] K I14 L15 (fun vv I23 L24 => ∃ r25 : Int32, vv = some (.int r25) ∧ Q (some (.int r25)) I23 L24)) ∧ (∀ q22, r6 = some q22 → (if p4 < 0 then RM0 n0 xX12_refuse d [.ref (n0 + 0), .int (-4)] K I14 L15 (fun vv I27 L28 => ∃ r29 : Int32, vv = some (.int r29) ∧ Q (some (.int r29)) I27 L28) else (if p5 < 0 then RM0 n0 xX12_refuse d [.ref (n0 + 0), .int (-4)] K I14 L15 (fun vv I50 L51 => ∃ r52 : Int32, vv = some (.int r52) ∧ Q (some (.int r52)) I50 L51) else (if 99999 < p4 then RM0 n0 xX12_refuse d [.ref (n0 + 0), .int (-6)] K I14 L15 (fun vv I32 L33 => ∃ r34 : Int32, vv = some (.int r34) ∧ Q (some (.int r34)) I32 L33) else (if 999 < p5 then RM0 n0 xX12_refuse d [.ref (n0 + 0), .int (-6)] K I14 L15 (fun vv I36 L37 => ∃ r38 : Int32, vv = some (.int r38) ∧ Q (some (.int r38)) I36 L37) else (if ((I14 0 6) : Int32) < 30 then RM0 n0 xX12_trialKey d [.int p0, .int p2, .int p3] K I14 L15 (fun vv I40 L41 => ∃ r42 : Int32, vv = some (.int r42) ∧ q22 < K.1 ∧ (K.2.1 q22).1 = 0 ∧ RM0 n0 xX0_addTrial d [.ref (n0 + q22), .int r42, .int (p4 - p5), .int (p4 + p5)] K I40 L41 (fun vv I45 L46 => vv = none ∧ Q (some (.int (((I45 0 6) + 1)))) (zI I45 0 6 ((I45 0 6) + 1)) L46)) else RM0 n0 xX12_refuse d [.ref (n0 + 0), .int (-6)] K I14 L15 (fun vv I47 L48 => ∃ r49 : Int32, vv = some (.int r49) ∧ Q (some (.int r49)) I47 L48))))))))))))))) : RM0 n0 xX12_trial (d + 1) [.ref (n0 + 0), .int p0, .int p1, .int p2, .int p3, .int p4, .int p5] K I L Q := by
  refine z_entry0 (by decide) (Nat.le_of_ble_eq_true rfl) ?_
  change Z n0 xX12_trial (d + 1) 0 0 0 [(0, .ref (n0 + 0)), (1, .int p0), (2, .int p1), (3, .int p2), (4, .int p3), (5, .int p4), (6, .int p5)] [] K I L (z_q0 K Q)
  refine z_aload_n 0 dX12_trial_0 rfl ?_
  refine z_iload_n 1 dX12_trial_1 rfl ?_
  refine z_iload_n 3 dX12_trial_2 rfl ?_
  refine z_callV0 (As := [.int p0, .int p2]) (st := []) dX12_trial_3 hy_X12_pieceWith (co_0 hL).1 (co_0 hL).2 (by decide) wg_655 wg_657 wg_6 (Nat.le_refl _) (Nat.le_of_ble_eq_true rfl) (RM0.mono h ?_)
  clear h
  intro vv I1 L2 h
  obtain ⟨r3, rfl, h⟩ := h
  change Z n0 xX12_trial (d + 1) 0 0 6 [(0, .ref (n0 + 0)), (1, .int p0), (2, .int p1), (3, .int p2), (4, .int p3), (5, .int p4), (6, .int p5)] [zr n0 r3] K I1 L2 (z_q0 K Q)
  refine z_astoreO [1, 2, 3, 4, 5, 6, 7, 0] [(0, .ref (n0 + 0)), (1, .int p0), (2, .int p1), (3, .int p2), (4, .int p3), (5, .int p4), (6, .int p5), (7, zr n0 r3)] dX12_trial_6 (by decide) (fun v hv => by subst hv; rfl) ?_
  refine z_aload_n 0 dX12_trial_8 rfl ?_
  refine z_iload_n 2 dX12_trial_9 rfl ?_
  refine z_callV0 (As := [.int p1]) (st := []) dX12_trial_10 hy_X12_bodyOf (co_0 hL).1 (co_0 hL).2 (by decide) wg_551 wg_553 wg_2 (Nat.le_refl _) (Nat.le_of_ble_eq_true rfl) (RM0.mono h ?_)
  clear h
  intro vv I4 L5 h
  obtain ⟨r6, rfl, h⟩ := h
  change Z n0 xX12_trial (d + 1) 0 0 13 [(0, .ref (n0 + 0)), (1, .int p0), (2, .int p1), (3, .int p2), (4, .int p3), (5, .int p4), (6, .int p5), (7, zr n0 r3)] [zr n0 r6] K I4 L5 (z_q0 K Q)
  refine z_astoreO [1, 2, 3, 4, 5, 6, 7, 8, 0] [(0, .ref (n0 + 0)), (1, .int p0), (2, .int p1), (3, .int p2), (4, .int p3), (5, .int p4), (6, .int p5), (7, zr n0 r3), (8, zr n0 r6)] dX12_trial_13 (by decide) (fun v hv => by subst hv; cases r3 <;> rfl) ?_
  refine z_aloadO 7 dX12_trial_15 rfl ?_
  refine z_ifnull 35 dX12_trial_17 (by decide) (fun g7 => ?_) (fun q8 g7 => ?_)
  · replace h := h.1 g7
    subst g7
    change Z n0 xX12_trial (d + 1) 0 0 35 [(0, .ref (n0 + 0)), (1, .int p0), (2, .int p1), (3, .int p2), (4, .int p3), (5, .int p4), (6, .int p5), (7, .null), (8, zr n0 r6)] [] K I4 L5 (z_q0 K Q)
    refine z_aload_n 0 dX12_trial_35 rfl ?_
    refine z_iconst (-1) dX12_trial_36 (by decide) ?_
    refine z_callV0 (As := [.int (-1)]) (st := []) dX12_trial_37 hy_X12_refuse (co_0 hL).1 (co_0 hL).2 (by decide) wg_462 wg_464 wg_0 (Nat.le_refl _) (Nat.le_of_ble_eq_true rfl) (RM0.mono h ?_)
    clear h
    intro vv I9 L10 h
    obtain ⟨r11, rfl, h⟩ := h
    change Z n0 xX12_trial (d + 1) 0 0 40 [(0, .ref (n0 + 0)), (1, .int p0), (2, .int p1), (3, .int p2), (4, .int p3), (5, .int p4), (6, .int p5), (7, .null), (8, zr n0 r6)] [.int r11] K I9 L10 (z_q0 K Q)
    exact z_iret dX12_trial_40 rfl ⟨rfl, h⟩
  · replace h := h.2 q8 g7
    subst g7
    change Z n0 xX12_trial (d + 1) 0 0 20 [(0, .ref (n0 + 0)), (1, .int p0), (2, .int p1), (3, .int p2), (4, .int p3), (5, .int p4), (6, .int p5), (7, .ref (n0 + q8)), (8, zr n0 r6)] [] K I4 L5 (z_q0 K Q)
    refine z_aload 7 dX12_trial_20 rfl ?_
    refine z_iload 4 dX12_trial_22 rfl ?_
    obtain ⟨o12, o13, h⟩ := h
    refine z_callV0 (As := [.int p3]) (st := []) dX12_trial_24 hy_X5_has o12 o13 (by decide) wg_659 wg_660 wg_661 (Nat.le_refl _) (Nat.le_of_ble_eq_true rfl) (RM0.mono h ?_)
    clear h
    intro vv I14 L15 h
    obtain ⟨r16, rfl, h⟩ := h
    change Z n0 xX12_trial (d + 1) 0 0 27 [(0, .ref (n0 + 0)), (1, .int p0), (2, .int p1), (3, .int p2), (4, .int p3), (5, .int p4), (6, .int p5), (7, .ref (n0 + q8)), (8, zr n0 r6)] [.int r16] K I14 L15 (z_q0 K Q)
    refine z_if_eq 35 dX12_trial_27 (by decide) (fun g17 => ?_) (fun g17 => ?_)
    · rw [if_pos g17] at h
      refine z_aload_n 0 dX12_trial_35 rfl ?_
      refine z_iconst (-1) dX12_trial_36 (by decide) ?_
      refine z_callV0 (As := [.int (-1)]) (st := []) dX12_trial_37 hy_X12_refuse (co_0 hL).1 (co_0 hL).2 (by decide) wg_462 wg_464 wg_0 (Nat.le_refl _) (Nat.le_of_ble_eq_true rfl) (RM0.mono h ?_)
      clear h
      intro vv I18 L19 h
      obtain ⟨r20, rfl, h⟩ := h
      change Z n0 xX12_trial (d + 1) 0 0 40 [(0, .ref (n0 + 0)), (1, .int p0), (2, .int p1), (3, .int p2), (4, .int p3), (5, .int p4), (6, .int p5), (7, .ref (n0 + q8)), (8, zr n0 r6)] [.int r20] K I18 L19 (z_q0 K Q)
      exact z_iret dX12_trial_40 rfl ⟨rfl, h⟩
    · rw [if_neg g17] at h
      refine z_aloadO 8 dX12_trial_30 rfl ?_
      refine z_ifnonnull 41 dX12_trial_32 (by decide) (fun q22 g21 => ?_) (fun g21 => ?_)
      · replace h := h.2 q22 g21
        subst g21
        change Z n0 xX12_trial (d + 1) 0 0 41 [(0, .ref (n0 + 0)), (1, .int p0), (2, .int p1), (3, .int p2), (4, .int p3), (5, .int p4), (6, .int p5), (7, .ref (n0 + q8)), (8, .ref (n0 + q22))] [] K I14 L15 (z_q0 K Q)
        refine z_iload 5 dX12_trial_41 rfl ?_
        refine z_if_lt 51 dX12_trial_43 (by decide) (fun g26 => ?_) (fun g26 => ?_)
        · rw [if_pos g26] at h
          refine z_aload_n 0 dX12_trial_51 rfl ?_
          refine z_bipush (-4) dX12_trial_52 (by decide) ?_
          refine z_callV0 (As := [.int (-4)]) (st := []) dX12_trial_54 hy_X12_refuse (co_0 hL).1 (co_0 hL).2 (by decide) wg_462 wg_464 wg_0 (Nat.le_refl _) (Nat.le_of_ble_eq_true rfl) (RM0.mono h ?_)
          clear h
          intro vv I27 L28 h
          obtain ⟨r29, rfl, h⟩ := h
          change Z n0 xX12_trial (d + 1) 0 0 57 [(0, .ref (n0 + 0)), (1, .int p0), (2, .int p1), (3, .int p2), (4, .int p3), (5, .int p4), (6, .int p5), (7, .ref (n0 + q8)), (8, .ref (n0 + q22))] [.int r29] K I27 L28 (z_q0 K Q)
          exact z_iret dX12_trial_57 rfl ⟨rfl, h⟩
        · rw [if_neg g26] at h
          refine z_iload 6 dX12_trial_46 rfl ?_
          refine z_if_ge 58 dX12_trial_48 (by decide) (fun g30 => ?_) (fun g30 => ?_)
          · rw [if_neg g30] at h
            refine z_iload 5 dX12_trial_58 rfl ?_
            refine z_ldc_w 99999 dX12_trial_60 wg_999 ?_
            refine z_icmp_gt 83 dX12_trial_63 (by decide) (fun g31 => ?_) (fun g31 => ?_)
            · rw [if_pos g31] at h
              refine z_aload_n 0 dX12_trial_83 rfl ?_
              refine z_bipush (-6) dX12_trial_84 (by decide) ?_
              refine z_callV0 (As := [.int (-6)]) (st := []) dX12_trial_86 hy_X12_refuse (co_0 hL).1 (co_0 hL).2 (by decide) wg_462 wg_464 wg_0 (Nat.le_refl _) (Nat.le_of_ble_eq_true rfl) (RM0.mono h ?_)
              clear h
              intro vv I32 L33 h
              obtain ⟨r34, rfl, h⟩ := h
              change Z n0 xX12_trial (d + 1) 0 0 89 [(0, .ref (n0 + 0)), (1, .int p0), (2, .int p1), (3, .int p2), (4, .int p3), (5, .int p4), (6, .int p5), (7, .ref (n0 + q8)), (8, .ref (n0 + q22))] [.int r34] K I32 L33 (z_q0 K Q)
              exact z_iret dX12_trial_89 rfl ⟨rfl, h⟩
            · rw [if_neg g31] at h
              refine z_iload 6 dX12_trial_66 rfl ?_
              refine z_sipush 999 dX12_trial_68 (by decide) ?_
              refine z_icmp_gt 83 dX12_trial_71 (by decide) (fun g35 => ?_) (fun g35 => ?_)
              · rw [if_pos g35] at h
                refine z_aload_n 0 dX12_trial_83 rfl ?_
                refine z_bipush (-6) dX12_trial_84 (by decide) ?_
                refine z_callV0 (As := [.int (-6)]) (st := []) dX12_trial_86 hy_X12_refuse (co_0 hL).1 (co_0 hL).2 (by decide) wg_462 wg_464 wg_0 (Nat.le_refl _) (Nat.le_of_ble_eq_true rfl) (RM0.mono h ?_)
                clear h
                intro vv I36 L37 h
                obtain ⟨r38, rfl, h⟩ := h
                change Z n0 xX12_trial (d + 1) 0 0 89 [(0, .ref (n0 + 0)), (1, .int p0), (2, .int p1), (3, .int p2), (4, .int p3), (5, .int p4), (6, .int p5), (7, .ref (n0 + q8)), (8, .ref (n0 + q22))] [.int r38] K I36 L37 (z_q0 K Q)
                exact z_iret dX12_trial_89 rfl ⟨rfl, h⟩
              · rw [if_neg g35] at h
                refine z_aload_n 0 dX12_trial_74 rfl ?_
                refine fg_12_366 (I14 0 6) rfl dX12_trial_75 (co_0 hL).1 (co_0 hL).2 rfl ?_
                refine z_bipush 30 dX12_trial_78 (by decide) ?_
                refine z_icmp_lt 90 dX12_trial_80 (by decide) (fun g39 => ?_) (fun g39 => ?_)
                · rw [if_pos g39] at h
                  refine z_aload 8 dX12_trial_90 rfl ?_
                  refine z_iload_n 1 dX12_trial_92 rfl ?_
                  refine z_iload_n 3 dX12_trial_93 rfl ?_
                  refine z_iload 4 dX12_trial_94 rfl ?_
                  refine z_callS0 (As := [.int p0, .int p2, .int p3]) (st := [.ref (n0 + q22)]) dX12_trial_96 hy_X12_trialKey wg_1222 wg_1223 (Nat.le_refl _) (Nat.le_of_ble_eq_true rfl) (RM0.mono h ?_)
                  clear h
                  intro vv I40 L41 h
                  obtain ⟨r42, rfl, h⟩ := h
                  change Z n0 xX12_trial (d + 1) 0 0 99 [(0, .ref (n0 + 0)), (1, .int p0), (2, .int p1), (3, .int p2), (4, .int p3), (5, .int p4), (6, .int p5), (7, .ref (n0 + q8)), (8, .ref (n0 + q22))] [.int r42, .ref (n0 + q22)] K I40 L41 (z_q0 K Q)
                  refine z_iload 5 dX12_trial_99 rfl ?_
                  refine z_iload 6 dX12_trial_101 rfl ?_
                  refine z_isub dX12_trial_103 ?_
                  refine z_iload 5 dX12_trial_104 rfl ?_
                  refine z_iload 6 dX12_trial_106 rfl ?_
                  refine z_iadd dX12_trial_108 ?_
                  obtain ⟨o43, o44, h⟩ := h
                  refine z_callV0 (As := [.int r42, .int (p4 - p5), .int (p4 + p5)]) (st := []) dX12_trial_109 hy_X0_addTrial o43 o44 (by decide) wg_1225 wg_1226 wg_1227 (Nat.le_refl _) (Nat.le_of_ble_eq_true rfl) (RM0.mono h ?_)
                  clear h
                  intro vv I45 L46 h
                  obtain ⟨rfl, h⟩ := h
                  change Z n0 xX12_trial (d + 1) 0 0 112 [(0, .ref (n0 + 0)), (1, .int p0), (2, .int p1), (3, .int p2), (4, .int p3), (5, .int p4), (6, .int p5), (7, .ref (n0 + q8)), (8, .ref (n0 + q22))] [] K I45 L46 (z_q0 K Q)
                  refine z_aload_n 0 dX12_trial_112 rfl ?_
                  refine z_dup dX12_trial_113 rfl ?_
                  refine fg_12_366 (I45 0 6) rfl dX12_trial_114 (co_0 hL).1 (co_0 hL).2 rfl ?_
                  refine z_iconst 1 dX12_trial_117 (by decide) ?_
                  refine z_iadd dX12_trial_118 ?_
                  refine fp_12_366 rfl dX12_trial_119 (co_0 hL).1 (co_0 hL).2 ?_
                  refine z_aload_n 0 dX12_trial_122 rfl ?_
                  refine fg_12_366 (((I45 0 6) + 1)) rfl dX12_trial_123 (co_0 hL).1 (co_0 hL).2 rfl ?_
                  exact z_iret dX12_trial_126 rfl ⟨rfl, h⟩
                · rw [if_neg g39] at h
                  refine z_aload_n 0 dX12_trial_83 rfl ?_
                  refine z_bipush (-6) dX12_trial_84 (by decide) ?_
                  refine z_callV0 (As := [.int (-6)]) (st := []) dX12_trial_86 hy_X12_refuse (co_0 hL).1 (co_0 hL).2 (by decide) wg_462 wg_464 wg_0 (Nat.le_refl _) (Nat.le_of_ble_eq_true rfl) (RM0.mono h ?_)
                  clear h
                  intro vv I47 L48 h
                  obtain ⟨r49, rfl, h⟩ := h
                  change Z n0 xX12_trial (d + 1) 0 0 89 [(0, .ref (n0 + 0)), (1, .int p0), (2, .int p1), (3, .int p2), (4, .int p3), (5, .int p4), (6, .int p5), (7, .ref (n0 + q8)), (8, .ref (n0 + q22))] [.int r49] K I47 L48 (z_q0 K Q)
                  exact z_iret dX12_trial_89 rfl ⟨rfl, h⟩
          · rw [if_pos g30] at h
            refine z_aload_n 0 dX12_trial_51 rfl ?_
            refine z_bipush (-4) dX12_trial_52 (by decide) ?_
            refine z_callV0 (As := [.int (-4)]) (st := []) dX12_trial_54 hy_X12_refuse (co_0 hL).1 (co_0 hL).2 (by decide) wg_462 wg_464 wg_0 (Nat.le_refl _) (Nat.le_of_ble_eq_true rfl) (RM0.mono h ?_)
            clear h
            intro vv I50 L51 h
            obtain ⟨r52, rfl, h⟩ := h
            change Z n0 xX12_trial (d + 1) 0 0 57 [(0, .ref (n0 + 0)), (1, .int p0), (2, .int p1), (3, .int p2), (4, .int p3), (5, .int p4), (6, .int p5), (7, .ref (n0 + q8)), (8, .ref (n0 + q22))] [.int r52] K I50 L51 (z_q0 K Q)
            exact z_iret dX12_trial_57 rfl ⟨rfl, h⟩
      · replace h := h.1 g21
        subst g21
        change Z n0 xX12_trial (d + 1) 0 0 35 [(0, .ref (n0 + 0)), (1, .int p0), (2, .int p1), (3, .int p2), (4, .int p3), (5, .int p4), (6, .int p5), (7, .ref (n0 + q8)), (8, .null)] [] K I14 L15 (z_q0 K Q)
        refine z_aload_n 0 dX12_trial_35 rfl ?_
        refine z_iconst (-1) dX12_trial_36 (by decide) ?_
        refine z_callV0 (As := [.int (-1)]) (st := []) dX12_trial_37 hy_X12_refuse (co_0 hL).1 (co_0 hL).2 (by decide) wg_462 wg_464 wg_0 (Nat.le_refl _) (Nat.le_of_ble_eq_true rfl) (RM0.mono h ?_)
        clear h
        intro vv I23 L24 h
        obtain ⟨r25, rfl, h⟩ := h
        change Z n0 xX12_trial (d + 1) 0 0 40 [(0, .ref (n0 + 0)), (1, .int p0), (2, .int p1), (3, .int p2), (4, .int p3), (5, .int p4), (6, .int p5), (7, .ref (n0 + q8)), (8, .null)] [.int r25] K I23 L24 (z_q0 K Q)
        exact z_iret dX12_trial_40 rfl ⟨rfl, h⟩
theorem dX12_said_0 : decode cX12_said 0 = .ok (.aload_n 0, 1) := by decide +kernel
theorem dX12_said_1 : decode cX12_said 1 = .ok (.iload_n 1, 1) := by decide +kernel
theorem dX12_said_2 : decode cX12_said 2 = .ok (.iload_n 3, 1) := by decide +kernel
theorem dX12_said_3 : decode cX12_said 3 = .ok (.invokevirtual 160, 3) := by decide +kernel
theorem dX12_said_6 : decode cX12_said 6 = .ok (.astore 6, 2) := by decide +kernel
theorem dX12_said_8 : decode cX12_said 8 = .ok (.aload_n 0, 1) := by decide +kernel
theorem dX12_said_9 : decode cX12_said 9 = .ok (.iload_n 2, 1) := by decide +kernel
theorem dX12_said_10 : decode cX12_said 10 = .ok (.invokevirtual 122, 3) := by decide +kernel
theorem dX12_said_13 : decode cX12_said 13 = .ok (.astore 7, 2) := by decide +kernel
theorem dX12_said_15 : decode cX12_said 15 = .ok (.aload 6, 2) := by decide +kernel
theorem dX12_said_17 : decode cX12_said 17 = .ok (.ifnull 18, 3) := by decide +kernel
theorem dX12_said_20 : decode cX12_said 20 = .ok (.aload 6, 2) := by decide +kernel
theorem dX12_said_22 : decode cX12_said 22 = .ok (.iload 4, 2) := by decide +kernel
theorem dX12_said_24 : decode cX12_said 24 = .ok (.invokevirtual 246, 3) := by decide +kernel
theorem dX12_said_27 : decode cX12_said 27 = .ok (.ifCond .eq 8, 3) := by decide +kernel
theorem dX12_said_30 : decode cX12_said 30 = .ok (.aload 7, 2) := by decide +kernel
theorem dX12_said_32 : decode cX12_said 32 = .ok (.ifnonnull 9, 3) := by decide +kernel
theorem dX12_said_35 : decode cX12_said 35 = .ok (.aload_n 0, 1) := by decide +kernel
theorem dX12_said_36 : decode cX12_said 36 = .ok (.iconst (-1), 1) := by decide +kernel
theorem dX12_said_37 : decode cX12_said 37 = .ok (.invokevirtual 126, 3) := by decide +kernel
theorem dX12_said_40 : decode cX12_said 40 = .ok (.ireturn, 1) := by decide +kernel
theorem dX12_said_41 : decode cX12_said 41 = .ok (.iload 5, 2) := by decide +kernel
theorem dX12_said_43 : decode cX12_said 43 = .ok (.ifCond .lt 9, 3) := by decide +kernel
theorem dX12_said_46 : decode cX12_said 46 = .ok (.iload 5, 2) := by decide +kernel
theorem dX12_said_48 : decode cX12_said 48 = .ok (.iconst 2, 1) := by decide +kernel
theorem dX12_said_49 : decode cX12_said 49 = .ok (.if_icmp .le 10, 3) := by decide +kernel
theorem dX12_said_52 : decode cX12_said 52 = .ok (.aload_n 0, 1) := by decide +kernel
theorem dX12_said_53 : decode cX12_said 53 = .ok (.bipush (-2), 2) := by decide +kernel
theorem dX12_said_55 : decode cX12_said 55 = .ok (.invokevirtual 126, 3) := by decide +kernel
theorem dX12_said_58 : decode cX12_said 58 = .ok (.ireturn, 1) := by decide +kernel
theorem dX12_said_59 : decode cX12_said 59 = .ok (.iload_n 1, 1) := by decide +kernel
theorem dX12_said_60 : decode cX12_said 60 = .ok (.iload_n 3, 1) := by decide +kernel
theorem dX12_said_61 : decode cX12_said 61 = .ok (.iload 4, 2) := by decide +kernel
theorem dX12_said_63 : decode cX12_said 63 = .ok (.invokestatic 369, 3) := by decide +kernel
theorem dX12_said_66 : decode cX12_said 66 = .ok (.istore 8, 2) := by decide +kernel
theorem dX12_said_68 : decode cX12_said 68 = .ok (.aload 7, 2) := by decide +kernel
theorem dX12_said_70 : decode cX12_said 70 = .ok (.iload 8, 2) := by decide +kernel
theorem dX12_said_72 : decode cX12_said 72 = .ok (.invokevirtual 376, 3) := by decide +kernel
theorem dX12_said_75 : decode cX12_said 75 = .ok (.ifCond .ne 10, 3) := by decide +kernel
theorem dX12_said_78 : decode cX12_said 78 = .ok (.aload_n 0, 1) := by decide +kernel
theorem dX12_said_79 : decode cX12_said 79 = .ok (.bipush (-5), 2) := by decide +kernel
theorem dX12_said_81 : decode cX12_said 81 = .ok (.invokevirtual 126, 3) := by decide +kernel
theorem dX12_said_84 : decode cX12_said 84 = .ok (.ireturn, 1) := by decide +kernel
theorem dX12_said_85 : decode cX12_said 85 = .ok (.aload 7, 2) := by decide +kernel
theorem dX12_said_87 : decode cX12_said 87 = .ok (.iload 8, 2) := by decide +kernel
theorem dX12_said_89 : decode cX12_said 89 = .ok (.invokevirtual 379, 3) := by decide +kernel
theorem dX12_said_92 : decode cX12_said 92 = .ok (.istore 9, 2) := by decide +kernel
theorem dX12_said_94 : decode cX12_said 94 = .ok (.aload 7, 2) := by decide +kernel
theorem dX12_said_96 : decode cX12_said 96 = .ok (.iload 8, 2) := by decide +kernel
theorem dX12_said_98 : decode cX12_said 98 = .ok (.invokevirtual 382, 3) := by decide +kernel
theorem dX12_said_101 : decode cX12_said 101 = .ok (.istore 10, 2) := by decide +kernel
theorem dX12_said_103 : decode cX12_said 103 = .ok (.iload 9, 2) := by decide +kernel
theorem dX12_said_105 : decode cX12_said 105 = .ok (.iload 10, 2) := by decide +kernel
theorem dX12_said_107 : decode cX12_said 107 = .ok (.if_icmp .le 10, 3) := by decide +kernel
theorem dX12_said_110 : decode cX12_said 110 = .ok (.aload_n 0, 1) := by decide +kernel
theorem dX12_said_111 : decode cX12_said 111 = .ok (.bipush (-3), 2) := by decide +kernel
theorem dX12_said_113 : decode cX12_said 113 = .ok (.invokevirtual 126, 3) := by decide +kernel
theorem dX12_said_116 : decode cX12_said 116 = .ok (.ireturn, 1) := by decide +kernel
theorem dX12_said_117 : decode cX12_said 117 = .ok (.iload 5, 2) := by decide +kernel
theorem dX12_said_119 : decode cX12_said 119 = .ok (.iconst 2, 1) := by decide +kernel
theorem dX12_said_120 : decode cX12_said 120 = .ok (.if_icmp .ge 16, 3) := by decide +kernel
theorem dX12_said_123 : decode cX12_said 123 = .ok (.iload 5, 2) := by decide +kernel
theorem dX12_said_125 : decode cX12_said 125 = .ok (.ifCond .ne 8, 3) := by decide +kernel
theorem dX12_said_128 : decode cX12_said 128 = .ok (.iload 9, 2) := by decide +kernel
theorem dX12_said_130 : decode cX12_said 130 = .ok (.goto 5, 3) := by decide +kernel
theorem dX12_said_133 : decode cX12_said 133 = .ok (.iload 10, 2) := by decide +kernel
theorem dX12_said_135 : decode cX12_said 135 = .ok (.ireturn, 1) := by decide +kernel
theorem dX12_said_136 : decode cX12_said 136 = .ok (.aload_n 0, 1) := by decide +kernel
theorem dX12_said_137 : decode cX12_said 137 = .ok (.aload 7, 2) := by decide +kernel
theorem dX12_said_139 : decode cX12_said 139 = .ok (.invokevirtual 242, 3) := by decide +kernel
theorem dX12_said_142 : decode cX12_said 142 = .ok (.aload_n 0, 1) := by decide +kernel
theorem dX12_said_143 : decode cX12_said 143 = .ok (.getfield 41, 3) := by decide +kernel
theorem dX12_said_146 : decode cX12_said 146 = .ok (.aload 6, 2) := by decide +kernel
theorem dX12_said_148 : decode cX12_said 148 = .ok (.invokevirtual 235, 3) := by decide +kernel
theorem dX12_said_151 : decode cX12_said 151 = .ok (.ifCond .ne 10, 3) := by decide +kernel
theorem dX12_said_154 : decode cX12_said 154 = .ok (.aload_n 0, 1) := by decide +kernel
theorem dX12_said_155 : decode cX12_said 155 = .ok (.bipush (-7), 2) := by decide +kernel
theorem dX12_said_157 : decode cX12_said 157 = .ok (.invokevirtual 126, 3) := by decide +kernel
theorem dX12_said_160 : decode cX12_said 160 = .ok (.ireturn, 1) := by decide +kernel
theorem dX12_said_161 : decode cX12_said 161 = .ok (.aload_n 0, 1) := by decide +kernel
theorem dX12_said_162 : decode cX12_said 162 = .ok (.getfield 41, 3) := by decide +kernel
theorem dX12_said_165 : decode cX12_said 165 = .ok (.aload 6, 2) := by decide +kernel
theorem dX12_said_167 : decode cX12_said 167 = .ok (.iload_n 3, 1) := by decide +kernel
theorem dX12_said_168 : decode cX12_said 168 = .ok (.iload 4, 2) := by decide +kernel
theorem dX12_said_170 : decode cX12_said 170 = .ok (.invokevirtual 249, 3) := by decide +kernel
theorem dX12_said_173 : decode cX12_said 173 = .ok (.istore 11, 2) := by decide +kernel
theorem dX12_said_175 : decode cX12_said 175 = .ok (.iload 11, 2) := by decide +kernel
theorem dX12_said_177 : decode cX12_said 177 = .ok (.iload 9, 2) := by decide +kernel
theorem dX12_said_179 : decode cX12_said 179 = .ok (.if_icmp .lt 14, 3) := by decide +kernel
theorem dX12_said_182 : decode cX12_said 182 = .ok (.iload 11, 2) := by decide +kernel
theorem dX12_said_184 : decode cX12_said 184 = .ok (.iload 10, 2) := by decide +kernel
theorem dX12_said_186 : decode cX12_said 186 = .ok (.if_icmp .gt 7, 3) := by decide +kernel
theorem dX12_said_189 : decode cX12_said 189 = .ok (.iconst 1, 1) := by decide +kernel
theorem dX12_said_190 : decode cX12_said 190 = .ok (.goto 4, 3) := by decide +kernel
theorem dX12_said_193 : decode cX12_said 193 = .ok (.iconst 0, 1) := by decide +kernel
theorem dX12_said_194 : decode cX12_said 194 = .ok (.ireturn, 1) := by decide +kernel
set_option maxRecDepth 100000 in
set_option maxHeartbeats 4000000 in
theorem wp_X12_said {n0 d : Nat} {K : z_K} {I : z_I} {L : z_L} {Q : z_R} {p0 : Int32} {p1 : Int32} {p2 : Int32} {p3 : Int32} {p4 : Int32} (hL : CLay K) (h : RM0 n0 xX12_pieceWith d [.ref (n0 + 0), .int p0, .int p2] K I L (fun vv I1 L2 => ∃ r3 : Option Nat, vv = some (zr n0 r3) ∧ RM0 n0 xX12_bodyOf d [.ref (n0 + 0), .int p1] K I1 L2 (fun vv I4 L5 => ∃ r6 : Option Nat, vv = some (zr n0 r6) ∧ ((r3 = none → RM0 n0 xX12_refuseApart d [.ref (n0 + 0), .int (-1)] K I4 L5 (fun vv I9 L10 => ∃ r11 : Int32, vv = some (.int r11) ∧ Q (some (.int r11)) K I9 L10)) ∧ (∀ q8, r3 = some q8 → q8 < K.1 ∧ (K.2.1 q8).1 = 5 ∧ RM0 n0 xX5_has d [.ref (n0 + q8), .int p3] K I4 L5 (fun vv I14 L15 => ∃ r16 : Int32, vv = some (.int r16) ∧ (if r16 = 0 then RM0 n0 xX12_refuseApart d [.ref (n0 + 0), .int (-1)] K I14 L15 (fun vv I18 L19 => ∃ r20 : Int32, vv = some (.int r20) ∧ Q (some (.int r20)) K I18 L19) else ((r6 = none → RM0 n0 xX12_refuseApart d [.ref (n0 + 0), .int (-1)] K I14 L15 (fun vv I23 L24 => ∃ r25 : Int32, vv = some (.int r25) ∧ Q (some (.int r25)) K I23 L24)) ∧ (∀ q22, r6 = some q22 → (if p4 < 0 then RM0 n0 xX12_refuseApart d [.ref (n0 + 0), .int (-2)] K I14 L15 (fun vv I27 L28 => ∃ r29 : Int32, vv = some (.int r29) ∧ Q (some (.int r29)) K I27 L28) else (if 2 < p4 then RM0 n0 xX12_refuseApart d [.ref (n0 + 0), .int (-2)] K I14 L15 (fun vv I75 L76 => ∃ r77 : Int32, vv = some (.int r77) ∧ Q (some (.int r77)) K I75 L76) else RM0 n0 xX12_trialKey d [.int p0, .int p2, .int p3] K I14 L15 (fun vv I31 L32 => ∃ r33 : Int32, vv = some (.int r33) ∧ q22 < K.1 ∧ (K.2.1 q22).1 = 0 ∧ RM0 n0 xX0_hasTrial d [.ref (n0 + q22), .int r33] K I31 L32 (fun vv I36 L37 => ∃ r38 : Int32, vv = some (.int r38) ∧ (if r38 = 0 then RM0 n0 xX12_refuseApart d [.ref (n0 + 0), .int (-5)] K I36 L37 (fun vv I72 L73 => ∃ r74 : Int32, vv = some (.int r74) ∧ Q (some (.int r74)) K I72 L73) else RM0 n0 xX0_leastSaid d [.ref (n0 + q22), .int r33] K I36 L37 (fun vv I40 L41 => ∃ r42 : Int32, vv = some (.int r42) ∧ RM0 n0 xX0_mostSaid d [.ref (n0 + q22), .int r33] K I40 L41 (fun vv I43 L44 => ∃ r45 : Int32, vv = some (.int r45) ∧ (if r45 < r42 then RM0 n0 xX12_refuseApart d [.ref (n0 + 0), .int (-3)] K I43 L44 (fun vv I69 L70 => ∃ r71 : Int32, vv = some (.int r71) ∧ Q (some (.int r71)) K I69 L70) else (if p4 < 2 then Q (some (.int (if p4 = 0 then r42 else r45))) K I43 L44 else RM n0 xX12_drawFor d 0 0 [.ref (n0 + 0), .ref (n0 + q22)] K I43 L44 (fun vv K50 I48 L49 => vv = none ∧ CLay K50 ∧ RM n0 xX2_sound d 0 0 [.ref (n0 + 8), .ref (n0 + q8)] K50 I48 L49 (fun vv K54 I52 L53 => ∃ r55 : Int32, vv = some (.int r55) ∧ CLay K54 ∧ (if r55 = 0 then RM0 n0 xX12_refuseApart d [.ref (n0 + 0), .int (-7)] K54 I52 L53 (fun vv I64 L65 => ∃ r66 : Int32, vv = some (.int r66) ∧ Q (some (.int r66)) K54 I64 L65) else RM0 n0 xX2_lengthOf d [.ref (n0 + 8), .ref (n0 + q8), .int p2, .int p3] K54 I52 L53 (fun vv I58 L59 => ∃ r60 : Int32, vv = some (.int r60) ∧ Q (some (.int (if r60 < r42 then 0 else if r45 < r60 then 0 else 1))) K54 I58 L59)))))))))))))))))))))) : RM n0 xX12_said (d + 1) 0 0 [.ref (n0 + 0), .int p0, .int p1, .int p2, .int p3, .int p4] K I L Q := by
  refine z_entry (by decide) (Nat.le_of_ble_eq_true rfl) ?_
  change Z n0 xX12_said (d + 1) 0 0 0 [(0, .ref (n0 + 0)), (1, .int p0), (2, .int p1), (3, .int p2), (4, .int p3), (5, .int p4)] [] K I L Q
  refine z_aload_n 0 dX12_said_0 rfl ?_
  refine z_iload_n 1 dX12_said_1 rfl ?_
  refine z_iload_n 3 dX12_said_2 rfl ?_
  refine z_callV0 (As := [.int p0, .int p2]) (st := []) dX12_said_3 hy_X12_pieceWith (co_0 hL).1 (co_0 hL).2 (by decide) wg_655 wg_657 wg_6 (Nat.le_refl _) (Nat.le_of_ble_eq_true rfl) (RM0.mono h ?_)
  clear h
  intro vv I1 L2 h
  obtain ⟨r3, rfl, h⟩ := h
  change Z n0 xX12_said (d + 1) 0 0 6 [(0, .ref (n0 + 0)), (1, .int p0), (2, .int p1), (3, .int p2), (4, .int p3), (5, .int p4)] [zr n0 r3] K I1 L2 Q
  refine z_astoreO [1, 2, 3, 4, 5, 6, 0] [(0, .ref (n0 + 0)), (1, .int p0), (2, .int p1), (3, .int p2), (4, .int p3), (5, .int p4), (6, zr n0 r3)] dX12_said_6 (by decide) (fun v hv => by subst hv; rfl) ?_
  refine z_aload_n 0 dX12_said_8 rfl ?_
  refine z_iload_n 2 dX12_said_9 rfl ?_
  refine z_callV0 (As := [.int p1]) (st := []) dX12_said_10 hy_X12_bodyOf (co_0 hL).1 (co_0 hL).2 (by decide) wg_551 wg_553 wg_2 (Nat.le_refl _) (Nat.le_of_ble_eq_true rfl) (RM0.mono h ?_)
  clear h
  intro vv I4 L5 h
  obtain ⟨r6, rfl, h⟩ := h
  change Z n0 xX12_said (d + 1) 0 0 13 [(0, .ref (n0 + 0)), (1, .int p0), (2, .int p1), (3, .int p2), (4, .int p3), (5, .int p4), (6, zr n0 r3)] [zr n0 r6] K I4 L5 Q
  refine z_astoreO [1, 2, 3, 4, 5, 6, 7, 0] [(0, .ref (n0 + 0)), (1, .int p0), (2, .int p1), (3, .int p2), (4, .int p3), (5, .int p4), (6, zr n0 r3), (7, zr n0 r6)] dX12_said_13 (by decide) (fun v hv => by subst hv; cases r3 <;> rfl) ?_
  refine z_aloadO 6 dX12_said_15 rfl ?_
  refine z_ifnull 35 dX12_said_17 (by decide) (fun g7 => ?_) (fun q8 g7 => ?_)
  · replace h := h.1 g7
    subst g7
    change Z n0 xX12_said (d + 1) 0 0 35 [(0, .ref (n0 + 0)), (1, .int p0), (2, .int p1), (3, .int p2), (4, .int p3), (5, .int p4), (6, .null), (7, zr n0 r6)] [] K I4 L5 Q
    refine z_aload_n 0 dX12_said_35 rfl ?_
    refine z_iconst (-1) dX12_said_36 (by decide) ?_
    refine z_callV0 (As := [.int (-1)]) (st := []) dX12_said_37 hy_X12_refuseApart (co_0 hL).1 (co_0 hL).2 (by decide) wg_555 wg_557 wg_3 (Nat.le_refl _) (Nat.le_of_ble_eq_true rfl) (RM0.mono h ?_)
    clear h
    intro vv I9 L10 h
    obtain ⟨r11, rfl, h⟩ := h
    change Z n0 xX12_said (d + 1) 0 0 40 [(0, .ref (n0 + 0)), (1, .int p0), (2, .int p1), (3, .int p2), (4, .int p3), (5, .int p4), (6, .null), (7, zr n0 r6)] [.int r11] K I9 L10 Q
    exact z_iret dX12_said_40 rfl h
  · replace h := h.2 q8 g7
    subst g7
    change Z n0 xX12_said (d + 1) 0 0 20 [(0, .ref (n0 + 0)), (1, .int p0), (2, .int p1), (3, .int p2), (4, .int p3), (5, .int p4), (6, .ref (n0 + q8)), (7, zr n0 r6)] [] K I4 L5 Q
    refine z_aload 6 dX12_said_20 rfl ?_
    refine z_iload 4 dX12_said_22 rfl ?_
    obtain ⟨o12, o13, h⟩ := h
    refine z_callV0 (As := [.int p3]) (st := []) dX12_said_24 hy_X5_has o12 o13 (by decide) wg_659 wg_660 wg_661 (Nat.le_refl _) (Nat.le_of_ble_eq_true rfl) (RM0.mono h ?_)
    clear h
    intro vv I14 L15 h
    obtain ⟨r16, rfl, h⟩ := h
    change Z n0 xX12_said (d + 1) 0 0 27 [(0, .ref (n0 + 0)), (1, .int p0), (2, .int p1), (3, .int p2), (4, .int p3), (5, .int p4), (6, .ref (n0 + q8)), (7, zr n0 r6)] [.int r16] K I14 L15 Q
    refine z_if_eq 35 dX12_said_27 (by decide) (fun g17 => ?_) (fun g17 => ?_)
    · rw [if_pos g17] at h
      refine z_aload_n 0 dX12_said_35 rfl ?_
      refine z_iconst (-1) dX12_said_36 (by decide) ?_
      refine z_callV0 (As := [.int (-1)]) (st := []) dX12_said_37 hy_X12_refuseApart (co_0 hL).1 (co_0 hL).2 (by decide) wg_555 wg_557 wg_3 (Nat.le_refl _) (Nat.le_of_ble_eq_true rfl) (RM0.mono h ?_)
      clear h
      intro vv I18 L19 h
      obtain ⟨r20, rfl, h⟩ := h
      change Z n0 xX12_said (d + 1) 0 0 40 [(0, .ref (n0 + 0)), (1, .int p0), (2, .int p1), (3, .int p2), (4, .int p3), (5, .int p4), (6, .ref (n0 + q8)), (7, zr n0 r6)] [.int r20] K I18 L19 Q
      exact z_iret dX12_said_40 rfl h
    · rw [if_neg g17] at h
      refine z_aloadO 7 dX12_said_30 rfl ?_
      refine z_ifnonnull 41 dX12_said_32 (by decide) (fun q22 g21 => ?_) (fun g21 => ?_)
      · replace h := h.2 q22 g21
        subst g21
        change Z n0 xX12_said (d + 1) 0 0 41 [(0, .ref (n0 + 0)), (1, .int p0), (2, .int p1), (3, .int p2), (4, .int p3), (5, .int p4), (6, .ref (n0 + q8)), (7, .ref (n0 + q22))] [] K I14 L15 Q
        refine z_iload 5 dX12_said_41 rfl ?_
        refine z_if_lt 52 dX12_said_43 (by decide) (fun g26 => ?_) (fun g26 => ?_)
        · rw [if_pos g26] at h
          refine z_aload_n 0 dX12_said_52 rfl ?_
          refine z_bipush (-2) dX12_said_53 (by decide) ?_
          refine z_callV0 (As := [.int (-2)]) (st := []) dX12_said_55 hy_X12_refuseApart (co_0 hL).1 (co_0 hL).2 (by decide) wg_555 wg_557 wg_3 (Nat.le_refl _) (Nat.le_of_ble_eq_true rfl) (RM0.mono h ?_)
          clear h
          intro vv I27 L28 h
          obtain ⟨r29, rfl, h⟩ := h
          change Z n0 xX12_said (d + 1) 0 0 58 [(0, .ref (n0 + 0)), (1, .int p0), (2, .int p1), (3, .int p2), (4, .int p3), (5, .int p4), (6, .ref (n0 + q8)), (7, .ref (n0 + q22))] [.int r29] K I27 L28 Q
          exact z_iret dX12_said_58 rfl h
        · rw [if_neg g26] at h
          refine z_iload 5 dX12_said_46 rfl ?_
          refine z_iconst 2 dX12_said_48 (by decide) ?_
          refine z_icmp_le 59 dX12_said_49 (by decide) (fun g30 => ?_) (fun g30 => ?_)
          · rw [if_neg g30] at h
            refine z_iload_n 1 dX12_said_59 rfl ?_
            refine z_iload_n 3 dX12_said_60 rfl ?_
            refine z_iload 4 dX12_said_61 rfl ?_
            refine z_callS0 (As := [.int p0, .int p2, .int p3]) (st := []) dX12_said_63 hy_X12_trialKey wg_1222 wg_1223 (Nat.le_refl _) (Nat.le_of_ble_eq_true rfl) (RM0.mono h ?_)
            clear h
            intro vv I31 L32 h
            obtain ⟨r33, rfl, h⟩ := h
            change Z n0 xX12_said (d + 1) 0 0 66 [(0, .ref (n0 + 0)), (1, .int p0), (2, .int p1), (3, .int p2), (4, .int p3), (5, .int p4), (6, .ref (n0 + q8)), (7, .ref (n0 + q22))] [.int r33] K I31 L32 Q
            refine z_istore [1, 2, 3, 4, 5, 6, 7, 8, 0] [(0, .ref (n0 + 0)), (1, .int p0), (2, .int p1), (3, .int p2), (4, .int p3), (5, .int p4), (6, .ref (n0 + q8)), (7, .ref (n0 + q22)), (8, .int r33)] dX12_said_66 (by decide) rfl ?_
            refine z_aload 7 dX12_said_68 rfl ?_
            refine z_iload 8 dX12_said_70 rfl ?_
            obtain ⟨o34, o35, h⟩ := h
            refine z_callV0 (As := [.int r33]) (st := []) dX12_said_72 hy_X0_hasTrial o34 o35 (by decide) wg_1233 wg_1234 wg_1235 (Nat.le_refl _) (Nat.le_of_ble_eq_true rfl) (RM0.mono h ?_)
            clear h
            intro vv I36 L37 h
            obtain ⟨r38, rfl, h⟩ := h
            change Z n0 xX12_said (d + 1) 0 0 75 [(0, .ref (n0 + 0)), (1, .int p0), (2, .int p1), (3, .int p2), (4, .int p3), (5, .int p4), (6, .ref (n0 + q8)), (7, .ref (n0 + q22)), (8, .int r33)] [.int r38] K I36 L37 Q
            refine z_if_ne 85 dX12_said_75 (by decide) (fun g39 => ?_) (fun g39 => ?_)
            · rw [if_neg g39] at h
              refine z_aload 7 dX12_said_85 rfl ?_
              refine z_iload 8 dX12_said_87 rfl ?_
              refine z_callV0 (As := [.int r33]) (st := []) dX12_said_89 hy_X0_leastSaid o34 o35 (by decide) wg_1237 wg_1238 wg_1239 (Nat.le_refl _) (Nat.le_of_ble_eq_true rfl) (RM0.mono h ?_)
              clear h
              intro vv I40 L41 h
              obtain ⟨r42, rfl, h⟩ := h
              change Z n0 xX12_said (d + 1) 0 0 92 [(0, .ref (n0 + 0)), (1, .int p0), (2, .int p1), (3, .int p2), (4, .int p3), (5, .int p4), (6, .ref (n0 + q8)), (7, .ref (n0 + q22)), (8, .int r33)] [.int r42] K I40 L41 Q
              refine z_istore [1, 2, 3, 4, 5, 6, 7, 8, 9, 0] [(0, .ref (n0 + 0)), (1, .int p0), (2, .int p1), (3, .int p2), (4, .int p3), (5, .int p4), (6, .ref (n0 + q8)), (7, .ref (n0 + q22)), (8, .int r33), (9, .int r42)] dX12_said_92 (by decide) rfl ?_
              refine z_aload 7 dX12_said_94 rfl ?_
              refine z_iload 8 dX12_said_96 rfl ?_
              refine z_callV0 (As := [.int r33]) (st := []) dX12_said_98 hy_X0_mostSaid o34 o35 (by decide) wg_1243 wg_1244 wg_1245 (Nat.le_refl _) (Nat.le_of_ble_eq_true rfl) (RM0.mono h ?_)
              clear h
              intro vv I43 L44 h
              obtain ⟨r45, rfl, h⟩ := h
              change Z n0 xX12_said (d + 1) 0 0 101 [(0, .ref (n0 + 0)), (1, .int p0), (2, .int p1), (3, .int p2), (4, .int p3), (5, .int p4), (6, .ref (n0 + q8)), (7, .ref (n0 + q22)), (8, .int r33), (9, .int r42)] [.int r45] K I43 L44 Q
              refine z_istore [1, 2, 3, 4, 5, 6, 7, 8, 9, 10, 0] [(0, .ref (n0 + 0)), (1, .int p0), (2, .int p1), (3, .int p2), (4, .int p3), (5, .int p4), (6, .ref (n0 + q8)), (7, .ref (n0 + q22)), (8, .int r33), (9, .int r42), (10, .int r45)] dX12_said_101 (by decide) rfl ?_
              refine z_iload 9 dX12_said_103 rfl ?_
              refine z_iload 10 dX12_said_105 rfl ?_
              refine z_icmp_le 117 dX12_said_107 (by decide) (fun g46 => ?_) (fun g46 => ?_)
              · rw [if_neg g46] at h
                refine z_iload 5 dX12_said_117 rfl ?_
                refine z_iconst 2 dX12_said_119 (by decide) ?_
                refine z_icmp_ge 136 dX12_said_120 (by decide) (fun g47 => ?_) (fun g47 => ?_)
                · rw [if_neg g47] at h
                  refine z_aload_n 0 dX12_said_136 rfl ?_
                  refine z_aload 7 dX12_said_137 rfl ?_
                  refine z_callV (rc := 0) (rs := 0) (mc1 := 0) (ms1 := 0) (As := [.ref (n0 + q22)]) (st := []) dX12_said_139 hy_X12_drawFor (co_0 hL).1 (co_0 hL).2 (by decide) wg_887 wg_889 wg_25 (Nat.le_refl _) (Nat.le_of_ble_eq_true rfl) (RM.mono h ?_)
                  clear h
                  intro vv K50 I48 L49 h
                  obtain ⟨rfl, h⟩ := h
                  obtain ⟨hL51, h⟩ := h
                  change Z n0 xX12_said (d + 1) 0 0 142 [(0, .ref (n0 + 0)), (1, .int p0), (2, .int p1), (3, .int p2), (4, .int p3), (5, .int p4), (6, .ref (n0 + q8)), (7, .ref (n0 + q22)), (8, .int r33), (9, .int r42), (10, .int r45)] [] K50 I48 L49 Q
                  refine z_aload_n 0 dX12_said_142 rfl ?_
                  refine fg_12_41 (some 8) rfl dX12_said_143 (co_0 hL51).1 (co_0 hL51).2 (cp_8 hL51) ?_
                  refine z_aload 6 dX12_said_146 rfl ?_
                  refine z_callV (rc := 0) (rs := 0) (mc1 := 0) (ms1 := 0) (As := [.ref (n0 + q8)]) (st := []) dX12_said_148 hy_X2_sound (co_8 hL51).1 (co_8 hL51).2 (by decide) wg_839 wg_840 wg_841 (Nat.le_refl _) (Nat.le_of_ble_eq_true rfl) (RM.mono h ?_)
                  clear h
                  intro vv K54 I52 L53 h
                  obtain ⟨r55, rfl, h⟩ := h
                  obtain ⟨hL56, h⟩ := h
                  change Z n0 xX12_said (d + 1) 0 0 151 [(0, .ref (n0 + 0)), (1, .int p0), (2, .int p1), (3, .int p2), (4, .int p3), (5, .int p4), (6, .ref (n0 + q8)), (7, .ref (n0 + q22)), (8, .int r33), (9, .int r42), (10, .int r45)] [.int r55] K54 I52 L53 Q
                  refine z_if_ne 161 dX12_said_151 (by decide) (fun g57 => ?_) (fun g57 => ?_)
                  · rw [if_neg g57] at h
                    refine z_aload_n 0 dX12_said_161 rfl ?_
                    refine fg_12_41 (some 8) rfl dX12_said_162 (co_0 hL56).1 (co_0 hL56).2 (cp_8 hL56) ?_
                    refine z_aload 6 dX12_said_165 rfl ?_
                    refine z_iload_n 3 dX12_said_167 rfl ?_
                    refine z_iload 4 dX12_said_168 rfl ?_
                    refine z_callV0 (As := [.ref (n0 + q8), .int p2, .int p3]) (st := []) dX12_said_170 hy_X2_lengthOf (co_8 hL56).1 (co_8 hL56).2 (by decide) wg_895 wg_896 wg_897 (Nat.le_refl _) (Nat.le_of_ble_eq_true rfl) (RM0.mono h ?_)
                    clear h
                    intro vv I58 L59 h
                    obtain ⟨r60, rfl, h⟩ := h
                    change Z n0 xX12_said (d + 1) 0 0 173 [(0, .ref (n0 + 0)), (1, .int p0), (2, .int p1), (3, .int p2), (4, .int p3), (5, .int p4), (6, .ref (n0 + q8)), (7, .ref (n0 + q22)), (8, .int r33), (9, .int r42), (10, .int r45)] [.int r60] K54 I58 L59 Q
                    refine z_istore [1, 2, 3, 4, 5, 6, 7, 8, 9, 10, 11, 0] [(0, .ref (n0 + 0)), (1, .int p0), (2, .int p1), (3, .int p2), (4, .int p3), (5, .int p4), (6, .ref (n0 + q8)), (7, .ref (n0 + q22)), (8, .int r33), (9, .int r42), (10, .int r45), (11, .int r60)] dX12_said_173 (by decide) rfl ?_
                    refine z_iload 11 dX12_said_175 rfl ?_
                    refine z_iload 9 dX12_said_177 rfl ?_
                    have key63 : Z n0 xX12_said (d + 1) 0 0 194 [] [.int (if r60 < r42 then 0 else if r45 < r60 then 0 else 1)] K54 I58 L59 Q := by
                      exact z_iret dX12_said_194 rfl h
                    refine z_icmp_lt 193 dX12_said_179 (by decide) (fun g61 => ?_) (fun g61 => ?_)
                    · refine z_iconst 0 dX12_said_193 (by decide) ?_
                      have ee : ((if r60 < r42 then 0 else if r45 < r60 then 0 else 1) : Int32) = 0 := by rw [if_pos g61]
                      rw [ee] at key63
                      clear ee
                      refine z_sub [] rfl ?_
                      exact key63
                    · refine z_iload 11 dX12_said_182 rfl ?_
                      refine z_iload 10 dX12_said_184 rfl ?_
                      refine z_icmp_gt 193 dX12_said_186 (by decide) (fun g62 => ?_) (fun g62 => ?_)
                      · refine z_iconst 0 dX12_said_193 (by decide) ?_
                        have ee : ((if r60 < r42 then 0 else if r45 < r60 then 0 else 1) : Int32) = 0 := by rw [if_neg g61, if_pos g62]
                        rw [ee] at key63
                        clear ee
                        refine z_sub [] rfl ?_
                        exact key63
                      · refine z_iconst 1 dX12_said_189 (by decide) ?_
                        refine z_goto 194 dX12_said_190 (by decide) ?_
                        have ee : ((if r60 < r42 then 0 else if r45 < r60 then 0 else 1) : Int32) = 1 := by rw [if_neg g61, if_neg g62]
                        rw [ee] at key63
                        clear ee
                        refine z_sub [] rfl ?_
                        exact key63
                  · rw [if_pos g57] at h
                    refine z_aload_n 0 dX12_said_154 rfl ?_
                    refine z_bipush (-7) dX12_said_155 (by decide) ?_
                    refine z_callV0 (As := [.int (-7)]) (st := []) dX12_said_157 hy_X12_refuseApart (co_0 hL56).1 (co_0 hL56).2 (by decide) wg_555 wg_557 wg_3 (Nat.le_refl _) (Nat.le_of_ble_eq_true rfl) (RM0.mono h ?_)
                    clear h
                    intro vv I64 L65 h
                    obtain ⟨r66, rfl, h⟩ := h
                    change Z n0 xX12_said (d + 1) 0 0 160 [(0, .ref (n0 + 0)), (1, .int p0), (2, .int p1), (3, .int p2), (4, .int p3), (5, .int p4), (6, .ref (n0 + q8)), (7, .ref (n0 + q22)), (8, .int r33), (9, .int r42), (10, .int r45)] [.int r66] K54 I64 L65 Q
                    exact z_iret dX12_said_160 rfl h
                · rw [if_pos g47] at h
                  refine z_iload 5 dX12_said_123 rfl ?_
                  have key68 : Z n0 xX12_said (d + 1) 0 0 135 [] [.int (if p4 = 0 then r42 else r45)] K I43 L44 Q := by
                    exact z_iret dX12_said_135 rfl h
                  refine z_if_ne 133 dX12_said_125 (by decide) (fun g67 => ?_) (fun g67 => ?_)
                  · refine z_iload 10 dX12_said_133 rfl ?_
                    have ee : ((if p4 = 0 then r42 else r45) : Int32) = r45 := by rw [if_neg g67]
                    rw [ee] at key68
                    clear ee
                    refine z_sub [] rfl ?_
                    exact key68
                  · refine z_iload 9 dX12_said_128 rfl ?_
                    refine z_goto 135 dX12_said_130 (by decide) ?_
                    have ee : ((if p4 = 0 then r42 else r45) : Int32) = r42 := by rw [if_pos g67]
                    rw [ee] at key68
                    clear ee
                    refine z_sub [] rfl ?_
                    exact key68
              · rw [if_pos g46] at h
                refine z_aload_n 0 dX12_said_110 rfl ?_
                refine z_bipush (-3) dX12_said_111 (by decide) ?_
                refine z_callV0 (As := [.int (-3)]) (st := []) dX12_said_113 hy_X12_refuseApart (co_0 hL).1 (co_0 hL).2 (by decide) wg_555 wg_557 wg_3 (Nat.le_refl _) (Nat.le_of_ble_eq_true rfl) (RM0.mono h ?_)
                clear h
                intro vv I69 L70 h
                obtain ⟨r71, rfl, h⟩ := h
                change Z n0 xX12_said (d + 1) 0 0 116 [(0, .ref (n0 + 0)), (1, .int p0), (2, .int p1), (3, .int p2), (4, .int p3), (5, .int p4), (6, .ref (n0 + q8)), (7, .ref (n0 + q22)), (8, .int r33), (9, .int r42), (10, .int r45)] [.int r71] K I69 L70 Q
                exact z_iret dX12_said_116 rfl h
            · rw [if_pos g39] at h
              refine z_aload_n 0 dX12_said_78 rfl ?_
              refine z_bipush (-5) dX12_said_79 (by decide) ?_
              refine z_callV0 (As := [.int (-5)]) (st := []) dX12_said_81 hy_X12_refuseApart (co_0 hL).1 (co_0 hL).2 (by decide) wg_555 wg_557 wg_3 (Nat.le_refl _) (Nat.le_of_ble_eq_true rfl) (RM0.mono h ?_)
              clear h
              intro vv I72 L73 h
              obtain ⟨r74, rfl, h⟩ := h
              change Z n0 xX12_said (d + 1) 0 0 84 [(0, .ref (n0 + 0)), (1, .int p0), (2, .int p1), (3, .int p2), (4, .int p3), (5, .int p4), (6, .ref (n0 + q8)), (7, .ref (n0 + q22)), (8, .int r33)] [.int r74] K I72 L73 Q
              exact z_iret dX12_said_84 rfl h
          · rw [if_pos g30] at h
            refine z_aload_n 0 dX12_said_52 rfl ?_
            refine z_bipush (-2) dX12_said_53 (by decide) ?_
            refine z_callV0 (As := [.int (-2)]) (st := []) dX12_said_55 hy_X12_refuseApart (co_0 hL).1 (co_0 hL).2 (by decide) wg_555 wg_557 wg_3 (Nat.le_refl _) (Nat.le_of_ble_eq_true rfl) (RM0.mono h ?_)
            clear h
            intro vv I75 L76 h
            obtain ⟨r77, rfl, h⟩ := h
            change Z n0 xX12_said (d + 1) 0 0 58 [(0, .ref (n0 + 0)), (1, .int p0), (2, .int p1), (3, .int p2), (4, .int p3), (5, .int p4), (6, .ref (n0 + q8)), (7, .ref (n0 + q22))] [.int r77] K I75 L76 Q
            exact z_iret dX12_said_58 rfl h
      · replace h := h.1 g21
        subst g21
        change Z n0 xX12_said (d + 1) 0 0 35 [(0, .ref (n0 + 0)), (1, .int p0), (2, .int p1), (3, .int p2), (4, .int p3), (5, .int p4), (6, .ref (n0 + q8)), (7, .null)] [] K I14 L15 Q
        refine z_aload_n 0 dX12_said_35 rfl ?_
        refine z_iconst (-1) dX12_said_36 (by decide) ?_
        refine z_callV0 (As := [.int (-1)]) (st := []) dX12_said_37 hy_X12_refuseApart (co_0 hL).1 (co_0 hL).2 (by decide) wg_555 wg_557 wg_3 (Nat.le_refl _) (Nat.le_of_ble_eq_true rfl) (RM0.mono h ?_)
        clear h
        intro vv I23 L24 h
        obtain ⟨r25, rfl, h⟩ := h
        change Z n0 xX12_said (d + 1) 0 0 40 [(0, .ref (n0 + 0)), (1, .int p0), (2, .int p1), (3, .int p2), (4, .int p3), (5, .int p4), (6, .ref (n0 + q8)), (7, .null)] [.int r25] K I23 L24 Q
        exact z_iret dX12_said_40 rfl h
