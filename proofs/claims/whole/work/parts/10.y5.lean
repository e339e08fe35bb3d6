theorem dX12_edition_0 : decode cX12_edition 0 = .ok (.aload_n 0, 1) := by decide +kernel
theorem dX12_edition_1 : decode cX12_edition 1 = .ok (.getfield 385, 3) := by decide +kernel
theorem dX12_edition_4 : decode cX12_edition 4 = .ok (.bipush 12, 2) := by decide +kernel
theorem dX12_edition_6 : decode cX12_edition 6 = .ok (.if_icmp .lt 10, 3) := by decide +kernel
theorem dX12_edition_9 : decode cX12_edition 9 = .ok (.aload_n 0, 1) := by decide +kernel
theorem dX12_edition_10 : decode cX12_edition 10 = .ok (.bipush (-6), 2) := by decide +kernel
theorem dX12_edition_12 : decode cX12_edition 12 = .ok (.invokevirtual 85, 3) := by decide +kernel
theorem dX12_edition_15 : decode cX12_edition 15 = .ok (.ireturn, 1) := by decide +kernel
theorem dX12_edition_16 : decode cX12_edition 16 = .ok (.aload_n 0, 1) := by decide +kernel
theorem dX12_edition_17 : decode cX12_edition 17 = .ok (.getfield 74, 3) := by decide +kernel
theorem dX12_edition_20 : decode cX12_edition 20 = .ok (.aload_n 0, 1) := by decide +kernel
theorem dX12_edition_21 : decode cX12_edition 21 = .ok (.getfield 385, 3) := by decide +kernel
theorem dX12_edition_24 : decode cX12_edition 24 = .ok (.new 72, 3) := by decide +kernel
theorem dX12_edition_27 : decode cX12_edition 27 = .ok (.dup, 1) := by decide +kernel
theorem dX12_edition_28 : decode cX12_edition 28 = .ok (.aload_n 0, 1) := by decide +kernel
theorem dX12_edition_29 : decode cX12_edition 29 = .ok (.getfield 89, 3) := by decide +kernel
theorem dX12_edition_32 : decode cX12_edition 32 = .ok (.invokespecial 388, 3) := by decide +kernel
theorem dX12_edition_35 : decode cX12_edition 35 = .ok (.aastore, 1) := by decide +kernel
theorem dX12_edition_36 : decode cX12_edition 36 = .ok (.aload_n 0, 1) := by decide +kernel
theorem dX12_edition_37 : decode cX12_edition 37 = .ok (.dup, 1) := by decide +kernel
theorem dX12_edition_38 : decode cX12_edition 38 = .ok (.getfield 385, 3) := by decide +kernel
theorem dX12_edition_41 : decode cX12_edition 41 = .ok (.dup_x1, 1) := by decide +kernel
theorem dX12_edition_42 : decode cX12_edition 42 = .ok (.iconst 1, 1) := by decide +kernel
theorem dX12_edition_43 : decode cX12_edition 43 = .ok (.iadd, 1) := by decide +kernel
theorem dX12_edition_44 : decode cX12_edition 44 = .ok (.putfield 385, 3) := by decide +kernel
theorem dX12_edition_47 : decode cX12_edition 47 = .ok (.ireturn, 1) := by decide +kernel
set_option maxRecDepth 100000 in
set_option maxHeartbeats 4000000 in
theorem wp_X12_edition {n0 d : Nat} {K : z_K} {I : z_I} {L : z_L} {Q : z_R}  (hL : CLay K) (h : (if ((I 0 18) : Int32) < 12 then (∀ b5, K.1 = b5 → ∀ K2, K2 = zN K 3 0 → ∀ I3, I3 = zI0 I b5 → ∀ L4, L4 = zL0 L b5 → CLay K2 ∧ RM n0 xX3_init d 5 52 [.ref (n0 + b5), .int (I3 0 0)] K2 I3 L4 (fun vv K9 I7 L8 => vv = none ∧ CLay K9 ∧ vp_in (I 0 18) 12 ∧ b5 < K9.1 ∧ (K9.2.1 b5).1 = 3 ∧ Q (some (.int (I7 0 18))) (zR K9 51 ((I 0 18).toNatClampNeg) (some b5)) (zI I7 0 18 ((I7 0 18) + 1)) L8)) else RM0 n0 xX12_refuse d [.ref (n0 + 0), .int (-6)] K I L (fun vv I14 L15 => ∃ r16 : Int32, vv = some (.int r16) ∧ Q (some (.int r16)) K I14 L15))) : RM n0 xX12_edition (d + 1) 6 60 [.ref (n0 + 0)] K I L Q := by
  refine z_entry (by decide) (Nat.le_of_ble_eq_true rfl) ?_
  change Z n0 xX12_edition (d + 1) 6 60 0 [(0, .ref (n0 + 0))] [] K I L Q
  refine z_aload_n 0 dX12_edition_0 rfl ?_
  refine fg_12_385 (I 0 18) rfl dX12_edition_1 (co_0 hL).1 (co_0 hL).2 rfl ?_
  refine z_bipush 12 dX12_edition_4 (by decide) ?_
  refine z_icmp_lt 16 dX12_edition_6 (by decide) (fun g1 => ?_) (fun g1 => ?_)
  · rw [if_pos g1] at h
    refine z_aload_n 0 dX12_edition_16 rfl ?_
    refine fg_12_74 (some 51) rfl dX12_edition_17 (co_0 hL).1 (co_0 hL).2 (ca_51 hL).1 ?_
    refine z_aload_n 0 dX12_edition_20 rfl ?_
    refine fg_12_385 (I 0 18) rfl dX12_edition_21 (co_0 hL).1 (co_0 hL).2 rfl ?_
    refine z_new (rc := 5) (rs := 52) (c := 3) dX12_edition_24 (by decide) wg_360 wg_1253 wg_123 ?_
    obtain ⟨b5, b5e⟩ : ∃ b, K.1 = b := ⟨_, rfl⟩
    obtain ⟨K2, K2e⟩ : ∃ k, k = zN K 3 0 := ⟨_, rfl⟩
    obtain ⟨I3, I3e⟩ : ∃ k, k = zI0 I b5 := ⟨_, rfl⟩
    obtain ⟨L4, L4e⟩ : ∃ k, k = zL0 L b5 := ⟨_, rfl⟩
    rw [b5e, ← K2e, ← I3e, ← L4e]
    replace h := h b5 b5e K2 K2e I3 I3e L4 L4e
    obtain ⟨hL6, h⟩ := h
    change Z n0 xX12_edition (d + 1) 5 52 27 [(0, .ref (n0 + 0))] [.ref (n0 + b5), .int (I 0 18), .ref (n0 + 51)] K2 I3 L4 Q
    refine z_dup dX12_edition_27 rfl ?_
    refine z_aload_n 0 dX12_edition_28 rfl ?_
    refine fg_12_89 (I3 0 0) rfl dX12_edition_29 (co_0 hL6).1 (co_0 hL6).2 rfl ?_
    refine z_callI (rc := 0) (rs := 0) (mc1 := 5) (ms1 := 52) (As := [.int (I3 0 0)]) (st := [.ref (n0 + b5), .int (I 0 18), .ref (n0 + 51)]) dX12_edition_32 hy_X3_init rfl rfl wg_1254 wg_1255 (Nat.le_refl _) (Nat.le_of_ble_eq_true rfl) (RM.mono h ?_)
    clear h
    intro vv K9 I7 L8 h
    obtain ⟨rfl, h⟩ := h
    obtain ⟨hL10, h⟩ := h
    change Z n0 xX12_edition (d + 1) 0 0 35 [(0, .ref (n0 + 0))] [.ref (n0 + b5), .int (I 0 18), .ref (n0 + 51)] K9 I7 L8 Q
    obtain ⟨o11, o12, o13, h⟩ := h
    refine z_aast (t := 33) dX12_edition_35 (ca_51 hL10).2.1 (ca_51 hL10).2.2 (by unfold z_rt; decide) o11 o12 o13 ?_
    refine z_aload_n 0 dX12_edition_36 rfl ?_
    refine z_dup dX12_edition_37 rfl ?_
    refine fg_12_385 (I7 0 18) rfl dX12_edition_38 (co_0 hL10).1 (co_0 hL10).2 rfl ?_
    refine z_dup_x1 dX12_edition_41 rfl rfl ?_
    refine z_iconst 1 dX12_edition_42 (by decide) ?_
    refine z_iadd dX12_edition_43 ?_
    refine fp_12_385 rfl dX12_edition_44 (co_0 hL10).1 (co_0 hL10).2 ?_
    exact z_iret dX12_edition_47 rfl h
  · rw [if_neg g1] at h
    refine z_aload_n 0 dX12_edition_9 rfl ?_
    refine z_bipush (-6) dX12_edition_10 (by decide) ?_
    refine z_callV0 (As := [.int (-6)]) (st := []) dX12_edition_12 hy_X12_refuse (co_0 hL).1 (co_0 hL).2 (by decide) wg_462 wg_464 wg_0 (Nat.le_refl _) (Nat.le_of_ble_eq_true rfl) (RM0.mono h ?_)
    clear h
    intro vv I14 L15 h
    obtain ⟨r16, rfl, h⟩ := h
    change Z n0 xX12_edition (d + 1) 6 60 15 [(0, .ref (n0 + 0))] [.int r16] K I14 L15 Q
    exact z_iret dX12_edition_15 rfl h
theorem dX12_holds_0 : decode cX12_holds 0 = .ok (.aload_n 0, 1) := by decide +kernel
theorem dX12_holds_1 : decode cX12_holds 1 = .ok (.aload_n 0, 1) := by decide +kernel
theorem dX12_holds_2 : decode cX12_holds 2 = .ok (.getfield 385, 3) := by decide +kernel
theorem dX12_holds_5 : decode cX12_holds 5 = .ok (.iconst 1, 1) := by decide +kernel
theorem dX12_holds_6 : decode cX12_holds 6 = .ok (.isub, 1) := by decide +kernel
theorem dX12_holds_7 : decode cX12_holds 7 = .ok (.invokevirtual 389, 3) := by decide +kernel
theorem dX12_holds_10 : decode cX12_holds 10 = .ok (.astore_n 3, 1) := by decide +kernel
theorem dX12_holds_11 : decode cX12_holds 11 = .ok (.aload_n 3, 1) := by decide +kernel
theorem dX12_holds_12 : decode cX12_holds 12 = .ok (.ifnonnull 10, 3) := by decide +kernel
theorem dX12_holds_15 : decode cX12_holds 15 = .ok (.aload_n 0, 1) := by decide +kernel
theorem dX12_holds_16 : decode cX12_holds 16 = .ok (.bipush (-5), 2) := by decide +kernel
theorem dX12_holds_18 : decode cX12_holds 18 = .ok (.invokevirtual 85, 3) := by decide +kernel
theorem dX12_holds_21 : decode cX12_holds 21 = .ok (.ireturn, 1) := by decide +kernel
theorem dX12_holds_22 : decode cX12_holds 22 = .ok (.aload_n 3, 1) := by decide +kernel
theorem dX12_holds_23 : decode cX12_holds 23 = .ok (.getfield 393, 3) := by decide +kernel
theorem dX12_holds_26 : decode cX12_holds 26 = .ok (.aload_n 0, 1) := by decide +kernel
theorem dX12_holds_27 : decode cX12_holds 27 = .ok (.getfield 89, 3) := by decide +kernel
theorem dX12_holds_30 : decode cX12_holds 30 = .ok (.if_icmp .eq 10, 3) := by decide +kernel
theorem dX12_holds_33 : decode cX12_holds 33 = .ok (.aload_n 0, 1) := by decide +kernel
theorem dX12_holds_34 : decode cX12_holds 34 = .ok (.bipush (-3), 2) := by decide +kernel
theorem dX12_holds_36 : decode cX12_holds 36 = .ok (.invokevirtual 85, 3) := by decide +kernel
theorem dX12_holds_39 : decode cX12_holds 39 = .ok (.ireturn, 1) := by decide +kernel
theorem dX12_holds_40 : decode cX12_holds 40 = .ok (.aload_n 0, 1) := by decide +kernel
theorem dX12_holds_41 : decode cX12_holds 41 = .ok (.iload_n 1, 1) := by decide +kernel
theorem dX12_holds_42 : decode cX12_holds 42 = .ok (.invokevirtual 136, 3) := by decide +kernel
theorem dX12_holds_45 : decode cX12_holds 45 = .ok (.astore 4, 2) := by decide +kernel
theorem dX12_holds_47 : decode cX12_holds 47 = .ok (.aload 4, 2) := by decide +kernel
theorem dX12_holds_49 : decode cX12_holds 49 = .ok (.ifnull 10, 3) := by decide +kernel
theorem dX12_holds_52 : decode cX12_holds 52 = .ok (.iload_n 2, 1) := by decide +kernel
theorem dX12_holds_53 : decode cX12_holds 53 = .ok (.invokestatic 97, 3) := by decide +kernel
theorem dX12_holds_56 : decode cX12_holds 56 = .ok (.ifCond .ne 9, 3) := by decide +kernel
theorem dX12_holds_59 : decode cX12_holds 59 = .ok (.aload_n 0, 1) := by decide +kernel
theorem dX12_holds_60 : decode cX12_holds 60 = .ok (.iconst (-1), 1) := by decide +kernel
theorem dX12_holds_61 : decode cX12_holds 61 = .ok (.invokevirtual 85, 3) := by decide +kernel
theorem dX12_holds_64 : decode cX12_holds 64 = .ok (.ireturn, 1) := by decide +kernel
theorem dX12_holds_65 : decode cX12_holds 65 = .ok (.aload_n 0, 1) := by decide +kernel
theorem dX12_holds_66 : decode cX12_holds 66 = .ok (.iload_n 2, 1) := by decide +kernel
theorem dX12_holds_67 : decode cX12_holds 67 = .ok (.aload_n 0, 1) := by decide +kernel
theorem dX12_holds_68 : decode cX12_holds 68 = .ok (.getfield 89, 3) := by decide +kernel
theorem dX12_holds_71 : decode cX12_holds 71 = .ok (.invokevirtual 231, 3) := by decide +kernel
theorem dX12_holds_74 : decode cX12_holds 74 = .ok (.aload_n 0, 1) := by decide +kernel
theorem dX12_holds_75 : decode cX12_holds 75 = .ok (.getfield 41, 3) := by decide +kernel
theorem dX12_holds_78 : decode cX12_holds 78 = .ok (.aload 4, 2) := by decide +kernel
theorem dX12_holds_80 : decode cX12_holds 80 = .ok (.invokevirtual 235, 3) := by decide +kernel
theorem dX12_holds_83 : decode cX12_holds 83 = .ok (.ifCond .ne 10, 3) := by decide +kernel
theorem dX12_holds_86 : decode cX12_holds 86 = .ok (.aload_n 0, 1) := by decide +kernel
theorem dX12_holds_87 : decode cX12_holds 87 = .ok (.bipush (-7), 2) := by decide +kernel
theorem dX12_holds_89 : decode cX12_holds 89 = .ok (.invokevirtual 85, 3) := by decide +kernel
theorem dX12_holds_92 : decode cX12_holds 92 = .ok (.ireturn, 1) := by decide +kernel
theorem dX12_holds_93 : decode cX12_holds 93 = .ok (.aload_n 3, 1) := by decide +kernel
theorem dX12_holds_94 : decode cX12_holds 94 = .ok (.getfield 394, 3) := by decide +kernel
theorem dX12_holds_97 : decode cX12_holds 97 = .ok (.bipush 8, 2) := by decide +kernel
theorem dX12_holds_99 : decode cX12_holds 99 = .ok (.if_icmp .lt 10, 3) := by decide +kernel
theorem dX12_holds_102 : decode cX12_holds 102 = .ok (.aload_n 0, 1) := by decide +kernel
theorem dX12_holds_103 : decode cX12_holds 103 = .ok (.bipush (-6), 2) := by decide +kernel
theorem dX12_holds_105 : decode cX12_holds 105 = .ok (.invokevirtual 85, 3) := by decide +kernel
theorem dX12_holds_108 : decode cX12_holds 108 = .ok (.ireturn, 1) := by decide +kernel
theorem dX12_holds_109 : decode cX12_holds 109 = .ok (.aload_n 3, 1) := by decide +kernel
theorem dX12_holds_110 : decode cX12_holds 110 = .ok (.aload 4, 2) := by decide +kernel
theorem dX12_holds_112 : decode cX12_holds 112 = .ok (.iload_n 2, 1) := by decide +kernel
theorem dX12_holds_113 : decode cX12_holds 113 = .ok (.invokevirtual 397, 3) := by decide +kernel
theorem dX12_holds_116 : decode cX12_holds 116 = .ok (.ireturn, 1) := by decide +kernel
set_option maxRecDepth 100000 in
set_option maxHeartbeats 4000000 in
theorem wp_X12_holds {n0 d : Nat} {K : z_K} {I : z_I} {L : z_L} {Q : z_R} {p0 : Int32} {p1 : Int32} (hL : CLay K) (h : RM0 n0 xX12_editionOf d [.ref (n0 + 0), .int ((I 0 18) - 1)] K I L (fun vv I1 L2 => ∃ r3 : Option Nat, vv = some (zr n0 r3) ∧ ((r3 = none → RM0 n0 xX12_refuse d [.ref (n0 + 0), .int (-5)] K I1 L2 (fun vv I6 L7 => ∃ r8 : Int32, vv = some (.int r8) ∧ Q (some (.int r8)) K I6 L7)) ∧ (∀ q5, r3 = some q5 → q5 < K.1 ∧ (K.2.1 q5).1 = 3 ∧ (if ((I1 q5 0) : Int32) = (I1 0 0) then RM0 n0 xX12_pieceOf d [.ref (n0 + 0), .int p0] K I1 L2 (fun vv I12 L13 => ∃ r14 : Option Nat, vv = some (zr n0 r14) ∧ ((r14 = none → RM0 n0 xX12_refuse d [.ref (n0 + 0), .int (-1)] K I12 L13 (fun vv I17 L18 => ∃ r19 : Int32, vv = some (.int r19) ∧ Q (some (.int r19)) K I17 L18)) ∧ (∀ q16, r14 = some q16 → RM0 n0 xX12_isSize d [.int p1] K I12 L13 (fun vv I20 L21 => ∃ r22 : Int32, vv = some (.int r22) ∧ (if r22 = 0 then RM0 n0 xX12_refuse d [.ref (n0 + 0), .int (-1)] K I20 L21 (fun vv I48 L49 => ∃ r50 : Int32, vv = some (.int r50) ∧ Q (some (.int r50)) K I48 L49) else RM n0 xX12_drawAt d 0 0 [.ref (n0 + 0), .int p1, .int (I20 0 0)] K I20 L21 (fun vv K26 I24 L25 => vv = none ∧ CLay K26 ∧ RM n0 xX2_sound d 0 0 [.ref (n0 + 8), .ref (n0 + q16)] K26 I24 L25 (fun vv K30 I28 L29 => ∃ r31 : Int32, vv = some (.int r31) ∧ CLay K30 ∧ (if r31 = 0 then RM0 n0 xX12_refuse d [.ref (n0 + 0), .int (-7)] K30 I28 L29 (fun vv I45 L46 => ∃ r47 : Int32, vv = some (.int r47) ∧ Q (some (.int r47)) K30 I45 L46) else q5 < K30.1 ∧ (K30.2.1 q5).1 = 3 ∧ (if ((I28 q5 3) : Int32) < 8 then RM n0 xX3_addPiece d 0 0 [.ref (n0 + q5), .ref (n0 + q16), .int p1] K30 I28 L29 (fun vv K39 I37 L38 => ∃ r40 : Int32, vv = some (.int r40) ∧ CLay K39 ∧ Q (some (.int r40)) K39 I37 L38) else RM0 n0 xX12_refuse d [.ref (n0 + 0), .int (-6)] K30 I28 L29 (fun vv I42 L43 => ∃ r44 : Int32, vv = some (.int r44) ∧ Q (some (.int r44)) K30 I42 L43)))))))))) else RM0 n0 xX12_refuse d [.ref (n0 + 0), .int (-3)] K I1 L2 (fun vv I51 L52 => ∃ r53 : Int32, vv = some (.int r53) ∧ Q (some (.int r53)) K I51 L52)))))) : RM n0 xX12_holds (d + 1) 0 0 [.ref (n0 + 0), .int p0, .int p1] K I L Q := by
  refine z_entry (by decide) (Nat.le_of_ble_eq_true rfl) ?_
  change Z n0 xX12_holds (d + 1) 0 0 0 [(0, .ref (n0 + 0)), (1, .int p0), (2, .int p1)] [] K I L Q
  refine z_aload_n 0 dX12_holds_0 rfl ?_
  refine z_aload_n 0 dX12_holds_1 rfl ?_
  refine fg_12_385 (I 0 18) rfl dX12_holds_2 (co_0 hL).1 (co_0 hL).2 rfl ?_
  refine z_iconst 1 dX12_holds_5 (by decide) ?_
  refine z_isub dX12_holds_6 ?_
  refine z_callV0 (As := [.int ((I 0 18) - 1)]) (st := []) dX12_holds_7 hy_X12_editionOf (co_0 hL).1 (co_0 hL).2 (by decide) wg_1296 wg_1298 wg_48 (Nat.le_refl _) (Nat.le_of_ble_eq_true rfl) (RM0.mono h ?_)
  clear h
  intro vv I1 L2 h
  obtain ⟨r3, rfl, h⟩ := h
  change Z n0 xX12_holds (d + 1) 0 0 10 [(0, .ref (n0 + 0)), (1, .int p0), (2, .int p1)] [zr n0 r3] K I1 L2 Q
  refine z_astore_nO [1, 2, 3, 0] [(0, .ref (n0 + 0)), (1, .int p0), (2, .int p1), (3, zr n0 r3)] dX12_holds_10 (by decide) (fun v hv => by subst hv; rfl) ?_
  refine z_aload_nO 3 dX12_holds_11 rfl ?_
  refine z_ifnonnull 22 dX12_holds_12 (by decide) (fun q5 g4 => ?_) (fun g4 => ?_)
  · replace h := h.2 q5 g4
    subst g4
    change Z n0 xX12_holds (d + 1) 0 0 22 [(0, .ref (n0 + 0)), (1, .int p0), (2, .int p1), (3, .ref (n0 + q5))] [] K I1 L2 Q
    refine z_aload_n 3 dX12_holds_22 rfl ?_
    obtain ⟨o9, o10, h⟩ := h
    refine fg_12_393 (I1 q5 0) rfl dX12_holds_23 o9 o10 rfl ?_
    refine z_aload_n 0 dX12_holds_26 rfl ?_
    refine fg_12_89 (I1 0 0) rfl dX12_holds_27 (co_0 hL).1 (co_0 hL).2 rfl ?_
    refine z_icmp_eq 40 dX12_holds_30 (by decide) (fun g11 => ?_) (fun g11 => ?_)
    · rw [if_pos g11] at h
      refine z_aload_n 0 dX12_holds_40 rfl ?_
      refine z_iload_n 1 dX12_holds_41 rfl ?_
      refine z_callV0 (As := [.int p0]) (st := []) dX12_holds_42 hy_X12_pieceOf (co_0 hL).1 (co_0 hL).2 (by decide) wg_572 wg_574 wg_5 (Nat.le_refl _) (Nat.le_of_ble_eq_true rfl) (RM0.mono h ?_)
      clear h
      intro vv I12 L13 h
      obtain ⟨r14, rfl, h⟩ := h
      change Z n0 xX12_holds (d + 1) 0 0 45 [(0, .ref (n0 + 0)), (1, .int p0), (2, .int p1), (3, .ref (n0 + q5))] [zr n0 r14] K I12 L13 Q
      refine z_astoreO [1, 2, 3, 4, 0] [(0, .ref (n0 + 0)), (1, .int p0), (2, .int p1), (3, .ref (n0 + q5)), (4, zr n0 r14)] dX12_holds_45 (by decide) (fun v hv => by subst hv; rfl) ?_
      refine z_aloadO 4 dX12_holds_47 rfl ?_
      refine z_ifnull 59 dX12_holds_49 (by decide) (fun g15 => ?_) (fun q16 g15 => ?_)
      · replace h := h.1 g15
        subst g15
        change Z n0 xX12_holds (d + 1) 0 0 59 [(0, .ref (n0 + 0)), (1, .int p0), (2, .int p1), (3, .ref (n0 + q5)), (4, .null)] [] K I12 L13 Q
        refine z_aload_n 0 dX12_holds_59 rfl ?_
        refine z_iconst (-1) dX12_holds_60 (by decide) ?_
        refine z_callV0 (As := [.int (-1)]) (st := []) dX12_holds_61 hy_X12_refuse (co_0 hL).1 (co_0 hL).2 (by decide) wg_462 wg_464 wg_0 (Nat.le_refl _) (Nat.le_of_ble_eq_true rfl) (RM0.mono h ?_)
        clear h
        intro vv I17 L18 h
        obtain ⟨r19, rfl, h⟩ := h
        change Z n0 xX12_holds (d + 1) 0 0 64 [(0, .ref (n0 + 0)), (1, .int p0), (2, .int p1), (3, .ref (n0 + q5)), (4, .null)] [.int r19] K I17 L18 Q
        exact z_iret dX12_holds_64 rfl h
      · replace h := h.2 q16 g15
        subst g15
        change Z n0 xX12_holds (d + 1) 0 0 52 [(0, .ref (n0 + 0)), (1, .int p0), (2, .int p1), (3, .ref (n0 + q5)), (4, .ref (n0 + q16))] [] K I12 L13 Q
        refine z_iload_n 2 dX12_holds_52 rfl ?_
        refine z_callS0 (As := [.int p1]) (st := []) dX12_holds_53 hy_X12_isSize wg_473 wg_474 (Nat.le_refl _) (Nat.le_of_ble_eq_true rfl) (RM0.mono h ?_)
        clear h
        intro vv I20 L21 h
        obtain ⟨r22, rfl, h⟩ := h
        change Z n0 xX12_holds (d + 1) 0 0 56 [(0, .ref (n0 + 0)), (1, .int p0), (2, .int p1), (3, .ref (n0 + q5)), (4, .ref (n0 + q16))] [.int r22] K I20 L21 Q
        refine z_if_ne 65 dX12_holds_56 (by decide) (fun g23 => ?_) (fun g23 => ?_)
        · rw [if_neg g23] at h
          refine z_aload_n 0 dX12_holds_65 rfl ?_
          refine z_iload_n 2 dX12_holds_66 rfl ?_
          refine z_aload_n 0 dX12_holds_67 rfl ?_
          refine fg_12_89 (I20 0 0) rfl dX12_holds_68 (co_0 hL).1 (co_0 hL).2 rfl ?_
          refine z_callV (rc := 0) (rs := 0) (mc1 := 0) (ms1 := 0) (As := [.int p1, .int (I20 0 0)]) (st := []) dX12_holds_71 hy_X12_drawAt (co_0 hL).1 (co_0 hL).2 (by decide) wg_831 wg_833 wg_19 (Nat.le_refl _) (Nat.le_of_ble_eq_true rfl) (RM.mono h ?_)
          clear h
          intro vv K26 I24 L25 h
          obtain ⟨rfl, h⟩ := h
          obtain ⟨hL27, h⟩ := h
          change Z n0 xX12_holds (d + 1) 0 0 74 [(0, .ref (n0 + 0)), (1, .int p0), (2, .int p1), (3, .ref (n0 + q5)), (4, .ref (n0 + q16))] [] K26 I24 L25 Q
          refine z_aload_n 0 dX12_holds_74 rfl ?_
          refine fg_12_41 (some 8) rfl dX12_holds_75 (co_0 hL27).1 (co_0 hL27).2 (cp_8 hL27) ?_
          refine z_aload 4 dX12_holds_78 rfl ?_
          refine z_callV (rc := 0) (rs := 0) (mc1 := 0) (ms1 := 0) (As := [.ref (n0 + q16)]) (st := []) dX12_holds_80 hy_X2_sound (co_8 hL27).1 (co_8 hL27).2 (by decide) wg_839 wg_840 wg_841 (Nat.le_refl _) (Nat.le_of_ble_eq_true rfl) (RM.mono h ?_)
          clear h
          intro vv K30 I28 L29 h
          obtain ⟨r31, rfl, h⟩ := h
          obtain ⟨hL32, h⟩ := h
          change Z n0 xX12_holds (d + 1) 0 0 83 [(0, .ref (n0 + 0)), (1, .int p0), (2, .int p1), (3, .ref (n0 + q5)), (4, .ref (n0 + q16))] [.int r31] K30 I28 L29 Q
          refine z_if_ne 93 dX12_holds_83 (by decide) (fun g33 => ?_) (fun g33 => ?_)
          · rw [if_neg g33] at h
            refine z_aload_n 3 dX12_holds_93 rfl ?_
            obtain ⟨o34, o35, h⟩ := h
            refine fg_12_394 (I28 q5 3) rfl dX12_holds_94 o34 o35 rfl ?_
            refine z_bipush 8 dX12_holds_97 (by decide) ?_
            refine z_icmp_lt 109 dX12_holds_99 (by decide) (fun g36 => ?_) (fun g36 => ?_)
            · rw [if_pos g36] at h
              refine z_aload_n 3 dX12_holds_109 rfl ?_
              refine z_aload 4 dX12_holds_110 rfl ?_
              refine z_iload_n 2 dX12_holds_112 rfl ?_
              refine z_callV (rc := 0) (rs := 0) (mc1 := 0) (ms1 := 0) (As := [.ref (n0 + q16), .int p1]) (st := []) dX12_holds_113 hy_X3_addPiece o34 o35 (by decide) wg_1300 wg_1301 wg_1302 (Nat.le_refl _) (Nat.le_of_ble_eq_true rfl) (RM.mono h ?_)
              clear h
              intro vv K39 I37 L38 h
              obtain ⟨r40, rfl, h⟩ := h
              obtain ⟨hL41, h⟩ := h
              change Z n0 xX12_holds (d + 1) 0 0 116 [(0, .ref (n0 + 0)), (1, .int p0), (2, .int p1), (3, .ref (n0 + q5)), (4, .ref (n0 + q16))] [.int r40] K39 I37 L38 Q
              exact z_iret dX12_holds_116 rfl h
            · rw [if_neg g36] at h
              refine z_aload_n 0 dX12_holds_102 rfl ?_
              refine z_bipush (-6) dX12_holds_103 (by decide) ?_
              refine z_callV0 (As := [.int (-6)]) (st := []) dX12_holds_105 hy_X12_refuse (co_0 hL32).1 (co_0 hL32).2 (by decide) wg_462 wg_464 wg_0 (Nat.le_refl _) (Nat.le_of_ble_eq_true rfl) (RM0.mono h ?_)
              clear h
              intro vv I42 L43 h
              obtain ⟨r44, rfl, h⟩ := h
              change Z n0 xX12_holds (d + 1) 0 0 108 [(0, .ref (n0 + 0)), (1, .int p0), (2, .int p1), (3, .ref (n0 + q5)), (4, .ref (n0 + q16))] [.int r44] K30 I42 L43 Q
              exact z_iret dX12_holds_108 rfl h
          · rw [if_pos g33] at h
            refine z_aload_n 0 dX12_holds_86 rfl ?_
            refine z_bipush (-7) dX12_holds_87 (by decide) ?_
            refine z_callV0 (As := [.int (-7)]) (st := []) dX12_holds_89 hy_X12_refuse (co_0 hL32).1 (co_0 hL32).2 (by decide) wg_462 wg_464 wg_0 (Nat.le_refl _) (Nat.le_of_ble_eq_true rfl) (RM0.mono h ?_)
            clear h
            intro vv I45 L46 h
            obtain ⟨r47, rfl, h⟩ := h
            change Z n0 xX12_holds (d + 1) 0 0 92 [(0, .ref (n0 + 0)), (1, .int p0), (2, .int p1), (3, .ref (n0 + q5)), (4, .ref (n0 + q16))] [.int r47] K30 I45 L46 Q
            exact z_iret dX12_holds_92 rfl h
        · rw [if_pos g23] at h
          refine z_aload_n 0 dX12_holds_59 rfl ?_
          refine z_iconst (-1) dX12_holds_60 (by decide) ?_
          refine z_callV0 (As := [.int (-1)]) (st := []) dX12_holds_61 hy_X12_refuse (co_0 hL).1 (co_0 hL).2 (by decide) wg_462 wg_464 wg_0 (Nat.le_refl _) (Nat.le_of_ble_eq_true rfl) (RM0.mono h ?_)
          clear h
          intro vv I48 L49 h
          obtain ⟨r50, rfl, h⟩ := h
          change Z n0 xX12_holds (d + 1) 0 0 64 [(0, .ref (n0 + 0)), (1, .int p0), (2, .int p1), (3, .ref (n0 + q5)), (4, .ref (n0 + q16))] [.int r50] K I48 L49 Q
          exact z_iret dX12_holds_64 rfl h
    · rw [if_neg g11] at h
      refine z_aload_n 0 dX12_holds_33 rfl ?_
      refine z_bipush (-3) dX12_holds_34 (by decide) ?_
      refine z_callV0 (As := [.int (-3)]) (st := []) dX12_holds_36 hy_X12_refuse (co_0 hL).1 (co_0 hL).2 (by decide) wg_462 wg_464 wg_0 (Nat.le_refl _) (Nat.le_of_ble_eq_true rfl) (RM0.mono h ?_)
      clear h
      intro vv I51 L52 h
      obtain ⟨r53, rfl, h⟩ := h
      change Z n0 xX12_holds (d + 1) 0 0 39 [(0, .ref (n0 + 0)), (1, .int p0), (2, .int p1), (3, .ref (n0 + q5))] [.int r53] K I51 L52 Q
      exact z_iret dX12_holds_39 rfl h
  · replace h := h.1 g4
    subst g4
    change Z n0 xX12_holds (d + 1) 0 0 15 [(0, .ref (n0 + 0)), (1, .int p0), (2, .int p1), (3, .null)] [] K I1 L2 Q
    refine z_aload_n 0 dX12_holds_15 rfl ?_
    refine z_bipush (-5) dX12_holds_16 (by decide) ?_
    refine z_callV0 (As := [.int (-5)]) (st := []) dX12_holds_18 hy_X12_refuse (co_0 hL).1 (co_0 hL).2 (by decide) wg_462 wg_464 wg_0 (Nat.le_refl _) (Nat.le_of_ble_eq_true rfl) (RM0.mono h ?_)
    clear h
    intro vv I6 L7 h
    obtain ⟨r8, rfl, h⟩ := h
    change Z n0 xX12_holds (d + 1) 0 0 21 [(0, .ref (n0 + 0)), (1, .int p0), (2, .int p1), (3, .null)] [.int r8] K I6 L7 Q
    exact z_iret dX12_holds_21 rfl h
theorem dX12_word_0 : decode cX12_word 0 = .ok (.aload_n 0, 1) := by decide +kernel
theorem dX12_word_1 : decode cX12_word 1 = .ok (.iload_n 1, 1) := by decide +kernel
theorem dX12_word_2 : decode cX12_word 2 = .ok (.invokevirtual 389, 3) := by decide +kernel
theorem dX12_word_5 : decode cX12_word 5 = .ok (.astore 5, 2) := by decide +kernel
theorem dX12_word_7 : decode cX12_word 7 = .ok (.aload 5, 2) := by decide +kernel
theorem dX12_word_9 : decode cX12_word 9 = .ok (.ifnull 16, 3) := by decide +kernel
theorem dX12_word_12 : decode cX12_word 12 = .ok (.iload_n 2, 1) := by decide +kernel
theorem dX12_word_13 : decode cX12_word 13 = .ok (.ifCond .lt 12, 3) := by decide +kernel
theorem dX12_word_16 : decode cX12_word 16 = .ok (.iload_n 2, 1) := by decide +kernel
theorem dX12_word_17 : decode cX12_word 17 = .ok (.aload 5, 2) := by decide +kernel
theorem dX12_word_19 : decode cX12_word 19 = .ok (.getfield 394, 3) := by decide +kernel
theorem dX12_word_22 : decode cX12_word 22 = .ok (.if_icmp .lt 9, 3) := by decide +kernel
theorem dX12_word_25 : decode cX12_word 25 = .ok (.aload_n 0, 1) := by decide +kernel
theorem dX12_word_26 : decode cX12_word 26 = .ok (.iconst (-1), 1) := by decide +kernel
theorem dX12_word_27 : decode cX12_word 27 = .ok (.invokevirtual 85, 3) := by decide +kernel
theorem dX12_word_30 : decode cX12_word 30 = .ok (.ireturn, 1) := by decide +kernel
theorem dX12_word_31 : decode cX12_word 31 = .ok (.iload_n 3, 1) := by decide +kernel
theorem dX12_word_32 : decode cX12_word 32 = .ok (.ifCond .lt 8, 3) := by decide +kernel
theorem dX12_word_35 : decode cX12_word 35 = .ok (.iload_n 3, 1) := by decide +kernel
theorem dX12_word_36 : decode cX12_word 36 = .ok (.iconst 2, 1) := by decide +kernel
theorem dX12_word_37 : decode cX12_word 37 = .ok (.if_icmp .le 10, 3) := by decide +kernel
theorem dX12_word_40 : decode cX12_word 40 = .ok (.aload_n 0, 1) := by decide +kernel
theorem dX12_word_41 : decode cX12_word 41 = .ok (.bipush (-2), 2) := by decide +kernel
theorem dX12_word_43 : decode cX12_word 43 = .ok (.invokevirtual 85, 3) := by decide +kernel
theorem dX12_word_46 : decode cX12_word 46 = .ok (.ireturn, 1) := by decide +kernel
theorem dX12_word_47 : decode cX12_word 47 = .ok (.iload 4, 2) := by decide +kernel
theorem dX12_word_49 : decode cX12_word 49 = .ok (.iconst 0, 1) := by decide +kernel
theorem dX12_word_50 : decode cX12_word 50 = .ok (.ldc_w 400, 3) := by decide +kernel
theorem dX12_word_53 : decode cX12_word 53 = .ok (.invokestatic 100, 3) := by decide +kernel
theorem dX12_word_56 : decode cX12_word 56 = .ok (.istore 6, 2) := by decide +kernel
theorem dX12_word_58 : decode cX12_word 58 = .ok (.iload 6, 2) := by decide +kernel
theorem dX12_word_60 : decode cX12_word 60 = .ok (.ifCond .eq 10, 3) := by decide +kernel
theorem dX12_word_63 : decode cX12_word 63 = .ok (.aload_n 0, 1) := by decide +kernel
theorem dX12_word_64 : decode cX12_word 64 = .ok (.iload 6, 2) := by decide +kernel
theorem dX12_word_66 : decode cX12_word 66 = .ok (.invokevirtual 85, 3) := by decide +kernel
theorem dX12_word_69 : decode cX12_word 69 = .ok (.ireturn, 1) := by decide +kernel
theorem dX12_word_70 : decode cX12_word 70 = .ok (.aload 5, 2) := by decide +kernel
theorem dX12_word_72 : decode cX12_word 72 = .ok (.getfield 401, 3) := by decide +kernel
theorem dX12_word_75 : decode cX12_word 75 = .ok (.bipush 12, 2) := by decide +kernel
theorem dX12_word_77 : decode cX12_word 77 = .ok (.if_icmp .lt 10, 3) := by decide +kernel
theorem dX12_word_80 : decode cX12_word 80 = .ok (.aload_n 0, 1) := by decide +kernel
theorem dX12_word_81 : decode cX12_word 81 = .ok (.bipush (-6), 2) := by decide +kernel
theorem dX12_word_83 : decode cX12_word 83 = .ok (.invokevirtual 85, 3) := by decide +kernel
theorem dX12_word_86 : decode cX12_word 86 = .ok (.ireturn, 1) := by decide +kernel
theorem dX12_word_87 : decode cX12_word 87 = .ok (.aload 5, 2) := by decide +kernel
theorem dX12_word_89 : decode cX12_word 89 = .ok (.iload_n 2, 1) := by decide +kernel
theorem dX12_word_90 : decode cX12_word 90 = .ok (.iload_n 3, 1) := by decide +kernel
theorem dX12_word_91 : decode cX12_word 91 = .ok (.iload 4, 2) := by decide +kernel
theorem dX12_word_93 : decode cX12_word 93 = .ok (.invokevirtual 404, 3) := by decide +kernel
theorem dX12_word_96 : decode cX12_word 96 = .ok (.ireturn, 1) := by decide +kernel
set_option maxRecDepth 100000 in
set_option maxHeartbeats 4000000 in
theorem wp_X12_word {n0 d : Nat} {K : z_K} {I : z_I} {L : z_L} {Q : z_q} {p0 : Int32} {p1 : Int32} {p2 : Int32} {p3 : Int32} (hL : CLay K) (h : RM0 n0 xX12_editionOf d [.ref (n0 + 0), .int p0] K I L (fun vv I1 L2 => ∃ r3 : Option Nat, vv = some (zr n0 r3) ∧ ((r3 = none → RM0 n0 xX12_refuse d [.ref (n0 + 0), .int (-1)] K I1 L2 (fun vv I6 L7 => ∃ r8 : Int32, vv = some (.int r8) ∧ Q (some (.int r8)) I6 L7)) ∧ (∀ q5, r3 = some q5 → (if p1 < 0 then RM0 n0 xX12_refuse d [.ref (n0 + 0), .int (-1)] K I1 L2 (fun vv I10 L11 => ∃ r12 : Int32, vv = some (.int r12) ∧ Q (some (.int r12)) I10 L11) else q5 < K.1 ∧ (K.2.1 q5).1 = 3 ∧ (if p1 < (I1 q5 3) then (if p2 < 0 then RM0 n0 xX12_refuse d [.ref (n0 + 0), .int (-2)] K I1 L2 (fun vv I17 L18 => ∃ r19 : Int32, vv = some (.int r19) ∧ Q (some (.int r19)) I17 L18) else (if 2 < p2 then RM0 n0 xX12_refuse d [.ref (n0 + 0), .int (-2)] K I1 L2 (fun vv I35 L36 => ∃ r37 : Int32, vv = some (.int r37) ∧ Q (some (.int r37)) I35 L36) else RM0 n0 xX12_outside d [.int p3, .int 0, .int 1000000000] K I1 L2 (fun vv I21 L22 => ∃ r23 : Int32, vv = some (.int r23) ∧ (if r23 = 0 then (if ((I21 q5 7) : Int32) < 12 then RM0 n0 xX3_addWord d [.ref (n0 + q5), .int p1, .int p2, .int p3] K I21 L22 (fun vv I26 L27 => ∃ r28 : Int32, vv = some (.int r28) ∧ Q (some (.int r28)) I26 L27) else RM0 n0 xX12_refuse d [.ref (n0 + 0), .int (-6)] K I21 L22 (fun vv I29 L30 => ∃ r31 : Int32, vv = some (.int r31) ∧ Q (some (.int r31)) I29 L30)) else RM0 n0 xX12_refuse d [.ref (n0 + 0), .int r23] K I21 L22 (fun vv I32 L33 => ∃ r34 : Int32, vv = some (.int r34) ∧ Q (some (.int r34)) I32 L33))))) else RM0 n0 xX12_refuse d [.ref (n0 + 0), .int (-1)] K I1 L2 (fun vv I38 L39 => ∃ r40 : Int32, vv = some (.int r40) ∧ Q (some (.int r40)) I38 L39))))))) : RM0 n0 xX12_word (d + 1) [.ref (n0 + 0), .int p0, .int p1, .int p2, .int p3] K I L Q := by
  refine z_entry0 (by decide) (Nat.le_of_ble_eq_true rfl) ?_
  change Z n0 xX12_word (d + 1) 0 0 0 [(0, .ref (n0 + 0)), (1, .int p0), (2, .int p1), (3, .int p2), (4, .int p3)] [] K I L (z_q0 K Q)
  refine z_aload_n 0 dX12_word_0 rfl ?_
  refine z_iload_n 1 dX12_word_1 rfl ?_
  refine z_callV0 (As := [.int p0]) (st := []) dX12_word_2 hy_X12_editionOf (co_0 hL).1 (co_0 hL).2 (by decide) wg_1296 wg_1298 wg_48 (Nat.le_refl _) (Nat.le_of_ble_eq_true rfl) (RM0.mono h ?_)
  clear h
  intro vv I1 L2 h
  obtain ⟨r3, rfl, h⟩ := h
  change Z n0 xX12_word (d + 1) 0 0 5 [(0, .ref (n0 + 0)), (1, .int p0), (2, .int p1), (3, .int p2), (4, .int p3)] [zr n0 r3] K I1 L2 (z_q0 K Q)
  refine z_astoreO [1, 2, 3, 4, 5, 0] [(0, .ref (n0 + 0)), (1, .int p0), (2, .int p1), (3, .int p2), (4, .int p3), (5, zr n0 r3)] dX12_word_5 (by decide) (fun v hv => by subst hv; rfl) ?_
  refine z_aloadO 5 dX12_word_7 rfl ?_
  refine z_ifnull 25 dX12_word_9 (by decide) (fun g4 => ?_) (fun q5 g4 => ?_)
  · replace h := h.1 g4
    subst g4
    change Z n0 xX12_word (d + 1) 0 0 25 [(0, .ref (n0 + 0)), (1, .int p0), (2, .int p1), (3, .int p2), (4, .int p3), (5, .null)] [] K I1 L2 (z_q0 K Q)
    refine z_aload_n 0 dX12_word_25 rfl ?_
    refine z_iconst (-1) dX12_word_26 (by decide) ?_
    refine z_callV0 (As := [.int (-1)]) (st := []) dX12_word_27 hy_X12_refuse (co_0 hL).1 (co_0 hL).2 (by decide) wg_462 wg_464 wg_0 (Nat.le_refl _) (Nat.le_of_ble_eq_true rfl) (RM0.mono h ?_)
    clear h
    intro vv I6 L7 h
    obtain ⟨r8, rfl, h⟩ := h
    change Z n0 xX12_word (d + 1) 0 0 30 [(0, .ref (n0 + 0)), (1, .int p0), (2, .int p1), (3, .int p2), (4, .int p3), (5, .null)] [.int r8] K I6 L7 (z_q0 K Q)
    exact z_iret dX12_word_30 rfl ⟨rfl, h⟩
  · replace h := h.2 q5 g4
    subst g4
    change Z n0 xX12_word (d + 1) 0 0 12 [(0, .ref (n0 + 0)), (1, .int p0), (2, .int p1), (3, .int p2), (4, .int p3), (5, .ref (n0 + q5))] [] K I1 L2 (z_q0 K Q)
    refine z_iload_n 2 dX12_word_12 rfl ?_
    refine z_if_lt 25 dX12_word_13 (by decide) (fun g9 => ?_) (fun g9 => ?_)
    · rw [if_pos g9] at h
      refine z_aload_n 0 dX12_word_25 rfl ?_
      refine z_iconst (-1) dX12_word_26 (by decide) ?_
      refine z_callV0 (As := [.int (-1)]) (st := []) dX12_word_27 hy_X12_refuse (co_0 hL).1 (co_0 hL).2 (by decide) wg_462 wg_464 wg_0 (Nat.le_refl _) (Nat.le_of_ble_eq_true rfl) (RM0.mono h ?_)
      clear h
      intro vv I10 L11 h
      obtain ⟨r12, rfl, h⟩ := h
      change Z n0 xX12_word (d + 1) 0 0 30 [(0, .ref (n0 + 0)), (1, .int p0), (2, .int p1), (3, .int p2), (4, .int p3), (5, .ref (n0 + q5))] [.int r12] K I10 L11 (z_q0 K Q)
      exact z_iret dX12_word_30 rfl ⟨rfl, h⟩
    · rw [if_neg g9] at h
      refine z_iload_n 2 dX12_word_16 rfl ?_
      refine z_aload 5 dX12_word_17 rfl ?_
      obtain ⟨o13, o14, h⟩ := h
      refine fg_12_394 (I1 q5 3) rfl dX12_word_19 o13 o14 rfl ?_
      refine z_icmp_lt 31 dX12_word_22 (by decide) (fun g15 => ?_) (fun g15 => ?_)
      · rw [if_pos g15] at h
        refine z_iload_n 3 dX12_word_31 rfl ?_
        refine z_if_lt 40 dX12_word_32 (by decide) (fun g16 => ?_) (fun g16 => ?_)
        · rw [if_pos g16] at h
          refine z_aload_n 0 dX12_word_40 rfl ?_
          refine z_bipush (-2) dX12_word_41 (by decide) ?_
          refine z_callV0 (As := [.int (-2)]) (st := []) dX12_word_43 hy_X12_refuse (co_0 hL).1 (co_0 hL).2 (by decide) wg_462 wg_464 wg_0 (Nat.le_refl _) (Nat.le_of_ble_eq_true rfl) (RM0.mono h ?_)
          clear h
          intro vv I17 L18 h
          obtain ⟨r19, rfl, h⟩ := h
          change Z n0 xX12_word (d + 1) 0 0 46 [(0, .ref (n0 + 0)), (1, .int p0), (2, .int p1), (3, .int p2), (4, .int p3), (5, .ref (n0 + q5))] [.int r19] K I17 L18 (z_q0 K Q)
          exact z_iret dX12_word_46 rfl ⟨rfl, h⟩
        · rw [if_neg g16] at h
          refine z_iload_n 3 dX12_word_35 rfl ?_
          refine z_iconst 2 dX12_word_36 (by decide) ?_
          refine z_icmp_le 47 dX12_word_37 (by decide) (fun g20 => ?_) (fun g20 => ?_)
          · rw [if_neg g20] at h
            refine z_iload 4 dX12_word_47 rfl ?_
            refine z_iconst 0 dX12_word_49 (by decide) ?_
            refine z_ldc_w 1000000000 dX12_word_50 wg_559 ?_
            refine z_callS0 (As := [.int p3, .int 0, .int 1000000000]) (st := []) dX12_word_53 hy_X12_outside wg_476 wg_477 (Nat.le_refl _) (Nat.le_of_ble_eq_true rfl) (RM0.mono h ?_)
            clear h
            intro vv I21 L22 h
            obtain ⟨r23, rfl, h⟩ := h
            change Z n0 xX12_word (d + 1) 0 0 56 [(0, .ref (n0 + 0)), (1, .int p0), (2, .int p1), (3, .int p2), (4, .int p3), (5, .ref (n0 + q5))] [.int r23] K I21 L22 (z_q0 K Q)
            refine z_istore [1, 2, 3, 4, 5, 6, 0] [(0, .ref (n0 + 0)), (1, .int p0), (2, .int p1), (3, .int p2), (4, .int p3), (5, .ref (n0 + q5)), (6, .int r23)] dX12_word_56 (by decide) rfl ?_
            refine z_iload 6 dX12_word_58 rfl ?_
            refine z_if_eq 70 dX12_word_60 (by decide) (fun g24 => ?_) (fun g24 => ?_)
            · rw [if_pos g24] at h
              refine z_aload 5 dX12_word_70 rfl ?_
              refine fg_12_401 (I21 q5 7) rfl dX12_word_72 o13 o14 rfl ?_
              refine z_bipush 12 dX12_word_75 (by decide) ?_
              refine z_icmp_lt 87 dX12_word_77 (by decide) (fun g25 => ?_) (fun g25 => ?_)
              · rw [if_pos g25] at h
                refine z_aload 5 dX12_word_87 rfl ?_
                refine z_iload_n 2 dX12_word_89 rfl ?_
                refine z_iload_n 3 dX12_word_90 rfl ?_
                refine z_iload 4 dX12_word_91 rfl ?_
                refine z_callV0 (As := [.int p1, .int p2, .int p3]) (st := []) dX12_word_93 hy_X3_addWord o13 o14 (by decide) wg_1308 wg_1309 wg_1310 (Nat.le_refl _) (Nat.le_of_ble_eq_true rfl) (RM0.mono h ?_)
                clear h
                intro vv I26 L27 h
                obtain ⟨r28, rfl, h⟩ := h
                change Z n0 xX12_word (d + 1) 0 0 96 [(0, .ref (n0 + 0)), (1, .int p0), (2, .int p1), (3, .int p2), (4, .int p3), (5, .ref (n0 + q5)), (6, .int r23)] [.int r28] K I26 L27 (z_q0 K Q)
                exact z_iret dX12_word_96 rfl ⟨rfl, h⟩
              · rw [if_neg g25] at h
                refine z_aload_n 0 dX12_word_80 rfl ?_
                refine z_bipush (-6) dX12_word_81 (by decide) ?_
                refine z_callV0 (As := [.int (-6)]) (st := []) dX12_word_83 hy_X12_refuse (co_0 hL).1 (co_0 hL).2 (by decide) wg_462 wg_464 wg_0 (Nat.le_refl _) (Nat.le_of_ble_eq_true rfl) (RM0.mono h ?_)
                clear h
                intro vv I29 L30 h
                obtain ⟨r31, rfl, h⟩ := h
                change Z n0 xX12_word (d + 1) 0 0 86 [(0, .ref (n0 + 0)), (1, .int p0), (2, .int p1), (3, .int p2), (4, .int p3), (5, .ref (n0 + q5)), (6, .int r23)] [.int r31] K I29 L30 (z_q0 K Q)
                exact z_iret dX12_word_86 rfl ⟨rfl, h⟩
            · rw [if_neg g24] at h
              refine z_aload_n 0 dX12_word_63 rfl ?_
              refine z_iload 6 dX12_word_64 rfl ?_
              refine z_callV0 (As := [.int r23]) (st := []) dX12_word_66 hy_X12_refuse (co_0 hL).1 (co_0 hL).2 (by decide) wg_462 wg_464 wg_0 (Nat.le_refl _) (Nat.le_of_ble_eq_true rfl) (RM0.mono h ?_)
              clear h
              intro vv I32 L33 h
              obtain ⟨r34, rfl, h⟩ := h
              change Z n0 xX12_word (d + 1) 0 0 69 [(0, .ref (n0 + 0)), (1, .int p0), (2, .int p1), (3, .int p2), (4, .int p3), (5, .ref (n0 + q5)), (6, .int r23)] [.int r34] K I32 L33 (z_q0 K Q)
              exact z_iret dX12_word_69 rfl ⟨rfl, h⟩
          · rw [if_pos g20] at h
            refine z_aload_n 0 dX12_word_40 rfl ?_
            refine z_bipush (-2) dX12_word_41 (by decide) ?_
            refine z_callV0 (As := [.int (-2)]) (st := []) dX12_word_43 hy_X12_refuse (co_0 hL).1 (co_0 hL).2 (by decide) wg_462 wg_464 wg_0 (Nat.le_refl _) (Nat.le_of_ble_eq_true rfl) (RM0.mono h ?_)
            clear h
            intro vv I35 L36 h
            obtain ⟨r37, rfl, h⟩ := h
            change Z n0 xX12_word (d + 1) 0 0 46 [(0, .ref (n0 + 0)), (1, .int p0), (2, .int p1), (3, .int p2), (4, .int p3), (5, .ref (n0 + q5))] [.int r37] K I35 L36 (z_q0 K Q)
            exact z_iret dX12_word_46 rfl ⟨rfl, h⟩
      · rw [if_neg g15] at h
        refine z_aload_n 0 dX12_word_25 rfl ?_
        refine z_iconst (-1) dX12_word_26 (by decide) ?_
        refine z_callV0 (As := [.int (-1)]) (st := []) dX12_word_27 hy_X12_refuse (co_0 hL).1 (co_0 hL).2 (by decide) wg_462 wg_464 wg_0 (Nat.le_refl _) (Nat.le_of_ble_eq_true rfl) (RM0.mono h ?_)
        clear h
        intro vv I38 L39 h
        obtain ⟨r40, rfl, h⟩ := h
        change Z n0 xX12_word (d + 1) 0 0 30 [(0, .ref (n0 + 0)), (1, .int p0), (2, .int p1), (3, .int p2), (4, .int p3), (5, .ref (n0 + q5))] [.int r40] K I38 L39 (z_q0 K Q)
        exact z_iret dX12_word_30 rfl ⟨rfl, h⟩
theorem dX12_firstWrong_0 : decode cX12_firstWrong 0 = .ok (.aload_n 0, 1) := by decide +kernel
theorem dX12_firstWrong_1 : decode cX12_firstWrong 1 = .ok (.iload_n 1, 1) := by decide +kernel
theorem dX12_firstWrong_2 : decode cX12_firstWrong 2 = .ok (.invokevirtual 389, 3) := by decide +kernel
theorem dX12_firstWrong_5 : decode cX12_firstWrong 5 = .ok (.astore_n 2, 1) := by decide +kernel
theorem dX12_firstWrong_6 : decode cX12_firstWrong 6 = .ok (.aload_n 2, 1) := by decide +kernel
theorem dX12_firstWrong_7 : decode cX12_firstWrong 7 = .ok (.ifnonnull 9, 3) := by decide +kernel
theorem dX12_firstWrong_10 : decode cX12_firstWrong 10 = .ok (.aload_n 0, 1) := by decide +kernel
theorem dX12_firstWrong_11 : decode cX12_firstWrong 11 = .ok (.iconst (-1), 1) := by decide +kernel
theorem dX12_firstWrong_12 : decode cX12_firstWrong 12 = .ok (.invokevirtual 85, 3) := by decide +kernel
theorem dX12_firstWrong_15 : decode cX12_firstWrong 15 = .ok (.ireturn, 1) := by decide +kernel
theorem dX12_firstWrong_16 : decode cX12_firstWrong 16 = .ok (.iconst 0, 1) := by decide +kernel
theorem dX12_firstWrong_17 : decode cX12_firstWrong 17 = .ok (.istore_n 3, 1) := by decide +kernel
theorem dX12_firstWrong_18 : decode cX12_firstWrong 18 = .ok (.iload_n 3, 1) := by decide +kernel
theorem dX12_firstWrong_19 : decode cX12_firstWrong 19 = .ok (.aload_n 2, 1) := by decide +kernel
theorem dX12_firstWrong_20 : decode cX12_firstWrong 20 = .ok (.getfield 401, 3) := by decide +kernel
theorem dX12_firstWrong_23 : decode cX12_firstWrong 23 = .ok (.if_icmp .ge 20, 3) := by decide +kernel
theorem dX12_firstWrong_26 : decode cX12_firstWrong 26 = .ok (.aload_n 0, 1) := by decide +kernel
theorem dX12_firstWrong_27 : decode cX12_firstWrong 27 = .ok (.aload_n 2, 1) := by decide +kernel
theorem dX12_firstWrong_28 : decode cX12_firstWrong 28 = .ok (.iload_n 3, 1) := by decide +kernel
theorem dX12_firstWrong_29 : decode cX12_firstWrong 29 = .ok (.invokevirtual 407, 3) := by decide +kernel
theorem dX12_firstWrong_32 : decode cX12_firstWrong 32 = .ok (.ifCond .ne 5, 3) := by decide +kernel
theorem dX12_firstWrong_35 : decode cX12_firstWrong 35 = .ok (.iload_n 3, 1) := by decide +kernel
theorem dX12_firstWrong_36 : decode cX12_firstWrong 36 = .ok (.ireturn, 1) := by decide +kernel
theorem dX12_firstWrong_37 : decode cX12_firstWrong 37 = .ok (.iinc 3 1, 3) := by decide +kernel
theorem dX12_firstWrong_40 : decode cX12_firstWrong 40 = .ok (.goto (-22), 3) := by decide +kernel
theorem dX12_firstWrong_43 : decode cX12_firstWrong 43 = .ok (.bipush (-9), 2) := by decide +kernel
theorem dX12_firstWrong_45 : decode cX12_firstWrong 45 = .ok (.ireturn, 1) := by decide +kernel
set_option maxRecDepth 100000 in
set_option maxHeartbeats 4000000 in
theorem wp_X12_firstWrong {n0 d : Nat} {K : z_K} {I : z_I} {L : z_L} {Q : z_R} {p0 : Int32} (hL : CLay K) (h : RM0 n0 xX12_editionOf d [.ref (n0 + 0), .int p0] K I L (fun vv I1 L2 => ∃ r3 : Option Nat, vv = some (zr n0 r3) ∧ ((r3 = none → RM0 n0 xX12_refuse d [.ref (n0 + 0), .int (-1)] K I1 L2 (fun vv I6 L7 => ∃ r8 : Int32, vv = some (.int r8) ∧ Q (some (.int r8)) K I6 L7)) ∧ (∀ q5, r3 = some q5 → Z n0 xX12_firstWrong (d + 1) 0 0 18 [(0, .ref (n0 + 0)), (2, .ref (n0 + q5)), (3, .int 0)] [] K I1 L2 Q)))) : RM n0 xX12_firstWrong (d + 1) 0 0 [.ref (n0 + 0), .int p0] K I L Q := by
  refine z_entry (by decide) (Nat.le_of_ble_eq_true rfl) ?_
  change Z n0 xX12_firstWrong (d + 1) 0 0 0 [(0, .ref (n0 + 0)), (1, .int p0)] [] K I L Q
  refine z_aload_n 0 dX12_firstWrong_0 rfl ?_
  refine z_iload_n 1 dX12_firstWrong_1 rfl ?_
  refine z_callV0 (As := [.int p0]) (st := []) dX12_firstWrong_2 hy_X12_editionOf (co_0 hL).1 (co_0 hL).2 (by decide) wg_1296 wg_1298 wg_48 (Nat.le_refl _) (Nat.le_of_ble_eq_true rfl) (RM0.mono h ?_)
  clear h
  intro vv I1 L2 h
  obtain ⟨r3, rfl, h⟩ := h
  change Z n0 xX12_firstWrong (d + 1) 0 0 5 [(0, .ref (n0 + 0)), (1, .int p0)] [zr n0 r3] K I1 L2 Q
  refine z_astore_nO [1, 2, 0] [(0, .ref (n0 + 0)), (1, .int p0), (2, zr n0 r3)] dX12_firstWrong_5 (by decide) (fun v hv => by subst hv; rfl) ?_
  refine z_aload_nO 2 dX12_firstWrong_6 rfl ?_
  refine z_ifnonnull 16 dX12_firstWrong_7 (by decide) (fun q5 g4 => ?_) (fun g4 => ?_)
  · replace h := h.2 q5 g4
    subst g4
    change Z n0 xX12_firstWrong (d + 1) 0 0 16 [(0, .ref (n0 + 0)), (1, .int p0), (2, .ref (n0 + q5))] [] K I1 L2 Q
    refine z_iconst 0 dX12_firstWrong_16 (by decide) ?_
    refine z_istore_n [1, 2, 3, 0] [(0, .ref (n0 + 0)), (1, .int p0), (2, .ref (n0 + q5)), (3, .int 0)] dX12_firstWrong_17 (by decide) rfl ?_
    refine z_sub [0, 2, 3] rfl ?_
    exact h
  · replace h := h.1 g4
    subst g4
    change Z n0 xX12_firstWrong (d + 1) 0 0 10 [(0, .ref (n0 + 0)), (1, .int p0), (2, .null)] [] K I1 L2 Q
    refine z_aload_n 0 dX12_firstWrong_10 rfl ?_
    refine z_iconst (-1) dX12_firstWrong_11 (by decide) ?_
    refine z_callV0 (As := [.int (-1)]) (st := []) dX12_firstWrong_12 hy_X12_refuse (co_0 hL).1 (co_0 hL).2 (by decide) wg_462 wg_464 wg_0 (Nat.le_refl _) (Nat.le_of_ble_eq_true rfl) (RM0.mono h ?_)
    clear h
    intro vv I6 L7 h
    obtain ⟨r8, rfl, h⟩ := h
    change Z n0 xX12_firstWrong (d + 1) 0 0 15 [(0, .ref (n0 + 0)), (1, .int p0), (2, .null)] [.int r8] K I6 L7 Q
    exact z_iret dX12_firstWrong_15 rfl h
set_option maxRecDepth 100000 in
set_option maxHeartbeats 4000000 in
theorem wp_X12_firstWrong_18 {n0 d : Nat} {rc rs : Nat} {K : z_K} {I : z_I} {L : z_L} {Q : z_R} {a2 : Option Nat} {a3 : Int32} (hL : CLay K) (h : (∃ q1, a2 = some q1 ∧ q1 < K.1 ∧ (K.2.1 q1).1 = 3 ∧ (if a3 < (I q1 7) then RM n0 xX12_agrees d 0 0 [.ref (n0 + 0), .ref (n0 + q1), .int a3] K I L (fun vv K7 I5 L6 => ∃ r8 : Int32, vv = some (.int r8) ∧ CLay K7 ∧ (if r8 = 0 then Q (some (.int a3)) K7 I5 L6 else Z n0 xX12_firstWrong (d + 1) rc rs 18 [(0, .ref (n0 + 0)), (2, .ref (n0 + q1)), (3, .int (a3 + 1))] [] K7 I5 L6 Q)) else Q (some (.int (-9))) K I L))) : Z n0 xX12_firstWrong (d + 1) rc rs 18 [(0, .ref (n0 + 0)), (2, zr n0 a2), (3, .int a3)] [] K I L Q := by
  refine z_iload_n 2 dX12_firstWrong_18 rfl ?_
  refine z_aload_nO 1 dX12_firstWrong_19 rfl ?_
  obtain ⟨q1, q1e, h⟩ := h
  subst q1e
  change Z n0 xX12_firstWrong (d + 1) rc rs 20 [(0, .ref (n0 + 0)), (2, .ref (n0 + q1)), (3, .int a3)] [.ref (n0 + q1), .int a3] K I L Q
  obtain ⟨o2, o3, h⟩ := h
  refine fg_12_401 (I q1 7) rfl dX12_firstWrong_20 o2 o3 rfl ?_
  refine z_icmp_ge 43 dX12_firstWrong_23 (by decide) (fun g4 => ?_) (fun g4 => ?_)
  · rw [if_neg g4] at h
    refine z_bipush (-9) dX12_firstWrong_43 (by decide) ?_
    exact z_iret dX12_firstWrong_45 rfl h
  · rw [if_pos g4] at h
    refine z_aload_n 0 dX12_firstWrong_26 rfl ?_
    refine z_aload_n 1 dX12_firstWrong_27 rfl ?_
    refine z_iload_n 2 dX12_firstWrong_28 rfl ?_
    refine z_callV (rc := rc) (rs := rs) (mc1 := 0) (ms1 := 0) (As := [.ref (n0 + q1), .int a3]) (st := []) dX12_firstWrong_29 hy_X12_agrees (co_0 hL).1 (co_0 hL).2 (by decide) wg_1316 wg_1318 wg_49 (Nat.le_refl _) (Nat.le_of_ble_eq_true rfl) (RM.mono h ?_)
    clear h
    intro vv K7 I5 L6 h
    obtain ⟨r8, rfl, h⟩ := h
    obtain ⟨hL9, h⟩ := h
    change Z n0 xX12_firstWrong (d + 1) rc rs 32 [(0, .ref (n0 + 0)), (2, .ref (n0 + q1)), (3, .int a3)] [.int r8] K7 I5 L6 Q
    refine z_if_ne 37 dX12_firstWrong_32 (by decide) (fun g10 => ?_) (fun g10 => ?_)
    · rw [if_neg g10] at h
      refine z_iinc (j := 2) (a3 + 1) [1, 2, 0] [(0, .ref (n0 + 0)), (2, .ref (n0 + q1)), (3, .int (a3 + 1))] dX12_firstWrong_37 rfl rfl (by decide) rfl ?_
      refine z_goto 18 dX12_firstWrong_40 (by decide) ?_
      exact h
    · rw [if_pos g10] at h
      refine z_iload_n 2 dX12_firstWrong_35 rfl ?_
      exact z_iret dX12_firstWrong_36 rfl h
theorem dX12_fault_0 : decode cX12_fault 0 = .ok (.aload_n 0, 1) := by decide +kernel
theorem dX12_fault_1 : decode cX12_fault 1 = .ok (.iload_n 1, 1) := by decide +kernel
theorem dX12_fault_2 : decode cX12_fault 2 = .ok (.invokevirtual 136, 3) := by decide +kernel
theorem dX12_fault_5 : decode cX12_fault 5 = .ok (.astore_n 2, 1) := by decide +kernel
theorem dX12_fault_6 : decode cX12_fault 6 = .ok (.aload_n 2, 1) := by decide +kernel
theorem dX12_fault_7 : decode cX12_fault 7 = .ok (.ifnonnull 9, 3) := by decide +kernel
theorem dX12_fault_10 : decode cX12_fault 10 = .ok (.aload_n 0, 1) := by decide +kernel
theorem dX12_fault_11 : decode cX12_fault 11 = .ok (.iconst (-1), 1) := by decide +kernel
theorem dX12_fault_12 : decode cX12_fault 12 = .ok (.invokevirtual 85, 3) := by decide +kernel
theorem dX12_fault_15 : decode cX12_fault 15 = .ok (.ireturn, 1) := by decide +kernel
theorem dX12_fault_16 : decode cX12_fault 16 = .ok (.iconst 0, 1) := by decide +kernel
theorem dX12_fault_17 : decode cX12_fault 17 = .ok (.istore_n 3, 1) := by decide +kernel
theorem dX12_fault_18 : decode cX12_fault 18 = .ok (.iconst 0, 1) := by decide +kernel
theorem dX12_fault_19 : decode cX12_fault 19 = .ok (.istore 4, 2) := by decide +kernel
theorem dX12_fault_21 : decode cX12_fault 21 = .ok (.iload 4, 2) := by decide +kernel
theorem dX12_fault_23 : decode cX12_fault 23 = .ok (.aload_n 0, 1) := by decide +kernel
theorem dX12_fault_24 : decode cX12_fault 24 = .ok (.getfield 385, 3) := by decide +kernel
theorem dX12_fault_27 : decode cX12_fault 27 = .ok (.if_icmp .ge 30, 3) := by decide +kernel
theorem dX12_fault_30 : decode cX12_fault 30 = .ok (.aload_n 0, 1) := by decide +kernel
theorem dX12_fault_31 : decode cX12_fault 31 = .ok (.getfield 74, 3) := by decide +kernel
theorem dX12_fault_34 : decode cX12_fault 34 = .ok (.iload 4, 2) := by decide +kernel
theorem dX12_fault_36 : decode cX12_fault 36 = .ok (.aaload, 1) := by decide +kernel
theorem dX12_fault_37 : decode cX12_fault 37 = .ok (.aload_n 2, 1) := by decide +kernel
theorem dX12_fault_38 : decode cX12_fault 38 = .ok (.invokevirtual 411, 3) := by decide +kernel
theorem dX12_fault_41 : decode cX12_fault 41 = .ok (.ifCond .eq 10, 3) := by decide +kernel
theorem dX12_fault_44 : decode cX12_fault 44 = .ok (.iload_n 3, 1) := by decide +kernel
theorem dX12_fault_45 : decode cX12_fault 45 = .ok (.iconst 1, 1) := by decide +kernel
theorem dX12_fault_46 : decode cX12_fault 46 = .ok (.iload 4, 2) := by decide +kernel
theorem dX12_fault_48 : decode cX12_fault 48 = .ok (.ishl, 1) := by decide +kernel
theorem dX12_fault_49 : decode cX12_fault 49 = .ok (.ior, 1) := by decide +kernel
theorem dX12_fault_50 : decode cX12_fault 50 = .ok (.istore_n 3, 1) := by decide +kernel
theorem dX12_fault_51 : decode cX12_fault 51 = .ok (.iinc 4 1, 3) := by decide +kernel
theorem dX12_fault_54 : decode cX12_fault 54 = .ok (.goto (-33), 3) := by decide +kernel
theorem dX12_fault_57 : decode cX12_fault 57 = .ok (.iload_n 3, 1) := by decide +kernel
theorem dX12_fault_58 : decode cX12_fault 58 = .ok (.ireturn, 1) := by decide +kernel
set_option maxRecDepth 100000 in
set_option maxHeartbeats 4000000 in
theorem wp_X12_fault {n0 d : Nat} {K : z_K} {I : z_I} {L : z_L} {Q : z_q} {p0 : Int32} (hL : CLay K) (h : RM0 n0 xX12_pieceOf d [.ref (n0 + 0), .int p0] K I L (fun vv I1 L2 => ∃ r3 : Option Nat, vv = some (zr n0 r3) ∧ ((r3 = none → RM0 n0 xX12_refuse d [.ref (n0 + 0), .int (-1)] K I1 L2 (fun vv I6 L7 => ∃ r8 : Int32, vv = some (.int r8) ∧ Q (some (.int r8)) I6 L7)) ∧ (∀ q5, r3 = some q5 → Z n0 xX12_fault (d + 1) 0 0 21 [(0, .ref (n0 + 0)), (2, .ref (n0 + q5)), (3, .int 0), (4, .int 0)] [] K I1 L2 (z_q0 K Q))))) : RM0 n0 xX12_fault (d + 1) [.ref (n0 + 0), .int p0] K I L Q := by
  refine z_entry0 (by decide) (Nat.le_of_ble_eq_true rfl) ?_
  change Z n0 xX12_fault (d + 1) 0 0 0 [(0, .ref (n0 + 0)), (1, .int p0)] [] K I L (z_q0 K Q)
  refine z_aload_n 0 dX12_fault_0 rfl ?_
  refine z_iload_n 1 dX12_fault_1 rfl ?_
  refine z_callV0 (As := [.int p0]) (st := []) dX12_fault_2 hy_X12_pieceOf (co_0 hL).1 (co_0 hL).2 (by decide) wg_572 wg_574 wg_5 (Nat.le_refl _) (Nat.le_of_ble_eq_true rfl) (RM0.mono h ?_)
  clear h
  intro vv I1 L2 h
  obtain ⟨r3, rfl, h⟩ := h
  change Z n0 xX12_fault (d + 1) 0 0 5 [(0, .ref (n0 + 0)), (1, .int p0)] [zr n0 r3] K I1 L2 (z_q0 K Q)
  refine z_astore_nO [1, 2, 0] [(0, .ref (n0 + 0)), (1, .int p0), (2, zr n0 r3)] dX12_fault_5 (by decide) (fun v hv => by subst hv; rfl) ?_
  refine z_aload_nO 2 dX12_fault_6 rfl ?_
  refine z_ifnonnull 16 dX12_fault_7 (by decide) (fun q5 g4 => ?_) (fun g4 => ?_)
  · replace h := h.2 q5 g4
    subst g4
    change Z n0 xX12_fault (d + 1) 0 0 16 [(0, .ref (n0 + 0)), (1, .int p0), (2, .ref (n0 + q5))] [] K I1 L2 (z_q0 K Q)
    refine z_iconst 0 dX12_fault_16 (by decide) ?_
    refine z_istore_n [1, 2, 3, 0] [(0, .ref (n0 + 0)), (1, .int p0), (2, .ref (n0 + q5)), (3, .int 0)] dX12_fault_17 (by decide) rfl ?_
    refine z_iconst 0 dX12_fault_18 (by decide) ?_
    refine z_istore [1, 2, 3, 4, 0] [(0, .ref (n0 + 0)), (1, .int p0), (2, .ref (n0 + q5)), (3, .int 0), (4, .int 0)] dX12_fault_19 (by decide) rfl ?_
    refine z_sub [0, 2, 3, 4] rfl ?_
    exact h
  · replace h := h.1 g4
    subst g4
    change Z n0 xX12_fault (d + 1) 0 0 10 [(0, .ref (n0 + 0)), (1, .int p0), (2, .null)] [] K I1 L2 (z_q0 K Q)
    refine z_aload_n 0 dX12_fault_10 rfl ?_
    refine z_iconst (-1) dX12_fault_11 (by decide) ?_
    refine z_callV0 (As := [.int (-1)]) (st := []) dX12_fault_12 hy_X12_refuse (co_0 hL).1 (co_0 hL).2 (by decide) wg_462 wg_464 wg_0 (Nat.le_refl _) (Nat.le_of_ble_eq_true rfl) (RM0.mono h ?_)
    clear h
    intro vv I6 L7 h
    obtain ⟨r8, rfl, h⟩ := h
    change Z n0 xX12_fault (d + 1) 0 0 15 [(0, .ref (n0 + 0)), (1, .int p0), (2, .null)] [.int r8] K I6 L7 (z_q0 K Q)
    exact z_iret dX12_fault_15 rfl ⟨rfl, h⟩
set_option maxRecDepth 100000 in
set_option maxHeartbeats 4000000 in
theorem wp_X12_fault_21 {n0 d : Nat} {rc rs : Nat} {K : z_K} {I : z_I} {L : z_L} {Q : z_q} {a2 : Option Nat} {a3 : Int32} {a4 : Int32} (hL : CLay K) (h : (if a4 < (I 0 18) then vp_in a4 12 ∧ (∃ q3, K.2.2 51 a4.toNatClampNeg = some q3 ∧ q3 < K.1 ∧ (K.2.1 q3).1 = 3 ∧ RM0 n0 xX3_holdsFrom d [.ref (n0 + q3), zr n0 a2] K I L (fun vv I6 L7 => ∃ r8 : Int32, vv = some (.int r8) ∧ Z n0 xX12_fault (d + 1) rc rs 21 [(0, .ref (n0 + 0)), (2, zr n0 a2), (3, .int (if r8 = 0 then a3 else (a3 ||| ((1 : Int32) <<< (a4 &&& 31 : Int32))))), (4, .int (a4 + 1))] [] K I6 L7 (z_q0 K Q))) else Q (some (.int a3)) I L)) : Z n0 xX12_fault (d + 1) rc rs 21 [(0, .ref (n0 + 0)), (2, zr n0 a2), (3, .int a3), (4, .int a4)] [] K I L (z_q0 K Q) := by
  refine z_iload 3 dX12_fault_21 rfl ?_
  refine z_aload_n 0 dX12_fault_23 rfl ?_
  refine fg_12_385 (I 0 18) rfl dX12_fault_24 (co_0 hL).1 (co_0 hL).2 rfl ?_
  refine z_icmp_ge 57 dX12_fault_27 (by decide) (fun g1 => ?_) (fun g1 => ?_)
  · rw [if_neg g1] at h
    refine z_iload_n 2 dX12_fault_57 rfl ?_
    exact z_iret dX12_fault_58 rfl ⟨rfl, h⟩
  · rw [if_pos g1] at h
    refine z_aload_n 0 dX12_fault_30 rfl ?_
    refine fg_12_74 (some 51) rfl dX12_fault_31 (co_0 hL).1 (co_0 hL).2 (ca_51 hL).1 ?_
    refine z_iload 3 dX12_fault_34 rfl ?_
    obtain ⟨o2, h⟩ := h
    obtain ⟨q3, q3e, h⟩ := h
    refine z_aald (some q3) dX12_fault_36 (ca_51 hL).2.1 (ca_51 hL).2.2 (by unfold z_rt; decide) o2 q3e ?_
    refine z_aload_nO 1 dX12_fault_37 rfl ?_
    obtain ⟨o4, o5, h⟩ := h
    refine z_callV0 (As := [zr n0 a2]) (st := []) dX12_fault_38 hy_X3_holdsFrom o4 o5 (by decide) wg_1324 wg_1325 wg_1326 (Nat.le_refl _) (Nat.le_of_ble_eq_true rfl) (RM0.mono h ?_)
    clear h
    intro vv I6 L7 h
    obtain ⟨r8, rfl, h⟩ := h
    change Z n0 xX12_fault (d + 1) rc rs 41 [(0, .ref (n0 + 0)), (2, zr n0 a2), (3, .int a3), (4, .int a4)] [.int r8] K I6 L7 (z_q0 K Q)
    have key10 : Z n0 xX12_fault (d + 1) rc rs 51 [(0, .ref (n0 + 0)), (2, zr n0 a2), (3, .int (if r8 = 0 then a3 else (a3 ||| ((1 : Int32) <<< (a4 &&& 31 : Int32))))), (4, .int a4)] [] K I6 L7 (z_q0 K Q) := by
      refine z_iinc (j := 3) (a4 + 1) [1, 2, 3, 0] [(0, .ref (n0 + 0)), (2, zr n0 a2), (3, .int (if r8 = 0 then a3 else (a3 ||| ((1 : Int32) <<< (a4 &&& 31 : Int32))))), (4, .int (a4 + 1))] dX12_fault_51 rfl rfl (by decide) rfl ?_
      refine z_goto 21 dX12_fault_54 (by decide) ?_
      exact h
    refine z_if_eq 51 dX12_fault_41 (by decide) (fun g9 => ?_) (fun g9 => ?_)
    · have ee : ((if r8 = 0 then a3 else (a3 ||| ((1 : Int32) <<< (a4 &&& 31 : Int32)))) : Int32) = a3 := by rw [if_pos g9]
      rw [ee] at key10
      clear ee
      exact key10
    · refine z_iload_n 2 dX12_fault_44 rfl ?_
      refine z_iconst 1 dX12_fault_45 (by decide) ?_
      refine z_iload 3 dX12_fault_46 rfl ?_
      refine z_ishl dX12_fault_48 ?_
      refine z_ior dX12_fault_49 ?_
      refine z_istore_n [1, 2, 0, 3] [(0, .ref (n0 + 0)), (2, zr n0 a2), (3, .int (a3 ||| ((1 : Int32) <<< (a4 &&& 31 : Int32)))), (4, .int a4)] dX12_fault_50 (by decide) (by cases a2 <;> rfl) ?_
      have ee : ((if r8 = 0 then a3 else (a3 ||| ((1 : Int32) <<< (a4 &&& 31 : Int32)))) : Int32) = (a3 ||| ((1 : Int32) <<< (a4 &&& 31 : Int32))) := by rw [if_neg g9]
      rw [ee] at key10
      clear ee
      exact key10
theorem dX12_order_0 : decode cX12_order 0 = .ok (.iload_n 1, 1) := by decide +kernel
theorem dX12_order_1 : decode cX12_order 1 = .ok (.ifCond .lt 8, 3) := by decide +kernel
theorem dX12_order_4 : decode cX12_order 4 = .ok (.iload_n 1, 1) := by decide +kernel
theorem dX12_order_5 : decode cX12_order 5 = .ok (.iconst 5, 1) := by decide +kernel
theorem dX12_order_6 : decode cX12_order 6 = .ok (.if_icmp .lt 9, 3) := by decide +kernel
theorem dX12_order_9 : decode cX12_order 9 = .ok (.aload_n 0, 1) := by decide +kernel
theorem dX12_order_10 : decode cX12_order 10 = .ok (.iconst (-1), 1) := by decide +kernel
theorem dX12_order_11 : decode cX12_order 11 = .ok (.invokevirtual 85, 3) := by decide +kernel
theorem dX12_order_14 : decode cX12_order 14 = .ok (.ireturn, 1) := by decide +kernel
theorem dX12_order_15 : decode cX12_order 15 = .ok (.iload_n 2, 1) := by decide +kernel
theorem dX12_order_16 : decode cX12_order 16 = .ok (.iconst 0, 1) := by decide +kernel
theorem dX12_order_17 : decode cX12_order 17 = .ok (.bipush 99, 2) := by decide +kernel
theorem dX12_order_19 : decode cX12_order 19 = .ok (.invokestatic 100, 3) := by decide +kernel
theorem dX12_order_22 : decode cX12_order 22 = .ok (.istore_n 3, 1) := by decide +kernel
theorem dX12_order_23 : decode cX12_order 23 = .ok (.iload_n 3, 1) := by decide +kernel
theorem dX12_order_24 : decode cX12_order 24 = .ok (.ifCond .eq 9, 3) := by decide +kernel
theorem dX12_order_27 : decode cX12_order 27 = .ok (.aload_n 0, 1) := by decide +kernel
theorem dX12_order_28 : decode cX12_order 28 = .ok (.iload_n 3, 1) := by decide +kernel
theorem dX12_order_29 : decode cX12_order 29 = .ok (.invokevirtual 85, 3) := by decide +kernel
theorem dX12_order_32 : decode cX12_order 32 = .ok (.ireturn, 1) := by decide +kernel
theorem dX12_order_33 : decode cX12_order 33 = .ok (.aload_n 0, 1) := by decide +kernel
theorem dX12_order_34 : decode cX12_order 34 = .ok (.getfield 81, 3) := by decide +kernel
theorem dX12_order_37 : decode cX12_order 37 = .ok (.getfield 414, 3) := by decide +kernel
theorem dX12_order_40 : decode cX12_order 40 = .ok (.iload_n 1, 1) := by decide +kernel
theorem dX12_order_41 : decode cX12_order 41 = .ok (.iaload, 1) := by decide +kernel
theorem dX12_order_42 : decode cX12_order 42 = .ok (.istore 4, 2) := by decide +kernel
theorem dX12_order_44 : decode cX12_order 44 = .ok (.aload_n 0, 1) := by decide +kernel
theorem dX12_order_45 : decode cX12_order 45 = .ok (.getfield 81, 3) := by decide +kernel
theorem dX12_order_48 : decode cX12_order 48 = .ok (.getfield 414, 3) := by decide +kernel
theorem dX12_order_51 : decode cX12_order 51 = .ok (.iload_n 1, 1) := by decide +kernel
theorem dX12_order_52 : decode cX12_order 52 = .ok (.iload_n 2, 1) := by decide +kernel
theorem dX12_order_53 : decode cX12_order 53 = .ok (.iastore, 1) := by decide +kernel
theorem dX12_order_54 : decode cX12_order 54 = .ok (.iload 4, 2) := by decide +kernel
theorem dX12_order_56 : decode cX12_order 56 = .ok (.ireturn, 1) := by decide +kernel
set_option maxRecDepth 100000 in
set_option maxHeartbeats 4000000 in
theorem wp_X12_order {n0 d : Nat} {K : z_K} {I : z_I} {L : z_L} {Q : z_q} {p0 : Int32} {p1 : Int32} (hL : CLay K) (h : (if p0 < 0 then RM0 n0 xX12_refuse d [.ref (n0 + 0), .int (-1)] K I L (fun vv I2 L3 => ∃ r4 : Int32, vv = some (.int r4) ∧ Q (some (.int r4)) I2 L3) else (if p0 < 5 then RM0 n0 xX12_outside d [.int p1, .int 0, .int 99] K I L (fun vv I6 L7 => ∃ r8 : Int32, vv = some (.int r8) ∧ (if r8 = 0 then vp_in p0 5 ∧ Q (some (.int (I6 53 p0.toNatClampNeg))) (zI I6 53 p0.toNatClampNeg p1) L7 else RM0 n0 xX12_refuse d [.ref (n0 + 0), .int r8] K I6 L7 (fun vv I11 L12 => ∃ r13 : Int32, vv = some (.int r13) ∧ Q (some (.int r13)) I11 L12))) else RM0 n0 xX12_refuse d [.ref (n0 + 0), .int (-1)] K I L (fun vv I14 L15 => ∃ r16 : Int32, vv = some (.int r16) ∧ Q (some (.int r16)) I14 L15)))) : RM0 n0 xX12_order (d + 1) [.ref (n0 + 0), .int p0, .int p1] K I L Q := by
  refine z_entry0 (by decide) (Nat.le_of_ble_eq_true rfl) ?_
  change Z n0 xX12_order (d + 1) 0 0 0 [(0, .ref (n0 + 0)), (1, .int p0), (2, .int p1)] [] K I L (z_q0 K Q)
  refine z_iload_n 1 dX12_order_0 rfl ?_
  refine z_if_lt 9 dX12_order_1 (by decide) (fun g1 => ?_) (fun g1 => ?_)
  · rw [if_pos g1] at h
    refine z_aload_n 0 dX12_order_9 rfl ?_
    refine z_iconst (-1) dX12_order_10 (by decide) ?_
    refine z_callV0 (As := [.int (-1)]) (st := []) dX12_order_11 hy_X12_refuse (co_0 hL).1 (co_0 hL).2 (by decide) wg_462 wg_464 wg_0 (Nat.le_refl _) (Nat.le_of_ble_eq_true rfl) (RM0.mono h ?_)
    clear h
    intro vv I2 L3 h
    obtain ⟨r4, rfl, h⟩ := h
    change Z n0 xX12_order (d + 1) 0 0 14 [(0, .ref (n0 + 0)), (1, .int p0), (2, .int p1)] [.int r4] K I2 L3 (z_q0 K Q)
    exact z_iret dX12_order_14 rfl ⟨rfl, h⟩
  · rw [if_neg g1] at h
    refine z_iload_n 1 dX12_order_4 rfl ?_
    refine z_iconst 5 dX12_order_5 (by decide) ?_
    refine z_icmp_lt 15 dX12_order_6 (by decide) (fun g5 => ?_) (fun g5 => ?_)
    · rw [if_pos g5] at h
      refine z_iload_n 2 dX12_order_15 rfl ?_
      refine z_iconst 0 dX12_order_16 (by decide) ?_
      refine z_bipush 99 dX12_order_17 (by decide) ?_
      refine z_callS0 (As := [.int p1, .int 0, .int 99]) (st := []) dX12_order_19 hy_X12_outside wg_476 wg_477 (Nat.le_refl _) (Nat.le_of_ble_eq_true rfl) (RM0.mono h ?_)
      clear h
      intro vv I6 L7 h
      obtain ⟨r8, rfl, h⟩ := h
      change Z n0 xX12_order (d + 1) 0 0 22 [(0, .ref (n0 + 0)), (1, .int p0), (2, .int p1)] [.int r8] K I6 L7 (z_q0 K Q)
      refine z_istore_n [1, 2, 3, 0] [(0, .ref (n0 + 0)), (1, .int p0), (2, .int p1), (3, .int r8)] dX12_order_22 (by decide) rfl ?_
      refine z_iload_n 3 dX12_order_23 rfl ?_
      refine z_if_eq 33 dX12_order_24 (by decide) (fun g9 => ?_) (fun g9 => ?_)
      · rw [if_pos g9] at h
        refine z_aload_n 0 dX12_order_33 rfl ?_
        refine fg_12_81 (some 52) rfl dX12_order_34 (co_0 hL).1 (co_0 hL).2 (cp_52 hL) ?_
        refine fg_12_414 (some 53) rfl dX12_order_37 (co_52 hL).1 (co_52 hL).2 (ca_53 hL).1 ?_
        refine z_iload_n 1 dX12_order_40 rfl ?_
        obtain ⟨o10, h⟩ := h
        refine z_iald (I6 53 p0.toNatClampNeg) dX12_order_41 (ca_53 hL).2.1 (ca_53 hL).2.2 o10 rfl ?_
        refine z_istore [1, 2, 3, 4, 0] [(0, .ref (n0 + 0)), (1, .int p0), (2, .int p1), (3, .int r8), (4, .int (I6 53 p0.toNatClampNeg))] dX12_order_42 (by decide) rfl ?_
        refine z_aload_n 0 dX12_order_44 rfl ?_
        refine fg_12_81 (some 52) rfl dX12_order_45 (co_0 hL).1 (co_0 hL).2 (cp_52 hL) ?_
        refine fg_12_414 (some 53) rfl dX12_order_48 (co_52 hL).1 (co_52 hL).2 (ca_53 hL).1 ?_
        refine z_iload_n 1 dX12_order_51 rfl ?_
        refine z_iload_n 2 dX12_order_52 rfl ?_
        refine z_iast dX12_order_53 (ca_53 hL).2.1 (ca_53 hL).2.2 o10 ?_
        refine z_iload 4 dX12_order_54 rfl ?_
        exact z_iret dX12_order_56 rfl ⟨rfl, h⟩
      · rw [if_neg g9] at h
        refine z_aload_n 0 dX12_order_27 rfl ?_
        refine z_iload_n 3 dX12_order_28 rfl ?_
        refine z_callV0 (As := [.int r8]) (st := []) dX12_order_29 hy_X12_refuse (co_0 hL).1 (co_0 hL).2 (by decide) wg_462 wg_464 wg_0 (Nat.le_refl _) (Nat.le_of_ble_eq_true rfl) (RM0.mono h ?_)
        clear h
        intro vv I11 L12 h
        obtain ⟨r13, rfl, h⟩ := h
        change Z n0 xX12_order (d + 1) 0 0 32 [(0, .ref (n0 + 0)), (1, .int p0), (2, .int p1), (3, .int r8)] [.int r13] K I11 L12 (z_q0 K Q)
        exact z_iret dX12_order_32 rfl ⟨rfl, h⟩
    · rw [if_neg g5] at h
      refine z_aload_n 0 dX12_order_9 rfl ?_
      refine z_iconst (-1) dX12_order_10 (by decide) ?_
      refine z_callV0 (As := [.int (-1)]) (st := []) dX12_order_11 hy_X12_refuse (co_0 hL).1 (co_0 hL).2 (by decide) wg_462 wg_464 wg_0 (Nat.le_refl _) (Nat.le_of_ble_eq_true rfl) (RM0.mono h ?_)
      clear h
      intro vv I14 L15 h
      obtain ⟨r16, rfl, h⟩ := h
      change Z n0 xX12_order (d + 1) 0 0 14 [(0, .ref (n0 + 0)), (1, .int p0), (2, .int p1)] [.int r16] K I14 L15 (z_q0 K Q)
      exact z_iret dX12_order_14 rfl ⟨rfl, h⟩
theorem dX12_marker_0 : decode cX12_marker 0 = .ok (.iload_n 1, 1) := by decide +kernel
theorem dX12_marker_1 : decode cX12_marker 1 = .ok (.iconst 1, 1) := by decide +kernel
theorem dX12_marker_2 : decode cX12_marker 2 = .ok (.if_icmp .lt 8, 3) := by decide +kernel
theorem dX12_marker_5 : decode cX12_marker 5 = .ok (.iload_n 2, 1) := by decide +kernel
theorem dX12_marker_6 : decode cX12_marker 6 = .ok (.iconst 1, 1) := by decide +kernel
theorem dX12_marker_7 : decode cX12_marker 7 = .ok (.if_icmp .ge 10, 3) := by decide +kernel
theorem dX12_marker_10 : decode cX12_marker 10 = .ok (.aload_n 0, 1) := by decide +kernel
theorem dX12_marker_11 : decode cX12_marker 11 = .ok (.bipush (-4), 2) := by decide +kernel
theorem dX12_marker_13 : decode cX12_marker 13 = .ok (.invokevirtual 85, 3) := by decide +kernel
theorem dX12_marker_16 : decode cX12_marker 16 = .ok (.ireturn, 1) := by decide +kernel
theorem dX12_marker_17 : decode cX12_marker 17 = .ok (.iload_n 1, 1) := by decide +kernel
theorem dX12_marker_18 : decode cX12_marker 18 = .ok (.ldc_w 270, 3) := by decide +kernel
theorem dX12_marker_21 : decode cX12_marker 21 = .ok (.if_icmp .gt 10, 3) := by decide +kernel
theorem dX12_marker_24 : decode cX12_marker 24 = .ok (.iload_n 2, 1) := by decide +kernel
theorem dX12_marker_25 : decode cX12_marker 25 = .ok (.sipush 9999, 3) := by decide +kernel
theorem dX12_marker_28 : decode cX12_marker 28 = .ok (.if_icmp .le 10, 3) := by decide +kernel
theorem dX12_marker_31 : decode cX12_marker 31 = .ok (.aload_n 0, 1) := by decide +kernel
theorem dX12_marker_32 : decode cX12_marker 32 = .ok (.bipush (-6), 2) := by decide +kernel
theorem dX12_marker_34 : decode cX12_marker 34 = .ok (.invokevirtual 85, 3) := by decide +kernel
theorem dX12_marker_37 : decode cX12_marker 37 = .ok (.ireturn, 1) := by decide +kernel
theorem dX12_marker_38 : decode cX12_marker 38 = .ok (.aload_n 0, 1) := by decide +kernel
theorem dX12_marker_39 : decode cX12_marker 39 = .ok (.getfield 81, 3) := by decide +kernel
theorem dX12_marker_42 : decode cX12_marker 42 = .ok (.getfield 417, 3) := by decide +kernel
theorem dX12_marker_45 : decode cX12_marker 45 = .ok (.bipush 6, 2) := by decide +kernel
theorem dX12_marker_47 : decode cX12_marker 47 = .ok (.if_icmp .lt 10, 3) := by decide +kernel
theorem dX12_marker_50 : decode cX12_marker 50 = .ok (.aload_n 0, 1) := by decide +kernel
theorem dX12_marker_51 : decode cX12_marker 51 = .ok (.bipush (-6), 2) := by decide +kernel
theorem dX12_marker_53 : decode cX12_marker 53 = .ok (.invokevirtual 85, 3) := by decide +kernel
theorem dX12_marker_56 : decode cX12_marker 56 = .ok (.ireturn, 1) := by decide +kernel
theorem dX12_marker_57 : decode cX12_marker 57 = .ok (.aload_n 0, 1) := by decide +kernel
theorem dX12_marker_58 : decode cX12_marker 58 = .ok (.getfield 81, 3) := by decide +kernel
theorem dX12_marker_61 : decode cX12_marker 61 = .ok (.iload_n 1, 1) := by decide +kernel
theorem dX12_marker_62 : decode cX12_marker 62 = .ok (.iload_n 2, 1) := by decide +kernel
theorem dX12_marker_63 : decode cX12_marker 63 = .ok (.invokevirtual 420, 3) := by decide +kernel
theorem dX12_marker_66 : decode cX12_marker 66 = .ok (.ireturn, 1) := by decide +kernel
set_option maxRecDepth 100000 in
set_option maxHeartbeats 4000000 in
theorem wp_X12_marker {n0 d : Nat} {K : z_K} {I : z_I} {L : z_L} {Q : z_q} {p0 : Int32} {p1 : Int32} (hL : CLay K) (h : (if p0 < 1 then RM0 n0 xX12_refuse d [.ref (n0 + 0), .int (-4)] K I L (fun vv I2 L3 => ∃ r4 : Int32, vv = some (.int r4) ∧ Q (some (.int r4)) I2 L3) else (if p1 < 1 then RM0 n0 xX12_refuse d [.ref (n0 + 0), .int (-4)] K I L (fun vv I21 L22 => ∃ r23 : Int32, vv = some (.int r23) ∧ Q (some (.int r23)) I21 L22) else (if 99999 < p0 then RM0 n0 xX12_refuse d [.ref (n0 + 0), .int (-6)] K I L (fun vv I7 L8 => ∃ r9 : Int32, vv = some (.int r9) ∧ Q (some (.int r9)) I7 L8) else (if 9999 < p1 then RM0 n0 xX12_refuse d [.ref (n0 + 0), .int (-6)] K I L (fun vv I18 L19 => ∃ r20 : Int32, vv = some (.int r20) ∧ Q (some (.int r20)) I18 L19) else (if ((I 52 3) : Int32) < 6 then RM0 n0 xX9_add d [.ref (n0 + 52), .int p0, .int p1] K I L (fun vv I12 L13 => ∃ r14 : Int32, vv = some (.int r14) ∧ Q (some (.int r14)) I12 L13) else RM0 n0 xX12_refuse d [.ref (n0 + 0), .int (-6)] K I L (fun vv I15 L16 => ∃ r17 : Int32, vv = some (.int r17) ∧ Q (some (.int r17)) I15 L16))))))) : RM0 n0 xX12_marker (d + 1) [.ref (n0 + 0), .int p0, .int p1] K I L Q := by
  refine z_entry0 (by decide) (Nat.le_of_ble_eq_true rfl) ?_
  change Z n0 xX12_marker (d + 1) 0 0 0 [(0, .ref (n0 + 0)), (1, .int p0), (2, .int p1)] [] K I L (z_q0 K Q)
  refine z_iload_n 1 dX12_marker_0 rfl ?_
  refine z_iconst 1 dX12_marker_1 (by decide) ?_
  refine z_icmp_lt 10 dX12_marker_2 (by decide) (fun g1 => ?_) (fun g1 => ?_)
  · rw [if_pos g1] at h
    refine z_aload_n 0 dX12_marker_10 rfl ?_
    refine z_bipush (-4) dX12_marker_11 (by decide) ?_
    refine z_callV0 (As := [.int (-4)]) (st := []) dX12_marker_13 hy_X12_refuse (co_0 hL).1 (co_0 hL).2 (by decide) wg_462 wg_464 wg_0 (Nat.le_refl _) (Nat.le_of_ble_eq_true rfl) (RM0.mono h ?_)
    clear h
    intro vv I2 L3 h
    obtain ⟨r4, rfl, h⟩ := h
    change Z n0 xX12_marker (d + 1) 0 0 16 [(0, .ref (n0 + 0)), (1, .int p0), (2, .int p1)] [.int r4] K I2 L3 (z_q0 K Q)
    exact z_iret dX12_marker_16 rfl ⟨rfl, h⟩
  · rw [if_neg g1] at h
    refine z_iload_n 2 dX12_marker_5 rfl ?_
    refine z_iconst 1 dX12_marker_6 (by decide) ?_
    refine z_icmp_ge 17 dX12_marker_7 (by decide) (fun g5 => ?_) (fun g5 => ?_)
    · rw [if_neg g5] at h
      refine z_iload_n 1 dX12_marker_17 rfl ?_
      refine z_ldc_w 99999 dX12_marker_18 wg_999 ?_
      refine z_icmp_gt 31 dX12_marker_21 (by decide) (fun g6 => ?_) (fun g6 => ?_)
      · rw [if_pos g6] at h
        refine z_aload_n 0 dX12_marker_31 rfl ?_
        refine z_bipush (-6) dX12_marker_32 (by decide) ?_
        refine z_callV0 (As := [.int (-6)]) (st := []) dX12_marker_34 hy_X12_refuse (co_0 hL).1 (co_0 hL).2 (by decide) wg_462 wg_464 wg_0 (Nat.le_refl _) (Nat.le_of_ble_eq_true rfl) (RM0.mono h ?_)
        clear h
        intro vv I7 L8 h
        obtain ⟨r9, rfl, h⟩ := h
        change Z n0 xX12_marker (d + 1) 0 0 37 [(0, .ref (n0 + 0)), (1, .int p0), (2, .int p1)] [.int r9] K I7 L8 (z_q0 K Q)
        exact z_iret dX12_marker_37 rfl ⟨rfl, h⟩
      · rw [if_neg g6] at h
        refine z_iload_n 2 dX12_marker_24 rfl ?_
        refine z_sipush 9999 dX12_marker_25 (by decide) ?_
        refine z_icmp_le 38 dX12_marker_28 (by decide) (fun g10 => ?_) (fun g10 => ?_)
        · rw [if_neg g10] at h
          refine z_aload_n 0 dX12_marker_38 rfl ?_
          refine fg_12_81 (some 52) rfl dX12_marker_39 (co_0 hL).1 (co_0 hL).2 (cp_52 hL) ?_
          refine fg_12_417 (I 52 3) rfl dX12_marker_42 (co_52 hL).1 (co_52 hL).2 rfl ?_
          refine z_bipush 6 dX12_marker_45 (by decide) ?_
          refine z_icmp_lt 57 dX12_marker_47 (by decide) (fun g11 => ?_) (fun g11 => ?_)
          · rw [if_pos g11] at h
            refine z_aload_n 0 dX12_marker_57 rfl ?_
            refine fg_12_81 (some 52) rfl dX12_marker_58 (co_0 hL).1 (co_0 hL).2 (cp_52 hL) ?_
            refine z_iload_n 1 dX12_marker_61 rfl ?_
            refine z_iload_n 2 dX12_marker_62 rfl ?_
            refine z_callV0 (As := [.int p0, .int p1]) (st := []) dX12_marker_63 hy_X9_add (co_52 hL).1 (co_52 hL).2 (by decide) wg_1340 wg_1341 wg_1342 (Nat.le_refl _) (Nat.le_of_ble_eq_true rfl) (RM0.mono h ?_)
            clear h
            intro vv I12 L13 h
            obtain ⟨r14, rfl, h⟩ := h
            change Z n0 xX12_marker (d + 1) 0 0 66 [(0, .ref (n0 + 0)), (1, .int p0), (2, .int p1)] [.int r14] K I12 L13 (z_q0 K Q)
            exact z_iret dX12_marker_66 rfl ⟨rfl, h⟩
          · rw [if_neg g11] at h
            refine z_aload_n 0 dX12_marker_50 rfl ?_
            refine z_bipush (-6) dX12_marker_51 (by decide) ?_
            refine z_callV0 (As := [.int (-6)]) (st := []) dX12_marker_53 hy_X12_refuse (co_0 hL).1 (co_0 hL).2 (by decide) wg_462 wg_464 wg_0 (Nat.le_refl _) (Nat.le_of_ble_eq_true rfl) (RM0.mono h ?_)
            clear h
            intro vv I15 L16 h
            obtain ⟨r17, rfl, h⟩ := h
            change Z n0 xX12_marker (d + 1) 0 0 56 [(0, .ref (n0 + 0)), (1, .int p0), (2, .int p1)] [.int r17] K I15 L16 (z_q0 K Q)
            exact z_iret dX12_marker_56 rfl ⟨rfl, h⟩
        · rw [if_pos g10] at h
          refine z_aload_n 0 dX12_marker_31 rfl ?_
          refine z_bipush (-6) dX12_marker_32 (by decide) ?_
          refine z_callV0 (As := [.int (-6)]) (st := []) dX12_marker_34 hy_X12_refuse (co_0 hL).1 (co_0 hL).2 (by decide) wg_462 wg_464 wg_0 (Nat.le_refl _) (Nat.le_of_ble_eq_true rfl) (RM0.mono h ?_)
          clear h
          intro vv I18 L19 h
          obtain ⟨r20, rfl, h⟩ := h
          change Z n0 xX12_marker (d + 1) 0 0 37 [(0, .ref (n0 + 0)), (1, .int p0), (2, .int p1)] [.int r20] K I18 L19 (z_q0 K Q)
          exact z_iret dX12_marker_37 rfl ⟨rfl, h⟩
    · rw [if_pos g5] at h
      refine z_aload_n 0 dX12_marker_10 rfl ?_
      refine z_bipush (-4) dX12_marker_11 (by decide) ?_
      refine z_callV0 (As := [.int (-4)]) (st := []) dX12_marker_13 hy_X12_refuse (co_0 hL).1 (co_0 hL).2 (by decide) wg_462 wg_464 wg_0 (Nat.le_refl _) (Nat.le_of_ble_eq_true rfl) (RM0.mono h ?_)
      clear h
      intro vv I21 L22 h
      obtain ⟨r23, rfl, h⟩ := h
      change Z n0 xX12_marker (d + 1) 0 0 16 [(0, .ref (n0 + 0)), (1, .int p0), (2, .int p1)] [.int r23] K I21 L22 (z_q0 K Q)
      exact z_iret dX12_marker_16 rfl ⟨rfl, h⟩
theorem dX12_season_0 : decode cX12_season 0 = .ok (.aload_n 0, 1) := by decide +kernel
theorem dX12_season_1 : decode cX12_season 1 = .ok (.getfield 81, 3) := by decide +kernel
theorem dX12_season_4 : decode cX12_season 4 = .ok (.invokevirtual 422, 3) := by decide +kernel
theorem dX12_season_7 : decode cX12_season 7 = .ok (.ifCond .eq 13, 3) := by decide +kernel
theorem dX12_season_10 : decode cX12_season 10 = .ok (.aload_n 0, 1) := by decide +kernel
theorem dX12_season_11 : decode cX12_season 11 = .ok (.getfield 81, 3) := by decide +kernel
theorem dX12_season_14 : decode cX12_season 14 = .ok (.getfield 424, 3) := by decide +kernel
theorem dX12_season_17 : decode cX12_season 17 = .ok (.goto 5, 3) := by decide +kernel
theorem dX12_season_20 : decode cX12_season 20 = .ok (.bipush (-9), 2) := by decide +kernel
theorem dX12_season_22 : decode cX12_season 22 = .ok (.ireturn, 1) := by decide +kernel
set_option maxRecDepth 100000 in
set_option maxHeartbeats 4000000 in
theorem wp_X12_season {n0 d : Nat} {K : z_K} {I : z_I} {L : z_L} {Q : z_q}  (hL : CLay K) (h : RM0 n0 xX9_solve d [.ref (n0 + 52)] K I L (fun vv I1 L2 => ∃ r3 : Int32, vv = some (.int r3) ∧ Q (some (.int (if r3 = 0 then (-9) else (I1 52 7)))) I1 L2)) : RM0 n0 xX12_season (d + 1) [.ref (n0 + 0)] K I L Q := by
  refine z_entry0 (by decide) (Nat.le_of_ble_eq_true rfl) ?_
  change Z n0 xX12_season (d + 1) 0 0 0 [(0, .ref (n0 + 0))] [] K I L (z_q0 K Q)
  refine z_aload_n 0 dX12_season_0 rfl ?_
  refine fg_12_81 (some 52) rfl dX12_season_1 (co_0 hL).1 (co_0 hL).2 (cp_52 hL) ?_
  refine z_callV0 (As := []) (st := []) dX12_season_4 hy_X9_solve (co_52 hL).1 (co_52 hL).2 (by decide) wg_1348 wg_1349 wg_1350 (Nat.le_refl _) (Nat.le_of_ble_eq_true rfl) (RM0.mono h ?_)
  clear h
  intro vv I1 L2 h
  obtain ⟨r3, rfl, h⟩ := h
  change Z n0 xX12_season (d + 1) 0 0 7 [(0, .ref (n0 + 0))] [.int r3] K I1 L2 (z_q0 K Q)
  have key5 : Z n0 xX12_season (d + 1) 0 0 22 [] [.int (if r3 = 0 then (-9) else (I1 52 7))] K I1 L2 (z_q0 K Q) := by
    exact z_iret dX12_season_22 rfl ⟨rfl, h⟩
  refine z_if_eq 20 dX12_season_7 (by decide) (fun g4 => ?_) (fun g4 => ?_)
  · refine z_bipush (-9) dX12_season_20 (by decide) ?_
    have ee : ((if r3 = 0 then (-9) else (I1 52 7)) : Int32) = (-9) := by rw [if_pos g4]
    rw [ee] at key5
    clear ee
    refine z_sub [] rfl ?_
    exact key5
  · refine z_aload_n 0 dX12_season_10 rfl ?_
    refine fg_12_81 (some 52) rfl dX12_season_11 (co_0 hL).1 (co_0 hL).2 (cp_52 hL) ?_
    refine fg_12_424 (I1 52 7) rfl dX12_season_14 (co_52 hL).1 (co_52 hL).2 rfl ?_
    refine z_goto 22 dX12_season_17 (by decide) ?_
    have ee : ((if r3 = 0 then (-9) else (I1 52 7)) : Int32) = (I1 52 7) := by rw [if_neg g4]
    rw [ee] at key5
    clear ee
    refine z_sub [] rfl ?_
    exact key5
theorem dX12_often_0 : decode cX12_often 0 = .ok (.iload_n 1, 1) := by decide +kernel
theorem dX12_often_1 : decode cX12_often 1 = .ok (.ifCond .lt 14, 3) := by decide +kernel
theorem dX12_often_4 : decode cX12_often 4 = .ok (.iload_n 1, 1) := by decide +kernel
theorem dX12_often_5 : decode cX12_often 5 = .ok (.aload_n 0, 1) := by decide +kernel
theorem dX12_often_6 : decode cX12_often 6 = .ok (.getfield 81, 3) := by decide +kernel
theorem dX12_often_9 : decode cX12_often 9 = .ok (.getfield 417, 3) := by decide +kernel
theorem dX12_often_12 : decode cX12_often 12 = .ok (.if_icmp .lt 9, 3) := by decide +kernel
theorem dX12_often_15 : decode cX12_often 15 = .ok (.aload_n 0, 1) := by decide +kernel
theorem dX12_often_16 : decode cX12_often 16 = .ok (.iconst (-1), 1) := by decide +kernel
theorem dX12_often_17 : decode cX12_often 17 = .ok (.invokevirtual 85, 3) := by decide +kernel
theorem dX12_often_20 : decode cX12_often 20 = .ok (.ireturn, 1) := by decide +kernel
theorem dX12_often_21 : decode cX12_often 21 = .ok (.aload_n 0, 1) := by decide +kernel
theorem dX12_often_22 : decode cX12_often 22 = .ok (.getfield 81, 3) := by decide +kernel
theorem dX12_often_25 : decode cX12_often 25 = .ok (.invokevirtual 422, 3) := by decide +kernel
theorem dX12_often_28 : decode cX12_often 28 = .ok (.ifCond .eq 15, 3) := by decide +kernel
theorem dX12_often_31 : decode cX12_often 31 = .ok (.aload_n 0, 1) := by decide +kernel
theorem dX12_often_32 : decode cX12_often 32 = .ok (.getfield 81, 3) := by decide +kernel
theorem dX12_often_35 : decode cX12_often 35 = .ok (.getfield 427, 3) := by decide +kernel
theorem dX12_often_38 : decode cX12_often 38 = .ok (.iload_n 1, 1) := by decide +kernel
theorem dX12_often_39 : decode cX12_often 39 = .ok (.iaload, 1) := by decide +kernel
theorem dX12_often_40 : decode cX12_often 40 = .ok (.goto 5, 3) := by decide +kernel
theorem dX12_often_43 : decode cX12_often 43 = .ok (.bipush (-9), 2) := by decide +kernel
theorem dX12_often_45 : decode cX12_often 45 = .ok (.ireturn, 1) := by decide +kernel
set_option maxRecDepth 100000 in
set_option maxHeartbeats 4000000 in
theorem wp_X12_often {n0 d : Nat} {K : z_K} {I : z_I} {L : z_L} {Q : z_q} {p0 : Int32} (hL : CLay K) (h : (if p0 < 0 then RM0 n0 xX12_refuse d [.ref (n0 + 0), .int (-1)] K I L (fun vv I2 L3 => ∃ r4 : Int32, vv = some (.int r4) ∧ Q (some (.int r4)) I2 L3) else (if p0 < (I 52 3) then RM0 n0 xX9_solve d [.ref (n0 + 52)] K I L (fun vv I6 L7 => ∃ r8 : Int32, vv = some (.int r8) ∧ (¬ (r8 = 0) → vp_in p0 6) ∧ Q (some (.int (if r8 = 0 then (-9) else (I6 58 p0.toNatClampNeg)))) I6 L7) else RM0 n0 xX12_refuse d [.ref (n0 + 0), .int (-1)] K I L (fun vv I12 L13 => ∃ r14 : Int32, vv = some (.int r14) ∧ Q (some (.int r14)) I12 L13)))) : RM0 n0 xX12_often (d + 1) [.ref (n0 + 0), .int p0] K I L Q := by
  refine z_entry0 (by decide) (Nat.le_of_ble_eq_true rfl) ?_
  change Z n0 xX12_often (d + 1) 0 0 0 [(0, .ref (n0 + 0)), (1, .int p0)] [] K I L (z_q0 K Q)
  refine z_iload_n 1 dX12_often_0 rfl ?_
  refine z_if_lt 15 dX12_often_1 (by decide) (fun g1 => ?_) (fun g1 => ?_)
  · rw [if_pos g1] at h
    refine z_aload_n 0 dX12_often_15 rfl ?_
    refine z_iconst (-1) dX12_often_16 (by decide) ?_
    refine z_callV0 (As := [.int (-1)]) (st := []) dX12_often_17 hy_X12_refuse (co_0 hL).1 (co_0 hL).2 (by decide) wg_462 wg_464 wg_0 (Nat.le_refl _) (Nat.le_of_ble_eq_true rfl) (RM0.mono h ?_)
    clear h
    intro vv I2 L3 h
    obtain ⟨r4, rfl, h⟩ := h
    change Z n0 xX12_often (d + 1) 0 0 20 [(0, .ref (n0 + 0)), (1, .int p0)] [.int r4] K I2 L3 (z_q0 K Q)
    exact z_iret dX12_often_20 rfl ⟨rfl, h⟩
  · rw [if_neg g1] at h
    refine z_iload_n 1 dX12_often_4 rfl ?_
    refine z_aload_n 0 dX12_often_5 rfl ?_
    refine fg_12_81 (some 52) rfl dX12_often_6 (co_0 hL).1 (co_0 hL).2 (cp_52 hL) ?_
    refine fg_12_417 (I 52 3) rfl dX12_often_9 (co_52 hL).1 (co_52 hL).2 rfl ?_
    refine z_icmp_lt 21 dX12_often_12 (by decide) (fun g5 => ?_) (fun g5 => ?_)
    · rw [if_pos g5] at h
      refine z_aload_n 0 dX12_often_21 rfl ?_
      refine fg_12_81 (some 52) rfl dX12_often_22 (co_0 hL).1 (co_0 hL).2 (cp_52 hL) ?_
      refine z_callV0 (As := []) (st := []) dX12_often_25 hy_X9_solve (co_52 hL).1 (co_52 hL).2 (by decide) wg_1348 wg_1349 wg_1350 (Nat.le_refl _) (Nat.le_of_ble_eq_true rfl) (RM0.mono h ?_)
      clear h
      intro vv I6 L7 h
      obtain ⟨r8, rfl, h⟩ := h
      change Z n0 xX12_often (d + 1) 0 0 28 [(0, .ref (n0 + 0)), (1, .int p0)] [.int r8] K I6 L7 (z_q0 K Q)
      obtain ⟨o10, h⟩ := h
      have key11 : Z n0 xX12_often (d + 1) 0 0 45 [] [.int (if r8 = 0 then (-9) else (I6 58 p0.toNatClampNeg))] K I6 L7 (z_q0 K Q) := by
        exact z_iret dX12_often_45 rfl ⟨rfl, h⟩
      refine z_if_eq 43 dX12_often_28 (by decide) (fun g9 => ?_) (fun g9 => ?_)
      · refine z_bipush (-9) dX12_often_43 (by decide) ?_
        have ee : ((if r8 = 0 then (-9) else (I6 58 p0.toNatClampNeg)) : Int32) = (-9) := by rw [if_pos g9]
        rw [ee] at key11
        clear ee
        refine z_sub [] rfl ?_
        exact key11
      · refine z_aload_n 0 dX12_often_31 rfl ?_
        refine fg_12_81 (some 52) rfl dX12_often_32 (co_0 hL).1 (co_0 hL).2 (cp_52 hL) ?_
        refine fg_12_427 (some 58) rfl dX12_often_35 (co_52 hL).1 (co_52 hL).2 (ca_58 hL).1 ?_
        refine z_iload_n 1 dX12_often_38 rfl ?_
        refine z_iald (I6 58 p0.toNatClampNeg) dX12_often_39 (ca_58 hL).2.1 (ca_58 hL).2.2 (o10 g9) rfl ?_
        refine z_goto 45 dX12_often_40 (by decide) ?_
        have ee : ((if r8 = 0 then (-9) else (I6 58 p0.toNatClampNeg)) : Int32) = (I6 58 p0.toNatClampNeg) := by rw [if_neg g9]
        rw [ee] at key11
        clear ee
        refine z_sub [] rfl ?_
        exact key11
    · rw [if_neg g5] at h
      refine z_aload_n 0 dX12_often_15 rfl ?_
      refine z_iconst (-1) dX12_often_16 (by decide) ?_
      refine z_callV0 (As := [.int (-1)]) (st := []) dX12_often_17 hy_X12_refuse (co_0 hL).1 (co_0 hL).2 (by decide) wg_462 wg_464 wg_0 (Nat.le_refl _) (Nat.le_of_ble_eq_true rfl) (RM0.mono h ?_)
      clear h
      intro vv I12 L13 h
      obtain ⟨r14, rfl, h⟩ := h
      change Z n0 xX12_often (d + 1) 0 0 20 [(0, .ref (n0 + 0)), (1, .int p0)] [.int r14] K I12 L13 (z_q0 K Q)
      exact z_iret dX12_often_20 rfl ⟨rfl, h⟩
theorem dX12_count_0 : decode cX12_count 0 = .ok (.iload_n 1, 1) := by decide +kernel
theorem dX12_count_1 : decode cX12_count 1 = .ok (.tableswitch 114 0 9 #[55, 60, 65, 70, 75, 80, 88, 96, 101, 106], 55) := by decide +kernel
theorem dX12_count_56 : decode cX12_count 56 = .ok (.aload_n 0, 1) := by decide +kernel
theorem dX12_count_57 : decode cX12_count 57 = .ok (.getfield 89, 3) := by decide +kernel
theorem dX12_count_60 : decode cX12_count 60 = .ok (.ireturn, 1) := by decide +kernel
theorem dX12_count_61 : decode cX12_count 61 = .ok (.aload_n 0, 1) := by decide +kernel
theorem dX12_count_62 : decode cX12_count 62 = .ok (.getfield 116, 3) := by decide +kernel
theorem dX12_count_65 : decode cX12_count 65 = .ok (.ireturn, 1) := by decide +kernel
theorem dX12_count_66 : decode cX12_count 66 = .ok (.aload_n 0, 1) := by decide +kernel
theorem dX12_count_67 : decode cX12_count 67 = .ok (.getfield 144, 3) := by decide +kernel
theorem dX12_count_70 : decode cX12_count 70 = .ok (.ireturn, 1) := by decide +kernel
theorem dX12_count_71 : decode cX12_count 71 = .ok (.aload_n 0, 1) := by decide +kernel
theorem dX12_count_72 : decode cX12_count 72 = .ok (.getfield 164, 3) := by decide +kernel
theorem dX12_count_75 : decode cX12_count 75 = .ok (.ireturn, 1) := by decide +kernel
theorem dX12_count_76 : decode cX12_count 76 = .ok (.aload_n 0, 1) := by decide +kernel
theorem dX12_count_77 : decode cX12_count 77 = .ok (.getfield 256, 3) := by decide +kernel
theorem dX12_count_80 : decode cX12_count 80 = .ok (.ireturn, 1) := by decide +kernel
theorem dX12_count_81 : decode cX12_count 81 = .ok (.aload_n 0, 1) := by decide +kernel
theorem dX12_count_82 : decode cX12_count 82 = .ok (.getfield 54, 3) := by decide +kernel
theorem dX12_count_85 : decode cX12_count 85 = .ok (.getfield 305, 3) := by decide +kernel
theorem dX12_count_88 : decode cX12_count 88 = .ok (.ireturn, 1) := by decide +kernel
theorem dX12_count_89 : decode cX12_count 89 = .ok (.aload_n 0, 1) := by decide +kernel
theorem dX12_count_90 : decode cX12_count 90 = .ok (.getfield 61, 3) := by decide +kernel
theorem dX12_count_93 : decode cX12_count 93 = .ok (.getfield 334, 3) := by decide +kernel
theorem dX12_count_96 : decode cX12_count 96 = .ok (.ireturn, 1) := by decide +kernel
theorem dX12_count_97 : decode cX12_count 97 = .ok (.aload_n 0, 1) := by decide +kernel
theorem dX12_count_98 : decode cX12_count 98 = .ok (.getfield 366, 3) := by decide +kernel
theorem dX12_count_101 : decode cX12_count 101 = .ok (.ireturn, 1) := by decide +kernel
theorem dX12_count_102 : decode cX12_count 102 = .ok (.aload_n 0, 1) := by decide +kernel
theorem dX12_count_103 : decode cX12_count 103 = .ok (.getfield 385, 3) := by decide +kernel
theorem dX12_count_106 : decode cX12_count 106 = .ok (.ireturn, 1) := by decide +kernel
theorem dX12_count_107 : decode cX12_count 107 = .ok (.aload_n 0, 1) := by decide +kernel
theorem dX12_count_108 : decode cX12_count 108 = .ok (.getfield 34, 3) := by decide +kernel
theorem dX12_count_111 : decode cX12_count 111 = .ok (.getfield 154, 3) := by decide +kernel
theorem dX12_count_114 : decode cX12_count 114 = .ok (.ireturn, 1) := by decide +kernel
theorem dX12_count_115 : decode cX12_count 115 = .ok (.iload_n 1, 1) := by decide +kernel
theorem dX12_count_116 : decode cX12_count 116 = .ok (.bipush 11, 2) := by decide +kernel
theorem dX12_count_118 : decode cX12_count 118 = .ok (.if_icmp .lt 21, 3) := by decide +kernel
theorem dX12_count_121 : decode cX12_count 121 = .ok (.iload_n 1, 1) := by decide +kernel
theorem dX12_count_122 : decode cX12_count 122 = .ok (.bipush 17, 2) := by decide +kernel
theorem dX12_count_124 : decode cX12_count 124 = .ok (.if_icmp .gt 15, 3) := by decide +kernel
theorem dX12_count_127 : decode cX12_count 127 = .ok (.aload_n 0, 1) := by decide +kernel
theorem dX12_count_128 : decode cX12_count 128 = .ok (.getfield 9, 3) := by decide +kernel
theorem dX12_count_131 : decode cX12_count 131 = .ok (.iload_n 1, 1) := by decide +kernel
theorem dX12_count_132 : decode cX12_count 132 = .ok (.bipush 10, 2) := by decide +kernel
theorem dX12_count_134 : decode cX12_count 134 = .ok (.isub, 1) := by decide +kernel
theorem dX12_count_135 : decode cX12_count 135 = .ok (.iaload, 1) := by decide +kernel
theorem dX12_count_136 : decode cX12_count 136 = .ok (.goto 5, 3) := by decide +kernel
theorem dX12_count_139 : decode cX12_count 139 = .ok (.bipush (-9), 2) := by decide +kernel
theorem dX12_count_141 : decode cX12_count 141 = .ok (.ireturn, 1) := by decide +kernel
set_option maxRecDepth 100000 in
set_option maxHeartbeats 4000000 in
theorem wp_X12_count {n0 d : Nat} {K : z_K} {I : z_I} {L : z_L} {Q : z_q} {p0 : Int32} (hL : CLay K) (h : (if p0 = 0 then Q (some (.int (I 0 0))) I L else (if p0 = 1 then Q (some (.int (I 0 4))) I L else (if p0 = 2 then Q (some (.int (I 0 8))) I L else (if p0 = 3 then Q (some (.int (I 0 9))) I L else (if p0 = 4 then Q (some (.int (I 0 13))) I L else (if p0 = 5 then Q (some (.int (I 22 2))) I L else (if p0 = 6 then Q (some (.int (I 25 4))) I L else (if p0 = 7 then Q (some (.int (I 0 6))) I L else (if p0 = 8 then Q (some (.int (I 0 18))) I L else (if p0 = 9 then Q (some (.int (I 5 1))) I L else (¬ (p0 < 11) → ¬ (17 < p0) → vp_in (p0 - 10) 8) ∧ Q (some (.int (if p0 < 11 then (-9) else if 17 < p0 then (-9) else (I 1 ((p0 - 10).toNatClampNeg))))) I L))))))))))) : RM0 n0 xX12_count d [.ref (n0 + 0), .int p0] K I L Q := by
  refine z_entry0 (by decide) (Nat.le_of_ble_eq_true rfl) ?_
  change Z n0 xX12_count d 0 0 0 [(0, .ref (n0 + 0)), (1, .int p0)] [] K I L (z_q0 K Q)
  refine z_iload_n 1 dX12_count_0 rfl ?_
  by_cases g1 : p0 = 0
  · rw [if_pos g1] at h
    refine z_tabIn 56 dX12_count_1 (by rw [g1]; decide) (by rw [g1]; decide) (off := 55) (by rw [g1]; rfl) (by decide) ?_
    refine z_aload_n 0 dX12_count_56 rfl ?_
    refine fg_12_89 (I 0 0) rfl dX12_count_57 (co_0 hL).1 (co_0 hL).2 rfl ?_
    exact z_iret dX12_count_60 rfl ⟨rfl, h⟩
  rw [if_neg g1] at h
  by_cases g2 : p0 = 1
  · rw [if_pos g2] at h
    refine z_tabIn 61 dX12_count_1 (by rw [g2]; decide) (by rw [g2]; decide) (off := 60) (by rw [g2]; rfl) (by decide) ?_
    refine z_aload_n 0 dX12_count_61 rfl ?_
    refine fg_12_116 (I 0 4) rfl dX12_count_62 (co_0 hL).1 (co_0 hL).2 rfl ?_
    exact z_iret dX12_count_65 rfl ⟨rfl, h⟩
  rw [if_neg g2] at h
  by_cases g3 : p0 = 2
  · rw [if_pos g3] at h
    refine z_tabIn 66 dX12_count_1 (by rw [g3]; decide) (by rw [g3]; decide) (off := 65) (by rw [g3]; rfl) (by decide) ?_
    refine z_aload_n 0 dX12_count_66 rfl ?_
    refine fg_12_144 (I 0 8) rfl dX12_count_67 (co_0 hL).1 (co_0 hL).2 rfl ?_
    exact z_iret dX12_count_70 rfl ⟨rfl, h⟩
  rw [if_neg g3] at h
  by_cases g4 : p0 = 3
  · rw [if_pos g4] at h
    refine z_tabIn 71 dX12_count_1 (by rw [g4]; decide) (by rw [g4]; decide) (off := 70) (by rw [g4]; rfl) (by decide) ?_
    refine z_aload_n 0 dX12_count_71 rfl ?_
    refine fg_12_164 (I 0 9) rfl dX12_count_72 (co_0 hL).1 (co_0 hL).2 rfl ?_
    exact z_iret dX12_count_75 rfl ⟨rfl, h⟩
  rw [if_neg g4] at h
  by_cases g5 : p0 = 4
  · rw [if_pos g5] at h
    refine z_tabIn 76 dX12_count_1 (by rw [g5]; decide) (by rw [g5]; decide) (off := 75) (by rw [g5]; rfl) (by decide) ?_
    refine z_aload_n 0 dX12_count_76 rfl ?_
    refine fg_12_256 (I 0 13) rfl dX12_count_77 (co_0 hL).1 (co_0 hL).2 rfl ?_
    exact z_iret dX12_count_80 rfl ⟨rfl, h⟩
  rw [if_neg g5] at h
  by_cases g6 : p0 = 5
  · rw [if_pos g6] at h
    refine z_tabIn 81 dX12_count_1 (by rw [g6]; decide) (by rw [g6]; decide) (off := 80) (by rw [g6]; rfl) (by decide) ?_
    refine z_aload_n 0 dX12_count_81 rfl ?_
    refine fg_12_54 (some 22) rfl dX12_count_82 (co_0 hL).1 (co_0 hL).2 (cp_22 hL) ?_
    refine fg_12_305 (I 22 2) rfl dX12_count_85 (co_22 hL).1 (co_22 hL).2 rfl ?_
    exact z_iret dX12_count_88 rfl ⟨rfl, h⟩
  rw [if_neg g6] at h
  by_cases g7 : p0 = 6
  · rw [if_pos g7] at h
    refine z_tabIn 89 dX12_count_1 (by rw [g7]; decide) (by rw [g7]; decide) (off := 88) (by rw [g7]; rfl) (by decide) ?_
    refine z_aload_n 0 dX12_count_89 rfl ?_
    refine fg_12_61 (some 25) rfl dX12_count_90 (co_0 hL).1 (co_0 hL).2 (cp_25 hL) ?_
    refine fg_12_334 (I 25 4) rfl dX12_count_93 (co_25 hL).1 (co_25 hL).2 rfl ?_
    exact z_iret dX12_count_96 rfl ⟨rfl, h⟩
  rw [if_neg g7] at h
  by_cases g8 : p0 = 7
  · rw [if_pos g8] at h
    refine z_tabIn 97 dX12_count_1 (by rw [g8]; decide) (by rw [g8]; decide) (off := 96) (by rw [g8]; rfl) (by decide) ?_
    refine z_aload_n 0 dX12_count_97 rfl ?_
    refine fg_12_366 (I 0 6) rfl dX12_count_98 (co_0 hL).1 (co_0 hL).2 rfl ?_
    exact z_iret dX12_count_101 rfl ⟨rfl, h⟩
  rw [if_neg g8] at h
  by_cases g9 : p0 = 8
  · rw [if_pos g9] at h
    refine z_tabIn 102 dX12_count_1 (by rw [g9]; decide) (by rw [g9]; decide) (off := 101) (by rw [g9]; rfl) (by decide) ?_
    refine z_aload_n 0 dX12_count_102 rfl ?_
    refine fg_12_385 (I 0 18) rfl dX12_count_103 (co_0 hL).1 (co_0 hL).2 rfl ?_
    exact z_iret dX12_count_106 rfl ⟨rfl, h⟩
  rw [if_neg g9] at h
  by_cases g10 : p0 = 9
  · rw [if_pos g10] at h
    refine z_tabIn 107 dX12_count_1 (by rw [g10]; decide) (by rw [g10]; decide) (off := 106) (by rw [g10]; rfl) (by decide) ?_
    refine z_aload_n 0 dX12_count_107 rfl ?_
    refine fg_12_34 (some 5) rfl dX12_count_108 (co_0 hL).1 (co_0 hL).2 (cp_5 hL) ?_
    refine fg_12_154 (I 5 1) rfl dX12_count_111 (co_5 hL).1 (co_5 hL).2 rfl ?_
    exact z_iret dX12_count_114 rfl ⟨rfl, h⟩
  rw [if_neg g10] at h
  refine z_tabOut 115 dX12_count_1 (z_tout_0_9 g1 g2 g3 g4 g5 g6 g7 g8 g9 g10) (by decide) ?_
  refine z_iload_n 1 dX12_count_115 rfl ?_
  refine z_bipush 11 dX12_count_116 (by decide) ?_
  obtain ⟨o13, h⟩ := h
  have key14 : Z n0 xX12_count d 0 0 141 [] [.int (if p0 < 11 then (-9) else if 17 < p0 then (-9) else (I 1 ((p0 - 10).toNatClampNeg)))] K I L (z_q0 K Q) := by
    exact z_iret dX12_count_141 rfl ⟨rfl, h⟩
  refine z_icmp_lt 139 dX12_count_118 (by decide) (fun g11 => ?_) (fun g11 => ?_)
  · refine z_bipush (-9) dX12_count_139 (by decide) ?_
    have ee : ((if p0 < 11 then (-9) else if 17 < p0 then (-9) else (I 1 ((p0 - 10).toNatClampNeg))) : Int32) = (-9) := by rw [if_pos g11]
    rw [ee] at key14
    clear ee
    refine z_sub [] rfl ?_
    exact key14
  · refine z_iload_n 1 dX12_count_121 rfl ?_
    refine z_bipush 17 dX12_count_122 (by decide) ?_
    refine z_icmp_gt 139 dX12_count_124 (by decide) (fun g12 => ?_) (fun g12 => ?_)
    · refine z_bipush (-9) dX12_count_139 (by decide) ?_
      have ee : ((if p0 < 11 then (-9) else if 17 < p0 then (-9) else (I 1 ((p0 - 10).toNatClampNeg))) : Int32) = (-9) := by rw [if_neg g11, if_pos g12]
      rw [ee] at key14
      clear ee
      refine z_sub [] rfl ?_
      exact key14
    · refine z_aload_n 0 dX12_count_127 rfl ?_
      refine fg_12_9 (some 1) rfl dX12_count_128 (co_0 hL).1 (co_0 hL).2 (ca_1 hL).1 ?_
      refine z_iload_n 1 dX12_count_131 rfl ?_
      refine z_bipush 10 dX12_count_132 (by decide) ?_
      refine z_isub dX12_count_134 ?_
      refine z_iald (I 1 ((p0 - 10).toNatClampNeg)) dX12_count_135 (ca_1 hL).2.1 (ca_1 hL).2.2 (o13 g11 g12) rfl ?_
      refine z_goto 141 dX12_count_136 (by decide) ?_
      have ee : ((if p0 < 11 then (-9) else if 17 < p0 then (-9) else (I 1 ((p0 - 10).toNatClampNeg))) : Int32) = (I 1 ((p0 - 10).toNatClampNeg)) := by rw [if_neg g11, if_neg g12]
      rw [ee] at key14
      clear ee
      refine z_sub [] rfl ?_
      exact key14
theorem dX12_refuse_0 : decode cX12_refuse 0 = .ok (.iload_n 1, 1) := by decide +kernel
theorem dX12_refuse_1 : decode cX12_refuse 1 = .ok (.bipush (-7), 2) := by decide +kernel
theorem dX12_refuse_3 : decode cX12_refuse 3 = .ok (.if_icmp .lt 19, 3) := by decide +kernel
theorem dX12_refuse_6 : decode cX12_refuse 6 = .ok (.iload_n 1, 1) := by decide +kernel
theorem dX12_refuse_7 : decode cX12_refuse 7 = .ok (.iconst (-1), 1) := by decide +kernel
theorem dX12_refuse_8 : decode cX12_refuse 8 = .ok (.if_icmp .gt 14, 3) := by decide +kernel
theorem dX12_refuse_11 : decode cX12_refuse 11 = .ok (.aload_n 0, 1) := by decide +kernel
theorem dX12_refuse_12 : decode cX12_refuse 12 = .ok (.getfield 9, 3) := by decide +kernel
theorem dX12_refuse_15 : decode cX12_refuse 15 = .ok (.iload_n 1, 1) := by decide +kernel
theorem dX12_refuse_16 : decode cX12_refuse 16 = .ok (.ineg, 1) := by decide +kernel
theorem dX12_refuse_17 : decode cX12_refuse 17 = .ok (.dup2, 1) := by decide +kernel
theorem dX12_refuse_18 : decode cX12_refuse 18 = .ok (.iaload, 1) := by decide +kernel
theorem dX12_refuse_19 : decode cX12_refuse 19 = .ok (.iconst 1, 1) := by decide +kernel
theorem dX12_refuse_20 : decode cX12_refuse 20 = .ok (.iadd, 1) := by decide +kernel
theorem dX12_refuse_21 : decode cX12_refuse 21 = .ok (.iastore, 1) := by decide +kernel
theorem dX12_refuse_22 : decode cX12_refuse 22 = .ok (.iload_n 1, 1) := by decide +kernel
theorem dX12_refuse_23 : decode cX12_refuse 23 = .ok (.ireturn, 1) := by decide +kernel
set_option maxRecDepth 100000 in
set_option maxHeartbeats 4000000 in
theorem wp_X12_refuse {n0 d : Nat} {K : z_K} {I : z_I} {L : z_L} {Q : z_q} {p0 : Int32} (hL : CLay K) (h : (if p0 < (-7) then Q (some (.int p0)) I L else (if (-1) < p0 then Q (some (.int p0)) I L else vp_in (-p0) 8 ∧ Q (some (.int p0)) (zI I 1 ((-p0).toNatClampNeg) ((I 1 ((-p0).toNatClampNeg)) + 1)) L))) : RM0 n0 xX12_refuse d [.ref (n0 + 0), .int p0] K I L Q := by
  refine z_entry0 (by decide) (Nat.le_of_ble_eq_true rfl) ?_
  change Z n0 xX12_refuse d 0 0 0 [(0, .ref (n0 + 0)), (1, .int p0)] [] K I L (z_q0 K Q)
  refine z_iload_n 1 dX12_refuse_0 rfl ?_
  refine z_bipush (-7) dX12_refuse_1 (by decide) ?_
  refine z_icmp_lt 22 dX12_refuse_3 (by decide) (fun g1 => ?_) (fun g1 => ?_)
  · rw [if_pos g1] at h
    refine z_iload_n 1 dX12_refuse_22 rfl ?_
    exact z_iret dX12_refuse_23 rfl ⟨rfl, h⟩
  · rw [if_neg g1] at h
    refine z_iload_n 1 dX12_refuse_6 rfl ?_
    refine z_iconst (-1) dX12_refuse_7 (by decide) ?_
    refine z_icmp_gt 22 dX12_refuse_8 (by decide) (fun g2 => ?_) (fun g2 => ?_)
    · rw [if_pos g2] at h
      refine z_iload_n 1 dX12_refuse_22 rfl ?_
      exact z_iret dX12_refuse_23 rfl ⟨rfl, h⟩
    · rw [if_neg g2] at h
      refine z_aload_n 0 dX12_refuse_11 rfl ?_
      refine fg_12_9 (some 1) rfl dX12_refuse_12 (co_0 hL).1 (co_0 hL).2 (ca_1 hL).1 ?_
      refine z_iload_n 1 dX12_refuse_15 rfl ?_
      refine z_ineg dX12_refuse_16 ?_
      refine z_dup2 dX12_refuse_17 rfl rfl ?_
      obtain ⟨o3, h⟩ := h
      refine z_iald (I 1 ((-p0).toNatClampNeg)) dX12_refuse_18 (ca_1 hL).2.1 (ca_1 hL).2.2 o3 rfl ?_
      refine z_iconst 1 dX12_refuse_19 (by decide) ?_
      refine z_iadd dX12_refuse_20 ?_
      refine z_iast dX12_refuse_21 (ca_1 hL).2.1 (ca_1 hL).2.2 o3 ?_
      refine z_iload_n 1 dX12_refuse_22 rfl ?_
      exact z_iret dX12_refuse_23 rfl ⟨rfl, h⟩
theorem dX12_refuseApart_0 : decode cX12_refuseApart 0 = .ok (.ldc_w 400, 3) := by decide +kernel
theorem dX12_refuseApart_3 : decode cX12_refuseApart 3 = .ok (.aload_n 0, 1) := by decide +kernel
theorem dX12_refuseApart_4 : decode cX12_refuseApart 4 = .ok (.iload_n 1, 1) := by decide +kernel
theorem dX12_refuseApart_5 : decode cX12_refuseApart 5 = .ok (.invokevirtual 85, 3) := by decide +kernel
theorem dX12_refuseApart_8 : decode cX12_refuseApart 8 = .ok (.isub, 1) := by decide +kernel
theorem dX12_refuseApart_9 : decode cX12_refuseApart 9 = .ok (.ireturn, 1) := by decide +kernel
set_option maxRecDepth 100000 in
set_option maxHeartbeats 4000000 in
theorem wp_X12_refuseApart {n0 d : Nat} {K : z_K} {I : z_I} {L : z_L} {Q : z_q} {p0 : Int32} (hL : CLay K) (h : RM0 n0 xX12_refuse d [.ref (n0 + 0), .int p0] K I L (fun vv I1 L2 => ∃ r3 : Int32, vv = some (.int r3) ∧ Q (some (.int (1000000000 - r3))) I1 L2)) : RM0 n0 xX12_refuseApart (d + 1) [.ref (n0 + 0), .int p0] K I L Q := by
  refine z_entry0 (by decide) (Nat.le_of_ble_eq_true rfl) ?_
  change Z n0 xX12_refuseApart (d + 1) 0 0 0 [(0, .ref (n0 + 0)), (1, .int p0)] [] K I L (z_q0 K Q)
  refine z_ldc_w 1000000000 dX12_refuseApart_0 wg_559 ?_
  refine z_aload_n 0 dX12_refuseApart_3 rfl ?_
  refine z_iload_n 1 dX12_refuseApart_4 rfl ?_
  refine z_callV0 (As := [.int p0]) (st := [.int 1000000000]) dX12_refuseApart_5 hy_X12_refuse (co_0 hL).1 (co_0 hL).2 (by decide) wg_462 wg_464 wg_0 (Nat.le_refl _) (Nat.le_of_ble_eq_true rfl) (RM0.mono h ?_)
  clear h
  intro vv I1 L2 h
  obtain ⟨r3, rfl, h⟩ := h
  change Z n0 xX12_refuseApart (d + 1) 0 0 8 [(0, .ref (n0 + 0)), (1, .int p0)] [.int r3, .int 1000000000] K I1 L2 (z_q0 K Q)
  refine z_isub dX12_refuseApart_8 ?_
  exact z_iret dX12_refuseApart_9 rfl ⟨rfl, h⟩
theorem dX12_outside_0 : decode cX12_outside 0 = .ok (.iload_n 0, 1) := by decide +kernel
theorem dX12_outside_1 : decode cX12_outside 1 = .ok (.iload_n 1, 1) := by decide +kernel
theorem dX12_outside_2 : decode cX12_outside 2 = .ok (.if_icmp .ge 6, 3) := by decide +kernel
theorem dX12_outside_5 : decode cX12_outside 5 = .ok (.bipush (-4), 2) := by decide +kernel
theorem dX12_outside_7 : decode cX12_outside 7 = .ok (.ireturn, 1) := by decide +kernel
theorem dX12_outside_8 : decode cX12_outside 8 = .ok (.iload_n 0, 1) := by decide +kernel
theorem dX12_outside_9 : decode cX12_outside 9 = .ok (.iload_n 2, 1) := by decide +kernel
theorem dX12_outside_10 : decode cX12_outside 10 = .ok (.if_icmp .le 8, 3) := by decide +kernel
theorem dX12_outside_13 : decode cX12_outside 13 = .ok (.bipush (-6), 2) := by decide +kernel
theorem dX12_outside_15 : decode cX12_outside 15 = .ok (.goto 4, 3) := by decide +kernel
theorem dX12_outside_18 : decode cX12_outside 18 = .ok (.iconst 0, 1) := by decide +kernel
theorem dX12_outside_19 : decode cX12_outside 19 = .ok (.ireturn, 1) := by decide +kernel
set_option maxRecDepth 100000 in
set_option maxHeartbeats 4000000 in
theorem wp_X12_outside {n0 d : Nat} {K : z_K} {I : z_I} {L : z_L} {Q : z_q} {p0 : Int32} {p1 : Int32} {p2 : Int32} (hL : CLay K) (h : (if p0 < p1 then Q (some (.int (-4))) I L else Q (some (.int (if p2 < p0 then (-6) else 0))) I L)) : RM0 n0 xX12_outside d [.int p0, .int p1, .int p2] K I L Q := by
  refine z_entry0 (by decide) (Nat.le_of_ble_eq_true rfl) ?_
  change Z n0 xX12_outside d 0 0 0 [(0, .int p0), (1, .int p1), (2, .int p2)] [] K I L (z_q0 K Q)
  refine z_iload_n 0 dX12_outside_0 rfl ?_
  refine z_iload_n 1 dX12_outside_1 rfl ?_
  refine z_icmp_ge 8 dX12_outside_2 (by decide) (fun g1 => ?_) (fun g1 => ?_)
  · rw [if_neg g1] at h
    refine z_iload_n 0 dX12_outside_8 rfl ?_
    refine z_iload_n 2 dX12_outside_9 rfl ?_
    have key3 : Z n0 xX12_outside d 0 0 19 [] [.int (if p2 < p0 then (-6) else 0)] K I L (z_q0 K Q) := by
      exact z_iret dX12_outside_19 rfl ⟨rfl, h⟩
    refine z_icmp_le 18 dX12_outside_10 (by decide) (fun g2 => ?_) (fun g2 => ?_)
    · refine z_iconst 0 dX12_outside_18 (by decide) ?_
      have ee : ((if p2 < p0 then (-6) else 0) : Int32) = 0 := by rw [if_neg g2]
      rw [ee] at key3
      clear ee
      refine z_sub [] rfl ?_
      exact key3
    · refine z_bipush (-6) dX12_outside_13 (by decide) ?_
      refine z_goto 19 dX12_outside_15 (by decide) ?_
      have ee : ((if p2 < p0 then (-6) else 0) : Int32) = (-6) := by rw [if_pos g2]
      rw [ee] at key3
      clear ee
      refine z_sub [] rfl ?_
      exact key3
  · rw [if_pos g1] at h
    refine z_bipush (-4) dX12_outside_5 (by decide) ?_
    exact z_iret dX12_outside_7 rfl ⟨rfl, h⟩
theorem dX12_bothOutside_0 : decode cX12_bothOutside 0 = .ok (.iload_n 0, 1) := by decide +kernel
theorem dX12_bothOutside_1 : decode cX12_bothOutside 1 = .ok (.iload_n 1, 1) := by decide +kernel
theorem dX12_bothOutside_2 : decode cX12_bothOutside 2 = .ok (.invokestatic 297, 3) := by decide +kernel
theorem dX12_bothOutside_5 : decode cX12_bothOutside 5 = .ok (.iload_n 2, 1) := by decide +kernel
theorem dX12_bothOutside_6 : decode cX12_bothOutside 6 = .ok (.if_icmp .ge 6, 3) := by decide +kernel
theorem dX12_bothOutside_9 : decode cX12_bothOutside 9 = .ok (.bipush (-4), 2) := by decide +kernel
theorem dX12_bothOutside_11 : decode cX12_bothOutside 11 = .ok (.ireturn, 1) := by decide +kernel
theorem dX12_bothOutside_12 : decode cX12_bothOutside 12 = .ok (.iload_n 0, 1) := by decide +kernel
theorem dX12_bothOutside_13 : decode cX12_bothOutside 13 = .ok (.iload_n 1, 1) := by decide +kernel
theorem dX12_bothOutside_14 : decode cX12_bothOutside 14 = .ok (.invokestatic 302, 3) := by decide +kernel
theorem dX12_bothOutside_17 : decode cX12_bothOutside 17 = .ok (.iload_n 3, 1) := by decide +kernel
theorem dX12_bothOutside_18 : decode cX12_bothOutside 18 = .ok (.if_icmp .le 8, 3) := by decide +kernel
theorem dX12_bothOutside_21 : decode cX12_bothOutside 21 = .ok (.bipush (-6), 2) := by decide +kernel
theorem dX12_bothOutside_23 : decode cX12_bothOutside 23 = .ok (.goto 4, 3) := by decide +kernel
theorem dX12_bothOutside_26 : decode cX12_bothOutside 26 = .ok (.iconst 0, 1) := by decide +kernel
theorem dX12_bothOutside_27 : decode cX12_bothOutside 27 = .ok (.ireturn, 1) := by decide +kernel
set_option maxRecDepth 100000 in
set_option maxHeartbeats 4000000 in
theorem wp_X12_bothOutside {n0 d : Nat} {K : z_K} {I : z_I} {L : z_L} {Q : z_q} {p0 : Int32} {p1 : Int32} {p2 : Int32} {p3 : Int32} (hL : CLay K) (h : (if ((if p1 < p0 then p1 else p0) : Int32) < p2 then Q (some (.int (-4))) I L else Q (some (.int (if p3 < ((if p0 < p1 then p1 else p0) : Int32) then (-6) else 0))) I L)) : RM0 n0 xX12_bothOutside (d + 1) [.int p0, .int p1, .int p2, .int p3] K I L Q := by
  refine z_entry0 (by decide) (Nat.le_of_ble_eq_true rfl) ?_
  change Z n0 xX12_bothOutside (d + 1) 0 0 0 [(0, .int p0), (1, .int p1), (2, .int p2), (3, .int p3)] [] K I L (z_q0 K Q)
  refine z_iload_n 0 dX12_bothOutside_0 rfl ?_
  refine z_iload_n 1 dX12_bothOutside_1 rfl ?_
  refine z_mmin dX12_bothOutside_2 wg_796 (by omega) (Nat.le_of_ble_eq_true rfl) ?_
  refine z_iload_n 2 dX12_bothOutside_5 rfl ?_
  refine z_icmp_ge 12 dX12_bothOutside_6 (by decide) (fun g1 => ?_) (fun g1 => ?_)
  · rw [if_neg g1] at h
    refine z_iload_n 0 dX12_bothOutside_12 rfl ?_
    refine z_iload_n 1 dX12_bothOutside_13 rfl ?_
    refine z_mmax dX12_bothOutside_14 wg_797 (by omega) (Nat.le_of_ble_eq_true rfl) ?_
    refine z_iload_n 3 dX12_bothOutside_17 rfl ?_
    have key3 : Z n0 xX12_bothOutside (d + 1) 0 0 27 [] [.int (if p3 < ((if p0 < p1 then p1 else p0) : Int32) then (-6) else 0)] K I L (z_q0 K Q) := by
      exact z_iret dX12_bothOutside_27 rfl ⟨rfl, h⟩
    refine z_icmp_le 26 dX12_bothOutside_18 (by decide) (fun g2 => ?_) (fun g2 => ?_)
    · refine z_iconst 0 dX12_bothOutside_26 (by decide) ?_
      have ee : ((if p3 < ((if p0 < p1 then p1 else p0) : Int32) then (-6) else 0) : Int32) = 0 := by rw [if_neg g2]
      rw [ee] at key3
      clear ee
      refine z_sub [] rfl ?_
      exact key3
    · refine z_bipush (-6) dX12_bothOutside_21 (by decide) ?_
      refine z_goto 27 dX12_bothOutside_23 (by decide) ?_
      have ee : ((if p3 < ((if p0 < p1 then p1 else p0) : Int32) then (-6) else 0) : Int32) = (-6) := by rw [if_pos g2]
      rw [ee] at key3
      clear ee
      refine z_sub [] rfl ?_
      exact key3
  · rw [if_pos g1] at h
    refine z_bipush (-4) dX12_bothOutside_9 (by decide) ?_
    exact z_iret dX12_bothOutside_11 rfl ⟨rfl, h⟩
theorem dX12_isMeasure_0 : decode cX12_isMeasure 0 = .ok (.iload_n 0, 1) := by decide +kernel
theorem dX12_isMeasure_1 : decode cX12_isMeasure 1 = .ok (.ifCond .lt 13, 3) := by decide +kernel
theorem dX12_isMeasure_4 : decode cX12_isMeasure 4 = .ok (.iload_n 0, 1) := by decide +kernel
theorem dX12_isMeasure_5 : decode cX12_isMeasure 5 = .ok (.bipush 8, 2) := by decide +kernel
theorem dX12_isMeasure_7 : decode cX12_isMeasure 7 = .ok (.if_icmp .ge 7, 3) := by decide +kernel
theorem dX12_isMeasure_10 : decode cX12_isMeasure 10 = .ok (.iconst 1, 1) := by decide +kernel
theorem dX12_isMeasure_11 : decode cX12_isMeasure 11 = .ok (.goto 4, 3) := by decide +kernel
theorem dX12_isMeasure_14 : decode cX12_isMeasure 14 = .ok (.iconst 0, 1) := by decide +kernel
theorem dX12_isMeasure_15 : decode cX12_isMeasure 15 = .ok (.ireturn, 1) := by decide +kernel
set_option maxRecDepth 100000 in
set_option maxHeartbeats 4000000 in
theorem wp_X12_isMeasure {n0 d : Nat} {K : z_K} {I : z_I} {L : z_L} {Q : z_q} {p0 : Int32} (hL : CLay K) (h : Q (some (.int (if p0 < 0 then 0 else if p0 < 8 then 1 else 0))) I L) : RM0 n0 xX12_isMeasure d [.int p0] K I L Q := by
  refine z_entry0 (by decide) (Nat.le_of_ble_eq_true rfl) ?_
  change Z n0 xX12_isMeasure d 0 0 0 [(0, .int p0)] [] K I L (z_q0 K Q)
  refine z_iload_n 0 dX12_isMeasure_0 rfl ?_
  have key3 : Z n0 xX12_isMeasure d 0 0 15 [] [.int (if p0 < 0 then 0 else if p0 < 8 then 1 else 0)] K I L (z_q0 K Q) := by
    exact z_zretb dX12_isMeasure_15 rfl (z_bite (by repeat' (first | exact Or.inl rfl | exact Or.inr rfl | split))) ⟨rfl, h⟩
  refine z_if_lt 14 dX12_isMeasure_1 (by decide) (fun g1 => ?_) (fun g1 => ?_)
  · refine z_iconst 0 dX12_isMeasure_14 (by decide) ?_
    have ee : ((if p0 < 0 then 0 else if p0 < 8 then 1 else 0) : Int32) = 0 := by rw [if_pos g1]
    rw [ee] at key3
    clear ee
    refine z_sub [] rfl ?_
    exact key3
  · refine z_iload_n 0 dX12_isMeasure_4 rfl ?_
    refine z_bipush 8 dX12_isMeasure_5 (by decide) ?_
    refine z_icmp_ge 14 dX12_isMeasure_7 (by decide) (fun g2 => ?_) (fun g2 => ?_)
    · refine z_iconst 0 dX12_isMeasure_14 (by decide) ?_
      have ee : ((if p0 < 0 then 0 else if p0 < 8 then 1 else 0) : Int32) = 0 := by rw [if_neg g1, if_neg g2]
      rw [ee] at key3
      clear ee
      refine z_sub [] rfl ?_
      exact key3
    · refine z_iconst 1 dX12_isMeasure_10 (by decide) ?_
      refine z_goto 15 dX12_isMeasure_11 (by decide) ?_
      have ee : ((if p0 < 0 then 0 else if p0 < 8 then 1 else 0) : Int32) = 1 := by rw [if_neg g1, if_pos g2]
      rw [ee] at key3
      clear ee
      refine z_sub [] rfl ?_
      exact key3
theorem dX12_isSize_0 : decode cX12_isSize 0 = .ok (.iload_n 0, 1) := by decide +kernel
theorem dX12_isSize_1 : decode cX12_isSize 1 = .ok (.ifCond .lt 13, 3) := by decide +kernel
theorem dX12_isSize_4 : decode cX12_isSize 4 = .ok (.iload_n 0, 1) := by decide +kernel
theorem dX12_isSize_5 : decode cX12_isSize 5 = .ok (.bipush 11, 2) := by decide +kernel
theorem dX12_isSize_7 : decode cX12_isSize 7 = .ok (.if_icmp .ge 7, 3) := by decide +kernel
theorem dX12_isSize_10 : decode cX12_isSize 10 = .ok (.iconst 1, 1) := by decide +kernel
theorem dX12_isSize_11 : decode cX12_isSize 11 = .ok (.goto 4, 3) := by decide +kernel
theorem dX12_isSize_14 : decode cX12_isSize 14 = .ok (.iconst 0, 1) := by decide +kernel
theorem dX12_isSize_15 : decode cX12_isSize 15 = .ok (.ireturn, 1) := by decide +kernel
set_option maxRecDepth 100000 in
set_option maxHeartbeats 4000000 in
theorem wp_X12_isSize {n0 d : Nat} {K : z_K} {I : z_I} {L : z_L} {Q : z_q} {p0 : Int32} (hL : CLay K) (h : Q (some (.int (if p0 < 0 then 0 else if p0 < 11 then 1 else 0))) I L) : RM0 n0 xX12_isSize d [.int p0] K I L Q := by
  refine z_entry0 (by decide) (Nat.le_of_ble_eq_true rfl) ?_
  change Z n0 xX12_isSize d 0 0 0 [(0, .int p0)] [] K I L (z_q0 K Q)
  refine z_iload_n 0 dX12_isSize_0 rfl ?_
  have key3 : Z n0 xX12_isSize d 0 0 15 [] [.int (if p0 < 0 then 0 else if p0 < 11 then 1 else 0)] K I L (z_q0 K Q) := by
    exact z_zretb dX12_isSize_15 rfl (z_bite (by repeat' (first | exact Or.inl rfl | exact Or.inr rfl | split))) ⟨rfl, h⟩
  refine z_if_lt 14 dX12_isSize_1 (by decide) (fun g1 => ?_) (fun g1 => ?_)
  · refine z_iconst 0 dX12_isSize_14 (by decide) ?_
    have ee : ((if p0 < 0 then 0 else if p0 < 11 then 1 else 0) : Int32) = 0 := by rw [if_pos g1]
    rw [ee] at key3
    clear ee
    refine z_sub [] rfl ?_
    exact key3
  · refine z_iload_n 0 dX12_isSize_4 rfl ?_
    refine z_bipush 11 dX12_isSize_5 (by decide) ?_
    refine z_icmp_ge 14 dX12_isSize_7 (by decide) (fun g2 => ?_) (fun g2 => ?_)
    · refine z_iconst 0 dX12_isSize_14 (by decide) ?_
      have ee : ((if p0 < 0 then 0 else if p0 < 11 then 1 else 0) : Int32) = 0 := by rw [if_neg g1, if_neg g2]
      rw [ee] at key3
      clear ee
      refine z_sub [] rfl ?_
      exact key3
    · refine z_iconst 1 dX12_isSize_10 (by decide) ?_
      refine z_goto 15 dX12_isSize_11 (by decide) ?_
      have ee : ((if p0 < 0 then 0 else if p0 < 11 then 1 else 0) : Int32) = 1 := by rw [if_neg g1, if_pos g2]
      rw [ee] at key3
      clear ee
      refine z_sub [] rfl ?_
      exact key3
theorem dX12_isAxis_0 : decode cX12_isAxis 0 = .ok (.iload_n 0, 1) := by decide +kernel
theorem dX12_isAxis_1 : decode cX12_isAxis 1 = .ok (.ifCond .eq 8, 3) := by decide +kernel
theorem dX12_isAxis_4 : decode cX12_isAxis 4 = .ok (.iload_n 0, 1) := by decide +kernel
theorem dX12_isAxis_5 : decode cX12_isAxis 5 = .ok (.iconst 1, 1) := by decide +kernel
theorem dX12_isAxis_6 : decode cX12_isAxis 6 = .ok (.if_icmp .ne 7, 3) := by decide +kernel
theorem dX12_isAxis_9 : decode cX12_isAxis 9 = .ok (.iconst 1, 1) := by decide +kernel
theorem dX12_isAxis_10 : decode cX12_isAxis 10 = .ok (.goto 4, 3) := by decide +kernel
theorem dX12_isAxis_13 : decode cX12_isAxis 13 = .ok (.iconst 0, 1) := by decide +kernel
theorem dX12_isAxis_14 : decode cX12_isAxis 14 = .ok (.ireturn, 1) := by decide +kernel
set_option maxRecDepth 100000 in
set_option maxHeartbeats 4000000 in
theorem wp_X12_isAxis {n0 d : Nat} {K : z_K} {I : z_I} {L : z_L} {Q : z_q} {p0 : Int32} (hL : CLay K) (h : Q (some (.int (if p0 = 0 then 1 else if p0 = 1 then 1 else 0))) I L) : RM0 n0 xX12_isAxis d [.int p0] K I L Q := by
  refine z_entry0 (by decide) (Nat.le_of_ble_eq_true rfl) ?_
  change Z n0 xX12_isAxis d 0 0 0 [(0, .int p0)] [] K I L (z_q0 K Q)
  refine z_iload_n 0 dX12_isAxis_0 rfl ?_
  have key3 : Z n0 xX12_isAxis d 0 0 14 [] [.int (if p0 = 0 then 1 else if p0 = 1 then 1 else 0)] K I L (z_q0 K Q) := by
    exact z_zretb dX12_isAxis_14 rfl (z_bite (by repeat' (first | exact Or.inl rfl | exact Or.inr rfl | split))) ⟨rfl, h⟩
  refine z_if_eq 9 dX12_isAxis_1 (by decide) (fun g1 => ?_) (fun g1 => ?_)
  · refine z_iconst 1 dX12_isAxis_9 (by decide) ?_
    refine z_goto 14 dX12_isAxis_10 (by decide) ?_
    have ee : ((if p0 = 0 then 1 else if p0 = 1 then 1 else 0) : Int32) = 1 := by rw [if_pos g1]
    rw [ee] at key3
    clear ee
    refine z_sub [] rfl ?_
    exact key3
  · refine z_iload_n 0 dX12_isAxis_4 rfl ?_
    refine z_iconst 1 dX12_isAxis_5 (by decide) ?_
    refine z_icmp_ne 13 dX12_isAxis_6 (by decide) (fun g2 => ?_) (fun g2 => ?_)
    · refine z_iconst 0 dX12_isAxis_13 (by decide) ?_
      have ee : ((if p0 = 0 then 1 else if p0 = 1 then 1 else 0) : Int32) = 0 := by rw [if_neg g1, if_neg g2]
      rw [ee] at key3
      clear ee
      refine z_sub [] rfl ?_
      exact key3
    · refine z_iconst 1 dX12_isAxis_9 (by decide) ?_
      refine z_goto 14 dX12_isAxis_10 (by decide) ?_
      have ee : ((if p0 = 0 then 1 else if p0 = 1 then 1 else 0) : Int32) = 1 := by rw [if_neg g1, if_pos g2]
      rw [ee] at key3
      clear ee
      refine z_sub [] rfl ?_
      exact key3
theorem dX12_bodyOf_0 : decode cX12_bodyOf 0 = .ok (.iload_n 1, 1) := by decide +kernel
theorem dX12_bodyOf_1 : decode cX12_bodyOf 1 = .ok (.ifCond .lt 20, 3) := by decide +kernel
theorem dX12_bodyOf_4 : decode cX12_bodyOf 4 = .ok (.iload_n 1, 1) := by decide +kernel
theorem dX12_bodyOf_5 : decode cX12_bodyOf 5 = .ok (.aload_n 0, 1) := by decide +kernel
theorem dX12_bodyOf_6 : decode cX12_bodyOf 6 = .ok (.getfield 116, 3) := by decide +kernel
theorem dX12_bodyOf_9 : decode cX12_bodyOf 9 = .ok (.if_icmp .ge 12, 3) := by decide +kernel
theorem dX12_bodyOf_12 : decode cX12_bodyOf 12 = .ok (.aload_n 0, 1) := by decide +kernel
theorem dX12_bodyOf_13 : decode cX12_bodyOf 13 = .ok (.getfield 21, 3) := by decide +kernel
theorem dX12_bodyOf_16 : decode cX12_bodyOf 16 = .ok (.iload_n 1, 1) := by decide +kernel
theorem dX12_bodyOf_17 : decode cX12_bodyOf 17 = .ok (.aaload, 1) := by decide +kernel
theorem dX12_bodyOf_18 : decode cX12_bodyOf 18 = .ok (.goto 4, 3) := by decide +kernel
theorem dX12_bodyOf_21 : decode cX12_bodyOf 21 = .ok (.aconst_null, 1) := by decide +kernel
theorem dX12_bodyOf_22 : decode cX12_bodyOf 22 = .ok (.areturn, 1) := by decide +kernel
set_option maxRecDepth 100000 in
set_option maxHeartbeats 4000000 in
theorem wp_X12_bodyOf {n0 d : Nat} {K : z_K} {I : z_I} {L : z_L} {Q : z_q} {p0 : Int32} (hL : CLay K) (h : (if p0 < 0 then Q (some (.null)) I L else (if p0 < (I 0 4) then vp_in p0 12 ∧ (∃ q4, K.2.2 3 p0.toNatClampNeg = some q4 ∧ Q (some (.ref (n0 + q4))) I L) else Q (some (.null)) I L))) : RM0 n0 xX12_bodyOf d [.ref (n0 + 0), .int p0] K I L Q := by
  refine z_entry0 (by decide) (Nat.le_of_ble_eq_true rfl) ?_
  change Z n0 xX12_bodyOf d 0 0 0 [(0, .ref (n0 + 0)), (1, .int p0)] [] K I L (z_q0 K Q)
  refine z_iload_n 1 dX12_bodyOf_0 rfl ?_
  refine z_if_lt 21 dX12_bodyOf_1 (by decide) (fun g1 => ?_) (fun g1 => ?_)
  · rw [if_pos g1] at h
    refine z_null dX12_bodyOf_21 ?_
    exact z_aret (o := none) dX12_bodyOf_22 rfl (Or.inl ⟨_, rfl⟩) ⟨rfl, h⟩
  · rw [if_neg g1] at h
    refine z_iload_n 1 dX12_bodyOf_4 rfl ?_
    refine z_aload_n 0 dX12_bodyOf_5 rfl ?_
    refine fg_12_116 (I 0 4) rfl dX12_bodyOf_6 (co_0 hL).1 (co_0 hL).2 rfl ?_
    refine z_icmp_ge 21 dX12_bodyOf_9 (by decide) (fun g2 => ?_) (fun g2 => ?_)
    · rw [if_neg g2] at h
      refine z_null dX12_bodyOf_21 ?_
      exact z_aret (o := none) dX12_bodyOf_22 rfl (Or.inl ⟨_, rfl⟩) ⟨rfl, h⟩
    · rw [if_pos g2] at h
      refine z_aload_n 0 dX12_bodyOf_12 rfl ?_
      refine fg_12_21 (some 3) rfl dX12_bodyOf_13 (co_0 hL).1 (co_0 hL).2 (ca_3 hL).1 ?_
      refine z_iload_n 1 dX12_bodyOf_16 rfl ?_
      obtain ⟨o3, h⟩ := h
      obtain ⟨q4, q4e, h⟩ := h
      refine z_aald (some q4) dX12_bodyOf_17 (ca_3 hL).2.1 (ca_3 hL).2.2 (by unfold z_rt; decide) o3 q4e ?_
      refine z_goto 22 dX12_bodyOf_18 (by decide) ?_
      exact z_aret (o := (some q4)) dX12_bodyOf_22 rfl (Or.inl ⟨_, rfl⟩) ⟨rfl, h⟩
theorem dX12_pieceOf_0 : decode cX12_pieceOf 0 = .ok (.iload_n 1, 1) := by decide +kernel
theorem dX12_pieceOf_1 : decode cX12_pieceOf 1 = .ok (.ifCond .lt 20, 3) := by decide +kernel
theorem dX12_pieceOf_4 : decode cX12_pieceOf 4 = .ok (.iload_n 1, 1) := by decide +kernel
theorem dX12_pieceOf_5 : decode cX12_pieceOf 5 = .ok (.aload_n 0, 1) := by decide +kernel
theorem dX12_pieceOf_6 : decode cX12_pieceOf 6 = .ok (.getfield 144, 3) := by decide +kernel
theorem dX12_pieceOf_9 : decode cX12_pieceOf 9 = .ok (.if_icmp .ge 12, 3) := by decide +kernel
theorem dX12_pieceOf_12 : decode cX12_pieceOf 12 = .ok (.aload_n 0, 1) := by decide +kernel
theorem dX12_pieceOf_13 : decode cX12_pieceOf 13 = .ok (.getfield 27, 3) := by decide +kernel
theorem dX12_pieceOf_16 : decode cX12_pieceOf 16 = .ok (.iload_n 1, 1) := by decide +kernel
theorem dX12_pieceOf_17 : decode cX12_pieceOf 17 = .ok (.aaload, 1) := by decide +kernel
theorem dX12_pieceOf_18 : decode cX12_pieceOf 18 = .ok (.goto 4, 3) := by decide +kernel
theorem dX12_pieceOf_21 : decode cX12_pieceOf 21 = .ok (.aconst_null, 1) := by decide +kernel
theorem dX12_pieceOf_22 : decode cX12_pieceOf 22 = .ok (.areturn, 1) := by decide +kernel
set_option maxRecDepth 100000 in
set_option maxHeartbeats 4000000 in
theorem wp_X12_pieceOf {n0 d : Nat} {K : z_K} {I : z_I} {L : z_L} {Q : z_q} {p0 : Int32} (hL : CLay K) (h : (if p0 < 0 then Q (some (.null)) I L else (if p0 < (I 0 8) then vp_in p0 16 ∧ (∃ q4, K.2.2 4 p0.toNatClampNeg = some q4 ∧ Q (some (.ref (n0 + q4))) I L) else Q (some (.null)) I L))) : RM0 n0 xX12_pieceOf d [.ref (n0 + 0), .int p0] K I L Q := by
  refine z_entry0 (by decide) (Nat.le_of_ble_eq_true rfl) ?_
  change Z n0 xX12_pieceOf d 0 0 0 [(0, .ref (n0 + 0)), (1, .int p0)] [] K I L (z_q0 K Q)
  refine z_iload_n 1 dX12_pieceOf_0 rfl ?_
  refine z_if_lt 21 dX12_pieceOf_1 (by decide) (fun g1 => ?_) (fun g1 => ?_)
  · rw [if_pos g1] at h
    refine z_null dX12_pieceOf_21 ?_
    exact z_aret (o := none) dX12_pieceOf_22 rfl (Or.inl ⟨_, rfl⟩) ⟨rfl, h⟩
  · rw [if_neg g1] at h
    refine z_iload_n 1 dX12_pieceOf_4 rfl ?_
    refine z_aload_n 0 dX12_pieceOf_5 rfl ?_
    refine fg_12_144 (I 0 8) rfl dX12_pieceOf_6 (co_0 hL).1 (co_0 hL).2 rfl ?_
    refine z_icmp_ge 21 dX12_pieceOf_9 (by decide) (fun g2 => ?_) (fun g2 => ?_)
    · rw [if_neg g2] at h
      refine z_null dX12_pieceOf_21 ?_
      exact z_aret (o := none) dX12_pieceOf_22 rfl (Or.inl ⟨_, rfl⟩) ⟨rfl, h⟩
    · rw [if_pos g2] at h
      refine z_aload_n 0 dX12_pieceOf_12 rfl ?_
      refine fg_12_27 (some 4) rfl dX12_pieceOf_13 (co_0 hL).1 (co_0 hL).2 (ca_4 hL).1 ?_
      refine z_iload_n 1 dX12_pieceOf_16 rfl ?_
      obtain ⟨o3, h⟩ := h
      obtain ⟨q4, q4e, h⟩ := h
      refine z_aald (some q4) dX12_pieceOf_17 (ca_4 hL).2.1 (ca_4 hL).2.2 (by unfold z_rt; decide) o3 q4e ?_
      refine z_goto 22 dX12_pieceOf_18 (by decide) ?_
      exact z_aret (o := (some q4)) dX12_pieceOf_22 rfl (Or.inl ⟨_, rfl⟩) ⟨rfl, h⟩
theorem dX12_pieceWith_0 : decode cX12_pieceWith 0 = .ok (.aload_n 0, 1) := by decide +kernel
theorem dX12_pieceWith_1 : decode cX12_pieceWith 1 = .ok (.iload_n 1, 1) := by decide +kernel
theorem dX12_pieceWith_2 : decode cX12_pieceWith 2 = .ok (.invokevirtual 136, 3) := by decide +kernel
theorem dX12_pieceWith_5 : decode cX12_pieceWith 5 = .ok (.astore_n 3, 1) := by decide +kernel
theorem dX12_pieceWith_6 : decode cX12_pieceWith 6 = .ok (.aload_n 3, 1) := by decide +kernel
theorem dX12_pieceWith_7 : decode cX12_pieceWith 7 = .ok (.ifnull 15, 3) := by decide +kernel
theorem dX12_pieceWith_10 : decode cX12_pieceWith 10 = .ok (.aload_n 3, 1) := by decide +kernel
theorem dX12_pieceWith_11 : decode cX12_pieceWith 11 = .ok (.iload_n 2, 1) := by decide +kernel
theorem dX12_pieceWith_12 : decode cX12_pieceWith 12 = .ok (.invokevirtual 246, 3) := by decide +kernel
theorem dX12_pieceWith_15 : decode cX12_pieceWith 15 = .ok (.ifCond .eq 7, 3) := by decide +kernel
theorem dX12_pieceWith_18 : decode cX12_pieceWith 18 = .ok (.aload_n 3, 1) := by decide +kernel
theorem dX12_pieceWith_19 : decode cX12_pieceWith 19 = .ok (.goto 4, 3) := by decide +kernel
theorem dX12_pieceWith_22 : decode cX12_pieceWith 22 = .ok (.aconst_null, 1) := by decide +kernel
theorem dX12_pieceWith_23 : decode cX12_pieceWith 23 = .ok (.areturn, 1) := by decide +kernel
set_option maxRecDepth 100000 in
set_option maxHeartbeats 4000000 in
theorem wp_X12_pieceWith {n0 d : Nat} {K : z_K} {I : z_I} {L : z_L} {Q : z_q} {p0 : Int32} {p1 : Int32} (hL : CLay K) (h : RM0 n0 xX12_pieceOf d [.ref (n0 + 0), .int p0] K I L (fun vv I1 L2 => ∃ r3 : Option Nat, vv = some (zr n0 r3) ∧ ((r3 = none → Q (some (.null)) I1 L2) ∧ (∀ q5, r3 = some q5 → q5 < K.1 ∧ (K.2.1 q5).1 = 5 ∧ RM0 n0 xX5_has d [.ref (n0 + q5), .int p1] K I1 L2 (fun vv I8 L9 => ∃ r10 : Int32, vv = some (.int r10) ∧ (if r10 = 0 then Q (some (.null)) I8 L9 else Q (some (.ref (n0 + q5))) I8 L9)))))) : RM0 n0 xX12_pieceWith (d + 1) [.ref (n0 + 0), .int p0, .int p1] K I L Q := by
  refine z_entry0 (by decide) (Nat.le_of_ble_eq_true rfl) ?_
  change Z n0 xX12_pieceWith (d + 1) 0 0 0 [(0, .ref (n0 + 0)), (1, .int p0), (2, .int p1)] [] K I L (z_q0 K Q)
  refine z_aload_n 0 dX12_pieceWith_0 rfl ?_
  refine z_iload_n 1 dX12_pieceWith_1 rfl ?_
  refine z_callV0 (As := [.int p0]) (st := []) dX12_pieceWith_2 hy_X12_pieceOf (co_0 hL).1 (co_0 hL).2 (by decide) wg_572 wg_574 wg_5 (Nat.le_refl _) (Nat.le_of_ble_eq_true rfl) (RM0.mono h ?_)
  clear h
  intro vv I1 L2 h
  obtain ⟨r3, rfl, h⟩ := h
  change Z n0 xX12_pieceWith (d + 1) 0 0 5 [(0, .ref (n0 + 0)), (1, .int p0), (2, .int p1)] [zr n0 r3] K I1 L2 (z_q0 K Q)
  refine z_astore_nO [1, 2, 3, 0] [(0, .ref (n0 + 0)), (1, .int p0), (2, .int p1), (3, zr n0 r3)] dX12_pieceWith_5 (by decide) (fun v hv => by subst hv; rfl) ?_
  refine z_aload_nO 3 dX12_pieceWith_6 rfl ?_
  refine z_ifnull 22 dX12_pieceWith_7 (by decide) (fun g4 => ?_) (fun q5 g4 => ?_)
  · replace h := h.1 g4
    subst g4
    change Z n0 xX12_pieceWith (d + 1) 0 0 22 [(0, .ref (n0 + 0)), (1, .int p0), (2, .int p1), (3, .null)] [] K I1 L2 (z_q0 K Q)
    refine z_null dX12_pieceWith_22 ?_
    exact z_aret (o := none) dX12_pieceWith_23 rfl (Or.inl ⟨_, rfl⟩) ⟨rfl, h⟩
  · replace h := h.2 q5 g4
    subst g4
    change Z n0 xX12_pieceWith (d + 1) 0 0 10 [(0, .ref (n0 + 0)), (1, .int p0), (2, .int p1), (3, .ref (n0 + q5))] [] K I1 L2 (z_q0 K Q)
    refine z_aload_n 3 dX12_pieceWith_10 rfl ?_
    refine z_iload_n 2 dX12_pieceWith_11 rfl ?_
    obtain ⟨o6, o7, h⟩ := h
    refine z_callV0 (As := [.int p1]) (st := []) dX12_pieceWith_12 hy_X5_has o6 o7 (by decide) wg_659 wg_660 wg_661 (Nat.le_refl _) (Nat.le_of_ble_eq_true rfl) (RM0.mono h ?_)
    clear h
    intro vv I8 L9 h
    obtain ⟨r10, rfl, h⟩ := h
    change Z n0 xX12_pieceWith (d + 1) 0 0 15 [(0, .ref (n0 + 0)), (1, .int p0), (2, .int p1), (3, .ref (n0 + q5))] [.int r10] K I8 L9 (z_q0 K Q)
    refine z_if_eq 22 dX12_pieceWith_15 (by decide) (fun g11 => ?_) (fun g11 => ?_)
    · rw [if_pos g11] at h
      refine z_null dX12_pieceWith_22 ?_
      exact z_aret (o := none) dX12_pieceWith_23 rfl (Or.inl ⟨_, rfl⟩) ⟨rfl, h⟩
    · rw [if_neg g11] at h
      refine z_aload_n 3 dX12_pieceWith_18 rfl ?_
      refine z_goto 23 dX12_pieceWith_19 (by decide) ?_
      exact z_aret (o := (some q5)) dX12_pieceWith_23 rfl (Or.inl ⟨_, rfl⟩) ⟨rfl, h⟩
theorem dX12_seamOf_0 : decode cX12_seamOf 0 = .ok (.iload_n 1, 1) := by decide +kernel
theorem dX12_seamOf_1 : decode cX12_seamOf 1 = .ok (.ifCond .lt 20, 3) := by decide +kernel
theorem dX12_seamOf_4 : decode cX12_seamOf 4 = .ok (.iload_n 1, 1) := by decide +kernel
theorem dX12_seamOf_5 : decode cX12_seamOf 5 = .ok (.aload_n 0, 1) := by decide +kernel
theorem dX12_seamOf_6 : decode cX12_seamOf 6 = .ok (.getfield 256, 3) := by decide +kernel
theorem dX12_seamOf_9 : decode cX12_seamOf 9 = .ok (.if_icmp .ge 12, 3) := by decide +kernel
theorem dX12_seamOf_12 : decode cX12_seamOf 12 = .ok (.aload_n 0, 1) := by decide +kernel
theorem dX12_seamOf_13 : decode cX12_seamOf 13 = .ok (.getfield 47, 3) := by decide +kernel
theorem dX12_seamOf_16 : decode cX12_seamOf 16 = .ok (.iload_n 1, 1) := by decide +kernel
theorem dX12_seamOf_17 : decode cX12_seamOf 17 = .ok (.aaload, 1) := by decide +kernel
theorem dX12_seamOf_18 : decode cX12_seamOf 18 = .ok (.goto 4, 3) := by decide +kernel
theorem dX12_seamOf_21 : decode cX12_seamOf 21 = .ok (.aconst_null, 1) := by decide +kernel
theorem dX12_seamOf_22 : decode cX12_seamOf 22 = .ok (.areturn, 1) := by decide +kernel
set_option maxRecDepth 100000 in
set_option maxHeartbeats 4000000 in
theorem wp_X12_seamOf {n0 d : Nat} {K : z_K} {I : z_I} {L : z_L} {Q : z_q} {p0 : Int32} (hL : CLay K) (h : (if p0 < 0 then Q (some (.null)) I L else (if p0 < (I 0 13) then vp_in p0 20 ∧ (∃ q4, K.2.2 21 p0.toNatClampNeg = some q4 ∧ Q (some (.ref (n0 + q4))) I L) else Q (some (.null)) I L))) : RM0 n0 xX12_seamOf d [.ref (n0 + 0), .int p0] K I L Q := by
  refine z_entry0 (by decide) (Nat.le_of_ble_eq_true rfl) ?_
  change Z n0 xX12_seamOf d 0 0 0 [(0, .ref (n0 + 0)), (1, .int p0)] [] K I L (z_q0 K Q)
  refine z_iload_n 1 dX12_seamOf_0 rfl ?_
  refine z_if_lt 21 dX12_seamOf_1 (by decide) (fun g1 => ?_) (fun g1 => ?_)
  · rw [if_pos g1] at h
    refine z_null dX12_seamOf_21 ?_
    exact z_aret (o := none) dX12_seamOf_22 rfl (Or.inl ⟨_, rfl⟩) ⟨rfl, h⟩
  · rw [if_neg g1] at h
    refine z_iload_n 1 dX12_seamOf_4 rfl ?_
    refine z_aload_n 0 dX12_seamOf_5 rfl ?_
    refine fg_12_256 (I 0 13) rfl dX12_seamOf_6 (co_0 hL).1 (co_0 hL).2 rfl ?_
    refine z_icmp_ge 21 dX12_seamOf_9 (by decide) (fun g2 => ?_) (fun g2 => ?_)
    · rw [if_neg g2] at h
      refine z_null dX12_seamOf_21 ?_
      exact z_aret (o := none) dX12_seamOf_22 rfl (Or.inl ⟨_, rfl⟩) ⟨rfl, h⟩
    · rw [if_pos g2] at h
      refine z_aload_n 0 dX12_seamOf_12 rfl ?_
      refine fg_12_47 (some 21) rfl dX12_seamOf_13 (co_0 hL).1 (co_0 hL).2 (ca_21 hL).1 ?_
      refine z_iload_n 1 dX12_seamOf_16 rfl ?_
      obtain ⟨o3, h⟩ := h
      obtain ⟨q4, q4e, h⟩ := h
      refine z_aald (some q4) dX12_seamOf_17 (ca_21 hL).2.1 (ca_21 hL).2.2 (by unfold z_rt; decide) o3 q4e ?_
      refine z_goto 22 dX12_seamOf_18 (by decide) ?_
      exact z_aret (o := (some q4)) dX12_seamOf_22 rfl (Or.inl ⟨_, rfl⟩) ⟨rfl, h⟩
theorem dX12_editionOf_0 : decode cX12_editionOf 0 = .ok (.iload_n 1, 1) := by decide +kernel
theorem dX12_editionOf_1 : decode cX12_editionOf 1 = .ok (.ifCond .lt 20, 3) := by decide +kernel
theorem dX12_editionOf_4 : decode cX12_editionOf 4 = .ok (.iload_n 1, 1) := by decide +kernel
theorem dX12_editionOf_5 : decode cX12_editionOf 5 = .ok (.aload_n 0, 1) := by decide +kernel
theorem dX12_editionOf_6 : decode cX12_editionOf 6 = .ok (.getfield 385, 3) := by decide +kernel
theorem dX12_editionOf_9 : decode cX12_editionOf 9 = .ok (.if_icmp .ge 12, 3) := by decide +kernel
theorem dX12_editionOf_12 : decode cX12_editionOf 12 = .ok (.aload_n 0, 1) := by decide +kernel
theorem dX12_editionOf_13 : decode cX12_editionOf 13 = .ok (.getfield 74, 3) := by decide +kernel
theorem dX12_editionOf_16 : decode cX12_editionOf 16 = .ok (.iload_n 1, 1) := by decide +kernel
theorem dX12_editionOf_17 : decode cX12_editionOf 17 = .ok (.aaload, 1) := by decide +kernel
theorem dX12_editionOf_18 : decode cX12_editionOf 18 = .ok (.goto 4, 3) := by decide +kernel
theorem dX12_editionOf_21 : decode cX12_editionOf 21 = .ok (.aconst_null, 1) := by decide +kernel
theorem dX12_editionOf_22 : decode cX12_editionOf 22 = .ok (.areturn, 1) := by decide +kernel
set_option maxRecDepth 100000 in
set_option maxHeartbeats 4000000 in
theorem wp_X12_editionOf {n0 d : Nat} {K : z_K} {I : z_I} {L : z_L} {Q : z_q} {p0 : Int32} (hL : CLay K) (h : (if p0 < 0 then Q (some (.null)) I L else (if p0 < (I 0 18) then vp_in p0 12 ∧ (∃ q4, K.2.2 51 p0.toNatClampNeg = some q4 ∧ Q (some (.ref (n0 + q4))) I L) else Q (some (.null)) I L))) : RM0 n0 xX12_editionOf d [.ref (n0 + 0), .int p0] K I L Q := by
  refine z_entry0 (by decide) (Nat.le_of_ble_eq_true rfl) ?_
  change Z n0 xX12_editionOf d 0 0 0 [(0, .ref (n0 + 0)), (1, .int p0)] [] K I L (z_q0 K Q)
  refine z_iload_n 1 dX12_editionOf_0 rfl ?_
  refine z_if_lt 21 dX12_editionOf_1 (by decide) (fun g1 => ?_) (fun g1 => ?_)
  · rw [if_pos g1] at h
    refine z_null dX12_editionOf_21 ?_
    exact z_aret (o := none) dX12_editionOf_22 rfl (Or.inl ⟨_, rfl⟩) ⟨rfl, h⟩
  · rw [if_neg g1] at h
    refine z_iload_n 1 dX12_editionOf_4 rfl ?_
    refine z_aload_n 0 dX12_editionOf_5 rfl ?_
    refine fg_12_385 (I 0 18) rfl dX12_editionOf_6 (co_0 hL).1 (co_0 hL).2 rfl ?_
    refine z_icmp_ge 21 dX12_editionOf_9 (by decide) (fun g2 => ?_) (fun g2 => ?_)
    · rw [if_neg g2] at h
      refine z_null dX12_editionOf_21 ?_
      exact z_aret (o := none) dX12_editionOf_22 rfl (Or.inl ⟨_, rfl⟩) ⟨rfl, h⟩
    · rw [if_pos g2] at h
      refine z_aload_n 0 dX12_editionOf_12 rfl ?_
      refine fg_12_74 (some 51) rfl dX12_editionOf_13 (co_0 hL).1 (co_0 hL).2 (ca_51 hL).1 ?_
      refine z_iload_n 1 dX12_editionOf_16 rfl ?_
      obtain ⟨o3, h⟩ := h
      obtain ⟨q4, q4e, h⟩ := h
      refine z_aald (some q4) dX12_editionOf_17 (ca_51 hL).2.1 (ca_51 hL).2.2 (by unfold z_rt; decide) o3 q4e ?_
      refine z_goto 22 dX12_editionOf_18 (by decide) ?_
      exact z_aret (o := (some q4)) dX12_editionOf_22 rfl (Or.inl ⟨_, rfl⟩) ⟨rfl, h⟩
theorem dX12_trialKey_0 : decode cX12_trialKey 0 = .ok (.iload_n 0, 1) := by decide +kernel
theorem dX12_trialKey_1 : decode cX12_trialKey 1 = .ok (.bipush 10, 2) := by decide +kernel
theorem dX12_trialKey_3 : decode cX12_trialKey 3 = .ok (.imul, 1) := by decide +kernel
theorem dX12_trialKey_4 : decode cX12_trialKey 4 = .ok (.iload_n 1, 1) := by decide +kernel
theorem dX12_trialKey_5 : decode cX12_trialKey 5 = .ok (.iadd, 1) := by decide +kernel
theorem dX12_trialKey_6 : decode cX12_trialKey 6 = .ok (.bipush 10, 2) := by decide +kernel
theorem dX12_trialKey_8 : decode cX12_trialKey 8 = .ok (.imul, 1) := by decide +kernel
theorem dX12_trialKey_9 : decode cX12_trialKey 9 = .ok (.iload_n 2, 1) := by decide +kernel
theorem dX12_trialKey_10 : decode cX12_trialKey 10 = .ok (.iadd, 1) := by decide +kernel
theorem dX12_trialKey_11 : decode cX12_trialKey 11 = .ok (.ireturn, 1) := by decide +kernel
set_option maxRecDepth 100000 in
set_option maxHeartbeats 4000000 in
theorem wp_X12_trialKey {n0 d : Nat} {K : z_K} {I : z_I} {L : z_L} {Q : z_q} {p0 : Int32} {p1 : Int32} {p2 : Int32} (hL : CLay K) (h : Q (some (.int ((((p0 * 10) + p1) * 10) + p2))) I L) : RM0 n0 xX12_trialKey d [.int p0, .int p1, .int p2] K I L Q := by
  refine z_entry0 (by decide) (Nat.le_of_ble_eq_true rfl) ?_
  change Z n0 xX12_trialKey d 0 0 0 [(0, .int p0), (1, .int p1), (2, .int p2)] [] K I L (z_q0 K Q)
  refine z_iload_n 0 dX12_trialKey_0 rfl ?_
  refine z_bipush 10 dX12_trialKey_1 (by decide) ?_
  refine z_imul dX12_trialKey_3 ?_
  refine z_iload_n 1 dX12_trialKey_4 rfl ?_
  refine z_iadd dX12_trialKey_5 ?_
  refine z_bipush 10 dX12_trialKey_6 (by decide) ?_
  refine z_imul dX12_trialKey_8 ?_
  refine z_iload_n 2 dX12_trialKey_9 rfl ?_
  refine z_iadd dX12_trialKey_10 ?_
  exact z_iret dX12_trialKey_11 rfl ⟨rfl, h⟩
theorem dX12_numberOn_0 : decode cX12_numberOn 0 = .ok (.aload_n 0, 1) := by decide +kernel
theorem dX12_numberOn_1 : decode cX12_numberOn 1 = .ok (.getfield 15, 3) := by decide +kernel
theorem dX12_numberOn_4 : decode cX12_numberOn 4 = .ok (.iload_n 1, 1) := by decide +kernel
theorem dX12_numberOn_5 : decode cX12_numberOn 5 = .ok (.bipush 11, 2) := by decide +kernel
theorem dX12_numberOn_7 : decode cX12_numberOn 7 = .ok (.imul, 1) := by decide +kernel
theorem dX12_numberOn_8 : decode cX12_numberOn 8 = .ok (.iload_n 2, 1) := by decide +kernel
theorem dX12_numberOn_9 : decode cX12_numberOn 9 = .ok (.iadd, 1) := by decide +kernel
theorem dX12_numberOn_10 : decode cX12_numberOn 10 = .ok (.aaload, 1) := by decide +kernel
theorem dX12_numberOn_11 : decode cX12_numberOn 11 = .ok (.astore 4, 2) := by decide +kernel
theorem dX12_numberOn_13 : decode cX12_numberOn 13 = .ok (.aload 4, 2) := by decide +kernel
theorem dX12_numberOn_15 : decode cX12_numberOn 15 = .ok (.ifnull 28, 3) := by decide +kernel
theorem dX12_numberOn_18 : decode cX12_numberOn 18 = .ok (.aload 4, 2) := by decide +kernel
theorem dX12_numberOn_20 : decode cX12_numberOn 20 = .ok (.getfield 107, 3) := by decide +kernel
theorem dX12_numberOn_23 : decode cX12_numberOn 23 = .ok (.iload_n 3, 1) := by decide +kernel
theorem dX12_numberOn_24 : decode cX12_numberOn 24 = .ok (.if_icmp .gt 9, 3) := by decide +kernel
theorem dX12_numberOn_27 : decode cX12_numberOn 27 = .ok (.aload 4, 2) := by decide +kernel
theorem dX12_numberOn_29 : decode cX12_numberOn 29 = .ok (.getfield 110, 3) := by decide +kernel
theorem dX12_numberOn_32 : decode cX12_numberOn 32 = .ok (.ireturn, 1) := by decide +kernel
theorem dX12_numberOn_33 : decode cX12_numberOn 33 = .ok (.aload 4, 2) := by decide +kernel
theorem dX12_numberOn_35 : decode cX12_numberOn 35 = .ok (.getfield 430, 3) := by decide +kernel
theorem dX12_numberOn_38 : decode cX12_numberOn 38 = .ok (.astore 4, 2) := by decide +kernel
theorem dX12_numberOn_40 : decode cX12_numberOn 40 = .ok (.goto (-27), 3) := by decide +kernel
theorem dX12_numberOn_43 : decode cX12_numberOn 43 = .ok (.iconst 0, 1) := by decide +kernel
theorem dX12_numberOn_44 : decode cX12_numberOn 44 = .ok (.ireturn, 1) := by decide +kernel
set_option maxRecDepth 100000 in
set_option maxHeartbeats 4000000 in
theorem wp_X12_numberOn {n0 d : Nat} {K : z_K} {I : z_I} {L : z_L} {Q : z_q} {p0 : Int32} {p1 : Int32} {p2 : Int32} (hL : CLay K) (h : vp_in ((p0 * 11) + p1) 88 ∧ (∀ o2, K.2.2 2 (((p0 * 11) + p1).toNatClampNeg) = o2 → Z n0 xX12_numberOn d 0 0 13 [(3, .int p2), (4, zr n0 o2)] [] K I L (z_q0 K Q))) : RM0 n0 xX12_numberOn d [.ref (n0 + 0), .int p0, .int p1, .int p2] K I L Q := by
  refine z_entry0 (by decide) (Nat.le_of_ble_eq_true rfl) ?_
  change Z n0 xX12_numberOn d 0 0 0 [(0, .ref (n0 + 0)), (1, .int p0), (2, .int p1), (3, .int p2)] [] K I L (z_q0 K Q)
  refine z_aload_n 0 dX12_numberOn_0 rfl ?_
  refine fg_12_15 (some 2) rfl dX12_numberOn_1 (co_0 hL).1 (co_0 hL).2 (ca_2 hL).1 ?_
  refine z_iload_n 1 dX12_numberOn_4 rfl ?_
  refine z_bipush 11 dX12_numberOn_5 (by decide) ?_
  refine z_imul dX12_numberOn_7 ?_
  refine z_iload_n 2 dX12_numberOn_8 rfl ?_
  refine z_iadd dX12_numberOn_9 ?_
  obtain ⟨o1, h⟩ := h
  obtain ⟨o2, o2e⟩ : ∃ o, K.2.2 2 (((p0 * 11) + p1).toNatClampNeg) = o := ⟨_, rfl⟩
  replace h := h o2 o2e
  refine z_aald o2 dX12_numberOn_10 (ca_2 hL).2.1 (ca_2 hL).2.2 (by unfold z_rt; decide) o1 o2e ?_
  refine z_astoreO [1, 2, 3, 4, 0] [(0, .ref (n0 + 0)), (1, .int p0), (2, .int p1), (3, .int p2), (4, zr n0 o2)] dX12_numberOn_11 (by decide) (fun v hv => by subst hv; rfl) ?_
  refine z_sub [3, 4] rfl ?_
  exact h
set_option maxRecDepth 100000 in
set_option maxHeartbeats 4000000 in
theorem wp_X12_numberOn_13 {n0 d : Nat} {rc rs : Nat} {K : z_K} {I : z_I} {L : z_L} {Q : z_q} {a3 : Int32} {a4 : Option Nat} (hL : CLay K) (h : ((a4 = none → Q (some (.int 0)) I L) ∧ (∀ q2, a4 = some q2 → q2 < K.1 ∧ (K.2.1 q2).1 = 11 ∧ (if a3 < ((I q2 0) : Int32) then (∀ o6, K.2.2 q2 2 = o6 → Z n0 xX12_numberOn d rc rs 13 [(3, .int a3), (4, zr n0 o6)] [] K I L (z_q0 K Q)) else Q (some (.int (I q2 1))) I L)))) : Z n0 xX12_numberOn d rc rs 13 [(3, .int a3), (4, zr n0 a4)] [] K I L (z_q0 K Q) := by
  refine z_aloadO 1 dX12_numberOn_13 rfl ?_
  refine z_ifnull 43 dX12_numberOn_15 (by decide) (fun g1 => ?_) (fun q2 g1 => ?_)
  · replace h := h.1 g1
    subst g1
    change Z n0 xX12_numberOn d rc rs 43 [(3, .int a3), (4, .null)] [] K I L (z_q0 K Q)
    refine z_iconst 0 dX12_numberOn_43 (by decide) ?_
    exact z_iret dX12_numberOn_44 rfl ⟨rfl, h⟩
  · replace h := h.2 q2 g1
    subst g1
    change Z n0 xX12_numberOn d rc rs 18 [(3, .int a3), (4, .ref (n0 + q2))] [] K I L (z_q0 K Q)
    refine z_aload 1 dX12_numberOn_18 rfl ?_
    obtain ⟨o3, o4, h⟩ := h
    refine fg_12_107 (I q2 0) rfl dX12_numberOn_20 o3 o4 rfl ?_
    refine z_iload_n 0 dX12_numberOn_23 rfl ?_
    refine z_icmp_gt 33 dX12_numberOn_24 (by decide) (fun g5 => ?_) (fun g5 => ?_)
    · rw [if_pos g5] at h
      refine z_aload 1 dX12_numberOn_33 rfl ?_
      obtain ⟨o6, o6e⟩ : ∃ o, K.2.2 q2 2 = o := ⟨_, rfl⟩
      replace h := h o6 o6e
      refine fg_12_430 o6 rfl dX12_numberOn_35 o3 o4 o6e ?_
      refine z_astoreO [1, 0] [(3, .int a3), (4, zr n0 o6)] dX12_numberOn_38 (by decide) (fun v hv => by subst hv; rfl) ?_
      refine z_goto 13 dX12_numberOn_40 (by decide) ?_
      exact h
    · rw [if_neg g5] at h
      refine z_aload 1 dX12_numberOn_27 rfl ?_
      refine fg_12_110 (I q2 1) rfl dX12_numberOn_29 o3 o4 rfl ?_
      exact z_iret dX12_numberOn_32 rfl ⟨rfl, h⟩
theorem dX12_countsNow_0 : decode cX12_countsNow 0 = .ok (.aload_n 1, 1) := by decide +kernel
theorem dX12_countsNow_1 : decode cX12_countsNow 1 = .ok (.getfield 129, 3) := by decide +kernel
theorem dX12_countsNow_4 : decode cX12_countsNow 4 = .ok (.iload_n 2, 1) := by decide +kernel
theorem dX12_countsNow_5 : decode cX12_countsNow 5 = .ok (.iaload, 1) := by decide +kernel
theorem dX12_countsNow_6 : decode cX12_countsNow 6 = .ok (.istore_n 3, 1) := by decide +kernel
theorem dX12_countsNow_7 : decode cX12_countsNow 7 = .ok (.iload_n 3, 1) := by decide +kernel
theorem dX12_countsNow_8 : decode cX12_countsNow 8 = .ok (.iconst (-1), 1) := by decide +kernel
theorem dX12_countsNow_9 : decode cX12_countsNow 9 = .ok (.if_icmp .eq 7, 3) := by decide +kernel
theorem dX12_countsNow_12 : decode cX12_countsNow 12 = .ok (.iload_n 3, 1) := by decide +kernel
theorem dX12_countsNow_13 : decode cX12_countsNow 13 = .ok (.goto 16, 3) := by decide +kernel
theorem dX12_countsNow_16 : decode cX12_countsNow 16 = .ok (.aload_n 0, 1) := by decide +kernel
theorem dX12_countsNow_17 : decode cX12_countsNow 17 = .ok (.iload_n 2, 1) := by decide +kernel
theorem dX12_countsNow_18 : decode cX12_countsNow 18 = .ok (.aload_n 1, 1) := by decide +kernel
theorem dX12_countsNow_19 : decode cX12_countsNow 19 = .ok (.getfield 434, 3) := by decide +kernel
theorem dX12_countsNow_22 : decode cX12_countsNow 22 = .ok (.aload_n 0, 1) := by decide +kernel
theorem dX12_countsNow_23 : decode cX12_countsNow 23 = .ok (.getfield 89, 3) := by decide +kernel
theorem dX12_countsNow_26 : decode cX12_countsNow 26 = .ok (.invokevirtual 104, 3) := by decide +kernel
theorem dX12_countsNow_29 : decode cX12_countsNow 29 = .ok (.ireturn, 1) := by decide +kernel
set_option maxRecDepth 100000 in
set_option maxHeartbeats 4000000 in
theorem wp_X12_countsNow {n0 d : Nat} {K : z_K} {I : z_I} {L : z_L} {Q : z_q} {p0 : Nat} {p1 : Int32} (hL : CLay K) (h : p0 < K.1 ∧ (K.2.1 p0).1 = 0 ∧ (∃ q3, K.2.2 p0 1 = some q3 ∧ ∃ n4, q3 < K.1 ∧ K.2.1 q3 = (20, n4) ∧ vp_in p1 n4 ∧ (if ((I q3 p1.toNatClampNeg) : Int32) = (-1) then RM0 n0 xX12_numberOn d [.ref (n0 + 0), .int p1, .int (I p0 0), .int (I 0 0)] K I L (fun vv I9 L10 => ∃ r11 : Int32, vv = some (.int r11) ∧ Q (some (.int r11)) I9 L10) else Q (some (.int (I q3 p1.toNatClampNeg))) I L))) : RM0 n0 xX12_countsNow (d + 1) [.ref (n0 + 0), .ref (n0 + p0), .int p1] K I L Q := by
  refine z_entry0 (by decide) (Nat.le_of_ble_eq_true rfl) ?_
  change Z n0 xX12_countsNow (d + 1) 0 0 0 [(0, .ref (n0 + 0)), (1, .ref (n0 + p0)), (2, .int p1)] [] K I L (z_q0 K Q)
  refine z_aload_n 1 dX12_countsNow_0 rfl ?_
  obtain ⟨o1, o2, h⟩ := h
  obtain ⟨q3, q3e, h⟩ := h
  refine fg_12_129 (some q3) rfl dX12_countsNow_1 o1 o2 q3e ?_
  refine z_iload_n 2 dX12_countsNow_4 rfl ?_
  obtain ⟨n4, o5, o6, o7, h⟩ := h
  refine z_iald (I q3 p1.toNatClampNeg) dX12_countsNow_5 o5 o6 o7 rfl ?_
  refine z_istore_n [1, 2, 3, 0] [(0, .ref (n0 + 0)), (1, .ref (n0 + p0)), (2, .int p1), (3, .int (I q3 p1.toNatClampNeg))] dX12_countsNow_6 (by decide) rfl ?_
  refine z_iload_n 3 dX12_countsNow_7 rfl ?_
  refine z_iconst (-1) dX12_countsNow_8 (by decide) ?_
  refine z_icmp_eq 16 dX12_countsNow_9 (by decide) (fun g8 => ?_) (fun g8 => ?_)
  · rw [if_pos g8] at h
    refine z_aload_n 0 dX12_countsNow_16 rfl ?_
    refine z_iload_n 2 dX12_countsNow_17 rfl ?_
    refine z_aload_n 1 dX12_countsNow_18 rfl ?_
    refine fg_12_434 (I p0 0) rfl dX12_countsNow_19 o1 o2 rfl ?_
    refine z_aload_n 0 dX12_countsNow_22 rfl ?_
    refine fg_12_89 (I 0 0) rfl dX12_countsNow_23 (co_0 hL).1 (co_0 hL).2 rfl ?_
    refine z_callV0 (As := [.int p1, .int (I p0 0), .int (I 0 0)]) (st := []) dX12_countsNow_26 hy_X12_numberOn (co_0 hL).1 (co_0 hL).2 (by decide) wg_479 wg_481 wg_1 (Nat.le_refl _) (Nat.le_of_ble_eq_true rfl) (RM0.mono h ?_)
    clear h
    intro vv I9 L10 h
    obtain ⟨r11, rfl, h⟩ := h
    change Z n0 xX12_countsNow (d + 1) 0 0 29 [(0, .ref (n0 + 0)), (1, .ref (n0 + p0)), (2, .int p1), (3, .int (I q3 p1.toNatClampNeg))] [.int r11] K I9 L10 (z_q0 K Q)
    exact z_iret dX12_countsNow_29 rfl ⟨rfl, h⟩
  · rw [if_neg g8] at h
    refine z_iload_n 3 dX12_countsNow_12 rfl ?_
    refine z_goto 29 dX12_countsNow_13 (by decide) ?_
    exact z_iret dX12_countsNow_29 rfl ⟨rfl, h⟩
theorem dX12_drawAt_0 : decode cX12_drawAt 0 = .ok (.aload_n 0, 1) := by decide +kernel
theorem dX12_drawAt_1 : decode cX12_drawAt 1 = .ok (.getfield 41, 3) := by decide +kernel
theorem dX12_drawAt_4 : decode cX12_drawAt 4 = .ok (.iload_n 1, 1) := by decide +kernel
theorem dX12_drawAt_5 : decode cX12_drawAt 5 = .ok (.iload_n 2, 1) := by decide +kernel
theorem dX12_drawAt_6 : decode cX12_drawAt 6 = .ok (.aconst_null, 1) := by decide +kernel
theorem dX12_drawAt_7 : decode cX12_drawAt 7 = .ok (.invokevirtual 435, 3) := by decide +kernel
theorem dX12_drawAt_10 : decode cX12_drawAt 10 = .ok (.iconst 0, 1) := by decide +kernel
theorem dX12_drawAt_11 : decode cX12_drawAt 11 = .ok (.istore_n 3, 1) := by decide +kernel
theorem dX12_drawAt_12 : decode cX12_drawAt 12 = .ok (.iload_n 3, 1) := by decide +kernel
theorem dX12_drawAt_13 : decode cX12_drawAt 13 = .ok (.bipush 8, 2) := by decide +kernel
theorem dX12_drawAt_15 : decode cX12_drawAt 15 = .ok (.if_icmp .ge 25, 3) := by decide +kernel
theorem dX12_drawAt_18 : decode cX12_drawAt 18 = .ok (.aload_n 0, 1) := by decide +kernel
theorem dX12_drawAt_19 : decode cX12_drawAt 19 = .ok (.getfield 41, 3) := by decide +kernel
theorem dX12_drawAt_22 : decode cX12_drawAt 22 = .ok (.getfield 439, 3) := by decide +kernel
theorem dX12_drawAt_25 : decode cX12_drawAt 25 = .ok (.iload_n 3, 1) := by decide +kernel
theorem dX12_drawAt_26 : decode cX12_drawAt 26 = .ok (.aload_n 0, 1) := by decide +kernel
theorem dX12_drawAt_27 : decode cX12_drawAt 27 = .ok (.iload_n 3, 1) := by decide +kernel
theorem dX12_drawAt_28 : decode cX12_drawAt 28 = .ok (.iload_n 1, 1) := by decide +kernel
theorem dX12_drawAt_29 : decode cX12_drawAt 29 = .ok (.iload_n 2, 1) := by decide +kernel
theorem dX12_drawAt_30 : decode cX12_drawAt 30 = .ok (.invokevirtual 104, 3) := by decide +kernel
theorem dX12_drawAt_33 : decode cX12_drawAt 33 = .ok (.iastore, 1) := by decide +kernel
theorem dX12_drawAt_34 : decode cX12_drawAt 34 = .ok (.iinc 3 1, 3) := by decide +kernel
theorem dX12_drawAt_37 : decode cX12_drawAt 37 = .ok (.goto (-25), 3) := by decide +kernel
theorem dX12_drawAt_40 : decode cX12_drawAt 40 = .ok (.return_, 1) := by decide +kernel
set_option maxRecDepth 100000 in
set_option maxHeartbeats 4000000 in
theorem wp_X12_drawAt {n0 d : Nat} {K : z_K} {I : z_I} {L : z_L} {Q : z_R} {p0 : Int32} {p1 : Int32} (hL : CLay K) (h : RM n0 xX2_begin d 0 0 [.ref (n0 + 8), .int p0, .int p1, .null] K I L (fun vv K3 I1 L2 => vv = none ∧ CLay K3 ∧ Z n0 xX12_drawAt (d + 1) 0 0 12 [(0, .ref (n0 + 0)), (1, .int p0), (2, .int p1), (3, .int 0)] [] K3 I1 L2 Q)) : RM n0 xX12_drawAt (d + 1) 0 0 [.ref (n0 + 0), .int p0, .int p1] K I L Q := by
  refine z_entry (by decide) (Nat.le_of_ble_eq_true rfl) ?_
  change Z n0 xX12_drawAt (d + 1) 0 0 0 [(0, .ref (n0 + 0)), (1, .int p0), (2, .int p1)] [] K I L Q
  refine z_aload_n 0 dX12_drawAt_0 rfl ?_
  refine fg_12_41 (some 8) rfl dX12_drawAt_1 (co_0 hL).1 (co_0 hL).2 (cp_8 hL) ?_
  refine z_iload_n 1 dX12_drawAt_4 rfl ?_
  refine z_iload_n 2 dX12_drawAt_5 rfl ?_
  refine z_null dX12_drawAt_6 ?_
  refine z_callV (rc := 0) (rs := 0) (mc1 := 0) (ms1 := 0) (As := [.int p0, .int p1, .null]) (st := []) dX12_drawAt_7 hy_X2_begin (co_8 hL).1 (co_8 hL).2 (by decide) wg_835 wg_836 wg_837 (Nat.le_refl _) (Nat.le_of_ble_eq_true rfl) (RM.mono h ?_)
  clear h
  intro vv K3 I1 L2 h
  obtain ⟨rfl, h⟩ := h
  obtain ⟨hL4, h⟩ := h
  change Z n0 xX12_drawAt (d + 1) 0 0 10 [(0, .ref (n0 + 0)), (1, .int p0), (2, .int p1)] [] K3 I1 L2 Q
  refine z_iconst 0 dX12_drawAt_10 (by decide) ?_
  refine z_istore_n [1, 2, 3, 0] [(0, .ref (n0 + 0)), (1, .int p0), (2, .int p1), (3, .int 0)] dX12_drawAt_11 (by decide) rfl ?_
  exact h
set_option maxRecDepth 100000 in
set_option maxHeartbeats 4000000 in
theorem wp_X12_drawAt_12 {n0 d : Nat} {rc rs : Nat} {K : z_K} {I : z_I} {L : z_L} {Q : z_R} {a1 : Int32} {a2 : Int32} {a3 : Int32} (hL : CLay K) (h : (if a3 < 8 then RM0 n0 xX12_numberOn d [.ref (n0 + 0), .int a3, .int a1, .int a2] K I L (fun vv I2 L3 => ∃ r4 : Int32, vv = some (.int r4) ∧ vp_in a3 8 ∧ Z n0 xX12_drawAt (d + 1) rc rs 12 [(0, .ref (n0 + 0)), (1, .int a1), (2, .int a2), (3, .int (a3 + 1))] [] K (zI I2 9 a3.toNatClampNeg r4) L3 Q) else Q none K I L)) : Z n0 xX12_drawAt (d + 1) rc rs 12 [(0, .ref (n0 + 0)), (1, .int a1), (2, .int a2), (3, .int a3)] [] K I L Q := by
  refine z_iload_n 3 dX12_drawAt_12 rfl ?_
  refine z_bipush 8 dX12_drawAt_13 (by decide) ?_
  refine z_icmp_ge 40 dX12_drawAt_15 (by decide) (fun g1 => ?_) (fun g1 => ?_)
  · rw [if_neg g1] at h
    exact z_vret dX12_drawAt_40 rfl h
  · rw [if_pos g1] at h
    refine z_aload_n 0 dX12_drawAt_18 rfl ?_
    refine fg_12_41 (some 8) rfl dX12_drawAt_19 (co_0 hL).1 (co_0 hL).2 (cp_8 hL) ?_
    refine fg_12_439 (some 9) rfl dX12_drawAt_22 (co_8 hL).1 (co_8 hL).2 (ca_9 hL).1 ?_
    refine z_iload_n 3 dX12_drawAt_25 rfl ?_
    refine z_aload_n 0 dX12_drawAt_26 rfl ?_
    refine z_iload_n 3 dX12_drawAt_27 rfl ?_
    refine z_iload_n 1 dX12_drawAt_28 rfl ?_
    refine z_iload_n 2 dX12_drawAt_29 rfl ?_
    refine z_callV0 (As := [.int a3, .int a1, .int a2]) (st := [.int a3, .ref (n0 + 9)]) dX12_drawAt_30 hy_X12_numberOn (co_0 hL).1 (co_0 hL).2 (by decide) wg_479 wg_481 wg_1 (Nat.le_refl _) (Nat.le_of_ble_eq_true rfl) (RM0.mono h ?_)
    clear h
    intro vv I2 L3 h
    obtain ⟨r4, rfl, h⟩ := h
    change Z n0 xX12_drawAt (d + 1) rc rs 33 [(0, .ref (n0 + 0)), (1, .int a1), (2, .int a2), (3, .int a3)] [.int r4, .int a3, .ref (n0 + 9)] K I2 L3 Q
    obtain ⟨o5, h⟩ := h
    refine z_iast dX12_drawAt_33 (ca_9 hL).2.1 (ca_9 hL).2.2 o5 ?_
    refine z_iinc (j := 3) (a3 + 1) [1, 2, 3, 0] [(0, .ref (n0 + 0)), (1, .int a1), (2, .int a2), (3, .int (a3 + 1))] dX12_drawAt_34 rfl rfl (by decide) rfl ?_
    refine z_goto 12 dX12_drawAt_37 (by decide) ?_
    exact h
theorem dX12_drawFor_0 : decode cX12_drawFor 0 = .ok (.aload_n 0, 1) := by decide +kernel
theorem dX12_drawFor_1 : decode cX12_drawFor 1 = .ok (.getfield 41, 3) := by decide +kernel
theorem dX12_drawFor_4 : decode cX12_drawFor 4 = .ok (.aload_n 1, 1) := by decide +kernel
theorem dX12_drawFor_5 : decode cX12_drawFor 5 = .ok (.getfield 434, 3) := by decide +kernel
theorem dX12_drawFor_8 : decode cX12_drawFor 8 = .ok (.aload_n 0, 1) := by decide +kernel
theorem dX12_drawFor_9 : decode cX12_drawFor 9 = .ok (.getfield 89, 3) := by decide +kernel
theorem dX12_drawFor_12 : decode cX12_drawFor 12 = .ok (.aload_n 1, 1) := by decide +kernel
theorem dX12_drawFor_13 : decode cX12_drawFor 13 = .ok (.invokevirtual 435, 3) := by decide +kernel
theorem dX12_drawFor_16 : decode cX12_drawFor 16 = .ok (.iconst 0, 1) := by decide +kernel
theorem dX12_drawFor_17 : decode cX12_drawFor 17 = .ok (.istore_n 2, 1) := by decide +kernel
theorem dX12_drawFor_18 : decode cX12_drawFor 18 = .ok (.iload_n 2, 1) := by decide +kernel
theorem dX12_drawFor_19 : decode cX12_drawFor 19 = .ok (.bipush 8, 2) := by decide +kernel
theorem dX12_drawFor_21 : decode cX12_drawFor 21 = .ok (.if_icmp .ge 24, 3) := by decide +kernel
theorem dX12_drawFor_24 : decode cX12_drawFor 24 = .ok (.aload_n 0, 1) := by decide +kernel
theorem dX12_drawFor_25 : decode cX12_drawFor 25 = .ok (.getfield 41, 3) := by decide +kernel
theorem dX12_drawFor_28 : decode cX12_drawFor 28 = .ok (.getfield 439, 3) := by decide +kernel
theorem dX12_drawFor_31 : decode cX12_drawFor 31 = .ok (.iload_n 2, 1) := by decide +kernel
theorem dX12_drawFor_32 : decode cX12_drawFor 32 = .ok (.aload_n 0, 1) := by decide +kernel
theorem dX12_drawFor_33 : decode cX12_drawFor 33 = .ok (.aload_n 1, 1) := by decide +kernel
theorem dX12_drawFor_34 : decode cX12_drawFor 34 = .ok (.iload_n 2, 1) := by decide +kernel
theorem dX12_drawFor_35 : decode cX12_drawFor 35 = .ok (.invokevirtual 132, 3) := by decide +kernel
theorem dX12_drawFor_38 : decode cX12_drawFor 38 = .ok (.iastore, 1) := by decide +kernel
theorem dX12_drawFor_39 : decode cX12_drawFor 39 = .ok (.iinc 2 1, 3) := by decide +kernel
theorem dX12_drawFor_42 : decode cX12_drawFor 42 = .ok (.goto (-24), 3) := by decide +kernel
theorem dX12_drawFor_45 : decode cX12_drawFor 45 = .ok (.return_, 1) := by decide +kernel
set_option maxRecDepth 100000 in
set_option maxHeartbeats 4000000 in
theorem wp_X12_drawFor {n0 d : Nat} {K : z_K} {I : z_I} {L : z_L} {Q : z_R} {p0 : Nat} (hL : CLay K) (h : p0 < K.1 ∧ (K.2.1 p0).1 = 0 ∧ RM n0 xX2_begin d 0 0 [.ref (n0 + 8), .int (I p0 0), .int (I 0 0), .ref (n0 + p0)] K I L (fun vv K5 I3 L4 => vv = none ∧ CLay K5 ∧ Z n0 xX12_drawFor (d + 1) 0 0 18 [(0, .ref (n0 + 0)), (1, .ref (n0 + p0)), (2, .int 0)] [] K5 I3 L4 Q)) : RM n0 xX12_drawFor (d + 1) 0 0 [.ref (n0 + 0), .ref (n0 + p0)] K I L Q := by
  refine z_entry (by decide) (Nat.le_of_ble_eq_true rfl) ?_
  change Z n0 xX12_drawFor (d + 1) 0 0 0 [(0, .ref (n0 + 0)), (1, .ref (n0 + p0))] [] K I L Q
  refine z_aload_n 0 dX12_drawFor_0 rfl ?_
  refine fg_12_41 (some 8) rfl dX12_drawFor_1 (co_0 hL).1 (co_0 hL).2 (cp_8 hL) ?_
  refine z_aload_n 1 dX12_drawFor_4 rfl ?_
  obtain ⟨o1, o2, h⟩ := h
  refine fg_12_434 (I p0 0) rfl dX12_drawFor_5 o1 o2 rfl ?_
  refine z_aload_n 0 dX12_drawFor_8 rfl ?_
  refine fg_12_89 (I 0 0) rfl dX12_drawFor_9 (co_0 hL).1 (co_0 hL).2 rfl ?_
  refine z_aload_n 1 dX12_drawFor_12 rfl ?_
  refine z_callV (rc := 0) (rs := 0) (mc1 := 0) (ms1 := 0) (As := [.int (I p0 0), .int (I 0 0), .ref (n0 + p0)]) (st := []) dX12_drawFor_13 hy_X2_begin (co_8 hL).1 (co_8 hL).2 (by decide) wg_835 wg_836 wg_837 (Nat.le_refl _) (Nat.le_of_ble_eq_true rfl) (RM.mono h ?_)
  clear h
  intro vv K5 I3 L4 h
  obtain ⟨rfl, h⟩ := h
  obtain ⟨hL6, h⟩ := h
  change Z n0 xX12_drawFor (d + 1) 0 0 16 [(0, .ref (n0 + 0)), (1, .ref (n0 + p0))] [] K5 I3 L4 Q
  refine z_iconst 0 dX12_drawFor_16 (by decide) ?_
  refine z_istore_n [1, 2, 0] [(0, .ref (n0 + 0)), (1, .ref (n0 + p0)), (2, .int 0)] dX12_drawFor_17 (by decide) rfl ?_
  exact h
set_option maxRecDepth 100000 in
set_option maxHeartbeats 4000000 in
theorem wp_X12_drawFor_18 {n0 d : Nat} {rc rs : Nat} {K : z_K} {I : z_I} {L : z_L} {Q : z_R} {a1 : Nat} {a2 : Int32} (hL : CLay K) (h : (if a2 < 8 then RM0 n0 xX12_countsNow d [.ref (n0 + 0), .ref (n0 + a1), .int a2] K I L (fun vv I2 L3 => ∃ r4 : Int32, vv = some (.int r4) ∧ vp_in a2 8 ∧ Z n0 xX12_drawFor (d + 1) rc rs 18 [(0, .ref (n0 + 0)), (1, .ref (n0 + a1)), (2, .int (a2 + 1))] [] K (zI I2 9 a2.toNatClampNeg r4) L3 Q) else Q none K I L)) : Z n0 xX12_drawFor (d + 1) rc rs 18 [(0, .ref (n0 + 0)), (1, .ref (n0 + a1)), (2, .int a2)] [] K I L Q := by
  refine z_iload_n 2 dX12_drawFor_18 rfl ?_
  refine z_bipush 8 dX12_drawFor_19 (by decide) ?_
  refine z_icmp_ge 45 dX12_drawFor_21 (by decide) (fun g1 => ?_) (fun g1 => ?_)
  · rw [if_neg g1] at h
    exact z_vret dX12_drawFor_45 rfl h
  · rw [if_pos g1] at h
    refine z_aload_n 0 dX12_drawFor_24 rfl ?_
    refine fg_12_41 (some 8) rfl dX12_drawFor_25 (co_0 hL).1 (co_0 hL).2 (cp_8 hL) ?_
    refine fg_12_439 (some 9) rfl dX12_drawFor_28 (co_8 hL).1 (co_8 hL).2 (ca_9 hL).1 ?_
    refine z_iload_n 2 dX12_drawFor_31 rfl ?_
    refine z_aload_n 0 dX12_drawFor_32 rfl ?_
    refine z_aload_n 1 dX12_drawFor_33 rfl ?_
    refine z_iload_n 2 dX12_drawFor_34 rfl ?_
    refine z_callV0 (As := [.ref (n0 + a1), .int a2]) (st := [.int a2, .ref (n0 + 9)]) dX12_drawFor_35 hy_X12_countsNow (co_0 hL).1 (co_0 hL).2 (by decide) wg_564 wg_566 wg_4 (Nat.le_refl _) (Nat.le_of_ble_eq_true rfl) (RM0.mono h ?_)
    clear h
    intro vv I2 L3 h
    obtain ⟨r4, rfl, h⟩ := h
    change Z n0 xX12_drawFor (d + 1) rc rs 38 [(0, .ref (n0 + 0)), (1, .ref (n0 + a1)), (2, .int a2)] [.int r4, .int a2, .ref (n0 + 9)] K I2 L3 Q
    obtain ⟨o5, h⟩ := h
    refine z_iast dX12_drawFor_38 (ca_9 hL).2.1 (ca_9 hL).2.2 o5 ?_
    refine z_iinc (j := 2) (a2 + 1) [1, 2, 0] [(0, .ref (n0 + 0)), (1, .ref (n0 + a1)), (2, .int (a2 + 1))] dX12_drawFor_39 rfl rfl (by decide) rfl ?_
    refine z_goto 18 dX12_drawFor_42 (by decide) ?_
    exact h
theorem dX12_seamRefused_0 : decode cX12_seamRefused 0 = .ok (.aload_n 0, 1) := by decide +kernel
theorem dX12_seamRefused_1 : decode cX12_seamRefused 1 = .ok (.iload_n 1, 1) := by decide +kernel
theorem dX12_seamRefused_2 : decode cX12_seamRefused 2 = .ok (.invokevirtual 266, 3) := by decide +kernel
theorem dX12_seamRefused_5 : decode cX12_seamRefused 5 = .ok (.astore 4, 2) := by decide +kernel
theorem dX12_seamRefused_7 : decode cX12_seamRefused 7 = .ok (.aload 4, 2) := by decide +kernel
theorem dX12_seamRefused_9 : decode cX12_seamRefused 9 = .ok (.ifnull 10, 3) := by decide +kernel
theorem dX12_seamRefused_12 : decode cX12_seamRefused 12 = .ok (.iload_n 2, 1) := by decide +kernel
theorem dX12_seamRefused_13 : decode cX12_seamRefused 13 = .ok (.invokestatic 97, 3) := by decide +kernel
theorem dX12_seamRefused_16 : decode cX12_seamRefused 16 = .ok (.ifCond .ne 5, 3) := by decide +kernel
theorem dX12_seamRefused_19 : decode cX12_seamRefused 19 = .ok (.iconst (-1), 1) := by decide +kernel
theorem dX12_seamRefused_20 : decode cX12_seamRefused 20 = .ok (.ireturn, 1) := by decide +kernel
theorem dX12_seamRefused_21 : decode cX12_seamRefused 21 = .ok (.iload_n 3, 1) := by decide +kernel
theorem dX12_seamRefused_22 : decode cX12_seamRefused 22 = .ok (.iconst 0, 1) := by decide +kernel
theorem dX12_seamRefused_23 : decode cX12_seamRefused 23 = .ok (.sipush 1000, 3) := by decide +kernel
theorem dX12_seamRefused_26 : decode cX12_seamRefused 26 = .ok (.invokestatic 100, 3) := by decide +kernel
theorem dX12_seamRefused_29 : decode cX12_seamRefused 29 = .ok (.istore 5, 2) := by decide +kernel
theorem dX12_seamRefused_31 : decode cX12_seamRefused 31 = .ok (.iload 5, 2) := by decide +kernel
theorem dX12_seamRefused_33 : decode cX12_seamRefused 33 = .ok (.ifCond .eq 6, 3) := by decide +kernel
theorem dX12_seamRefused_36 : decode cX12_seamRefused 36 = .ok (.iload 5, 2) := by decide +kernel
theorem dX12_seamRefused_38 : decode cX12_seamRefused 38 = .ok (.ireturn, 1) := by decide +kernel
theorem dX12_seamRefused_39 : decode cX12_seamRefused 39 = .ok (.aload_n 0, 1) := by decide +kernel
theorem dX12_seamRefused_40 : decode cX12_seamRefused 40 = .ok (.iload_n 2, 1) := by decide +kernel
theorem dX12_seamRefused_41 : decode cX12_seamRefused 41 = .ok (.iload_n 3, 1) := by decide +kernel
theorem dX12_seamRefused_42 : decode cX12_seamRefused 42 = .ok (.invokevirtual 231, 3) := by decide +kernel
theorem dX12_seamRefused_45 : decode cX12_seamRefused 45 = .ok (.aload_n 0, 1) := by decide +kernel
theorem dX12_seamRefused_46 : decode cX12_seamRefused 46 = .ok (.aload 4, 2) := by decide +kernel
theorem dX12_seamRefused_48 : decode cX12_seamRefused 48 = .ok (.invokevirtual 442, 3) := by decide +kernel
theorem dX12_seamRefused_51 : decode cX12_seamRefused 51 = .ok (.ifCond .eq 7, 3) := by decide +kernel
theorem dX12_seamRefused_54 : decode cX12_seamRefused 54 = .ok (.iconst 0, 1) := by decide +kernel
theorem dX12_seamRefused_55 : decode cX12_seamRefused 55 = .ok (.goto 5, 3) := by decide +kernel
theorem dX12_seamRefused_58 : decode cX12_seamRefused 58 = .ok (.bipush (-7), 2) := by decide +kernel
theorem dX12_seamRefused_60 : decode cX12_seamRefused 60 = .ok (.ireturn, 1) := by decide +kernel
set_option maxRecDepth 100000 in
set_option maxHeartbeats 4000000 in
theorem wp_X12_seamRefused {n0 d : Nat} {K : z_K} {I : z_I} {L : z_L} {Q : z_R} {p0 : Int32} {p1 : Int32} {p2 : Int32} (hL : CLay K) (h : RM0 n0 xX12_seamOf d [.ref (n0 + 0), .int p0] K I L (fun vv I1 L2 => ∃ r3 : Option Nat, vv = some (zr n0 r3) ∧ ((r3 = none → Q (some (.int (-1))) K I1 L2) ∧ (∀ q5, r3 = some q5 → RM0 n0 xX12_isSize d [.int p1] K I1 L2 (fun vv I6 L7 => ∃ r8 : Int32, vv = some (.int r8) ∧ (if r8 = 0 then Q (some (.int (-1))) K I6 L7 else RM0 n0 xX12_outside d [.int p2, .int 0, .int 1000] K I6 L7 (fun vv I10 L11 => ∃ r12 : Int32, vv = some (.int r12) ∧ (if r12 = 0 then RM n0 xX12_drawAt d 0 0 [.ref (n0 + 0), .int p1, .int p2] K I10 L11 (fun vv K16 I14 L15 => vv = none ∧ CLay K16 ∧ RM n0 xX12_measureSides d 0 0 [.ref (n0 + 0), .ref (n0 + q5)] K16 I14 L15 (fun vv K20 I18 L19 => ∃ r21 : Int32, vv = some (.int r21) ∧ CLay K20 ∧ Q (some (.int (if r21 = 0 then (-7) else 0))) K20 I18 L19)) else Q (some (.int r12)) K I10 L11)))))))) : RM n0 xX12_seamRefused (d + 1) 0 0 [.ref (n0 + 0), .int p0, .int p1, .int p2] K I L Q := by
  refine z_entry (by decide) (Nat.le_of_ble_eq_true rfl) ?_
  change Z n0 xX12_seamRefused (d + 1) 0 0 0 [(0, .ref (n0 + 0)), (1, .int p0), (2, .int p1), (3, .int p2)] [] K I L Q
  refine z_aload_n 0 dX12_seamRefused_0 rfl ?_
  refine z_iload_n 1 dX12_seamRefused_1 rfl ?_
  refine z_callV0 (As := [.int p0]) (st := []) dX12_seamRefused_2 hy_X12_seamOf (co_0 hL).1 (co_0 hL).2 (by decide) wg_995 wg_997 wg_26 (Nat.le_refl _) (Nat.le_of_ble_eq_true rfl) (RM0.mono h ?_)
  clear h
  intro vv I1 L2 h
  obtain ⟨r3, rfl, h⟩ := h
  change Z n0 xX12_seamRefused (d + 1) 0 0 5 [(0, .ref (n0 + 0)), (1, .int p0), (2, .int p1), (3, .int p2)] [zr n0 r3] K I1 L2 Q
  refine z_astoreO [1, 2, 3, 4, 0] [(0, .ref (n0 + 0)), (1, .int p0), (2, .int p1), (3, .int p2), (4, zr n0 r3)] dX12_seamRefused_5 (by decide) (fun v hv => by subst hv; rfl) ?_
  refine z_aloadO 4 dX12_seamRefused_7 rfl ?_
  refine z_ifnull 19 dX12_seamRefused_9 (by decide) (fun g4 => ?_) (fun q5 g4 => ?_)
  · replace h := h.1 g4
    subst g4
    change Z n0 xX12_seamRefused (d + 1) 0 0 19 [(0, .ref (n0 + 0)), (1, .int p0), (2, .int p1), (3, .int p2), (4, .null)] [] K I1 L2 Q
    refine z_iconst (-1) dX12_seamRefused_19 (by decide) ?_
    exact z_iret dX12_seamRefused_20 rfl h
  · replace h := h.2 q5 g4
    subst g4
    change Z n0 xX12_seamRefused (d + 1) 0 0 12 [(0, .ref (n0 + 0)), (1, .int p0), (2, .int p1), (3, .int p2), (4, .ref (n0 + q5))] [] K I1 L2 Q
    refine z_iload_n 2 dX12_seamRefused_12 rfl ?_
    refine z_callS0 (As := [.int p1]) (st := []) dX12_seamRefused_13 hy_X12_isSize wg_473 wg_474 (Nat.le_refl _) (Nat.le_of_ble_eq_true rfl) (RM0.mono h ?_)
    clear h
    intro vv I6 L7 h
    obtain ⟨r8, rfl, h⟩ := h
    change Z n0 xX12_seamRefused (d + 1) 0 0 16 [(0, .ref (n0 + 0)), (1, .int p0), (2, .int p1), (3, .int p2), (4, .ref (n0 + q5))] [.int r8] K I6 L7 Q
    refine z_if_ne 21 dX12_seamRefused_16 (by decide) (fun g9 => ?_) (fun g9 => ?_)
    · rw [if_neg g9] at h
      refine z_iload_n 3 dX12_seamRefused_21 rfl ?_
      refine z_iconst 0 dX12_seamRefused_22 (by decide) ?_
      refine z_sipush 1000 dX12_seamRefused_23 (by decide) ?_
      refine z_callS0 (As := [.int p2, .int 0, .int 1000]) (st := []) dX12_seamRefused_26 hy_X12_outside wg_476 wg_477 (Nat.le_refl _) (Nat.le_of_ble_eq_true rfl) (RM0.mono h ?_)
      clear h
      intro vv I10 L11 h
      obtain ⟨r12, rfl, h⟩ := h
      change Z n0 xX12_seamRefused (d + 1) 0 0 29 [(0, .ref (n0 + 0)), (1, .int p0), (2, .int p1), (3, .int p2), (4, .ref (n0 + q5))] [.int r12] K I10 L11 Q
      refine z_istore [1, 2, 3, 4, 5, 0] [(0, .ref (n0 + 0)), (1, .int p0), (2, .int p1), (3, .int p2), (4, .ref (n0 + q5)), (5, .int r12)] dX12_seamRefused_29 (by decide) rfl ?_
      refine z_iload 5 dX12_seamRefused_31 rfl ?_
      refine z_if_eq 39 dX12_seamRefused_33 (by decide) (fun g13 => ?_) (fun g13 => ?_)
      · rw [if_pos g13] at h
        refine z_aload_n 0 dX12_seamRefused_39 rfl ?_
        refine z_iload_n 2 dX12_seamRefused_40 rfl ?_
        refine z_iload_n 3 dX12_seamRefused_41 rfl ?_
        refine z_callV (rc := 0) (rs := 0) (mc1 := 0) (ms1 := 0) (As := [.int p1, .int p2]) (st := []) dX12_seamRefused_42 hy_X12_drawAt (co_0 hL).1 (co_0 hL).2 (by decide) wg_831 wg_833 wg_19 (Nat.le_refl _) (Nat.le_of_ble_eq_true rfl) (RM.mono h ?_)
        clear h
        intro vv K16 I14 L15 h
        obtain ⟨rfl, h⟩ := h
        obtain ⟨hL17, h⟩ := h
        change Z n0 xX12_seamRefused (d + 1) 0 0 45 [(0, .ref (n0 + 0)), (1, .int p0), (2, .int p1), (3, .int p2), (4, .ref (n0 + q5)), (5, .int r12)] [] K16 I14 L15 Q
        refine z_aload_n 0 dX12_seamRefused_45 rfl ?_
        refine z_aload 4 dX12_seamRefused_46 rfl ?_
        refine z_callV (rc := 0) (rs := 0) (mc1 := 0) (ms1 := 0) (As := [.ref (n0 + q5)]) (st := []) dX12_seamRefused_48 hy_X12_measureSides (co_0 hL17).1 (co_0 hL17).2 (by decide) wg_1016 wg_1018 wg_28 (Nat.le_refl _) (Nat.le_of_ble_eq_true rfl) (RM.mono h ?_)
        clear h
        intro vv K20 I18 L19 h
        obtain ⟨r21, rfl, h⟩ := h
        obtain ⟨hL22, h⟩ := h
        change Z n0 xX12_seamRefused (d + 1) 0 0 51 [(0, .ref (n0 + 0)), (1, .int p0), (2, .int p1), (3, .int p2), (4, .ref (n0 + q5)), (5, .int r12)] [.int r21] K20 I18 L19 Q
        have key24 : Z n0 xX12_seamRefused (d + 1) 0 0 60 [] [.int (if r21 = 0 then (-7) else 0)] K20 I18 L19 Q := by
          exact z_iret dX12_seamRefused_60 rfl h
        refine z_if_eq 58 dX12_seamRefused_51 (by decide) (fun g23 => ?_) (fun g23 => ?_)
        · refine z_bipush (-7) dX12_seamRefused_58 (by decide) ?_
          have ee : ((if r21 = 0 then (-7) else 0) : Int32) = (-7) := by rw [if_pos g23]
          rw [ee] at key24
          clear ee
          refine z_sub [] rfl ?_
          exact key24
        · refine z_iconst 0 dX12_seamRefused_54 (by decide) ?_
          refine z_goto 60 dX12_seamRefused_55 (by decide) ?_
          have ee : ((if r21 = 0 then (-7) else 0) : Int32) = 0 := by rw [if_neg g23]
          rw [ee] at key24
          clear ee
          refine z_sub [] rfl ?_
          exact key24
      · rw [if_neg g13] at h
        refine z_iload 5 dX12_seamRefused_36 rfl ?_
        exact z_iret dX12_seamRefused_38 rfl h
    · rw [if_pos g9] at h
      refine z_iconst (-1) dX12_seamRefused_19 (by decide) ?_
      exact z_iret dX12_seamRefused_20 rfl h
theorem dX12_measureSides_0 : decode cX12_measureSides 0 = .ok (.aload_n 0, 1) := by decide +kernel
theorem dX12_measureSides_1 : decode cX12_measureSides 1 = .ok (.getfield 41, 3) := by decide +kernel
theorem dX12_measureSides_4 : decode cX12_measureSides 4 = .ok (.aload_n 1, 1) := by decide +kernel
theorem dX12_measureSides_5 : decode cX12_measureSides 5 = .ok (.getfield 445, 3) := by decide +kernel
theorem dX12_measureSides_8 : decode cX12_measureSides 8 = .ok (.invokevirtual 235, 3) := by decide +kernel
theorem dX12_measureSides_11 : decode cX12_measureSides 11 = .ok (.ifCond .eq 17, 3) := by decide +kernel
theorem dX12_measureSides_14 : decode cX12_measureSides 14 = .ok (.aload_n 0, 1) := by decide +kernel
theorem dX12_measureSides_15 : decode cX12_measureSides 15 = .ok (.getfield 41, 3) := by decide +kernel
theorem dX12_measureSides_18 : decode cX12_measureSides 18 = .ok (.aload_n 1, 1) := by decide +kernel
theorem dX12_measureSides_19 : decode cX12_measureSides 19 = .ok (.getfield 449, 3) := by decide +kernel
theorem dX12_measureSides_22 : decode cX12_measureSides 22 = .ok (.invokevirtual 235, 3) := by decide +kernel
theorem dX12_measureSides_25 : decode cX12_measureSides 25 = .ok (.ifCond .ne 5, 3) := by decide +kernel
theorem dX12_measureSides_28 : decode cX12_measureSides 28 = .ok (.iconst 0, 1) := by decide +kernel
theorem dX12_measureSides_29 : decode cX12_measureSides 29 = .ok (.ireturn, 1) := by decide +kernel
theorem dX12_measureSides_30 : decode cX12_measureSides 30 = .ok (.aload_n 1, 1) := by decide +kernel
theorem dX12_measureSides_31 : decode cX12_measureSides 31 = .ok (.aload_n 0, 1) := by decide +kernel
theorem dX12_measureSides_32 : decode cX12_measureSides 32 = .ok (.getfield 41, 3) := by decide +kernel
theorem dX12_measureSides_35 : decode cX12_measureSides 35 = .ok (.aload_n 1, 1) := by decide +kernel
theorem dX12_measureSides_36 : decode cX12_measureSides 36 = .ok (.getfield 445, 3) := by decide +kernel
theorem dX12_measureSides_39 : decode cX12_measureSides 39 = .ok (.aload_n 1, 1) := by decide +kernel
theorem dX12_measureSides_40 : decode cX12_measureSides 40 = .ok (.getfield 452, 3) := by decide +kernel
theorem dX12_measureSides_43 : decode cX12_measureSides 43 = .ok (.aload_n 1, 1) := by decide +kernel
theorem dX12_measureSides_44 : decode cX12_measureSides 44 = .ok (.getfield 455, 3) := by decide +kernel
theorem dX12_measureSides_47 : decode cX12_measureSides 47 = .ok (.invokevirtual 249, 3) := by decide +kernel
theorem dX12_measureSides_50 : decode cX12_measureSides 50 = .ok (.putfield 458, 3) := by decide +kernel
theorem dX12_measureSides_53 : decode cX12_measureSides 53 = .ok (.aload_n 1, 1) := by decide +kernel
theorem dX12_measureSides_54 : decode cX12_measureSides 54 = .ok (.aload_n 0, 1) := by decide +kernel
theorem dX12_measureSides_55 : decode cX12_measureSides 55 = .ok (.getfield 41, 3) := by decide +kernel
theorem dX12_measureSides_58 : decode cX12_measureSides 58 = .ok (.aload_n 1, 1) := by decide +kernel
theorem dX12_measureSides_59 : decode cX12_measureSides 59 = .ok (.getfield 449, 3) := by decide +kernel
theorem dX12_measureSides_62 : decode cX12_measureSides 62 = .ok (.aload_n 1, 1) := by decide +kernel
theorem dX12_measureSides_63 : decode cX12_measureSides 63 = .ok (.getfield 461, 3) := by decide +kernel
theorem dX12_measureSides_66 : decode cX12_measureSides 66 = .ok (.aload_n 1, 1) := by decide +kernel
theorem dX12_measureSides_67 : decode cX12_measureSides 67 = .ok (.getfield 464, 3) := by decide +kernel
theorem dX12_measureSides_70 : decode cX12_measureSides 70 = .ok (.invokevirtual 249, 3) := by decide +kernel
theorem dX12_measureSides_73 : decode cX12_measureSides 73 = .ok (.putfield 467, 3) := by decide +kernel
theorem dX12_measureSides_76 : decode cX12_measureSides 76 = .ok (.iconst 1, 1) := by decide +kernel
theorem dX12_measureSides_77 : decode cX12_measureSides 77 = .ok (.ireturn, 1) := by decide +kernel
set_option maxRecDepth 100000 in
set_option maxHeartbeats 4000000 in
theorem wp_X12_measureSides {n0 d : Nat} {K : z_K} {I : z_I} {L : z_L} {Q : z_R} {p0 : Nat} (hL : CLay K) (h : p0 < K.1 ∧ (K.2.1 p0).1 = 8 ∧ (∃ q3, K.2.2 p0 0 = some q3 ∧ RM n0 xX2_sound d 0 0 [.ref (n0 + 8), .ref (n0 + q3)] K I L (fun vv K6 I4 L5 => ∃ r7 : Int32, vv = some (.int r7) ∧ CLay K6 ∧ (if r7 = 0 then Q (some (.int 0)) K6 I4 L5 else p0 < K6.1 ∧ (K6.2.1 p0).1 = 8 ∧ (∃ q12, K6.2.2 p0 5 = some q12 ∧ RM n0 xX2_sound d 0 0 [.ref (n0 + 8), .ref (n0 + q12)] K6 I4 L5 (fun vv K15 I13 L14 => ∃ r16 : Int32, vv = some (.int r16) ∧ CLay K15 ∧ (if r16 = 0 then Q (some (.int 0)) K15 I13 L14 else p0 < K15.1 ∧ (K15.2.1 p0).1 = 8 ∧ (∃ q21, K15.2.2 p0 0 = some q21 ∧ RM0 n0 xX2_lengthOf d [.ref (n0 + 8), .ref (n0 + q21), .int (I13 p0 1), .int (I13 p0 2)] K15 I13 L14 (fun vv I22 L23 => ∃ r24 : Int32, vv = some (.int r24) ∧ (∃ q25, K15.2.2 p0 5 = some q25 ∧ RM0 n0 xX2_lengthOf d [.ref (n0 + 8), .ref (n0 + q25), .int ((zI I22 p0 12 r24) p0 6), .int ((zI I22 p0 12 r24) p0 7)] K15 (zI I22 p0 12 r24) L23 (fun vv I26 L27 => ∃ r28 : Int32, vv = some (.int r28) ∧ Q (some (.int 1)) K15 (zI I26 p0 13 r28) L27))))))))))) : RM n0 xX12_measureSides (d + 1) 0 0 [.ref (n0 + 0), .ref (n0 + p0)] K I L Q := by
  refine z_entry (by decide) (Nat.le_of_ble_eq_true rfl) ?_
  change Z n0 xX12_measureSides (d + 1) 0 0 0 [(0, .ref (n0 + 0)), (1, .ref (n0 + p0))] [] K I L Q
  refine z_aload_n 0 dX12_measureSides_0 rfl ?_
  refine fg_12_41 (some 8) rfl dX12_measureSides_1 (co_0 hL).1 (co_0 hL).2 (cp_8 hL) ?_
  refine z_aload_n 1 dX12_measureSides_4 rfl ?_
  obtain ⟨o1, o2, h⟩ := h
  obtain ⟨q3, q3e, h⟩ := h
  refine fg_12_445 (some q3) rfl dX12_measureSides_5 o1 o2 q3e ?_
  refine z_callV (rc := 0) (rs := 0) (mc1 := 0) (ms1 := 0) (As := [.ref (n0 + q3)]) (st := []) dX12_measureSides_8 hy_X2_sound (co_8 hL).1 (co_8 hL).2 (by decide) wg_839 wg_840 wg_841 (Nat.le_refl _) (Nat.le_of_ble_eq_true rfl) (RM.mono h ?_)
  clear h
  intro vv K6 I4 L5 h
  obtain ⟨r7, rfl, h⟩ := h
  obtain ⟨hL8, h⟩ := h
  change Z n0 xX12_measureSides (d + 1) 0 0 11 [(0, .ref (n0 + 0)), (1, .ref (n0 + p0))] [.int r7] K6 I4 L5 Q
  refine z_if_eq 28 dX12_measureSides_11 (by decide) (fun g9 => ?_) (fun g9 => ?_)
  · rw [if_pos g9] at h
    refine z_iconst 0 dX12_measureSides_28 (by decide) ?_
    exact z_zretb dX12_measureSides_29 rfl (Or.inl rfl) h
  · rw [if_neg g9] at h
    refine z_aload_n 0 dX12_measureSides_14 rfl ?_
    refine fg_12_41 (some 8) rfl dX12_measureSides_15 (co_0 hL8).1 (co_0 hL8).2 (cp_8 hL8) ?_
    refine z_aload_n 1 dX12_measureSides_18 rfl ?_
    obtain ⟨o10, o11, h⟩ := h
    obtain ⟨q12, q12e, h⟩ := h
    refine fg_12_449 (some q12) rfl dX12_measureSides_19 o10 o11 q12e ?_
    refine z_callV (rc := 0) (rs := 0) (mc1 := 0) (ms1 := 0) (As := [.ref (n0 + q12)]) (st := []) dX12_measureSides_22 hy_X2_sound (co_8 hL8).1 (co_8 hL8).2 (by decide) wg_839 wg_840 wg_841 (Nat.le_refl _) (Nat.le_of_ble_eq_true rfl) (RM.mono h ?_)
    clear h
    intro vv K15 I13 L14 h
    obtain ⟨r16, rfl, h⟩ := h
    obtain ⟨hL17, h⟩ := h
    change Z n0 xX12_measureSides (d + 1) 0 0 25 [(0, .ref (n0 + 0)), (1, .ref (n0 + p0))] [.int r16] K15 I13 L14 Q
    refine z_if_ne 30 dX12_measureSides_25 (by decide) (fun g18 => ?_) (fun g18 => ?_)
    · rw [if_neg g18] at h
      refine z_aload_n 1 dX12_measureSides_30 rfl ?_
      refine z_aload_n 0 dX12_measureSides_31 rfl ?_
      refine fg_12_41 (some 8) rfl dX12_measureSides_32 (co_0 hL17).1 (co_0 hL17).2 (cp_8 hL17) ?_
      refine z_aload_n 1 dX12_measureSides_35 rfl ?_
      obtain ⟨o19, o20, h⟩ := h
      obtain ⟨q21, q21e, h⟩ := h
      refine fg_12_445 (some q21) rfl dX12_measureSides_36 o19 o20 q21e ?_
      refine z_aload_n 1 dX12_measureSides_39 rfl ?_
      refine fg_12_452 (I13 p0 1) rfl dX12_measureSides_40 o19 o20 rfl ?_
      refine z_aload_n 1 dX12_measureSides_43 rfl ?_
      refine fg_12_455 (I13 p0 2) rfl dX12_measureSides_44 o19 o20 rfl ?_
      refine z_callV0 (As := [.ref (n0 + q21), .int (I13 p0 1), .int (I13 p0 2)]) (st := [.ref (n0 + p0)]) dX12_measureSides_47 hy_X2_lengthOf (co_8 hL17).1 (co_8 hL17).2 (by decide) wg_895 wg_896 wg_897 (Nat.le_refl _) (Nat.le_of_ble_eq_true rfl) (RM0.mono h ?_)
      clear h
      intro vv I22 L23 h
      obtain ⟨r24, rfl, h⟩ := h
      change Z n0 xX12_measureSides (d + 1) 0 0 50 [(0, .ref (n0 + 0)), (1, .ref (n0 + p0))] [.int r24, .ref (n0 + p0)] K15 I22 L23 Q
      refine fp_12_458 rfl dX12_measureSides_50 o19 o20 ?_
      refine z_aload_n 1 dX12_measureSides_53 rfl ?_
      refine z_aload_n 0 dX12_measureSides_54 rfl ?_
      refine fg_12_41 (some 8) rfl dX12_measureSides_55 (co_0 hL17).1 (co_0 hL17).2 (cp_8 hL17) ?_
      refine z_aload_n 1 dX12_measureSides_58 rfl ?_
      obtain ⟨q25, q25e, h⟩ := h
      refine fg_12_449 (some q25) rfl dX12_measureSides_59 o19 o20 q25e ?_
      refine z_aload_n 1 dX12_measureSides_62 rfl ?_
      refine fg_12_461 ((zI I22 p0 12 r24) p0 6) rfl dX12_measureSides_63 o19 o20 rfl ?_
      refine z_aload_n 1 dX12_measureSides_66 rfl ?_
      refine fg_12_464 ((zI I22 p0 12 r24) p0 7) rfl dX12_measureSides_67 o19 o20 rfl ?_
      refine z_callV0 (As := [.ref (n0 + q25), .int ((zI I22 p0 12 r24) p0 6), .int ((zI I22 p0 12 r24) p0 7)]) (st := [.ref (n0 + p0)]) dX12_measureSides_70 hy_X2_lengthOf (co_8 hL17).1 (co_8 hL17).2 (by decide) wg_895 wg_896 wg_897 (Nat.le_refl _) (Nat.le_of_ble_eq_true rfl) (RM0.mono h ?_)
      clear h
      intro vv I26 L27 h
      obtain ⟨r28, rfl, h⟩ := h
      change Z n0 xX12_measureSides (d + 1) 0 0 73 [(0, .ref (n0 + 0)), (1, .ref (n0 + p0))] [.int r28, .ref (n0 + p0)] K15 I26 L27 Q
      refine fp_12_467 rfl dX12_measureSides_73 o19 o20 ?_
      refine z_iconst 1 dX12_measureSides_76 (by decide) ?_
      exact z_zretb dX12_measureSides_77 rfl (Or.inr rfl) h
    · rw [if_pos g18] at h
      refine z_iconst 0 dX12_measureSides_28 (by decide) ?_
      exact z_zretb dX12_measureSides_29 rfl (Or.inl rfl) h
theorem dX12_isWrong_0 : decode cX12_isWrong 0 = .ok (.aload_n 0, 1) := by decide +kernel
theorem dX12_isWrong_1 : decode cX12_isWrong 1 = .ok (.aload_n 1, 1) := by decide +kernel
theorem dX12_isWrong_2 : decode cX12_isWrong 2 = .ok (.invokevirtual 442, 3) := by decide +kernel
theorem dX12_isWrong_5 : decode cX12_isWrong 5 = .ok (.ifCond .eq 19, 3) := by decide +kernel
theorem dX12_isWrong_8 : decode cX12_isWrong 8 = .ok (.aload_n 1, 1) := by decide +kernel
theorem dX12_isWrong_9 : decode cX12_isWrong 9 = .ok (.invokevirtual 287, 3) := by decide +kernel
theorem dX12_isWrong_12 : decode cX12_isWrong 12 = .ok (.ifCond .eq 12, 3) := by decide +kernel
theorem dX12_isWrong_15 : decode cX12_isWrong 15 = .ok (.aload_n 1, 1) := by decide +kernel
theorem dX12_isWrong_16 : decode cX12_isWrong 16 = .ok (.invokevirtual 290, 3) := by decide +kernel
theorem dX12_isWrong_19 : decode cX12_isWrong 19 = .ok (.bipush (-9), 2) := by decide +kernel
theorem dX12_isWrong_21 : decode cX12_isWrong 21 = .ok (.if_icmp .eq 7, 3) := by decide +kernel
theorem dX12_isWrong_24 : decode cX12_isWrong 24 = .ok (.iconst 1, 1) := by decide +kernel
theorem dX12_isWrong_25 : decode cX12_isWrong 25 = .ok (.goto 4, 3) := by decide +kernel
theorem dX12_isWrong_28 : decode cX12_isWrong 28 = .ok (.iconst 0, 1) := by decide +kernel
theorem dX12_isWrong_29 : decode cX12_isWrong 29 = .ok (.ireturn, 1) := by decide +kernel
set_option maxRecDepth 100000 in
set_option maxHeartbeats 4000000 in
theorem wp_X12_isWrong {n0 d : Nat} {K : z_K} {I : z_I} {L : z_L} {Q : z_R} {p0 : Nat} (hL : CLay K) (h : RM n0 xX12_measureSides d 0 0 [.ref (n0 + 0), .ref (n0 + p0)] K I L (fun vv K3 I1 L2 => ∃ r4 : Int32, vv = some (.int r4) ∧ CLay K3 ∧ (if r4 = 0 then Q (some (.int 1)) K3 I1 L2 else p0 < K3.1 ∧ (K3.2.1 p0).1 = 8 ∧ RM0 n0 xX8_isMet d [.ref (n0 + p0)] K3 I1 L2 (fun vv I9 L10 => ∃ r11 : Int32, vv = some (.int r11) ∧ (if r11 = 0 then Q (some (.int 1)) K3 I9 L10 else RM0 n0 xX8_firstLost d [.ref (n0 + p0)] K3 I9 L10 (fun vv I13 L14 => ∃ r15 : Int32, vv = some (.int r15) ∧ Q (some (.int (if r15 = (-9) then 0 else 1))) K3 I13 L14)))))) : RM n0 xX12_isWrong (d + 1) 0 0 [.ref (n0 + 0), .ref (n0 + p0)] K I L Q := by
  refine z_entry (by decide) (Nat.le_of_ble_eq_true rfl) ?_
  change Z n0 xX12_isWrong (d + 1) 0 0 0 [(0, .ref (n0 + 0)), (1, .ref (n0 + p0))] [] K I L Q
  refine z_aload_n 0 dX12_isWrong_0 rfl ?_
  refine z_aload_n 1 dX12_isWrong_1 rfl ?_
  refine z_callV (rc := 0) (rs := 0) (mc1 := 0) (ms1 := 0) (As := [.ref (n0 + p0)]) (st := []) dX12_isWrong_2 hy_X12_measureSides (co_0 hL).1 (co_0 hL).2 (by decide) wg_1016 wg_1018 wg_28 (Nat.le_refl _) (Nat.le_of_ble_eq_true rfl) (RM.mono h ?_)
  clear h
  intro vv K3 I1 L2 h
  obtain ⟨r4, rfl, h⟩ := h
  obtain ⟨hL5, h⟩ := h
  change Z n0 xX12_isWrong (d + 1) 0 0 5 [(0, .ref (n0 + 0)), (1, .ref (n0 + p0))] [.int r4] K3 I1 L2 Q
  refine z_if_eq 24 dX12_isWrong_5 (by decide) (fun g6 => ?_) (fun g6 => ?_)
  · rw [if_pos g6] at h
    refine z_iconst 1 dX12_isWrong_24 (by decide) ?_
    refine z_goto 29 dX12_isWrong_25 (by decide) ?_
    exact z_zretb dX12_isWrong_29 rfl (Or.inr rfl) h
  · rw [if_neg g6] at h
    refine z_aload_n 1 dX12_isWrong_8 rfl ?_
    obtain ⟨o7, o8, h⟩ := h
    refine z_callV0 (As := []) (st := []) dX12_isWrong_9 hy_X8_isMet o7 o8 (by decide) wg_1028 wg_1029 wg_1030 (Nat.le_refl _) (Nat.le_of_ble_eq_true rfl) (RM0.mono h ?_)
    clear h
    intro vv I9 L10 h
    obtain ⟨r11, rfl, h⟩ := h
    change Z n0 xX12_isWrong (d + 1) 0 0 12 [(0, .ref (n0 + 0)), (1, .ref (n0 + p0))] [.int r11] K3 I9 L10 Q
    refine z_if_eq 24 dX12_isWrong_12 (by decide) (fun g12 => ?_) (fun g12 => ?_)
    · rw [if_pos g12] at h
      refine z_iconst 1 dX12_isWrong_24 (by decide) ?_
      refine z_goto 29 dX12_isWrong_25 (by decide) ?_
      exact z_zretb dX12_isWrong_29 rfl (Or.inr rfl) h
    · rw [if_neg g12] at h
      refine z_aload_n 1 dX12_isWrong_15 rfl ?_
      refine z_callV0 (As := []) (st := []) dX12_isWrong_16 hy_X8_firstLost o7 o8 (by decide) wg_1037 wg_1038 wg_1039 (Nat.le_refl _) (Nat.le_of_ble_eq_true rfl) (RM0.mono h ?_)
      clear h
      intro vv I13 L14 h
      obtain ⟨r15, rfl, h⟩ := h
      change Z n0 xX12_isWrong (d + 1) 0 0 19 [(0, .ref (n0 + 0)), (1, .ref (n0 + p0))] [.int r15] K3 I13 L14 Q
      refine z_bipush (-9) dX12_isWrong_19 (by decide) ?_
      have key17 : Z n0 xX12_isWrong (d + 1) 0 0 29 [] [.int (if r15 = (-9) then 0 else 1)] K3 I13 L14 Q := by
        exact z_zretb dX12_isWrong_29 rfl (z_bite (by repeat' (first | exact Or.inl rfl | exact Or.inr rfl | split))) h
      refine z_icmp_eq 28 dX12_isWrong_21 (by decide) (fun g16 => ?_) (fun g16 => ?_)
      · refine z_iconst 0 dX12_isWrong_28 (by decide) ?_
        have ee : ((if r15 = (-9) then 0 else 1) : Int32) = 0 := by rw [if_pos g16]
        rw [ee] at key17
        clear ee
        refine z_sub [] rfl ?_
        exact key17
      · refine z_iconst 1 dX12_isWrong_24 (by decide) ?_
        refine z_goto 29 dX12_isWrong_25 (by decide) ?_
        have ee : ((if r15 = (-9) then 0 else 1) : Int32) = 1 := by rw [if_neg g16]
        rw [ee] at key17
        clear ee
        refine z_sub [] rfl ?_
        exact key17
theorem dX12_shapesStand_0 : decode cX12_shapesStand 0 = .ok (.iconst 0, 1) := by decide +kernel
theorem dX12_shapesStand_1 : decode cX12_shapesStand 1 = .ok (.istore_n 1, 1) := by decide +kernel
theorem dX12_shapesStand_2 : decode cX12_shapesStand 2 = .ok (.iload_n 1, 1) := by decide +kernel
theorem dX12_shapesStand_3 : decode cX12_shapesStand 3 = .ok (.aload_n 0, 1) := by decide +kernel
theorem dX12_shapesStand_4 : decode cX12_shapesStand 4 = .ok (.getfield 61, 3) := by decide +kernel
theorem dX12_shapesStand_7 : decode cX12_shapesStand 7 = .ok (.getfield 334, 3) := by decide +kernel
theorem dX12_shapesStand_10 : decode cX12_shapesStand 10 = .ok (.if_icmp .ge 80, 3) := by decide +kernel
theorem dX12_shapesStand_13 : decode cX12_shapesStand 13 = .ok (.aload_n 0, 1) := by decide +kernel
theorem dX12_shapesStand_14 : decode cX12_shapesStand 14 = .ok (.getfield 61, 3) := by decide +kernel
theorem dX12_shapesStand_17 : decode cX12_shapesStand 17 = .ok (.getfield 470, 3) := by decide +kernel
theorem dX12_shapesStand_20 : decode cX12_shapesStand 20 = .ok (.iload_n 1, 1) := by decide +kernel
theorem dX12_shapesStand_21 : decode cX12_shapesStand 21 = .ok (.aaload, 1) := by decide +kernel
theorem dX12_shapesStand_22 : decode cX12_shapesStand 22 = .ok (.astore_n 2, 1) := by decide +kernel
theorem dX12_shapesStand_23 : decode cX12_shapesStand 23 = .ok (.aload_n 0, 1) := by decide +kernel
theorem dX12_shapesStand_24 : decode cX12_shapesStand 24 = .ok (.aload_n 0, 1) := by decide +kernel
theorem dX12_shapesStand_25 : decode cX12_shapesStand 25 = .ok (.getfield 61, 3) := by decide +kernel
theorem dX12_shapesStand_28 : decode cX12_shapesStand 28 = .ok (.getfield 471, 3) := by decide +kernel
theorem dX12_shapesStand_31 : decode cX12_shapesStand 31 = .ok (.iload_n 1, 1) := by decide +kernel
theorem dX12_shapesStand_32 : decode cX12_shapesStand 32 = .ok (.iaload, 1) := by decide +kernel
theorem dX12_shapesStand_33 : decode cX12_shapesStand 33 = .ok (.aload_n 0, 1) := by decide +kernel
theorem dX12_shapesStand_34 : decode cX12_shapesStand 34 = .ok (.getfield 89, 3) := by decide +kernel
theorem dX12_shapesStand_37 : decode cX12_shapesStand 37 = .ok (.invokevirtual 231, 3) := by decide +kernel
theorem dX12_shapesStand_40 : decode cX12_shapesStand 40 = .ok (.aload_n 0, 1) := by decide +kernel
theorem dX12_shapesStand_41 : decode cX12_shapesStand 41 = .ok (.getfield 41, 3) := by decide +kernel
theorem dX12_shapesStand_44 : decode cX12_shapesStand 44 = .ok (.aload_n 2, 1) := by decide +kernel
theorem dX12_shapesStand_45 : decode cX12_shapesStand 45 = .ok (.invokevirtual 235, 3) := by decide +kernel
theorem dX12_shapesStand_48 : decode cX12_shapesStand 48 = .ok (.ifCond .ne 5, 3) := by decide +kernel
theorem dX12_shapesStand_51 : decode cX12_shapesStand 51 = .ok (.iconst 0, 1) := by decide +kernel
theorem dX12_shapesStand_52 : decode cX12_shapesStand 52 = .ok (.ireturn, 1) := by decide +kernel
theorem dX12_shapesStand_53 : decode cX12_shapesStand 53 = .ok (.aload_n 0, 1) := by decide +kernel
theorem dX12_shapesStand_54 : decode cX12_shapesStand 54 = .ok (.getfield 61, 3) := by decide +kernel
theorem dX12_shapesStand_57 : decode cX12_shapesStand 57 = .ok (.getfield 474, 3) := by decide +kernel
theorem dX12_shapesStand_60 : decode cX12_shapesStand 60 = .ok (.iload_n 1, 1) := by decide +kernel
theorem dX12_shapesStand_61 : decode cX12_shapesStand 61 = .ok (.aaload, 1) := by decide +kernel
theorem dX12_shapesStand_62 : decode cX12_shapesStand 62 = .ok (.aload_n 0, 1) := by decide +kernel
theorem dX12_shapesStand_63 : decode cX12_shapesStand 63 = .ok (.getfield 41, 3) := by decide +kernel
theorem dX12_shapesStand_66 : decode cX12_shapesStand 66 = .ok (.aload_n 2, 1) := by decide +kernel
theorem dX12_shapesStand_67 : decode cX12_shapesStand 67 = .ok (.aload_n 0, 1) := by decide +kernel
theorem dX12_shapesStand_68 : decode cX12_shapesStand 68 = .ok (.getfield 61, 3) := by decide +kernel
theorem dX12_shapesStand_71 : decode cX12_shapesStand 71 = .ok (.getfield 327, 3) := by decide +kernel
theorem dX12_shapesStand_74 : decode cX12_shapesStand 74 = .ok (.iconst 1, 1) := by decide +kernel
theorem dX12_shapesStand_75 : decode cX12_shapesStand 75 = .ok (.iaload, 1) := by decide +kernel
theorem dX12_shapesStand_76 : decode cX12_shapesStand 76 = .ok (.invokevirtual 330, 3) := by decide +kernel
theorem dX12_shapesStand_79 : decode cX12_shapesStand 79 = .ok (.ifCond .ne 5, 3) := by decide +kernel
theorem dX12_shapesStand_82 : decode cX12_shapesStand 82 = .ok (.iconst 0, 1) := by decide +kernel
theorem dX12_shapesStand_83 : decode cX12_shapesStand 83 = .ok (.ireturn, 1) := by decide +kernel
theorem dX12_shapesStand_84 : decode cX12_shapesStand 84 = .ok (.iinc 1 1, 3) := by decide +kernel
theorem dX12_shapesStand_87 : decode cX12_shapesStand 87 = .ok (.goto (-85), 3) := by decide +kernel
theorem dX12_shapesStand_90 : decode cX12_shapesStand 90 = .ok (.iconst 1, 1) := by decide +kernel
theorem dX12_shapesStand_91 : decode cX12_shapesStand 91 = .ok (.ireturn, 1) := by decide +kernel
set_option maxRecDepth 100000 in
set_option maxHeartbeats 4000000 in
theorem wp_X12_shapesStand {n0 d : Nat} {K : z_K} {I : z_I} {L : z_L} {Q : z_R}  (hL : CLay K) (h : Z n0 xX12_shapesStand (d + 1) 0 0 2 [(0, .ref (n0 + 0)), (1, .int 0)] [] K I L Q) : RM n0 xX12_shapesStand (d + 1) 0 0 [.ref (n0 + 0)] K I L Q := by
  refine z_entry (by decide) (Nat.le_of_ble_eq_true rfl) ?_
  change Z n0 xX12_shapesStand (d + 1) 0 0 0 [(0, .ref (n0 + 0))] [] K I L Q
  refine z_iconst 0 dX12_shapesStand_0 (by decide) ?_
  refine z_istore_n [1, 0] [(0, .ref (n0 + 0)), (1, .int 0)] dX12_shapesStand_1 (by decide) rfl ?_
  exact h
set_option maxRecDepth 100000 in
set_option maxHeartbeats 4000000 in
theorem wp_X12_shapesStand_2 {n0 d : Nat} {rc rs : Nat} {K : z_K} {I : z_I} {L : z_L} {Q : z_R} {a1 : Int32} (hL : CLay K) (h : (if a1 < (I 25 4) then vp_in a1 4 ∧ (∃ q3, K.2.2 27 a1.toNatClampNeg = some q3 ∧ RM n0 xX12_drawAt d 0 0 [.ref (n0 + 0), .int (I 28 a1.toNatClampNeg), .int (I 0 0)] K I L (fun vv K6 I4 L5 => vv = none ∧ CLay K6 ∧ RM n0 xX2_sound d 0 0 [.ref (n0 + 8), .ref (n0 + q3)] K6 I4 L5 (fun vv K10 I8 L9 => ∃ r11 : Int32, vv = some (.int r11) ∧ CLay K10 ∧ (if r11 = 0 then Q (some (.int 0)) K10 I8 L9 else (∃ q14, K10.2.2 29 a1.toNatClampNeg = some q14 ∧ q14 < K10.1 ∧ (K10.2.1 q14).1 = 10 ∧ RM0 n0 xX10_cover d [.ref (n0 + q14), .ref (n0 + 8), .ref (n0 + q3), .int (I8 26 1)] K10 I8 L9 (fun vv I17 L18 => ∃ r19 : Int32, vv = some (.int r19) ∧ (if r19 = 0 then Q (some (.int 0)) K10 I17 L18 else Z n0 xX12_shapesStand (d + 1) rc rs 2 [(0, .ref (n0 + 0)), (1, .int (a1 + 1))] [] K10 I17 L18 Q))))))) else Q (some (.int 1)) K I L)) : Z n0 xX12_shapesStand (d + 1) rc rs 2 [(0, .ref (n0 + 0)), (1, .int a1)] [] K I L Q := by
  refine z_iload_n 1 dX12_shapesStand_2 rfl ?_
  refine z_aload_n 0 dX12_shapesStand_3 rfl ?_
  refine fg_12_61 (some 25) rfl dX12_shapesStand_4 (co_0 hL).1 (co_0 hL).2 (cp_25 hL) ?_
  refine fg_12_334 (I 25 4) rfl dX12_shapesStand_7 (co_25 hL).1 (co_25 hL).2 rfl ?_
  refine z_icmp_ge 90 dX12_shapesStand_10 (by decide) (fun g1 => ?_) (fun g1 => ?_)
  · rw [if_neg g1] at h
    refine z_iconst 1 dX12_shapesStand_90 (by decide) ?_
    exact z_zretb dX12_shapesStand_91 rfl (Or.inr rfl) h
  · rw [if_pos g1] at h
    refine z_aload_n 0 dX12_shapesStand_13 rfl ?_
    refine fg_12_61 (some 25) rfl dX12_shapesStand_14 (co_0 hL).1 (co_0 hL).2 (cp_25 hL) ?_
    refine fg_12_470 (some 27) rfl dX12_shapesStand_17 (co_25 hL).1 (co_25 hL).2 (ca_27 hL).1 ?_
    refine z_iload_n 1 dX12_shapesStand_20 rfl ?_
    obtain ⟨o2, h⟩ := h
    obtain ⟨q3, q3e, h⟩ := h
    refine z_aald (some q3) dX12_shapesStand_21 (ca_27 hL).2.1 (ca_27 hL).2.2 (by unfold z_rt; decide) o2 q3e ?_
    refine z_astore_n [1, 2, 0] [(0, .ref (n0 + 0)), (1, .int a1), (2, .ref (n0 + q3))] dX12_shapesStand_22 (by decide) rfl ?_
    refine z_aload_n 0 dX12_shapesStand_23 rfl ?_
    refine z_aload_n 0 dX12_shapesStand_24 rfl ?_
    refine fg_12_61 (some 25) rfl dX12_shapesStand_25 (co_0 hL).1 (co_0 hL).2 (cp_25 hL) ?_
    refine fg_12_471 (some 28) rfl dX12_shapesStand_28 (co_25 hL).1 (co_25 hL).2 (ca_28 hL).1 ?_
    refine z_iload_n 1 dX12_shapesStand_31 rfl ?_
    refine z_iald (I 28 a1.toNatClampNeg) dX12_shapesStand_32 (ca_28 hL).2.1 (ca_28 hL).2.2 o2 rfl ?_
    refine z_aload_n 0 dX12_shapesStand_33 rfl ?_
    refine fg_12_89 (I 0 0) rfl dX12_shapesStand_34 (co_0 hL).1 (co_0 hL).2 rfl ?_
    refine z_callV (rc := rc) (rs := rs) (mc1 := 0) (ms1 := 0) (As := [.int (I 28 a1.toNatClampNeg), .int (I 0 0)]) (st := []) dX12_shapesStand_37 hy_X12_drawAt (co_0 hL).1 (co_0 hL).2 (by decide) wg_831 wg_833 wg_19 (Nat.le_refl _) (Nat.le_of_ble_eq_true rfl) (RM.mono h ?_)
    clear h
    intro vv K6 I4 L5 h
    obtain ⟨rfl, h⟩ := h
    obtain ⟨hL7, h⟩ := h
    change Z n0 xX12_shapesStand (d + 1) rc rs 40 [(0, .ref (n0 + 0)), (1, .int a1), (2, .ref (n0 + q3))] [] K6 I4 L5 Q
    refine z_aload_n 0 dX12_shapesStand_40 rfl ?_
    refine fg_12_41 (some 8) rfl dX12_shapesStand_41 (co_0 hL7).1 (co_0 hL7).2 (cp_8 hL7) ?_
    refine z_aload_n 2 dX12_shapesStand_44 rfl ?_
    refine z_callV (rc := rc) (rs := rs) (mc1 := 0) (ms1 := 0) (As := [.ref (n0 + q3)]) (st := []) dX12_shapesStand_45 hy_X2_sound (co_8 hL7).1 (co_8 hL7).2 (by decide) wg_839 wg_840 wg_841 (Nat.le_refl _) (Nat.le_of_ble_eq_true rfl) (RM.mono h ?_)
    clear h
    intro vv K10 I8 L9 h
    obtain ⟨r11, rfl, h⟩ := h
    obtain ⟨hL12, h⟩ := h
    change Z n0 xX12_shapesStand (d + 1) rc rs 48 [(0, .ref (n0 + 0)), (1, .int a1), (2, .ref (n0 + q3))] [.int r11] K10 I8 L9 Q
    refine z_if_ne 53 dX12_shapesStand_48 (by decide) (fun g13 => ?_) (fun g13 => ?_)
    · rw [if_neg g13] at h
      refine z_aload_n 0 dX12_shapesStand_53 rfl ?_
      refine fg_12_61 (some 25) rfl dX12_shapesStand_54 (co_0 hL12).1 (co_0 hL12).2 (cp_25 hL12) ?_
      refine fg_12_474 (some 29) rfl dX12_shapesStand_57 (co_25 hL12).1 (co_25 hL12).2 (ca_29 hL12).1 ?_
      refine z_iload_n 1 dX12_shapesStand_60 rfl ?_
      obtain ⟨q14, q14e, h⟩ := h
      refine z_aald (some q14) dX12_shapesStand_61 (ca_29 hL12).2.1 (ca_29 hL12).2.2 (by unfold z_rt; decide) o2 q14e ?_
      refine z_aload_n 0 dX12_shapesStand_62 rfl ?_
      refine fg_12_41 (some 8) rfl dX12_shapesStand_63 (co_0 hL12).1 (co_0 hL12).2 (cp_8 hL12) ?_
      refine z_aload_n 2 dX12_shapesStand_66 rfl ?_
      refine z_aload_n 0 dX12_shapesStand_67 rfl ?_
      refine fg_12_61 (some 25) rfl dX12_shapesStand_68 (co_0 hL12).1 (co_0 hL12).2 (cp_25 hL12) ?_
      refine fg_12_327 (some 26) rfl dX12_shapesStand_71 (co_25 hL12).1 (co_25 hL12).2 (ca_26 hL12).1 ?_
      refine z_iconst 1 dX12_shapesStand_74 (by decide) ?_
      refine z_iald (I8 26 1) dX12_shapesStand_75 (ca_26 hL12).2.1 (ca_26 hL12).2.2 (by unfold vp_in; decide) rfl ?_
      obtain ⟨o15, o16, h⟩ := h
      refine z_callV0 (As := [.ref (n0 + 8), .ref (n0 + q3), .int (I8 26 1)]) (st := []) dX12_shapesStand_76 hy_X10_cover o15 o16 (by decide) wg_1102 wg_1103 wg_1104 (Nat.le_refl _) (Nat.le_of_ble_eq_true rfl) (RM0.mono h ?_)
      clear h
      intro vv I17 L18 h
      obtain ⟨r19, rfl, h⟩ := h
      change Z n0 xX12_shapesStand (d + 1) rc rs 79 [(0, .ref (n0 + 0)), (1, .int a1), (2, .ref (n0 + q3))] [.int r19] K10 I17 L18 Q
      refine z_if_ne 84 dX12_shapesStand_79 (by decide) (fun g20 => ?_) (fun g20 => ?_)
      · rw [if_neg g20] at h
        refine z_iinc (j := 1) (a1 + 1) [1, 0, 2] [(0, .ref (n0 + 0)), (1, .int (a1 + 1)), (2, .ref (n0 + q3))] dX12_shapesStand_84 rfl rfl (by decide) rfl ?_
        refine z_goto 2 dX12_shapesStand_87 (by decide) ?_
        refine z_sub [0, 1] rfl ?_
        exact h
      · rw [if_pos g20] at h
        refine z_iconst 0 dX12_shapesStand_82 (by decide) ?_
        exact z_zretb dX12_shapesStand_83 rfl (Or.inl rfl) h
    · rw [if_pos g13] at h
      refine z_iconst 0 dX12_shapesStand_51 (by decide) ?_
      exact z_zretb dX12_shapesStand_52 rfl (Or.inl rfl) h
theorem dX12_layingRefused_0 : decode cX12_layingRefused 0 = .ok (.aload_n 0, 1) := by decide +kernel
theorem dX12_layingRefused_1 : decode cX12_layingRefused 1 = .ok (.getfield 61, 3) := by decide +kernel
theorem dX12_layingRefused_4 : decode cX12_layingRefused 4 = .ok (.getfield 334, 3) := by decide +kernel
theorem dX12_layingRefused_7 : decode cX12_layingRefused 7 = .ok (.ifCond .ne 6, 3) := by decide +kernel
theorem dX12_layingRefused_10 : decode cX12_layingRefused 10 = .ok (.bipush (-5), 2) := by decide +kernel
theorem dX12_layingRefused_12 : decode cX12_layingRefused 12 = .ok (.ireturn, 1) := by decide +kernel
theorem dX12_layingRefused_13 : decode cX12_layingRefused 13 = .ok (.aload_n 0, 1) := by decide +kernel
theorem dX12_layingRefused_14 : decode cX12_layingRefused 14 = .ok (.invokevirtual 356, 3) := by decide +kernel
theorem dX12_layingRefused_17 : decode cX12_layingRefused 17 = .ok (.ifCond .ne 6, 3) := by decide +kernel
theorem dX12_layingRefused_20 : decode cX12_layingRefused 20 = .ok (.bipush (-7), 2) := by decide +kernel
theorem dX12_layingRefused_22 : decode cX12_layingRefused 22 = .ok (.ireturn, 1) := by decide +kernel
theorem dX12_layingRefused_23 : decode cX12_layingRefused 23 = .ok (.aload_n 0, 1) := by decide +kernel
theorem dX12_layingRefused_24 : decode cX12_layingRefused 24 = .ok (.getfield 61, 3) := by decide +kernel
theorem dX12_layingRefused_27 : decode cX12_layingRefused 27 = .ok (.invokevirtual 478, 3) := by decide +kernel
theorem dX12_layingRefused_30 : decode cX12_layingRefused 30 = .ok (.ifCond .eq 7, 3) := by decide +kernel
theorem dX12_layingRefused_33 : decode cX12_layingRefused 33 = .ok (.iconst 0, 1) := by decide +kernel
theorem dX12_layingRefused_34 : decode cX12_layingRefused 34 = .ok (.goto 5, 3) := by decide +kernel
theorem dX12_layingRefused_37 : decode cX12_layingRefused 37 = .ok (.bipush (-3), 2) := by decide +kernel
theorem dX12_layingRefused_39 : decode cX12_layingRefused 39 = .ok (.ireturn, 1) := by decide +kernel
set_option maxRecDepth 100000 in
set_option maxHeartbeats 4000000 in
theorem wp_X12_layingRefused {n0 d : Nat} {K : z_K} {I : z_I} {L : z_L} {Q : z_R}  (hL : CLay K) (h : (if ((I 25 4) : Int32) = 0 then Q (some (.int (-5))) K I L else RM n0 xX12_shapesStand d 0 0 [.ref (n0 + 0)] K I L (fun vv K4 I2 L3 => ∃ r5 : Int32, vv = some (.int r5) ∧ CLay K4 ∧ (if r5 = 0 then Q (some (.int (-7))) K4 I2 L3 else RM0 n0 xX4_findShortest d [.ref (n0 + 25)] K4 I2 L3 (fun vv I8 L9 => ∃ r10 : Int32, vv = some (.int r10) ∧ Q (some (.int (if r10 = 0 then (-3) else 0))) K4 I8 L9))))) : RM n0 xX12_layingRefused (d + 1) 0 0 [.ref (n0 + 0)] K I L Q := by
  refine z_entry (by decide) (Nat.le_of_ble_eq_true rfl) ?_
  change Z n0 xX12_layingRefused (d + 1) 0 0 0 [(0, .ref (n0 + 0))] [] K I L Q
  refine z_aload_n 0 dX12_layingRefused_0 rfl ?_
  refine fg_12_61 (some 25) rfl dX12_layingRefused_1 (co_0 hL).1 (co_0 hL).2 (cp_25 hL) ?_
  refine fg_12_334 (I 25 4) rfl dX12_layingRefused_4 (co_25 hL).1 (co_25 hL).2 rfl ?_
  refine z_if_ne 13 dX12_layingRefused_7 (by decide) (fun g1 => ?_) (fun g1 => ?_)
  · rw [if_neg g1] at h
    refine z_aload_n 0 dX12_layingRefused_13 rfl ?_
    refine z_callV (rc := 0) (rs := 0) (mc1 := 0) (ms1 := 0) (As := []) (st := []) dX12_layingRefused_14 hy_X12_shapesStand (co_0 hL).1 (co_0 hL).2 (by decide) wg_1152 wg_1154 wg_40 (Nat.le_refl _) (Nat.le_of_ble_eq_true rfl) (RM.mono h ?_)
    clear h
    intro vv K4 I2 L3 h
    obtain ⟨r5, rfl, h⟩ := h
    obtain ⟨hL6, h⟩ := h
    change Z n0 xX12_layingRefused (d + 1) 0 0 17 [(0, .ref (n0 + 0))] [.int r5] K4 I2 L3 Q
    refine z_if_ne 23 dX12_layingRefused_17 (by decide) (fun g7 => ?_) (fun g7 => ?_)
    · rw [if_neg g7] at h
      refine z_aload_n 0 dX12_layingRefused_23 rfl ?_
      refine fg_12_61 (some 25) rfl dX12_layingRefused_24 (co_0 hL6).1 (co_0 hL6).2 (cp_25 hL6) ?_
      refine z_callV0 (As := []) (st := []) dX12_layingRefused_27 hy_X4_findShortest (co_25 hL6).1 (co_25 hL6).2 (by decide) wg_1156 wg_1157 wg_1158 (Nat.le_refl _) (Nat.le_of_ble_eq_true rfl) (RM0.mono h ?_)
      clear h
      intro vv I8 L9 h
      obtain ⟨r10, rfl, h⟩ := h
      change Z n0 xX12_layingRefused (d + 1) 0 0 30 [(0, .ref (n0 + 0))] [.int r10] K4 I8 L9 Q
      have key12 : Z n0 xX12_layingRefused (d + 1) 0 0 39 [] [.int (if r10 = 0 then (-3) else 0)] K4 I8 L9 Q := by
        exact z_iret dX12_layingRefused_39 rfl h
      refine z_if_eq 37 dX12_layingRefused_30 (by decide) (fun g11 => ?_) (fun g11 => ?_)
      · refine z_bipush (-3) dX12_layingRefused_37 (by decide) ?_
        have ee : ((if r10 = 0 then (-3) else 0) : Int32) = (-3) := by rw [if_pos g11]
        rw [ee] at key12
        clear ee
        refine z_sub [] rfl ?_
        exact key12
      · refine z_iconst 0 dX12_layingRefused_33 (by decide) ?_
        refine z_goto 39 dX12_layingRefused_34 (by decide) ?_
        have ee : ((if r10 = 0 then (-3) else 0) : Int32) = 0 := by rw [if_neg g11]
        rw [ee] at key12
        clear ee
        refine z_sub [] rfl ?_
        exact key12
    · rw [if_pos g7] at h
      refine z_bipush (-7) dX12_layingRefused_20 (by decide) ?_
      exact z_iret dX12_layingRefused_22 rfl h
  · rw [if_pos g1] at h
    refine z_bipush (-5) dX12_layingRefused_10 (by decide) ?_
    exact z_iret dX12_layingRefused_12 rfl h
theorem dX12_agrees_0 : decode cX12_agrees 0 = .ok (.aload_n 1, 1) := by decide +kernel
theorem dX12_agrees_1 : decode cX12_agrees 1 = .ok (.getfield 481, 3) := by decide +kernel
theorem dX12_agrees_4 : decode cX12_agrees 4 = .ok (.iload_n 2, 1) := by decide +kernel
theorem dX12_agrees_5 : decode cX12_agrees 5 = .ok (.iaload, 1) := by decide +kernel
theorem dX12_agrees_6 : decode cX12_agrees 6 = .ok (.istore_n 3, 1) := by decide +kernel
theorem dX12_agrees_7 : decode cX12_agrees 7 = .ok (.aload_n 1, 1) := by decide +kernel
theorem dX12_agrees_8 : decode cX12_agrees 8 = .ok (.getfield 484, 3) := by decide +kernel
theorem dX12_agrees_11 : decode cX12_agrees 11 = .ok (.iload_n 3, 1) := by decide +kernel
theorem dX12_agrees_12 : decode cX12_agrees 12 = .ok (.aaload, 1) := by decide +kernel
theorem dX12_agrees_13 : decode cX12_agrees 13 = .ok (.astore 4, 2) := by decide +kernel
theorem dX12_agrees_15 : decode cX12_agrees 15 = .ok (.aload_n 1, 1) := by decide +kernel
theorem dX12_agrees_16 : decode cX12_agrees 16 = .ok (.getfield 485, 3) := by decide +kernel
theorem dX12_agrees_19 : decode cX12_agrees 19 = .ok (.iload_n 2, 1) := by decide +kernel
theorem dX12_agrees_20 : decode cX12_agrees 20 = .ok (.iaload, 1) := by decide +kernel
theorem dX12_agrees_21 : decode cX12_agrees 21 = .ok (.istore 5, 2) := by decide +kernel
theorem dX12_agrees_23 : decode cX12_agrees 23 = .ok (.aload_n 1, 1) := by decide +kernel
theorem dX12_agrees_24 : decode cX12_agrees 24 = .ok (.getfield 488, 3) := by decide +kernel
theorem dX12_agrees_27 : decode cX12_agrees 27 = .ok (.iload_n 2, 1) := by decide +kernel
theorem dX12_agrees_28 : decode cX12_agrees 28 = .ok (.iaload, 1) := by decide +kernel
theorem dX12_agrees_29 : decode cX12_agrees 29 = .ok (.ifCond .ne 19, 3) := by decide +kernel
theorem dX12_agrees_32 : decode cX12_agrees 32 = .ok (.aload 4, 2) := by decide +kernel
theorem dX12_agrees_34 : decode cX12_agrees 34 = .ok (.getfield 491, 3) := by decide +kernel
theorem dX12_agrees_37 : decode cX12_agrees 37 = .ok (.iload 5, 2) := by decide +kernel
theorem dX12_agrees_39 : decode cX12_agrees 39 = .ok (.if_icmp .ne 7, 3) := by decide +kernel
theorem dX12_agrees_42 : decode cX12_agrees 42 = .ok (.iconst 1, 1) := by decide +kernel
theorem dX12_agrees_43 : decode cX12_agrees 43 = .ok (.goto 4, 3) := by decide +kernel
theorem dX12_agrees_46 : decode cX12_agrees 46 = .ok (.iconst 0, 1) := by decide +kernel
theorem dX12_agrees_47 : decode cX12_agrees 47 = .ok (.ireturn, 1) := by decide +kernel
theorem dX12_agrees_48 : decode cX12_agrees 48 = .ok (.aload_n 0, 1) := by decide +kernel
theorem dX12_agrees_49 : decode cX12_agrees 49 = .ok (.aload_n 1, 1) := by decide +kernel
theorem dX12_agrees_50 : decode cX12_agrees 50 = .ok (.getfield 494, 3) := by decide +kernel
theorem dX12_agrees_53 : decode cX12_agrees 53 = .ok (.iload_n 3, 1) := by decide +kernel
theorem dX12_agrees_54 : decode cX12_agrees 54 = .ok (.iaload, 1) := by decide +kernel
theorem dX12_agrees_55 : decode cX12_agrees 55 = .ok (.aload_n 1, 1) := by decide +kernel
theorem dX12_agrees_56 : decode cX12_agrees 56 = .ok (.getfield 393, 3) := by decide +kernel
theorem dX12_agrees_59 : decode cX12_agrees 59 = .ok (.invokevirtual 231, 3) := by decide +kernel
theorem dX12_agrees_62 : decode cX12_agrees 62 = .ok (.aload_n 0, 1) := by decide +kernel
theorem dX12_agrees_63 : decode cX12_agrees 63 = .ok (.getfield 41, 3) := by decide +kernel
theorem dX12_agrees_66 : decode cX12_agrees 66 = .ok (.aload 4, 2) := by decide +kernel
theorem dX12_agrees_68 : decode cX12_agrees 68 = .ok (.invokevirtual 235, 3) := by decide +kernel
theorem dX12_agrees_71 : decode cX12_agrees 71 = .ok (.ifCond .ne 5, 3) := by decide +kernel
theorem dX12_agrees_74 : decode cX12_agrees 74 = .ok (.iconst 0, 1) := by decide +kernel
theorem dX12_agrees_75 : decode cX12_agrees 75 = .ok (.ireturn, 1) := by decide +kernel
theorem dX12_agrees_76 : decode cX12_agrees 76 = .ok (.aload_n 1, 1) := by decide +kernel
theorem dX12_agrees_77 : decode cX12_agrees 77 = .ok (.getfield 488, 3) := by decide +kernel
theorem dX12_agrees_80 : decode cX12_agrees 80 = .ok (.iload_n 2, 1) := by decide +kernel
theorem dX12_agrees_81 : decode cX12_agrees 81 = .ok (.iaload, 1) := by decide +kernel
theorem dX12_agrees_82 : decode cX12_agrees 82 = .ok (.iconst 1, 1) := by decide +kernel
theorem dX12_agrees_83 : decode cX12_agrees 83 = .ok (.if_icmp .ne 25, 3) := by decide +kernel
theorem dX12_agrees_86 : decode cX12_agrees 86 = .ok (.aload_n 0, 1) := by decide +kernel
theorem dX12_agrees_87 : decode cX12_agrees 87 = .ok (.getfield 41, 3) := by decide +kernel
theorem dX12_agrees_90 : decode cX12_agrees 90 = .ok (.aload 4, 2) := by decide +kernel
theorem dX12_agrees_92 : decode cX12_agrees 92 = .ok (.iconst 0, 1) := by decide +kernel
theorem dX12_agrees_93 : decode cX12_agrees 93 = .ok (.iconst 0, 1) := by decide +kernel
theorem dX12_agrees_94 : decode cX12_agrees 94 = .ok (.invokevirtual 249, 3) := by decide +kernel
theorem dX12_agrees_97 : decode cX12_agrees 97 = .ok (.iload 5, 2) := by decide +kernel
theorem dX12_agrees_99 : decode cX12_agrees 99 = .ok (.if_icmp .ne 7, 3) := by decide +kernel
theorem dX12_agrees_102 : decode cX12_agrees 102 = .ok (.iconst 1, 1) := by decide +kernel
theorem dX12_agrees_103 : decode cX12_agrees 103 = .ok (.goto 4, 3) := by decide +kernel
theorem dX12_agrees_106 : decode cX12_agrees 106 = .ok (.iconst 0, 1) := by decide +kernel
theorem dX12_agrees_107 : decode cX12_agrees 107 = .ok (.ireturn, 1) := by decide +kernel
theorem dX12_agrees_108 : decode cX12_agrees 108 = .ok (.aload_n 0, 1) := by decide +kernel
theorem dX12_agrees_109 : decode cX12_agrees 109 = .ok (.getfield 41, 3) := by decide +kernel
theorem dX12_agrees_112 : decode cX12_agrees 112 = .ok (.aload 4, 2) := by decide +kernel
theorem dX12_agrees_114 : decode cX12_agrees 114 = .ok (.invokevirtual 252, 3) := by decide +kernel
theorem dX12_agrees_117 : decode cX12_agrees 117 = .ok (.iload 5, 2) := by decide +kernel
theorem dX12_agrees_119 : decode cX12_agrees 119 = .ok (.i2l, 1) := by decide +kernel
theorem dX12_agrees_120 : decode cX12_agrees 120 = .ok (.lcmp, 1) := by decide +kernel
theorem dX12_agrees_121 : decode cX12_agrees 121 = .ok (.ifCond .ne 7, 3) := by decide +kernel
theorem dX12_agrees_124 : decode cX12_agrees 124 = .ok (.iconst 1, 1) := by decide +kernel
theorem dX12_agrees_125 : decode cX12_agrees 125 = .ok (.goto 4, 3) := by decide +kernel
theorem dX12_agrees_128 : decode cX12_agrees 128 = .ok (.iconst 0, 1) := by decide +kernel
theorem dX12_agrees_129 : decode cX12_agrees 129 = .ok (.ireturn, 1) := by decide +kernel
set_option maxRecDepth 100000 in
set_option maxHeartbeats 4000000 in
theorem wp_X12_agrees {n0 d : Nat} {K : z_K} {I : z_I} {L : z_L} {Q : z_R} {p0 : Nat} {p1 : Int32} (hL : CLay K) (h : p0 < K.1 ∧ (K.2.1 p0).1 = 3 ∧ (∃ q3, K.2.2 p0 4 = some q3 ∧ ∃ n4, q3 < K.1 ∧ K.2.1 q3 = (20, n4) ∧ vp_in p1 n4 ∧ (∃ q8, K.2.2 p0 1 = some q8 ∧ ∃ n9, q8 < K.1 ∧ K.2.1 q8 = (35, n9) ∧ vp_in (I q3 p1.toNatClampNeg) n9 ∧ (∃ q13, K.2.2 q8 ((I q3 p1.toNatClampNeg).toNatClampNeg) = some q13 ∧ (∃ q14, K.2.2 p0 6 = some q14 ∧ ∃ n15, q14 < K.1 ∧ K.2.1 q14 = (20, n15) ∧ vp_in p1 n15 ∧ (∃ q19, K.2.2 p0 5 = some q19 ∧ ∃ n20, q19 < K.1 ∧ K.2.1 q19 = (20, n20) ∧ vp_in p1 n20 ∧ (if ((I q19 p1.toNatClampNeg) : Int32) = 0 then q13 < K.1 ∧ (K.2.1 q13).1 = 5 ∧ Q (some (.int (if ((I q13 2) : Int32) = (I q14 p1.toNatClampNeg) then 1 else 0))) K I L else (∃ q25, K.2.2 p0 2 = some q25 ∧ ∃ n26, q25 < K.1 ∧ K.2.1 q25 = (20, n26) ∧ vp_in (I q3 p1.toNatClampNeg) n26 ∧ RM n0 xX12_drawAt d 0 0 [.ref (n0 + 0), .int (I q25 ((I q3 p1.toNatClampNeg).toNatClampNeg)), .int (I p0 0)] K I L (fun vv K32 I30 L31 => vv = none ∧ CLay K32 ∧ RM n0 xX2_sound d 0 0 [.ref (n0 + 8), .ref (n0 + q13)] K32 I30 L31 (fun vv K36 I34 L35 => ∃ r37 : Int32, vv = some (.int r37) ∧ CLay K36 ∧ (if r37 = 0 then Q (some (.int 0)) K36 I34 L35 else p0 < K36.1 ∧ (K36.2.1 p0).1 = 3 ∧ (∃ q42, K36.2.2 p0 5 = some q42 ∧ ∃ n43, q42 < K36.1 ∧ K36.2.1 q42 = (20, n43) ∧ vp_in p1 n43 ∧ (if ((I34 q42 p1.toNatClampNeg) : Int32) = 1 then RM0 n0 xX2_lengthOf d [.ref (n0 + 8), .ref (n0 + q13), .int 0, .int 0] K36 I34 L35 (fun vv I52 L53 => ∃ r54 : Int32, vv = some (.int r54) ∧ Q (some (.int (if r54 = (I q14 p1.toNatClampNeg) then 1 else 0))) K36 I52 L53) else RM0 n0 xX2_areaOf d [.ref (n0 + 8), .ref (n0 + q13)] K36 I34 L35 (fun vv I48 L49 => ∃ r50 : Int64, vv = some (.long r50) ∧ (if r50 = (((I q14 p1.toNatClampNeg) : Int32).toInt64) then Q (some (.int 1)) K36 I48 L49 else Q (some (.int 0)) K36 I48 L49))))))))))))))) : RM n0 xX12_agrees (d + 1) 0 0 [.ref (n0 + 0), .ref (n0 + p0), .int p1] K I L Q := by
  refine z_entry (by decide) (Nat.le_of_ble_eq_true rfl) ?_
  change Z n0 xX12_agrees (d + 1) 0 0 0 [(0, .ref (n0 + 0)), (1, .ref (n0 + p0)), (2, .int p1)] [] K I L Q
  refine z_aload_n 1 dX12_agrees_0 rfl ?_
  obtain ⟨o1, o2, h⟩ := h
  obtain ⟨q3, q3e, h⟩ := h
  refine fg_12_481 (some q3) rfl dX12_agrees_1 o1 o2 q3e ?_
  refine z_iload_n 2 dX12_agrees_4 rfl ?_
  obtain ⟨n4, o5, o6, o7, h⟩ := h
  refine z_iald (I q3 p1.toNatClampNeg) dX12_agrees_5 o5 o6 o7 rfl ?_
  refine z_istore_n [1, 2, 3, 0] [(0, .ref (n0 + 0)), (1, .ref (n0 + p0)), (2, .int p1), (3, .int (I q3 p1.toNatClampNeg))] dX12_agrees_6 (by decide) rfl ?_
  refine z_aload_n 1 dX12_agrees_7 rfl ?_
  obtain ⟨q8, q8e, h⟩ := h
  refine fg_12_484 (some q8) rfl dX12_agrees_8 o1 o2 q8e ?_
  refine z_iload_n 3 dX12_agrees_11 rfl ?_
  obtain ⟨n9, o10, o11, o12, h⟩ := h
  obtain ⟨q13, q13e, h⟩ := h
  refine z_aald (some q13) dX12_agrees_12 o10 o11 (by unfold z_rt; decide) o12 q13e ?_
  refine z_astore [1, 2, 3, 4, 0] [(0, .ref (n0 + 0)), (1, .ref (n0 + p0)), (2, .int p1), (3, .int (I q3 p1.toNatClampNeg)), (4, .ref (n0 + q13))] dX12_agrees_13 (by decide) rfl ?_
  refine z_aload_n 1 dX12_agrees_15 rfl ?_
  obtain ⟨q14, q14e, h⟩ := h
  refine fg_12_485 (some q14) rfl dX12_agrees_16 o1 o2 q14e ?_
  refine z_iload_n 2 dX12_agrees_19 rfl ?_
  obtain ⟨n15, o16, o17, o18, h⟩ := h
  refine z_iald (I q14 p1.toNatClampNeg) dX12_agrees_20 o16 o17 o18 rfl ?_
  refine z_istore [1, 2, 3, 4, 5, 0] [(0, .ref (n0 + 0)), (1, .ref (n0 + p0)), (2, .int p1), (3, .int (I q3 p1.toNatClampNeg)), (4, .ref (n0 + q13)), (5, .int (I q14 p1.toNatClampNeg))] dX12_agrees_21 (by decide) rfl ?_
  refine z_aload_n 1 dX12_agrees_23 rfl ?_
  obtain ⟨q19, q19e, h⟩ := h
  refine fg_12_488 (some q19) rfl dX12_agrees_24 o1 o2 q19e ?_
  refine z_iload_n 2 dX12_agrees_27 rfl ?_
  obtain ⟨n20, o21, o22, o23, h⟩ := h
  refine z_iald (I q19 p1.toNatClampNeg) dX12_agrees_28 o21 o22 o23 rfl ?_
  refine z_if_ne 48 dX12_agrees_29 (by decide) (fun g24 => ?_) (fun g24 => ?_)
  · rw [if_neg g24] at h
    refine z_aload_n 0 dX12_agrees_48 rfl ?_
    refine z_aload_n 1 dX12_agrees_49 rfl ?_
    obtain ⟨q25, q25e, h⟩ := h
    refine fg_12_494 (some q25) rfl dX12_agrees_50 o1 o2 q25e ?_
    refine z_iload_n 3 dX12_agrees_53 rfl ?_
    obtain ⟨n26, o27, o28, o29, h⟩ := h
    refine z_iald (I q25 ((I q3 p1.toNatClampNeg).toNatClampNeg)) dX12_agrees_54 o27 o28 o29 rfl ?_
    refine z_aload_n 1 dX12_agrees_55 rfl ?_
    refine fg_12_393 (I p0 0) rfl dX12_agrees_56 o1 o2 rfl ?_
    refine z_callV (rc := 0) (rs := 0) (mc1 := 0) (ms1 := 0) (As := [.int (I q25 ((I q3 p1.toNatClampNeg).toNatClampNeg)), .int (I p0 0)]) (st := []) dX12_agrees_59 hy_X12_drawAt (co_0 hL).1 (co_0 hL).2 (by decide) wg_831 wg_833 wg_19 (Nat.le_refl _) (Nat.le_of_ble_eq_true rfl) (RM.mono h ?_)
    clear h
    intro vv K32 I30 L31 h
    obtain ⟨rfl, h⟩ := h
    obtain ⟨hL33, h⟩ := h
    change Z n0 xX12_agrees (d + 1) 0 0 62 [(0, .ref (n0 + 0)), (1, .ref (n0 + p0)), (2, .int p1), (3, .int (I q3 p1.toNatClampNeg)), (4, .ref (n0 + q13)), (5, .int (I q14 p1.toNatClampNeg))] [] K32 I30 L31 Q
    refine z_aload_n 0 dX12_agrees_62 rfl ?_
    refine fg_12_41 (some 8) rfl dX12_agrees_63 (co_0 hL33).1 (co_0 hL33).2 (cp_8 hL33) ?_
    refine z_aload 4 dX12_agrees_66 rfl ?_
    refine z_callV (rc := 0) (rs := 0) (mc1 := 0) (ms1 := 0) (As := [.ref (n0 + q13)]) (st := []) dX12_agrees_68 hy_X2_sound (co_8 hL33).1 (co_8 hL33).2 (by decide) wg_839 wg_840 wg_841 (Nat.le_refl _) (Nat.le_of_ble_eq_true rfl) (RM.mono h ?_)
    clear h
    intro vv K36 I34 L35 h
    obtain ⟨r37, rfl, h⟩ := h
    obtain ⟨hL38, h⟩ := h
    change Z n0 xX12_agrees (d + 1) 0 0 71 [(0, .ref (n0 + 0)), (1, .ref (n0 + p0)), (2, .int p1), (3, .int (I q3 p1.toNatClampNeg)), (4, .ref (n0 + q13)), (5, .int (I q14 p1.toNatClampNeg))] [.int r37] K36 I34 L35 Q
    refine z_if_ne 76 dX12_agrees_71 (by decide) (fun g39 => ?_) (fun g39 => ?_)
    · rw [if_neg g39] at h
      refine z_aload_n 1 dX12_agrees_76 rfl ?_
      obtain ⟨o40, o41, h⟩ := h
      obtain ⟨q42, q42e, h⟩ := h
      refine fg_12_488 (some q42) rfl dX12_agrees_77 o40 o41 q42e ?_
      refine z_iload_n 2 dX12_agrees_80 rfl ?_
      obtain ⟨n43, o44, o45, o46, h⟩ := h
      refine z_iald (I34 q42 p1.toNatClampNeg) dX12_agrees_81 o44 o45 o46 rfl ?_
      refine z_iconst 1 dX12_agrees_82 (by decide) ?_
      refine z_icmp_ne 108 dX12_agrees_83 (by decide) (fun g47 => ?_) (fun g47 => ?_)
      · rw [if_neg g47] at h
        refine z_aload_n 0 dX12_agrees_108 rfl ?_
        refine fg_12_41 (some 8) rfl dX12_agrees_109 (co_0 hL38).1 (co_0 hL38).2 (cp_8 hL38) ?_
        refine z_aload 4 dX12_agrees_112 rfl ?_
        refine z_callV0 (As := [.ref (n0 + q13)]) (st := []) dX12_agrees_114 hy_X2_areaOf (co_8 hL38).1 (co_8 hL38).2 (by decide) wg_917 wg_918 wg_919 (Nat.le_refl _) (Nat.le_of_ble_eq_true rfl) (RM0.mono h ?_)
        clear h
        intro vv I48 L49 h
        obtain ⟨r50, rfl, h⟩ := h
        change Z n0 xX12_agrees (d + 1) 0 0 117 [(0, .ref (n0 + 0)), (1, .ref (n0 + p0)), (2, .int p1), (3, .int (I q3 p1.toNatClampNeg)), (4, .ref (n0 + q13)), (5, .int (I q14 p1.toNatClampNeg))] [.long r50] K36 I48 L49 Q
        refine z_iload 5 dX12_agrees_117 rfl ?_
        refine z_i2l dX12_agrees_119 ?_
        refine z_lif_ne 128 dX12_agrees_120 dX12_agrees_121 (by decide) (fun g51 => ?_) (fun g51 => ?_)
        · rw [if_neg g51] at h
          refine z_iconst 0 dX12_agrees_128 (by decide) ?_
          exact z_zretb dX12_agrees_129 rfl (Or.inl rfl) h
        · rw [if_pos g51] at h
          refine z_iconst 1 dX12_agrees_124 (by decide) ?_
          refine z_goto 129 dX12_agrees_125 (by decide) ?_
          exact z_zretb dX12_agrees_129 rfl (Or.inr rfl) h
      · rw [if_pos g47] at h
        refine z_aload_n 0 dX12_agrees_86 rfl ?_
        refine fg_12_41 (some 8) rfl dX12_agrees_87 (co_0 hL38).1 (co_0 hL38).2 (cp_8 hL38) ?_
        refine z_aload 4 dX12_agrees_90 rfl ?_
        refine z_iconst 0 dX12_agrees_92 (by decide) ?_
        refine z_iconst 0 dX12_agrees_93 (by decide) ?_
        refine z_callV0 (As := [.ref (n0 + q13), .int 0, .int 0]) (st := []) dX12_agrees_94 hy_X2_lengthOf (co_8 hL38).1 (co_8 hL38).2 (by decide) wg_895 wg_896 wg_897 (Nat.le_refl _) (Nat.le_of_ble_eq_true rfl) (RM0.mono h ?_)
        clear h
        intro vv I52 L53 h
        obtain ⟨r54, rfl, h⟩ := h
        change Z n0 xX12_agrees (d + 1) 0 0 97 [(0, .ref (n0 + 0)), (1, .ref (n0 + p0)), (2, .int p1), (3, .int (I q3 p1.toNatClampNeg)), (4, .ref (n0 + q13)), (5, .int (I q14 p1.toNatClampNeg))] [.int r54] K36 I52 L53 Q
        refine z_iload 5 dX12_agrees_97 rfl ?_
        have key56 : Z n0 xX12_agrees (d + 1) 0 0 107 [] [.int (if r54 = (I q14 p1.toNatClampNeg) then 1 else 0)] K36 I52 L53 Q := by
          exact z_zretb dX12_agrees_107 rfl (z_bite (by repeat' (first | exact Or.inl rfl | exact Or.inr rfl | split))) h
        refine z_icmp_ne 106 dX12_agrees_99 (by decide) (fun g55 => ?_) (fun g55 => ?_)
        · refine z_iconst 0 dX12_agrees_106 (by decide) ?_
          have ee : ((if r54 = (I q14 p1.toNatClampNeg) then 1 else 0) : Int32) = 0 := by rw [if_neg g55]
          rw [ee] at key56
          clear ee
          refine z_sub [] rfl ?_
          exact key56
        · refine z_iconst 1 dX12_agrees_102 (by decide) ?_
          refine z_goto 107 dX12_agrees_103 (by decide) ?_
          have ee : ((if r54 = (I q14 p1.toNatClampNeg) then 1 else 0) : Int32) = 1 := by rw [if_pos g55]
          rw [ee] at key56
          clear ee
          refine z_sub [] rfl ?_
          exact key56
    · rw [if_pos g39] at h
      refine z_iconst 0 dX12_agrees_74 (by decide) ?_
      exact z_zretb dX12_agrees_75 rfl (Or.inl rfl) h
  · rw [if_pos g24] at h
    refine z_aload 4 dX12_agrees_32 rfl ?_
    obtain ⟨o57, o58, h⟩ := h
    refine fg_12_491 (I q13 2) rfl dX12_agrees_34 o57 o58 rfl ?_
    refine z_iload 5 dX12_agrees_37 rfl ?_
    have key60 : Z n0 xX12_agrees (d + 1) 0 0 47 [] [.int (if ((I q13 2) : Int32) = (I q14 p1.toNatClampNeg) then 1 else 0)] K I L Q := by
      exact z_zretb dX12_agrees_47 rfl (z_bite (by repeat' (first | exact Or.inl rfl | exact Or.inr rfl | split))) h
    refine z_icmp_ne 46 dX12_agrees_39 (by decide) (fun g59 => ?_) (fun g59 => ?_)
    · refine z_iconst 0 dX12_agrees_46 (by decide) ?_
      have ee : ((if ((I q13 2) : Int32) = (I q14 p1.toNatClampNeg) then 1 else 0) : Int32) = 0 := by rw [if_neg g59]
      rw [ee] at key60
      clear ee
      refine z_sub [] rfl ?_
      exact key60
    · refine z_iconst 1 dX12_agrees_42 (by decide) ?_
      refine z_goto 47 dX12_agrees_43 (by decide) ?_
      have ee : ((if ((I q13 2) : Int32) = (I q14 p1.toNatClampNeg) then 1 else 0) : Int32) = 1 := by rw [if_pos g59]
      rw [ee] at key60
      clear ee
      refine z_sub [] rfl ?_
      exact key60
theorem dX12_rootOf_0 : decode cX12_rootOf 0 = .ok (.lconst 0, 1) := by decide +kernel
theorem dX12_rootOf_1 : decode cX12_rootOf 1 = .ok (.lstore_n 2, 1) := by decide +kernel
theorem dX12_rootOf_2 : decode cX12_rootOf 2 = .ok (.ldc2_w 495, 3) := by decide +kernel
theorem dX12_rootOf_5 : decode cX12_rootOf 5 = .ok (.lstore 4, 2) := by decide +kernel
theorem dX12_rootOf_7 : decode cX12_rootOf 7 = .ok (.lload 4, 2) := by decide +kernel
theorem dX12_rootOf_9 : decode cX12_rootOf 9 = .ok (.lconst 0, 1) := by decide +kernel
theorem dX12_rootOf_10 : decode cX12_rootOf 10 = .ok (.lcmp, 1) := by decide +kernel
theorem dX12_rootOf_11 : decode cX12_rootOf 11 = .ok (.ifCond .le 31, 3) := by decide +kernel
theorem dX12_rootOf_14 : decode cX12_rootOf 14 = .ok (.lload_n 2, 1) := by decide +kernel
theorem dX12_rootOf_15 : decode cX12_rootOf 15 = .ok (.lload 4, 2) := by decide +kernel
theorem dX12_rootOf_17 : decode cX12_rootOf 17 = .ok (.ladd, 1) := by decide +kernel
theorem dX12_rootOf_18 : decode cX12_rootOf 18 = .ok (.lstore 6, 2) := by decide +kernel
theorem dX12_rootOf_20 : decode cX12_rootOf 20 = .ok (.lload 6, 2) := by decide +kernel
theorem dX12_rootOf_22 : decode cX12_rootOf 22 = .ok (.lload 6, 2) := by decide +kernel
theorem dX12_rootOf_24 : decode cX12_rootOf 24 = .ok (.lmul, 1) := by decide +kernel
theorem dX12_rootOf_25 : decode cX12_rootOf 25 = .ok (.lload_n 0, 1) := by decide +kernel
theorem dX12_rootOf_26 : decode cX12_rootOf 26 = .ok (.lcmp, 1) := by decide +kernel
theorem dX12_rootOf_27 : decode cX12_rootOf 27 = .ok (.ifCond .gt 6, 3) := by decide +kernel
theorem dX12_rootOf_30 : decode cX12_rootOf 30 = .ok (.lload 6, 2) := by decide +kernel
theorem dX12_rootOf_32 : decode cX12_rootOf 32 = .ok (.lstore_n 2, 1) := by decide +kernel
theorem dX12_rootOf_33 : decode cX12_rootOf 33 = .ok (.lload 4, 2) := by decide +kernel
theorem dX12_rootOf_35 : decode cX12_rootOf 35 = .ok (.iconst 1, 1) := by decide +kernel
theorem dX12_rootOf_36 : decode cX12_rootOf 36 = .ok (.lshr, 1) := by decide +kernel
theorem dX12_rootOf_37 : decode cX12_rootOf 37 = .ok (.lstore 4, 2) := by decide +kernel
theorem dX12_rootOf_39 : decode cX12_rootOf 39 = .ok (.goto (-32), 3) := by decide +kernel
theorem dX12_rootOf_42 : decode cX12_rootOf 42 = .ok (.lload_n 2, 1) := by decide +kernel
theorem dX12_rootOf_43 : decode cX12_rootOf 43 = .ok (.lreturn, 1) := by decide +kernel
set_option maxRecDepth 100000 in
set_option maxHeartbeats 4000000 in
theorem wp_X12_rootOf {n0 d : Nat} {K : z_K} {I : z_I} {L : z_L} {Q : z_q} {p0 : Int64} (hL : CLay K) (h : Z n0 xX12_rootOf d 0 0 7 [(0, .long p0), (2, .long 0), (4, .long 1073741824)] [] K I L (z_q0 K Q)) : RM0 n0 xX12_rootOf d [.long p0] K I L Q := by
  refine z_entry0 (by decide) (Nat.le_of_ble_eq_true rfl) ?_
  change Z n0 xX12_rootOf d 0 0 0 [(0, .long p0)] [] K I L (z_q0 K Q)
  refine z_lconst 0 dX12_rootOf_0 (by decide) ?_
  refine z_lstore_n [1, 0] [(0, .long p0), (2, .long 0)] dX12_rootOf_1 (by decide) rfl ?_
  refine z_ldc2_w 1073741824 dX12_rootOf_2 wg_863 ?_
  refine z_lstore [1, 2, 0] [(0, .long p0), (2, .long 0), (4, .long 1073741824)] dX12_rootOf_5 (by decide) rfl ?_
  exact h
set_option maxRecDepth 100000 in
set_option maxHeartbeats 4000000 in
theorem wp_X12_rootOf_7 {n0 d : Nat} {rc rs : Nat} {K : z_K} {I : z_I} {L : z_L} {Q : z_q} {a0 : Int64} {a2 : Int64} {a4 : Int64} (hL : CLay K) (h : (if 0 < a4 then (if a0 < (((a2 + a4) * (a2 + a4)) : Int64) then Z n0 xX12_rootOf d rc rs 7 [(0, .long a0), (2, .long a2), (4, .long ((a4 : Int64) >>> ((1 : Int32).toInt64 &&& 63 : Int64)))] [] K I L (z_q0 K Q) else Z n0 xX12_rootOf d rc rs 7 [(0, .long a0), (2, .long (a2 + a4)), (4, .long ((a4 : Int64) >>> ((1 : Int32).toInt64 &&& 63 : Int64)))] [] K I L (z_q0 K Q)) else Q (some (.long a2)) I L)) : Z n0 xX12_rootOf d rc rs 7 [(0, .long a0), (2, .long a2), (4, .long a4)] [] K I L (z_q0 K Q) := by
  refine z_lload 2 dX12_rootOf_7 rfl ?_
  refine z_lconst 0 dX12_rootOf_9 (by decide) ?_
  refine z_lif_le 42 dX12_rootOf_10 dX12_rootOf_11 (by decide) (fun g1 => ?_) (fun g1 => ?_)
  · rw [if_neg g1] at h
    refine z_lload_n 1 dX12_rootOf_42 rfl ?_
    exact z_lret dX12_rootOf_43 rfl ⟨rfl, h⟩
  · rw [if_pos g1] at h
    refine z_lload_n 1 dX12_rootOf_14 rfl ?_
    refine z_lload 2 dX12_rootOf_15 rfl ?_
    refine z_ladd dX12_rootOf_17 ?_
    refine z_lstore [1, 2, 3, 0] [(0, .long a0), (2, .long a2), (4, .long a4), (6, .long (a2 + a4))] dX12_rootOf_18 (by decide) rfl ?_
    refine z_lload 3 dX12_rootOf_20 rfl ?_
    refine z_lload 3 dX12_rootOf_22 rfl ?_
    refine z_lmul dX12_rootOf_24 ?_
    refine z_lload_n 0 dX12_rootOf_25 rfl ?_
    refine z_lif_gt 33 dX12_rootOf_26 dX12_rootOf_27 (by decide) (fun g2 => ?_) (fun g2 => ?_)
    · rw [if_pos g2] at h
      refine z_lload 2 dX12_rootOf_33 rfl ?_
      refine z_iconst 1 dX12_rootOf_35 (by decide) ?_
      refine z_lshr dX12_rootOf_36 ?_
      refine z_lstore [1, 2, 0, 3] [(0, .long a0), (2, .long a2), (4, .long ((a4 : Int64) >>> ((1 : Int32).toInt64 &&& 63 : Int64))), (6, .long (a2 + a4))] dX12_rootOf_37 (by decide) rfl ?_
      refine z_goto 7 dX12_rootOf_39 (by decide) ?_
      refine z_sub [0, 1, 2] rfl ?_
      exact h
    · rw [if_neg g2] at h
      refine z_lload 3 dX12_rootOf_30 rfl ?_
      refine z_lstore_n [1, 0, 2, 3] [(0, .long a0), (2, .long (a2 + a4)), (4, .long a4), (6, .long (a2 + a4))] dX12_rootOf_32 (by decide) rfl ?_
      refine z_lload 2 dX12_rootOf_33 rfl ?_
      refine z_iconst 1 dX12_rootOf_35 (by decide) ?_
      refine z_lshr dX12_rootOf_36 ?_
      refine z_lstore [1, 2, 0, 3] [(0, .long a0), (2, .long (a2 + a4)), (4, .long ((a4 : Int64) >>> ((1 : Int32).toInt64 &&& 63 : Int64))), (6, .long (a2 + a4))] dX12_rootOf_37 (by decide) rfl ?_
      refine z_goto 7 dX12_rootOf_39 (by decide) ?_
      refine z_sub [0, 1, 2] rfl ?_
      exact h
theorem dJ6_bitCount_0f7a4_0 : decode cJ6_bitCount_0f7a4 0 = .ok (.iload_n 0, 1) := by decide +kernel
theorem dJ6_bitCount_0f7a4_1 : decode cJ6_bitCount_0f7a4 1 = .ok (.iload_n 0, 1) := by decide +kernel
theorem dJ6_bitCount_0f7a4_2 : decode cJ6_bitCount_0f7a4 2 = .ok (.iconst 1, 1) := by decide +kernel
theorem dJ6_bitCount_0f7a4_3 : decode cJ6_bitCount_0f7a4 3 = .ok (.iushr, 1) := by decide +kernel
theorem dJ6_bitCount_0f7a4_4 : decode cJ6_bitCount_0f7a4 4 = .ok (.ldc_w 265, 3) := by decide +kernel
theorem dJ6_bitCount_0f7a4_7 : decode cJ6_bitCount_0f7a4 7 = .ok (.iand, 1) := by decide +kernel
theorem dJ6_bitCount_0f7a4_8 : decode cJ6_bitCount_0f7a4 8 = .ok (.isub, 1) := by decide +kernel
theorem dJ6_bitCount_0f7a4_9 : decode cJ6_bitCount_0f7a4 9 = .ok (.istore_n 0, 1) := by decide +kernel
theorem dJ6_bitCount_0f7a4_10 : decode cJ6_bitCount_0f7a4 10 = .ok (.iload_n 0, 1) := by decide +kernel
theorem dJ6_bitCount_0f7a4_11 : decode cJ6_bitCount_0f7a4 11 = .ok (.ldc_w 266, 3) := by decide +kernel
theorem dJ6_bitCount_0f7a4_14 : decode cJ6_bitCount_0f7a4 14 = .ok (.iand, 1) := by decide +kernel
theorem dJ6_bitCount_0f7a4_15 : decode cJ6_bitCount_0f7a4 15 = .ok (.iload_n 0, 1) := by decide +kernel
theorem dJ6_bitCount_0f7a4_16 : decode cJ6_bitCount_0f7a4 16 = .ok (.iconst 2, 1) := by decide +kernel
theorem dJ6_bitCount_0f7a4_17 : decode cJ6_bitCount_0f7a4 17 = .ok (.iushr, 1) := by decide +kernel
theorem dJ6_bitCount_0f7a4_18 : decode cJ6_bitCount_0f7a4 18 = .ok (.ldc_w 266, 3) := by decide +kernel
theorem dJ6_bitCount_0f7a4_21 : decode cJ6_bitCount_0f7a4 21 = .ok (.iand, 1) := by decide +kernel
theorem dJ6_bitCount_0f7a4_22 : decode cJ6_bitCount_0f7a4 22 = .ok (.iadd, 1) := by decide +kernel
theorem dJ6_bitCount_0f7a4_23 : decode cJ6_bitCount_0f7a4 23 = .ok (.istore_n 0, 1) := by decide +kernel
theorem dJ6_bitCount_0f7a4_24 : decode cJ6_bitCount_0f7a4 24 = .ok (.iload_n 0, 1) := by decide +kernel
theorem dJ6_bitCount_0f7a4_25 : decode cJ6_bitCount_0f7a4 25 = .ok (.iload_n 0, 1) := by decide +kernel
theorem dJ6_bitCount_0f7a4_26 : decode cJ6_bitCount_0f7a4 26 = .ok (.iconst 4, 1) := by decide +kernel
theorem dJ6_bitCount_0f7a4_27 : decode cJ6_bitCount_0f7a4 27 = .ok (.iushr, 1) := by decide +kernel
theorem dJ6_bitCount_0f7a4_28 : decode cJ6_bitCount_0f7a4 28 = .ok (.iadd, 1) := by decide +kernel
theorem dJ6_bitCount_0f7a4_29 : decode cJ6_bitCount_0f7a4 29 = .ok (.ldc_w 267, 3) := by decide +kernel
theorem dJ6_bitCount_0f7a4_32 : decode cJ6_bitCount_0f7a4 32 = .ok (.iand, 1) := by decide +kernel
theorem dJ6_bitCount_0f7a4_33 : decode cJ6_bitCount_0f7a4 33 = .ok (.istore_n 0, 1) := by decide +kernel
theorem dJ6_bitCount_0f7a4_34 : decode cJ6_bitCount_0f7a4 34 = .ok (.iload_n 0, 1) := by decide +kernel
theorem dJ6_bitCount_0f7a4_35 : decode cJ6_bitCount_0f7a4 35 = .ok (.iload_n 0, 1) := by decide +kernel
theorem dJ6_bitCount_0f7a4_36 : decode cJ6_bitCount_0f7a4 36 = .ok (.bipush 8, 2) := by decide +kernel
theorem dJ6_bitCount_0f7a4_38 : decode cJ6_bitCount_0f7a4 38 = .ok (.iushr, 1) := by decide +kernel
theorem dJ6_bitCount_0f7a4_39 : decode cJ6_bitCount_0f7a4 39 = .ok (.iadd, 1) := by decide +kernel
theorem dJ6_bitCount_0f7a4_40 : decode cJ6_bitCount_0f7a4 40 = .ok (.istore_n 0, 1) := by decide +kernel
theorem dJ6_bitCount_0f7a4_41 : decode cJ6_bitCount_0f7a4 41 = .ok (.iload_n 0, 1) := by decide +kernel
theorem dJ6_bitCount_0f7a4_42 : decode cJ6_bitCount_0f7a4 42 = .ok (.iload_n 0, 1) := by decide +kernel
theorem dJ6_bitCount_0f7a4_43 : decode cJ6_bitCount_0f7a4 43 = .ok (.bipush 16, 2) := by decide +kernel
theorem dJ6_bitCount_0f7a4_45 : decode cJ6_bitCount_0f7a4 45 = .ok (.iushr, 1) := by decide +kernel
theorem dJ6_bitCount_0f7a4_46 : decode cJ6_bitCount_0f7a4 46 = .ok (.iadd, 1) := by decide +kernel
theorem dJ6_bitCount_0f7a4_47 : decode cJ6_bitCount_0f7a4 47 = .ok (.istore_n 0, 1) := by decide +kernel
theorem dJ6_bitCount_0f7a4_48 : decode cJ6_bitCount_0f7a4 48 = .ok (.iload_n 0, 1) := by decide +kernel
theorem dJ6_bitCount_0f7a4_49 : decode cJ6_bitCount_0f7a4 49 = .ok (.bipush 63, 2) := by decide +kernel
theorem dJ6_bitCount_0f7a4_51 : decode cJ6_bitCount_0f7a4 51 = .ok (.iand, 1) := by decide +kernel
theorem dJ6_bitCount_0f7a4_52 : decode cJ6_bitCount_0f7a4 52 = .ok (.ireturn, 1) := by decide +kernel
set_option maxRecDepth 100000 in
set_option maxHeartbeats 4000000 in
theorem wp_J6_bitCount_0f7a4 {n0 d : Nat} {K : z_K} {I : z_I} {L : z_L} {Q : z_q} {p0 : Int32} (h : Q (some (.int ((((((((p0 - ((((p0 : Int32).toUInt32 >>> ((1 : Int32).toUInt32 &&& Int32.toUInt32 31)).toInt32) &&& 1431655765)) &&& 858993459) + (((((p0 - ((((p0 : Int32).toUInt32 >>> ((1 : Int32).toUInt32 &&& Int32.toUInt32 31)).toInt32) &&& 1431655765)) : Int32).toUInt32 >>> ((2 : Int32).toUInt32 &&& Int32.toUInt32 31)).toInt32) &&& 858993459)) + ((((((p0 - ((((p0 : Int32).toUInt32 >>> ((1 : Int32).toUInt32 &&& Int32.toUInt32 31)).toInt32) &&& 1431655765)) &&& 858993459) + (((((p0 - ((((p0 : Int32).toUInt32 >>> ((1 : Int32).toUInt32 &&& Int32.toUInt32 31)).toInt32) &&& 1431655765)) : Int32).toUInt32 >>> ((2 : Int32).toUInt32 &&& Int32.toUInt32 31)).toInt32) &&& 858993459)) : Int32).toUInt32 >>> ((4 : Int32).toUInt32 &&& Int32.toUInt32 31)).toInt32)) &&& 252645135) + ((((((((p0 - ((((p0 : Int32).toUInt32 >>> ((1 : Int32).toUInt32 &&& Int32.toUInt32 31)).toInt32) &&& 1431655765)) &&& 858993459) + (((((p0 - ((((p0 : Int32).toUInt32 >>> ((1 : Int32).toUInt32 &&& Int32.toUInt32 31)).toInt32) &&& 1431655765)) : Int32).toUInt32 >>> ((2 : Int32).toUInt32 &&& Int32.toUInt32 31)).toInt32) &&& 858993459)) + ((((((p0 - ((((p0 : Int32).toUInt32 >>> ((1 : Int32).toUInt32 &&& Int32.toUInt32 31)).toInt32) &&& 1431655765)) &&& 858993459) + (((((p0 - ((((p0 : Int32).toUInt32 >>> ((1 : Int32).toUInt32 &&& Int32.toUInt32 31)).toInt32) &&& 1431655765)) : Int32).toUInt32 >>> ((2 : Int32).toUInt32 &&& Int32.toUInt32 31)).toInt32) &&& 858993459)) : Int32).toUInt32 >>> ((4 : Int32).toUInt32 &&& Int32.toUInt32 31)).toInt32)) &&& 252645135) : Int32).toUInt32 >>> ((8 : Int32).toUInt32 &&& Int32.toUInt32 31)).toInt32)) + (((((((((p0 - ((((p0 : Int32).toUInt32 >>> ((1 : Int32).toUInt32 &&& Int32.toUInt32 31)).toInt32) &&& 1431655765)) &&& 858993459) + (((((p0 - ((((p0 : Int32).toUInt32 >>> ((1 : Int32).toUInt32 &&& Int32.toUInt32 31)).toInt32) &&& 1431655765)) : Int32).toUInt32 >>> ((2 : Int32).toUInt32 &&& Int32.toUInt32 31)).toInt32) &&& 858993459)) + ((((((p0 - ((((p0 : Int32).toUInt32 >>> ((1 : Int32).toUInt32 &&& Int32.toUInt32 31)).toInt32) &&& 1431655765)) &&& 858993459) + (((((p0 - ((((p0 : Int32).toUInt32 >>> ((1 : Int32).toUInt32 &&& Int32.toUInt32 31)).toInt32) &&& 1431655765)) : Int32).toUInt32 >>> ((2 : Int32).toUInt32 &&& Int32.toUInt32 31)).toInt32) &&& 858993459)) : Int32).toUInt32 >>> ((4 : Int32).toUInt32 &&& Int32.toUInt32 31)).toInt32)) &&& 252645135) + ((((((((p0 - ((((p0 : Int32).toUInt32 >>> ((1 : Int32).toUInt32 &&& Int32.toUInt32 31)).toInt32) &&& 1431655765)) &&& 858993459) + (((((p0 - ((((p0 : Int32).toUInt32 >>> ((1 : Int32).toUInt32 &&& Int32.toUInt32 31)).toInt32) &&& 1431655765)) : Int32).toUInt32 >>> ((2 : Int32).toUInt32 &&& Int32.toUInt32 31)).toInt32) &&& 858993459)) + ((((((p0 - ((((p0 : Int32).toUInt32 >>> ((1 : Int32).toUInt32 &&& Int32.toUInt32 31)).toInt32) &&& 1431655765)) &&& 858993459) + (((((p0 - ((((p0 : Int32).toUInt32 >>> ((1 : Int32).toUInt32 &&& Int32.toUInt32 31)).toInt32) &&& 1431655765)) : Int32).toUInt32 >>> ((2 : Int32).toUInt32 &&& Int32.toUInt32 31)).toInt32) &&& 858993459)) : Int32).toUInt32 >>> ((4 : Int32).toUInt32 &&& Int32.toUInt32 31)).toInt32)) &&& 252645135) : Int32).toUInt32 >>> ((8 : Int32).toUInt32 &&& Int32.toUInt32 31)).toInt32)) : Int32).toUInt32 >>> ((16 : Int32).toUInt32 &&& Int32.toUInt32 31)).toInt32)) &&& 63))) I L) : RM0 n0 xJ6_bitCount_0f7a4 d [.int p0] K I L Q := by
  refine z_entry0 (by decide) (Nat.le_of_ble_eq_true rfl) ?_
  change Z n0 xJ6_bitCount_0f7a4 d 0 0 0 [(0, .int p0)] [] K I L (z_q0 K Q)
  refine z_iload_n 0 dJ6_bitCount_0f7a4_0 rfl ?_
  refine z_iload_n 0 dJ6_bitCount_0f7a4_1 rfl ?_
  refine z_iconst 1 dJ6_bitCount_0f7a4_2 (by decide) ?_
  refine z_iushr dJ6_bitCount_0f7a4_3 ?_
  refine z_ldc_w 1431655765 dJ6_bitCount_0f7a4_4 wg_1125 ?_
  refine z_iand dJ6_bitCount_0f7a4_7 ?_
  refine z_isub dJ6_bitCount_0f7a4_8 ?_
  refine z_istore_n [0] [(0, .int (p0 - ((((p0 : Int32).toUInt32 >>> ((1 : Int32).toUInt32 &&& Int32.toUInt32 31)).toInt32) &&& 1431655765)))] dJ6_bitCount_0f7a4_9 (by decide) rfl ?_
  refine z_iload_n 0 dJ6_bitCount_0f7a4_10 rfl ?_
  refine z_ldc_w 858993459 dJ6_bitCount_0f7a4_11 wg_1126 ?_
  refine z_iand dJ6_bitCount_0f7a4_14 ?_
  refine z_iload_n 0 dJ6_bitCount_0f7a4_15 rfl ?_
  refine z_iconst 2 dJ6_bitCount_0f7a4_16 (by decide) ?_
  refine z_iushr dJ6_bitCount_0f7a4_17 ?_
  refine z_ldc_w 858993459 dJ6_bitCount_0f7a4_18 wg_1126 ?_
  refine z_iand dJ6_bitCount_0f7a4_21 ?_
  refine z_iadd dJ6_bitCount_0f7a4_22 ?_
  refine z_istore_n [0] [(0, .int (((p0 - ((((p0 : Int32).toUInt32 >>> ((1 : Int32).toUInt32 &&& Int32.toUInt32 31)).toInt32) &&& 1431655765)) &&& 858993459) + (((((p0 - ((((p0 : Int32).toUInt32 >>> ((1 : Int32).toUInt32 &&& Int32.toUInt32 31)).toInt32) &&& 1431655765)) : Int32).toUInt32 >>> ((2 : Int32).toUInt32 &&& Int32.toUInt32 31)).toInt32) &&& 858993459)))] dJ6_bitCount_0f7a4_23 (by decide) rfl ?_
  refine z_iload_n 0 dJ6_bitCount_0f7a4_24 rfl ?_
  refine z_iload_n 0 dJ6_bitCount_0f7a4_25 rfl ?_
  refine z_iconst 4 dJ6_bitCount_0f7a4_26 (by decide) ?_
  refine z_iushr dJ6_bitCount_0f7a4_27 ?_
  refine z_iadd dJ6_bitCount_0f7a4_28 ?_
  refine z_ldc_w 252645135 dJ6_bitCount_0f7a4_29 wg_1127 ?_
  refine z_iand dJ6_bitCount_0f7a4_32 ?_
  refine z_istore_n [0] [(0, .int (((((p0 - ((((p0 : Int32).toUInt32 >>> ((1 : Int32).toUInt32 &&& Int32.toUInt32 31)).toInt32) &&& 1431655765)) &&& 858993459) + (((((p0 - ((((p0 : Int32).toUInt32 >>> ((1 : Int32).toUInt32 &&& Int32.toUInt32 31)).toInt32) &&& 1431655765)) : Int32).toUInt32 >>> ((2 : Int32).toUInt32 &&& Int32.toUInt32 31)).toInt32) &&& 858993459)) + ((((((p0 - ((((p0 : Int32).toUInt32 >>> ((1 : Int32).toUInt32 &&& Int32.toUInt32 31)).toInt32) &&& 1431655765)) &&& 858993459) + (((((p0 - ((((p0 : Int32).toUInt32 >>> ((1 : Int32).toUInt32 &&& Int32.toUInt32 31)).toInt32) &&& 1431655765)) : Int32).toUInt32 >>> ((2 : Int32).toUInt32 &&& Int32.toUInt32 31)).toInt32) &&& 858993459)) : Int32).toUInt32 >>> ((4 : Int32).toUInt32 &&& Int32.toUInt32 31)).toInt32)) &&& 252645135))] dJ6_bitCount_0f7a4_33 (by decide) rfl ?_
  refine z_iload_n 0 dJ6_bitCount_0f7a4_34 rfl ?_
  refine z_iload_n 0 dJ6_bitCount_0f7a4_35 rfl ?_
  refine z_bipush 8 dJ6_bitCount_0f7a4_36 (by decide) ?_
  refine z_iushr dJ6_bitCount_0f7a4_38 ?_
  refine z_iadd dJ6_bitCount_0f7a4_39 ?_
  refine z_istore_n [0] [(0, .int ((((((p0 - ((((p0 : Int32).toUInt32 >>> ((1 : Int32).toUInt32 &&& Int32.toUInt32 31)).toInt32) &&& 1431655765)) &&& 858993459) + (((((p0 - ((((p0 : Int32).toUInt32 >>> ((1 : Int32).toUInt32 &&& Int32.toUInt32 31)).toInt32) &&& 1431655765)) : Int32).toUInt32 >>> ((2 : Int32).toUInt32 &&& Int32.toUInt32 31)).toInt32) &&& 858993459)) + ((((((p0 - ((((p0 : Int32).toUInt32 >>> ((1 : Int32).toUInt32 &&& Int32.toUInt32 31)).toInt32) &&& 1431655765)) &&& 858993459) + (((((p0 - ((((p0 : Int32).toUInt32 >>> ((1 : Int32).toUInt32 &&& Int32.toUInt32 31)).toInt32) &&& 1431655765)) : Int32).toUInt32 >>> ((2 : Int32).toUInt32 &&& Int32.toUInt32 31)).toInt32) &&& 858993459)) : Int32).toUInt32 >>> ((4 : Int32).toUInt32 &&& Int32.toUInt32 31)).toInt32)) &&& 252645135) + ((((((((p0 - ((((p0 : Int32).toUInt32 >>> ((1 : Int32).toUInt32 &&& Int32.toUInt32 31)).toInt32) &&& 1431655765)) &&& 858993459) + (((((p0 - ((((p0 : Int32).toUInt32 >>> ((1 : Int32).toUInt32 &&& Int32.toUInt32 31)).toInt32) &&& 1431655765)) : Int32).toUInt32 >>> ((2 : Int32).toUInt32 &&& Int32.toUInt32 31)).toInt32) &&& 858993459)) + ((((((p0 - ((((p0 : Int32).toUInt32 >>> ((1 : Int32).toUInt32 &&& Int32.toUInt32 31)).toInt32) &&& 1431655765)) &&& 858993459) + (((((p0 - ((((p0 : Int32).toUInt32 >>> ((1 : Int32).toUInt32 &&& Int32.toUInt32 31)).toInt32) &&& 1431655765)) : Int32).toUInt32 >>> ((2 : Int32).toUInt32 &&& Int32.toUInt32 31)).toInt32) &&& 858993459)) : Int32).toUInt32 >>> ((4 : Int32).toUInt32 &&& Int32.toUInt32 31)).toInt32)) &&& 252645135) : Int32).toUInt32 >>> ((8 : Int32).toUInt32 &&& Int32.toUInt32 31)).toInt32)))] dJ6_bitCount_0f7a4_40 (by decide) rfl ?_
  refine z_iload_n 0 dJ6_bitCount_0f7a4_41 rfl ?_
  refine z_iload_n 0 dJ6_bitCount_0f7a4_42 rfl ?_
  refine z_bipush 16 dJ6_bitCount_0f7a4_43 (by decide) ?_
  refine z_iushr dJ6_bitCount_0f7a4_45 ?_
  refine z_iadd dJ6_bitCount_0f7a4_46 ?_
  refine z_istore_n [0] [(0, .int (((((((p0 - ((((p0 : Int32).toUInt32 >>> ((1 : Int32).toUInt32 &&& Int32.toUInt32 31)).toInt32) &&& 1431655765)) &&& 858993459) + (((((p0 - ((((p0 : Int32).toUInt32 >>> ((1 : Int32).toUInt32 &&& Int32.toUInt32 31)).toInt32) &&& 1431655765)) : Int32).toUInt32 >>> ((2 : Int32).toUInt32 &&& Int32.toUInt32 31)).toInt32) &&& 858993459)) + ((((((p0 - ((((p0 : Int32).toUInt32 >>> ((1 : Int32).toUInt32 &&& Int32.toUInt32 31)).toInt32) &&& 1431655765)) &&& 858993459) + (((((p0 - ((((p0 : Int32).toUInt32 >>> ((1 : Int32).toUInt32 &&& Int32.toUInt32 31)).toInt32) &&& 1431655765)) : Int32).toUInt32 >>> ((2 : Int32).toUInt32 &&& Int32.toUInt32 31)).toInt32) &&& 858993459)) : Int32).toUInt32 >>> ((4 : Int32).toUInt32 &&& Int32.toUInt32 31)).toInt32)) &&& 252645135) + ((((((((p0 - ((((p0 : Int32).toUInt32 >>> ((1 : Int32).toUInt32 &&& Int32.toUInt32 31)).toInt32) &&& 1431655765)) &&& 858993459) + (((((p0 - ((((p0 : Int32).toUInt32 >>> ((1 : Int32).toUInt32 &&& Int32.toUInt32 31)).toInt32) &&& 1431655765)) : Int32).toUInt32 >>> ((2 : Int32).toUInt32 &&& Int32.toUInt32 31)).toInt32) &&& 858993459)) + ((((((p0 - ((((p0 : Int32).toUInt32 >>> ((1 : Int32).toUInt32 &&& Int32.toUInt32 31)).toInt32) &&& 1431655765)) &&& 858993459) + (((((p0 - ((((p0 : Int32).toUInt32 >>> ((1 : Int32).toUInt32 &&& Int32.toUInt32 31)).toInt32) &&& 1431655765)) : Int32).toUInt32 >>> ((2 : Int32).toUInt32 &&& Int32.toUInt32 31)).toInt32) &&& 858993459)) : Int32).toUInt32 >>> ((4 : Int32).toUInt32 &&& Int32.toUInt32 31)).toInt32)) &&& 252645135) : Int32).toUInt32 >>> ((8 : Int32).toUInt32 &&& Int32.toUInt32 31)).toInt32)) + (((((((((p0 - ((((p0 : Int32).toUInt32 >>> ((1 : Int32).toUInt32 &&& Int32.toUInt32 31)).toInt32) &&& 1431655765)) &&& 858993459) + (((((p0 - ((((p0 : Int32).toUInt32 >>> ((1 : Int32).toUInt32 &&& Int32.toUInt32 31)).toInt32) &&& 1431655765)) : Int32).toUInt32 >>> ((2 : Int32).toUInt32 &&& Int32.toUInt32 31)).toInt32) &&& 858993459)) + ((((((p0 - ((((p0 : Int32).toUInt32 >>> ((1 : Int32).toUInt32 &&& Int32.toUInt32 31)).toInt32) &&& 1431655765)) &&& 858993459) + (((((p0 - ((((p0 : Int32).toUInt32 >>> ((1 : Int32).toUInt32 &&& Int32.toUInt32 31)).toInt32) &&& 1431655765)) : Int32).toUInt32 >>> ((2 : Int32).toUInt32 &&& Int32.toUInt32 31)).toInt32) &&& 858993459)) : Int32).toUInt32 >>> ((4 : Int32).toUInt32 &&& Int32.toUInt32 31)).toInt32)) &&& 252645135) + ((((((((p0 - ((((p0 : Int32).toUInt32 >>> ((1 : Int32).toUInt32 &&& Int32.toUInt32 31)).toInt32) &&& 1431655765)) &&& 858993459) + (((((p0 - ((((p0 : Int32).toUInt32 >>> ((1 : Int32).toUInt32 &&& Int32.toUInt32 31)).toInt32) &&& 1431655765)) : Int32).toUInt32 >>> ((2 : Int32).toUInt32 &&& Int32.toUInt32 31)).toInt32) &&& 858993459)) + ((((((p0 - ((((p0 : Int32).toUInt32 >>> ((1 : Int32).toUInt32 &&& Int32.toUInt32 31)).toInt32) &&& 1431655765)) &&& 858993459) + (((((p0 - ((((p0 : Int32).toUInt32 >>> ((1 : Int32).toUInt32 &&& Int32.toUInt32 31)).toInt32) &&& 1431655765)) : Int32).toUInt32 >>> ((2 : Int32).toUInt32 &&& Int32.toUInt32 31)).toInt32) &&& 858993459)) : Int32).toUInt32 >>> ((4 : Int32).toUInt32 &&& Int32.toUInt32 31)).toInt32)) &&& 252645135) : Int32).toUInt32 >>> ((8 : Int32).toUInt32 &&& Int32.toUInt32 31)).toInt32)) : Int32).toUInt32 >>> ((16 : Int32).toUInt32 &&& Int32.toUInt32 31)).toInt32)))] dJ6_bitCount_0f7a4_47 (by decide) rfl ?_
  refine z_iload_n 0 dJ6_bitCount_0f7a4_48 rfl ?_
  refine z_bipush 63 dJ6_bitCount_0f7a4_49 (by decide) ?_
  refine z_iand dJ6_bitCount_0f7a4_51 ?_
  exact z_iret dJ6_bitCount_0f7a4_52 rfl ⟨rfl, h⟩
theorem dJ7_fill_53178_0 : decode cJ7_fill_53178 0 = .ok (.iconst 0, 1) := by decide +kernel
theorem dJ7_fill_53178_1 : decode cJ7_fill_53178 1 = .ok (.istore_n 2, 1) := by decide +kernel
theorem dJ7_fill_53178_2 : decode cJ7_fill_53178 2 = .ok (.aload_n 0, 1) := by decide +kernel
theorem dJ7_fill_53178_3 : decode cJ7_fill_53178 3 = .ok (.arraylength, 1) := by decide +kernel
theorem dJ7_fill_53178_4 : decode cJ7_fill_53178 4 = .ok (.istore_n 3, 1) := by decide +kernel
theorem dJ7_fill_53178_5 : decode cJ7_fill_53178 5 = .ok (.iload_n 2, 1) := by decide +kernel
theorem dJ7_fill_53178_6 : decode cJ7_fill_53178 6 = .ok (.iload_n 3, 1) := by decide +kernel
theorem dJ7_fill_53178_7 : decode cJ7_fill_53178 7 = .ok (.if_icmp .ge 13, 3) := by decide +kernel
theorem dJ7_fill_53178_10 : decode cJ7_fill_53178 10 = .ok (.aload_n 0, 1) := by decide +kernel
theorem dJ7_fill_53178_11 : decode cJ7_fill_53178 11 = .ok (.iload_n 2, 1) := by decide +kernel
theorem dJ7_fill_53178_12 : decode cJ7_fill_53178 12 = .ok (.iload_n 1, 1) := by decide +kernel
theorem dJ7_fill_53178_13 : decode cJ7_fill_53178 13 = .ok (.iastore, 1) := by decide +kernel
theorem dJ7_fill_53178_14 : decode cJ7_fill_53178 14 = .ok (.iinc 2 1, 3) := by decide +kernel
theorem dJ7_fill_53178_17 : decode cJ7_fill_53178 17 = .ok (.goto (-12), 3) := by decide +kernel
theorem dJ7_fill_53178_20 : decode cJ7_fill_53178 20 = .ok (.return_, 1) := by decide +kernel
set_option maxRecDepth 100000 in
set_option maxHeartbeats 4000000 in
theorem wp_J7_fill_53178 {n0 d : Nat} {K : z_K} {I : z_I} {L : z_L} {Q : z_q} {p0 : Nat} {p1 : Int32} (h : ∃ n1, p0 < K.1 ∧ K.2.1 p0 = (20, n1) ∧ Z n0 xJ7_fill_53178 d 0 0 5 [(0, .ref (n0 + p0)), (1, .int p1), (2, .int 0), (3, .int (Int32.ofNat n1))] [] K I L (z_q0 K Q)) : RM0 n0 xJ7_fill_53178 d [.ref (n0 + p0), .int p1] K I L Q := by
  refine z_entry0 (by decide) (Nat.le_of_ble_eq_true rfl) ?_
  change Z n0 xJ7_fill_53178 d 0 0 0 [(0, .ref (n0 + p0)), (1, .int p1)] [] K I L (z_q0 K Q)
  refine z_iconst 0 dJ7_fill_53178_0 (by decide) ?_
  refine z_istore_n [1, 2, 0] [(0, .ref (n0 + p0)), (1, .int p1), (2, .int 0)] dJ7_fill_53178_1 (by decide) rfl ?_
  refine z_aload_n 0 dJ7_fill_53178_2 rfl ?_
  obtain ⟨n1, o2, o3, h⟩ := h
  refine z_alen (t := 0) (Int32.ofNat n1) dJ7_fill_53178_3 o2 o3 rfl ?_
  refine z_istore_n [1, 2, 3, 0] [(0, .ref (n0 + p0)), (1, .int p1), (2, .int 0), (3, .int (Int32.ofNat n1))] dJ7_fill_53178_4 (by decide) rfl ?_
  exact h
set_option maxRecDepth 100000 in
set_option maxHeartbeats 4000000 in
theorem wp_J7_fill_53178_5 {n0 d : Nat} {rc rs : Nat} {K : z_K} {I : z_I} {L : z_L} {Q : z_q} {a0 : Nat} {a1 : Int32} {a2 : Int32} {a3 : Int32} (h : (if a2 < a3 then ∃ n2, a0 < K.1 ∧ K.2.1 a0 = (20, n2) ∧ vp_in a2 n2 ∧ Z n0 xJ7_fill_53178 d rc rs 5 [(0, .ref (n0 + a0)), (1, .int a1), (2, .int (a2 + 1)), (3, .int a3)] [] K (zI I a0 a2.toNatClampNeg a1) L (z_q0 K Q) else Q none I L)) : Z n0 xJ7_fill_53178 d rc rs 5 [(0, .ref (n0 + a0)), (1, .int a1), (2, .int a2), (3, .int a3)] [] K I L (z_q0 K Q) := by
  refine z_iload_n 2 dJ7_fill_53178_5 rfl ?_
  refine z_iload_n 3 dJ7_fill_53178_6 rfl ?_
  refine z_icmp_ge 20 dJ7_fill_53178_7 (by decide) (fun g1 => ?_) (fun g1 => ?_)
  · rw [if_neg g1] at h
    exact z_vret dJ7_fill_53178_20 rfl ⟨rfl, h⟩
  · rw [if_pos g1] at h
    refine z_aload_n 0 dJ7_fill_53178_10 rfl ?_
    refine z_iload_n 2 dJ7_fill_53178_11 rfl ?_
    refine z_iload_n 1 dJ7_fill_53178_12 rfl ?_
    obtain ⟨n2, o3, o4, o5, h⟩ := h
    refine z_iast dJ7_fill_53178_13 o3 o4 o5 ?_
    refine z_iinc (j := 2) (a2 + 1) [1, 2, 0, 3] [(0, .ref (n0 + a0)), (1, .int a1), (2, .int (a2 + 1)), (3, .int a3)] dJ7_fill_53178_14 rfl rfl (by decide) rfl ?_
    refine z_goto 5 dJ7_fill_53178_17 (by decide) ?_
    exact h
